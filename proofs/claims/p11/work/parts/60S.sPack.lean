/-! collections of groups of which no two have two people together -/
def apA (ap : Int32 → Int32 → Bool) (A : List Int32) (h : Int32) : Bool := A.all (fun x => ap x h)
theorem apA_y {ap : Int32 → Int32 → Bool} {A : List Int32} {h : Int32} : apA ap A h = true ↔ ∀ x ∈ A, ap x h = true := List.all_eq_true
theorem apA_n {ap : Int32 → Int32 → Bool} {A : List Int32} {h : Int32} (q : ¬ apA ap A h = true) : ∃ x ∈ A, ap x h = false := by
  obtain ⟨x, h1, h2⟩ := List.all_eq_false.mp (Bool.eq_false_iff.mpr q)
  exact ⟨x, h1, Bool.eq_false_iff.mpr h2⟩
def seek (ap : Int32 → Int32 → Bool) (L : List Int32) : List Int32 → List Int32 → Int × Int → Int × Int
  | [], A, z => if L.all (fun h => !(apA ap A h)) = true then (if z.1 < (A.length : Int) then (A.length : Int) else z.1, if z.2 = -1 then (A.length : Int) else if z.2 ≤ (A.length : Int) then z.2 else (A.length : Int)) else z
  | g :: R, A, z => seek ap L R A (if apA ap A g = true then seek ap L R (A ++ [g]) z else z)
theorem seek_nil {ap : Int32 → Int32 → Bool} {L A : List Int32} {z : Int × Int} : seek ap L [] A z = if L.all (fun h => !(apA ap A h)) = true then (if z.1 < (A.length : Int) then (A.length : Int) else z.1, if z.2 = -1 then (A.length : Int) else if z.2 ≤ (A.length : Int) then z.2 else (A.length : Int)) else z := rfl
theorem seek_cons {ap : Int32 → Int32 → Bool} {L R A : List Int32} {g : Int32} {z : Int × Int} : seek ap L (g :: R) A z = seek ap L R A (if apA ap A g = true then seek ap L R (A ++ [g]) z else z) := rfl
def Pk (ap : Int32 → Int32 → Bool) (L : List Int32) (P : Int32 → Bool) : Prop := ∀ x ∈ L, ∀ y ∈ L, P x = true → P y = true → x ≠ y → ap x y = true
def MX (ap : Int32 → Int32 → Bool) (L : List Int32) (P : Int32 → Bool) : Prop := Pk ap L P ∧ ∀ h ∈ L, ∃ x ∈ L, P x = true ∧ ap x h = false
def sz (L : List Int32) (P : Int32 → Bool) : Nat := (L.filter P).length
def adP (P : Int32 → Bool) (g : Int32) (x : Int32) : Bool := if x = g then true else P x
def rmP (P : Int32 → Bool) (g : Int32) (x : Int32) : Bool := if x = g then false else P x
theorem adP_y (P : Int32 → Bool) (g : Int32) : adP P g g = true := if_pos rfl
theorem adP_n {P : Int32 → Bool} {g x : Int32} (h : x ≠ g) : adP P g x = P x := if_neg h
theorem rmP_n {P : Int32 → Bool} {g x : Int32} (h : x ≠ g) : rmP P g x = P x := if_neg h
theorem rmP_y (P : Int32 → Bool) (g : Int32) : rmP P g g = false := if_pos rfl
theorem adP_or {P : Int32 → Bool} {g x : Int32} (h : adP P g x = true) : x = g ∨ P x = true := by
  by_cases c : x = g
  · exact Or.inl c
  · rw [adP_n c] at h
    exact Or.inr h
theorem adP_of {P : Int32 → Bool} {g x : Int32} (h : P x = true) : adP P g x = true := by
  by_cases c : x = g
  · rw [c]
    exact adP_y P g
  · rw [adP_n c]
    exact h
theorem fil_not {L : List Int32} {P Q : Int32 → Bool} (h : ∀ x ∈ L, P x = Q x) : L.filter P = L.filter Q := List.filter_congr h
theorem sz_mono {P Q : Int32 → Bool} : ∀ L : List Int32, (∀ x ∈ L, P x = true → Q x = true) → sz L P ≤ sz L Q
  | [], _ => Nat.le_refl _
  | g :: L, h => by
    have ih := sz_mono L (fun x hx => h x (List.mem_cons_of_mem _ hx))
    unfold sz at ih ⊢
    by_cases c : P g = true
    · rw [List.filter_cons_of_pos c, List.filter_cons_of_pos (h g (List.mem_cons_self) c), List.length_cons, List.length_cons]
      omega
    · rw [List.filter_cons_of_neg c]
      by_cases d : Q g = true
      · rw [List.filter_cons_of_pos d, List.length_cons]
        omega
      · rw [List.filter_cons_of_neg d]
        exact ih
theorem sz_add {P : Int32 → Bool} {h : Int32} : ∀ L : List Int32, L.Nodup → h ∈ L → P h = false → sz L (adP P h) = sz L P + 1
  | [], _, hm, _ => by cases hm
  | g :: L, hn, hm, hp => by
    obtain ⟨n1, n2⟩ := List.nodup_cons.mp hn
    unfold sz
    by_cases c : g = h
    · have e : L.filter (adP P h) = L.filter P := fil_not (fun x hx => adP_n (fun z => n1 (by rw [c, ← z]; exact hx)))
      rw [List.filter_cons_of_pos (by rw [c]; exact adP_y P h), List.filter_cons_of_neg (by rw [c, hp]; exact fun z => by cases z), List.length_cons, e]
    · have hm2 : h ∈ L := by
        rcases List.mem_cons.mp hm with z | z
        · exact absurd z.symm c
        · exact z
      have ih := sz_add L n2 hm2 hp
      unfold sz at ih
      by_cases d : P g = true
      · rw [List.filter_cons_of_pos d, List.filter_cons_of_pos (by rw [adP_n c]; exact d), List.length_cons, List.length_cons, ih]
      · rw [List.filter_cons_of_neg d, List.filter_cons_of_neg (by rw [adP_n c]; exact d), ih]
theorem seek_m {ap : Int32 → Int32 → Bool} {L : List Int32} : ∀ (R A : List Int32) (z : Int × Int), z.1 ≤ (seek ap L R A z).1 ∧ ∀ k : Int, (¬ z.2 = -1 ∧ z.2 ≤ k) → (¬ (seek ap L R A z).2 = -1 ∧ (seek ap L R A z).2 ≤ k)
  | [], A, z => by
    rw [seek_nil]
    by_cases c : L.all (fun h => !(apA ap A h)) = true
    · rw [if_pos c]
      refine ⟨?_, fun k hk => ?_⟩
      · show z.1 ≤ if z.1 < (A.length : Int) then (A.length : Int) else z.1
        split <;> omega
      · show ¬ (if z.2 = -1 then (A.length : Int) else if z.2 ≤ (A.length : Int) then z.2 else (A.length : Int)) = -1 ∧ (if z.2 = -1 then (A.length : Int) else if z.2 ≤ (A.length : Int) then z.2 else (A.length : Int)) ≤ k
        rw [if_neg hk.1]
        split <;> omega
    · rw [if_neg c]
      exact ⟨Int.le_refl _, fun k hk => hk⟩
  | g :: R, A, z => by
    rw [seek_cons]
    by_cases c : apA ap A g = true
    · rw [if_pos c]
      have i1 := seek_m (ap := ap) (L := L) R (A ++ [g]) z
      have i2 := seek_m (ap := ap) (L := L) R A (seek ap L R (A ++ [g]) z)
      exact ⟨Int.le_trans i1.1 i2.1, fun k hk => i2.2 k (i1.2 k hk)⟩
    · rw [if_neg c]
      exact seek_m R A z
theorem nodup_mid {pre R : List Int32} {g x : Int32} (h : (pre ++ g :: R).Nodup) (hx : x ∈ pre) : x ≠ g := fun e => (List.nodup_append.mp h).2.2 x hx g (List.mem_cons_self) e
theorem seek_c {ap : Int32 → Int32 → Bool} {L : List Int32} {P : Int32 → Bool} (hn : L.Nodup) (hP : MX ap L P) : ∀ (R A pre : List Int32) (z : Int × Int), L = pre ++ R → A = pre.filter P → ((sz L P : Int) ≤ (seek ap L R A z).1 ∧ ¬ (seek ap L R A z).2 = -1 ∧ (seek ap L R A z).2 ≤ (sz L P : Int))
  | [], A, pre, z, hL, hA => by
    rw [List.append_nil] at hL
    have hl : A.length = sz L P := by rw [hA, ← hL]; rfl
    have c : L.all (fun h => !(apA ap A h)) = true := List.all_eq_true.mpr (fun h hh => by
      obtain ⟨x, h1, h2, h3⟩ := hP.2 h hh
      have hx : x ∈ A := by rw [hA, ← hL]; exact List.mem_filter.mpr ⟨h1, h2⟩
      have : ¬ apA ap A h = true := fun q => by rw [apA_y.mp q x hx] at h3; cases h3
      rw [Bool.eq_false_iff.mpr this]
      rfl)
    rw [seek_nil]
    rw [if_pos c]
    refine ⟨?_, ?_, ?_⟩
    · show (sz L P : Int) ≤ if z.1 < (A.length : Int) then (A.length : Int) else z.1
      split <;> omega
    · show ¬ (if z.2 = -1 then (A.length : Int) else if z.2 ≤ (A.length : Int) then z.2 else (A.length : Int)) = -1
      split
      · omega
      · split <;> omega
    · show (if z.2 = -1 then (A.length : Int) else if z.2 ≤ (A.length : Int) then z.2 else (A.length : Int)) ≤ (sz L P : Int)
      split
      · omega
      · split <;> omega
  | g :: R, A, pre, z, hL, hA => by
    have hn2 : (pre ++ g :: R).Nodup := by rw [← hL]; exact hn
    have hL2 : L = (pre ++ [g]) ++ R := by rw [List.append_assoc]; exact hL
    have gL : g ∈ L := by rw [hL]; exact List.mem_append_right _ (List.mem_cons_self)
    rw [seek_cons]
    by_cases c : P g = true
    · have ca : apA ap A g = true := apA_y.mpr (fun x hx => by
        rw [hA] at hx
        obtain ⟨h1, h2⟩ := List.mem_filter.mp hx
        exact hP.1 x (by rw [hL]; exact List.mem_append_left _ h1) g gL h2 c (nodup_mid hn2 h1))
      rw [if_pos ca]
      have i1 := seek_c hn hP R (A ++ [g]) (pre ++ [g]) z hL2 (by rw [hA, List.filter_append, List.filter_cons_of_pos c, List.filter_nil])
      have i2 := seek_m (ap := ap) (L := L) R A (seek ap L R (A ++ [g]) z)
      exact ⟨Int.le_trans i1.1 i2.1, i2.2 _ i1.2⟩
    · exact seek_c hn hP R A (pre ++ [g]) _ hL2 (by rw [hA, List.filter_append, List.filter_cons_of_neg c, List.filter_nil, List.append_nil])
theorem seek_s {ap : Int32 → Int32 → Bool} {L : List Int32} (hn : L.Nodup) (hs : ∀ x y, ap x y = ap y x) : ∀ (R A pre : List Int32) (z : Int × Int) (Q : Int32 → Bool), L = pre ++ R → A = pre.filter Q → Pk ap pre Q → ((seek ap L R A z).1 = z.1 ∨ ∃ P, MX ap L P ∧ (seek ap L R A z).1 = (sz L P : Int)) ∧ ((seek ap L R A z).2 = z.2 ∨ ∃ P, MX ap L P ∧ (seek ap L R A z).2 = (sz L P : Int))
  | [], A, pre, z, Q, hL, hA, hQ => by
    rw [List.append_nil] at hL
    have hl : A.length = sz L Q := by rw [hA, ← hL]; rfl
    rw [seek_nil]
    by_cases c : L.all (fun h => !(apA ap A h)) = true
    · have hM : MX ap L Q := ⟨by rw [hL]; exact hQ, fun h hh => by
        have q := List.all_eq_true.mp c h hh
        have q2 : ¬ apA ap A h = true := fun e => by rw [e] at q; cases q
        obtain ⟨x, h1, h2⟩ := apA_n q2
        rw [hA, ← hL] at h1
        exact ⟨x, (List.mem_filter.mp h1).1, (List.mem_filter.mp h1).2, h2⟩⟩
      rw [if_pos c]
      refine ⟨?_, ?_⟩
      · show (if z.1 < (A.length : Int) then (A.length : Int) else z.1) = z.1 ∨ ∃ P, MX ap L P ∧ (if z.1 < (A.length : Int) then (A.length : Int) else z.1) = (sz L P : Int)
        by_cases d : z.1 < (A.length : Int)
        · rw [if_pos d]
          exact Or.inr ⟨Q, hM, by rw [hl]⟩
        · rw [if_neg d]
          exact Or.inl rfl
      · show (if z.2 = -1 then (A.length : Int) else if z.2 ≤ (A.length : Int) then z.2 else (A.length : Int)) = z.2 ∨ ∃ P, MX ap L P ∧ (if z.2 = -1 then (A.length : Int) else if z.2 ≤ (A.length : Int) then z.2 else (A.length : Int)) = (sz L P : Int)
        by_cases d : z.2 = -1
        · rw [if_pos d]
          exact Or.inr ⟨Q, hM, by rw [hl]⟩
        · rw [if_neg d]
          by_cases e : z.2 ≤ (A.length : Int)
          · rw [if_pos e]
            exact Or.inl rfl
          · rw [if_neg e]
            exact Or.inr ⟨Q, hM, by rw [hl]⟩
    · rw [if_neg c]
      exact ⟨Or.inl rfl, Or.inl rfl⟩
  | g :: R, A, pre, z, Q, hL, hA, hQ => by
    have hn2 : (pre ++ g :: R).Nodup := by rw [← hL]; exact hn
    have hL2 : L = (pre ++ [g]) ++ R := by rw [List.append_assoc]; exact hL
    have out : ∀ z1, ((seek ap L R A z1).1 = z1.1 ∨ ∃ P, MX ap L P ∧ (seek ap L R A z1).1 = (sz L P : Int)) ∧ ((seek ap L R A z1).2 = z1.2 ∨ ∃ P, MX ap L P ∧ (seek ap L R A z1).2 = (sz L P : Int)) := fun z1 => seek_s hn hs R A (pre ++ [g]) z1 (rmP Q g) hL2
      (by rw [hA, List.filter_append, List.filter_cons_of_neg (by rw [rmP_y]; exact fun e => by cases e), List.filter_nil, List.append_nil]; exact fil_not (fun x hx => (rmP_n (nodup_mid hn2 hx)).symm))
      (fun x hx y hy h1 h2 hne => by
        have nx : x ≠ g := fun e => by rw [e, rmP_y] at h1; cases h1
        have ny : y ≠ g := fun e => by rw [e, rmP_y] at h2; cases h2
        rw [rmP_n nx] at h1
        rw [rmP_n ny] at h2
        have mx : x ∈ pre := by
          rcases List.mem_append.mp hx with q | q
          · exact q
          · exact absurd (List.mem_singleton.mp q) nx
        have my : y ∈ pre := by
          rcases List.mem_append.mp hy with q | q
          · exact q
          · exact absurd (List.mem_singleton.mp q) ny
        exact hQ x mx y my h1 h2 hne)
    rw [seek_cons]
    by_cases c : apA ap A g = true
    · rw [if_pos c]
      have inn := seek_s hn hs R (A ++ [g]) (pre ++ [g]) z (adP Q g) hL2
        (by rw [hA, List.filter_append, List.filter_cons_of_pos (adP_y Q g), List.filter_nil]; exact congrArg (· ++ [g]) (fil_not (fun x hx => (adP_n (nodup_mid hn2 hx)).symm)))
        (fun x hx y hy h1 h2 hne => by
          have old : ∀ u, u ∈ pre ++ [g] → u ≠ g → adP Q g u = true → u ∈ A ∧ u ∈ pre ∧ Q u = true := fun u hu nu q => by
            rw [adP_n nu] at q
            have mu : u ∈ pre := by
              rcases List.mem_append.mp hu with q | q
              · exact q
              · exact absurd (List.mem_singleton.mp q) nu
            exact ⟨by rw [hA]; exact List.mem_filter.mpr ⟨mu, q⟩, mu, q⟩
          by_cases ex : x = g
          · have ny : y ≠ g := fun e => hne (ex.trans e.symm)
            rw [ex, hs]
            exact apA_y.mp c y (old y hy ny h2).1
          · by_cases ey : y = g
            · rw [ey]
              exact apA_y.mp c x (old x hx ex h1).1
            · exact hQ x (old x hx ex h1).2.1 y (old y hy ey h2).2.1 (old x hx ex h1).2.2 (old y hy ey h2).2.2 hne)
      have o2 := out (seek ap L R (A ++ [g]) z)
      refine ⟨?_, ?_⟩
      · rcases o2.1 with q | q
        · rw [q]
          exact inn.1
        · exact Or.inr q
      · rcases o2.2 with q | q
        · rw [q]
          exact inn.2
        · exact Or.inr q
    · rw [if_neg c]
      exact out z
/-! longest rows, by masks of pairs -/
def lmx : List Int32 → Int32 → Nat
  | [], _ => 0
  | p :: R, o => if (p &&& o) = p then max (1 + lmx R (o &&& ~~~p)) (lmx R o) else lmx R o
theorem lmx_y {p o : Int32} {R : List Int32} (h : (p &&& o) = p) : lmx (p :: R) o = max (1 + lmx R (o &&& ~~~p)) (lmx R o) := if_pos h
theorem lmx_n {p o : Int32} {R : List Int32} (h : ¬ (p &&& o) = p) : lmx (p :: R) o = lmx R o := if_neg h
theorem msk_bt {a o : Int32} : (a &&& o) = a ↔ ∀ i, i < 32 → bt a i = true → bt o i = true := by
  constructor
  · intro h i hi ha
    have e := bt_an a o i hi
    rw [h, ha, Bool.true_and] at e
    exact e.symm
  · intro h
    refine bt_all (fun i hi => ?_)
    rw [bt_an _ _ _ hi]
    cases e : bt a i
    · rfl
    · rw [h i hi e]
      rfl
theorem dis_bt {a b : Int32} : (a &&& b) = 0 ↔ ∀ i, i < 32 → bt a i = true → bt b i = false := by
  constructor
  · intro h i hi ha
    have e := bt_an a b i hi
    rw [h, ha, Bool.true_and, bt_ze i hi] at e
    exact e.symm
  · intro h
    refine bt_all (fun i hi => ?_)
    rw [bt_an _ _ _ hi, bt_ze i hi]
    cases e : bt a i
    · rfl
    · rw [h i hi e]
      rfl
theorem msk_rest {a o b : Int32} : (a &&& (o &&& ~~~b)) = a ↔ (a &&& o) = a ∧ (a &&& b) = 0 := by
  constructor
  · intro h
    have q := msk_bt.mp h
    have q2 : ∀ i, i < 32 → bt a i = true → bt o i = true ∧ bt b i = false := fun i hi ha => by
      have e := q i hi ha
      rw [bt_an _ _ _ hi, bt_no _ _ hi] at e
      obtain ⟨e1, e2⟩ := Bool.and_eq_true_iff.mp e
      exact ⟨e1, by rw [Bool.not_eq_true'] at e2; exact e2⟩
    exact ⟨msk_bt.mpr (fun i hi ha => (q2 i hi ha).1), dis_bt.mpr (fun i hi ha => (q2 i hi ha).2)⟩
  · intro h
    exact msk_bt.mpr (fun i hi ha => by rw [bt_an _ _ _ hi, bt_no _ _ hi, msk_bt.mp h.1 i hi ha, dis_bt.mp h.2 i hi ha]; rfl)
theorem dis_s {a b : Int32} : (a &&& b) = 0 ↔ (b &&& a) = 0 := by rw [Int32.and_comm]
theorem cdN_off {p o : Int32} (h : (p &&& o) = p) : ∀ k, k ≤ 32 → cdN (o &&& ~~~p) k + cdN p k = cdN o k
  | 0, _ => rfl
  | k + 1, hk => by
    have ih := cdN_off h k (by omega)
    show cdN (o &&& ~~~p) k + (if bt (o &&& ~~~p) k = true then 1 else 0) + (cdN p k + (if bt p k = true then 1 else 0)) = cdN o k + (if bt o k = true then 1 else 0)
    rw [bt_an _ _ _ (show k < 32 by omega), bt_no _ _ (show k < 32 by omega)]
    cases a : bt p k with
    | false =>
      rw [Bool.not_false, Bool.and_true]
      have : (if false = true then 1 else 0) = 0 := rfl
      omega
    | true =>
      rw [msk_bt.mp h k (by omega) a]
      have e1 : (if (true && !true) = true then 1 else 0) = 0 := rfl
      have e2 : (if true = true then 1 else 0) = 1 := rfl
      omega
theorem lmx_b {e : Nat} : ∀ (R : List Int32) (o : Int32), (∀ p ∈ R, cdN p 24 = e) → lmx R o * e ≤ cdN o 24
  | [], o, _ => by
    show 0 * e ≤ _
    rw [Nat.zero_mul]
    exact Nat.zero_le _
  | p :: R, o, h => by
    have hR : ∀ q ∈ R, cdN q 24 = e := fun q hq => h q (List.mem_cons_of_mem _ hq)
    have i2 := lmx_b R o hR
    by_cases c : (p &&& o) = p
    · rw [lmx_y c]
      have i1 := lmx_b R (o &&& ~~~p) hR
      have s := cdN_off c 24 (by decide)
      have hp := h p (List.mem_cons_self)
      rcases Nat.le_total (1 + lmx R (o &&& ~~~p)) (lmx R o) with q | q
      · rw [Nat.max_eq_right q]
        exact i2
      · rw [Nat.max_eq_left q, Nat.add_mul, Nat.one_mul]
        omega
    · rw [lmx_n c]
      exact i2
def lenL (e : Int) : List Int32 → Int32 → Int → Int → Int
  | [], _, _, b => b
  | p :: R, o, s, b => if (b + 1 - s) * e ≤ (cdN o 24 : Int) then lenL e R o s (if (p &&& o) = p then lenL e R (o &&& ~~~p) (s + 1) (if b < s + 1 then s + 1 else b) else b) else b
theorem lenL_c {e : Int} {p o : Int32} {R : List Int32} {s b : Int} : lenL e (p :: R) o s b = if (b + 1 - s) * e ≤ (cdN o 24 : Int) then lenL e R o s (if (p &&& o) = p then lenL e R (o &&& ~~~p) (s + 1) (if b < s + 1 then s + 1 else b) else b) else b := rfl
theorem mx_sp (a c : Int) : c ≤ (if c < a then a else c) ∧ a ≤ (if c < a then a else c) ∧ ((if c < a then a else c) = c ∨ (if c < a then a else c) = a) := by
  by_cases h : c < a
  · rw [if_pos h]
    omega
  · rw [if_neg h]
    omega
theorem lenL_eq {e : Nat} : ∀ (R : List Int32) (o : Int32) (s b : Int), (∀ p ∈ R, cdN p 24 = e) → s ≤ b → lenL (e : Int) R o s b = if b < s + (lmx R o : Int) then s + (lmx R o : Int) else b
  | [], o, s, b, _, hb => by
    show b = if b < s + ((0 : Nat) : Int) then s + ((0 : Nat) : Int) else b
    rw [if_neg (by omega)]
  | p :: R, o, s, b, h, hb => by
    have hR : ∀ q ∈ R, cdN q 24 = e := fun q hq => h q (List.mem_cons_of_mem _ hq)
    have bd := lmx_b (p :: R) o h
    rw [lenL_c]
    by_cases c : (b + 1 - s) * (e : Int) ≤ (cdN o 24 : Int)
    · rw [if_pos c]
      by_cases d : (p &&& o) = p
      · rw [if_pos d, lmx_y d]
        have A1 := mx_sp (s + 1) b
        generalize (if b < s + 1 then s + 1 else b) = b9 at A1 ⊢
        have i1 := lenL_eq R (o &&& ~~~p) (s + 1) b9 hR (by omega)
        have A2 := mx_sp (s + 1 + (lmx R (o &&& ~~~p) : Int)) b9
        rw [← i1] at A2
        generalize lenL (e : Int) R (o &&& ~~~p) (s + 1) b9 = X at A2 ⊢
        rw [lenL_eq R o s X hR (by omega)]
        have A3 := mx_sp (s + (lmx R o : Int)) X
        have A4 := mx_sp (s + ((max (1 + lmx R (o &&& ~~~p)) (lmx R o) : Nat) : Int)) b
        generalize (if X < s + (lmx R o : Int) then s + (lmx R o : Int) else X) = V at A3 ⊢
        generalize (if b < s + ((max (1 + lmx R (o &&& ~~~p)) (lmx R o) : Nat) : Int) then s + ((max (1 + lmx R (o &&& ~~~p)) (lmx R o) : Nat) : Int) else b) = W at A4 ⊢
        rcases Nat.le_total (1 + lmx R (o &&& ~~~p)) (lmx R o) with q | q
        · rw [Nat.max_eq_right q] at A4
          omega
        · rw [Nat.max_eq_left q] at A4
          omega
      · rw [if_neg d, lmx_n d]
        exact lenL_eq R o s b hR hb
    · rw [if_neg c]
      have : (lmx (p :: R) o : Int) < b + 1 - s := by
        refine Int.lt_of_not_ge (fun q => c ?_)
        have q2 : (b + 1 - s) * (e : Int) ≤ (lmx (p :: R) o : Int) * (e : Int) := Int.mul_le_mul_of_nonneg_right q (Int.natCast_nonneg _)
        have q3 : ((lmx (p :: R) o * e : Nat) : Int) ≤ (cdN o 24 : Int) := Int.ofNat_le.mpr bd
        rw [Int.natCast_mul] at q3
        exact Int.le_trans q2 q3
      rw [if_neg (by omega)]
theorem lmx_c {pm : Int32 → Int32} {P : Int32 → Bool} : ∀ (R : List Int32) (o : Int32), R.Nodup → (∀ g ∈ R, P g = true → (pm g &&& o) = pm g) → (∀ g ∈ R, ∀ h ∈ R, P g = true → P h = true → g ≠ h → (pm g &&& pm h) = 0) → sz R P ≤ lmx (R.map pm) o
  | [], _, _, _, _ => Nat.zero_le _
  | g :: R, o, hn, h1, h2 => by
    obtain ⟨n1, n2⟩ := List.nodup_cons.mp hn
    have t1 : ∀ x ∈ R, P x = true → (pm x &&& o) = pm x := fun x hx => h1 x (List.mem_cons_of_mem _ hx)
    have t2 : ∀ x ∈ R, ∀ y ∈ R, P x = true → P y = true → x ≠ y → (pm x &&& pm y) = 0 := fun x hx y hy => h2 x (List.mem_cons_of_mem _ hx) y (List.mem_cons_of_mem _ hy)
    rw [List.map_cons]
    by_cases c : P g = true
    · have d := h1 g (List.mem_cons_self) c
      have ih := lmx_c (pm := pm) (P := P) R (o &&& ~~~(pm g)) n2 (fun x hx px => msk_rest.mpr ⟨t1 x hx px, h2 x (List.mem_cons_of_mem _ hx) g (List.mem_cons_self) px c (fun e => n1 (by rw [← e]; exact hx))⟩) t2
      rw [lmx_y d]
      unfold sz at ih ⊢
      rw [List.filter_cons_of_pos c, List.length_cons]
      have m := Nat.le_max_left (1 + lmx (R.map pm) (o &&& ~~~(pm g))) (lmx (R.map pm) o)
      omega
    · have ih := lmx_c (pm := pm) (P := P) R o n2 t1 t2
      unfold sz at ih ⊢
      rw [List.filter_cons_of_neg c]
      by_cases d : (pm g &&& o) = pm g
      · rw [lmx_y d]
        have m := Nat.le_max_right (1 + lmx (R.map pm) (o &&& ~~~(pm g))) (lmx (R.map pm) o)
        omega
      · rw [lmx_n d]
        exact ih
theorem lmx_s {pm : Int32 → Int32} : ∀ (R : List Int32) (o : Int32), R.Nodup → ∃ P : Int32 → Bool, (∀ g ∈ R, P g = true → (pm g &&& o) = pm g) ∧ (∀ g ∈ R, ∀ h ∈ R, P g = true → P h = true → g ≠ h → (pm g &&& pm h) = 0) ∧ sz R P = lmx (R.map pm) o
  | [], _, _ => ⟨fun _ => false, fun g hg => (by cases hg), fun g hg => (by cases hg), rfl⟩
  | g :: R, o, hn => by
    obtain ⟨n1, n2⟩ := List.nodup_cons.mp hn
    have nx : ∀ x ∈ R, x ≠ g := fun x hx e => n1 (by rw [← e]; exact hx)
    have skip : ∃ P : Int32 → Bool, (∀ x ∈ g :: R, P x = true → (pm x &&& o) = pm x) ∧ (∀ x ∈ g :: R, ∀ y ∈ g :: R, P x = true → P y = true → x ≠ y → (pm x &&& pm y) = 0) ∧ sz (g :: R) P = lmx (R.map pm) o := by
      obtain ⟨P, p1, p2, p3⟩ := lmx_s (pm := pm) R o n2
      have inR : ∀ x, x ∈ g :: R → rmP P g x = true → x ∈ R ∧ P x = true := fun x hx q => by
        have ne : x ≠ g := fun e => by rw [e, rmP_y] at q; cases q
        rw [rmP_n ne] at q
        rcases List.mem_cons.mp hx with z | z
        · exact absurd z ne
        · exact ⟨z, q⟩
      refine ⟨rmP P g, fun x hx q => p1 x (inR x hx q).1 (inR x hx q).2, fun x hx y hy qx qy ne => p2 x (inR x hx qx).1 y (inR y hy qy).1 (inR x hx qx).2 (inR y hy qy).2 ne, ?_⟩
      unfold sz at p3 ⊢
      rw [List.filter_cons_of_neg (by rw [rmP_y]; exact fun e => by cases e), fil_not (fun x hx => rmP_n (nx x hx))]
      exact p3
    rw [List.map_cons]
    by_cases d : (pm g &&& o) = pm g
    · rw [lmx_y d]
      rcases Nat.le_total (1 + lmx (R.map pm) (o &&& ~~~(pm g))) (lmx (R.map pm) o) with q | q
      · rw [Nat.max_eq_right q]
        exact skip
      · rw [Nat.max_eq_left q]
        obtain ⟨P, p1, p2, p3⟩ := lmx_s (pm := pm) R (o &&& ~~~(pm g)) n2
        have inR : ∀ x, x ∈ g :: R → x ≠ g → adP P g x = true → x ∈ R ∧ P x = true := fun x hx ne q => by
          rw [adP_n ne] at q
          rcases List.mem_cons.mp hx with z | z
          · exact absurd z ne
          · exact ⟨z, q⟩
        refine ⟨adP P g, fun x hx q => ?_, fun x hx y hy qx qy ne => ?_, ?_⟩
        · by_cases e : x = g
          · rw [e]
            exact d
          · obtain ⟨r1, r2⟩ := inR x hx e q
            exact (msk_rest.mp (p1 x r1 r2)).1
        · by_cases ex : x = g
          · obtain ⟨r1, r2⟩ := inR y hy (fun e => ne (ex.trans e.symm)) qy
            rw [ex]
            exact dis_s.mp (msk_rest.mp (p1 y r1 r2)).2
          · obtain ⟨r1, r2⟩ := inR x hx ex qx
            by_cases ey : y = g
            · rw [ey]
              exact (msk_rest.mp (p1 x r1 r2)).2
            · obtain ⟨r3, r4⟩ := inR y hy ey qy
              exact p2 x r1 y r3 r2 r4 ne
        · unfold sz at p3 ⊢
          rw [List.filter_cons_of_pos (adP_y P g), fil_not (fun x hx => adP_n (nx x hx)), List.length_cons, p3]
          omega
    · rw [lmx_n d]
      exact skip
/-- what is asked of a list of groups, who is apart, and the masks of pairs -/
def GP (ap : Int32 → Int32 → Bool) (pm : Int32 → Int32) (L : List Int32) (o : Int32) : Prop := L.Nodup ∧ (∀ x y, ap x y = ap y x) ∧ (∀ x ∈ L, ∀ y ∈ L, ((pm x &&& pm y) = 0 ↔ ap x y = true)) ∧ (∀ x ∈ L, ap x x = false) ∧ (∀ x ∈ L, (pm x &&& o) = pm x)
theorem GP_max {ap : Int32 → Int32 → Bool} {pm : Int32 → Int32} {L : List Int32} {o : Int32} (h : GP ap pm L o) : (∀ P, Pk ap L P → sz L P ≤ lmx (L.map pm) o) ∧ ∃ P, MX ap L P ∧ sz L P = lmx (L.map pm) o := by
  obtain ⟨hn, hs, hd, hi, ho⟩ := h
  have c : ∀ P, Pk ap L P → sz L P ≤ lmx (L.map pm) o := fun P hP => lmx_c L o hn (fun g hg _ => ho g hg) (fun g hg x hx q1 q2 ne => (hd g hg x hx).mpr (hP g hg x hx q1 q2 ne))
  refine ⟨c, ?_⟩
  obtain ⟨P, p1, p2, p3⟩ := lmx_s (pm := pm) L o hn
  have hP : Pk ap L P := fun x hx y hy q1 q2 ne => (hd x hx y hy).mp (p2 x hx y hy q1 q2 ne)
  refine ⟨P, ⟨hP, fun g hg => ?_⟩, p3⟩
  refine Classical.byContradiction (fun no => ?_)
  have all : ∀ x ∈ L, P x = true → ap x g = true := fun x hx q => Classical.byContradiction (fun z => no ⟨x, hx, q, Bool.eq_false_iff.mpr z⟩)
  have pg : P g = false := Bool.eq_false_iff.mpr (fun q => by have := all g hg q; rw [hi g hg] at this; cases this)
  have k : Pk ap L (adP P g) := fun x hx y hy q1 q2 ne => by
    by_cases ex : x = g
    · have ny : y ≠ g := fun e => ne (ex.trans e.symm)
      rw [adP_n ny] at q2
      rw [ex, hs]
      exact all y hy q2
    · rw [adP_n ex] at q1
      by_cases ey : y = g
      · rw [ey]
        exact all x hx q1
      · rw [adP_n ey] at q2
        exact hP x hx y hy q1 q2 ne
  have := c _ k
  rw [sz_add L hn hg pg] at this
  omega
theorem seek_1 {ap : Int32 → Int32 → Bool} {pm : Int32 → Int32} {L : List Int32} {o : Int32} (h : GP ap pm L o) : (seek ap L L [] (0, -1)).1 = (lmx (L.map pm) o : Int) := by
  obtain ⟨c, P, hP, hz⟩ := GP_max h
  have s := (seek_s h.1 h.2.1 L [] [] (0, -1) (fun _ => false) rfl rfl (fun x hx => by cases hx)).1
  have k := (seek_c h.1 hP L [] [] (0, -1) rfl rfl).1
  rw [hz] at k
  rcases s with s | ⟨Q, hQ, s⟩
  · have s : (seek ap L L [] (0, -1)).1 = 0 := s
    omega
  · have := c Q hQ.1
    omega
/-! the soonest end of a row -/
def tb (y : Int64) (i : Nat) : Bool := decide (¬ ((y >>> (Int64.ofNat i &&& 63)) &&& 1) = 0)
theorem sh_all64 : ∀ i : Fin 64, ((Int64.ofNat i.val &&& 63).toBitVec.smod 64).toNat = i.val := by decide +kernel
theorem tb_lsb (s : Int64) (i : Nat) (h : i < 64) : tb s i = s.toBitVec.getLsbD i := by
  have e := sh_all64 ⟨i, h⟩
  have e1 : (s >>> (Int64.ofNat i &&& 63)).toBitVec = s.toBitVec.sshiftRight i := by
    rw [Int64.toBitVec_shiftRight, BitVec.sshiftRight_eq', e]
  have gs : (s.toBitVec.sshiftRight i).getLsbD 0 = s.toBitVec.getLsbD i := by
    rw [BitVec.getLsbD_sshiftRight, if_pos (by omega)]
    simp
  have o0 : (1 : Int64).toBitVec.getLsbD 0 = true := by decide
  have oj : ∀ j, j < 64 → ¬ j = 0 → (1 : Int64).toBitVec.getLsbD j = false := by decide
  have e2 : (s >>> (Int64.ofNat i &&& 63) &&& 1) = 0 ↔ s.toBitVec.getLsbD i = false := by
    rw [← Int64.toBitVec_inj, Int64.toBitVec_and, e1]
    constructor
    · intro hz
      have g := congrArg (fun x : BitVec 64 => x.getLsbD 0) hz
      have g : (s.toBitVec.sshiftRight i &&& (1 : Int64).toBitVec).getLsbD 0 = (0 : Int64).toBitVec.getLsbD 0 := g
      rw [BitVec.getLsbD_and, gs, o0, Bool.and_true] at g
      rw [g]
      decide
    · intro hz
      apply BitVec.eq_of_getLsbD_eq
      intro j hj
      rw [BitVec.getLsbD_and]
      have z : (0 : Int64).toBitVec.getLsbD j = false := by
        show (0#64).getLsbD j = false
        simp
      rw [z]
      by_cases c : j = 0
      · subst c
        rw [gs, hz, Bool.false_and]
      · rw [oj j hj c, Bool.and_false]
  unfold tb
  cases g : s.toBitVec.getLsbD i with
  | false => rw [decide_eq_false_iff_not]; exact fun q => q (e2.mpr g)
  | true => rw [decide_eq_true_iff]; exact fun q => by rw [e2.mp q] at g; cases g
theorem tb_1 : ∀ i : Fin 64, ∀ j : Fin 64, tb ((1 : Int64) <<< (Int64.ofNat i.val &&& 63)) j.val = decide (j.val = i.val) := by decide +kernel
theorem tb_or {y : Int64} {i j : Nat} (hi : i < 64) (hj : j < 64) : tb (y ||| ((1 : Int64) <<< (Int64.ofNat i &&& 63))) j = (tb y j || decide (j = i)) := by
  rw [tb_lsb _ _ hj, Int64.toBitVec_or, BitVec.getLsbD_or, ← tb_lsb _ _ hj, ← tb_lsb _ _ hj, tb_1 ⟨i, hi⟩ ⟨j, hj⟩]
theorem tb_ze {j : Nat} (hj : j < 64) : tb 0 j = false := by
  rw [tb_lsb _ _ hj]
  show (0#64).getLsbD j = false
  simp
def fpI (o : Int32) : List Int32 → Nat → Int
  | [], _ => -1
  | p :: R, i => if (p &&& o) = p then (i : Int) else fpI o R (i + 1)
def finL (rc : Int32 → Int64 → Int → Int → Int) (o pf : Int32) (s : Int) : List Int32 → Nat → Int64 → Int → Int
  | [], _, _, b => b
  | p :: R, i, y, b => if b ≤ s + 1 then b else if ¬ (p &&& pf) = 0 ∧ (p &&& o) = p ∧ tb y i = false then finL rc o pf s R (i + 1) (y ||| ((1 : Int64) <<< (Int64.ofNat i &&& 63))) (rc (o &&& ~~~p) y (s + 1) b) else finL rc o pf s R (i + 1) y b
def finE (M : List Int32) : Nat → Int32 → Int64 → Int → Int → Int
  | 0, _, _, _, b => b
  | d + 1, o, y, s, b => if fpI o M 0 = -1 then (if s < b then s else b) else finL (finE M d) o (M.getD (fpI o M 0).toNat 0) s (M.drop (fpI o M 0).toNat) (fpI o M 0).toNat y b
theorem finL_c {rc : Int32 → Int64 → Int → Int → Int} {o pf p : Int32} {s b : Int} {R : List Int32} {i : Nat} {y : Int64} : finL rc o pf s (p :: R) i y b = if b ≤ s + 1 then b else if ¬ (p &&& pf) = 0 ∧ (p &&& o) = p ∧ tb y i = false then finL rc o pf s R (i + 1) (y ||| ((1 : Int64) <<< (Int64.ofNat i &&& 63))) (rc (o &&& ~~~p) y (s + 1) b) else finL rc o pf s R (i + 1) y b := rfl
theorem fpI_n {o : Int32} : ∀ (M : List Int32) (i : Nat), fpI o M i = -1 → ∀ p ∈ M, ¬ (p &&& o) = p
  | [], _, _, p, hp => by cases hp
  | q :: M, i, h, p, hp => by
    have h : (if (q &&& o) = q then (i : Int) else fpI o M (i + 1)) = -1 := h
    by_cases c : (q &&& o) = q
    · rw [if_pos c] at h
      omega
    · rw [if_neg c] at h
      rcases List.mem_cons.mp hp with z | z
      · rw [z]
        exact c
      · exact fpI_n M (i + 1) h p z
theorem fpI_s {o : Int32} : ∀ (M : List Int32) (i : Nat), ¬ fpI o M i = -1 → ∃ (k : Nat) (p : Int32), fpI o M i = ((i + k : Nat) : Int) ∧ M[k]? = some p ∧ (p &&& o) = p ∧ ∀ j q, j < k → M[j]? = some q → ¬ (q &&& o) = q
  | [], _, h => absurd rfl h
  | q :: M, i, h => by
    have e : fpI o (q :: M) i = if (q &&& o) = q then (i : Int) else fpI o M (i + 1) := rfl
    rw [e] at h ⊢
    by_cases c : (q &&& o) = q
    · rw [if_pos c]
      exact ⟨0, q, rfl, rfl, c, fun j q2 hj => absurd hj (Nat.not_lt_zero j)⟩
    · rw [if_neg c] at h ⊢
      obtain ⟨k, p, h1, h2, h3, h4⟩ := fpI_s M (i + 1) h
      refine ⟨k + 1, p, by rw [h1]; congr 1; omega, by rw [List.getElem?_cons_succ]; exact h2, h3, fun j q2 hj hq => ?_⟩
      cases j with
      | zero =>
        rw [List.getElem?_cons_zero] at hq
        cases hq
        exact c
      | succ j =>
        rw [List.getElem?_cons_succ] at hq
        exact h4 j q2 (by omega) hq
/-- what is still open when T has been taken -/
def OpP (ap : Int32 → Int32 → Bool) (pm : Int32 → Int32) (L : List Int32) (o : Int32) (T : Int32 → Bool) : Prop := ∀ g ∈ L, ((pm g &&& o) = pm g ↔ ∀ x ∈ L, T x = true → ap x g = true)
theorem OpP_add {ap : Int32 → Int32 → Bool} {pm : Int32 → Int32} {L : List Int32} {o g : Int32} {T : Int32 → Bool} (hs : ∀ x y, ap x y = ap y x) (hd : ∀ x ∈ L, ∀ y ∈ L, ((pm x &&& pm y) = 0 ↔ ap x y = true)) (h : OpP ap pm L o T) (hg : g ∈ L) : OpP ap pm L (o &&& ~~~(pm g)) (adP T g) := fun x hx => by
  rw [msk_rest]
  constructor
  · intro q u hu tu
    rcases adP_or tu with e | e
    · rw [e, hs]
      exact (hd x hx g hg).mp q.2
    · exact (h x hx).mp q.1 u hu e
  · intro q
    exact ⟨(h x hx).mpr (fun u hu tu => q u hu (adP_of tu)), (hd x hx g hg).mpr (by rw [hs]; exact q g hg (adP_y T g))⟩
/-- P goes on from T to an end, with none of y -/
def Cmp (ap : Int32 → Int32 → Bool) (L : List Int32) (T : Int32 → Bool) (y : Int64) (P : Int32 → Bool) : Prop := MX ap L P ∧ (∀ x ∈ L, T x = true → P x = true) ∧ ∀ i x, L[i]? = some x → P x = true → T x = false → tb y i = false
def FinR (ap : Int32 → Int32 → Bool) (L : List Int32) (T : Int32 → Bool) (y : Int64) (b0 b : Int) (C : (Int32 → Bool) → Prop) : Prop := b ≤ b0 ∧ (b = b0 ∨ ∃ P, MX ap L P ∧ b = (sz L P : Int)) ∧ ∀ P, Cmp ap L T y P → C P → b ≤ (sz L P : Int)
theorem Cmp_blk {ap : Int32 → Int32 → Bool} {pm : Int32 → Int32} {L : List Int32} {o f : Int32} {T P : Int32 → Bool} {y : Int64} (ho : OpP ap pm L o T) (hf : f ∈ L) (hfo : (pm f &&& o) = pm f) (hP : Cmp ap L T y P) : ∃ x, x ∈ L ∧ P x = true ∧ T x = false ∧ ap x f = false := by
  obtain ⟨x, h1, h2, h3⟩ := hP.1.2 f hf
  refine ⟨x, h1, h2, Bool.eq_false_iff.mpr (fun q => ?_), h3⟩
  rw [(ho f hf).mp hfo x h1 q] at h3
  cases h3
theorem Cmp_pos {ap : Int32 → Int32 → Bool} {pm : Int32 → Int32} {L : List Int32} {o g : Int32} {T P : Int32 → Bool} {y : Int64} (ho : OpP ap pm L o T) (hg : g ∈ L) (hP : Cmp ap L T y P) (pg : P g = true) (tg : T g = false) : (pm g &&& o) = pm g := (ho g hg).mpr (fun x hx tx => hP.1.1 x hx g hg (hP.2.1 x hx tx) pg (fun e => by rw [e, tg] at tx; cases tx))
theorem finL_ok {ap : Int32 → Int32 → Bool} {pm : Int32 → Int32} {L M : List Int32} {o o0 f : Int32} {T : Int32 → Bool} {s : Int} {d : Nat} (h : GP ap pm L o0) (h64 : L.length ≤ 64) (ho : OpP ap pm L o T) (hT : Pk ap L T) (hz : (sz L T : Int) = s) (hf : f ∈ L) (hfo : (pm f &&& o) = pm f)
    (ihd : ∀ (o : Int32) (y : Int64) (b : Int) (T : Int32 → Bool), OpP ap pm L o T → Pk ap L T → (sz L T : Int) = s + 1 → FinR ap L T y b (finE M d o y (s + 1) b) (fun _ => True)) : ∀ (R : List Int32) (i : Nat) (y : Int64) (b : Int), L.drop i = R → FinR ap L T y b (finL (finE M d) o (pm f) s (R.map pm) i y b) (fun P => ∀ j x, j < i → L[j]? = some x → P x = true → T x = false → ap x f = true) := by
  obtain ⟨hn, hs, hd, hi, hall⟩ := h
  intro R
  induction R with
  | nil =>
    intro i y b hR
    refine ⟨Int.le_refl _, Or.inl rfl, fun P hP hC => ?_⟩
    obtain ⟨x, h1, h2, h3, h4⟩ := Cmp_blk ho hf hfo hP
    obtain ⟨j, hj⟩ := List.mem_iff_getElem?.mp h1
    have hl := List.drop_eq_nil_iff.mp hR
    have hjl := (List.getElem?_eq_some_iff.mp hj).1
    rw [hC j x (by omega) hj h2 h3] at h4
    cases h4
  | cons g R ih =>
    intro i y b hR
    have hil : i < L.length := Nat.lt_of_not_le (fun q => by rw [List.drop_eq_nil_of_le q] at hR; cases hR)
    have hR2 := List.drop_eq_getElem_cons hil
    rw [hR] at hR2
    injection hR2 with eg eR
    have hgi : L[i]? = some g := by rw [List.getElem?_eq_getElem hil, ← eg]
    have hg : g ∈ L := List.mem_iff_getElem?.mpr ⟨i, hgi⟩
    rw [List.map_cons, finL_c]
    by_cases c1 : b ≤ s + 1
    · rw [if_pos c1]
      refine ⟨Int.le_refl _, Or.inl rfl, fun P hP _ => ?_⟩
      obtain ⟨x, h1, h2, h3, h4⟩ := Cmp_blk ho hf hfo hP
      have a1 := sz_add L hn h1 h3
      have a2 := sz_mono (P := adP T x) (Q := P) L (fun u hu q => by
        rcases adP_or q with e | e
        · rw [e]
          exact h2
        · exact hP.2.1 u hu e)
      omega
    · rw [if_neg c1]
      by_cases c2 : ¬ (pm g &&& pm f) = 0 ∧ (pm g &&& o) = pm g ∧ tb y i = false
      · rw [if_pos c2]
        obtain ⟨k1, k2, k3⟩ := c2
        have tg : T g = false := Bool.eq_false_iff.mpr (fun q => by have := (ho g hg).mp k2 g hg q; rw [hi g hg] at this; cases this)
        have hk : Pk ap L (adP T g) := fun x hx u hu q1 q2 ne => by
          by_cases ex : x = g
          · have nu : u ≠ g := fun e => ne (ex.trans e.symm)
            rw [adP_n nu] at q2
            rw [ex, hs]
            exact (ho g hg).mp k2 u hu q2
          · rw [adP_n ex] at q1
            by_cases eu : u = g
            · rw [eu]
              exact (ho g hg).mp k2 x hx q1
            · rw [adP_n eu] at q2
              exact hT x hx u hu q1 q2 ne
        have r1 := ihd (o &&& ~~~(pm g)) y b (adP T g) (OpP_add hs hd ho hg) hk (by rw [sz_add L hn hg tg]; omega)
        have r2 := ih (i + 1) (y ||| ((1 : Int64) <<< (Int64.ofNat i &&& 63))) (finE M d (o &&& ~~~(pm g)) y (s + 1) b) eR.symm
        obtain ⟨u1, u2, u3⟩ := r1
        obtain ⟨v1, v2, v3⟩ := r2
        refine ⟨Int.le_trans v1 u1, ?_, fun P hP hC => ?_⟩
        · rcases v2 with e | e
          · rw [e]
            exact u2
          · exact Or.inr e
        · by_cases pg : P g = true
          · refine Int.le_trans v1 (u3 P ⟨hP.1, fun x hx q => ?_, fun j x hj px q => hP.2.2 j x hj px (Bool.eq_false_iff.mpr (fun t9 => by rw [adP_of t9] at q; cases q))⟩ trivial)
            rcases adP_or q with e | e
            · rw [e]
              exact pg
            · exact hP.2.1 x hx e
          · have ng : ∀ x, x = g → ¬ P x = true := fun x e q => pg (by rw [← e]; exact q)
            refine v3 P ⟨hP.1, hP.2.1, fun j x hj px tx => ?_⟩ (fun j x hj hjx px tx => ?_)
            · have hjl := (List.getElem?_eq_some_iff.mp hj).1
              rw [tb_or (by omega) (by omega), hP.2.2 j x hj px tx]
              have : ¬ j = i := fun e => ng x (by rw [e, hgi] at hj; injection hj with z; exact z.symm) px
              rw [decide_eq_false this]
              rfl
            · by_cases e : j = i
              · exact absurd px (ng x (by rw [e, hgi] at hjx; injection hjx with z; exact z.symm))
              · exact hC j x (by omega) hjx px tx
      · rw [if_neg c2]
        obtain ⟨v1, v2, v3⟩ := ih (i + 1) y b eR.symm
        refine ⟨v1, v2, fun P hP hC => v3 P hP (fun j x hj hjx px tx => ?_)⟩
        by_cases e : j = i
        · rw [e, hgi] at hjx
          injection hjx with z
          rw [← z] at px tx ⊢
          refine Classical.byContradiction (fun no => c2 ⟨fun q => no ((hd g hg f hf).mp q), Cmp_pos ho hg hP px tx, hP.2.2 i g hgi px tx⟩)
        · exact hC j x (by omega) hjx px tx
theorem finE_ok {ap : Int32 → Int32 → Bool} {pm : Int32 → Int32} {L : List Int32} {o0 : Int32} (h : GP ap pm L o0) (h64 : L.length ≤ 64) (h8 : ∀ P, Pk ap L P → sz L P ≤ 8) : ∀ (d : Nat) (o : Int32) (y : Int64) (s b : Int) (T : Int32 → Bool), OpP ap pm L o T → Pk ap L T → (sz L T : Int) = s → 9 ≤ s + (d : Int) → FinR ap L T y b (finE (L.map pm) d o y s b) (fun _ => True) := by
  intro d
  induction d with
  | zero =>
    intro o y s b T ho hT hz hsd
    have := h8 T hT
    omega
  | succ d ih =>
    intro o y s b T ho hT hz hsd
    show FinR ap L T y b (if fpI o (L.map pm) 0 = -1 then (if s < b then s else b) else finL (finE (L.map pm) d) o ((L.map pm).getD (fpI o (L.map pm) 0).toNat 0) s ((L.map pm).drop (fpI o (L.map pm) 0).toNat) (fpI o (L.map pm) 0).toNat y b) (fun _ => True)
    by_cases c : fpI o (L.map pm) 0 = -1
    · rw [if_pos c]
      have no := fpI_n (L.map pm) 0 c
      have hM : MX ap L T := ⟨hT, fun g hg => Classical.byContradiction (fun z => no (pm g) (List.mem_map_of_mem hg) ((ho g hg).mpr (fun x hx tx => Classical.byContradiction (fun q => z ⟨x, hx, tx, Bool.eq_false_iff.mpr q⟩))))⟩
      by_cases c2 : s < b
      · rw [if_pos c2]
        refine ⟨by omega, Or.inr ⟨T, hM, hz.symm⟩, fun P hP _ => ?_⟩
        have := sz_mono L hP.2.1
        omega
      · rw [if_neg c2]
        refine ⟨Int.le_refl _, Or.inl rfl, fun P hP _ => ?_⟩
        have := sz_mono L hP.2.1
        omega
    · rw [if_neg c]
      obtain ⟨k, p, e1, e2, e3, e4⟩ := fpI_s (L.map pm) 0 c
      have ek : (fpI o (L.map pm) 0).toNat = k := by rw [e1]; omega
      rw [ek]
      rw [List.getElem?_map] at e2
      obtain ⟨f, hf, hp⟩ := Option.map_eq_some_iff.mp e2
      have hfL : f ∈ L := List.mem_iff_getElem?.mpr ⟨k, hf⟩
      have eg : (L.map pm).getD k 0 = pm f := by rw [List.getD_eq_getElem?_getD, List.getElem?_map, hf]; rfl
      rw [eg, ← List.map_drop]
      have r := finL_ok (M := L.map pm) (d := d) h h64 ho hT hz hfL (by rw [hp]; exact e3) (fun o y b T h1 h2 h3 => ih o y (s + 1) b T h1 h2 h3 (by omega)) (L.drop k) k y b rfl
      refine ⟨r.1, r.2.1, fun P hP _ => r.2.2 P hP (fun j x hj hjx px tx => ?_)⟩
      have hxL : x ∈ L := List.mem_iff_getElem?.mpr ⟨j, hjx⟩
      exact absurd (Cmp_pos ho hxL hP px tx) (e4 j (pm x) hj (by rw [List.getElem?_map, hjx]; rfl))
theorem seek_2 {ap : Int32 → Int32 → Bool} {pm : Int32 → Int32} {L : List Int32} {o : Int32} (h : GP ap pm L o) (h64 : L.length ≤ 64) (h8 : lmx (L.map pm) o ≤ 8) {d : Nat} (hd : 9 ≤ d) : (seek ap L L [] (0, -1)).2 = finE (L.map pm) d o 0 0 28 := by
  obtain ⟨c, P, hP, hz⟩ := GP_max h
  have h9 : ∀ P, Pk ap L P → sz L P ≤ 8 := fun P q => Nat.le_trans (c P q) h8
  have s := (seek_s h.1 h.2.1 L [] [] (0, -1) (fun _ => false) rfl rfl (fun x hx => by cases hx)).2
  have r := finE_ok h h64 h9 d o 0 0 28 (fun _ => false) (fun g hg => ⟨fun _ x hx q => (by cases q), fun _ => h.2.2.2.2 g hg⟩) (fun x hx y hy q => by cases q) (by
    have e : sz L (fun _ => false) = 0 := by
      unfold sz
      rw [List.filter_eq_nil_iff.mpr (fun x hx q => by cases q)]
      rfl
    rw [e]
    rfl) (by omega)
  have cm : ∀ Q, MX ap L Q → Cmp ap L (fun _ => false) 0 Q := fun Q q => ⟨q, fun x hx z => (by cases z), fun i x hi _ _ => tb_ze (by have := (List.getElem?_eq_some_iff.mp hi).1; omega)⟩
  generalize finE (L.map pm) d o 0 0 28 = v at r ⊢
  obtain ⟨r1, r2, r3⟩ := r
  have k0 := (seek_c h.1 hP L [] [] (0, -1) rfl rfl).2
  rcases r2 with e | ⟨Q, hQ, e⟩
  · have := r3 P (cm P hP) trivial
    have := h9 P hP.1
    omega
  · have k := (seek_c h.1 hQ L [] [] (0, -1) rfl rfl).2
    rcases s with s | ⟨Q2, hQ2, s⟩
    · exact absurd s k0.1
    · have := r3 Q2 (cm Q2 hQ2) trivial
      omega
