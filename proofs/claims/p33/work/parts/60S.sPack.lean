/-! collections of groups of which no two have two people together -/
def apA (ap : Int32 → Int32 → Bool) (A : List Int32) (h : Int32) : Bool := A.all (fun x => ap x h)
theorem apA_y {ap : Int32 → Int32 → Bool} {A : List Int32} {h : Int32} : apA ap A h = true ↔ ∀ x ∈ A, ap x h = true := List.all_eq_true
theorem apA_n {ap : Int32 → Int32 → Bool} {A : List Int32} {h : Int32} (q : ¬ apA ap A h = true) : ∃ x ∈ A, ap x h = false := by
  obtain ⟨x, h1, h2⟩ := List.all_eq_false.mp (Bool.eq_false_iff.mpr q)
  exact ⟨x, h1, Bool.eq_false_iff.mpr h2⟩
def seek (ap : Int32 → Int32 → Bool) (L : List Int32) : List Int32 → List Int32 → Int × Int → Int × Int
  | [], A, z => if L.all (fun h => !(apA ap A h)) = true then (if z.1 < (A.length : Int) then (A.length : Int) else z.1, if z.2 = -1 then (A.length : Int) else if z.2 ≤ (A.length : Int) then z.2 else (A.length : Int)) else z
  | g :: R, A, z => seek ap L R A (if apA ap A g = true then seek ap L R (A ++ [g]) z else z)
theorem seek_nil {ap : Int32 → Int32 → Bool} {L A : List Int32} {z : Int × Int} : seek ap L [] A z = if L.all (fun h => !(apA ap A h)) = true then (if z.1 < (A.length : Int) then (A.length : Int) else z.1, if z.2 = -1 then (A.length : Int) else if z.2 ≤ (A.length : Int) then z.2 else (A.length : Int)) else z := rfl
theorem seek_cons {ap : Int32 → Int32 → Bool} {L R A : List Int32} {g : Int32} {z : Int × Int} : seek ap L (g :: R) A z = seek ap L R A (if apA ap A g = true then seek ap L R (A ++ [g]) z else z) := rfl
def Pk (ap : Int32 → Int32 → Bool) (L : List Int32) (P : Int32 → Bool) : Prop := ∀ x ∈ L, ∀ y ∈ L, P x = true → P y = true → x ≠ y → ap x y = true
def MX (ap : Int32 → Int32 → Bool) (L : List Int32) (P : Int32 → Bool) : Prop := Pk ap L P ∧ ∀ h ∈ L, ∃ x ∈ L, P x = true ∧ ap x h = false
def sz (L : List Int32) (P : Int32 → Bool) : Nat := (L.filter P).length
def adP (P : Int32 → Bool) (g : Int32) (x : Int32) : Bool := if x = g then true else P x
def rmP (P : Int32 → Bool) (g : Int32) (x : Int32) : Bool := if x = g then false else P x
theorem adP_y (P : Int32 → Bool) (g : Int32) : adP P g g = true := if_pos rfl
theorem adP_n {P : Int32 → Bool} {g x : Int32} (h : x ≠ g) : adP P g x = P x := if_neg h
theorem rmP_n {P : Int32 → Bool} {g x : Int32} (h : x ≠ g) : rmP P g x = P x := if_neg h
theorem rmP_y (P : Int32 → Bool) (g : Int32) : rmP P g g = false := if_pos rfl
theorem adP_or {P : Int32 → Bool} {g x : Int32} (h : adP P g x = true) : x = g ∨ P x = true := by
  by_cases c : x = g
  · exact Or.inl c
  · rw [adP_n c] at h
    exact Or.inr h
theorem adP_of {P : Int32 → Bool} {g x : Int32} (h : P x = true) : adP P g x = true := by
  by_cases c : x = g
  · rw [c]
    exact adP_y P g
  · rw [adP_n c]
    exact h
theorem fil_not {L : List Int32} {P Q : Int32 → Bool} (h : ∀ x ∈ L, P x = Q x) : L.filter P = L.filter Q := List.filter_congr h
theorem sz_mono {P Q : Int32 → Bool} : ∀ L : List Int32, (∀ x ∈ L, P x = true → Q x = true) → sz L P ≤ sz L Q
  | [], _ => Nat.le_refl _
  | g :: L, h => by
    have ih := sz_mono L (fun x hx => h x (List.mem_cons_of_mem _ hx))
    unfold sz at ih ⊢
    by_cases c : P g = true
    · rw [List.filter_cons_of_pos c, List.filter_cons_of_pos (h g (List.mem_cons_self) c), List.length_cons, List.length_cons]
      omega
    · rw [List.filter_cons_of_neg c]
      by_cases d : Q g = true
      · rw [List.filter_cons_of_pos d, List.length_cons]
        omega
      · rw [List.filter_cons_of_neg d]
        exact ih
theorem sz_add {P : Int32 → Bool} {h : Int32} : ∀ L : List Int32, L.Nodup → h ∈ L → P h = false → sz L (adP P h) = sz L P + 1
  | [], _, hm, _ => by cases hm
  | g :: L, hn, hm, hp => by
    obtain ⟨n1, n2⟩ := List.nodup_cons.mp hn
    unfold sz
    by_cases c : g = h
    · have e : L.filter (adP P h) = L.filter P := fil_not (fun x hx => adP_n (fun z => n1 (by rw [c, ← z]; exact hx)))
      rw [List.filter_cons_of_pos (by rw [c]; exact adP_y P h), List.filter_cons_of_neg (by rw [c, hp]; exact fun z => by cases z), List.length_cons, e]
    · have hm2 : h ∈ L := by
        rcases List.mem_cons.mp hm with z | z
        · exact absurd z.symm c
        · exact z
      have ih := sz_add L n2 hm2 hp
      unfold sz at ih
      by_cases d : P g = true
      · rw [List.filter_cons_of_pos d, List.filter_cons_of_pos (by rw [adP_n c]; exact d), List.length_cons, List.length_cons, ih]
      · rw [List.filter_cons_of_neg d, List.filter_cons_of_neg (by rw [adP_n c]; exact d), ih]
theorem seek_m {ap : Int32 → Int32 → Bool} {L : List Int32} : ∀ (R A : List Int32) (z : Int × Int), z.1 ≤ (seek ap L R A z).1 ∧ ∀ k : Int, (¬ z.2 = -1 ∧ z.2 ≤ k) → (¬ (seek ap L R A z).2 = -1 ∧ (seek ap L R A z).2 ≤ k)
  | [], A, z => by
    rw [seek_nil]
    by_cases c : L.all (fun h => !(apA ap A h)) = true
    · rw [if_pos c]
      refine ⟨?_, fun k hk => ?_⟩
      · show z.1 ≤ if z.1 < (A.length : Int) then (A.length : Int) else z.1
        split <;> omega
      · show ¬ (if z.2 = -1 then (A.length : Int) else if z.2 ≤ (A.length : Int) then z.2 else (A.length : Int)) = -1 ∧ (if z.2 = -1 then (A.length : Int) else if z.2 ≤ (A.length : Int) then z.2 else (A.length : Int)) ≤ k
        rw [if_neg hk.1]
        split <;> omega
    · rw [if_neg c]
      exact ⟨Int.le_refl _, fun k hk => hk⟩
  | g :: R, A, z => by
    rw [seek_cons]
    by_cases c : apA ap A g = true
    · rw [if_pos c]
      have i1 := seek_m (ap := ap) (L := L) R (A ++ [g]) z
      have i2 := seek_m (ap := ap) (L := L) R A (seek ap L R (A ++ [g]) z)
      exact ⟨Int.le_trans i1.1 i2.1, fun k hk => i2.2 k (i1.2 k hk)⟩
    · rw [if_neg c]
      exact seek_m R A z
theorem nodup_mid {pre R : List Int32} {g x : Int32} (h : (pre ++ g :: R).Nodup) (hx : x ∈ pre) : x ≠ g := fun e => (List.nodup_append.mp h).2.2 x hx g (List.mem_cons_self) e
theorem seek_c {ap : Int32 → Int32 → Bool} {L : List Int32} {P : Int32 → Bool} (hn : L.Nodup) (hP : MX ap L P) : ∀ (R A pre : List Int32) (z : Int × Int), L = pre ++ R → A = pre.filter P → ((sz L P : Int) ≤ (seek ap L R A z).1 ∧ ¬ (seek ap L R A z).2 = -1 ∧ (seek ap L R A z).2 ≤ (sz L P : Int))
  | [], A, pre, z, hL, hA => by
    rw [List.append_nil] at hL
    have hl : A.length = sz L P := by rw [hA, ← hL]; rfl
    have c : L.all (fun h => !(apA ap A h)) = true := List.all_eq_true.mpr (fun h hh => by
      obtain ⟨x, h1, h2, h3⟩ := hP.2 h hh
      have hx : x ∈ A := by rw [hA, ← hL]; exact List.mem_filter.mpr ⟨h1, h2⟩
      have : ¬ apA ap A h = true := fun q => by rw [apA_y.mp q x hx] at h3; cases h3
      rw [Bool.eq_false_iff.mpr this]
      rfl)
    rw [seek_nil]
    rw [if_pos c]
    refine ⟨?_, ?_, ?_⟩
    · show (sz L P : Int) ≤ if z.1 < (A.length : Int) then (A.length : Int) else z.1
      split <;> omega
    · show ¬ (if z.2 = -1 then (A.length : Int) else if z.2 ≤ (A.length : Int) then z.2 else (A.length : Int)) = -1
      split
      · omega
      · split <;> omega
    · show (if z.2 = -1 then (A.length : Int) else if z.2 ≤ (A.length : Int) then z.2 else (A.length : Int)) ≤ (sz L P : Int)
      split
      · omega
      · split <;> omega
  | g :: R, A, pre, z, hL, hA => by
    have hn2 : (pre ++ g :: R).Nodup := by rw [← hL]; exact hn
    have hL2 : L = (pre ++ [g]) ++ R := by rw [List.append_assoc]; exact hL
    have gL : g ∈ L := by rw [hL]; exact List.mem_append_right _ (List.mem_cons_self)
    rw [seek_cons]
    by_cases c : P g = true
    · have ca : apA ap A g = true := apA_y.mpr (fun x hx => by
        rw [hA] at hx
        obtain ⟨h1, h2⟩ := List.mem_filter.mp hx
        exact hP.1 x (by rw [hL]; exact List.mem_append_left _ h1) g gL h2 c (nodup_mid hn2 h1))
      rw [if_pos ca]
      have i1 := seek_c hn hP R (A ++ [g]) (pre ++ [g]) z hL2 (by rw [hA, List.filter_append, List.filter_cons_of_pos c, List.filter_nil])
      have i2 := seek_m (ap := ap) (L := L) R A (seek ap L R (A ++ [g]) z)
      exact ⟨Int.le_trans i1.1 i2.1, i2.2 _ i1.2⟩
    · exact seek_c hn hP R A (pre ++ [g]) _ hL2 (by rw [hA, List.filter_append, List.filter_cons_of_neg c, List.filter_nil, List.append_nil])
theorem seek_s {ap : Int32 → Int32 → Bool} {L : List Int32} (hn : L.Nodup) (hs : ∀ x y, ap x y = ap y x) : ∀ (R A pre : List Int32) (z : Int × Int) (Q : Int32 → Bool), L = pre ++ R → A = pre.filter Q → Pk ap pre Q → ((seek ap L R A z).1 = z.1 ∨ ∃ P, MX ap L P ∧ (seek ap L R A z).1 = (sz L P : Int)) ∧ ((seek ap L R A z).2 = z.2 ∨ ∃ P, MX ap L P ∧ (seek ap L R A z).2 = (sz L P : Int))
  | [], A, pre, z, Q, hL, hA, hQ => by
    rw [List.append_nil] at hL
    have hl : A.length = sz L Q := by rw [hA, ← hL]; rfl
    rw [seek_nil]
    by_cases c : L.all (fun h => !(apA ap A h)) = true
    · have hM : MX ap L Q := ⟨by rw [hL]; exact hQ, fun h hh => by
        have q := List.all_eq_true.mp c h hh
        have q2 : ¬ apA ap A h = true := fun e => by rw [e] at q; cases q
        obtain ⟨x, h1, h2⟩ := apA_n q2
        rw [hA, ← hL] at h1
        exact ⟨x, (List.mem_filter.mp h1).1, (List.mem_filter.mp h1).2, h2⟩⟩
      rw [if_pos c]
      refine ⟨?_, ?_⟩
      · show (if z.1 < (A.length : Int) then (A.length : Int) else z.1) = z.1 ∨ ∃ P, MX ap L P ∧ (if z.1 < (A.length : Int) then (A.length : Int) else z.1) = (sz L P : Int)
        by_cases d : z.1 < (A.length : Int)
        · rw [if_pos d]
          exact Or.inr ⟨Q, hM, by rw [hl]⟩
        · rw [if_neg d]
          exact Or.inl rfl
      · show (if z.2 = -1 then (A.length : Int) else if z.2 ≤ (A.length : Int) then z.2 else (A.length : Int)) = z.2 ∨ ∃ P, MX ap L P ∧ (if z.2 = -1 then (A.length : Int) else if z.2 ≤ (A.length : Int) then z.2 else (A.length : Int)) = (sz L P : Int)
        by_cases d : z.2 = -1
        · rw [if_pos d]
          exact Or.inr ⟨Q, hM, by rw [hl]⟩
        · rw [if_neg d]
          by_cases e : z.2 ≤ (A.length : Int)
          · rw [if_pos e]
            exact Or.inl rfl
          · rw [if_neg e]
            exact Or.inr ⟨Q, hM, by rw [hl]⟩
    · rw [if_neg c]
      exact ⟨Or.inl rfl, Or.inl rfl⟩
  | g :: R, A, pre, z, Q, hL, hA, hQ => by
    have hn2 : (pre ++ g :: R).Nodup := by rw [← hL]; exact hn
    have hL2 : L = (pre ++ [g]) ++ R := by rw [List.append_assoc]; exact hL
    have out : ∀ z1, ((seek ap L R A z1).1 = z1.1 ∨ ∃ P, MX ap L P ∧ (seek ap L R A z1).1 = (sz L P : Int)) ∧ ((seek ap L R A z1).2 = z1.2 ∨ ∃ P, MX ap L P ∧ (seek ap L R A z1).2 = (sz L P : Int)) := fun z1 => seek_s hn hs R A (pre ++ [g]) z1 (rmP Q g) hL2
      (by rw [hA, List.filter_append, List.filter_cons_of_neg (by rw [rmP_y]; exact fun e => by cases e), List.filter_nil, List.append_nil]; exact fil_not (fun x hx => (rmP_n (nodup_mid hn2 hx)).symm))
      (fun x hx y hy h1 h2 hne => by
        have nx : x ≠ g := fun e => by rw [e, rmP_y] at h1; cases h1
        have ny : y ≠ g := fun e => by rw [e, rmP_y] at h2; cases h2
        rw [rmP_n nx] at h1
        rw [rmP_n ny] at h2
        have mx : x ∈ pre := by
          rcases List.mem_append.mp hx with q | q
          · exact q
          · exact absurd (List.mem_singleton.mp q) nx
        have my : y ∈ pre := by
          rcases List.mem_append.mp hy with q | q
          · exact q
          · exact absurd (List.mem_singleton.mp q) ny
        exact hQ x mx y my h1 h2 hne)
    rw [seek_cons]
    by_cases c : apA ap A g = true
    · rw [if_pos c]
      have inn := seek_s hn hs R (A ++ [g]) (pre ++ [g]) z (adP Q g) hL2
        (by rw [hA, List.filter_append, List.filter_cons_of_pos (adP_y Q g), List.filter_nil]; exact congrArg (· ++ [g]) (fil_not (fun x hx => (adP_n (nodup_mid hn2 hx)).symm)))
        (fun x hx y hy h1 h2 hne => by
          have old : ∀ u, u ∈ pre ++ [g] → u ≠ g → adP Q g u = true → u ∈ A ∧ u ∈ pre ∧ Q u = true := fun u hu nu q => by
            rw [adP_n nu] at q
            have mu : u ∈ pre := by
              rcases List.mem_append.mp hu with q | q
              · exact q
              · exact absurd (List.mem_singleton.mp q) nu
            exact ⟨by rw [hA]; exact List.mem_filter.mpr ⟨mu, q⟩, mu, q⟩
          by_cases ex : x = g
          · have ny : y ≠ g := fun e => hne (ex.trans e.symm)
            rw [ex, hs]
            exact apA_y.mp c y (old y hy ny h2).1
          · by_cases ey : y = g
            · rw [ey]
              exact apA_y.mp c x (old x hx ex h1).1
            · exact hQ x (old x hx ex h1).2.1 y (old y hy ey h2).2.1 (old x hx ex h1).2.2 (old y hy ey h2).2.2 hne)
      have o2 := out (seek ap L R (A ++ [g]) z)
      refine ⟨?_, ?_⟩
      · rcases o2.1 with q | q
        · rw [q]
          exact inn.1
        · exact Or.inr q
      · rcases o2.2 with q | q
        · rw [q]
          exact inn.2
        · exact Or.inr q
    · rw [if_neg c]
      exact out z
/-! longest rows, by masks of pairs -/
def lmx : List Int32 → Int32 → Nat
  | [], _ => 0
  | p :: R, o => if (p &&& o) = p then max (1 + lmx R (o &&& ~~~p)) (lmx R o) else lmx R o
theorem lmx_y {p o : Int32} {R : List Int32} (h : (p &&& o) = p) : lmx (p :: R) o = max (1 + lmx R (o &&& ~~~p)) (lmx R o) := if_pos h
theorem lmx_n {p o : Int32} {R : List Int32} (h : ¬ (p &&& o) = p) : lmx (p :: R) o = lmx R o := if_neg h
theorem msk_bt {a o : Int32} : (a &&& o) = a ↔ ∀ i, i < 32 → bt a i = true → bt o i = true := by
  constructor
  · intro h i hi ha
    have e := bt_an a o i hi
    rw [h, ha, Bool.true_and] at e
    exact e.symm
  · intro h
    refine bt_all (fun i hi => ?_)
    rw [bt_an _ _ _ hi]
    cases e : bt a i
    · rfl
    · rw [h i hi e]
      rfl
theorem dis_bt {a b : Int32} : (a &&& b) = 0 ↔ ∀ i, i < 32 → bt a i = true → bt b i = false := by
  constructor
  · intro h i hi ha
    have e := bt_an a b i hi
    rw [h, ha, Bool.true_and, bt_ze i hi] at e
    exact e.symm
  · intro h
    refine bt_all (fun i hi => ?_)
    rw [bt_an _ _ _ hi, bt_ze i hi]
    cases e : bt a i
    · rfl
    · rw [h i hi e]
      rfl
theorem msk_rest {a o b : Int32} : (a &&& (o &&& ~~~b)) = a ↔ (a &&& o) = a ∧ (a &&& b) = 0 := by
  constructor
  · intro h
    have q := msk_bt.mp h
    have q2 : ∀ i, i < 32 → bt a i = true → bt o i = true ∧ bt b i = false := fun i hi ha => by
      have e := q i hi ha
      rw [bt_an _ _ _ hi, bt_no _ _ hi] at e
      obtain ⟨e1, e2⟩ := Bool.and_eq_true_iff.mp e
      exact ⟨e1, by rw [Bool.not_eq_true'] at e2; exact e2⟩
    exact ⟨msk_bt.mpr (fun i hi ha => (q2 i hi ha).1), dis_bt.mpr (fun i hi ha => (q2 i hi ha).2)⟩
  · intro h
    exact msk_bt.mpr (fun i hi ha => by rw [bt_an _ _ _ hi, bt_no _ _ hi, msk_bt.mp h.1 i hi ha, dis_bt.mp h.2 i hi ha]; rfl)
theorem dis_s {a b : Int32} : (a &&& b) = 0 ↔ (b &&& a) = 0 := by rw [Int32.and_comm]
theorem cdN_off {p o : Int32} (h : (p &&& o) = p) : ∀ k, k ≤ 32 → cdN (o &&& ~~~p) k + cdN p k = cdN o k
  | 0, _ => rfl
  | k + 1, hk => by
    have ih := cdN_off h k (by omega)
    show cdN (o &&& ~~~p) k + (if bt (o &&& ~~~p) k = true then 1 else 0) + (cdN p k + (if bt p k = true then 1 else 0)) = cdN o k + (if bt o k = true then 1 else 0)
    rw [bt_an _ _ _ (show k < 32 by omega), bt_no _ _ (show k < 32 by omega)]
    cases a : bt p k with
    | false =>
      rw [Bool.not_false, Bool.and_true]
      have : (if false = true then 1 else 0) = 0 := rfl
      omega
    | true =>
      rw [msk_bt.mp h k (by omega) a]
      have e1 : (if (true && !true) = true then 1 else 0) = 0 := rfl
      have e2 : (if true = true then 1 else 0) = 1 := rfl
      omega
theorem lmx_b {e : Nat} : ∀ (R : List Int32) (o : Int32), (∀ p ∈ R, cdN p 24 = e) → lmx R o * e ≤ cdN o 24
  | [], o, _ => by
    show 0 * e ≤ _
    rw [Nat.zero_mul]
    exact Nat.zero_le _
  | p :: R, o, h => by
    have hR : ∀ q ∈ R, cdN q 24 = e := fun q hq => h q (List.mem_cons_of_mem _ hq)
    have i2 := lmx_b R o hR
    by_cases c : (p &&& o) = p
    · rw [lmx_y c]
      have i1 := lmx_b R (o &&& ~~~p) hR
      have s := cdN_off c 24 (by decide)
      have hp := h p (List.mem_cons_self)
      rcases Nat.le_total (1 + lmx R (o &&& ~~~p)) (lmx R o) with q | q
      · rw [Nat.max_eq_right q]
        exact i2
      · rw [Nat.max_eq_left q, Nat.add_mul, Nat.one_mul]
        omega
    · rw [lmx_n c]
      exact i2
def lenL (e : Int) : List Int32 → Int32 → Int → Int → Int
  | [], _, _, b => b
  | p :: R, o, s, b => if (b + 1 - s) * e ≤ (cdN o 24 : Int) then lenL e R o s (if (p &&& o) = p then lenL e R (o &&& ~~~p) (s + 1) (if b < s + 1 then s + 1 else b) else b) else b
theorem lenL_c {e : Int} {p o : Int32} {R : List Int32} {s b : Int} : lenL e (p :: R) o s b = if (b + 1 - s) * e ≤ (cdN o 24 : Int) then lenL e R o s (if (p &&& o) = p then lenL e R (o &&& ~~~p) (s + 1) (if b < s + 1 then s + 1 else b) else b) else b := rfl
theorem mx_sp (a c : Int) : c ≤ (if c < a then a else c) ∧ a ≤ (if c < a then a else c) ∧ ((if c < a then a else c) = c ∨ (if c < a then a else c) = a) := by
  by_cases h : c < a
  · rw [if_pos h]
    omega
  · rw [if_neg h]
    omega
theorem lenL_eq {e : Nat} : ∀ (R : List Int32) (o : Int32) (s b : Int), (∀ p ∈ R, cdN p 24 = e) → s ≤ b → lenL (e : Int) R o s b = if b < s + (lmx R o : Int) then s + (lmx R o : Int) else b
  | [], o, s, b, _, hb => by
    show b = if b < s + ((0 : Nat) : Int) then s + ((0 : Nat) : Int) else b
    rw [if_neg (by omega)]
  | p :: R, o, s, b, h, hb => by
    have hR : ∀ q ∈ R, cdN q 24 = e := fun q hq => h q (List.mem_cons_of_mem _ hq)
    have bd := lmx_b (p :: R) o h
    rw [lenL_c]
    by_cases c : (b + 1 - s) * (e : Int) ≤ (cdN o 24 : Int)
    · rw [if_pos c]
      by_cases d : (p &&& o) = p
      · rw [if_pos d, lmx_y d]
        have A1 := mx_sp (s + 1) b
        generalize (if b < s + 1 then s + 1 else b) = b9 at A1 ⊢
        have i1 := lenL_eq R (o &&& ~~~p) (s + 1) b9 hR (by omega)
        have A2 := mx_sp (s + 1 + (lmx R (o &&& ~~~p) : Int)) b9
        rw [← i1] at A2
        generalize lenL (e : Int) R (o &&& ~~~p) (s + 1) b9 = X at A2 ⊢
        rw [lenL_eq R o s X hR (by omega)]
        have A3 := mx_sp (s + (lmx R o : Int)) X
        have A4 := mx_sp (s + ((max (1 + lmx R (o &&& ~~~p)) (lmx R o) : Nat) : Int)) b
        generalize (if X < s + (lmx R o : Int) then s + (lmx R o : Int) else X) = V at A3 ⊢
        generalize (if b < s + ((max (1 + lmx R (o &&& ~~~p)) (lmx R o) : Nat) : Int) then s + ((max (1 + lmx R (o &&& ~~~p)) (lmx R o) : Nat) : Int) else b) = W at A4 ⊢
        rcases Nat.le_total (1 + lmx R (o &&& ~~~p)) (lmx R o) with q | q
        · rw [Nat.max_eq_right q] at A4
          omega
        · rw [Nat.max_eq_left q] at A4
          omega
      · rw [if_neg d, lmx_n d]
        exact lenL_eq R o s b hR hb
    · rw [if_neg c]
      have : (lmx (p :: R) o : Int) < b + 1 - s := by
        refine Int.lt_of_not_ge (fun q => c ?_)
        have q2 : (b + 1 - s) * (e : Int) ≤ (lmx (p :: R) o : Int) * (e : Int) := Int.mul_le_mul_of_nonneg_right q (Int.natCast_nonneg _)
        have q3 : ((lmx (p :: R) o * e : Nat) : Int) ≤ (cdN o 24 : Int) := Int.ofNat_le.mpr bd
        rw [Int.natCast_mul] at q3
        exact Int.le_trans q2 q3
      rw [if_neg (by omega)]
theorem lmx_c {pm : Int32 → Int32} {P : Int32 → Bool} : ∀ (R : List Int32) (o : Int32), R.Nodup → (∀ g ∈ R, P g = true → (pm g &&& o) = pm g) → (∀ g ∈ R, ∀ h ∈ R, P g = true → P h = true → g ≠ h → (pm g &&& pm h) = 0) → sz R P ≤ lmx (R.map pm) o
  | [], _, _, _, _ => Nat.zero_le _
  | g :: R, o, hn, h1, h2 => by
    obtain ⟨n1, n2⟩ := List.nodup_cons.mp hn
    have t1 : ∀ x ∈ R, P x = true → (pm x &&& o) = pm x := fun x hx => h1 x (List.mem_cons_of_mem _ hx)
    have t2 : ∀ x ∈ R, ∀ y ∈ R, P x = true → P y = true → x ≠ y → (pm x &&& pm y) = 0 := fun x hx y hy => h2 x (List.mem_cons_of_mem _ hx) y (List.mem_cons_of_mem _ hy)
    rw [List.map_cons]
    by_cases c : P g = true
    · have d := h1 g (List.mem_cons_self) c
      have ih := lmx_c (pm := pm) (P := P) R (o &&& ~~~(pm g)) n2 (fun x hx px => msk_rest.mpr ⟨t1 x hx px, h2 x (List.mem_cons_of_mem _ hx) g (List.mem_cons_self) px c (fun e => n1 (by rw [← e]; exact hx))⟩) t2
      rw [lmx_y d]
      unfold sz at ih ⊢
      rw [List.filter_cons_of_pos c, List.length_cons]
      have m := Nat.le_max_left (1 + lmx (R.map pm) (o &&& ~~~(pm g))) (lmx (R.map pm) o)
      omega
    · have ih := lmx_c (pm := pm) (P := P) R o n2 t1 t2
      unfold sz at ih ⊢
      rw [List.filter_cons_of_neg c]
      by_cases d : (pm g &&& o) = pm g
      · rw [lmx_y d]
        have m := Nat.le_max_right (1 + lmx (R.map pm) (o &&& ~~~(pm g))) (lmx (R.map pm) o)
        omega
      · rw [lmx_n d]
        exact ih
theorem lmx_s {pm : Int32 → Int32} : ∀ (R : List Int32) (o : Int32), R.Nodup → ∃ P : Int32 → Bool, (∀ g ∈ R, P g = true → (pm g &&& o) = pm g) ∧ (∀ g ∈ R, ∀ h ∈ R, P g = true → P h = true → g ≠ h → (pm g &&& pm h) = 0) ∧ sz R P = lmx (R.map pm) o
  | [], _, _ => ⟨fun _ => false, fun g hg => (by cases hg), fun g hg => (by cases hg), rfl⟩
  | g :: R, o, hn => by
    obtain ⟨n1, n2⟩ := List.nodup_cons.mp hn
    have nx : ∀ x ∈ R, x ≠ g := fun x hx e => n1 (by rw [← e]; exact hx)
    have skip : ∃ P : Int32 → Bool, (∀ x ∈ g :: R, P x = true → (pm x &&& o) = pm x) ∧ (∀ x ∈ g :: R, ∀ y ∈ g :: R, P x = true → P y = true → x ≠ y → (pm x &&& pm y) = 0) ∧ sz (g :: R) P = lmx (R.map pm) o := by
      obtain ⟨P, p1, p2, p3⟩ := lmx_s (pm := pm) R o n2
      have inR : ∀ x, x ∈ g :: R → rmP P g x = true → x ∈ R ∧ P x = true := fun x hx q => by
        have ne : x ≠ g := fun e => by rw [e, rmP_y] at q; cases q
        rw [rmP_n ne] at q
        rcases List.mem_cons.mp hx with z | z
        · exact absurd z ne
        · exact ⟨z, q⟩
      refine ⟨rmP P g, fun x hx q => p1 x (inR x hx q).1 (inR x hx q).2, fun x hx y hy qx qy ne => p2 x (inR x hx qx).1 y (inR y hy qy).1 (inR x hx qx).2 (inR y hy qy).2 ne, ?_⟩
      unfold sz at p3 ⊢
      rw [List.filter_cons_of_neg (by rw [rmP_y]; exact fun e => by cases e), fil_not (fun x hx => rmP_n (nx x hx))]
      exact p3
    rw [List.map_cons]
    by_cases d : (pm g &&& o) = pm g
    · rw [lmx_y d]
      rcases Nat.le_total (1 + lmx (R.map pm) (o &&& ~~~(pm g))) (lmx (R.map pm) o) with q | q
      · rw [Nat.max_eq_right q]
        exact skip
      · rw [Nat.max_eq_left q]
        obtain ⟨P, p1, p2, p3⟩ := lmx_s (pm := pm) R (o &&& ~~~(pm g)) n2
        have inR : ∀ x, x ∈ g :: R → x ≠ g → adP P g x = true → x ∈ R ∧ P x = true := fun x hx ne q => by
          rw [adP_n ne] at q
          rcases List.mem_cons.mp hx with z | z
          · exact absurd z ne
          · exact ⟨z, q⟩
        refine ⟨adP P g, fun x hx q => ?_, fun x hx y hy qx qy ne => ?_, ?_⟩
        · by_cases e : x = g
          · rw [e]
            exact d
          · obtain ⟨r1, r2⟩ := inR x hx e q
            exact (msk_rest.mp (p1 x r1 r2)).1
        · by_cases ex : x = g
          · obtain ⟨r1, r2⟩ := inR y hy (fun e => ne (ex.trans e.symm)) qy
            rw [ex]
            exact dis_s.mp (msk_rest.mp (p1 y r1 r2)).2
          · obtain ⟨r1, r2⟩ := inR x hx ex qx
            by_cases ey : y = g
            · rw [ey]
              exact (msk_rest.mp (p1 x r1 r2)).2
            · obtain ⟨r3, r4⟩ := inR y hy ey qy
              exact p2 x r1 y r3 r2 r4 ne
        · unfold sz at p3 ⊢
          rw [List.filter_cons_of_pos (adP_y P g), fil_not (fun x hx => adP_n (nx x hx)), List.length_cons, p3]
          omega
    · rw [lmx_n d]
      exact skip
/-- what is asked of a list of groups, who is apart, and the masks of pairs -/
def GP (ap : Int32 → Int32 → Bool) (pm : Int32 → Int32) (L : List Int32) (o : Int32) : Prop := L.Nodup ∧ (∀ x y, ap x y = ap y x) ∧ (∀ x ∈ L, ∀ y ∈ L, ((pm x &&& pm y) = 0 ↔ ap x y = true)) ∧ (∀ x ∈ L, ap x x = false) ∧ (∀ x ∈ L, (pm x &&& o) = pm x)
theorem GP_max {ap : Int32 → Int32 → Bool} {pm : Int32 → Int32} {L : List Int32} {o : Int32} (h : GP ap pm L o) : (∀ P, Pk ap L P → sz L P ≤ lmx (L.map pm) o) ∧ ∃ P, MX ap L P ∧ sz L P = lmx (L.map pm) o := by
  obtain ⟨hn, hs, hd, hi, ho⟩ := h
  have c : ∀ P, Pk ap L P → sz L P ≤ lmx (L.map pm) o := fun P hP => lmx_c L o hn (fun g hg _ => ho g hg) (fun g hg x hx q1 q2 ne => (hd g hg x hx).mpr (hP g hg x hx q1 q2 ne))
  refine ⟨c, ?_⟩
  obtain ⟨P, p1, p2, p3⟩ := lmx_s (pm := pm) L o hn
  have hP : Pk ap L P := fun x hx y hy q1 q2 ne => (hd x hx y hy).mp (p2 x hx y hy q1 q2 ne)
  refine ⟨P, ⟨hP, fun g hg => ?_⟩, p3⟩
  refine Classical.byContradiction (fun no => ?_)
  have all : ∀ x ∈ L, P x = true → ap x g = true := fun x hx q => Classical.byContradiction (fun z => no ⟨x, hx, q, Bool.eq_false_iff.mpr z⟩)
  have pg : P g = false := Bool.eq_false_iff.mpr (fun q => by have := all g hg q; rw [hi g hg] at this; cases this)
  have k : Pk ap L (adP P g) := fun x hx y hy q1 q2 ne => by
    by_cases ex : x = g
    · have ny : y ≠ g := fun e => ne (ex.trans e.symm)
      rw [adP_n ny] at q2
      rw [ex, hs]
      exact all y hy q2
    · rw [adP_n ex] at q1
      by_cases ey : y = g
      · rw [ey]
        exact all x hx q1
      · rw [adP_n ey] at q2
        exact hP x hx y hy q1 q2 ne
  have := c _ k
  rw [sz_add L hn hg pg] at this
  omega
theorem seek_1 {ap : Int32 → Int32 → Bool} {pm : Int32 → Int32} {L : List Int32} {o : Int32} (h : GP ap pm L o) : (seek ap L L [] (0, -1)).1 = (lmx (L.map pm) o : Int) := by
  obtain ⟨c, P, hP, hz⟩ := GP_max h
  have s := (seek_s h.1 h.2.1 L [] [] (0, -1) (fun _ => false) rfl rfl (fun x hx => by cases hx)).1
  have k := (seek_c h.1 hP L [] [] (0, -1) rfl rfl).1
  rw [hz] at k
  rcases s with s | ⟨Q, hQ, s⟩
  · have s : (seek ap L L [] (0, -1)).1 = 0 := s
    omega
  · have := c Q hQ.1
    omega
/-! the soonest end of a row -/
def tb (y : Int64) (i : Nat) : Bool := decide (¬ ((y >>> (Int64.ofNat i &&& 63)) &&& 1) = 0)
theorem sh_all64 : ∀ i : Fin 64, ((Int64.ofNat i.val &&& 63).toBitVec.smod 64).toNat = i.val := by decide +kernel
theorem tb_lsb (s : Int64) (i : Nat) (h : i < 64) : tb s i = s.toBitVec.getLsbD i := by
  have e := sh_all64 ⟨i, h⟩
  have e1 : (s >>> (Int64.ofNat i &&& 63)).toBitVec = s.toBitVec.sshiftRight i := by
    rw [Int64.toBitVec_shiftRight, BitVec.sshiftRight_eq', e]
  have gs : (s.toBitVec.sshiftRight i).getLsbD 0 = s.toBitVec.getLsbD i := by
    rw [BitVec.getLsbD_sshiftRight, if_pos (by omega)]
    simp
  have o0 : (1 : Int64).toBitVec.getLsbD 0 = true := by decide
  have oj : ∀ j, j < 64 → ¬ j = 0 → (1 : Int64).toBitVec.getLsbD j = false := by decide
  have e2 : (s >>> (Int64.ofNat i &&& 63) &&& 1) = 0 ↔ s.toBitVec.getLsbD i = false := by
    rw [← Int64.toBitVec_inj, Int64.toBitVec_and, e1]
    constructor
    · intro hz
      have g := congrArg (fun x : BitVec 64 => x.getLsbD 0) hz
      have g : (s.toBitVec.sshiftRight i &&& (1 : Int64).toBitVec).getLsbD 0 = (0 : Int64).toBitVec.getLsbD 0 := g
      rw [BitVec.getLsbD_and, gs, o0, Bool.and_true] at g
      rw [g]
      decide
    · intro hz
      apply BitVec.eq_of_getLsbD_eq
      intro j hj
      rw [BitVec.getLsbD_and]
      have z : (0 : Int64).toBitVec.getLsbD j = false := by
        show (0#64).getLsbD j = false
        simp
      rw [z]
      by_cases c : j = 0
      · subst c
        rw [gs, hz, Bool.false_and]
      · rw [oj j hj c, Bool.and_false]
  unfold tb
  cases g : s.toBitVec.getLsbD i with
  | false => rw [decide_eq_false_iff_not]; exact fun q => q (e2.mpr g)
  | true => rw [decide_eq_true_iff]; exact fun q => by rw [e2.mp q] at g; cases g
theorem tb_1 : ∀ i : Fin 64, ∀ j : Fin 64, tb ((1 : Int64) <<< (Int64.ofNat i.val &&& 63)) j.val = decide (j.val = i.val) := by decide +kernel
theorem tb_or {y : Int64} {i j : Nat} (hi : i < 64) (hj : j < 64) : tb (y ||| ((1 : Int64) <<< (Int64.ofNat i &&& 63))) j = (tb y j || decide (j = i)) := by
  rw [tb_lsb _ _ hj, Int64.toBitVec_or, BitVec.getLsbD_or, ← tb_lsb _ _ hj, ← tb_lsb _ _ hj, tb_1 ⟨i, hi⟩ ⟨j, hj⟩]
theorem tb_ze {j : Nat} (hj : j < 64) : tb 0 j = false := by
  rw [tb_lsb _ _ hj]
  show (0#64).getLsbD j = false
  simp
def fpI (o : Int32) : List Int32 → Nat → Int
  | [], _ => -1
  | p :: R, i => if (p &&& o) = p then (i : Int) else fpI o R (i + 1)
def finL (rc : Int32 → Int64 → Int → Int → Int) (o pf : Int32) (s : Int) : List Int32 → Nat → Int64 → Int → Int
  | [], _, _, b => b
  | p :: R, i, y, b => if b ≤ s + 1 then b else if ¬ (p &&& pf) = 0 ∧ (p &&& o) = p ∧ tb y i = false then finL rc o pf s R (i + 1) (y ||| ((1 : Int64) <<< (Int64.ofNat i &&& 63))) (rc (o &&& ~~~p) y (s + 1) b) else finL rc o pf s R (i + 1) y b
def finE (M : List Int32) : Nat → Int32 → Int64 → Int → Int → Int
  | 0, _, _, _, b => b
  | d + 1, o, y, s, b => if fpI o M 0 = -1 then (if s < b then s else b) else finL (finE M d) o (M.getD (fpI o M 0).toNat 0) s (M.drop (fpI o M 0).toNat) (fpI o M 0).toNat y b
theorem finL_c {rc : Int32 → Int64 → Int → Int → Int} {o pf p : Int32} {s b : Int} {R : List Int32} {i : Nat} {y : Int64} : finL rc o pf s (p :: R) i y b = if b ≤ s + 1 then b else if ¬ (p &&& pf) = 0 ∧ (p &&& o) = p ∧ tb y i = false then finL rc o pf s R (i + 1) (y ||| ((1 : Int64) <<< (Int64.ofNat i &&& 63))) (rc (o &&& ~~~p) y (s + 1) b) else finL rc o pf s R (i + 1) y b := rfl
theorem fpI_n {o : Int32} : ∀ (M : List Int32) (i : Nat), fpI o M i = -1 → ∀ p ∈ M, ¬ (p &&& o) = p
  | [], _, _, p, hp => by cases hp
  | q :: M, i, h, p, hp => by
    have h : (if (q &&& o) = q then (i : Int) else fpI o M (i + 1)) = -1 := h
    by_cases c : (q &&& o) = q
    · rw [if_pos c] at h
      omega
    · rw [if_neg c] at h
      rcases List.mem_cons.mp hp with z | z
      · rw [z]
        exact c
      · exact fpI_n M (i + 1) h p z
theorem fpI_s {o : Int32} : ∀ (M : List Int32) (i : Nat), ¬ fpI o M i = -1 → ∃ (k : Nat) (p : Int32), fpI o M i = ((i + k : Nat) : Int) ∧ M[k]? = some p ∧ (p &&& o) = p ∧ ∀ j q, j < k → M[j]? = some q → ¬ (q &&& o) = q
  | [], _, h => absurd rfl h
  | q :: M, i, h => by
    have e : fpI o (q :: M) i = if (q &&& o) = q then (i : Int) else fpI o M (i + 1) := rfl
    rw [e] at h ⊢
    by_cases c : (q &&& o) = q
    · rw [if_pos c]
      exact ⟨0, q, rfl, rfl, c, fun j q2 hj => absurd hj (Nat.not_lt_zero j)⟩
    · rw [if_neg c] at h ⊢
      obtain ⟨k, p, h1, h2, h3, h4⟩ := fpI_s M (i + 1) h
      refine ⟨k + 1, p, by rw [h1]; congr 1; omega, by rw [List.getElem?_cons_succ]; exact h2, h3, fun j q2 hj hq => ?_⟩
      cases j with
      | zero =>
        rw [List.getElem?_cons_zero] at hq
        cases hq
        exact c
      | succ j =>
        rw [List.getElem?_cons_succ] at hq
        exact h4 j q2 (by omega) hq
/-- what is still open when T has been taken -/
def OpP (ap : Int32 → Int32 → Bool) (pm : Int32 → Int32) (L : List Int32) (o : Int32) (T : Int32 → Bool) : Prop := ∀ g ∈ L, ((pm g &&& o) = pm g ↔ ∀ x ∈ L, T x = true → ap x g = true)
theorem OpP_add {ap : Int32 → Int32 → Bool} {pm : Int32 → Int32} {L : List Int32} {o g : Int32} {T : Int32 → Bool} (hs : ∀ x y, ap x y = ap y x) (hd : ∀ x ∈ L, ∀ y ∈ L, ((pm x &&& pm y) = 0 ↔ ap x y = true)) (h : OpP ap pm L o T) (hg : g ∈ L) : OpP ap pm L (o &&& ~~~(pm g)) (adP T g) := fun x hx => by
  rw [msk_rest]
  constructor
  · intro q u hu tu
    rcases adP_or tu with e | e
    · rw [e, hs]
      exact (hd x hx g hg).mp q.2
    · exact (h x hx).mp q.1 u hu e
  · intro q
    exact ⟨(h x hx).mpr (fun u hu tu => q u hu (adP_of tu)), (hd x hx g hg).mpr (by rw [hs]; exact q g hg (adP_y T g))⟩
/-- P goes on from T to an end, with none of y -/
def Cmp (ap : Int32 → Int32 → Bool) (L : List Int32) (T : Int32 → Bool) (y : Int64) (P : Int32 → Bool) : Prop := MX ap L P ∧ (∀ x ∈ L, T x = true → P x = true) ∧ ∀ i x, L[i]? = some x → P x = true → T x = false → tb y i = false
def FinR (ap : Int32 → Int32 → Bool) (L : List Int32) (T : Int32 → Bool) (y : Int64) (b0 b : Int) (C : (Int32 → Bool) → Prop) : Prop := b ≤ b0 ∧ (b = b0 ∨ ∃ P, MX ap L P ∧ b = (sz L P : Int)) ∧ ∀ P, Cmp ap L T y P → C P → b ≤ (sz L P : Int)
theorem Cmp_blk {ap : Int32 → Int32 → Bool} {pm : Int32 → Int32} {L : List Int32} {o f : Int32} {T P : Int32 → Bool} {y : Int64} (ho : OpP ap pm L o T) (hf : f ∈ L) (hfo : (pm f &&& o) = pm f) (hP : Cmp ap L T y P) : ∃ x, x ∈ L ∧ P x = true ∧ T x = false ∧ ap x f = false := by
  obtain ⟨x, h1, h2, h3⟩ := hP.1.2 f hf
  refine ⟨x, h1, h2, Bool.eq_false_iff.mpr (fun q => ?_), h3⟩
  rw [(ho f hf).mp hfo x h1 q] at h3
  cases h3
theorem Cmp_pos {ap : Int32 → Int32 → Bool} {pm : Int32 → Int32} {L : List Int32} {o g : Int32} {T P : Int32 → Bool} {y : Int64} (ho : OpP ap pm L o T) (hg : g ∈ L) (hP : Cmp ap L T y P) (pg : P g = true) (tg : T g = false) : (pm g &&& o) = pm g := (ho g hg).mpr (fun x hx tx => hP.1.1 x hx g hg (hP.2.1 x hx tx) pg (fun e => by rw [e, tg] at tx; cases tx))
theorem finL_ok {ap : Int32 → Int32 → Bool} {pm : Int32 → Int32} {L M : List Int32} {o o0 f : Int32} {T : Int32 → Bool} {s : Int} {d : Nat} (h : GP ap pm L o0) (h64 : L.length ≤ 64) (ho : OpP ap pm L o T) (hT : Pk ap L T) (hz : (sz L T : Int) = s) (hf : f ∈ L) (hfo : (pm f &&& o) = pm f)
    (ihd : ∀ (o : Int32) (y : Int64) (b : Int) (T : Int32 → Bool), OpP ap pm L o T → Pk ap L T → (sz L T : Int) = s + 1 → FinR ap L T y b (finE M d o y (s + 1) b) (fun _ => True)) : ∀ (R : List Int32) (i : Nat) (y : Int64) (b : Int), L.drop i = R → FinR ap L T y b (finL (finE M d) o (pm f) s (R.map pm) i y b) (fun P => ∀ j x, j < i → L[j]? = some x → P x = true → T x = false → ap x f = true) := by
  obtain ⟨hn, hs, hd, hi, hall⟩ := h
  intro R
  induction R with
  | nil =>
    intro i y b hR
    refine ⟨Int.le_refl _, Or.inl rfl, fun P hP hC => ?_⟩
    obtain ⟨x, h1, h2, h3, h4⟩ := Cmp_blk ho hf hfo hP
    obtain ⟨j, hj⟩ := List.mem_iff_getElem?.mp h1
    have hl := List.drop_eq_nil_iff.mp hR
    have hjl := (List.getElem?_eq_some_iff.mp hj).1
    rw [hC j x (by omega) hj h2 h3] at h4
    cases h4
  | cons g R ih =>
    intro i y b hR
    have hil : i < L.length := Nat.lt_of_not_le (fun q => by rw [List.drop_eq_nil_of_le q] at hR; cases hR)
    have hR2 := List.drop_eq_getElem_cons hil
    rw [hR] at hR2
    injection hR2 with eg eR
    have hgi : L[i]? = some g := by rw [List.getElem?_eq_getElem hil, ← eg]
    have hg : g ∈ L := List.mem_iff_getElem?.mpr ⟨i, hgi⟩
    rw [List.map_cons, finL_c]
    by_cases c1 : b ≤ s + 1
    · rw [if_pos c1]
      refine ⟨Int.le_refl _, Or.inl rfl, fun P hP _ => ?_⟩
      obtain ⟨x, h1, h2, h3, h4⟩ := Cmp_blk ho hf hfo hP
      have a1 := sz_add L hn h1 h3
      have a2 := sz_mono (P := adP T x) (Q := P) L (fun u hu q => by
        rcases adP_or q with e | e
        · rw [e]
          exact h2
        · exact hP.2.1 u hu e)
      omega
    · rw [if_neg c1]
      by_cases c2 : ¬ (pm g &&& pm f) = 0 ∧ (pm g &&& o) = pm g ∧ tb y i = false
      · rw [if_pos c2]
        obtain ⟨k1, k2, k3⟩ := c2
        have tg : T g = false := Bool.eq_false_iff.mpr (fun q => by have := (ho g hg).mp k2 g hg q; rw [hi g hg] at this; cases this)
        have hk : Pk ap L (adP T g) := fun x hx u hu q1 q2 ne => by
          by_cases ex : x = g
          · have nu : u ≠ g := fun e => ne (ex.trans e.symm)
            rw [adP_n nu] at q2
            rw [ex, hs]
            exact (ho g hg).mp k2 u hu q2
          · rw [adP_n ex] at q1
            by_cases eu : u = g
            · rw [eu]
              exact (ho g hg).mp k2 x hx q1
            · rw [adP_n eu] at q2
              exact hT x hx u hu q1 q2 ne
        have r1 := ihd (o &&& ~~~(pm g)) y b (adP T g) (OpP_add hs hd ho hg) hk (by rw [sz_add L hn hg tg]; omega)
        have r2 := ih (i + 1) (y ||| ((1 : Int64) <<< (Int64.ofNat i &&& 63))) (finE M d (o &&& ~~~(pm g)) y (s + 1) b) eR.symm
        obtain ⟨u1, u2, u3⟩ := r1
        obtain ⟨v1, v2, v3⟩ := r2
        refine ⟨Int.le_trans v1 u1, ?_, fun P hP hC => ?_⟩
        · rcases v2 with e | e
          · rw [e]
            exact u2
          · exact Or.inr e
        · by_cases pg : P g = true
          · refine Int.le_trans v1 (u3 P ⟨hP.1, fun x hx q => ?_, fun j x hj px q => hP.2.2 j x hj px (Bool.eq_false_iff.mpr (fun t9 => by rw [adP_of t9] at q; cases q))⟩ trivial)
            rcases adP_or q with e | e
            · rw [e]
              exact pg
            · exact hP.2.1 x hx e
          · have ng : ∀ x, x = g → ¬ P x = true := fun x e q => pg (by rw [← e]; exact q)
            refine v3 P ⟨hP.1, hP.2.1, fun j x hj px tx => ?_⟩ (fun j x hj hjx px tx => ?_)
            · have hjl := (List.getElem?_eq_some_iff.mp hj).1
              rw [tb_or (by omega) (by omega), hP.2.2 j x hj px tx]
              have : ¬ j = i := fun e => ng x (by rw [e, hgi] at hj; injection hj with z; exact z.symm) px
              rw [decide_eq_false this]
              rfl
            · by_cases e : j = i
              · exact absurd px (ng x (by rw [e, hgi] at hjx; injection hjx with z; exact z.symm))
              · exact hC j x (by omega) hjx px tx
      · rw [if_neg c2]
        obtain ⟨v1, v2, v3⟩ := ih (i + 1) y b eR.symm
        refine ⟨v1, v2, fun P hP hC => v3 P hP (fun j x hj hjx px tx => ?_)⟩
        by_cases e : j = i
        · rw [e, hgi] at hjx
          injection hjx with z
          rw [← z] at px tx ⊢
          refine Classical.byContradiction (fun no => c2 ⟨fun q => no ((hd g hg f hf).mp q), Cmp_pos ho hg hP px tx, hP.2.2 i g hgi px tx⟩)
        · exact hC j x (by omega) hjx px tx
theorem finE_ok {ap : Int32 → Int32 → Bool} {pm : Int32 → Int32} {L : List Int32} {o0 : Int32} (h : GP ap pm L o0) (h64 : L.length ≤ 64) (h8 : ∀ P, Pk ap L P → sz L P ≤ 8) : ∀ (d : Nat) (o : Int32) (y : Int64) (s b : Int) (T : Int32 → Bool), OpP ap pm L o T → Pk ap L T → (sz L T : Int) = s → 9 ≤ s + (d : Int) → FinR ap L T y b (finE (L.map pm) d o y s b) (fun _ => True) := by
  intro d
  induction d with
  | zero =>
    intro o y s b T ho hT hz hsd
    have := h8 T hT
    omega
  | succ d ih =>
    intro o y s b T ho hT hz hsd
    show FinR ap L T y b (if fpI o (L.map pm) 0 = -1 then (if s < b then s else b) else finL (finE (L.map pm) d) o ((L.map pm).getD (fpI o (L.map pm) 0).toNat 0) s ((L.map pm).drop (fpI o (L.map pm) 0).toNat) (fpI o (L.map pm) 0).toNat y b) (fun _ => True)
    by_cases c : fpI o (L.map pm) 0 = -1
    · rw [if_pos c]
      have no := fpI_n (L.map pm) 0 c
      have hM : MX ap L T := ⟨hT, fun g hg => Classical.byContradiction (fun z => no (pm g) (List.mem_map_of_mem hg) ((ho g hg).mpr (fun x hx tx => Classical.byContradiction (fun q => z ⟨x, hx, tx, Bool.eq_false_iff.mpr q⟩))))⟩
      by_cases c2 : s < b
      · rw [if_pos c2]
        refine ⟨by omega, Or.inr ⟨T, hM, hz.symm⟩, fun P hP _ => ?_⟩
        have := sz_mono L hP.2.1
        omega
      · rw [if_neg c2]
        refine ⟨Int.le_refl _, Or.inl rfl, fun P hP _ => ?_⟩
        have := sz_mono L hP.2.1
        omega
    · rw [if_neg c]
      obtain ⟨k, p, e1, e2, e3, e4⟩ := fpI_s (L.map pm) 0 c
      have ek : (fpI o (L.map pm) 0).toNat = k := by rw [e1]; omega
      rw [ek]
      rw [List.getElem?_map] at e2
      obtain ⟨f, hf, hp⟩ := Option.map_eq_some_iff.mp e2
      have hfL : f ∈ L := List.mem_iff_getElem?.mpr ⟨k, hf⟩
      have eg : (L.map pm).getD k 0 = pm f := by rw [List.getD_eq_getElem?_getD, List.getElem?_map, hf]; rfl
      rw [eg, ← List.map_drop]
      have r := finL_ok (M := L.map pm) (d := d) h h64 ho hT hz hfL (by rw [hp]; exact e3) (fun o y b T h1 h2 h3 => ih o y (s + 1) b T h1 h2 h3 (by omega)) (L.drop k) k y b rfl
      refine ⟨r.1, r.2.1, fun P hP _ => r.2.2 P hP (fun j x hj hjx px tx => ?_)⟩
      have hxL : x ∈ L := List.mem_iff_getElem?.mpr ⟨j, hjx⟩
      exact absurd (Cmp_pos ho hxL hP px tx) (e4 j (pm x) hj (by rw [List.getElem?_map, hjx]; rfl))
theorem seek_2 {ap : Int32 → Int32 → Bool} {pm : Int32 → Int32} {L : List Int32} {o : Int32} (h : GP ap pm L o) (h64 : L.length ≤ 64) (h8 : lmx (L.map pm) o ≤ 8) {d : Nat} (hd : 9 ≤ d) : (seek ap L L [] (0, -1)).2 = finE (L.map pm) d o 0 0 28 := by
  obtain ⟨c, P, hP, hz⟩ := GP_max h
  have h9 : ∀ P, Pk ap L P → sz L P ≤ 8 := fun P q => Nat.le_trans (c P q) h8
  have s := (seek_s h.1 h.2.1 L [] [] (0, -1) (fun _ => false) rfl rfl (fun x hx => by cases hx)).2
  have r := finE_ok h h64 h9 d o 0 0 28 (fun _ => false) (fun g hg => ⟨fun _ x hx q => (by cases q), fun _ => h.2.2.2.2 g hg⟩) (fun x hx y hy q => by cases q) (by
    have e : sz L (fun _ => false) = 0 := by
      unfold sz
      rw [List.filter_eq_nil_iff.mpr (fun x hx q => by cases q)]
      rfl
    rw [e]
    rfl) (by omega)
  have cm : ∀ Q, MX ap L Q → Cmp ap L (fun _ => false) 0 Q := fun Q q => ⟨q, fun x hx z => (by cases z), fun i x hi _ _ => tb_ze (by have := (List.getElem?_eq_some_iff.mp hi).1; omega)⟩
  generalize finE (L.map pm) d o 0 0 28 = v at r ⊢
  obtain ⟨r1, r2, r3⟩ := r
  have k0 := (seek_c h.1 hP L [] [] (0, -1) rfl rfl).2
  rcases r2 with e | ⟨Q, hQ, e⟩
  · have := r3 P (cm P hP) trivial
    have := h9 P hP.1
    omega
  · have k := (seek_c h.1 hQ L [] [] (0, -1) rfl rfl).2
    rcases s with s | ⟨Q2, hQ2, s⟩
    · exact absurd s k0.1
    · have := r3 Q2 (cm Q2 hQ2) trivial
      omega
/-! the pairs of strangers of a set as a mask -/
def pb (p q : Nat) : Nat := q * (q - 1) / 2 + p
def pmI (f : Nat → Nat → Bool) (q : Nat) : Nat → Int32 → Int32
  | 0, x => x
  | k + 1, x => if f k q = true then pmI f q k x ||| ((1 : Int32) <<< (Int32.ofNat (pb k q) &&& 31)) else pmI f q k x
def pmO (f : Nat → Nat → Bool) : Nat → Int32
  | 0 => 0
  | k + 1 => pmI f k k (pmO f k)
def fG (rel : Nat → Nat → Bool) (g : Int32) (p q : Nat) : Bool := bt g p && (bt g q && rel p q)
def pmG (rel : Nat → Nat → Bool) (N : Nat) (g : Int32) : Int32 := pmO (fG rel g) N
theorem pmI_y {f : Nat → Nat → Bool} {q k : Nat} {x : Int32} (h : f k q = true) : pmI f q (k + 1) x = pmI f q k x ||| ((1 : Int32) <<< (Int32.ofNat (pb k q) &&& 31)) := if_pos h
theorem pmI_n {f : Nat → Nat → Bool} {q k : Nat} {x : Int32} (h : ¬ f k q = true) : pmI f q (k + 1) x = pmI f q k x := if_neg h
theorem bt_32 : ∀ i : Fin 32, ∀ j : Fin 32, bt ((1 : Int32) <<< (Int32.ofNat j.val &&& 31)) i.val = decide (i.val = j.val) := by decide +kernel
theorem pb_lt : ∀ q : Fin 7, ∀ p : Fin 7, p.val < q.val → pb p.val q.val < 21 := by decide +kernel
theorem pb_in : ∀ q : Fin 7, ∀ p : Fin 7, ∀ q2 : Fin 7, ∀ p2 : Fin 7, p.val < q.val → p2.val < q2.val → pb p.val q.val = pb p2.val q2.val → p.val = p2.val ∧ q.val = q2.val := by decide +kernel
theorem pmI_bt {f : Nat → Nat → Bool} {q : Nat} {x : Int32} (hq : q < 7) {i : Nat} (hi : i < 32) : ∀ k, k ≤ q → (bt (pmI f q k x) i = true ↔ bt x i = true ∨ ∃ p, p < k ∧ f p q = true ∧ i = pb p q)
  | 0, _ => ⟨fun h => Or.inl h, fun h => by
      rcases h with h | ⟨p, h1, _⟩
      · exact h
      · exact absurd h1 (Nat.not_lt_zero _)⟩
  | k + 1, hk => by
    have ih := pmI_bt (f := f) (x := x) hq hi k (by omega)
    by_cases c : f k q = true
    · rw [pmI_y c, bt_or _ _ _ hi, bt_32 ⟨i, hi⟩ ⟨pb k q, Nat.lt_trans (pb_lt ⟨q, hq⟩ ⟨k, by omega⟩ (by show k < q; omega)) (by decide)⟩, Bool.or_eq_true_iff, ih]
      constructor
      · intro h
        rcases h with (h | ⟨p, h1, h2, h3⟩) | h
        · exact Or.inl h
        · exact Or.inr ⟨p, by omega, h2, h3⟩
        · exact Or.inr ⟨k, by omega, c, of_decide_eq_true h⟩
      · intro h
        rcases h with h | ⟨p, h1, h2, h3⟩
        · exact Or.inl (Or.inl h)
        · by_cases e : p = k
          · exact Or.inr (decide_eq_true (by show i = pb k q; rw [← e]; exact h3))
          · exact Or.inl (Or.inr ⟨p, by omega, h2, h3⟩)
    · rw [pmI_n c, ih]
      constructor
      · intro h
        rcases h with h | ⟨p, h1, h2, h3⟩
        · exact Or.inl h
        · exact Or.inr ⟨p, by omega, h2, h3⟩
      · intro h
        rcases h with h | ⟨p, h1, h2, h3⟩
        · exact Or.inl h
        · by_cases e : p = k
          · rw [e] at h2
            exact absurd h2 c
          · exact Or.inr ⟨p, by omega, h2, h3⟩
theorem pmO_bt {f : Nat → Nat → Bool} {i : Nat} (hi : i < 32) : ∀ k, k ≤ 7 → (bt (pmO f k) i = true ↔ ∃ p q, p < q ∧ q < k ∧ f p q = true ∧ i = pb p q)
  | 0, _ => ⟨fun h => (by
      have h : bt 0 i = true := h
      rw [bt_ze i hi] at h
      cases h), fun ⟨p, q, h1, h2, _⟩ => absurd h2 (Nat.not_lt_zero _)⟩
  | k + 1, hk => by
    have ih := pmO_bt (f := f) hi k (by omega)
    show bt (pmI f k k (pmO f k)) i = true ↔ _
    rw [pmI_bt (by omega) hi k (Nat.le_refl _), ih]
    constructor
    · intro h
      rcases h with ⟨p, q, h1, h2, h3, h4⟩ | ⟨p, h1, h2, h3⟩
      · exact ⟨p, q, h1, by omega, h3, h4⟩
      · exact ⟨p, k, h1, by omega, h2, h3⟩
    · intro ⟨p, q, h1, h2, h3, h4⟩
      by_cases e : q = k
      · rw [e] at h1 h3 h4
        exact Or.inr ⟨p, h1, h3, h4⟩
      · exact Or.inl ⟨p, q, h1, by omega, h3, h4⟩
theorem pmO_at {f : Nat → Nat → Bool} {N p q : Nat} (hN : N ≤ 7) (hp : p < q) (hq : q < N) : bt (pmO f N) (pb p q) = true ↔ f p q = true := by
  have hl := pb_lt ⟨q, by omega⟩ ⟨p, by omega⟩ hp
  have hl : pb p q < 21 := hl
  rw [pmO_bt (by omega) N hN]
  constructor
  · intro ⟨p2, q2, h1, h2, h3, h4⟩
    have e := pb_in ⟨q, by omega⟩ ⟨p, by omega⟩ ⟨q2, by omega⟩ ⟨p2, by omega⟩ hp h1 h4
    have e1 : p = p2 := e.1
    have e2 : q = q2 := e.2
    rw [e1, e2]
    exact h3
  · intro h
    exact ⟨p, q, hp, hq, h, rfl⟩
theorem pmO_r {f : Nat → Nat → Bool} {N : Nat} (hN : N ≤ 7) : 0 ≤ (pmO f N).toInt ∧ (pmO f N).toInt < 2097152 := by
  have z : ∀ i, 21 ≤ i → i < 32 → bt (pmO f N) i = false := fun i h1 h2 => Bool.eq_false_iff.mpr (fun q => by
    obtain ⟨p, q2, a1, a2, a3, a4⟩ := (pmO_bt h2 N hN).mp q
    have := pb_lt ⟨q2, by omega⟩ ⟨p, by omega⟩ a1
    have : pb p q2 < 21 := this
    omega)
  have hn : N32 (pmO f N) < 2 ^ 21 := Nat.lt_pow_two_of_testBit _ (fun i hi => by
    by_cases c : i < 32
    · have e := bt_lsb (pmO f N) i c
      rw [z i hi c] at e
      exact e.symm
    · exact Nat.testBit_lt_two_pow (Nat.lt_of_lt_of_le (pmO f N).toBitVec.isLt (Nat.pow_le_pow_right (by decide) (by omega))))
  have e := N_int (z := pmO f N) (by omega)
  omega
/-! two people together -/
theorem cdN_one {y : Int32} : ∀ k, 1 ≤ cdN y k → ∃ p, p < k ∧ bt y p = true
  | 0, h => by
    have : cdN y 0 = 0 := rfl
    omega
  | k + 1, h => by
    have e : cdN y (k + 1) = cdN y k + (if bt y k = true then 1 else 0) := rfl
    by_cases c : bt y k = true
    · exact ⟨k, by omega, c⟩
    · rw [if_neg c] at e
      obtain ⟨p, h1, h2⟩ := cdN_one (y := y) k (by omega)
      exact ⟨p, by omega, h2⟩
theorem cdN_two {y : Int32} : ∀ k, 2 ≤ cdN y k → ∃ p q, p < q ∧ q < k ∧ bt y p = true ∧ bt y q = true
  | 0, h => by
    have : cdN y 0 = 0 := rfl
    omega
  | k + 1, h => by
    have e : cdN y (k + 1) = cdN y k + (if bt y k = true then 1 else 0) := rfl
    by_cases c : bt y k = true
    · rw [if_pos c] at e
      by_cases d : 2 ≤ cdN y k
      · obtain ⟨p, q, h1, h2, h3⟩ := cdN_two k d
        exact ⟨p, q, h1, by omega, h3⟩
      · have h1 : 1 ≤ cdN y k := by omega
        obtain ⟨p, hp, hb⟩ := cdN_one k h1
        exact ⟨p, k, hp, by omega, hb, c⟩
    · rw [if_neg c] at e
      obtain ⟨p, q, h1, h2, h3⟩ := cdN_two (y := y) k (by omega)
      exact ⟨p, q, h1, by omega, h3⟩
theorem cdN_ge {y : Int32} {p : Nat} (hp : bt y p = true) : ∀ k, p < k → cdN y p + 1 ≤ cdN y k
  | 0, h => absurd h (Nat.not_lt_zero _)
  | k + 1, h => by
    have e : cdN y (k + 1) = cdN y k + (if bt y k = true then 1 else 0) := rfl
    by_cases c : p = k
    · rw [← c, if_pos hp] at e
      rw [← c]
      omega
    · have := cdN_ge hp k (by omega)
      omega
theorem two_cdN {y : Int32} {p q k : Nat} (h : p < q) (hq : q < k) (hp : bt y p = true) (hb : bt y q = true) : 2 ≤ cdN y k := by
  have a := cdN_ge hp q h
  have b := cdN_ge hb k hq
  omega
def apM (x h : Int32) : Bool := decide (cd (x &&& h) ≤ 1)
theorem apM_s (x y : Int32) : apM x y = apM y x := by
  unfold apM
  rw [Int32.and_comm]
theorem LW_rel {w : Tw} (hb : (0 ≤ w.1 ∧ w.1 ≤ 7) ∧ 2 ≤ w.2.2.2.1 ∧ w.2.2.2.1 ≤ 4) (hsy : SYM w) {g : Int32} (hg : g ∈ LW w) : (∀ p q, p < q → q < 8 → bt g p = true → bt g q = true → relW w p q = true) ∧ (∀ i, w.1.toNat ≤ i → i < 8 → bt g i = false) ∧ cd g = w.2.2.2.1.toNat := by
  have hr := LW_g hb g hg
  have hm := (DL_mem (relW w) (g := g) ⟨by omega, by omega⟩ w.1.toNat 0 w.2.2.2.1.toNat 0 (by omega) (by decide) (fun i _ h => bt_ze i (by omega))).mp hg
  have hz : ∀ i, w.1.toNat ≤ i → i < 8 → bt g i = false := fun i h1 h2 => hm.2.1 i (by omega) h2
  have hp2 : g.toInt < 2 ^ w.1.toNat := by
    have e := (ev_r (w := w) ⟨hb.1.1, by omega⟩)
    have s := sbs_x.mpr (LW_ev hb g hg)
    have a := i32_and g (evW w) e.1
    rw [s] at a
    omega
  have ig := (IG_mem (relW w) (N := w.1.toNat) (st := w.2.2.2.1.toNat) (g := g) (by omega) (by omega) hp2).mp hg
  refine ⟨fun p q h1 h2 bp bq => ?_, hz, ig.1⟩
  have hq : q < w.1.toNat := Nat.lt_of_not_le (fun z => by rw [hz q z h2] at bq; cases bq)
  have o := ig.2 q hq bq
  have o : ∀ j, j < q → bt g j = true → relW w q j = true := of_decide_eq_true o
  rw [relW_s hsy]
  exact o p h1 bp
theorem pm_dis {w : Tw} (hb : (0 ≤ w.1 ∧ w.1 ≤ 7) ∧ 2 ≤ w.2.2.2.1 ∧ w.2.2.2.1 ≤ 4) (hsy : SYM w) {x y : Int32} (hx : x ∈ LW w) (hy : y ∈ LW w) : (pmG (relW w) w.1.toNat x &&& pmG (relW w) w.1.toNat y) = 0 ↔ apM x y = true := by
  obtain ⟨x1, x2, x3⟩ := LW_rel hb hsy hx
  obtain ⟨y1, y2, y3⟩ := LW_rel hb hsy hy
  constructor
  · intro h
    refine decide_eq_true (Nat.le_of_not_lt (fun c => ?_))
    obtain ⟨p, q, h1, h2, h3, h4⟩ := cdN_two 8 c
    rw [bt_an _ _ _ (by omega)] at h3 h4
    obtain ⟨a1, a2⟩ := Bool.and_eq_true_iff.mp h3
    obtain ⟨b1, b2⟩ := Bool.and_eq_true_iff.mp h4
    have r := x1 p q h1 h2 a1 b1
    have hq : q < w.1.toNat := Nat.lt_of_not_le (fun z => by rw [x2 q z h2] at b1; cases b1)
    have hl := pb_lt ⟨q, by omega⟩ ⟨p, by omega⟩ h1
    have hl : pb p q < 21 := hl
    have m1 : bt (pmG (relW w) w.1.toNat x) (pb p q) = true := (pmO_at (by omega) h1 hq).mpr (by unfold fG; rw [a1, b1, r]; rfl)
    have m2 : bt (pmG (relW w) w.1.toNat y) (pb p q) = true := (pmO_at (by omega) h1 hq).mpr (by unfold fG; rw [a2, b2, r]; rfl)
    rw [dis_bt.mp h (pb p q) (by omega) m1] at m2
    cases m2
  · intro h
    have h := of_decide_eq_true h
    refine dis_bt.mpr (fun i hi m1 => Bool.eq_false_iff.mpr (fun m2 => ?_))
    obtain ⟨p, q, h1, h2, h3, h4⟩ := (pmO_bt hi w.1.toNat (by omega)).mp m1
    rw [h4] at m2
    have m2 := (pmO_at (by omega) h1 h2).mp m2
    obtain ⟨a1, a2⟩ := Bool.and_eq_true_iff.mp h3
    obtain ⟨a3, a4⟩ := Bool.and_eq_true_iff.mp a2
    obtain ⟨c1, c2⟩ := Bool.and_eq_true_iff.mp m2
    obtain ⟨c3, c4⟩ := Bool.and_eq_true_iff.mp c2
    have t := two_cdN (y := x &&& y) (k := 8) h1 (by omega) (by rw [bt_an _ _ _ (by omega), a1, c1]; rfl) (by rw [bt_an _ _ _ (by omega), a3, c3]; rfl)
    have h : cdN (x &&& y) 8 ≤ 1 := h
    omega
/-! how many pairs a group has -/
theorem cdN_one8 (x : Int32) {j : Nat} (hj : j < 24) (hx : bt x j = false) : ∀ k, k ≤ 32 → cdN (x ||| ((1 : Int32) <<< (Int32.ofNat j &&& 31))) k = cdN x k + (if j < k then 1 else 0)
  | 0, _ => rfl
  | k + 1, hk => by
    have ih := cdN_one8 x hj hx k (by omega)
    show cdN (x ||| ((1 : Int32) <<< (Int32.ofNat j &&& 31))) k + (if bt (x ||| ((1 : Int32) <<< (Int32.ofNat j &&& 31))) k = true then 1 else 0) = cdN x k + (if bt x k = true then 1 else 0) + (if j < k + 1 then 1 else 0)
    rw [ih, bt_or _ _ _ (show k < 32 by omega), bt_32 ⟨k, by omega⟩ ⟨j, by omega⟩]
    by_cases c : k = j
    · rw [decide_eq_true c, Bool.or_true, if_pos rfl, if_neg (by omega), if_pos (show j < k + 1 by omega), c, hx, if_neg (fun e => by cases e)]
    · rw [decide_eq_false c, Bool.or_false]
      by_cases d : j < k
      · rw [if_pos d, if_pos (show j < k + 1 by omega)]
        omega
      · rw [if_neg d, if_neg (show ¬ j < k + 1 by omega)]
        omega
def nI' (f : Nat → Nat → Bool) (q : Nat) : Nat → Nat
  | 0 => 0
  | k + 1 => nI' f q k + (if f k q = true then 1 else 0)
def nO (f : Nat → Nat → Bool) : Nat → Nat
  | 0 => 0
  | k + 1 => nO f k + nI' f k k
theorem pmI_cd {f : Nat → Nat → Bool} {q : Nat} (hq : q < 7) : ∀ k, k ≤ q → cdN (pmI f q k (pmO f q)) 24 = cdN (pmO f q) 24 + nI' f q k
  | 0, _ => rfl
  | k + 1, hk => by
    have ih := pmI_cd (f := f) hq k (by omega)
    have hl := pb_lt ⟨q, hq⟩ ⟨k, by omega⟩ (show k < q by omega)
    have hl : pb k q < 21 := hl
    by_cases c : f k q = true
    · have z : bt (pmI f q k (pmO f q)) (pb k q) = false := Bool.eq_false_iff.mpr (fun h => by
        rcases (pmI_bt hq (show pb k q < 32 by omega) k (by omega)).mp h with h | ⟨p, h1, h2, h3⟩
        · obtain ⟨p2, q2, a1, a2, a3, a4⟩ := (pmO_bt (show pb k q < 32 by omega) q (by omega)).mp h
          have e := (pb_in ⟨q, hq⟩ ⟨k, by omega⟩ ⟨q2, by omega⟩ ⟨p2, by omega⟩ (show k < q by omega) a1 a4).2
          have e : q = q2 := e
          omega
        · have e := (pb_in ⟨q, hq⟩ ⟨k, by omega⟩ ⟨q, hq⟩ ⟨p, by omega⟩ (show k < q by omega) (show p < q by omega) h3).1
          have e : k = p := e
          omega)
      rw [pmI_y c, cdN_one8 _ (by omega) z 24 (by decide), if_pos (by omega), ih]
      show _ = cdN (pmO f q) 24 + (nI' f q k + (if f k q = true then 1 else 0))
      rw [if_pos c]
      omega
    · rw [pmI_n c, ih]
      show _ = cdN (pmO f q) 24 + (nI' f q k + (if f k q = true then 1 else 0))
      rw [if_neg c]
      omega
theorem cdN_ze : ∀ k, k ≤ 32 → cdN 0 k = 0
  | 0, _ => rfl
  | k + 1, hk => by
    have ih := cdN_ze k (by omega)
    show cdN 0 k + (if bt 0 k = true then 1 else 0) = 0
    rw [ih, bt_ze k (by omega)]
    rfl
theorem pmO_cd {f : Nat → Nat → Bool} : ∀ k, k ≤ 7 → cdN (pmO f k) 24 = nO f k
  | 0, _ => cdN_ze 24 (by decide)
  | k + 1, hk => by
    have ih := pmO_cd (f := f) k (by omega)
    show cdN (pmI f k k (pmO f k)) 24 = nO f k + nI' f k k
    rw [pmI_cd (by omega) k (Nat.le_refl _), ih]
theorem nI_cd {g : Int32} {rel : Nat → Nat → Bool} {q : Nat} (hq : bt g q = true) (hr : ∀ p, p < q → bt g p = true → rel p q = true) : ∀ k, k ≤ q → nI' (fG rel g) q k = cdN g k
  | 0, _ => rfl
  | k + 1, hk => by
    have ih := nI_cd hq hr k (by omega)
    show nI' (fG rel g) q k + (if fG rel g k q = true then 1 else 0) = cdN g k + (if bt g k = true then 1 else 0)
    rw [ih]
    unfold fG
    rw [hq, Bool.true_and]
    cases c : bt g k
    · rfl
    · rw [hr k (by omega) c]
      rfl
theorem nIp_0 {g : Int32} {rel : Nat → Nat → Bool} {q : Nat} (hq : bt g q = false) : ∀ k, nI' (fG rel g) q k = 0
  | 0 => rfl
  | k + 1 => by
    have ih := nIp_0 (rel := rel) hq k
    show nI' (fG rel g) q k + (if fG rel g k q = true then 1 else 0) = 0
    rw [ih]
    unfold fG
    rw [hq, Bool.false_and, Bool.and_false]
    rfl
theorem nO_cd {g : Int32} {rel : Nat → Nat → Bool} (hr : ∀ p q, p < q → q < 8 → bt g p = true → bt g q = true → rel p q = true) : ∀ k, k ≤ 7 → 2 * nO (fG rel g) k + cdN g k = cdN g k * cdN g k
  | 0, _ => rfl
  | k + 1, hk => by
    have ih := nO_cd hr k (by omega)
    have e : cdN g (k + 1) = cdN g k + (if bt g k = true then 1 else 0) := rfl
    have e2 : nO (fG rel g) (k + 1) = nO (fG rel g) k + nI' (fG rel g) k k := rfl
    cases c : bt g k with
    | true =>
      rw [c, if_pos rfl] at e
      rw [nI_cd c (fun p hp bp => hr p k hp (by omega) bp c) k (Nat.le_refl _)] at e2
      have x : (cdN g k + 1) * (cdN g k + 1) = cdN g k * cdN g k + 2 * cdN g k + 1 := by
        rw [Nat.add_mul, Nat.mul_add]
        omega
      rw [e, e2, x]
      omega
    | false =>
      rw [c, if_neg (fun z => by cases z)] at e
      rw [nIp_0 c k] at e2
      rw [e, e2]
      omega
def eaN (w : Tw) : Nat := w.2.2.2.1.toNat * (w.2.2.2.1.toNat - 1) / 2
theorem pm_cd {w : Tw} (hb : (0 ≤ w.1 ∧ w.1 ≤ 7) ∧ 2 ≤ w.2.2.2.1 ∧ w.2.2.2.1 ≤ 4) (hsy : SYM w) {g : Int32} (hg : g ∈ LW w) : cdN (pmG (relW w) w.1.toNat g) 24 = eaN w := by
  obtain ⟨h1, h2, h3⟩ := LW_rel hb hsy hg
  have a := nO_cd h1 w.1.toNat (by omega)
  have z : cdN g w.1.toNat = cd g := by
    have e := cdN_cdR g (8 - w.1.toNat) w.1.toNat
    rw [cdR_z _ _ (fun i i1 i2 => h2 i i1 (by omega)), show w.1.toNat + (8 - w.1.toNat) = 8 by omega] at e
    exact e.symm
  unfold pmG
  rw [pmO_cd _ (by omega)]
  rw [z, h3] at a
  unfold eaN
  have s3 : w.2.2.2.1.toNat = 2 ∨ w.2.2.2.1.toNat = 3 ∨ w.2.2.2.1.toNat = 4 := by omega
  rcases s3 with s | s | s
  · rw [s] at a ⊢
    omega
  · rw [s] at a ⊢
    omega
  · rw [s] at a ⊢
    omega
/-! the groups are all different -/
theorem DL_low (rel : Nat → Nat → Bool) : ∀ (k p m : Nat) (s : Int32), p + k ≤ 8 → ∀ g ∈ DL rel k p m s, ∀ i, i < p → bt g i = bt s i := by
  intro k
  induction k with
  | zero =>
    intro p m s hk g hg i hi
    cases m with
    | zero =>
      rw [DL_m0] at hg
      rw [List.mem_singleton.mp hg]
    | succ m =>
      rw [DL_k0] at hg
      cases hg
  | succ k ih =>
    intro p m s hk g hg i hi
    cases m with
    | zero =>
      rw [DL_m0] at hg
      rw [List.mem_singleton.mp hg]
    | succ m =>
      by_cases o : okN rel s p p = true
      · rw [DL_y o] at hg
        rcases List.mem_append.mp hg with hg | hg
        · rw [ih (p + 1) m _ (by omega) g hg i (by omega), bt_p s (by omega) (by omega), decide_eq_false (by omega), Bool.or_false]
        · exact ih (p + 1) (m + 1) s (by omega) g hg i (by omega)
      · rw [DL_n o] at hg
        exact ih (p + 1) (m + 1) s (by omega) g hg i (by omega)
theorem DL_nd (rel : Nat → Nat → Bool) : ∀ (k p m : Nat) (s : Int32), p + k ≤ 8 → (∀ i, p ≤ i → i < 8 → bt s i = false) → (DL rel k p m s).Nodup := by
  intro k
  induction k with
  | zero =>
    intro p m s hk hs
    cases m with
    | zero =>
      rw [DL_m0]
      exact List.nodup_cons.mpr ⟨fun h => (by cases h), List.nodup_nil⟩
    | succ m =>
      rw [DL_k0]
      exact List.nodup_nil
  | succ k ih =>
    intro p m s hk hs
    have hs1 : ∀ i, p + 1 ≤ i → i < 8 → bt s i = false := fun i h1 h2 => hs i (by omega) h2
    cases m with
    | zero =>
      rw [DL_m0]
      exact List.nodup_cons.mpr ⟨fun h => (by cases h), List.nodup_nil⟩
    | succ m =>
      by_cases o : okN rel s p p = true
      · rw [DL_y o]
        refine List.nodup_append.mpr ⟨ih _ _ _ (by omega) (fun i h1 h2 => by rw [bt_p s (by omega) h2, hs1 i h1 h2, decide_eq_false (by omega)]; rfl), ih _ _ _ (by omega) hs1, fun a ha b hb e => ?_⟩
        have a1 := DL_sup rel k (p + 1) m _ a ha p (by omega) (by rw [bt_p s (by omega) (by omega), decide_eq_true rfl, Bool.or_true])
        have b1 := DL_low rel k (p + 1) (m + 1) s (by omega) b hb p (by omega)
        rw [← e, a1, hs p (Nat.le_refl _) (by omega)] at b1
        cases b1
      · rw [DL_n o]
        exact ih _ _ _ (by omega) hs1
/-- the masks of the groups of a town -/
def pmW (w : Tw) (g : Int32) : Int32 := pmG (relW w) w.1.toNat g
def paW (w : Tw) : Int32 := pmW w (evW w)
theorem GP_W {w : Tw} (hb : (0 ≤ w.1 ∧ w.1 ≤ 7) ∧ 2 ≤ w.2.2.2.1 ∧ w.2.2.2.1 ≤ 4) (hsy : SYM w) (h3 : ¬ w.2.2.2.1 = 2) : GP apM (pmW w) (LW w) (paW w) := by
  refine ⟨DL_nd _ _ _ _ _ (by omega) (fun i _ h => bt_ze i (by omega)), apM_s, fun x hx y hy => pm_dis hb hsy hx hy, fun x hx => ?_, fun x hx => ?_⟩
  · obtain ⟨_, _, c⟩ := LW_rel hb hsy hx
    refine decide_eq_false (fun q => ?_)
    rw [Int32.and_self, c] at q
    omega
  · have s := sbs_bt.mp (LW_ev hb x hx)
    refine msk_bt.mpr (fun i hi h => ?_)
    obtain ⟨p, q, h1, h2, h4, h5⟩ := (pmO_bt hi w.1.toNat (by omega)).mp h
    refine (pmO_bt hi w.1.toNat (by omega)).mpr ⟨p, q, h1, h2, ?_, h5⟩
    obtain ⟨a1, a2⟩ := Bool.and_eq_true_iff.mp h4
    obtain ⟨a3, a4⟩ := Bool.and_eq_true_iff.mp a2
    unfold fG
    rw [s p (by omega) a1, s q (by omega) a3, a4]
    rfl
theorem lmx_8 {w : Tw} (hb : (0 ≤ w.1 ∧ w.1 ≤ 7) ∧ 2 ≤ w.2.2.2.1 ∧ w.2.2.2.1 ≤ 4) (hsy : SYM w) (h3 : ¬ w.2.2.2.1 = 2) {o : Int32} : 3 ≤ eaN w ∧ lmx ((LW w).map (pmW w)) o * eaN w ≤ cdN o 24 ∧ (∀ p ∈ (LW w).map (pmW w), cdN p 24 = eaN w) := by
  have all : ∀ p ∈ (LW w).map (pmW w), cdN p 24 = eaN w := fun p hp => by
    obtain ⟨g, hg, e⟩ := List.mem_map.mp hp
    rw [← e]
    exact pm_cd hb hsy hg
  refine ⟨?_, lmx_b _ o all, all⟩
  unfold eaN
  have s3 : w.2.2.2.1.toNat = 3 ∨ w.2.2.2.1.toNat = 4 := by omega
  rcases s3 with s | s
  · rw [s]
    decide
  · rw [s]
    decide
theorem cdN_24 (y : Int32) : ∀ k, cdN y k ≤ k
  | 0 => Nat.le_refl _
  | k + 1 => by
    have ih := cdN_24 y k
    show cdN y k + (if bt y k = true then 1 else 0) ≤ k + 1
    split <;> omega
/-! the longest row and the soonest end, as X finds them -/
theorem b0_bt (y : Int32) : bt y 0 = true ↔ ¬ (y &&& 1) = 0 := by
  unfold bt
  rw [decide_eq_true_iff, show (Int32.ofNat 0 &&& 31) = (0 : Int32) by decide, Int32.shiftRight_zero]
theorem bt_sh (s : Int32) {x : Int32} (h : 0 ≤ x.toInt) : bt (s >>> (x &&& 31)) 0 = bt s x.toInt.toNat := Bool.eq_iff_iff.mpr ((b0_bt _).trans (bt_iff s h).symm)
theorem and3 {a s x y : Int32} (hx : 0 ≤ x.toInt) (hy : 0 ≤ y.toInt) : ((((a >>> (x &&& 31)) &&& (a >>> (y &&& 31))) &&& (s >>> (y &&& 31))) &&& 1) = 0 ↔ ¬ (bt a x.toInt.toNat && (bt a y.toInt.toNat && bt s y.toInt.toNat)) = true := by
  have h := b0_bt (((a >>> (x &&& 31)) &&& (a >>> (y &&& 31))) &&& (s >>> (y &&& 31)))
  rw [bt_an _ _ _ (by decide), bt_an _ _ _ (by decide), bt_sh a hx, bt_sh a hy, bt_sh s hy, Bool.and_assoc] at h
  exact ⟨fun q z => h.mp z q, fun q => Classical.byContradiction (fun z => q (h.mpr z))⟩
theorem pb_v : ∀ p : Fin 8, ∀ q : Fin 8, ((Int32.ofNat q.val * (Int32.ofNat q.val - 1)) / 2) + Int32.ofNat p.val = Int32.ofNat (pb p.val q.val) := by decide +kernel
theorem pb_x {x y : Int32} (hx : 0 ≤ x.toInt ∧ x.toInt < 8) (hy : 0 ≤ y.toInt ∧ y.toInt < 8) : ((y * (y - 1)) / 2) + x = Int32.ofNat (pb x.toInt.toNat y.toInt.toNat) := by
  have e := pb_v ⟨x.toInt.toNat, by omega⟩ ⟨y.toInt.toNat, by omega⟩
  rw [← i32_ofNat hx.1, ← i32_ofNat hy.1] at e
  exact e
theorem pX8_pairsIn_l {G : jdG} {n rc rs : Nat} {Z : jdL} {J : jdJ} {K : Int32 → jdI → jdJ → Prop} {I : jdI} {N st : Nat} {rel : Nat → Nat → Bool} {x1 : Int32} (ht : zTies Z 13) (hg : GX I N st rel) (hN : N ≤ 7) (hK : K (pmG rel N x1) I J) : ∀ m : Nat,
    (∀ x2 x3 : Int32, 1 ≤ x3.toInt → (x3.toInt ≤ (N : Int) ∨ x3.toInt = 1) → x2 = pmO (fG rel x1) x3.toInt.toNat → (8 - x3.toInt) * 10 < (m : Int) → Jd G mX8_pairsIn (jdFm G (qi Z K)) (n + 1) rc rs 4 [(0, .ref (gb G + 13)), (1, .int x1), (2, .int x2), (3, .int x3)] [] Z I J) ∧
    (∀ x2 x3 x4 : Int32, 1 ≤ x3.toInt → x3.toInt < (N : Int) → 0 ≤ x4.toInt → x4.toInt ≤ x3.toInt → x2 = pmI (fG rel x1) x3.toInt.toNat x4.toInt.toNat (pmO (fG rel x1) x3.toInt.toNat) → (8 - x3.toInt) * 10 - x4.toInt - 1 < (m : Int) → Jd G mX8_pairsIn (jdFm G (qi Z K)) (n + 1) rc rs 15 [(0, .ref (gb G + 13)), (1, .int x1), (2, .int x2), (3, .int x3), (4, .int x4)] [] Z I J) := by
  intro m
  induction m with
  | zero =>
    refine ⟨fun x2 x3 h1 h2 h3 hm => ?_, fun x2 x3 x4 h1 h2 h3 h4 h5 hm => ?_⟩ <;> omega
  | succ m ih =>
    have q1 : (1 : Int32).toInt = 1 := rfl
    have q0 : (0 : Int32).toInt = 0 := rfl
    have h6 := hg.1
    refine ⟨fun x2 x3 h1 h2 h3 hm => ?_, fun x2 x3 x4 h1 h2 h3 h4 h5 hm => ?_⟩
    · refine rX8_pairsIn_4 ht ⟨fun hc => ?_, fun hc => ?_⟩
      · have hc := Int32.le_iff_toInt_le.mp hc
        have e : pmO (fG rel x1) x3.toInt.toNat = pmG rel N x1 := by
          by_cases c : x3.toInt = (N : Int)
          · rw [show x3.toInt.toNat = N by omega]
            rfl
          · rw [show x3.toInt.toNat = 1 by omega, show N = 0 by omega]
            rfl
        rw [h3, e]
        exact hK
      · have hc := mt Int32.le_iff_toInt_le.mpr hc
        exact ih.2 x2 x3 0 h1 (by omega) (by decide) (by omega) (by rw [h3]; rfl) (by omega)
    · have e3 := i32_add x3 1 (by omega) (by omega)
      have e4 := i32_add x4 1 (by omega) (by omega)
      have n4 := tn_eq x4
      refine rX8_pairsIn_15 ht ⟨fun hc => ?_, fun hc => ?_⟩
      · have hc := Int32.le_iff_toInt_le.mp hc
        exact ih.1 x2 (x3 + 1) (by omega) (by omega) (by rw [h5, show x4.toInt.toNat = x3.toInt.toNat by omega, show (x3 + 1).toInt.toNat = x3.toInt.toNat + 1 by omega]; rfl) (by omega)
      · have hc := mt Int32.le_iff_toInt_le.mpr hc
        have et : Int32.toNatClampNeg x4 = x4.toInt.toNat := by omega
        have en : (x4 + 1).toInt.toNat = x4.toInt.toNat + 1 := by omega
        have b9 := GX_bt hg (by omega) (p := x4.toInt.toNat) (q := x3.toInt.toNat) (by omega) (by omega)
        rw [decide_eq_true (show x3.toInt.toNat < N by omega), decide_eq_true (show x3.toInt.toNat ≠ x4.toInt.toNat by omega), Bool.true_and, Bool.true_and] at b9
        refine ⟨vp_of (by omega) (by omega), fun hv => ?_, fun hv => ?_⟩
        · rw [et] at hv
          have hv := (and3 (by omega) (by omega)).mp hv
          rw [b9] at hv
          exact ih.2 x2 x3 (x4 + 1) h1 h2 (by omega) (by omega) (by rw [h5, en, pmI_n hv]) (by omega)
        · rw [et] at hv
          have hv : (bt x1 x4.toInt.toNat && (bt x1 x3.toInt.toNat && bt (I (13 + 1) x4.toInt.toNat) x3.toInt.toNat)) = true := Classical.byContradiction (fun z => hv ((and3 (by omega) (by omega)).mpr z))
          rw [b9] at hv
          refine eX8_pairBit ?_
          rw [pb_x ⟨h3, by omega⟩ ⟨by omega, by omega⟩]
          exact ih.2 _ x3 (x4 + 1) h1 h2 (by omega) (by omega) (by rw [h5, en, pmI_y hv]) (by omega)
theorem pX8_pairsIn {G : jdG} {n : Nat} {Z : jdL} {J : jdJ} {K : Int32 → jdI → jdJ → Prop} {I : jdI} {N st : Nat} {rel : Nat → Nat → Bool} {x1 : Int32} (ht : zTies Z 13) (hg : GX I N st rel) (hN : N ≤ 7) (hK : K (pmG rel N x1) I J) : Cl G mX8_pairsIn (n + 1) 0 0 [.ref (gb G + 13), .int x1] Z I J (qi Z K) :=
  eX8_pairsIn ht ((pX8_pairsIn_l ht hg hN hK 71).1 0 1 (by decide) (Or.inr rfl) rfl (by decide))
theorem pX8_listPairs_4 {G : jdG} {n rc rs : Nat} {Z : jdL} {J : jdJ} {K : Int32 → jdI → jdJ → Prop} {I0 : jdI} {N st : Nat} {rel : Nat → Nat → Bool} {L F : List Int32} {x1 : Int32} (ht : zTies Z 13) (hN : N ≤ 7) (h70 : L.length ≤ 70) (hg0 : GX I0 N st rel) (hc0 : (I0 13 8).toInt = (L.length : Int)) (hL0 : LiS I0 (13 + 3) L) (hK : ∀ (v : Int32) (I2 : jdI), WX I2 → Fr (fun a k => a = 13 + 4) I0 I2 → v.toInt = (F.length : Int) → LiS I2 (13 + 4) F → K v I2 J) : ∀ f : Nat, ∀ (I : jdI) (x2 x3 : Int32) (D : List Int32), WX I → Fr (fun a k => a = 13 + 4) I0 I → LiS I (13 + 4) D → x2.toInt = (D.length : Int) → 0 ≤ x3.toInt → x3.toInt + (f : Int) = (L.length : Int) → x2.toInt ≤ x3.toInt → D ++ ((L.drop x3.toInt.toNat).filter (sbs x1)).map (pmG rel N) = F → Jd G mX8_listPairs (jdFm G (qi Z K)) (n + 2) rc rs 4 [(0, .ref (gb G + 13)), (1, .int x1), (2, .int x2), (3, .int x3)] [] Z I J := by
  intro f
  induction f with
  | zero =>
    intro I x2 x3 D hW hF hD h2 h3 hf hx hr
    rw [drop_end (show L.length ≤ x3.toInt.toNat by omega), List.filter_nil, List.map_nil, List.append_nil] at hr
    subst hr
    have e8 : (I 13 8).toInt = (L.length : Int) := by rw [hF 13 8 (by omega)]; exact hc0
    exact rX8_listPairs_4 ht ⟨fun _ => hK x2 I hW hF h2 hD, fun h => absurd (Int32.le_iff_toInt_le.mpr (by omega)) h⟩
  | succ f ih =>
    intro I x2 x3 D hW hF hD h2 h3 hf hx hr
    have e8 : (I 13 8).toInt = (L.length : Int) := by rw [hF 13 8 (by omega)]; exact hc0
    have hL : LiS I (13 + 3) L := LiS_fr hL0 hF (fun k => by omega)
    have hg : GX I N st rel := GX_fr hg0 hF (by omega) (by omega) (fun k => by omega)
    have q1 : (1 : Int32).toInt = 1 := rfl
    have e2 := i32_add x2 1 (by omega) (by omega)
    have e3 := i32_add x3 1 (by omega) (by omega)
    have n3 := tn_eq x3
    have n2 := tn_eq x2
    have en : (x3 + 1).toInt.toNat = x3.toInt.toNat + 1 := by omega
    rw [LiS_drop hL (k := x3.toInt.toNat) (by omega)] at hr
    refine rX8_listPairs_4 ht ⟨fun h => by have := Int32.le_iff_toInt_le.mp h; omega, fun _ => ⟨vp_of (by omega) (by omega), vp_of (by omega) (by omega), fun hv => ?_, fun hv => ?_⟩⟩
    · rw [n3] at hv
      rw [List.filter_cons_of_neg (fun z => hv (sbs_x.mpr z)), ← en] at hr
      exact ih I x2 (x3 + 1) D hW hF hD h2 (by omega) (by omega) (by omega) hr
    · rw [n3] at hv ⊢
      rw [List.filter_cons_of_pos (sbs_x.mp hv), List.map_cons, ← en] at hr
      refine ⟨vp_of (by omega) (by omega), ?_⟩
      refine pX8_pairsIn ht hg hN ⟨vp_of (by omega) (by omega), ?_⟩
      have et : Int32.toNatClampNeg x2 = D.length := by omega
      rw [et]
      have w1 := WX_uI (id := 13 + 4) (k := D.length) (v := pmG rel N (I (13 + 3) x3.toInt.toNat)) hW (by first | exact okXo (by decide) | (unfold okX; refine ⟨?_, ?_, ?_, ?_, ?_, ?_, ?_, ?_, ?_, ?_⟩ <;> intro h <;> omega))
      have f1 : Fr (fun a k => a = 13 + 4) I (uI I (13 + 4) D.length (pmG rel N (I (13 + 3) x3.toInt.toNat))) := Fr_uI Fr.rf rfl
      exact ih _ (x2 + 1) (x3 + 1) (D ++ [pmG rel N (I (13 + 3) x3.toInt.toNat)]) w1 (Fr.tr hF f1 (by intro a k h; omega)) (LiS_push hD rfl) (by rw [List.length_append, List.length_singleton]; omega) (by omega) (by omega) (by omega) (by rw [List.append_assoc]; exact hr)
theorem pX8_listPairs {G : jdG} {n : Nat} {Z : jdL} {J : jdJ} {K : Int32 → jdI → jdJ → Prop} {I : jdI} {N st : Nat} {rel : Nat → Nat → Bool} {L : List Int32} {x1 : Int32} (ht : zTies Z 13) (hW : WX I) (hN : N ≤ 7) (h70 : L.length ≤ 70) (hg : GX I N st rel) (hc : (I 13 8).toInt = (L.length : Int)) (hL : LiS I (13 + 3) L) (hK : ∀ (v : Int32) (I2 : jdI), WX I2 → Fr (fun a k => a = 13 + 4) I I2 → v.toInt = (((L.filter (sbs x1)).map (pmG rel N)).length : Int) → LiS I2 (13 + 4) ((L.filter (sbs x1)).map (pmG rel N)) → K v I2 J) : Cl G mX8_listPairs (n + 2) 0 0 [.ref (gb G + 13), .int x1] Z I J (qi Z K) := by
  have q0 : (0 : Int32).toInt = 0 := rfl
  exact eX8_listPairs ht (pX8_listPairs_4 (F := (L.filter (sbs x1)).map (pmG rel N)) ht hN h70 hg hc hL hK L.length I 0 0 [] hW Fr.rf (LiS_nil _ _) rfl (by decide) (by rw [q0]; omega) (by decide) rfl)
/-! the search for the longest -/
def LPr (I : jdI) (M : List Int32) (st : Nat) : Prop := (I 13 7).toInt = (st : Int) ∧ (I 13 8).toInt = (M.length : Int) ∧ LiS I (13 + 4) M
theorem LPr_9 {I I2 : jdI} {M : List Int32} {st : Nat} (h : LPr I M st) (hF : Fr (fun a k => a = 13 ∧ k = 9) I I2) : LPr I2 M st := ⟨by rw [hF 13 7 (by omega)]; exact h.1, by rw [hF 13 8 (by omega)]; exact h.2.1, LiS_fr h.2.2 hF (fun k => by omega)⟩
theorem pX8_lengthen_37 {G : jdG} {n rc rs : Nat} {Z : jdL} {J : jdJ} {K : jdI → jdJ → Prop} {I0 : jdI} {M : List Int32} {st e : Nat} {o x2 x3 x4 : Int32} {R : Int} (ht : zTies Z 13) (h70 : M.length ≤ 70) (he : x4.toInt = (e : Int)) (he3 : e = 3 ∨ e = 6) (hM : ∀ p ∈ M, cdN p 24 = e) (ho : 0 ≤ o.toInt ∧ o.toInt < 16777216) (hs : 0 ≤ x3.toInt) (hso : x3.toInt.toNat * e + cdN o 24 ≤ 24) {d : Nat}
    (hR : ∀ (I : jdI) (K : jdI → jdJ → Prop) (o x2 x3 : Int32), WX I → LPr I M st → 0 ≤ (I 13 9).toInt ∧ (I 13 9).toInt ≤ 100 → 0 ≤ o.toInt ∧ o.toInt < 16777216 → 0 ≤ x3.toInt → x3.toInt.toNat * e + cdN o 24 ≤ 24 → 0 ≤ x2.toInt → x2.toInt ≤ (M.length : Int) → (M.length : Int) ≤ x2.toInt + (d : Int) → (∀ I2 : jdI, WX I2 → Fr (fun a k => a = 13 ∧ k = 9) I I2 → (I2 13 9).toInt = lenL (e : Int) (M.drop x2.toInt.toNat) o x3.toInt (if (I 13 9).toInt < x3.toInt then x3.toInt else (I 13 9).toInt) → K I2 J) → Cl G mX8_lengthen n 0 0 [.ref (gb G + 13), .int o, .int x2, .int x3] Z I J (qv Z K))
    (hK : ∀ I2 : jdI, WX I2 → Fr (fun a k => a = 13 ∧ k = 9) I0 I2 → (I2 13 9).toInt = R → K I2 J) : ∀ f : Nat, ∀ (I : jdI) (x5 : Int32), WX I → Fr (fun a k => a = 13 ∧ k = 9) I0 I → LPr I M st → x3.toInt ≤ (I 13 9).toInt → (I 13 9).toInt ≤ 100 → 0 ≤ x5.toInt → x5.toInt + (f : Int) = (M.length : Int) → (M.length : Int) ≤ x5.toInt + (d : Int) + 1 → lenL (e : Int) (M.drop x5.toInt.toNat) o x3.toInt (I 13 9).toInt = R → Jd G mX8_lengthen (jdFm G (qv Z K)) (n + 1) rc rs 37 [(0, .ref (gb G + 13)), (1, .int o), (2, .int x2), (3, .int x3), (4, .int x4), (5, .int x5)] [] Z I J := by
  intro f
  induction f with
  | zero =>
    intro I x5 hW hF hP h1 h2 h5 hf hd hr
    rw [drop_end (show M.length ≤ x5.toInt.toNat by omega)] at hr
    have h8 := hP.2.1
    exact rX8_lengthen_37 ht ⟨fun _ => hK I hW hF hr, fun h => absurd (Int32.le_iff_toInt_le.mpr (by omega)) h⟩
  | succ f ih =>
    intro I x5 hW hF hP h1 h2 h5 hf hd hr
    have h8 := hP.2.1
    have q1 : (1 : Int32).toInt = 1 := rfl
    have e3le : x3.toInt.toNat * 3 ≤ x3.toInt.toNat * e := Nat.mul_le_mul_left _ (by omega)
    have e3 := i32_add x3 1 (by omega) (by omega)
    have e5 := i32_add x5 1 (by omega) (by omega)
    have n5 := tn_eq x5
    have en : (x5 + 1).toInt.toNat = x5.toInt.toNat + 1 := by omega
    rw [LiS_drop hP.2.2 (k := x5.toInt.toNat) (by omega)] at hr
    have hp : I (13 + 4) x5.toInt.toNat ∈ M := List.mem_of_mem_drop (i := x5.toInt.toNat) (by rw [LiS_drop hP.2.2 (k := x5.toInt.toNat) (by omega)]; exact List.mem_cons_self)
    have ep := hM _ hp
    rw [lenL_c] at hr
    have a1 := i32_add (I 13 9) 1 (by omega) (by omega)
    have a2 := i32_sub ((I 13 9) + 1) x3 (by omega) (by omega)
    have m : ((((I 13 9) + 1) - x3) * x4).toInt = ((I 13 9).toInt + 1 - x3.toInt) * (e : Int) := by
      rcases he3 with h | h
      · rw [i32_mulc _ x4 3 (by omega) (by omega) (by omega), h]
        omega
      · rw [i32_mulc _ x4 6 (by omega) (by omega) (by omega), h]
        omega
    refine rX8_lengthen_37 ht ⟨fun h => by have := Int32.le_iff_toInt_le.mp h; omega, fun _ => ?_⟩
    refine pJ6_bitCount24 ho.1 ho.2 (fun v2 hv2 => ⟨fun hc => ?_, fun hc => ?_⟩)
    · have hc := Int32.le_iff_toInt_le.mp hc
      rw [m, hv2] at hc
      rw [if_pos hc] at hr
      refine ⟨vp_of (by omega) (by omega), vp_of (by omega) (by omega), fun hv => ?_, fun hv => ?_⟩
      · rw [n5] at hv
        rw [if_neg hv, ← en] at hr
        exact ih I (x5 + 1) hW hF hP h1 h2 (by omega) (by omega) (by omega) hr
      · rw [n5] at hv ⊢
        rw [if_pos hv, ← en] at hr
        refine ⟨vp_of (by omega) (by omega), ?_⟩
        rw [xo_m1]
        have so := cdN_off hv 24 (by decide)
        have mul : (x3 + 1).toInt.toNat * e = x3.toInt.toNat * e + e := by rw [show (x3 + 1).toInt.toNat = x3.toInt.toNat + 1 by omega, Nat.succ_mul]
        have ra := i32_and' o (~~~(I (13 + 4) x5.toInt.toNat)) ho.1
        refine hR I _ (o &&& ~~~(I (13 + 4) x5.toInt.toNat)) (x5 + 1) (x3 + 1) hW hP ⟨by omega, h2⟩ ⟨ra.1, by omega⟩ (by omega) (by omega) (by omega) (by omega) (by omega) (fun I6 hW6 hF6 h6 => ?_)
        rw [show (x3 + 1).toInt = x3.toInt + 1 by omega] at h6
        have A1 := mx_sp (x3.toInt + 1) (I 13 9).toInt
        have ms := hM
        have l9 := lenL_eq (e := e) (M.drop (x5 + 1).toInt.toNat) (o &&& ~~~(I (13 + 4) x5.toInt.toNat)) (x3.toInt + 1) (if (I 13 9).toInt < x3.toInt + 1 then x3.toInt + 1 else (I 13 9).toInt) (fun p hp => hM p (List.mem_of_mem_drop hp)) (by omega)
        have lb := lmx_b (e := e) (M.drop (x5 + 1).toInt.toNat) (o &&& ~~~(I (13 + 4) x5.toInt.toNat)) (fun p hp => hM p (List.mem_of_mem_drop hp))
        have lb3 : lmx (M.drop (x5 + 1).toInt.toNat) (o &&& ~~~(I (13 + 4) x5.toInt.toNat)) * 3 ≤ lmx (M.drop (x5 + 1).toInt.toNat) (o &&& ~~~(I (13 + 4) x5.toInt.toNat)) * e := Nat.mul_le_mul_left _ (by omega)
        have A2 := mx_sp (x3.toInt + 1 + (lmx (M.drop (x5 + 1).toInt.toNat) (o &&& ~~~(I (13 + 4) x5.toInt.toNat)) : Int)) (if (I 13 9).toInt < x3.toInt + 1 then x3.toInt + 1 else (I 13 9).toInt)
        rw [← l9, ← h6] at A2
        exact ih I6 (x5 + 1) hW6 (Fr.tr hF hF6 (by intro a k h; omega)) (LPr_9 hP hF6) (by omega) (by omega) (by omega) (by omega) (by omega) (by rw [h6]; exact hr)
    · have hc := mt Int32.le_iff_toInt_le.mpr hc
      rw [m, hv2] at hc
      rw [if_neg hc] at hr
      exact hK I hW hF hr
theorem pX8_lengthen {G : jdG} {Z : jdL} {J : jdJ} {M : List Int32} {st e : Nat} (ht : zTies Z 13) (h70 : M.length ≤ 70) (hst : (st = 3 ∧ e = 3) ∨ (st = 4 ∧ e = 6)) (hM : ∀ p ∈ M, cdN p 24 = e) : ∀ d : Nat, ∀ (n : Nat) (I : jdI) (K : jdI → jdJ → Prop) (o x2 x3 : Int32), WX I → LPr I M st → 0 ≤ (I 13 9).toInt ∧ (I 13 9).toInt ≤ 100 → 0 ≤ o.toInt ∧ o.toInt < 16777216 → 0 ≤ x3.toInt → x3.toInt.toNat * e + cdN o 24 ≤ 24 → 0 ≤ x2.toInt → x2.toInt ≤ (M.length : Int) → (M.length : Int) ≤ x2.toInt + (d : Int) → (∀ I2 : jdI, WX I2 → Fr (fun a k => a = 13 ∧ k = 9) I I2 → (I2 13 9).toInt = lenL (e : Int) (M.drop x2.toInt.toNat) o x3.toInt (if (I 13 9).toInt < x3.toInt then x3.toInt else (I 13 9).toInt) → K I2 J) → Cl G mX8_lengthen (n + d + 2) 0 0 [.ref (gb G + 13), .int o, .int x2, .int x3] Z I J (qv Z K) := by
  intro d
  induction d with
  | zero =>
    intro n I K o x2 x3 hW hP hb ho hs hso h2 h2l hd hK
    have h8 := hP.2.1
    have e3le : x3.toInt.toNat * 3 ≤ x3.toInt.toNat * e := Nat.mul_le_mul_left _ (by omega)
    have q28 : (28 : Int32).toInt = 28 := rfl
    refine eX8_lengthen ht ⟨fun _ => ?_, fun h => absurd (Int32.lt_iff_toInt_lt.mpr (by omega)) h⟩
    have w1 := WX_uI (id := 13) (k := 9) (v := if (I 13 9) < x3 then x3 else (I 13 9)) hW (by first | exact okXo (by decide) | (unfold okX; refine ⟨?_, ?_, ?_, ?_, ?_, ?_, ?_, ?_, ?_, ?_⟩ <;> intro h <;> omega))
    have f1 : Fr (fun a k => a = 13 ∧ k = 9) I (uI I 13 9 (if (I 13 9) < x3 then x3 else (I 13 9))) := Fr_uI Fr.rf ⟨rfl, rfl⟩
    have e9 : ((uI I 13 9 (if (I 13 9) < x3 then x3 else (I 13 9))) 13 9).toInt = if (I 13 9).toInt < x3.toInt then x3.toInt else (I 13 9).toInt := by
      rw [uI_ap, if_pos ⟨rfl, rfl⟩]
      by_cases c : (I 13 9) < x3
      · rw [if_pos c, if_pos (Int32.lt_iff_toInt_lt.mp c)]
      · rw [if_neg c, if_neg (mt Int32.lt_iff_toInt_lt.mpr c)]
    refine rX8_lengthen_37 ht ⟨fun _ => hK _ w1 f1 ?_, fun h => absurd (Int32.le_iff_toInt_le.mpr (by rw [f1 13 8 (by omega)]; omega)) h⟩
    rw [e9, drop_end (show M.length ≤ x2.toInt.toNat by omega)]
    rfl
  | succ d ihd =>
    intro n I K o x2 x3 hW hP hb ho hs hso h2 h2l hd hK
    have h8 := hP.2.1
    have e3le : x3.toInt.toNat * 3 ≤ x3.toInt.toNat * e := Nat.mul_le_mul_left _ (by omega)
    have q28 : (28 : Int32).toInt = 28 := rfl
    refine eX8_lengthen ht ⟨fun _ => ?_, fun h => absurd (Int32.lt_iff_toInt_lt.mpr (by omega)) h⟩
    have w1 := WX_uI (id := 13) (k := 9) (v := if (I 13 9) < x3 then x3 else (I 13 9)) hW (by first | exact okXo (by decide) | (unfold okX; refine ⟨?_, ?_, ?_, ?_, ?_, ?_, ?_, ?_, ?_, ?_⟩ <;> intro h <;> omega))
    have f1 : Fr (fun a k => a = 13 ∧ k = 9) I (uI I 13 9 (if (I 13 9) < x3 then x3 else (I 13 9))) := Fr_uI Fr.rf ⟨rfl, rfl⟩
    have e9 : ((uI I 13 9 (if (I 13 9) < x3 then x3 else (I 13 9))) 13 9).toInt = if (I 13 9).toInt < x3.toInt then x3.toInt else (I 13 9).toInt := by
      rw [uI_ap, if_pos ⟨rfl, rfl⟩]
      by_cases c : (I 13 9) < x3
      · rw [if_pos c, if_pos (Int32.lt_iff_toInt_lt.mp c)]
      · rw [if_neg c, if_neg (mt Int32.lt_iff_toInt_lt.mpr c)]
    have A1 := mx_sp x3.toInt (I 13 9).toInt
    rw [← e9] at A1
    have h7 := hP.1
    have hx4 : (((I 13 7) * ((I 13 7) - 1)) / 2).toInt = (e : Int) := by
      rcases hst with ⟨s, h⟩ | ⟨s, h⟩
      · have : I 13 7 = 3 := Int32.toInt_inj.mp (by rw [h7, s]; rfl)
        rw [this, h]
        decide
      · have : I 13 7 = 4 := Int32.toInt_inj.mp (by rw [h7, s]; rfl)
        rw [this, h]
        decide
    exact pX8_lengthen_37 (R := lenL (e : Int) (M.drop x2.toInt.toNat) o x3.toInt (if (I 13 9).toInt < x3.toInt then x3.toInt else (I 13 9).toInt)) (d := d) ht h70 hx4 (by omega) hM ho hs hso (fun I K o x2 x3 a1 a2 a3 a4 a5 a6 a7 a8 a9 a10 => ihd n I K o x2 x3 a1 a2 a3 a4 a5 a6 a7 a8 a9 a10) (fun I2 hW2 hF2 h => hK I2 hW2 (Fr.tr (Fr.tr Fr.rf f1 (by intro a k h; omega)) hF2 (by intro a k h; omega)) h) (M.length - x2.toInt.toNat) _ x2 w1 Fr.rf (LPr_9 hP f1) (by omega) (by omega) h2 (by omega) (by omega) (by rw [e9])
/-! longest and soonest of X, whole -/
theorem LW_35 {w : Tw} (h : (0 ≤ w.1 ∧ w.1 ≤ 7) ∧ 2 ≤ w.2.2.2.1 ∧ w.2.2.2.1 ≤ 4) : (LW w).length ≤ 35 := Nat.le_trans (DL_len (relW w) w.1.toNat 0 w.2.2.2.1.toNat 0) (cb_35 ⟨w.1.toNat, by omega⟩ ⟨w.2.2.2.1.toNat, by omega⟩)
theorem evT {I : jdI} {w : Tw} (h : TL I w) (h0 : 0 ≤ w.1) : ((1 : Int32) <<< ((I 13 6) &&& 31)) - 1 = evW w := by
  have h6 := h.1.1
  have e : (I 13 6).toInt = w.1 := by omega
  unfold evW
  rw [← e, ofI]
theorem pa_r {w : Tw} (h : (0 ≤ w.1 ∧ w.1 ≤ 7) ∧ 2 ≤ w.2.2.2.1 ∧ w.2.2.2.1 ≤ 4) : 0 ≤ (paW w).toInt ∧ (paW w).toInt < 16777216 := by
  have r := pmO_r (f := fG (relW w) (evW w)) (N := w.1.toNat) (by omega)
  have r : 0 ≤ (paW w).toInt ∧ (paW w).toInt < 2097152 := r
  omega
theorem LW_fil {w : Tw} (h : (0 ≤ w.1 ∧ w.1 ≤ 7) ∧ 2 ≤ w.2.2.2.1 ∧ w.2.2.2.1 ≤ 4) : (LW w).filter (sbs (evW w)) = LW w := List.filter_eq_self.mpr (LW_ev h)
def oLong (w : Tw) : Int := if w.2.2.2.1 = 2 then ((LW w).length : Int) else (lmx ((LW w).map (pmW w)) (paW w) : Int)
def oSoon (w : Tw) : Int := if w.2.2.2.1 = 2 then ((LW w).length : Int) else finE ((LW w).map (pmW w)) 29 (paW w) 0 0 28
theorem i7_2 {I : jdI} {w : Tw} (h : TL I w) (h0 : 0 ≤ w.2.2.2.1) : (I 13 7 = 2 ↔ w.2.2.2.1 = 2) := by
  have h7 := h.1.2.1
  have q2 : (2 : Int32).toInt = 2 := rfl
  constructor
  · intro e
    rw [e] at h7
    omega
  · intro e
    exact Int32.toInt_inj.mp (by rw [q2]; omega)
theorem pX8_ready {G : jdG} {n : Nat} {Z : jdL} {J : jdJ} {I : jdI} {w : Tw} {K2 : Int32 → jdI → jdJ → Prop} {b : Int32} (ht : zTies Z 13) (hW : WX I) (hb : (0 ≤ w.1 ∧ w.1 ≤ 7) ∧ 2 ≤ w.2.2.2.1 ∧ w.2.2.2.1 ≤ 4) (hT : TL I w) (hK : ∀ I2 : jdI, WX I2 → Fr (fun a k => (a = 13 ∧ k = 9) ∨ a = 13 + 4) I I2 → TL I2 w → LPr I2 ((LW w).map (pmW w)) w.2.2.2.1.toNat → I2 13 9 = b → K2 (paW w) I2 J) : Cl G mX8_everybody (n + 2) 0 0 [.ref (gb G + 13)] Z I J (qi Z (fun v2 I1 J1 => Cl G mX8_listPairs (n + 2) 0 0 [.ref (gb G + 13), .int v2] Z I1 J1 (qi Z (fun v4 I3 J3 => Cl G mX8_everybody (n + 2) 0 0 [.ref (gb G + 13)] Z (uI I3 13 9 b) J3 (qi Z (fun v6 I5 J5 => Cl G mX8_pairsIn (n + 2) 0 0 [.ref (gb G + 13), .int v6] Z I5 J5 (qi Z K2))))))) := by
  refine eX8_everybody ht ?_
  rw [evT hT hb.1.1]
  refine pX8_listPairs (L := LW w) ht hW (show w.1.toNat ≤ 7 by omega) (LW_70 hb) hT.1 hT.2.2.1 hT.2.2.2 (fun v4 I3 hW3 hF3 hv4 hL3 => ?_)
  rw [LW_fil hb] at hL3
  have hT3 : TL I3 w := TL_k hT hF3 (by intro a k h; omega)
  have w4 : WX (uI I3 13 9 b) := WX_uI hW3 (by first | exact okXo (by decide) | (unfold okX; refine ⟨?_, ?_, ?_, ?_, ?_, ?_, ?_, ?_, ?_, ?_⟩ <;> intro h <;> omega))
  have f4 : Fr (fun a k => a = 13 ∧ k = 9) I3 (uI I3 13 9 b) := Fr_uI Fr.rf ⟨rfl, rfl⟩
  have hT4 : TL (uI I3 13 9 b) w := TL_k hT3 f4 (by intro a k h; omega)
  refine eX8_everybody ht ?_
  rw [evT hT4 hb.1.1]
  refine pX8_pairsIn ht hT4.1 (by omega) ?_
  refine hK _ w4 (Fr.tr (Fr.tr Fr.rf hF3 (by intro a k h; omega)) f4 (by intro a k h; omega)) hT4 ⟨hT4.1.2.1, ?_, LiS_fr hL3 f4 (fun k => by omega)⟩ (by rw [uI_ap, if_pos ⟨rfl, rfl⟩])
  rw [hT4.2.2.1, List.length_map]
  rfl
theorem st_ea {w : Tw} (hb : (0 ≤ w.1 ∧ w.1 ≤ 7) ∧ 2 ≤ w.2.2.2.1 ∧ w.2.2.2.1 ≤ 4) (h2 : ¬ w.2.2.2.1 = 2) : (w.2.2.2.1.toNat = 3 ∧ eaN w = 3) ∨ (w.2.2.2.1.toNat = 4 ∧ eaN w = 6) := by
  have s3 : w.2.2.2.1.toNat = 3 ∨ w.2.2.2.1.toNat = 4 := by omega
  unfold eaN
  rcases s3 with s | s
  · rw [s]
    exact Or.inl ⟨rfl, rfl⟩
  · rw [s]
    exact Or.inr ⟨rfl, rfl⟩
theorem pX8_longest {G : jdG} {n : Nat} {Z : jdL} {J : jdJ} {K : Int32 → jdI → jdJ → Prop} {I : jdI} {w : Tw} (ht : zTies Z 13) (hW : WX I) (hb : (0 ≤ w.1 ∧ w.1 ≤ 7) ∧ 2 ≤ w.2.2.2.1 ∧ w.2.2.2.1 ≤ 4) (hsy : SYM w) (hT : TL I w) (hK : ∀ (v : Int32) (I2 : jdI), WX I2 → Fr (fun a k => (a = 13 ∧ k = 9) ∨ a = 13 + 4) I I2 → v.toInt = oLong w → K v I2 J) : Cl G mX8_longest (n + 80) 0 0 [.ref (gb G + 13)] Z I J (qi Z K) := by
  refine eX8_longest ht ⟨fun h7 => ?_, fun h7 => ?_⟩
  · have h2 : ¬ w.2.2.2.1 = 2 := fun e => h7 ((i7_2 hT (by omega)).mpr e)
    refine pX8_ready (n := n + 77) ht hW hb hT (fun I7 hW7 hF7 hT7 hP7 h9 => ?_)
    have l8 := lmx_8 hb hsy h2 (o := paW w)
    have l35 := LW_35 hb
    have q0 : (0 : Int32).toInt = 0 := rfl
    have ll : ((LW w).map (pmW w)).length ≤ 35 := by rw [List.length_map]; exact l35
    have c24 := cdN_24 (paW w) 24
    refine pX8_lengthen (st := w.2.2.2.1.toNat) (e := eaN w) (M := (LW w).map (pmW w)) ht (by omega) (st_ea hb h2) l8.2.2 35 (n + 42) I7 _ (paW w) 0 0 hW7 hP7 (by rw [h9]; decide) (pa_r hb) (by decide) (by rw [q0]; show 0 * _ + _ ≤ 24; omega) (by decide) (by rw [q0]; omega) (by rw [q0]; omega) (fun I9 hW9 hF9 h => ?_)
    refine hK _ I9 hW9 (Fr.tr hF7 hF9 (by intro a k h; omega)) ?_
    rw [h9, q0] at h
    have l9 := lenL_eq (e := eaN w) ((LW w).map (pmW w)) (paW w) 0 0 l8.2.2 (by decide)
    have h : (I9 13 9).toInt = lenL (eaN w : Int) ((LW w).map (pmW w)) (paW w) 0 0 := h
    rw [h, l9]
    unfold oLong
    rw [if_neg h2]
    by_cases c : (0 : Int) < 0 + (lmx ((LW w).map (pmW w)) (paW w) : Int)
    · rw [if_pos c]
      omega
    · rw [if_neg c]
      omega
  · have h2 := (i7_2 hT (by omega)).mp h7
    refine hK _ I hW Fr.rf ?_
    unfold oLong
    rw [if_pos h2]
    exact hT.2.2.1
/-! ever and feast on both sides -/
theorem pX12_isApart_2 {G : jdG} {n rc rs : Nat} {Z : jdL} {J : jdJ} {K : Int32 → jdI → jdJ → Prop} {I : jdI} {u0 n0 : Nat} {x1 x2 : Int32} {A : List Int32} (hu0 : Z.1 u0 = some (0, n0)) (hx1 : x1.toInt = (A.length : Int)) (hn : A.length ≤ n0) (h9 : n0 ≤ 1000) (hA : LiS I u0 A) (hK : ∀ v : Int32, ((v.toInt = 1 ∧ apA apM A x2 = true) ∨ (v.toInt = 0 ∧ ¬ apA apM A x2 = true)) → K v I J) : ∀ f : Nat, ∀ x3 : Int32, 0 ≤ x3.toInt → x3.toInt + (f : Int) = (A.length : Int) → (apA apM A x2 = true ↔ apA apM (A.drop x3.toInt.toNat) x2 = true) → Jd G mX12_isApart (jdFm G (qi Z K)) (n + 1) rc rs 2 [(0, .ref (gb G + u0)), (1, .int x1), (2, .int x2), (3, .int x3)] [] Z I J := by
  have q1 : (1 : Int32).toInt = 1 := rfl
  intro f
  induction f with
  | zero =>
    intro x3 h3 hf hr
    rw [drop_end (show A.length ≤ x3.toInt.toNat by omega)] at hr
    exact rX12_isApart_2 hu0 ⟨fun _ => hK 1 (Or.inl ⟨rfl, hr.mpr rfl⟩), fun h => absurd (Int32.le_iff_toInt_le.mpr (by omega)) h⟩
  | succ f ih =>
    intro x3 h3 hf hr
    have e3 := i32_add x3 1 (by omega) (by omega)
    have n3 := tn_eq x3
    have en : x3.toInt.toNat + 1 = (x3 + 1).toInt.toNat := by omega
    rw [LiS_drop hA (k := x3.toInt.toNat) (by omega), en] at hr
    have cs : apA apM (I u0 x3.toInt.toNat :: A.drop (x3 + 1).toInt.toNat) x2 = (apM (I u0 x3.toInt.toNat) x2 && apA apM (A.drop (x3 + 1).toInt.toNat) x2) := rfl
    rw [cs] at hr
    refine rX12_isApart_2 hu0 ⟨fun h => by have := Int32.le_iff_toInt_le.mp h; omega, fun _ => ⟨vp_of (by omega) (by omega), ?_⟩⟩
    refine sfX12_bits trivial (fun v3 hb => ?_)
    rw [n3] at hb
    have vb : v3.toInt = (cd (I u0 x3.toInt.toNat &&& x2) : Int) := by rw [hb]; exact bs_cd _ 8 (Nat.le_refl _)
    refine ⟨fun hc => ?_, fun hc => ?_⟩
    · have hc := Int32.le_iff_toInt_le.mp hc
      have ap : apM (I u0 x3.toInt.toNat) x2 = true := decide_eq_true (by omega)
      rw [ap, Bool.true_and] at hr
      exact ih (x3 + 1) (by omega) (by omega) hr
    · have hc := mt Int32.le_iff_toInt_le.mpr hc
      have ap : apM (I u0 x3.toInt.toNat) x2 = false := decide_eq_false (by omega)
      rw [ap, Bool.false_and] at hr
      exact hK 0 (Or.inr ⟨rfl, fun z => by have := hr.mp z; cases this⟩)
theorem pX12_isApart {G : jdG} {n : Nat} {Z : jdL} {J : jdJ} {K : Int32 → jdI → jdJ → Prop} {I : jdI} {u0 n0 : Nat} {x1 x2 : Int32} {A : List Int32} (hu0 : Z.1 u0 = some (0, n0)) (hx1 : x1.toInt = (A.length : Int)) (hn : A.length ≤ n0) (h9 : n0 ≤ 1000) (hA : LiS I u0 A) (hK : ∀ v : Int32, ((v.toInt = 1 ∧ apA apM A x2 = true) ∨ (v.toInt = 0 ∧ ¬ apA apM A x2 = true)) → K v I J) : Cl G mX12_isApart (n + 1) 0 0 [.ref (gb G + u0), .int x1, .int x2] Z I J (qi Z K) :=
  eX12_isApart hu0 (pX12_isApart_2 hu0 hx1 hn h9 hA hK A.length 0 (by decide) (by show (0 : Int) + _ = _; omega) Iff.rfl)
def fnZ (A : List Int32) (z : Int × Int) : Int × Int := (if z.1 < (A.length : Int) then (A.length : Int) else z.1, if z.2 = -1 then (A.length : Int) else if z.2 ≤ (A.length : Int) then z.2 else (A.length : Int))
theorem sk_fin {J : jdJ} {K : jdI → jdJ → Prop} {I : jdI} {t : Nat} {x3 x4 : Int32} {A : List Int32} {c : Prop} (hW : WM 7 t I) (h3 : x3.toInt = (A.length : Int)) (h4 : (x4.toInt = 0 ∧ ¬ c) ∨ (¬ x4.toInt = 0 ∧ c)) (hK : ∀ I2 : jdI, WM 7 t I2 → Fr (fun a k => a = t ∧ (k = 37 ∨ k = 38)) I I2 → (¬ c → ((I2 t 37).toInt, (I2 t 38).toInt) = ((I t 37).toInt, (I t 38).toInt)) → (c → ((I2 t 37).toInt, (I2 t 38).toInt) = fnZ A ((I t 37).toInt, (I t 38).toInt)) → K I2 J) : (x4 = 0 → K I J) ∧ (¬ x4 = 0 → ((x3 ≤ (I t 37) → (((I t 38) = (-1) → K (uI (uI I t 37 (I t 37)) t 38 x3) J) ∧ (¬ (I t 38) = (-1) → (((I t 38) ≤ x3 → K (uI (uI I t 37 (I t 37)) t 38 (I t 38)) J) ∧ (¬ (I t 38) ≤ x3 → K (uI (uI I t 37 (I t 37)) t 38 x3) J))))) ∧ (¬ x3 ≤ (I t 37) → (((I t 38) = (-1) → K (uI (uI I t 37 x3) t 38 x3) J) ∧ (¬ (I t 38) = (-1) → (((I t 38) ≤ x3 → K (uI (uI I t 37 x3) t 38 (I t 38)) J) ∧ (¬ (I t 38) ≤ x3 → K (uI (uI I t 37 x3) t 38 x3) J))))))) := by
  have q0 : (0 : Int32).toInt = 0 := rfl
  have qm : (-1 : Int32).toInt = -1 := rfl
  have lf : ∀ a b : Int32, ¬ x4 = 0 → (a.toInt, b.toInt) = fnZ A ((I t 37).toInt, (I t 38).toInt) → K (uI (uI I t 37 a) t 38 b) J := fun a b hx hv => by
    have hc : c := by
      rcases h4 with h | h
      · exact absurd (Int32.toInt_inj.mp (h.1.trans q0.symm)) hx
      · exact h.2
    have w1 : WM 7 t (uI I t 37 a) := WM_uI hW (by first | exact okMo (by decide) (by decide) (by decide) (by decide) (by decide) | exact okMf (by decide) (by decide) (by decide) (by decide) (by decide) (by decide) (by decide) (by decide) | exact okM30 (by omega) | exact okM42 (by omega) | exact okM33 (by omega) | exact okM10 (by omega) | exact okM8 (by omega) | exact okM22 (by omega) | exact okM24 (by omega) | exact okM14 (by omega) | exact okMa31 (by omega) | exact okMa35 (by omega) | exact okMa36 (by omega) | exact okMa3 (by omega) | exact okMr (by omega) | (unfold okM; refine ⟨?_, ?_, ?_, ?_, ?_, ?_, ?_, ?_, ?_, ?_, ?_, ?_⟩ <;> intro h <;> omega))
    have w2 : WM 7 t (uI (uI I t 37 a) t 38 b) := WM_uI w1 (by first | exact okMo (by decide) (by decide) (by decide) (by decide) (by decide) | exact okMf (by decide) (by decide) (by decide) (by decide) (by decide) (by decide) (by decide) (by decide) | exact okM30 (by omega) | exact okM42 (by omega) | exact okM33 (by omega) | exact okM10 (by omega) | exact okM8 (by omega) | exact okM22 (by omega) | exact okM24 (by omega) | exact okM14 (by omega) | exact okMa31 (by omega) | exact okMa35 (by omega) | exact okMa36 (by omega) | exact okMa3 (by omega) | exact okMr (by omega) | (unfold okM; refine ⟨?_, ?_, ?_, ?_, ?_, ?_, ?_, ?_, ?_, ?_, ?_, ?_⟩ <;> intro h <;> omega))
    refine hK _ w2 (Fr_uI (Fr_uI Fr.rf (by omega)) (by omega)) (fun z => absurd hc z) (fun _ => ?_)
    rw [uI_ap (uI I t 37 a) t 38 b t 37, if_neg (by omega), uI_ap I t 37 a t 37, if_pos ⟨rfl, rfl⟩, uI_ap (uI I t 37 a) t 38 b t 38, if_pos ⟨rfl, rfl⟩]
    exact hv
  have m1 : I t 38 = -1 ↔ (I t 38).toInt = -1 := ⟨fun e => by rw [e]; rfl, fun e => Int32.toInt_inj.mp (e.trans qm.symm)⟩
  refine ⟨fun hx => ?_, fun hx => ⟨fun c1 => ⟨fun c2 => ?_, fun c2 => ⟨fun c3 => ?_, fun c3 => ?_⟩⟩, fun c1 => ⟨fun c2 => ?_, fun c2 => ⟨fun c3 => ?_, fun c3 => ?_⟩⟩⟩⟩
  · have nc : ¬ c := by
      rcases h4 with h | h
      · exact h.2
      · exact absurd (by rw [hx]; rfl) h.1
    exact hK I hW Fr.rf (fun _ => rfl) (fun z => absurd z nc)
  · have c1 := Int32.le_iff_toInt_le.mp c1
    have c2 := m1.mp c2
    refine lf _ _ hx ?_
    unfold fnZ
    rw [if_neg (by show ¬ (I t 37).toInt < _; omega), if_pos c2, h3]
  · have c1 := Int32.le_iff_toInt_le.mp c1
    have c2 := mt m1.mpr c2
    have c3 := Int32.le_iff_toInt_le.mp c3
    refine lf _ _ hx ?_
    unfold fnZ
    rw [if_neg (by show ¬ (I t 37).toInt < _; omega), if_neg c2, if_pos (by show (I t 38).toInt ≤ _; omega)]
  · have c1 := Int32.le_iff_toInt_le.mp c1
    have c2 := mt m1.mpr c2
    have c3 := mt Int32.le_iff_toInt_le.mpr c3
    refine lf _ _ hx ?_
    unfold fnZ
    rw [if_neg (by show ¬ (I t 37).toInt < _; omega), if_neg c2, if_neg (by show ¬ (I t 38).toInt ≤ _; omega), h3]
  · have c1 := mt Int32.le_iff_toInt_le.mpr c1
    have c2 := m1.mp c2
    refine lf _ _ hx ?_
    unfold fnZ
    rw [if_pos (by show (I t 37).toInt < _; omega), if_pos c2, h3]
  · have c1 := mt Int32.le_iff_toInt_le.mpr c1
    have c2 := mt m1.mpr c2
    have c3 := Int32.le_iff_toInt_le.mp c3
    refine lf _ _ hx ?_
    unfold fnZ
    rw [if_pos (by show (I t 37).toInt < _; omega), if_neg c2, if_pos (by show (I t 38).toInt ≤ _; omega), h3]
  · have c1 := mt Int32.le_iff_toInt_le.mpr c1
    have c2 := mt m1.mpr c2
    have c3 := mt Int32.le_iff_toInt_le.mpr c3
    refine lf _ _ hx ?_
    unfold fnZ
    rw [if_pos (by show (I t 37).toInt < _; omega), if_neg c2, if_neg (by show ¬ (I t 38).toInt ≤ _; omega), h3]
theorem pX12_seekEver_14 {G : jdG} {n rc rs : Nat} {Z : jdL} {J : jdJ} {K : jdI → jdJ → Prop} {I : jdI} {t u2 n2 : Nat} {x1 x3 : Int32} {L A : List Int32} (ht : zModel Z t) (hu2 : Z.1 u2 = some (0, n2)) (hn2 : n2 = 40) (hW : WM 7 t I) (h35 : L.length ≤ 35) (hA35 : A.length ≤ 35) (h30 : (I t 30).toInt = (L.length : Int)) (hL : LiS I (t + 30) L) (hA : LiS I u2 A) (h3 : x3.toInt = (A.length : Int)) (hK : ∀ I2 : jdI, WM 7 t I2 → Fr (fun a k => a = t ∧ (k = 37 ∨ k = 38)) I I2 → ((I2 t 37).toInt, (I2 t 38).toInt) = seek apM L [] A ((I t 37).toInt, (I t 38).toInt) → K I2 J) : ∀ f : Nat, ∀ x4 x5 : Int32, 0 ≤ x5.toInt → x5.toInt + (f : Int) = (L.length : Int) → ((x4.toInt = 0 ∧ ¬ L.all (fun h => !(apA apM A h)) = true) ∨ (¬ x4.toInt = 0 ∧ (L.all (fun h => !(apA apM A h)) = true ↔ (L.drop x5.toInt.toNat).all (fun h => !(apA apM A h)) = true))) → Jd G mX12_seekEver (jdFm G (qv Z K)) (n + 2) rc rs 14 [(0, .ref (gb G + t)), (1, .int x1), (2, .ref (gb G + u2)), (3, .int x3), (4, .int x4), (5, .int x5)] [] Z I J := by
  have q0 : (0 : Int32).toInt = 0 := rfl
  have q1 : (1 : Int32).toInt = 1 := rfl
  have hK2 : ∀ I2 : jdI, WM 7 t I2 → Fr (fun a k => a = t ∧ (k = 37 ∨ k = 38)) I I2 → (¬ L.all (fun h => !(apA apM A h)) = true → ((I2 t 37).toInt, (I2 t 38).toInt) = ((I t 37).toInt, (I t 38).toInt)) → (L.all (fun h => !(apA apM A h)) = true → ((I2 t 37).toInt, (I2 t 38).toInt) = fnZ A ((I t 37).toInt, (I t 38).toInt)) → K I2 J := fun I2 a1 a2 a3 a4 => hK I2 a1 a2 (by
    rw [seek_nil]
    by_cases c : L.all (fun h => !(apA apM A h)) = true
    · rw [if_pos c]
      exact a4 c
    · rw [if_neg c]
      exact a3 c)
  intro f
  induction f with
  | zero =>
    intro x4 x5 h5 hf h4
    rw [drop_end (show L.length ≤ x5.toInt.toNat by omega)] at h4
    refine rX12_seekEver_14 ht hu2 ⟨fun _ => sk_fin hW h3 ?_ hK2, fun h => absurd (Int32.le_iff_toInt_le.mpr (by omega)) h⟩
    rcases h4 with h4 | h4
    · exact Or.inl h4
    · exact Or.inr ⟨h4.1, h4.2.mpr rfl⟩
  | succ f ih =>
    intro x4 x5 h5 hf h4
    have e5 := i32_add x5 1 (by omega) (by omega)
    have n5 := tn_eq x5
    have en : x5.toInt.toNat + 1 = (x5 + 1).toInt.toNat := by omega
    rw [LiS_drop hL (k := x5.toInt.toNat) (by omega), en] at h4
    have cs : (I (t + 30) x5.toInt.toNat :: L.drop (x5 + 1).toInt.toNat).all (fun h => !(apA apM A h)) = (!(apA apM A (I (t + 30) x5.toInt.toNat)) && (L.drop (x5 + 1).toInt.toNat).all (fun h => !(apA apM A h))) := rfl
    rw [cs] at h4
    refine rX12_seekEver_14 ht hu2 ⟨fun h => by have := Int32.le_iff_toInt_le.mp h; omega, fun _ => ⟨fun hx => ?_, fun hx => ⟨vp_of (by omega) (by omega), ?_⟩⟩⟩
    · have hx0 : x4.toInt = 0 := by rw [hx]; rfl
      rcases h4 with h4 | h4
      · exact sk_fin hW h3 (Or.inl h4) hK2
      · exact absurd hx0 h4.1
    · have hx0 : ¬ x4.toInt = 0 := fun z => hx (Int32.toInt_inj.mp (z.trans q0.symm))
      have h4 : L.all (fun h => !(apA apM A h)) = true ↔ (!(apA apM A (I (t + 30) x5.toInt.toNat)) && (L.drop (x5 + 1).toInt.toNat).all (fun h => !(apA apM A h))) = true := by
        rcases h4 with h4 | h4
        · exact absurd h4.1 hx0
        · exact h4.2
      rw [n5]
      refine pX12_isApart hu2 h3 (by omega) (by omega) hA (fun v hv => ⟨fun c => ?_, fun c => ?_⟩)
      · have c := i1 c
        rcases hv with hv | hv
        · rw [hv.2, Bool.not_true, Bool.false_and] at h4
          exact ih 0 (x5 + 1) (by omega) (by omega) (Or.inl ⟨rfl, fun z => by have := h4.mp z; cases this⟩)
        · exact absurd hv.1 c
      · have c := i0 c
        rcases hv with hv | hv
        · omega
        · rw [Bool.eq_false_iff.mpr hv.2, Bool.not_false, Bool.true_and] at h4
          exact ih 1 (x5 + 1) (by omega) (by omega) (Or.inr ⟨by decide, h4⟩)
theorem pX12_seekEver {G : jdG} {Z : jdL} {J : jdJ} {t u2 n2 : Nat} {L : List Int32} (ht : zModel Z t) (hu2 : Z.1 u2 = some (0, n2)) (hn2 : n2 = 40) (hu : u2 < t ∨ t + 37 < u2) (h35 : L.length ≤ 35) : ∀ d : Nat, ∀ (n : Nat) (I : jdI) (K : jdI → jdJ → Prop) (x1 x3 : Int32) (A : List Int32), WM 7 t I → (I t 30).toInt = (L.length : Int) → LiS I (t + 30) L → LiS I u2 A → x3.toInt = (A.length : Int) → 0 ≤ x1.toInt → x1.toInt + (d : Int) = (L.length : Int) → (A.length : Int) ≤ x1.toInt → (∀ I2 : jdI, WM 7 t I2 → Fr (fun a k => (a = t ∧ (k = 37 ∨ k = 38)) ∨ a = u2) I I2 → (∀ k, k < A.length → I2 u2 k = I u2 k) → ((I2 t 37).toInt, (I2 t 38).toInt) = seek apM L (L.drop x1.toInt.toNat) A ((I t 37).toInt, (I t 38).toInt) → K I2 J) → Cl G mX12_seekEver (n + d + 2 + 1) 0 0 [.ref (gb G + t), .int x1, .ref (gb G + u2), .int x3] Z I J (qv Z K) := by
  have q1 : (1 : Int32).toInt = 1 := rfl
  intro d
  induction d with
  | zero =>
    intro n I K x1 x3 A hW h30 hL hA h3 h1 hd hAx hK
    refine eX12_seekEver ht hu2 ⟨fun hne => absurd (Int32.toInt_inj.mp (by omega)) hne, fun _ => ?_⟩
    refine pX12_seekEver_14 (n := n + 1) (L := L) (A := A) ht hu2 hn2 hW h35 (by omega) h30 hL hA h3 (fun I2 hW2 hF2 hz => hK I2 hW2 (Fr.tr Fr.rf hF2 (by intro a k h; omega)) (fun k hk => hF2 _ _ (by omega)) (by rw [drop_end (show L.length ≤ x1.toInt.toNat by omega)]; exact hz)) L.length 1 0 (by decide) (by show (0 : Int) + _ = _; omega) (Or.inr ⟨by decide, Iff.rfl⟩)
  | succ d ih =>
    intro n I K x1 x3 A hW h30 hL hA h3 h1 hd hAx hK
    have e1 := i32_add x1 1 (by omega) (by omega)
    have e3 := i32_add x3 1 (by omega) (by omega)
    have n1 := tn_eq x1
    have n3 := tn_eq x3
    have en : x1.toInt.toNat + 1 = (x1 + 1).toInt.toNat := by omega
    have e3n : Int32.toNatClampNeg x3 = A.length := by omega
    rw [LiS_drop hL (k := x1.toInt.toNat) (by omega), en] at hK
    refine eX12_seekEver ht hu2 ⟨fun hne => ⟨vp_of (by omega) (by omega), ?_⟩, fun he => by rw [he] at hd; omega⟩
    rw [n1, e3n]
    refine pX12_isApart hu2 h3 (by omega) (by omega) hA (fun v hv => ⟨fun c => ?_, fun c => ⟨vp_of (by omega) (by omega), vp_of (by omega) (by omega), ?_⟩⟩)
    · have c := i0 c
      have na : ¬ apA apM A (I (t + 30) x1.toInt.toNat) = true := by
        rcases hv with hv | hv
        · omega
        · exact hv.2
      exact ih n I K (x1 + 1) x3 A hW h30 hL hA h3 (by omega) (by omega) (by omega) (fun I2 hW2 hF2 hk hz => hK I2 hW2 hF2 hk (by rw [seek_cons, if_neg na]; exact hz))
    · have c := i1 c
      have ya : apA apM A (I (t + 30) x1.toInt.toNat) = true := by
        rcases hv with hv | hv
        · exact hv.2
        · exact absurd hv.1 c
      have f0 : Fr (fun a k => a = u2) I (uI I u2 A.length (I (t + 30) x1.toInt.toNat)) := Fr_uI Fr.rf rfl
      have w0 : WM 7 t (uI I u2 A.length (I (t + 30) x1.toInt.toNat)) := WM_fr hW f0 (by intro a k h1 h2 h3; omega)
      have k0 : ∀ k, k < A.length → (uI I u2 A.length (I (t + 30) x1.toInt.toNat)) u2 k = I u2 k := fun k hk => by rw [uI_ap, if_neg (by omega)]
      refine ih n _ _ (x1 + 1) (x3 + 1) (A ++ [I (t + 30) x1.toInt.toNat]) w0 (by rw [f0 t 30 (by omega)]; exact h30) (LiS_fr hL f0 (fun k => by omega)) (LiS_push hA rfl) (by rw [List.length_append, List.length_singleton]; omega) (by omega) (by omega) (by rw [List.length_append, List.length_singleton]; omega) (fun I8 hW8 hF8 hk8 hz8 => ?_)
      have hA8 : LiS I8 u2 A := fun k hk => by
        rw [hk8 k (by rw [List.length_append, List.length_singleton]; omega), k0 k hk]
        exact hA k hk
      refine ih n I8 K (x1 + 1) x3 A hW8 (by rw [hF8 t 30 (by omega), f0 t 30 (by omega)]; exact h30) (LiS_fr (LiS_fr hL f0 (fun k => by omega)) hF8 (fun k => by omega)) hA8 h3 (by omega) (by omega) (by omega) (fun I9 hW9 hF9 hk9 hz9 => ?_)
      refine hK I9 hW9 (Fr.tr (Fr.tr (Fr.tr Fr.rf f0 (by intro a k h; omega)) hF8 (by intro a k h; omega)) hF9 (by intro a k h; omega)) (fun k hk => by rw [hk9 k hk, hk8 k (by rw [List.length_append, List.length_singleton]; omega), k0 k hk]) ?_
      rw [seek_cons, if_pos ya, hz9, hz8, f0 t 37 (by omega), f0 t 38 (by omega)]
/-! coaches for two -/
def c1N (rel : Nat → Nat → Bool) (i : Nat) : Nat → Nat → Nat
  | _, 0 => 0
  | p, k + 1 => (if rel p i = true then 1 else 0) + c1N rel i (p + 1) k
def r1N (rel : Nat → Nat → Bool) (q : Nat) : Nat → Nat → Nat
  | _, 0 => 0
  | p, k + 1 => (if rel q p = true then 1 else 0) + r1N rel q (p + 1) k
theorem c1N_end (rel : Nat → Nat → Bool) (i : Nat) : ∀ k p, c1N rel i p (k + 1) = c1N rel i p k + (if rel (p + k) i = true then 1 else 0)
  | 0, p => by
    show (if rel p i = true then 1 else 0) + 0 = 0 + (if rel (p + 0) i = true then 1 else 0)
    rw [Nat.add_zero, Nat.add_zero, Nat.zero_add]
  | k + 1, p => by
    have ih := c1N_end rel i k (p + 1)
    show (if rel p i = true then 1 else 0) + c1N rel i (p + 1) (k + 1) = (if rel p i = true then 1 else 0) + c1N rel i (p + 1) k + (if rel (p + (k + 1)) i = true then 1 else 0)
    rw [ih, show p + 1 + k = p + (k + 1) by omega]
    omega
theorem r1N_end (rel : Nat → Nat → Bool) (q : Nat) : ∀ k p, r1N rel q p (k + 1) = r1N rel q p k + (if rel q (p + k) = true then 1 else 0)
  | 0, p => by
    show (if rel q p = true then 1 else 0) + 0 = 0 + (if rel q (p + 0) = true then 1 else 0)
    rw [Nat.add_zero, Nat.add_zero, Nat.zero_add]
  | k + 1, p => by
    have ih := r1N_end rel q k (p + 1)
    show (if rel q p = true then 1 else 0) + r1N rel q (p + 1) (k + 1) = (if rel q p = true then 1 else 0) + r1N rel q (p + 1) k + (if rel q (p + (k + 1)) = true then 1 else 0)
    rw [ih, show p + 1 + k = p + (k + 1) by omega]
    omega
theorem okN_1 {rel : Nat → Nat → Bool} {i p : Nat} (hi : i < p) (hp : p < 8) : okN rel ((1 : Int32) <<< (Int32.ofNat i &&& 31)) p p = rel p i := by
  unfold okN
  have e : (∀ q, q < p → bt ((1 : Int32) <<< (Int32.ofNat i &&& 31)) q = true → rel p q = true) ↔ rel p i = true := by
    constructor
    · intro h
      exact h i hi (by rw [bt_1a ⟨i, by omega⟩ ⟨i, by omega⟩]; exact decide_eq_true rfl)
    · intro h q hq hb
      rw [bt_1a ⟨i, by omega⟩ ⟨q, by omega⟩] at hb
      have e : q = i := of_decide_eq_true hb
      rw [e]
      exact h
  cases c : rel p i with
  | true => exact decide_eq_true (e.mpr c)
  | false => exact decide_eq_false (fun z => by rw [e.mp z] at c; cases c)
theorem DL_1 {rel : Nat → Nat → Bool} {i : Nat} : ∀ k p, i < p → p + k ≤ 8 → (DL rel k p 1 ((1 : Int32) <<< (Int32.ofNat i &&& 31))).length = c1N rel i p k
  | 0, p, _, _ => by rw [DL_k0]; rfl
  | k + 1, p, hi, hk => by
    have ih := DL_1 (rel := rel) (i := i) k (p + 1) (by omega) (by omega)
    show _ = (if rel p i = true then 1 else 0) + c1N rel i (p + 1) k
    have o := okN_1 (rel := rel) hi (show p < 8 by omega)
    by_cases c : rel p i = true
    · rw [DL_y (by rw [o]; exact c), DL_m0, List.length_append, ih, if_pos c]
      rfl
    · rw [DL_n (by rw [o]; exact c), ih, if_neg c, Nat.zero_add]
theorem DL_2 {rel : Nat → Nat → Bool} {k p : Nat} (hk : p + k + 1 ≤ 8) : (DL rel (k + 1) p 2 0).length = c1N rel p (p + 1) k + (DL rel k (p + 1) 2 0).length := by
  have o : okN rel 0 p p = true := decide_eq_true (fun q hq hb => by rw [bt_ze q (by omega)] at hb; cases hb)
  rw [DL_y o, List.length_append, Int32.zero_or, DL_1 k (p + 1) (by omega) (by omega)]
theorem DL_2e {rel : Nat → Nat → Bool} : ∀ k p, p + k + 1 ≤ 8 → (DL rel (k + 1) p 2 0).length = (DL rel k p 2 0).length + r1N rel (p + k) p k
  | 0, p, hk => by rw [DL_2 (by omega)]; rfl
  | k + 1, p, hk => by
    have ih := DL_2e (rel := rel) k (p + 1) (by omega)
    rw [DL_2 (k := k + 1) (p := p) (by omega), ih, DL_2 (k := k) (p := p) (by omega), c1N_end]
    show _ = _ + ((if rel (p + (k + 1)) p = true then 1 else 0) + r1N rel (p + (k + 1)) (p + 1) k)
    rw [show p + 1 + k = p + (k + 1) by omega]
    omega
theorem nI_r {rel : Nat → Nat → Bool} {q : Nat} : ∀ k, nI' (fun p q => rel q p) q k = r1N rel q 0 k
  | 0 => rfl
  | k + 1 => by
    rw [r1N_end, Nat.zero_add, ← nI_r k]
    rfl
theorem DL_2n {rel : Nat → Nat → Bool} : ∀ k, k ≤ 8 → (DL rel k 0 2 0).length = nO (fun p q => rel q p) k
  | 0, _ => by rw [DL_k0]; rfl
  | k + 1, hk => by
    rw [DL_2e k 0 (by omega), DL_2n k (by omega), Nat.zero_add]
    show _ = nO (fun p q => rel q p) k + nI' (fun p q => rel q p) k k
    rw [nI_r]
def cpW (w : Tw) : Nat := nO (fun p q => relW w q p) w.1.toNat
theorem pX12_pairsOf_l {G : jdG} {n rc rs : Nat} {Z : jdL} {J : jdJ} {K : Int32 → jdI → jdJ → Prop} {I : jdI} {t : Nat} {w : Tw} (ht : zModel Z t) (hw : RM I t w) (hb : 0 ≤ w.1 ∧ w.1 ≤ 7) (hK : ∀ v : Int32, v.toInt = (cpW w : Int) → K v I J) : ∀ m : Nat,
    (∀ x2 x3 : Int32, 0 ≤ x3.toInt → x3.toInt ≤ w.1 → x2.toInt = (nO (fun p q => relW w q p) x3.toInt.toNat : Int) → x2.toInt ≤ 7 * x3.toInt → (8 - x3.toInt) * 10 < (m : Int) → Jd G mX12_pairsOf (jdFm G (qi Z K)) (n + 1) rc rs 4 [(0, .ref (gb G + t)), (1, .int (evW w)), (2, .int x2), (3, .int x3)] [] Z I J) ∧
    (∀ x2 x3 x4 : Int32, 0 ≤ x3.toInt → x3.toInt < w.1 → 0 ≤ x4.toInt → x4.toInt ≤ x3.toInt → x2.toInt = (nO (fun p q => relW w q p) x3.toInt.toNat + nI' (fun p q => relW w q p) x3.toInt.toNat x4.toInt.toNat : Nat) → x2.toInt ≤ 7 * x3.toInt + x4.toInt → (8 - x3.toInt) * 10 - x4.toInt - 1 < (m : Int) → Jd G mX12_pairsOf (jdFm G (qi Z K)) (n + 1) rc rs 15 [(0, .ref (gb G + t)), (1, .int (evW w)), (2, .int x2), (3, .int x3), (4, .int x4)] [] Z I J) := by
  have h10 := hw.1
  have q1 : (1 : Int32).toInt = 1 := rfl
  have q0 : (0 : Int32).toInt = 0 := rfl
  have ev : ∀ x : Int32, 0 ≤ x.toInt → x.toInt < w.1 → ¬ ((evW w >>> (x &&& 31)) &&& 1) = 0 := fun x h0 h1 => by
    refine (bt_iff (evW w) h0).mp ?_
    have q : (Int32.ofInt w.1).toInt = w.1 := Int32.toInt_ofInt_of_le (by omega) (by omega)
    unfold evW
    rw [bt_ev (by omega) (by omega), q]
    exact decide_eq_true (by omega)
  intro m
  induction m with
  | zero =>
    refine ⟨fun x2 x3 h1 h2 h3 h4 hm => ?_, fun x2 x3 x4 h1 h2 h3 h4 h5 h6 hm => ?_⟩ <;> omega
  | succ m ih =>
    refine ⟨fun x2 x3 h1 h2 h3 h4 hm => ?_, fun x2 x3 x4 h1 h2 h3 h4 h5 h6 hm => ?_⟩
    · refine rX12_pairsOf_4 ht ⟨fun hc => ?_, fun hc => ?_⟩
      · have hc := Int32.le_iff_toInt_le.mp hc
        refine hK x2 ?_
        rw [h3]
        unfold cpW
        rw [show x3.toInt.toNat = w.1.toNat by omega]
      · have hc := mt Int32.le_iff_toInt_le.mpr hc
        exact ih.2 x2 x3 0 h1 (by omega) (by decide) (by omega) (by rw [h3]; rfl) (by omega) (by omega)
    · have e3 := i32_add x3 1 (by omega) (by omega)
      have e4 := i32_add x4 1 (by omega) (by omega)
      have e2 := i32_add x2 1 (by omega) (by omega)
      have n3 := tn_eq x3
      have n4 := tn_eq x4
      refine rX12_pairsOf_15 ht ⟨fun hc => ?_, fun hc => ?_⟩
      · have hc := Int32.le_iff_toInt_le.mp hc
        exact ih.1 x2 (x3 + 1) (by omega) (by omega) (by rw [h5, show x4.toInt.toNat = x3.toInt.toNat by omega, show (x3 + 1).toInt.toNat = x3.toInt.toNat + 1 by omega]; rfl) (by omega) (by omega)
      · have hc := mt Int32.le_iff_toInt_le.mpr hc
        have en : (x4 + 1).toInt.toNat = x4.toInt.toNat + 1 := by omega
        have et : Int32.toNatClampNeg x3 = x3.toInt.toNat := by omega
        have ef : Int32.toNatClampNeg x4 = x4.toInt.toNat := by omega
        have k9 := hw.2.2.2.2 x3.toInt.toNat x4.toInt.toNat (by omega) (by omega) (by omega)
        refine eX12_has ⟨fun z => absurd z (ev x3 h1 h2), fun _ => ⟨fun z => absurd z (by decide), fun _ => ?_⟩⟩
        refine eX12_has ⟨fun z => absurd z (ev x4 h3 (by omega)), fun _ => ⟨fun z => absurd z (by decide), fun _ => ⟨vp_of (by omega) (by omega), vp_of (by omega) (by omega), fun hv => ?_, fun hv => ?_⟩⟩⟩
        · rw [et, ef, k9] at hv
          have hn : ¬ relW w x3.toInt.toNat x4.toInt.toNat = true := fun z => hv (of_decide_eq_true z)
          rw [Int32.add_zero]
          refine ih.2 x2 x3 (x4 + 1) h1 h2 (by omega) (by omega) ?_ (by omega) (by omega)
          rw [h5, en]
          show _ = ((nO _ _ + (nI' (fun p q => relW w q p) x3.toInt.toNat x4.toInt.toNat + (if relW w x3.toInt.toNat x4.toInt.toNat = true then 1 else 0)) : Nat) : Int)
          rw [if_neg hn, Nat.add_zero]
        · rw [et, ef, k9] at hv
          have hy : relW w x3.toInt.toNat x4.toInt.toNat = true := decide_eq_true hv
          refine ih.2 (x2 + 1) x3 (x4 + 1) h1 h2 (by omega) (by omega) ?_ (by omega) (by omega)
          rw [en]
          show _ = ((nO _ _ + (nI' (fun p q => relW w q p) x3.toInt.toNat x4.toInt.toNat + (if relW w x3.toInt.toNat x4.toInt.toNat = true then 1 else 0)) : Nat) : Int)
          rw [if_pos hy]
          omega
theorem pX12_pairsOf {G : jdG} {n : Nat} {Z : jdL} {J : jdJ} {K : Int32 → jdI → jdJ → Prop} {I : jdI} {t : Nat} {w : Tw} (ht : zModel Z t) (hw : RM I t w) (hb : 0 ≤ w.1 ∧ w.1 ≤ 7) (hK : ∀ v : Int32, v.toInt = (cpW w : Int) → K v I J) : Cl G mX12_pairsOf (n + 1) 0 0 [.ref (gb G + t), .int (evW w)] Z I J (qi Z K) :=
  eX12_pairsOf ht ((pX12_pairsOf_l ht hw hb hK 81).1 0 0 (by decide) (by show (0 : Int) ≤ _; omega) rfl (by decide) (by decide))
def evS (w : Tw) : Int × Int := if w.2.2.2.1 = 2 then ((cpW w : Int), (cpW w : Int)) else seek apM (LW w) (LW w) [] (0, -1)
theorem ev_long {w : Tw} (hb : (0 ≤ w.1 ∧ w.1 ≤ 7) ∧ 2 ≤ w.2.2.2.1 ∧ w.2.2.2.1 ≤ 4) (hsy : SYM w) : oLong w = (evS w).1 ∧ oSoon w = (evS w).2 := by
  unfold oLong oSoon evS
  by_cases c : w.2.2.2.1 = 2
  · rw [if_pos c, if_pos c, if_pos c]
    have e : (LW w).length = cpW w := by
      unfold LW cpW
      rw [show w.2.2.2.1.toNat = 2 by omega]
      exact DL_2n _ (by omega)
    rw [e]
    exact ⟨rfl, rfl⟩
  · rw [if_neg c, if_neg c, if_neg c]
    have g := GP_W hb hsy c
    have l8 := lmx_8 hb hsy c (o := paW w)
    have c24 := cdN_24 (paW w) 24
    have l3 : lmx ((LW w).map (pmW w)) (paW w) * 3 ≤ lmx ((LW w).map (pmW w)) (paW w) * eaN w := Nat.mul_le_mul_left _ l8.1
    have l35 := LW_35 hb
    exact ⟨(seek_1 g).symm, (seek_2 g (by omega) (by omega) (by decide)).symm⟩
theorem pqX12_findEver {G : jdG} {n : Nat} {Z : jdL} {I : jdI} {J : jdJ} {Q : jdQ} {x : Nat} {w : Tw} (hx : zModel Z x) (hW : WM 7 x I) (hw : RM I x w) (hl : x + 38 ≤ Z.2.2) (hQ : ∀ (Z2 : jdL) (I2 : jdI), (Z2 = Z ∨ Z2 = nZ Z (0, 40)) → WM 7 x I2 → Fr (fun a k => (a = x ∧ 20 ≤ k) ∨ a = x + 17 ∨ (x + 29 ≤ a ∧ a ≤ x + 37) ∨ Z.2.2 ≤ a) I I2 → ((I2 x 37).toInt, (I2 x 38).toInt) = evS w → Q none Z2 I2 J) : Cl G mX12_findEver (n + 40) 1 40 [.ref (gb G + x)] Z I J Q := by
  have hb := RM_b hW hw
  have w1 : WM 7 x (uI I x 37 0) := WM_uI hW (by first | exact okMo (by decide) (by decide) (by decide) (by decide) (by decide) | exact okMf (by decide) (by decide) (by decide) (by decide) (by decide) (by decide) (by decide) (by decide) | exact okM30 (by omega) | exact okM42 (by omega) | exact okM33 (by omega) | exact okM10 (by omega) | exact okM8 (by omega) | exact okM22 (by omega) | exact okM24 (by omega) | exact okM14 (by omega) | exact okMa31 (by omega) | exact okMa35 (by omega) | exact okMa36 (by omega) | exact okMa3 (by omega) | exact okMr (by omega) | (unfold okM; refine ⟨?_, ?_, ?_, ?_, ?_, ?_, ?_, ?_, ?_, ?_, ?_, ?_⟩ <;> intro h <;> omega))
  have w2 : WM 7 x (uI (uI I x 37 0) x 38 (-1)) := WM_uI w1 (by first | exact okMo (by decide) (by decide) (by decide) (by decide) (by decide) | exact okMf (by decide) (by decide) (by decide) (by decide) (by decide) (by decide) (by decide) (by decide) | exact okM30 (by omega) | exact okM42 (by omega) | exact okM33 (by omega) | exact okM10 (by omega) | exact okM8 (by omega) | exact okM22 (by omega) | exact okM24 (by omega) | exact okM14 (by omega) | exact okMa31 (by omega) | exact okMa35 (by omega) | exact okMa36 (by omega) | exact okMa3 (by omega) | exact okMr (by omega) | (unfold okM; refine ⟨?_, ?_, ?_, ?_, ?_, ?_, ?_, ?_, ?_, ?_, ?_, ?_⟩ <;> intro h <;> omega))
  have f9 : Fr (fun a k => a = x ∧ (k = 37 ∨ k = 38)) I (uI (uI I x 37 0) x 38 (-1)) := Fr_uI (Fr_uI Fr.rf (by omega)) (by omega)
  have z37 : ((uI (uI I x 37 0) x 38 (-1)) x 37).toInt = 0 := by rw [uI_ap, if_neg (by omega), uI_ap, if_pos ⟨rfl, rfl⟩]; rfl
  have z38 : ((uI (uI I x 37 0) x 38 (-1)) x 38).toInt = -1 := by rw [uI_ap, if_pos ⟨rfl, rfl⟩]; rfl
  have h14 : I x 14 = 2 ↔ w.2.2.2.1 = 2 := by
    have h := hw.2.2.1
    have q2 : (2 : Int32).toInt = 2 := rfl
    exact ⟨fun e => by rw [e] at h; omega, fun e => Int32.toInt_inj.mp (by rw [q2]; omega)⟩
  refine eX12_findEver hx ?_
  generalize (uI (uI I x 37 0) x 38 (-1)) = I0 at w2 f9 z37 z38 ⊢
  have r0 := RM_fr hw (by omega) f9 (by omega) (by omega) (by omega) (by intro a k h1 h2 h3; omega)
  refine ⟨fun hc => ?_, fun hc => ?_⟩
  · have h2 : ¬ w.2.2.2.1 = 2 := fun e => hc (h14.mpr e)
    refine pX12_listAll hx w2 (GM_RM r0 (by omega) (by omega)) (by omega) (by omega) (fun I1 hW1 hF1 hc1 hL1 => ?_)
    have hz : zModel (nZ Z (0, 40)) x := zModel_tr hx (fun a h1 h2 => by rw [nZ_ap, if_neg (by omega)]) (fun a k h1 h2 _ => by rw [nZ_ap2, if_neg (by omega)])
    have f3 : Fr (fun a _ => a = Z.2.2) I1 (zI I1 Z.2.2) := Fr_zI Fr.rf (fun _ => rfl)
    have w3 : WM 7 x (zI I1 Z.2.2) := WM_fr hW1 f3 (by intro a k h1 h2 h3; omega)
    refine ⟨0, 0, Nat.le_refl _, Nat.le_refl _, hz, ?_⟩
    have l35 := LW_35 hb
    have q0 : (0 : Int32).toInt = 0 := rfl
    rw [show n + 39 = (n + 36 - (LW w).length) + (LW w).length + 2 + 1 by omega]
    refine pX12_seekEver (L := LW w) (n2 := 40) hz (by rw [nZ_ap, if_pos rfl]) rfl (by omega) l35 (LW w).length (n + 36 - (LW w).length) _ _ 0 0 [] w3 (by rw [f3 x 30 (by omega)]; exact hc1) (LiS_fr hL1 f3 (fun k => by omega)) (LiS_nil _ _) rfl (by decide) (by rw [q0]; omega) (by decide) (fun I4 hW4 hF4 _ hz4 => ?_)
    refine hQ _ _ (Or.inr rfl) hW4 (Fr.tr (Fr.tr (Fr.tr (Fr.tr Fr.rf f9 (by intro a k h; omega)) hF1 (by intro a k h; omega)) f3 (by intro a k h; omega)) hF4 (by intro a k h; omega)) ?_
    rw [hz4, f3 x 37 (by omega), f3 x 38 (by omega), hF1 x 37 (by omega), hF1 x 38 (by omega), z37, z38]
    unfold evS
    rw [if_neg h2]
    rfl
  · have h2 := h14.mp hc
    refine eX12_all hx ?_
    rw [evM r0]
    refine pX12_pairsOf hx r0 hb.1 (fun v9 hv9 => ?_)
    have w8 : WM 7 x (uI I0 x 37 v9) := WM_uI w2 (by first | exact okMo (by decide) (by decide) (by decide) (by decide) (by decide) | exact okMf (by decide) (by decide) (by decide) (by decide) (by decide) (by decide) (by decide) (by decide) | exact okM30 (by omega) | exact okM42 (by omega) | exact okM33 (by omega) | exact okM10 (by omega) | exact okM8 (by omega) | exact okM22 (by omega) | exact okM24 (by omega) | exact okM14 (by omega) | exact okMa31 (by omega) | exact okMa35 (by omega) | exact okMa36 (by omega) | exact okMa3 (by omega) | exact okMr (by omega) | (unfold okM; refine ⟨?_, ?_, ?_, ?_, ?_, ?_, ?_, ?_, ?_, ?_, ?_, ?_⟩ <;> intro h <;> omega))
    have w9 : WM 7 x (uI (uI I0 x 37 v9) x 38 v9) := WM_uI w8 (by first | exact okMo (by decide) (by decide) (by decide) (by decide) (by decide) | exact okMf (by decide) (by decide) (by decide) (by decide) (by decide) (by decide) (by decide) (by decide) | exact okM30 (by omega) | exact okM42 (by omega) | exact okM33 (by omega) | exact okM10 (by omega) | exact okM8 (by omega) | exact okM22 (by omega) | exact okM24 (by omega) | exact okM14 (by omega) | exact okMa31 (by omega) | exact okMa35 (by omega) | exact okMa36 (by omega) | exact okMa3 (by omega) | exact okMr (by omega) | (unfold okM; refine ⟨?_, ?_, ?_, ?_, ?_, ?_, ?_, ?_, ?_, ?_, ?_, ?_⟩ <;> intro h <;> omega))
    refine hQ _ _ (Or.inl rfl) w9 (Fr_uI (Fr_uI (Fr.tr Fr.rf f9 (by intro a k h; omega)) (by omega)) (by omega)) ?_
    rw [uI_ap (uI I0 x 37 v9) x 38 v9 x 37, if_neg (by omega), uI_ap I0 x 37 v9 x 37, if_pos ⟨rfl, rfl⟩, uI_ap (uI I0 x 37 v9) x 38 v9 x 38, if_pos ⟨rfl, rfl⟩, hv9]
    unfold evS
    rw [if_pos h2]
def oFeast (w : Tw) (x : Int32) : Int := oSet w x ((Int32.ofInt (evS w).1 - Int32.ofInt (evS (acqT w x)).1).toInt)
theorem pX11_feast {G : jdG} {n : Nat} {Z : jdL} {J : jdJ} {K : Int32 → jdI → jdJ → Prop} {I : jdI} {s : Sd} {x1 : Int32} (hX : zX Z) (hW : WX I) (hs : TX I 1 s) (hk : OKT s.1) (hK : ∀ (v : Int32) (I2 : jdI), WX I2 → Fr (fun a k => (13 ≤ a ∧ a ≤ 24) ∨ a = 28) I I2 → v.toInt = oFeast s.1 x1 → K v I2 J) : Cl G mX11_feast (n + 81) 0 0 [.ref (gb G + 0), .int x1] Z I J (qi Z K) := by
  have hb := RX_b hW hs.1
  have hsy := OKT_sy hk
  have ev := ev_long hb hsy
  have ev2 := ev_long (w := acqT s.1 x1) hb (SYM_acq hsy)
  refine eX11_feast hX (pX_set (f := (Int32.ofInt (evS s.1).1 - Int32.ofInt (evS (acqT s.1 x1)).1).toInt) hX hW hs.1 hk hK (fun I2 h0 h1 hW2 hF2 hT2 _ => ?_))
  refine pX8_longest (zX_o3 hX) hW2 hb hsy hT2 (fun v6 I5 hW5 hF5 hv6 => ?_)
  refine pX8_acquaint (zX_o3 hX) hW5 hsy hb (TL_k hT2 hF5 (by intro a k h; omega)) (fun I7 hW7 hF7 hT7 _ => ?_)
  refine pX8_longest (w := acqT s.1 x1) (zX_o3 hX) hW7 hb (SYM_acq hsy) hT7 (fun v10 I9 hW9 hF9 hv10 => hK _ I9 hW9 (Fr.tr (Fr.tr (Fr.tr hF2 hF5 (by intro a k h; omega)) hF7 (by intro a k h; omega)) hF9 (by intro a k h; omega)) ?_)
  unfold oFeast
  rw [oSet_y h0 h1, ← ev.1, ← ev2.1, ← hv6, ← hv10, ofI, ofI]
theorem pqX12_feast {G : jdG} {n : Nat} {Z : jdL} {I : jdI} {J : jdJ} {Q : jdQ} {t : Nat} {s : Sd} {x1 : Int32} {sA sV : Nat → Nat} (hG : gOK G sA sV) (hM : MI Z I t) (hs : TM I t s) (hQ : ∀ (v : Int32) (Z2 : jdL) (I2 : jdI) (J2 : jdJ), ST t 21 20 Z I J Z2 I2 J2 → v.toInt = oFeast s.1 x1 → Q (some (.int v)) Z2 I2 J2) : Cl G mX12_feast (n + 41) 40 2026 [.ref (gb G + t), .int x1] Z I J Q := by
  have hb := RM_b hM.2.1 hs.1
  have hMs := hM.2.2.1
  refine eX12_feast hM.1 ?_
  refine pX12_isSet hM.1 hM.2.1 hs.1.1 (fun v hp => ⟨fun hc => ?_, fun hc => ?_⟩)
  · have hc := i1 hc
    refine ⟨1, 40, 39, 1986, Nat.le_refl _, Nat.le_refl _, ?_⟩
    refine pqX12_findEver hM.1 hM.2.1 hs.1 hM.2.2.1 (fun Z3 I3 hz hW3 hF3 hv3 => ?_)
    have hS3 := ST_ev (ST.rf (x := 21) (y := 20) (J := J) hM) hz hW3 hF3
    have hfc := fC_le Z3 t
    have r3 := RM_fr hs.1 (by omega) hF3 (by omega) (by omega) (by omega) (by intro a k h1 h2 h3; omega)
    refine ⟨rfl, hS3.1.1, fC Z3 t, fS Z3 t, 1, 40, by omega, by omega, ?_⟩
    refine qX12_fresh hG hS3.1 (fun u Z4 I4 J4 hS hu c0 c2 c3 hU hF4 hC4 => ⟨u, rfl, hS.1.1, c0, ?_⟩)
    have hS4 := ST.tr hS3 hS
    have ru := RM_cm r3 (by omega) hC4
    refine pX12_meets c0 hU ru (fun v6 I5 hW5 hF5 hR5 _ => ?_)
    have hS5 := ST_u hS4 hu (WM_mono hW5 (by decide)) hF5 (by intro a k h; omega)
    refine ⟨1, 40, 0, 0, Nat.le_refl _, Nat.le_refl _, ?_⟩
    refine pqX12_findEver (w := acqT s.1 x1) c0 hW5 hR5 c3 (fun Z7 I7 hz7 hW7 hF7 hv7 => ?_)
    have hS7 := ST_evu hS5 hu hz7 hW7 hF7
    have hu7 : zModel Z7 u := by
      rcases hz7 with rfl | rfl
      · exact c0
      · exact ((MI_nZ hS5.1).2.2.2.2.2.1 u (by rw [nZ_ap2, if_neg (by have := hS5.1.2.2.1; omega)]; exact hu)).1
    refine ⟨rfl, hS7.1.1, hu7, hQ _ _ _ _ hS7 ?_⟩
    have e7 : I7 t 37 = I3 t 37 := by rw [hF7 t 37 (by omega), hF5 t 37 (by omega), hF4 t 37 (by omega)]
    have v1 : (I3 t 37).toInt = (evS s.1).1 := congrArg Prod.fst hv3
    have v2 : (I7 u 37).toInt = (evS (acqT s.1 x1)).1 := congrArg Prod.fst hv7
    unfold oFeast
    rw [oSet_y (by omega) (by omega), ← v1, ← v2, ofI, ofI, e7]
  · have hc := i0 hc
    refine sfX12_refuse hM.1 (by decide) hM.2.1 (by decide) (fun v5 I4 hW4 hF4 hp4 => hQ _ _ _ _ (ST_t (ST.rf hM) hW4 hF4 (by intro a k h; omega)) ?_)
    unfold oFeast oSet
    rw [if_neg (by omega)]
    exact hp4
