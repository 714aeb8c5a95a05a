/-! the day of least waiting: what is to be found -/
def mnl (p : Int32 → Bool) (h : Int32 → Int) : List Int32 → Int → Int
  | [], b => b
  | g :: L, b => mnl p h L (if p g = true ∧ h g < b then h g else b)
theorem mnl_le (p : Int32 → Bool) (h : Int32 → Int) : ∀ (L : List Int32) (b : Int), mnl p h L b ≤ b ∧ ∀ g ∈ L, p g = true → mnl p h L b ≤ h g
  | [], b => ⟨Int.le_refl _, fun g hg => by cases hg⟩
  | g :: L, b => by
    have ih := mnl_le p h L (if p g = true ∧ h g < b then h g else b)
    have s : (if p g = true ∧ h g < b then h g else b) ≤ b ∧ (p g = true → (if p g = true ∧ h g < b then h g else b) ≤ h g) := by
      by_cases c : p g = true ∧ h g < b
      · rw [if_pos c]
        exact ⟨by omega, fun _ => Int.le_refl _⟩
      · rw [if_neg c]
        exact ⟨Int.le_refl _, fun q => by
          have : ¬ h g < b := fun z => c ⟨q, z⟩
          omega⟩
    refine ⟨Int.le_trans ih.1 s.1, fun x hx px => ?_⟩
    rcases List.mem_cons.mp hx with e | e
    · rw [e] at px ⊢
      exact Int.le_trans ih.1 (s.2 px)
    · exact ih.2 x e px
theorem mnl_ex (p : Int32 → Bool) (h : Int32 → Int) : ∀ (L : List Int32) (b : Int), mnl p h L b = b ∨ ∃ g ∈ L, p g = true ∧ mnl p h L b = h g
  | [], b => Or.inl rfl
  | g :: L, b => by
    rcases mnl_ex p h L (if p g = true ∧ h g < b then h g else b) with e | ⟨x, hx, px, e⟩
    · by_cases c : p g = true ∧ h g < b
      · rw [if_pos c] at e
        exact Or.inr ⟨g, List.mem_cons_self, c.1, by show mnl p h L (if p g = true ∧ h g < b then h g else b) = _; rw [if_pos c]; exact e⟩
      · rw [if_neg c] at e
        exact Or.inl (by show mnl p h L (if p g = true ∧ h g < b then h g else b) = _; rw [if_neg c]; exact e)
    · exact Or.inr ⟨x, List.mem_cons_of_mem _ hx, px, e⟩
def sumP (f : Nat → Int) (s : Int32) : Nat → Int
  | 0 => 0
  | k + 1 => sumP f s k + (if bt s k = true then f k else 0)
theorem sumP_dl {f : Nat → Int} {s g : Int32} (h : sbs s g = true) : ∀ k, k ≤ 32 → sumP f (dl s g) k + sumP f g k = sumP f s k
  | 0, _ => rfl
  | k + 1, hk => by
    have ih := sumP_dl (f := f) h k (by omega)
    show sumP f (dl s g) k + (if bt (dl s g) k = true then f k else 0) + (sumP f g k + (if bt g k = true then f k else 0)) = sumP f s k + (if bt s k = true then f k else 0)
    rw [dl_bt _ _ (show k < 32 by omega)]
    cases a : bt g k with
    | false =>
      rw [Bool.not_false, Bool.and_true, if_neg (show ¬ false = true by decide)]
      omega
    | true =>
      rw [sbs_bt.mp h k (by omega) a, if_neg (show ¬ (true && !true) = true by decide), if_pos rfl]
      omega
theorem sumP_le {f f2 : Nat → Int} {s : Int32} : ∀ k, (∀ p, p < k → bt s p = true → f p ≤ f2 p) → sumP f s k ≤ sumP f2 s k
  | 0, _ => Int.le_refl _
  | k + 1, h => by
    have ih := sumP_le (f := f) (f2 := f2) (s := s) k (fun p hp => h p (by omega))
    show sumP f s k + (if bt s k = true then f k else 0) ≤ sumP f2 s k + (if bt s k = true then f2 k else 0)
    by_cases c : bt s k = true
    · have := h k (by omega) c
      rw [if_pos c, if_pos c]
      omega
    · rw [if_neg c, if_neg c]
      omega
theorem sumP_c {f f2 : Nat → Int} {s : Int32} : ∀ k, (∀ p, p < k → bt s p = true → f p = f2 p) → sumP f s k = sumP f2 s k := fun k h => Int.le_antisymm (sumP_le k (fun p hp b => by rw [h p hp b]; exact Int.le_refl _)) (sumP_le k (fun p hp b => by rw [h p hp b]; exact Int.le_refl _))
/-! rows of groups that may ride out of a set -/
theorem dl_cmm (s a b : Int32) : dl (dl s a) b = dl (dl s b) a := by rw [dl_dl, dl_dl, Int32.or_comm]
theorem sbs_swap {s a g : Int32} (h1 : sbs s a = true) (h2 : sbs (dl s a) g = true) : sbs s g = true ∧ sbs (dl s g) a = true := by
  have q1 := sbs_bt.mp h1
  have q2 := sbs_bt.mp h2
  have r : ∀ i, i < 32 → bt g i = true → bt s i = true ∧ bt a i = false := fun i hi hg => by
    have e := q2 i hi hg
    rw [dl_bt _ _ hi] at e
    obtain ⟨e1, e2⟩ := Bool.and_eq_true_iff.mp e
    exact ⟨e1, by rw [Bool.not_eq_true'] at e2; exact e2⟩
  refine ⟨sbs_bt.mpr (fun i hi hg => (r i hi hg).1), sbs_bt.mpr (fun i hi ha => ?_)⟩
  rw [dl_bt _ _ hi, q1 i hi ha]
  cases c : bt g i
  · rfl
  · rw [(r i hi c).2] at ha
    cases ha
def pkv (L : List Int32) : Int32 → List Int32 → Prop
  | _, [] => True
  | s, g :: R => g ∈ L ∧ sbs s g = true ∧ pkv L (dl s g) R
def pkV (wt st : Int32 → Int) : Int32 → List Int32 → Int
  | s, [] => st s
  | s, g :: R => wt g + pkV wt st (dl s g) R
theorem pk_front {L : List Int32} {wt st : Int32 → Int} {g : Int32} {B : List Int32} : ∀ (A : List Int32) (s : Int32), pkv L s (A ++ g :: B) → pkv L s (g :: (A ++ B)) ∧ pkV wt st s (A ++ g :: B) = pkV wt st s (g :: (A ++ B))
  | [], s, h => ⟨h, rfl⟩
  | a :: A, s, h => by
    obtain ⟨a1, a2, a3⟩ := h
    obtain ⟨⟨b1, b2, b3⟩, b4⟩ := pk_front (wt := wt) (st := st) A (dl s a) a3
    obtain ⟨c1, c2⟩ := sbs_swap a2 b2
    refine ⟨⟨b1, c1, a1, c2, ?_⟩, ?_⟩
    · rw [dl_cmm]
      exact b3
    · have b4 : pkV wt st (dl s a) (A ++ g :: B) = wt g + pkV wt st (dl (dl s a) g) (A ++ B) := b4
      show wt a + pkV wt st (dl s a) (A ++ g :: B) = wt g + (wt a + pkV wt st (dl (dl s g) a) (A ++ B))
      rw [b4, dl_cmm]
      omega
theorem sbs_off {s b g : Int32} (h : sbs (dl s b) g = true) : sbs s g = true := sbs_bt.mpr (fun i hi hg => by
  have e := sbs_bt.mp h i hi hg
  rw [dl_bt _ _ hi] at e
  exact (Bool.and_eq_true_iff.mp e).1)
theorem stay_in {L : List Int32} {wt st : Int32 → Int} {b : Int32} (hst : ∀ s g, sbs s g = true → st s = st (dl s g) + st g) : ∀ (P : List Int32) (s : Int32), sbs s b = true → pkv L (dl s b) P → pkv L s P ∧ pkV wt st s P = pkV wt st (dl s b) P + st b
  | [], s, hb, _ => ⟨trivial, hst s b hb⟩
  | g :: P, s, hb, h => by
    obtain ⟨h1, h2, h3⟩ := h
    obtain ⟨c1, c2⟩ := sbs_swap hb h2
    rw [dl_cmm] at h3
    obtain ⟨i1, i2⟩ := stay_in (wt := wt) hst P (dl s g) c2 h3
    refine ⟨⟨h1, c1, i1⟩, ?_⟩
    show wt g + pkV wt st (dl s g) P = wt g + pkV wt st (dl (dl s b) g) P + st b
    rw [i2, dl_cmm s b g]
    omega
theorem stay_out {L : List Int32} {b : Int32} : ∀ (P : List Int32) (s : Int32), pkv L s P → (∀ g ∈ P, (g &&& b) = 0) → pkv L (dl s b) P
  | [], _, _, _ => trivial
  | g :: P, s, h, hd => by
    obtain ⟨h1, h2, h3⟩ := h
    refine ⟨h1, sbs_bt.mpr (fun i hi hg => ?_), ?_⟩
    · rw [dl_bt _ _ hi, sbs_bt.mp h2 i hi hg, dis_bt.mp (hd g List.mem_cons_self) i hi hg]
      rfl
    · rw [dl_cmm]
      exact stay_out P (dl s g) h3 (fun x hx => hd x (List.mem_cons_of_mem _ hx))
theorem pkv_sub {L : List Int32} : ∀ (P : List Int32) (s : Int32), pkv L s P → ∀ g ∈ P, g ∈ L ∧ sbs s g = true
  | [], _, _, g, hg => by cases hg
  | a :: P, s, h, g, hg => by
    obtain ⟨h1, h2, h3⟩ := h
    rcases List.mem_cons.mp hg with e | e
    · rw [e]
      exact ⟨h1, h2⟩
    · obtain ⟨i1, i2⟩ := pkv_sub P (dl s a) h3 g e
      exact ⟨i1, sbs_off i2⟩
theorem pkv_len {L : List Int32} (hG : ∀ g ∈ L, 1 ≤ cd g) : ∀ (P : List Int32) (s : Int32), pkv L s P → P.length ≤ cd s
  | [], _, _ => Nat.zero_le _
  | g :: P, s, h => by
    obtain ⟨h1, h2, h3⟩ := h
    have ih := pkv_len hG P (dl s g) h3
    have c := cdN_dl h2 8 (Nat.le_refl _)
    have c : cd (dl s g) + cd g = cd s := c
    have g1 := hG g h1
    rw [List.length_cons]
    omega
/-! X's table -/
theorem tab_ok {L : List Int32} {wt st : Int32 → Int} {T : Int32 → Int} {k : Int} {ev : Int32} {lb : Int32 → Int32} (hst : ∀ s g, sbs s g = true → st s = st (dl s g) + st g) (hst0 : st 0 = 0) (hG : ∀ g ∈ L, 1 ≤ cd g) (hlb : ∀ s, sbs ev s = true → ¬ s = 0 → sbs s (lb s) = true ∧ 1 ≤ cd (lb s) ∧ ∀ g, ((g &&& lb s) = 0 ∨ sbs g (lb s) = true)) (hz : T 0 = 0)
    (hT : ∀ s, sbs ev s = true → ¬ s = 0 → T s = mnl (fun g => sbs g (lb s) && sbs s g) (fun g => T (dl s g) + (k * wt g - 1)) L (T (dl s (lb s)) + k * st (lb s))) : ∀ (n : Nat) (s : Int32), cd s ≤ n → sbs ev s = true → (∀ i, 8 ≤ i → i < 32 → bt s i = false) → (∀ P, pkv L s P → T s ≤ k * pkV wt st s P - (P.length : Int)) ∧ ∃ P, pkv L s P ∧ T s = k * pkV wt st s P - (P.length : Int) := by
  have z0 : (∀ P, pkv L 0 P → T 0 ≤ k * pkV wt st 0 P - (P.length : Int)) ∧ ∃ P, pkv L 0 P ∧ T 0 = k * pkV wt st 0 P - (P.length : Int) := by
    refine ⟨fun P hP => ?_, [], trivial, ?_⟩
    · cases P with
      | nil =>
        show T 0 ≤ k * st 0 - 0
        rw [hz, hst0, Int.mul_zero]
        decide
      | cons g P =>
        obtain ⟨h1, h2, _⟩ := hP
        have g1 := hG g h1
        obtain ⟨p, hp, hb⟩ := cdN_one 8 g1
        have := sbs_bt.mp h2 p (by omega) hb
        rw [bt_ze p (by omega)] at this
        cases this
    · show T 0 = k * st 0 - 0
      rw [hz, hst0, Int.mul_zero]
      rfl
  have sub : ∀ s g, sbs ev s = true → sbs ev (dl s g) = true := fun s g h => sbs_bt.mpr (fun i hi hb => by
    rw [dl_bt _ _ hi] at hb
    exact sbs_bt.mp h i hi (Bool.and_eq_true_iff.mp hb).1)
  have sub8 : ∀ s g, (∀ i, 8 ≤ i → i < 32 → bt s i = false) → ∀ i, 8 ≤ i → i < 32 → bt (dl s g) i = false := fun s g h i h1 h2 => by
    rw [dl_bt _ _ h2, h i h1 h2]
    rfl
  intro n
  induction n with
  | zero =>
    intro s hc hs h8
    have e : s = 0 := bt_all (fun i hi => by
      rw [bt_ze i hi]
      by_cases q : i < 8
      · exact cdN_0 8 (Nat.le_zero.mp hc) i q
      · exact h8 i (by omega) hi)
    rw [e]
    exact z0
  | succ n ih =>
    intro s hc hs h8
    by_cases c0 : s = 0
    · rw [c0]
      exact z0
    · obtain ⟨l1, l2, l3⟩ := hlb s hs c0
      have cl := cdN_dl l1 8 (Nat.le_refl _)
      have cl : cd (dl s (lb s)) + cd (lb s) = cd s := cl
      obtain ⟨a1, a2⟩ := ih (dl s (lb s)) (by omega) (sub _ _ hs) (sub8 _ _ h8)
      rw [hT s hs c0]
      have le := mnl_le (fun g => sbs g (lb s) && sbs s g) (fun g => T (dl s g) + (k * wt g - 1)) L (T (dl s (lb s)) + k * st (lb s))
      have ex := mnl_ex (fun g => sbs g (lb s) && sbs s g) (fun g => T (dl s g) + (k * wt g - 1)) L (T (dl s (lb s)) + k * st (lb s))
      generalize mnl (fun g => sbs g (lb s) && sbs s g) (fun g => T (dl s g) + (k * wt g - 1)) L (T (dl s (lb s)) + k * st (lb s)) = V at le ex
      refine ⟨fun P hP => ?_, ?_⟩
      · by_cases d : ∃ g ∈ P, sbs g (lb s) = true
        · obtain ⟨g, hg, dg⟩ := d
          obtain ⟨A, B, e⟩ := List.append_of_mem hg
          rw [e] at hP ⊢
          obtain ⟨⟨f1, f2, f3⟩, f4⟩ := pk_front (wt := wt) (st := st) A s hP
          have cg := cdN_dl f2 8 (Nat.le_refl _)
          have cg : cd (dl s g) + cd g = cd s := cg
          have g1 := hG g f1
          have b1 := (ih (dl s g) (by omega) (sub _ _ hs) (sub8 _ _ h8)).1 (A ++ B) f3
          have v := le.2 g f1 (by rw [dg, f2]; rfl)
          have v : V ≤ T (dl s g) + (k * wt g - 1) := v
          rw [f4]
          have e5 : pkV wt st s (g :: (A ++ B)) = wt g + pkV wt st (dl s g) (A ++ B) := rfl
          rw [e5, Int.mul_add, List.length_append, List.length_cons]
          rw [List.length_append] at b1
          omega
        · have dd : ∀ g ∈ P, (g &&& lb s) = 0 := fun g hg => by
            rcases l3 g with q | q
            · exact q
            · exact absurd ⟨g, hg, q⟩ d
          have o := stay_out P s hP dd
          have i := (stay_in (wt := wt) hst P s l1 o).2
          have b1 := a1 P o
          have v := le.1
          rw [i, Int.mul_add]
          omega
      · rcases ex with e | ⟨g, hg, pg, e⟩
        · obtain ⟨P, p1, p2⟩ := a2
          have i := stay_in (wt := wt) hst P s l1 p1
          refine ⟨P, i.1, ?_⟩
          rw [e, i.2, p2, Int.mul_add]
          omega
        · obtain ⟨q1, q2⟩ := Bool.and_eq_true_iff.mp pg
          have cg := cdN_dl q2 8 (Nat.le_refl _)
          have cg : cd (dl s g) + cd g = cd s := cg
          have g1 := hG g hg
          obtain ⟨P, p1, p2⟩ := (ih (dl s g) (by omega) (sub _ _ hs) (sub8 _ _ h8)).2
          refine ⟨g :: P, ⟨hg, q2, p1⟩, ?_⟩
          have e5 : pkV wt st s (g :: P) = wt g + pkV wt st (dl s g) P := rfl
          rw [e5, Int.mul_add, List.length_cons]
          have e : V = T (dl s g) + (k * wt g - 1) := e
          rw [e, p2]
          omega
/-! the model's search: people come one after another -/
def lfI (L : List Int32) (wn : Int → Int32 → Int) (adv : Int32 → Int) (now : Int) : Nat → Int32 → Int
  | 0, y => adv y
  | f + 1, y => mnl (sbs y) (fun g => 10 * wn now g - 1 + lfI L wn adv now f (dl y g)) L (adv y)
def bitN (c : Nat) : Int32 := (1 : Int32) <<< (Int32.ofNat c &&& 31)
def lfO (L : List Int32) (wn : Int → Int32 → Int) (st : Int32 → Int) (hr : Nat → Int) : List Nat → Int → Int32 → Int
  | [], now, y => lfI L wn (fun y => 10 * st y + 9) now 8 y
  | c :: R, now, y => lfI L wn (fun z => lfO L wn st hr R (hr c) (z ||| bitN c)) now 8 y
def maskN : List Nat → Int32
  | [] => 0
  | c :: R => bitN c ||| maskN R
theorem lfI_adv {L : List Int32} {wn : Int → Int32 → Int} {adv : Int32 → Int} {now : Int} : ∀ (f : Nat) (y : Int32), lfI L wn adv now f y ≤ adv y
  | 0, y => Int.le_refl _
  | f + 1, y => (mnl_le (sbs y) (fun g => 10 * wn now g - 1 + lfI L wn adv now f (dl y g)) L (adv y)).1
theorem or_dl {y g u : Int32} (h : sbs y g = true) (hd : (y &&& u) = 0) : dl y g ||| u = dl (y ||| u) g := bt_all (fun i hi => by
  rw [bt_or _ _ _ hi, dl_bt _ _ hi, dl_bt _ _ hi, bt_or _ _ _ hi]
  cases c : bt g i
  · rw [Bool.not_false, Bool.and_true, Bool.and_true]
  · have hy := sbs_bt.mp h i hi c
    rw [dis_bt.mp hd i hi hy, hy]
    rfl)
theorem sbs_or {y g u : Int32} (h : sbs y g = true) : sbs (y ||| u) g = true := sbs_bt.mpr (fun i hi c => by rw [bt_or _ _ _ hi, sbs_bt.mp h i hi c]; rfl)
theorem dis_dl {y g u : Int32} (hd : (y &&& u) = 0) : (dl y g &&& u) = 0 := dis_bt.mpr (fun i hi c => by
  rw [dl_bt _ _ hi] at c
  exact dis_bt.mp hd i hi (Bool.and_eq_true_iff.mp c).1)
theorem lfI_A {L : List Int32} {wt st : Int32 → Int} {wn : Int → Int32 → Int} {adv : Int32 → Int} {now : Int} {u : Int32} {Y : Int32 → Prop} (hY : ∀ y g, Y y → Y (dl y g)) (hw : ∀ y g, Y y → g ∈ L → sbs y g = true → wt g ≤ wn now g) (hA : ∀ y, Y y → (y &&& u) = 0 → ∃ P, pkv L (y ||| u) P ∧ 10 * pkV wt st (y ||| u) P - (P.length : Int) + 9 ≤ adv y) : ∀ (f : Nat) (y : Int32), Y y → (y &&& u) = 0 → ∃ P, pkv L (y ||| u) P ∧ 10 * pkV wt st (y ||| u) P - (P.length : Int) + 9 ≤ lfI L wn adv now f y
  | 0, y, h1, h2 => hA y h1 h2
  | f + 1, y, h1, h2 => by
    rcases mnl_ex (sbs y) (fun g => 10 * wn now g - 1 + lfI L wn adv now f (dl y g)) L (adv y) with e | ⟨g, hg, pg, e⟩
    · obtain ⟨P, p1, p2⟩ := hA y h1 h2
      exact ⟨P, p1, by show _ ≤ mnl _ _ L (adv y); rw [e]; exact p2⟩
    · obtain ⟨P, p1, p2⟩ := lfI_A hY hw hA f (dl y g) (hY y g h1) (dis_dl h2)
      rw [or_dl pg h2] at p1 p2
      refine ⟨g :: P, ⟨hg, sbs_or pg, p1⟩, ?_⟩
      show 10 * (wt g + pkV wt st (dl (y ||| u) g) P) - ((g :: P).length : Int) + 9 ≤ mnl _ _ L (adv y)
      rw [e, List.length_cons]
      have w9 := hw y g h1 hg pg
      show _ ≤ 10 * wn now g - 1 + lfI L wn adv now f (dl y g)
      omega
theorem lfI_B {L : List Int32} {wt st : Int32 → Int} {wn : Int → Int32 → Int} {adv : Int32 → Int} {now : Int} {u : Int32} {Y : Int32 → Prop} {cl : Int32} (hG : ∀ g ∈ L, 1 ≤ cd g) (hY : ∀ y g, Y y → Y (dl y g)) (hw : ∀ y g, Y y → g ∈ L → sbs y g = true → ¬ (g &&& cl) = 0 → wn now g = wt g) (hB : ∀ y P, Y y → (y &&& u) = 0 → pkv L (y ||| u) P → (∀ g ∈ P, ¬ (g &&& u) = 0) → adv y ≤ 10 * pkV wt st (y ||| u) P - (P.length : Int) + 9) : ∀ (f : Nat) (y : Int32) (P : List Int32), cd y ≤ f → Y y → (y &&& u) = 0 → pkv L (y ||| u) P → (∀ g ∈ P, ¬ (g &&& u) = 0 ∨ ¬ (g &&& cl) = 0) → lfI L wn adv now f y ≤ 10 * pkV wt st (y ||| u) P - (P.length : Int) + 9 := by
  intro f
  induction f with
  | zero =>
    intro y P hf h1 h2 hP ht
    refine Int.le_trans (lfI_adv 0 y) (hB y P h1 h2 hP (fun g hg q => ?_))
    have sg := pkv_sub P _ hP g hg
    obtain ⟨p, hp, hb⟩ := cdN_one 8 (hG g sg.1)
    have s1 := sbs_bt.mp sg.2 p (by omega) hb
    rw [bt_or _ _ _ (by omega), cdN_0 8 (Nat.le_zero.mp hf) p hp, dis_bt.mp q p (by omega) hb] at s1
    cases s1
  | succ f ih =>
    intro y P hf h1 h2 hP ht
    by_cases d : ∃ g ∈ P, sbs y g = true
    · obtain ⟨g, hg, dg⟩ := d
      have tg : ¬ (g &&& cl) = 0 := by
        rcases ht g hg with q | q
        · exact absurd (dis_bt.mpr (fun i hi c => dis_bt.mp h2 i hi (sbs_bt.mp dg i hi c))) q
        · exact q
      obtain ⟨A, B, e⟩ := List.append_of_mem hg
      rw [e] at hP ⊢
      obtain ⟨⟨f1, f2, f3⟩, f4⟩ := pk_front (wt := wt) (st := st) A _ hP
      have le := (mnl_le (sbs y) (fun g => 10 * wn now g - 1 + lfI L wn adv now f (dl y g)) L (adv y)).2 g f1 dg
      have le : lfI L wn adv now (f + 1) y ≤ 10 * wn now g - 1 + lfI L wn adv now f (dl y g) := le
      have cg := cdN_dl dg 8 (Nat.le_refl _)
      have cg : cd (dl y g) + cd g = cd y := cg
      have g1 := hG g f1
      rw [← or_dl dg h2] at f3
      have i9 := ih (dl y g) (A ++ B) (by omega) (hY y g h1) (dis_dl h2) f3 (fun x hx => ht x (by
        rw [e]
        rcases List.mem_append.mp hx with q | q
        · exact List.mem_append_left _ q
        · exact List.mem_append_right _ (List.mem_cons_of_mem _ q)))
      rw [hw y g h1 f1 dg tg] at le
      rw [f4]
      have e5 : pkV wt st (y ||| u) (g :: (A ++ B)) = wt g + pkV wt st (dl (y ||| u) g) (A ++ B) := rfl
      rw [e5, ← or_dl dg h2, List.length_append, List.length_cons]
      rw [List.length_append] at i9
      omega
    · refine Int.le_trans (lfI_adv (f + 1) y) (hB y P h1 h2 hP (fun g hg q => d ⟨g, hg, ?_⟩))
      have sg := pkv_sub P _ hP g hg
      exact sbs_bt.mpr (fun i hi c => by
        have s1 := sbs_bt.mp sg.2 i hi c
        rw [bt_or _ _ _ hi, dis_bt.mp q i hi c, Bool.or_false] at s1
        exact s1)
/-- what is asked of those who come: their hours go up, they are not in the yard -/
def ComeOk (hr : Nat → Int) : List Nat → Int → Prop
  | [], _ => True
  | c :: R, now => now ≤ hr c ∧ c < 8 ∧ ¬ c ∈ R ∧ ComeOk hr R (hr c)
def InY (hr : Nat → Int) (now : Int) (y : Int32) : Prop := (∀ p, p < 8 → bt y p = true → hr p ≤ now) ∧ (∀ i, 8 ≤ i → i < 32 → bt y i = false) ∧ 0 ≤ now
theorem InY_dl {hr : Nat → Int} {now : Int} (y g : Int32) (h : InY hr now y) : InY hr now (dl y g) := ⟨fun p hp hb => h.1 p hp (by rw [dl_bt _ _ (by omega)] at hb; exact (Bool.and_eq_true_iff.mp hb).1), fun i h1 h2 => (by rw [dl_bt _ _ h2, h.2.1 i h1 h2]; rfl), h.2.2⟩
theorem bitN_bt {c i : Nat} (hc : c < 32) (hi : i < 32) : bt (bitN c) i = decide (i = c) := bt_32 ⟨i, hi⟩ ⟨c, hc⟩
theorem maskN_bt : ∀ (R : List Nat), (∀ c ∈ R, c < 8) → ∀ i, i < 32 → bt (maskN R) i = decide (i ∈ R)
  | [], _, i, hi => by
    show bt 0 i = _
    rw [bt_ze i hi]
    exact (decide_eq_false (fun h => by cases h)).symm
  | c :: R, h, i, hi => by
    have ih := maskN_bt R (fun x hx => h x (List.mem_cons_of_mem _ hx)) i hi
    have hc := h c List.mem_cons_self
    show bt (bitN c ||| maskN R) i = _
    rw [bt_or _ _ _ hi, bitN_bt (by omega) hi, ih, ← Bool.decide_or]
    exact decide_eq_decide.mpr List.mem_cons.symm
theorem Come_lt {hr : Nat → Int} : ∀ (R : List Nat) (now : Int), ComeOk hr R now → ∀ c ∈ R, c < 8
  | [], _, _, c, hc => by cases hc
  | a :: R, now, h, c, hc => by
    rcases List.mem_cons.mp hc with e | e
    · rw [e]
      exact h.2.1
    · exact Come_lt R _ h.2.2.2 c e
theorem come_y {hr : Nat → Int} {c : Nat} {R : List Nat} {now : Int} {y : Int32} (h : ComeOk hr (c :: R) now) (hY : InY hr now y) (hd : (y &&& maskN (c :: R)) = 0) : InY hr (hr c) (y ||| bitN c) ∧ ((y ||| bitN c) &&& maskN R) = 0 ∧ (y ||| bitN c) ||| maskN R = y ||| maskN (c :: R) := by
  obtain ⟨h1, h2, h3, h4⟩ := h
  have hl := Come_lt R _ h4
  have hnn := hY.2.2
  refine ⟨⟨fun p hp hb => ?_, fun i i1 i2 => ?_, by omega⟩, dis_bt.mpr (fun i hi hb => ?_), ?_⟩
  · rw [bt_or _ _ _ (by omega), bitN_bt (by omega) (by omega)] at hb
    rcases Bool.or_eq_true_iff.mp hb with q | q
    · have := hY.1 p hp q
      omega
    · rw [of_decide_eq_true q]
      exact Int.le_refl _
  · rw [bt_or _ _ _ i2, hY.2.1 i i1 i2, bitN_bt (by omega) i2, decide_eq_false (by omega)]
    rfl
  · rw [bt_or _ _ _ hi, bitN_bt (by omega) hi] at hb
    rcases Bool.or_eq_true_iff.mp hb with q | q
    · have e := dis_bt.mp hd i hi q
      have e : bt (bitN c ||| maskN R) i = false := e
      rw [bt_or _ _ _ hi] at e
      exact (Bool.or_eq_false_iff.mp e).2
    · rw [maskN_bt R hl i hi, of_decide_eq_true q]
      exact decide_eq_false h3
  · show (y ||| bitN c) ||| maskN R = y ||| (bitN c ||| maskN R)
    rw [Int32.or_assoc]
theorem lfO_A {L : List Int32} {wt st : Int32 → Int} {wn : Int → Int32 → Int} {hr : Nat → Int} (hw : ∀ now y g, InY hr now y → g ∈ L → sbs y g = true → wt g ≤ wn now g) : ∀ (R : List Nat) (now : Int) (y : Int32), ComeOk hr R now → InY hr now y → (y &&& maskN R) = 0 → ∃ P, pkv L (y ||| maskN R) P ∧ 10 * pkV wt st (y ||| maskN R) P - (P.length : Int) + 9 ≤ lfO L wn st hr R now y
  | [], now, y, _, hY, hd => by
    refine lfI_A (wt := wt) (st := st) (u := maskN []) (Y := InY hr now) (adv := fun y => 10 * st y + 9) (fun y g h => InY_dl y g h) (fun y g h hg hs => hw now y g h hg hs) (fun y h1 h2 => ⟨[], trivial, ?_⟩) 8 y hY hd
    show 10 * st (y ||| 0) - 0 + 9 ≤ 10 * st y + 9
    rw [Int32.or_zero]
    omega
  | c :: R, now, y, hC, hY, hd => by
    refine lfI_A (wt := wt) (st := st) (u := maskN (c :: R)) (Y := InY hr now) (adv := fun z => lfO L wn st hr R (hr c) (z ||| bitN c)) (fun y g h => InY_dl y g h) (fun y g h hg hs => hw now y g h hg hs) (fun y h1 h2 => ?_) 8 y hY hd
    obtain ⟨k1, k2, k3⟩ := come_y hC h1 h2
    obtain ⟨P, p1, p2⟩ := lfO_A hw R (hr c) (y ||| bitN c) hC.2.2.2 k1 k2
    rw [k3] at p1 p2
    exact ⟨P, p1, p2⟩
theorem cd_8n (y : Int32) : cd y ≤ 8 := cdN_24 y 8
theorem lfO_B {L : List Int32} {wt st : Int32 → Int} {wn : Int → Int32 → Int} {hr : Nat → Int} (hG : ∀ g ∈ L, 1 ≤ cd g) (hw : ∀ now y g cl, InY hr now y → g ∈ L → sbs y g = true → ¬ (g &&& cl) = 0 → (∀ p, p < 32 → bt cl p = true → hr p = now) → wn now g = wt g) : ∀ (R : List Nat) (now : Int) (y cl : Int32) (P : List Int32), ComeOk hr R now → InY hr now y → (y &&& maskN R) = 0 → (∀ p, p < 32 → bt cl p = true → hr p = now) → pkv L (y ||| maskN R) P → (∀ g ∈ P, ¬ (g &&& maskN R) = 0 ∨ ¬ (g &&& cl) = 0) → lfO L wn st hr R now y ≤ 10 * pkV wt st (y ||| maskN R) P - (P.length : Int) + 9
  | [], now, y, cl, P, _, hY, hd, hcl, hP, ht => by
    refine lfI_B (wt := wt) (st := st) (u := maskN []) (Y := InY hr now) (cl := cl) (adv := fun y => 10 * st y + 9) hG (fun y g h => InY_dl y g h) (fun y g h hg hs hc => hw now y g cl h hg hs hc hcl) (fun y P h1 h2 hP hu => ?_) 8 y P (cd_8n y) hY hd hP ht
    cases P with
    | nil =>
      show 10 * st y + 9 ≤ 10 * st (y ||| 0) - 0 + 9
      rw [Int32.or_zero]
      omega
    | cons g P => exact absurd (Int32.and_zero) (hu g List.mem_cons_self)
  | c :: R, now, y, cl, P, hC, hY, hd, hcl, hP, ht => by
    refine lfI_B (wt := wt) (st := st) (u := maskN (c :: R)) (Y := InY hr now) (cl := cl) (adv := fun z => lfO L wn st hr R (hr c) (z ||| bitN c)) hG (fun y g h => InY_dl y g h) (fun y g h hg hs hc => hw now y g cl h hg hs hc hcl) (fun y P h1 h2 hP hu => ?_) 8 y P (cd_8n y) hY hd hP ht
    obtain ⟨k1, k2, k3⟩ := come_y hC h1 h2
    have hc8 := hC.2.1
    rw [← k3] at hP ⊢
    refine lfO_B hG hw R (hr c) (y ||| bitN c) (bitN c) P hC.2.2.2 k1 k2 (fun p hp hb => ?_) hP (fun g hg => ?_)
    · rw [bitN_bt (by omega) hp] at hb
      rw [of_decide_eq_true hb]
    · by_cases q : (g &&& maskN R) = 0
      · refine Or.inr (fun q2 => hu g hg (dis_bt.mpr (fun i hi b => ?_)))
        show bt (bitN c ||| maskN R) i = false
        rw [bt_or _ _ _ hi, dis_bt.mp q i hi b, dis_bt.mp q2 i hi b]
        rfl
      · exact Or.inl q
/-- the least by 16 and the least by 10 have the same waiting and the same coaches -/
theorem lex_w {W C W2 C2 : Int} (hc : 0 ≤ C ∧ C ≤ 8) (hc2 : 0 ≤ C2 ∧ C2 ≤ 8) (h : 16 * W - C ≤ 16 * W2 - C2) : 10 * W - C ≤ 10 * W2 - C2 := by omega
