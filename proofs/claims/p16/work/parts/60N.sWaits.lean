/-! who waited how long; the best coachman -/
def wu (p : Nat) : List (Int32 × Int32) → Int32 → Int32
  | [], u => u
  | a :: S, u => wu p S (if bt a.1 p = true then a.2 else u)
theorem wtv_wu {c hr : Nat → Int32} {p : Nat} : ∀ (S : List (Int32 × Int32)) (x u : Int32), (x = c p * (u - hr p) ∨ ∃ a ∈ S, bt a.1 p = true) → wtv c hr p S x = c p * (wu p S u - hr p)
  | [], x, u, h => by
    rcases h with h | ⟨a, ha, _⟩
    · exact h
    · cases ha
  | a :: S, x, u, h => by
    show wtv c hr p S (if bt a.1 p = true then c p * (a.2 - hr p) else x) = c p * (wu p S (if bt a.1 p = true then a.2 else u) - hr p)
    by_cases d : bt a.1 p = true
    · rw [if_pos d, if_pos d]
      exact wtv_wu S _ _ (Or.inl rfl)
    · rw [if_neg d, if_neg d]
      refine wtv_wu S x u (h.elim Or.inl (fun hb => ?_))
      obtain ⟨b, hb1, hb2⟩ := hb
      rcases List.mem_cons.mp hb1 with e | e
      · rw [e] at hb2
        exact absurd hb2 d
      · exact Or.inr ⟨b, e, hb2⟩
theorem wu_no {p : Nat} : ∀ (S : List (Int32 × Int32)) (u : Int32), (∀ a ∈ S, bt a.1 p = false) → wu p S u = u
  | [], _, _ => rfl
  | a :: S, u, h => by
    show wu p S (if bt a.1 p = true then a.2 else u) = u
    rw [if_neg (by rw [h a List.mem_cons_self]; exact fun z => (by cases z))]
    exact wu_no S u (fun b hb => h b (List.mem_cons_of_mem _ hb))
theorem sa_bt {L : List Int32} {f : Int32 → Int32} (hf : PK L f) {p : Nat} (hp : p < 32) : ∀ (k : Nat) (y : Int32), (bt (sa f k y).2 p = true → bt y p = true ∧ ∀ g ∈ (sa f k y).1, bt g p = false) ∧ (bt y p = true → bt (sa f k y).2 p = true ∨ ∃ g ∈ (sa f k y).1, bt g p = true) ∧ (bt y p = false → bt (sa f k y).2 p = false ∧ ∀ g ∈ (sa f k y).1, bt g p = false)
  | 0, y => ⟨fun h => ⟨h, fun g hg => (by cases hg)⟩, fun h => Or.inl h, fun h => ⟨h, fun g hg => (by cases hg)⟩⟩
  | k + 1, y => by
    by_cases c : f y = 0
    · rw [sa_0 c]
      exact ⟨fun h => ⟨h, fun g hg => (by cases hg)⟩, fun h => Or.inl h, fun h => ⟨h, fun g hg => (by cases hg)⟩⟩
    · rw [sa_s c]
      have hm := ((hf y).elim (fun z => absurd z c) id).2
      obtain ⟨i1, i2, i3⟩ := sa_bt hf hp k (dl y (f y))
      have ed := dl_bt y (f y) hp
      refine ⟨fun h => ?_, fun h => ?_, fun h => ?_⟩
      · have h1 := i1 h
        rw [ed, Bool.and_eq_true] at h1
        refine ⟨h1.1.1, fun g hg => ?_⟩
        rcases List.mem_cons.mp hg with e | e
        · rw [e]
          cases z : bt (f y) p with
          | false => rfl
          | true => rw [z] at h1; exact absurd h1.1.2 (by decide)
        · exact h1.2 g e
      · cases z : bt (f y) p with
        | true => exact Or.inr ⟨f y, List.mem_cons_self, z⟩
        | false =>
          rcases i2 (by rw [ed, h, z]; rfl) with q | ⟨g, hg, hg2⟩
          · exact Or.inl q
          · exact Or.inr ⟨g, List.mem_cons_of_mem _ hg, hg2⟩
      · have zg : bt (f y) p = false := by
          cases z : bt (f y) p with
          | false => rfl
          | true =>
            have := sbs_bt.mp hm p hp z
            rw [h] at this
            cases this
        obtain ⟨j1, j2⟩ := i3 (by rw [ed, h, zg]; rfl)
        refine ⟨j1, fun g hg => ?_⟩
        rcases List.mem_cons.mp hg with e | e
        · rw [e]
          exact zg
        · exact j2 g e
theorem ta_mem {r : List Int32} {h : Int32} {a : Int32 × Int32} (ha : a ∈ ta r h) : a.1 ∈ r := by
  unfold ta at ha
  obtain ⟨g, hg, e⟩ := List.mem_map.mp ha
  rw [← e]
  exact hg
theorem ta_mem2 {r : List Int32} {h g : Int32} (hg : g ∈ r) : (g, h) ∈ ta r h := List.mem_map.mpr ⟨g, hg, rfl⟩
/-- who is in the yard rode with nobody; who is in neither yard nor coach is still to come -/
def DYI (N : Nat) (S : List (Int32 × Int32)) (y : Int32) (C : List Nat) : Prop := (∀ p, p < 8 → bt y p = true → ∀ a ∈ S, bt a.1 p = false) ∧ (∀ p ∈ C, bt y p = false ∧ ∀ a ∈ S, bt a.1 p = false) ∧ ∀ p, p < N → ¬ p ∈ C → bt y p = true ∨ ∃ a ∈ S, bt a.1 p = true
theorem dy_inv {L : List Int32} {f : Int → Int32 → Int32} (hf : ∀ tc, PK L (f tc)) {hr : Nat → Int32} {N : Nat} (hN : N ≤ 8) : ∀ (C : List Nat) (tc : Int) (S : List (Int32 × Int32)) (y : Int32), C.Nodup → (∀ p ∈ C, p < 8) → DYI N S y C → DYI N (dy f hr C tc S y).1 (dy f hr C tc S y).2 []
  | [], tc, S, y, hn, hC, h => h
  | p :: C, tc, S, y, hn, hC, h => by
    obtain ⟨a1, a2, a3⟩ := h
    have hp8 := hC p List.mem_cons_self
    have hpC := (List.nodup_cons.mp hn).1
    have hbt : ∀ q, q < 8 → bt (y ||| ((1 : Int32) <<< (Int32.ofNat p &&& 31))) q = (bt y q || decide (q = p)) := fun q hq => by
      rw [bt_or _ _ _ (by omega), show bt ((1 : Int32) <<< (Int32.ofNat p &&& 31)) q = decide (q = p) from bt_1a ⟨p, hp8⟩ ⟨q, hq⟩]
    have sb : ∀ q, q < 8 → _ := fun q hq => sa_bt (hf (tc - 1)) (show q < 32 by omega) 8 (y ||| ((1 : Int32) <<< (Int32.ofNat p &&& 31)))
    refine dy_inv hf hN C (tc - 1) _ _ (List.nodup_cons.mp hn).2 (fun q hq => hC q (List.mem_cons_of_mem _ hq)) ⟨fun q hq hb a ha => ?_, fun q hq => ?_, fun q hq hqC => ?_⟩
    · obtain ⟨s1, _, _⟩ := sb q hq
      obtain ⟨s1, s2⟩ := s1 hb
      rcases List.mem_append.mp ha with e | e
      · rw [hbt q hq] at s1
        cases z : bt y q with
        | true => exact a1 q hq z a e
        | false =>
          rw [z, Bool.false_or] at s1
          rw [of_decide_eq_true s1]
          exact (a2 p List.mem_cons_self).2 a e
      · exact s2 a.1 (ta_mem e)
    · have hq8 := hC q (List.mem_cons_of_mem _ hq)
      have hne : ¬ q = p := fun e => hpC (by rw [← e]; exact hq)
      obtain ⟨z1, z2⟩ := a2 q (List.mem_cons_of_mem _ hq)
      obtain ⟨_, _, s3⟩ := sb q hq8
      obtain ⟨s3, s4⟩ := s3 (by rw [hbt q hq8, z1, decide_eq_false hne]; rfl)
      refine ⟨s3, fun a ha => ?_⟩
      rcases List.mem_append.mp ha with e | e
      · exact z2 a e
      · exact s4 a.1 (ta_mem e)
    · obtain ⟨_, s2, _⟩ := sb q (by omega)
      have go : bt (y ||| ((1 : Int32) <<< (Int32.ofNat p &&& 31))) q = true → bt (sa (f (tc - 1)) 8 (y ||| ((1 : Int32) <<< (Int32.ofNat p &&& 31)))).2 q = true ∨ ∃ a ∈ S ++ ta (sa (f (tc - 1)) 8 (y ||| ((1 : Int32) <<< (Int32.ofNat p &&& 31)))).1 (hr p), bt a.1 q = true := fun hb => by
        rcases s2 hb with e | ⟨g, hg, hg2⟩
        · exact Or.inl e
        · exact Or.inr ⟨(g, hr p), List.mem_append.mpr (Or.inr (ta_mem2 hg)), hg2⟩
      by_cases e : q = p
      · exact go (by rw [hbt q (by omega), decide_eq_true e, Bool.or_true])
      · rcases a3 q hq (fun z => (List.mem_cons.mp z).elim e hqC) with z | ⟨a, ha, ha2⟩
        · exact go (by rw [hbt q (by omega), z]; rfl)
        · exact Or.inr ⟨a, List.mem_append.mpr (Or.inl ha), ha2⟩
theorem cof_lo (hr : Nat → Int32) (h : Int32) : ∀ k p q, q ∈ cof hr h k p → p ≤ q ∧ hr q = h
  | 0, p, q, hq => by cases hq
  | k + 1, p, q, hq => by
    have hq : q ∈ (if hr p = h then p :: cof hr h k (p + 1) else cof hr h k (p + 1)) := hq
    by_cases c : hr p = h
    · rw [if_pos c] at hq
      rcases List.mem_cons.mp hq with e | e
      · rw [e]
        exact ⟨Nat.le_refl _, c⟩
      · have := cof_lo hr h k (p + 1) q e
        exact ⟨by omega, this.2⟩
    · rw [if_neg c] at hq
      have := cof_lo hr h k (p + 1) q hq
      exact ⟨by omega, this.2⟩
theorem cof_nd (hr : Nat → Int32) (h : Int32) : ∀ k p, (cof hr h k p).Nodup
  | 0, p => List.nodup_nil
  | k + 1, p => by
    show (if hr p = h then p :: cof hr h k (p + 1) else cof hr h k (p + 1)).Nodup
    by_cases c : hr p = h
    · rw [if_pos c]
      exact List.nodup_cons.mpr ⟨fun z => by have := (cof_lo hr h k (p + 1) p z).1; omega, cof_nd hr h k (p + 1)⟩
    · rw [if_neg c]
      exact cof_nd hr h k (p + 1)
theorem cof_all (hr : Nat → Int32) (h : Int32) : ∀ k p q, p ≤ q → q < p + k → hr q = h → q ∈ cof hr h k p
  | 0, p, q, h1, h2, _ => by omega
  | k + 1, p, q, h1, h2, e => by
    show q ∈ (if hr p = h then p :: cof hr h k (p + 1) else cof hr h k (p + 1))
    by_cases c : q = p
    · rw [if_pos (by rw [← c]; exact e), c]
      exact List.mem_cons_self
    · have ih := cof_all hr h k (p + 1) q (by omega) (by omega) e
      by_cases d : hr p = h
      · rw [if_pos d]
        exact List.mem_cons_of_mem _ ih
      · rw [if_neg d]
        exact ih
theorem coA_hr (hr : Nat → Int32) (n : Nat) : ∀ k h q, q ∈ coA hr n k h → ∃ j, h ≤ j ∧ j < h + k ∧ hr q = Int32.ofNat j
  | 0, h, q, hq => by cases hq
  | k + 1, h, q, hq => by
    have hq : q ∈ cof hr (Int32.ofNat h) n 0 ++ coA hr n k (h + 1) := hq
    rcases List.mem_append.mp hq with e | e
    · exact ⟨h, Nat.le_refl _, by omega, (cof_lo hr _ n 0 q e).2⟩
    · obtain ⟨j, j1, j2, j3⟩ := coA_hr hr n k (h + 1) q e
      exact ⟨j, by omega, by omega, j3⟩
theorem coA_nd (hr : Nat → Int32) (n : Nat) : ∀ k h, h + k ≤ 24 → (coA hr n k h).Nodup
  | 0, h, _ => List.nodup_nil
  | k + 1, h, hk => by
    show (cof hr (Int32.ofNat h) n 0 ++ coA hr n k (h + 1)).Nodup
    refine List.nodup_append.mpr ⟨cof_nd hr _ n 0, coA_nd hr n k (h + 1) (by omega), fun a ha b hb e => ?_⟩
    have e1 := (cof_lo hr _ n 0 a ha).2
    obtain ⟨j, j1, j2, j3⟩ := coA_hr hr n k (h + 1) b hb
    rw [← e, e1] at j3
    have := congrArg Int32.toInt j3
    rw [ofN_i (by omega), ofN_i (by omega)] at this
    omega
theorem coA_all (hr : Nat → Int32) (n : Nat) : ∀ k h q, q < n → (∃ j, h ≤ j ∧ j < h + k ∧ hr q = Int32.ofNat j) → q ∈ coA hr n k h
  | 0, h, q, hq, e => by
    obtain ⟨j, j1, j2, _⟩ := e
    omega
  | k + 1, h, q, hq, e => by
    obtain ⟨j, j1, j2, j3⟩ := e
    show q ∈ cof hr (Int32.ofNat h) n 0 ++ coA hr n k (h + 1)
    by_cases c : j = h
    · rw [c] at j3
      exact List.mem_append.mpr (Or.inl (cof_all hr _ n 0 q (by omega) (by omega) j3))
    · exact List.mem_append.mpr (Or.inr (coA_all hr n k (h + 1) q hq ⟨j, by omega, by omega, j3⟩))
theorem dyS_inv {w : Tw} {kd : Int} {a : Int32} (hk : OKT w) (h7 : w.1 ≤ 7) : DYI w.1.toNat (dyS w kd a).1 (dyS w kd a).2 [] := by
  unfold dyS
  refine dy_inv (fun tc y => pk_m _ _ _ _ _ _ y _) (by omega) _ _ _ _ (coA_nd _ _ 24 0 (by omega)) (fun p hp => by have := coA_mem _ _ 24 0 p hp; omega) ⟨fun p _ h => ?_, fun p _ => ⟨bt_ze p ?_, fun b hb => (by cases hb)⟩, fun p hp hn => absurd (coA_all _ _ 24 0 p hp ?_) hn⟩
  · intro b hb
    cases hb
  · have := coA_mem w.2.1 w.1.toNat 24 0 p (by assumption)
    omega
  · have hh := (hk.1 p (by omega)).1
    exact ⟨(w.2.1 p).toInt.toNat, by omega, by omega, i32_ofNat hh.1⟩
/-- the waiting of one on a day -/
def wv (w : Tw) (S : List (Int32 × Int32)) (p : Nat) : Int32 := w.2.2.1 p * (wu p S 24 - w.2.1 p)
theorem wv_M {w : Tw} {kd : Int} {a x : Int32} {p : Nat} (hk : OKT w) (h7 : w.1 ≤ 7) (hp : p < w.1.toNat) : (if bt (dyS w kd a).2 p = true then w.2.2.1 p * (24 - w.2.1 p) else wtv w.2.2.1 w.2.1 p (dyS w kd a).1 x) = wv w (dyS w kd a).1 p := by
  obtain ⟨a1, _, a3⟩ := dyS_inv (kd := kd) (a := a) hk h7
  unfold wv
  by_cases c : bt (dyS w kd a).2 p = true
  · rw [if_pos c, wu_no _ _ (a1 p (by omega) c)]
  · rw [if_neg c]
    exact wtv_wu _ _ _ (Or.inr ((a3 p hp (fun z => (by cases z))).elim (fun z => absurd z c) id))
theorem DX_dr {I : jdI} {S : List (Int32 × Int32)} {y : Int32} {k : Nat} (h : DX I S y) (hk : k < S.length) : S.drop k = (I (20 + 1) k, I (20 + 2) k) :: S.drop (k + 1) := by
  have e1 := h.2.1 k (by rw [List.length_map]; exact hk)
  have e2 := h.2.2.1 k (by rw [List.length_map]; exact hk)
  rw [List.getElem?_map, List.getElem?_eq_getElem hk] at e1 e2
  injection e1 with e1
  injection e2 with e2
  rw [List.drop_eq_getElem_cons hk, ← e1, ← e2]
theorem pX3_waitingOf_6 {G : jdG} {n rc rs : Nat} {Z : jdL} {J : jdJ} {K : Int32 → jdI → jdJ → Prop} {I : jdI} {S : List (Int32 × Int32)} {y x2 R : Int32} {w : Tw} (ht : zDay Z 20) (hu1 : zTown Z 1) (hS : S.length ≤ 7) (hD : DX I S y) (hw : RX I 1 w) (h7 : w.1 ≤ 7) (h2 : 0 ≤ x2.toInt ∧ x2.toInt < w.1) (hK : K (w.2.2.1 x2.toInt.toNat * (R - w.2.1 x2.toInt.toNat)) I J) : ∀ f : Nat, ∀ x3 x4 : Int32, 0 ≤ x4.toInt → x4.toInt + (f : Int) = (S.length : Int) → wu x2.toInt.toNat (S.drop x4.toInt.toNat) x3 = R → Jd G mX3_waitingOf (jdFm G (qi Z K)) n rc rs 6 [(0, .ref (gb G + 20)), (1, .ref (gb G + 1)), (2, .int x2), (3, .int x3), (4, .int x4)] [] Z I J := by
  have hl := hD.1
  have n2 := tn_eq x2
  have e9 := hw.2.1 x2.toInt.toNat (by omega)
  intro f
  induction f with
  | zero =>
    intro x3 x4 h4 hf hr
    rw [List.drop_eq_nil_of_le (by omega)] at hr
    have hr : x3 = R := hr
    subst hr
    refine rX3_waitingOf_6 ht hu1 ⟨fun _ => ⟨vp_of (by omega) (by omega), vp_of (by omega) (by omega), ?_⟩, fun h => absurd (Int32.le_iff_toInt_le.mpr (by omega)) h⟩
    rw [n2, e9.1, e9.2]
    exact hK
  | succ f ih =>
    intro x3 x4 h4 hf hr
    have q1 : (1 : Int32).toInt = 1 := rfl
    have e4 := i32_add x4 1 (by omega) (by omega)
    have n4 := tn_eq x4
    rw [DX_dr hD (k := x4.toInt.toNat) (by omega)] at hr
    have hr : wu x2.toInt.toNat (S.drop (x4.toInt.toNat + 1)) (if bt (I (20 + 1) x4.toInt.toNat) x2.toInt.toNat = true then I (20 + 2) x4.toInt.toNat else x3) = R := hr
    rw [show x4.toInt.toNat + 1 = (x4 + 1).toInt.toNat by omega] at hr
    have b := bt_iff (I (20 + 1) x4.toInt.toNat) (x := x2) h2.1
    refine rX3_waitingOf_6 ht hu1 ⟨fun h => by have := Int32.le_iff_toInt_le.mp h; omega, fun _ => ⟨vp_of (by omega) (by omega), ?_⟩⟩
    rw [n4]
    refine ⟨fun hv => ?_, fun hv => ⟨vp_of (by omega) (by omega), ?_⟩⟩
    · rw [if_neg (fun z => b.mp z hv)] at hr
      exact ih x3 (x4 + 1) (by omega) (by omega) hr
    · rw [if_pos (b.mpr hv)] at hr
      exact ih _ (x4 + 1) (by omega) (by omega) hr
theorem pX3_waitingOf {G : jdG} {n : Nat} {Z : jdL} {J : jdJ} {K : Int32 → jdI → jdJ → Prop} {I : jdI} {S : List (Int32 × Int32)} {y x2 : Int32} {w : Tw} (ht : zDay Z 20) (hu1 : zTown Z 1) (hS : S.length ≤ 7) (hD : DX I S y) (hw : RX I 1 w) (h7 : w.1 ≤ 7) (h2 : 0 ≤ x2.toInt ∧ x2.toInt < w.1) (hK : K (wv w S x2.toInt.toNat) I J) : Cl G mX3_waitingOf n 0 0 [.ref (gb G + 20), .ref (gb G + 1), .int x2] Z I J (qi Z K) :=
  eX3_waitingOf ht hu1 (pX3_waitingOf_6 (R := wu x2.toInt.toNat S 24) ht hu1 hS hD hw h7 h2 hK S.length 24 0 (by decide) (by show (0 : Int) + _ = _; omega) rfl)
def wsum (g : Nat → Int32) : Nat → Nat → Int32 → Int32
  | 0, _, x => x
  | f + 1, i, x => wsum g f (i + 1) (x + g i)
theorem wsum_c {g g2 : Nat → Int32} : ∀ (f i : Nat) (x : Int32), (∀ j, i ≤ j → j < i + f → g j = g2 j) → wsum g f i x = wsum g2 f i x
  | 0, _, _, _ => rfl
  | f + 1, i, x, h => by
    show wsum g f (i + 1) (x + g i) = wsum g2 f (i + 1) (x + g2 i)
    rw [h i (Nat.le_refl _) (by omega), wsum_c f (i + 1) _ (fun j h1 h2 => h j (by omega) (by omega))]
theorem pX3_waitingOfAll_4 {G : jdG} {n rc rs : Nat} {Z : jdL} {J : jdJ} {K : Int32 → jdI → jdJ → Prop} {I : jdI} {S : List (Int32 × Int32)} {y R : Int32} {w : Tw} (ht : zDay Z 20) (hu1 : zTown Z 1) (hS : S.length ≤ 7) (hD : DX I S y) (hw : RX I 1 w) (h7 : w.1 ≤ 7) (hK : K R I J) : ∀ f : Nat, ∀ x2 x3 : Int32, 0 ≤ x3.toInt → x3.toInt + (f : Int) = w.1 → wsum (wv w S) f x3.toInt.toNat x2 = R → Jd G mX3_waitingOfAll (jdFm G (qi Z K)) (n + 1) rc rs 4 [(0, .ref (gb G + 20)), (1, .ref (gb G + 1)), (2, .int x2), (3, .int x3)] [] Z I J := by
  have h1 : (I 1 3).toInt = w.1 := hw.1
  intro f
  induction f with
  | zero =>
    intro x2 x3 h3 hf hr
    have hr : x2 = R := hr
    subst hr
    exact rX3_waitingOfAll_4 ht hu1 ⟨fun _ => hK, fun h => absurd (Int32.le_iff_toInt_le.mpr (by omega)) h⟩
  | succ f ih =>
    intro x2 x3 h3 hf hr
    have q1 : (1 : Int32).toInt = 1 := rfl
    have e3 := i32_add x3 1 (by omega) (by omega)
    have hr : wsum (wv w S) f (x3.toInt.toNat + 1) (x2 + wv w S x3.toInt.toNat) = R := hr
    rw [show x3.toInt.toNat + 1 = (x3 + 1).toInt.toNat by omega] at hr
    refine rX3_waitingOfAll_4 ht hu1 ⟨fun h => by have := Int32.le_iff_toInt_le.mp h; omega, fun _ => ?_⟩
    exact pX3_waitingOf ht hu1 hS hD hw h7 ⟨h3, by omega⟩ (ih _ (x3 + 1) (by omega) (by omega) hr)
def wAll (w : Tw) (kd : Int) (a : Int32) : Int32 := wsum (wv w (dyS w kd a).1) w.1.toNat 0 0
theorem pX3_waitingOfAll {G : jdG} {n : Nat} {Z : jdL} {J : jdJ} {K : Int32 → jdI → jdJ → Prop} {I : jdI} {y : Int32} {w : Tw} {kd : Int} {a : Int32} (ht : zDay Z 20) (hu1 : zTown Z 1) (hW : WX I) (hD : DX I (dyS w kd a).1 y) (hw : RX I 1 w) (hK : K (wAll w kd a) I J) : Cl G mX3_waitingOfAll (n + 1) 0 0 [.ref (gb G + 20), .ref (gb G + 1)] Z I J (qi Z K) := by
  have hb := RX_b hW hw
  exact eX3_waitingOfAll ht hu1 (pX3_waitingOfAll_4 (R := wAll w kd a) ht hu1 (dyS_len hW hD) hD hw (by omega) hK w.1.toNat 0 0 (by decide) (by show (0 : Int) + _ = _; omega) rfl)
theorem pX12_waitedAll_4 {G : jdG} {n rc rs : Nat} {Z : jdL} {J : jdJ} {K : Int32 → jdI → jdJ → Prop} {I : jdI} {t N : Nat} {g : Nat → Int32} {R : Int32} (ht : zModel Z t) (hN : N ≤ 7) (h10 : (I t 10).toInt = (N : Int)) (hg : ∀ p, p < N → I (t + 33) p = g p) (hK : K R I J) : ∀ f : Nat, ∀ x1 x2 : Int32, 0 ≤ x2.toInt → x2.toInt + (f : Int) = (N : Int) → wsum g f x2.toInt.toNat x1 = R → Jd G mX12_waitedAll (jdFm G (qi Z K)) n rc rs 4 [(0, .ref (gb G + t)), (1, .int x1), (2, .int x2)] [] Z I J := by
  intro f
  induction f with
  | zero =>
    intro x1 x2 h2 hf hr
    have hr : x1 = R := hr
    subst hr
    exact rX12_waitedAll_4 ht ⟨fun _ => hK, fun h => absurd (Int32.le_iff_toInt_le.mpr (by omega)) h⟩
  | succ f ih =>
    intro x1 x2 h2 hf hr
    have q1 : (1 : Int32).toInt = 1 := rfl
    have e2 := i32_add x2 1 (by omega) (by omega)
    have n2 := tn_eq x2
    have hr : wsum g f (x2.toInt.toNat + 1) (x1 + g x2.toInt.toNat) = R := hr
    rw [show x2.toInt.toNat + 1 = (x2 + 1).toInt.toNat by omega] at hr
    refine rX12_waitedAll_4 ht ⟨fun h => by have := Int32.le_iff_toInt_le.mp h; omega, fun _ => ⟨vp_of (by omega) (by omega), ?_⟩⟩
    rw [n2, hg _ (by omega)]
    exact ih _ (x2 + 1) (by omega) (by omega) hr
theorem pX12_waitedAll {G : jdG} {n : Nat} {Z : jdL} {J : jdJ} {K : Int32 → jdI → jdJ → Prop} {I : jdI} {t : Nat} {w : Tw} {kd : Int} {a : Int32} (ht : zModel Z t) (hw1 : 0 ≤ w.1 ∧ w.1 ≤ 7) (h10 : (I t 10).toInt = w.1) (hg : ∀ p, p < w.1.toNat → I (t + 33) p = wv w (dyS w kd a).1 p) (hK : K (wAll w kd a) I J) : Cl G mX12_waitedAll n 0 0 [.ref (gb G + t)] Z I J (qi Z K) :=
  eX12_waitedAll ht (pX12_waitedAll_4 (N := w.1.toNat) (R := wAll w kd a) ht (by omega) (by omega) hg hK w.1.toNat 0 0 (by decide) (by show (0 : Int) + _ = _; omega) rfl)
def oWaits (w : Tw) (c kd : Int) (a x2 : Int32) : Int := if x2.toInt = -1 ∨ (0 ≤ x2.toInt ∧ x2.toInt < w.1) then anM c (if x2.toInt = -1 then (wAll w kd a).toInt else (wv w (dyS w kd a).1 x2.toInt.toNat).toInt) else -2
theorem pX11_waits {G : jdG} {n : Nat} {Z : jdL} {J : jdJ} {K : Int32 → jdI → jdJ → Prop} {I : jdI} {s : Sd} {x1 x2 : Int32} (hX : zX Z) (hM : zMen Z) (hA : zHi Z) (hW : WX I) (hs : TX I 1 s) (hk : OKT s.1) (hK : ∀ (v : Int32) (I2 : jdI), WX I2 → Fr (fun a k => (13 ≤ a ∧ a ≤ 24) ∨ a = 28) I I2 → v.toInt = oWaits s.1 (cX Z I x1) (mk Z (Int32.toNatClampNeg x1)) (aX Z I x1) x2 → K v I2 J) : Cl G mX11_waits (n + 9) 0 0 [.ref (gb G + 0), .int x1, .int x2] Z I J (qi Z K) := by
  have n1 := tn_eq x1
  have qmi : (-1 : Int32).toInt = -1 := rfl
  have hb := RX_b hW hs.1
  have h3 : (I 1 3).toInt = s.1.1 := hs.1.1
  have man : (x2.toInt = -1 ∨ (0 ≤ x2.toInt ∧ x2.toInt < s.1.1)) → Cl G mX11_manIn (n + 8) 0 0 [.ref (gb G + 0), .int x1] Z I J (qm G Z (fun o I1 J1 => (o = none → Cl G mX11_whyNoMan (n + 8) 0 0 [.ref (gb G + 0), .int x1] Z I1 J1 (qi Z (fun v4 I3 J3 => Cl G mX11_refuse (n + 8) 0 0 [.ref (gb G + 0), .int v4] Z I3 J3 (qi Z (fun v6 I5 J5 => K v6 I5 J5))))) ∧ (∀ w2, o = some w2 → Cl G mX11_think (n + 8) 0 0 [.ref (gb G + 0), .ref (gb G + w2)] Z I1 J1 (qv Z (fun I7 J7 => ((¬ x2 = (-1) → Cl G mX3_waitingOf (n + 8) 0 0 [.ref (gb G + 20), .ref (gb G + 1), .int x2] Z I7 J7 (qi Z (fun v10 I9 J9 => K v10 I9 J9))) ∧ (x2 = (-1) → Cl G mX3_waitingOfAll (n + 8) 0 0 [.ref (gb G + 20), .ref (gb G + 1)] Z I7 J7 (qi Z (fun v12 I11 J11 => K v12 I11 J11))))))))) := fun ok => by
    refine pX_man hX hW (fun v I2 hc hW2 hF2 hv => hK v I2 hW2 (Fr.tr Fr.rf hF2 (by intro a k h; omega)) ?_) (fun w hx hc hw => ?_)
    · unfold oWaits anM
      rw [if_pos ok, if_neg hc]
      exact hv
    · obtain ⟨ci, hci, hz⟩ := hM _ (by omega) w hw
      have hu := hA _ (by omega) w hw
      refine pX11_think hX hz hci (by omega) hW hs.1 hk (fun I2 hW2 hF2 hD2 => ?_)
      have hw2 := RX_fr hs.1 hF2 (by intro a k h1 h2; omega)
      refine ⟨fun h2 => ?_, fun h2 => ?_⟩
      · have h2 : ¬ x2.toInt = -1 := fun z => h2 (Int32.toInt_inj.mp (z.trans qmi.symm))
        refine pX3_waitingOf (zX_o4 hX) (zX_o0 hX) (dyS_len hW2 hD2) hD2 hw2 (by omega) (by omega) (hK _ I2 hW2 (Fr.tr Fr.rf hF2 (by intro a k h; omega)) ?_)
        unfold oWaits anM
        rw [if_pos ok, if_pos hc, mk_some hw, aX_some hw, if_neg h2]
      · have h2 : x2.toInt = -1 := by rw [h2]; rfl
        refine pX3_waitingOfAll (zX_o4 hX) (zX_o0 hX) hW2 hD2 hw2 (hK _ I2 hW2 (Fr.tr Fr.rf hF2 (by intro a k h; omega)) ?_)
        unfold oWaits anM
        rw [if_pos ok, if_pos hc, mk_some hw, aX_some hw, if_pos h2]
  refine eX11_waits hX ⟨fun h2 => man (Or.inl (by rw [h2]; rfl)), fun h2 => ?_⟩
  have h2 : ¬ x2.toInt = -1 := fun z => h2 (Int32.toInt_inj.mp (z.trans qmi.symm))
  refine sfX9_has (zX_o0 hX) (Or.inl rfl) hW (fun v14 p14 => ⟨fun c14 => ?_, fun c14 => ?_⟩)
  · have c14 := i1 c14
    exact man (Or.inr (by omega))
  · have c14 := i0 c14
    exact rfX hX hW (if_neg (by omega)) (by intro a k h; omega) hK
theorem pX12_waits {G : jdG} {n : Nat} {Z : jdL} {J : jdJ} {K : Int32 → jdI → jdJ → Prop} {I : jdI} {t : Nat} {s : Sd} {x1 x2 : Int32} (ht : zModel Z t) (hW : WM 7 t I) (hs : TM I t s) (hk : OKT s.1) (hK : ∀ (v : Int32) (I2 : jdI), WM 7 t I2 → Fr (fun a k => (a = t ∧ (k = 30 ∨ k = 33 ∨ k = 34)) ∨ (t + 30 ≤ a ∧ a ≤ t + 33) ∨ a = t + 17) I I2 → v.toInt = oWaits s.1 (cM I t x1) (I (t + 14) (Int32.toNatClampNeg x1)).toInt (I (t + 15) (Int32.toNatClampNeg x1)) x2 → K v I2 J) : Cl G mX12_waits (n + 260) 0 0 [.ref (gb G + t), .int x1, .int x2] Z I J (qi Z K) := by
  have n1 := tn_eq x1
  have n2 := tn_eq x2
  have hb := RM_b hW hs.1
  have hwm := WM_f hW
  have h10 : (I t 10).toInt = s.1.1 := hs.1.1
  have e1 : (Int32.toInt64 x1).toInt = x1.toInt := Int32.toInt_toInt64 _
  have z0 : (0 : Int64).toInt = 0 := rfl
  have z7 : (7 : Int64).toInt = 7 := rfl
  have qmi : (-1 : Int32).toInt = -1 := rfl
  have man : (0 ≤ x1.toInt ∧ x1.toInt < 8) → (x2.toInt = -1 ∨ (0 ≤ x2.toInt ∧ x2.toInt < s.1.1)) → Cl G mX12_noMan (n + 259) 0 0 [.ref (gb G + t), .int x1] Z I J (qi Z (fun v6 I5 J5 => ((v6 = 0 → (vp_in x1 8 ∧ (vp_in x1 8 ∧ Cl G mX12_goesBy (n + 259) 0 0 [.ref (gb G + t), .int (I5 (t + 14) (Int32.toNatClampNeg x1)), .int (I5 (t + 15) (Int32.toNatClampNeg x1))] Z I5 J5 (qv Z (fun I9 J9 => ((¬ x2 = (-1) → (vp_in x2 7 ∧ K (I9 (t + 33) (Int32.toNatClampNeg x2)) I9 J9)) ∧ (x2 = (-1) → Cl G mX12_waitedAll (n + 259) 0 0 [.ref (gb G + t)] Z I9 J9 (qi Z (fun v13 I12 J12 => K v13 I12 J12))))))))) ∧ (¬ v6 = 0 → K v6 I5 J5)))) := fun hx ok => by
    refine pX12_noMan ht hW (fun v6 I1 hW1 hF1 hv hr => ⟨fun c6 => ?_, fun c6 => ?_⟩)
    · have c6 := i0 c6
      refine ⟨vp_of (by omega) (by omega), vp_of (by omega) (by omega), ?_⟩
      rw [hF1 (t + 14) _ (by omega), hF1 (t + 15) _ (by omega)]
      refine pX12_goesT ht hW1 (RM_fr hs.1 (by omega) hF1 (by omega) (by omega) (by omega) (by intro a k h1 h2 h3; omega)) hk (fun I2 hW2 hF2 _ _ hwt => ?_)
      have hfr : Fr (fun a k => (a = t ∧ (k = 30 ∨ k = 33 ∨ k = 34)) ∨ (t + 30 ≤ a ∧ a ≤ t + 33) ∨ a = t + 17) I I2 := Fr.tr (Fr.tr Fr.rf hF1 (by intro a k h; omega)) hF2 (by intro a k h; omega)
      refine ⟨fun h2 => ⟨vp_of ?_ ?_, hK _ I2 hW2 hfr ?_⟩, fun h2 => ?_⟩
      · have h2 : ¬ x2.toInt = -1 := fun z => h2 (Int32.toInt_inj.mp (z.trans qmi.symm))
        omega
      · have h2 : ¬ x2.toInt = -1 := fun z => h2 (Int32.toInt_inj.mp (z.trans qmi.symm))
        omega
      · have h2 : ¬ x2.toInt = -1 := fun z => h2 (Int32.toInt_inj.mp (z.trans qmi.symm))
        unfold oWaits anM
        rw [if_pos ok, if_pos (by omega), if_neg h2, n2, hwt _ (by omega), wv_M hk (by omega) (by omega)]
      · have h2 : x2.toInt = -1 := by rw [h2]; rfl
        refine pX12_waitedAll (w := s.1) ht hb.1 (by rw [hF2 t 10 (by omega), hF1 t 10 (by omega)]; exact h10) (fun p hp => by rw [hwt p hp, wv_M hk (by omega) hp]) (hK _ I2 hW2 hfr ?_)
        unfold oWaits anM
        rw [if_pos ok, if_pos (by omega), if_pos h2]
    · have c6 := i1 c6
      refine hK v6 I1 hW1 (Fr.tr Fr.rf hF1 (by intro a k h; omega)) ?_
      unfold oWaits anM
      rw [if_pos ok, if_neg (by omega)]
      exact hv
  refine eX12_waits ht ?_
  refine sfX12_in trivial (fun v2 p2 => ⟨fun c2 => ?_, fun c2 => ⟨fun h2 => ?_, fun h2 => ?_⟩⟩)
  · have c2 := i0 c2
    refine rfM ht hW (by decide) ?_ (by intro a k h; omega) hK
    unfold oWaits
    rw [cM_out (by omega)]
    split
    · exact if_neg (by decide)
    · rfl
  · have c2 := i1 c2
    exact man (by omega) (Or.inl (by rw [h2]; rfl))
  · have c2 := i1 c2
    have h2 : ¬ x2.toInt = -1 := fun z => h2 (Int32.toInt_inj.mp (z.trans qmi.symm))
    refine sfX12_isOne ht hW (fun v15 p15 => ⟨fun c15 => ?_, fun c15 => ?_⟩)
    · have c15 := i1 c15
      exact man (by omega) (Or.inr (by omega))
    · have c15 := i0 c15
      exact rfM ht hW (by decide) (if_neg (by omega)) (by intro a k h; omega) hK
/-- the shelf with the least waiting, of several the first -/
def hd (g : Nat → Option Int32) : Nat → Nat → Int32 → Int32 → Int32
  | 0, _, b, _ => b
  | f + 1, i, b, m => match g i with
    | none => hd g f (i + 1) b m
    | some v => if b = -1 ∨ ¬ m.toInt ≤ v.toInt then hd g f (i + 1) (Int32.ofNat i) v else hd g f (i + 1) b m
theorem hd_n {g : Nat → Option Int32} {f i : Nat} {b m : Int32} (h : g i = none) : hd g (f + 1) i b m = hd g f (i + 1) b m := by
  show (match g i with | none => hd g f (i + 1) b m | some v => if b = -1 ∨ ¬ m.toInt ≤ v.toInt then hd g f (i + 1) (Int32.ofNat i) v else hd g f (i + 1) b m) = _
  rw [h]
theorem hd_s {g : Nat → Option Int32} {f i : Nat} {b m v : Int32} (h : g i = some v) : hd g (f + 1) i b m = if b = -1 ∨ ¬ m.toInt ≤ v.toInt then hd g f (i + 1) (Int32.ofNat i) v else hd g f (i + 1) b m := by
  show (match g i with | none => hd g f (i + 1) b m | some v => if b = -1 ∨ ¬ m.toInt ≤ v.toInt then hd g f (i + 1) (Int32.ofNat i) v else hd g f (i + 1) b m) = _
  rw [h]
theorem hd_c {g g2 : Nat → Option Int32} : ∀ (f i : Nat) (b m : Int32), (∀ j, i ≤ j → j < i + f → g j = g2 j) → hd g f i b m = hd g2 f i b m
  | 0, _, _, _, _ => rfl
  | f + 1, i, b, m, h => by
    have e := h i (Nat.le_refl _) (by omega)
    have ih : ∀ b m, hd g f (i + 1) b m = hd g2 f (i + 1) b m := fun b m => hd_c f (i + 1) b m (fun j h1 h2 => h j (by omega) (by omega))
    cases c : g2 i with
    | none => rw [hd_n (e.trans c), hd_n c, ih]
    | some v => rw [hd_s (e.trans c), hd_s c, ih, ih]
def oHead (g : Nat → Option Int32) : Int := if hd g 8 0 (-1) 0 = -1 then -5 else (hd g 8 0 (-1) 0).toInt
def gX (Z : jdL) (I : jdI) (w : Tw) (i : Nat) : Option Int32 := match Z.2.1 (29 + 2 * i) 3 with
  | none => none
  | some u => some (wAll w (ckI (Z.1 u)) (I u 0))
theorem gX_n {Z : jdL} {I : jdI} {w : Tw} {i : Nat} (h : Z.2.1 (29 + 2 * i) 3 = none) : gX Z I w i = none := by
  unfold gX
  rw [h]
theorem gX_s {Z : jdL} {I : jdI} {w : Tw} {i u : Nat} (h : Z.2.1 (29 + 2 * i) 3 = some u) : gX Z I w i = some (wAll w (ckI (Z.1 u)) (I u 0)) := by
  unfold gX
  rw [h]
def gM (I : jdI) (t : Nat) (w : Tw) (i : Nat) : Option Int32 := if (I (t + 1) i).toInt = 2 then some (wAll w (I (t + 14) i).toInt (I (t + 15) i)) else none
theorem pX11_head_6 {G : jdG} {n rc rs : Nat} {Z : jdL} {J : jdJ} {K : Int32 → jdI → jdJ → Prop} {I0 : jdI} {w : Tw} {R : Int32} (hX : zX Z) (hM : zMen Z) (hA : zHi Z) (hk : OKT w) (hK : ∀ (v : Int32) (I2 : jdI), WX I2 → Fr (fun a k => (13 ≤ a ∧ a ≤ 24) ∨ a = 28) I0 I2 → v.toInt = (if R = -1 then -5 else R.toInt) → K v I2 J) : ∀ f : Nat, ∀ (I : jdI) (x1 x2 x3 : Int32), WX I → Fr (fun a k => 13 ≤ a ∧ a ≤ 24) I0 I → RX I 1 w → 0 ≤ x3.toInt → x3.toInt + (f : Int) = 8 → hd (gX Z I0 w) f x3.toInt.toNat x1 x2 = R → Jd G mX11_head (jdFm G (qi Z K)) (n + 9) rc rs 6 [(0, .ref (gb G + 0)), (1, .int x1), (2, .int x2), (3, .int x3)] [] Z I J := by
  have q8 : (8 : Int32).toInt = 8 := rfl
  intro f
  induction f with
  | zero =>
    intro I x1 x2 x3 hW hF hw h3 hf hr
    have hr : x1 = R := hr
    subst hr
    refine rX11_head_6 hX ⟨fun _ => ⟨fun c => ?_, fun c => ?_⟩, fun h => absurd (Int32.le_iff_toInt_le.mpr (by omega)) h⟩
    · exact hK x1 I hW (Fr.tr Fr.rf hF (by intro a k h; omega)) (by rw [if_neg c])
    · exact sfX11_refuse hX hW (fun v I3 hW3 hF3 hp3 => hK v I3 hW3 (Fr.tr (Fr.tr Fr.rf hF (by intro a k h; omega)) hF3 (by intro a k h; omega)) (by rw [if_pos c, hp3]; rfl))
  | succ f ih =>
    intro I x1 x2 x3 hW hF hw h3 hf hr
    have q1 : (1 : Int32).toInt = 1 := rfl
    have e3 := i32_add x3 1 (by omega) (by omega)
    have n3 := tn_eq x3
    have en : x3.toInt.toNat + 1 = (x3 + 1).toInt.toNat := by omega
    refine rX11_head_6 hX ⟨fun h => by have := Int32.le_iff_toInt_le.mp h; omega, fun _ => ⟨vp_of (by omega) (by omega), fun hn => ?_, fun u hu => ?_⟩⟩
    · rw [n3] at hn
      rw [hd_n (gX_n hn), en] at hr
      exact ih I x1 x2 (x3 + 1) hW hF hw (by omega) (by omega) hr
    · rw [n3] at hu
      obtain ⟨ci, hci, hz⟩ := hM _ (by omega) u hu
      have hu2 := hA _ (by omega) u hu
      rw [hd_s (gX_s hu), en] at hr
      refine pX11_think hX hz hci (by omega) hW hw hk (fun I6 hW6 hF6 hD6 => ?_)
      have hw6 := RX_fr hw hF6 (by intro a k h1 h2; omega)
      have hF7 : Fr (fun a k => 13 ≤ a ∧ a ≤ 24) I0 I6 := Fr.tr hF hF6 (fun _ _ h => h)
      have eu : I u 0 = I0 u 0 := hF u 0 (by omega)
      rw [eu] at hD6
      refine pX3_waitingOfAll (zX_o4 hX) (zX_o0 hX) hW6 hD6 hw6 ⟨fun c => ?_, fun c => ⟨fun d => ?_, fun d => ?_⟩⟩
      · rw [if_pos (Or.inl c), ← i32_ofNat h3] at hr
        exact ih I6 _ _ (x3 + 1) hW6 hF7 hw6 (by omega) (by omega) hr
      · have d := Int32.le_iff_toInt_le.mp d
        rw [if_neg (fun z => z.elim c (fun z => z d))] at hr
        exact ih I6 _ _ (x3 + 1) hW6 hF7 hw6 (by omega) (by omega) hr
      · have d := mt Int32.le_iff_toInt_le.mpr d
        rw [if_pos (Or.inr d), ← i32_ofNat h3] at hr
        exact ih I6 _ _ (x3 + 1) hW6 hF7 hw6 (by omega) (by omega) hr
theorem pX11_head {G : jdG} {n : Nat} {Z : jdL} {J : jdJ} {K : Int32 → jdI → jdJ → Prop} {I : jdI} {s : Sd} (hX : zX Z) (hM : zMen Z) (hA : zHi Z) (hW : WX I) (hs : TX I 1 s) (hk : OKT s.1) (hK : ∀ (v : Int32) (I2 : jdI), WX I2 → Fr (fun a k => (13 ≤ a ∧ a ≤ 24) ∨ a = 28) I I2 → v.toInt = oHead (gX Z I s.1) → K v I2 J) : Cl G mX11_head (n + 9) 0 0 [.ref (gb G + 0)] Z I J (qi Z K) :=
  eX11_head hX (pX11_head_6 (R := hd (gX Z I s.1) 8 0 (-1) 0) hX hM hA hk hK 8 I (-1) 0 0 hW Fr.rf hs.1 (by decide) (by decide) rfl)
theorem pX12_head_6 {G : jdG} {n rc rs : Nat} {Z : jdL} {J : jdJ} {K : Int32 → jdI → jdJ → Prop} {I0 : jdI} {t : Nat} {w : Tw} {R : Int32} (ht : zModel Z t) (hk : OKT w) (hb : (0 ≤ w.1 ∧ w.1 ≤ 7) ∧ 2 ≤ w.2.2.2.1 ∧ w.2.2.2.1 ≤ 4) (hK : ∀ (v : Int32) (I2 : jdI), WM 7 t I2 → Fr (fun a k => (a = t ∧ (k = 30 ∨ k = 33 ∨ k = 34)) ∨ (t + 30 ≤ a ∧ a ≤ t + 33) ∨ a = t + 17) I0 I2 → v.toInt = (if R = -1 then -5 else R.toInt) → K v I2 J) : ∀ f : Nat, ∀ (I : jdI) (x1 x2 x3 : Int32), WM 7 t I → Fr (fun a k => (a = t ∧ (k = 30 ∨ k = 33 ∨ k = 34)) ∨ (t + 30 ≤ a ∧ a ≤ t + 33)) I0 I → RM I t w → 0 ≤ x3.toInt → x3.toInt + (f : Int) = 8 → hd (gM I0 t w) f x3.toInt.toNat x1 x2 = R → Jd G mX12_head (jdFm G (qi Z K)) (n + 260) rc rs 6 [(0, .ref (gb G + t)), (1, .int x1), (2, .int x2), (3, .int x3)] [] Z I J := by
  have q8 : (8 : Int32).toInt = 8 := rfl
  have q2 : (2 : Int32).toInt = 2 := rfl
  intro f
  induction f with
  | zero =>
    intro I x1 x2 x3 hW hF hw h3 hf hr
    have hr : x1 = R := hr
    subst hr
    refine rX12_head_6 ht ⟨fun _ => ⟨fun c => ?_, fun c => ?_⟩, fun h => absurd (Int32.le_iff_toInt_le.mpr (by omega)) h⟩
    · exact hK x1 I hW (Fr.tr Fr.rf hF (by intro a k h; omega)) (by rw [if_neg c])
    · exact sfX12_refuse ht (by decide) hW (by decide) (fun v I3 hW3 hF3 hp3 => hK v I3 hW3 (Fr.tr (Fr.tr Fr.rf hF (by intro a k h; omega)) hF3 (by intro a k h; omega)) (by rw [if_pos c]; exact hp3))
  | succ f ih =>
    intro I x1 x2 x3 hW hF hw h3 hf hr
    have q1 : (1 : Int32).toInt = 1 := rfl
    have e3 := i32_add x3 1 (by omega) (by omega)
    have n3 := tn_eq x3
    have en : x3.toInt.toNat + 1 = (x3 + 1).toInt.toNat := by omega
    have e1 : I (t + 1) (Int32.toNatClampNeg x3) = I0 (t + 1) x3.toInt.toNat := hF (t + 1) _ (by omega)
    have e14 : I (t + 14) (Int32.toNatClampNeg x3) = I0 (t + 14) x3.toInt.toNat := hF (t + 14) _ (by omega)
    have e15 : I (t + 15) (Int32.toNatClampNeg x3) = I0 (t + 15) x3.toInt.toNat := hF (t + 15) _ (by omega)
    refine rX12_head_6 ht ⟨fun h => by have := Int32.le_iff_toInt_le.mp h; omega, fun _ => ⟨vp_of (by omega) (by omega), ?_⟩⟩
    rw [e1, e14, e15]
    refine ⟨fun hn => ?_, fun hu => ⟨vp_of (by omega) (by omega), vp_of (by omega) (by omega), ?_⟩⟩
    · have hn : ¬ (I0 (t + 1) x3.toInt.toNat).toInt = 2 := fun z => hn (Int32.toInt_inj.mp (z.trans q2.symm))
      rw [hd_n (if_neg hn), en] at hr
      exact ih I x1 x2 (x3 + 1) hW hF hw (by omega) (by omega) hr
    · have hu : (I0 (t + 1) x3.toInt.toNat).toInt = 2 := by rw [hu]; rfl
      rw [hd_s (if_pos hu), en] at hr
      refine pX12_goesT ht hW hw hk (fun I6 hW6 hF6 _ _ hwt => ?_)
      have hw6 := RM_fr hw (by omega) hF6 (by omega) (by omega) (by omega) (by intro a k h1 h2 h3; omega)
      have hF7 : Fr (fun a k => (a = t ∧ (k = 30 ∨ k = 33 ∨ k = 34)) ∨ (t + 30 ≤ a ∧ a ≤ t + 33)) I0 I6 := Fr.tr hF hF6 (fun _ _ h => h)
      refine pX12_waitedAll (w := w) ht hb.1 hw6.1 (fun p hp => by rw [hwt p hp, wv_M hk (by omega) hp]) ⟨fun c => ?_, fun c => ⟨fun d => ?_, fun d => ?_⟩⟩
      · rw [if_pos (Or.inl c), ← i32_ofNat h3] at hr
        exact ih I6 _ _ (x3 + 1) hW6 hF7 hw6 (by omega) (by omega) hr
      · have d := Int32.le_iff_toInt_le.mp d
        rw [if_neg (fun z => z.elim c (fun z => z d))] at hr
        exact ih I6 _ _ (x3 + 1) hW6 hF7 hw6 (by omega) (by omega) hr
      · have d := mt Int32.le_iff_toInt_le.mpr d
        rw [if_pos (Or.inr d), ← i32_ofNat h3] at hr
        exact ih I6 _ _ (x3 + 1) hW6 hF7 hw6 (by omega) (by omega) hr
theorem pX12_head {G : jdG} {n : Nat} {Z : jdL} {J : jdJ} {K : Int32 → jdI → jdJ → Prop} {I : jdI} {t : Nat} {s : Sd} (ht : zModel Z t) (hW : WM 7 t I) (hs : TM I t s) (hk : OKT s.1) (hK : ∀ (v : Int32) (I2 : jdI), WM 7 t I2 → Fr (fun a k => (a = t ∧ (k = 30 ∨ k = 33 ∨ k = 34)) ∨ (t + 30 ≤ a ∧ a ≤ t + 33) ∨ a = t + 17) I I2 → v.toInt = oHead (gM I t s.1) → K v I2 J) : Cl G mX12_head (n + 260) 0 0 [.ref (gb G + t)] Z I J (qi Z K) :=
  eX12_head ht (pX12_head_6 (R := hd (gM I t s.1) 8 0 (-1) 0) ht hk (RM_b hW hs.1) hK 8 I (-1) 0 0 hW Fr.rf hs.1 (by decide) (by decide) rfl)
theorem oWaits_c {w : Tw} {c kd kd2 : Int} {a a2 x2 : Int32} (h : c = 0 → kd = kd2 ∧ a = a2) : oWaits w c kd a x2 = oWaits w c kd2 a2 x2 := by
  unfold oWaits anM
  by_cases d : c = 0
  · rw [(h d).1, (h d).2]
  · rw [if_neg d, if_neg d]
theorem oHead_c {g g2 : Nat → Option Int32} (h : ∀ i, i < 8 → g i = g2 i) : oHead g = oHead g2 := by
  unfold oHead
  rw [hd_c 8 0 (-1) 0 (fun j _ hj => h j (by omega))]
