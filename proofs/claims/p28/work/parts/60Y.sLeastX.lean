/-! the least waiting, as X finds it -/
def hrI (w : Tw) (p : Nat) : Int := (w.2.1 p).toInt
def coI (w : Tw) (p : Nat) : Int := (w.2.2.1 p).toInt
def laN (w : Tw) (g : Int32) : Nat → Int
  | 0 => 0
  | k + 1 => if bt g k = true ∧ laN w g k < hrI w k then hrI w k else laN w g k
def wnW (w : Tw) (now : Int) (g : Int32) : Int := sumP (fun p => coI w p * (now - hrI w p)) g w.1.toNat
def stW (w : Tw) (s : Int32) : Int := sumP (fun p => coI w p * (24 - hrI w p)) s w.1.toNat
def wtW (w : Tw) (g : Int32) : Int := wnW w (laN w g w.1.toNat) g
theorem laN_b {w : Tw} {g : Int32} : ∀ k, (∀ p, p < k → 0 ≤ hrI w p ∧ hrI w p < 24) → 0 ≤ laN w g k ∧ laN w g k < 24
  | 0, _ => by
    show (0 : Int) ≤ 0 ∧ (0 : Int) < 24
    decide
  | k + 1, h => by
    have ih := laN_b (w := w) (g := g) k (fun p hp => h p (by omega))
    have hk := h k (by omega)
    show 0 ≤ (if bt g k = true ∧ laN w g k < hrI w k then hrI w k else laN w g k) ∧ (if bt g k = true ∧ laN w g k < hrI w k then hrI w k else laN w g k) < 24
    split <;> omega
theorem laN_ge {w : Tw} {g : Int32} {p : Nat} (hb : bt g p = true) : ∀ k, p < k → hrI w p ≤ laN w g k
  | 0, h => absurd h (Nat.not_lt_zero _)
  | k + 1, h => by
    show hrI w p ≤ if bt g k = true ∧ laN w g k < hrI w k then hrI w k else laN w g k
    by_cases c : p = k
    · rw [← c]
      by_cases d : bt g p = true ∧ laN w g p < hrI w p
      · rw [if_pos d]
        exact Int.le_refl _
      · rw [if_neg d]
        have : ¬ laN w g p < hrI w p := fun z => d ⟨hb, z⟩
        omega
    · have ih := laN_ge (w := w) hb k (by omega)
      split <;> omega
theorem mulb {c d : Int} (hc : 0 ≤ c ∧ c ≤ 9) (hd : 0 ≤ d ∧ d ≤ 24) : 0 ≤ c * d ∧ c * d ≤ 216 := ⟨Int.mul_nonneg hc.1 hd.1, Int.le_trans (Int.mul_le_mul hc.2 hd.2 hd.1 (by decide)) (by decide)⟩
theorem sumP_b {f : Nat → Int} {s : Int32} : ∀ k, (∀ p, p < k → bt s p = true → 0 ≤ f p ∧ f p ≤ 216) → 0 ≤ sumP f s k ∧ sumP f s k ≤ 216 * (k : Int)
  | 0, _ => by
    show (0 : Int) ≤ 0 ∧ (0 : Int) ≤ 216 * 0
    decide
  | k + 1, h => by
    have ih := sumP_b (f := f) (s := s) k (fun p hp => h p (by omega))
    show 0 ≤ sumP f s k + (if bt s k = true then f k else 0) ∧ sumP f s k + (if bt s k = true then f k else 0) ≤ 216 * ((k + 1 : Nat) : Int)
    by_cases c : bt s k = true
    · have := h k (by omega) c
      rw [if_pos c]
      omega
    · rw [if_neg c]
      omega
theorem pX3_waitingTogether_42 {G : jdG} {n rc rs : Nat} {Z : jdL} {J : jdJ} {K : Int32 → jdI → jdJ → Prop} {I : jdI} {w : Tw} {x1 x2 : Int32} (hu : zTown Z 1) (hw : RX I 1 w) (hb : 0 ≤ w.1 ∧ w.1 ≤ 7) (hH : HC w) (h2 : x2.toInt = laN w x1 w.1.toNat) (hK : ∀ v : Int32, v.toInt = wtW w x1 → K v I J) : ∀ f : Nat, ∀ x3 x4 : Int32, 0 ≤ x4.toInt → x4.toInt + (f : Int) = w.1 → x3.toInt = sumP (fun p => coI w p * (laN w x1 w.1.toNat - hrI w p)) x1 x4.toInt.toNat → Jd G mX3_waitingTogether (jdFm G (qi Z K)) (n + 1) rc rs 42 [(0, .ref (gb G + 1)), (1, .int x1), (2, .int x2), (3, .int x3), (4, .int x4)] [] Z I J := by
  have h10 := hw.1
  have hl := laN_b (w := w) (g := x1) w.1.toNat (fun p hp => (hH p (by omega)).1)
  have fb : ∀ p, p < w.1.toNat → bt x1 p = true → 0 ≤ coI w p * (laN w x1 w.1.toNat - hrI w p) ∧ coI w p * (laN w x1 w.1.toNat - hrI w p) ≤ 216 := fun p hp hbp => by
    have h := hH p (by omega)
    have g := laN_ge (w := w) hbp w.1.toNat hp
    have e : hrI w p = (w.2.1 p).toInt := rfl
    exact mulb h.2 ⟨by omega, by omega⟩
  intro f
  induction f with
  | zero =>
    intro x3 x4 h4 hf h3
    refine rX3_waitingTogether_42 hu ⟨fun _ => hK x3 ?_, fun h => absurd (Int32.le_iff_toInt_le.mpr (by omega)) h⟩
    rw [h3, show x4.toInt.toNat = w.1.toNat by omega]
    rfl
  | succ f ih =>
    intro x3 x4 h4 hf h3
    have q1 : (1 : Int32).toInt = 1 := rfl
    have e4 := i32_add x4 1 (by omega) (by omega)
    have n4 := tn_eq x4
    have en : (x4 + 1).toInt.toNat = x4.toInt.toNat + 1 := by omega
    have sb := sumP_b (f := fun p => coI w p * (laN w x1 w.1.toNat - hrI w p)) (s := x1) x4.toInt.toNat (fun p hp => fb p (by omega))
    have st : sumP (fun p => coI w p * (laN w x1 w.1.toNat - hrI w p)) x1 (x4.toInt.toNat + 1) = sumP (fun p => coI w p * (laN w x1 w.1.toNat - hrI w p)) x1 x4.toInt.toNat + (if bt x1 x4.toInt.toNat = true then coI w x4.toInt.toNat * (laN w x1 w.1.toNat - hrI w x4.toInt.toNat) else 0) := rfl
    refine rX3_waitingTogether_42 hu ⟨fun h => by have := Int32.le_iff_toInt_le.mp h; omega, fun _ => ⟨fun hv => ?_, fun hv => ?_⟩⟩
    · have nb : ¬ bt x1 x4.toInt.toNat = true := fun z => (bt_iff x1 h4).mp z hv
      exact ih x3 (x4 + 1) (by omega) (by omega) (by rw [en, st, if_neg nb, h3, Int.add_zero])
    · have yb := (bt_iff x1 h4).mpr hv
      obtain ⟨a1, a2⟩ := hw.2.1 x4.toInt.toNat (by omega)
      have fp := fb x4.toInt.toNat (by omega) yb
      refine ⟨vp_of (by omega) (by omega), vp_of (by omega) (by omega), ?_⟩
      rw [n4, a1, a2]
      have hh := hH x4.toInt.toNat (by omega)
      have e1 := i32_sub x2 (w.2.1 x4.toInt.toNat) (by omega) (by omega)
      have e2 : (w.2.2.1 x4.toInt.toNat * (x2 - w.2.1 x4.toInt.toNat)).toInt = coI w x4.toInt.toNat * (laN w x1 w.1.toNat - hrI w x4.toInt.toNat) := by
        have ed : (x2 - w.2.1 x4.toInt.toNat).toInt = laN w x1 w.1.toNat - hrI w x4.toInt.toNat := by rw [e1, h2]; rfl
        rw [i32_mul _ _ (by rw [ed]; show -2147483648 ≤ coI w _ * _; omega) (by rw [ed]; show coI w _ * _ ≤ 2147483647; omega), ed]
        rfl
      have e3 := i32_add x3 (w.2.2.1 x4.toInt.toNat * (x2 - w.2.1 x4.toInt.toNat)) (by omega) (by omega)
      exact ih _ (x4 + 1) (by omega) (by omega) (by rw [en, st, if_pos yb, e3, h3, e2])
theorem pX3_waitingTogether_4 {G : jdG} {n rc rs : Nat} {Z : jdL} {J : jdJ} {K : Int32 → jdI → jdJ → Prop} {I : jdI} {w : Tw} {x1 : Int32} (hu : zTown Z 1) (hw : RX I 1 w) (hb : 0 ≤ w.1 ∧ w.1 ≤ 7) (hH : HC w) (hK : ∀ v : Int32, v.toInt = wtW w x1 → K v I J) : ∀ f : Nat, ∀ x2 x3 : Int32, 0 ≤ x3.toInt → x3.toInt + (f : Int) = w.1 → x2.toInt = laN w x1 x3.toInt.toNat → Jd G mX3_waitingTogether (jdFm G (qi Z K)) (n + 1) rc rs 4 [(0, .ref (gb G + 1)), (1, .int x1), (2, .int x2), (3, .int x3)] [] Z I J := by
  have h10 := hw.1
  intro f
  induction f with
  | zero =>
    intro x2 x3 h3 hf h2
    refine rX3_waitingTogether_4 hu ⟨fun _ => ?_, fun h => absurd (Int32.le_iff_toInt_le.mpr (by omega)) h⟩
    exact pX3_waitingTogether_42 hu hw hb hH (by rw [h2, show x3.toInt.toNat = w.1.toNat by omega]) hK w.1.toNat 0 0 (by decide) (by show (0 : Int) + _ = _; omega) rfl
  | succ f ih =>
    intro x2 x3 h3 hf h2
    have q1 : (1 : Int32).toInt = 1 := rfl
    have e3 := i32_add x3 1 (by omega) (by omega)
    have n3 := tn_eq x3
    have en : (x3 + 1).toInt.toNat = x3.toInt.toNat + 1 := by omega
    have st : laN w x1 (x3.toInt.toNat + 1) = if bt x1 x3.toInt.toNat = true ∧ laN w x1 x3.toInt.toNat < hrI w x3.toInt.toNat then hrI w x3.toInt.toNat else laN w x1 x3.toInt.toNat := rfl
    refine rX3_waitingTogether_4 hu ⟨fun h => by have := Int32.le_iff_toInt_le.mp h; omega, fun _ => ⟨fun hv => ?_, fun hv => ?_⟩⟩
    · have nb : ¬ bt x1 x3.toInt.toNat = true := fun z => (bt_iff x1 h3).mp z hv
      exact ih x2 (x3 + 1) (by omega) (by omega) (by rw [en, st, if_neg (fun z => nb z.1), h2])
    · have yb := (bt_iff x1 h3).mpr hv
      obtain ⟨a1, a2⟩ := hw.2.1 x3.toInt.toNat (by omega)
      refine ⟨vp_of (by omega) (by omega), ?_⟩
      rw [n3, a1]
      refine ih _ (x3 + 1) (by omega) (by omega) ?_
      rw [en, st]
      by_cases c : x2 < w.2.1 x3.toInt.toNat
      · rw [if_pos c, if_pos ⟨yb, by rw [← h2]; exact Int32.lt_iff_toInt_lt.mp c⟩]
        rfl
      · rw [if_neg c, if_neg (fun z => c (Int32.lt_iff_toInt_lt.mpr (by rw [h2]; exact z.2))), h2]
theorem pX3_waitingTogether {G : jdG} {n : Nat} {Z : jdL} {J : jdJ} {K : Int32 → jdI → jdJ → Prop} {I : jdI} {w : Tw} {x1 : Int32} (hu : zTown Z 1) (hw : RX I 1 w) (hb : 0 ≤ w.1 ∧ w.1 ≤ 7) (hH : HC w) (hK : ∀ v : Int32, v.toInt = wtW w x1 → K v I J) : Cl G mX3_waitingTogether (n + 1) 0 0 [.ref (gb G + 1), .int x1] Z I J (qi Z K) :=
  eX3_waitingTogether hu (pX3_waitingTogether_4 hu hw hb hH hK w.1.toNat 0 0 (by decide) (by show (0 : Int) + _ = _; omega) rfl)
theorem wt_b {w : Tw} {g : Int32} (hb : 0 ≤ w.1 ∧ w.1 ≤ 7) (hH : HC w) : 0 ≤ wtW w g ∧ wtW w g ≤ 1512 := by
  have hl := laN_b (w := w) (g := g) w.1.toNat (fun p hp => (hH p (by omega)).1)
  have s := sumP_b (f := fun p => coI w p * (laN w g w.1.toNat - hrI w p)) (s := g) w.1.toNat (fun p hp hbp => by
    have h := hH p (by omega)
    have q := laN_ge (w := w) hbp w.1.toNat hp
    have e : hrI w p = (w.2.1 p).toInt := rfl
    exact mulb h.2 ⟨by omega, by omega⟩)
  have s : 0 ≤ wtW w g ∧ wtW w g ≤ 216 * (w.1.toNat : Int) := s
  omega
/-! the table over the sets -/
def lbm (s : Int32) : Int32 := s &&& (-s)
theorem lb_all : ∀ s : Fin 128, ¬ s.val = 0 → sbs (Int32.ofNat s.val) (lbm (Int32.ofNat s.val)) = true ∧ (0 ≤ (lbm (Int32.ofNat s.val) - 1).toInt ∧ (lbm (Int32.ofNat s.val) - 1).toInt ≤ 255) ∧ lbm (Int32.ofNat s.val) = (1 : Int32) <<< (bs (lbm (Int32.ofNat s.val) - 1) 8 &&& 31) ∧ (0 ≤ (bs (lbm (Int32.ofNat s.val) - 1) 8).toInt ∧ (bs (lbm (Int32.ofNat s.val) - 1) 8).toInt < 7) := by decide +kernel
theorem lb_s {s : Int32} (h : 0 < s.toInt ∧ s.toInt < 128) : sbs s (lbm s) = true ∧ (0 ≤ (lbm s - 1).toInt ∧ (lbm s - 1).toInt ≤ 255) ∧ lbm s = (1 : Int32) <<< (bs (lbm s - 1) 8 &&& 31) ∧ (0 ≤ (bs (lbm s - 1) 8).toInt ∧ (bs (lbm s - 1) 8).toInt < 7) := by
  have e := lb_all ⟨s.toInt.toNat, by omega⟩ (show ¬ s.toInt.toNat = 0 by omega)
  have e1 : Int32.ofNat s.toInt.toNat = s := (i32_ofNat (by omega)).symm
  rw [e1] at e
  exact e
def lwX (L : List Int32) (wt st : Int32 → Int) (k : Int) : Nat → Int32 → Int
  | 0, _ => 0
  | f + 1, s => if s = 0 then 0 else mnl (fun g => sbs g (lbm s) && sbs s g) (fun g => lwX L wt st k f (dl s g) + (k * wt g - 1)) L (lwX L wt st k f (dl s (lbm s)) + k * st (lbm s))
theorem mnl_c {p : Int32 → Bool} {h h2 : Int32 → Int} : ∀ (L : List Int32) (b : Int), (∀ g ∈ L, p g = true → h g = h2 g) → mnl p h L b = mnl p h2 L b
  | [], _, _ => rfl
  | g :: L, b, e => by
    have ih := mnl_c (p := p) (h := h) (h2 := h2) L (if p g = true ∧ h2 g < b then h2 g else b) (fun x hx => e x (List.mem_cons_of_mem _ hx))
    show mnl p h L (if p g = true ∧ h g < b then h g else b) = mnl p h2 L (if p g = true ∧ h2 g < b then h2 g else b)
    rw [← ih]
    by_cases c : p g = true
    · rw [e g List.mem_cons_self c]
    · rw [if_neg (fun z => c z.1), if_neg (fun z => c z.1)]
def Gd (s : Int32) : Prop := 0 ≤ s.toInt ∧ s.toInt < 128
theorem Gd_dl {s g : Int32} (h : Gd s) : Gd (dl s g) := by
  have := i32_and' s (~~~g) h.1
  have e : (dl s g).toInt = (s &&& ~~~g).toInt := rfl
  unfold Gd at h ⊢
  omega
theorem Gd_bt {s : Int32} (h : Gd s) : ∀ i, 8 ≤ i → i < 32 → bt s i = false := fun i h1 h2 => bt_hi ⟨h.1, by have := h.2; omega⟩ h1 h2
theorem Gd_0 {s : Int32} (h : Gd s) (hc : cd s = 0) : s = 0 := bt_all (fun i hi => by
  rw [bt_ze i hi]
  by_cases q : i < 8
  · exact cdN_0 8 hc i q
  · exact Gd_bt h i (by omega) hi)
theorem Gd_p {s : Int32} (h : Gd s) (h0 : ¬ s = 0) : 0 < s.toInt ∧ s.toInt < 128 := by
  have q0 : (0 : Int32).toInt = 0 := rfl
  have : ¬ s.toInt = 0 := fun z => h0 (Int32.toInt_inj.mp (z.trans q0.symm))
  exact ⟨by have := h.1; omega, h.2⟩
theorem lb_bt {s : Int32} (h : Gd s) (h0 : ¬ s = 0) {i : Nat} (hi : i < 32) : bt (lbm s) i = decide (i = (bs (lbm s - 1) 8).toInt.toNat) := by
  obtain ⟨_, _, e, r⟩ := lb_s (Gd_p h h0)
  have e2 : lbm s = (1 : Int32) <<< (Int32.ofNat (bs (lbm s - 1) 8).toInt.toNat &&& 31) := by
    rw [← i32_ofNat r.1]
    exact e
  have b := bt_32 ⟨i, hi⟩ ⟨(bs (lbm s - 1) 8).toInt.toNat, by omega⟩
  have b : bt ((1 : Int32) <<< (Int32.ofNat (bs (lbm s - 1) 8).toInt.toNat &&& 31)) i = decide (i = (bs (lbm s - 1) 8).toInt.toNat) := b
  rw [← e2] at b
  exact b
theorem lb_cd {s : Int32} (h : Gd s) (h0 : ¬ s = 0) : 1 ≤ cd (lbm s) := by
  obtain ⟨_, _, _, r⟩ := lb_s (Gd_p h h0)
  have b : bt (lbm s) (bs (lbm s - 1) 8).toInt.toNat = true := by
    rw [lb_bt h h0 (by omega)]
    exact decide_eq_true rfl
  have := cdN_ge b 8 (by omega)
  have e : cd (lbm s) = cdN (lbm s) 8 := rfl
  omega
theorem lb_g {s : Int32} (h : Gd s) (h0 : ¬ s = 0) (g : Int32) : sbs g (lbm s) = true ↔ bt g (bs (lbm s - 1) 8).toInt.toNat = true := by
  obtain ⟨_, _, _, r⟩ := lb_s (Gd_p h h0)
  constructor
  · intro q
    exact sbs_bt.mp q _ (by omega) (by rw [lb_bt h h0 (by omega)]; exact decide_eq_true rfl)
  · intro q
    exact sbs_bt.mpr (fun i hi hb => by
      rw [lb_bt h h0 hi] at hb
      rw [of_decide_eq_true hb]
      exact q)
theorem lb_d {s : Int32} (h : Gd s) (h0 : ¬ s = 0) (g : Int32) : (g &&& lbm s) = 0 ∨ sbs g (lbm s) = true := by
  by_cases c : bt g (bs (lbm s - 1) 8).toInt.toNat = true
  · exact Or.inr ((lb_g h h0 g).mpr c)
  · refine Or.inl (dis_bt.mpr (fun i hi hb => ?_))
    rw [lb_bt h h0 hi]
    refine decide_eq_false (fun e => c ?_)
    rw [← e]
    exact hb
theorem cdd_l {s g : Int32} (h : sbs s g = true) : cd (dl s g) + cd g = cd s := cdN_dl h 8 (Nat.le_refl _)
theorem lwX_0 {L : List Int32} {wt st : Int32 → Int} {k : Int} : ∀ f, lwX L wt st k f 0 = 0
  | 0 => rfl
  | f + 1 => if_pos rfl
theorem lwX_f {L : List Int32} {wt st : Int32 → Int} {k : Int} (hG : ∀ g ∈ L, 1 ≤ cd g) : ∀ (f f2 : Nat) (s : Int32), Gd s → cd s ≤ f → cd s ≤ f2 → lwX L wt st k f s = lwX L wt st k f2 s := by
  have z : ∀ f, lwX L wt st k f 0 = 0 := fun f => lwX_0 f
  intro f
  induction f with
  | zero =>
    intro f2 s h h1 h2
    rw [Gd_0 h (Nat.le_zero.mp h1), z, z]
  | succ f ih =>
    intro f2 s h h1 h2
    by_cases c : s = 0
    · rw [c, z, z]
    · obtain ⟨l1, _, _, _⟩ := lb_s (Gd_p h c)
      have l2 := lb_cd h c
      have cl := cdd_l l1
      cases f2 with
      | zero => omega
      | succ f2 =>
        show (if s = 0 then 0 else mnl (fun g => sbs g (lbm s) && sbs s g) (fun g => lwX L wt st k f (dl s g) + (k * wt g - 1)) L (lwX L wt st k f (dl s (lbm s)) + k * st (lbm s))) = (if s = 0 then 0 else mnl (fun g => sbs g (lbm s) && sbs s g) (fun g => lwX L wt st k f2 (dl s g) + (k * wt g - 1)) L (lwX L wt st k f2 (dl s (lbm s)) + k * st (lbm s)))
        rw [if_neg c, if_neg c, ih f2 (dl s (lbm s)) (Gd_dl h) (by omega) (by omega)]
        refine mnl_c L _ (fun g hg pg => ?_)
        have q := (Bool.and_eq_true_iff.mp pg).2
        have cg := cdd_l q
        have g1 := hG g hg
        show lwX L wt st k f (dl s g) + (k * wt g - 1) = lwX L wt st k f2 (dl s g) + (k * wt g - 1)
        rw [ih f2 (dl s g) (Gd_dl h) (by omega) (by omega)]
theorem cd_Gd {s : Int32} (h : Gd s) : cd s ≤ 8 := cdN_24 s 8
/-- the table of a town -/
def tabW (w : Tw) (k : Int) (s : Int32) : Int := lwX (LW w) (wtW w) (stW w) k 8 s
theorem tabW_0 (w : Tw) (k : Int) : tabW w k 0 = 0 := lwX_0 8
theorem LW_c1 {w : Tw} (hb : (0 ≤ w.1 ∧ w.1 ≤ 7) ∧ 2 ≤ w.2.2.2.1 ∧ w.2.2.2.1 ≤ 4) (hsy : SYM w) : ∀ g ∈ LW w, 1 ≤ cd g := fun g hg => by
  have := (LW_rel hb hsy hg).2.2
  omega
theorem tabW_s {w : Tw} {k : Int} {s : Int32} (hb : (0 ≤ w.1 ∧ w.1 ≤ 7) ∧ 2 ≤ w.2.2.2.1 ∧ w.2.2.2.1 ≤ 4) (hsy : SYM w) (h : Gd s) (h0 : ¬ s = 0) : tabW w k s = mnl (fun g => sbs g (lbm s) && sbs s g) (fun g => tabW w k (dl s g) + (k * wtW w g - 1)) (LW w) (tabW w k (dl s (lbm s)) + k * stW w (lbm s)) := by
  have hG := LW_c1 hb hsy
  obtain ⟨l1, _, _, _⟩ := lb_s (Gd_p h h0)
  have l2 := lb_cd h h0
  have cl := cdd_l l1
  have c8 := cd_Gd h
  have e : tabW w k s = if s = 0 then 0 else mnl (fun g => sbs g (lbm s) && sbs s g) (fun g => lwX (LW w) (wtW w) (stW w) k 7 (dl s g) + (k * wtW w g - 1)) (LW w) (lwX (LW w) (wtW w) (stW w) k 7 (dl s (lbm s)) + k * stW w (lbm s)) := rfl
  rw [e, if_neg h0, lwX_f hG 7 8 (dl s (lbm s)) (Gd_dl h) (by omega) (by omega)]
  refine mnl_c (LW w) _ (fun g hg pg => ?_)
  have q := (Bool.and_eq_true_iff.mp pg).2
  have cg := cdd_l q
  have g1 := hG g hg
  show lwX (LW w) (wtW w) (stW w) k 7 (dl s g) + (k * wtW w g - 1) = lwX (LW w) (wtW w) (stW w) k 8 (dl s g) + (k * wtW w g - 1)
  rw [lwX_f hG 7 8 (dl s g) (Gd_dl h) (by omega) (by omega)]
theorem st_dl {w : Tw} (hb : 0 ≤ w.1 ∧ w.1 ≤ 7) (s g : Int32) (h : sbs s g = true) : stW w s = stW w (dl s g) + stW w g := (sumP_dl h w.1.toNat (by omega)).symm
theorem sumP_0 {f : Nat → Int} : ∀ k, k ≤ 32 → sumP f 0 k = 0
  | 0, _ => rfl
  | k + 1, h => by
    show sumP f 0 k + (if bt 0 k = true then f k else 0) = 0
    rw [sumP_0 k (by omega), bt_ze k (by omega)]
    rfl
theorem pw7 : ∀ N : Fin 8, (2 : Int) ^ N.val ≤ 128 := by decide
theorem ev_Gd {w : Tw} (hb : 0 ≤ w.1 ∧ w.1 ≤ 7) : Gd (evW w) := by
  have e := ev_r (w := w) ⟨hb.1, by omega⟩
  have p : (2 : Int) ^ w.1.toNat ≤ 128 := by
    have q := pw7 ⟨w.1.toNat, by omega⟩
    exact q
  exact ⟨e.1, by omega⟩
theorem sub_Gd {w : Tw} (hb : 0 ≤ w.1 ∧ w.1 ≤ 7) {s : Int32} (h : sbs (evW w) s = true) : Gd s := by
  have e := ev_Gd hb
  have a := i32_and s (evW w) e.1
  rw [sbs_x.mpr h] at a
  exact ⟨a.1, by have := e.2; omega⟩
theorem tab_W {w : Tw} {k : Int} (hb : (0 ≤ w.1 ∧ w.1 ≤ 7) ∧ 2 ≤ w.2.2.2.1 ∧ w.2.2.2.1 ≤ 4) (hsy : SYM w) {s : Int32} (hs : sbs (evW w) s = true) : (∀ P, pkv (LW w) s P → tabW w k s ≤ k * pkV (wtW w) (stW w) s P - (P.length : Int)) ∧ ∃ P, pkv (LW w) s P ∧ tabW w k s = k * pkV (wtW w) (stW w) s P - (P.length : Int) :=
  tab_ok (lb := lbm) (ev := evW w) (st_dl hb.1) (sumP_0 _ (by omega)) (LW_c1 hb hsy) (fun s h h0 => ⟨(lb_s (Gd_p (sub_Gd hb.1 h) h0)).1, lb_cd (sub_Gd hb.1 h) h0, lb_d (sub_Gd hb.1 h) h0⟩) (tabW_0 w k) (fun s h h0 => tabW_s hb hsy (sub_Gd hb.1 h) h0) (cd s) s (Nat.le_refl _) hs (Gd_bt (sub_Gd hb.1 hs))
theorem st_b {w : Tw} {s : Int32} (hb : 0 ≤ w.1 ∧ w.1 ≤ 7) (hH : HC w) : 0 ≤ stW w s ∧ stW w s ≤ 1512 := by
  have q := sumP_b (f := fun p => coI w p * (24 - hrI w p)) (s := s) w.1.toNat (fun p hp _ => by
    have h := hH p (by omega)
    have e : hrI w p = (w.2.1 p).toInt := rfl
    exact mulb h.2 ⟨by omega, by omega⟩)
  have q : 0 ≤ stW w s ∧ stW w s ≤ 216 * (w.1.toNat : Int) := q
  omega
theorem pkV_0 {w : Tw} (hb : 0 ≤ w.1 ∧ w.1 ≤ 7) (hH : HC w) : ∀ (P : List Int32) (s : Int32), 0 ≤ pkV (wtW w) (stW w) s P
  | [], s => (st_b hb hH).1
  | g :: P, s => by
    have := pkV_0 hb hH P (dl s g)
    have := (wt_b (g := g) hb hH).1
    show 0 ≤ wtW w g + pkV (wtW w) (stW w) (dl s g) P
    omega
theorem tab_b {w : Tw} (hb : (0 ≤ w.1 ∧ w.1 ≤ 7) ∧ 2 ≤ w.2.2.2.1 ∧ w.2.2.2.1 ≤ 4) (hsy : SYM w) (hH : HC w) {s : Int32} (hs : sbs (evW w) s = true) : -8 ≤ tabW w 16 s ∧ tabW w 16 s ≤ 24192 := by
  obtain ⟨t1, P, p1, p2⟩ := tab_W (k := 16) hb hsy hs
  have a := t1 [] trivial
  have a : tabW w 16 s ≤ 16 * stW w s - 0 := a
  have b := st_b (s := s) hb.1 hH
  have c := pkV_0 hb.1 hH P s
  have d := pkv_len (LW_c1 hb hsy) P s p1
  have e := cd_Gd (sub_Gd hb.1 hs)
  omega
def prW (w : Tw) (g : Int32) : Int32 := Int32.ofInt (16 * wtW w g - 1)
theorem pr_i {w : Tw} {g : Int32} (hb : 0 ≤ w.1 ∧ w.1 ≤ 7) (hH : HC w) : (prW w g).toInt = 16 * wtW w g - 1 := by
  have := wt_b (g := g) hb hH
  exact Int32.toInt_ofInt_of_le (by omega) (by omega)
theorem LiS_map {I : jdI} {b k : Nat} {L : List Int32} {f : Int32 → Int32} {g : Int32} (h : LiS I b (L.map f)) (hk : k < L.length) (hg : L[k]? = some g) : I b k = f g := by
  have q := h k (by rw [List.length_map]; exact hk)
  rw [List.getElem?_map, hg] at q
  injection q with q
  exact q.symm
theorem ev_dl {w : Tw} {s g : Int32} (h : sbs (evW w) s = true) : sbs (evW w) (dl s g) = true := sbs_bt.mpr (fun i hi hb => by
  rw [dl_bt _ _ hi] at hb
  exact sbs_bt.mp h i hi (Bool.and_eq_true_iff.mp hb).1)
theorem dll_t {s g : Int32} (h : Gd s) (hs : sbs s g = true) (hg : 1 ≤ cd g) : (dl s g).toInt < s.toInt := by
  have a := i32_and' s (~~~g) h.1
  have e : (dl s g).toInt = (s &&& ~~~g).toInt := rfl
  have n : ¬ (dl s g).toInt = s.toInt := fun z => by
    have c := cdd_l hs
    rw [Int32.toInt_inj.mp z] at c
    omega
  omega
theorem pX3_cheapest_64 {G : jdG} {n rc rs : Nat} {Z : jdL} {J : jdJ} {K : Int32 → jdI → jdJ → Prop} {I : jdI} {w : Tw} {x3 x4 x5 : Int32} {R : Int} (ht : zDay Z 20) (hu1 : zTown Z 1) (hu2 : zTies Z 13) (hb : (0 ≤ w.1 ∧ w.1 ≤ 7) ∧ 2 ≤ w.2.2.2.1 ∧ w.2.2.2.1 ≤ 4) (hsy : SYM w) (hH : HC w) (hT : TL I w) (hs : sbs (evW w) x3 = true) (h0 : ¬ x3 = 0) (h4 : x4 = bs (lbm x3 - 1) 8) (hp : LiS I (20 + 4) ((LW w).map (prW w))) (htab : ∀ k : Nat, (k : Int) < x3.toInt → (I (20 + 3) k).toInt = tabW w 16 (Int32.ofNat k)) (hK : ∀ v : Int32, v.toInt = R → K v I J) : ∀ f : Nat, ∀ x6 x7 : Int32, 0 ≤ x7.toInt → x7.toInt + (f : Int) = ((LW w).length : Int) → mnl (fun g => sbs g (lbm x3) && sbs x3 g) (fun g => tabW w 16 (dl x3 g) + (16 * wtW w g - 1)) ((LW w).drop x7.toInt.toNat) x6.toInt = R → Jd G mX3_cheapest (jdFm G (qi Z K)) (n + 1) rc rs 64 [(0, .ref (gb G + 20)), (1, .ref (gb G + 1)), (2, .ref (gb G + 13)), (3, .int x3), (4, .int x4), (5, .int x5), (6, .int x6), (7, .int x7)] [] Z I J := by
  have gd := sub_Gd hb.1 hs
  have lb := lb_s (Gd_p gd h0)
  have l70 := LW_70 hb
  have h8 : (I 13 8).toInt = ((LW w).length : Int) := hT.2.2.1
  have hL : LiS I (13 + 3) (LW w) := hT.2.2.2
  intro f
  induction f with
  | zero =>
    intro x6 x7 h7 hf hr
    rw [drop_end (show (LW w).length ≤ x7.toInt.toNat by omega)] at hr
    exact rX3_cheapest_64 ht hu1 hu2 ⟨fun _ => hK x6 hr, fun h => absurd (Int32.le_iff_toInt_le.mpr (by omega)) h⟩
  | succ f ih =>
    intro x6 x7 h7 hf hr
    have q1 : (1 : Int32).toInt = 1 := rfl
    have e7 := i32_add x7 1 (by omega) (by omega)
    have n7 := tn_eq x7
    have en : x7.toInt.toNat + 1 = (x7 + 1).toInt.toNat := by omega
    have hx4 : 0 ≤ x4.toInt := by rw [h4]; exact lb.2.2.2.1
    have gk : (LW w)[x7.toInt.toNat]? = some (I (13 + 3) x7.toInt.toNat) := hL _ (by omega)
    have gL : I (13 + 3) x7.toInt.toNat ∈ LW w := List.mem_iff_getElem?.mpr ⟨_, gk⟩
    rw [LiS_drop hL (k := x7.toInt.toNat) (by omega), en] at hr
    have hr : mnl (fun g => sbs g (lbm x3) && sbs x3 g) (fun g => tabW w 16 (dl x3 g) + (16 * wtW w g - 1)) ((LW w).drop (x7 + 1).toInt.toNat) (if (sbs (I (13 + 3) x7.toInt.toNat) (lbm x3) && sbs x3 (I (13 + 3) x7.toInt.toNat)) = true ∧ tabW w 16 (dl x3 (I (13 + 3) x7.toInt.toNat)) + (16 * wtW w (I (13 + 3) x7.toInt.toNat) - 1) < x6.toInt then tabW w 16 (dl x3 (I (13 + 3) x7.toInt.toNat)) + (16 * wtW w (I (13 + 3) x7.toInt.toNat) - 1) else x6.toInt) = R := hr
    have skip : ¬ (sbs (I (13 + 3) x7.toInt.toNat) (lbm x3) && sbs x3 (I (13 + 3) x7.toInt.toNat)) = true → Jd G mX3_cheapest (jdFm G (qi Z K)) (n + 1) rc rs 64 [(0, .ref (gb G + 20)), (1, .ref (gb G + 1)), (2, .ref (gb G + 13)), (3, .int x3), (4, .int x4), (5, .int x5), (6, .int x6), (7, .int (x7 + 1))] [] Z I J := fun z => by
      rw [if_neg (fun q => z q.1)] at hr
      exact ih x6 (x7 + 1) (by omega) (by omega) hr
    refine rX3_cheapest_64 ht hu1 hu2 ⟨fun h => by have := Int32.le_iff_toInt_le.mp h; omega, fun _ => ⟨vp_of (by omega) (by omega), fun hv => ?_, fun hv => ⟨fun hw => ?_, fun hw => ?_⟩⟩⟩
    · rw [n7] at hv
      refine skip (fun z => ?_)
      have z1 := (lb_g gd h0 _).mp (Bool.and_eq_true_iff.mp z).1
      rw [← h4] at z1
      exact (bt_iff _ hx4).mp z1 hv
    · rw [n7] at hw
      exact skip (fun z => hw (sbs_x.mpr (Bool.and_eq_true_iff.mp z).2))
    · rw [n7] at hv hw ⊢
      have s1 : sbs (I (13 + 3) x7.toInt.toNat) (lbm x3) = true := (lb_g gd h0 _).mpr (by rw [← h4]; exact (bt_iff _ hx4).mpr hv)
      have s2 := sbs_x.mp hw
      have lt := dll_t gd s2 (LW_c1 hb hsy _ gL)
      have gd2 : Gd (dl x3 (I (13 + 3) x7.toInt.toNat)) := Gd_dl gd
      have gdr := gd.2
      rw [xor_dl s2]
      have nd := tn_eq (dl x3 (I (13 + 3) x7.toInt.toNat))
      refine ⟨vp_of gd2.1 (by have := gd2.2; omega), vp_of (by omega) (by omega), ?_⟩
      have tv := htab (dl x3 (I (13 + 3) x7.toInt.toNat)).toInt.toNat (by have := gd2.1; omega)
      rw [← i32_ofNat gd2.1] at tv
      rw [nd, LiS_map hp (by omega) gk]
      have tb9 := tab_b hb hsy hH (ev_dl (g := I (13 + 3) x7.toInt.toNat) hs)
      have wb := wt_b (g := I (13 + 3) x7.toInt.toNat) hb.1 hH
      have pv := pr_i (g := I (13 + 3) x7.toInt.toNat) hb.1 hH
      have sv := i32_add (I (20 + 3) (dl x3 (I (13 + 3) x7.toInt.toNat)).toInt.toNat) (prW w (I (13 + 3) x7.toInt.toNat)) (by omega) (by omega)
      rw [tv, pv] at sv
      refine ih _ (x7 + 1) (by omega) (by omega) ?_
      by_cases c : I (20 + 3) (dl x3 (I (13 + 3) x7.toInt.toNat)).toInt.toNat + prW w (I (13 + 3) x7.toInt.toNat) < x6
      · have c9 := Int32.lt_iff_toInt_lt.mp c
        rw [sv] at c9
        rw [if_pos ⟨by rw [s1, s2]; rfl, c9⟩] at hr
        rw [if_pos c, sv]
        exact hr
      · have c9 := mt Int32.lt_iff_toInt_lt.mpr c
        rw [sv] at c9
        rw [if_neg (fun z => c9 z.2)] at hr
        rw [if_neg c]
        exact hr
theorem sumP_1 {f : Nat → Int} {v : Nat} {s : Int32} (h : ∀ i, i < 32 → bt s i = decide (i = v)) : ∀ k, k ≤ 32 → sumP f s k = if v < k then f v else 0
  | 0, _ => (if_neg (Nat.not_lt_zero _)).symm
  | k + 1, hk => by
    show sumP f s k + (if bt s k = true then f k else 0) = _
    rw [sumP_1 h k (by omega), h k (by omega)]
    by_cases c : k = v
    · rw [decide_eq_true c, if_pos rfl, if_neg (by omega), if_pos (by omega), c]
      omega
    · rw [decide_eq_false c, if_neg (show ¬ false = true by decide)]
      by_cases d : v < k
      · rw [if_pos d, if_pos (by omega)]
        omega
      · rw [if_neg d, if_neg (by omega)]
        omega
theorem pX3_cheapest {G : jdG} {n : Nat} {Z : jdL} {J : jdJ} {K : Int32 → jdI → jdJ → Prop} {I : jdI} {w : Tw} {x3 : Int32} (ht : zDay Z 20) (hu1 : zTown Z 1) (hu2 : zTies Z 13) (hw : RX I 1 w) (hb : (0 ≤ w.1 ∧ w.1 ≤ 7) ∧ 2 ≤ w.2.2.2.1 ∧ w.2.2.2.1 ≤ 4) (hsy : SYM w) (hH : HC w) (hT : TL I w) (hs : sbs (evW w) x3 = true) (h0 : ¬ x3 = 0) (hp : LiS I (20 + 4) ((LW w).map (prW w))) (htab : ∀ k : Nat, (k : Int) < x3.toInt → (I (20 + 3) k).toInt = tabW w 16 (Int32.ofNat k)) (hK : ∀ v : Int32, v.toInt = tabW w 16 x3 → K v I J) : Cl G mX3_cheapest (n + 1) 0 0 [.ref (gb G + 20), .ref (gb G + 1), .ref (gb G + 13), .int x3] Z I J (qi Z K) := by
  have gd := sub_Gd hb.1 hs
  have gdr := gd.2
  have lb := lb_s (Gd_p gd h0)
  have l2 := lb_cd gd h0
  refine eX3_cheapest ht hu1 hu2 ?_
  refine pJ6_bitCount lb.2.1 ?_
  have r := lb.2.2.2
  have nv := tn_eq (bs (lbm x3 - 1) 8)
  have bv : bt x3 (bs (lbm x3 - 1) 8).toInt.toNat = true := (lb_g gd h0 x3).mp (by
    exact lb.1)
  have ev := sbs_bt.mp hs _ (by omega) bv
  have vN : (bs (lbm x3 - 1) 8).toInt < w.1 := by
    have q : (Int32.ofInt w.1).toInt = w.1 := Int32.toInt_ofInt_of_le (by omega) (by omega)
    unfold evW at ev
    rw [bt_ev (by omega) (by omega), q] at ev
    have := of_decide_eq_true ev
    omega
  have h3 := hw.1
  rw [show bs ((x3 &&& (-x3)) - 1) 8 = bs (lbm x3 - 1) 8 from rfl]
  refine ⟨fun _ => ?_, fun h => absurd (Int32.lt_iff_toInt_lt.mpr (by omega)) h⟩
  obtain ⟨a1, a2⟩ := hw.2.1 (bs (lbm x3 - 1) 8).toInt.toNat (by omega)
  have xo : x3 ^^^ ((1 : Int32) <<< (bs (lbm x3 - 1) 8 &&& 31)) = dl x3 (lbm x3) := by rw [← lb.2.2.1]; exact xor_dl lb.1
  rw [xo, nv, a1, a2]
  have gd2 : Gd (dl x3 (lbm x3)) := Gd_dl gd
  have lt := dll_t gd lb.1 l2
  have nd := tn_eq (dl x3 (lbm x3))
  refine ⟨vp_of (by omega) (by omega), vp_of (by omega) (by omega), vp_of gd2.1 (by have := gd2.2; omega), ?_⟩
  have tv := htab (dl x3 (lbm x3)).toInt.toNat (by have := gd2.1; omega)
  rw [← i32_ofNat gd2.1] at tv
  have tb9 := tab_b hb hsy hH (ev_dl (g := lbm x3) hs)
  have hh := hH (bs (lbm x3 - 1) 8).toInt.toNat (by omega)
  have q16 : (16 : Int32).toInt = 16 := rfl
  have q24 : (24 : Int32).toInt = 24 := rfl
  have e1 : ((16 : Int32) * w.2.2.1 (bs (lbm x3 - 1) 8).toInt.toNat).toInt = 16 * (w.2.2.1 (bs (lbm x3 - 1) 8).toInt.toNat).toInt := by
    have m0 := i32_mul 16 (w.2.2.1 (bs (lbm x3 - 1) 8).toInt.toNat) (by rw [q16]; omega) (by rw [q16]; omega)
    rw [q16] at m0
    exact m0
  have e2 := i32_sub 24 (w.2.1 (bs (lbm x3 - 1) 8).toInt.toNat) (by omega) (by omega)
  rw [q24] at e2
  have mb := mulb (c := (w.2.2.1 (bs (lbm x3 - 1) 8).toInt.toNat).toInt) (d := 24 - (w.2.1 (bs (lbm x3 - 1) 8).toInt.toNat).toInt) hh.2 ⟨by omega, by omega⟩
  have e3 : (((16 : Int32) * w.2.2.1 (bs (lbm x3 - 1) 8).toInt.toNat) * (24 - w.2.1 (bs (lbm x3 - 1) 8).toInt.toNat)).toInt = 16 * stW w (lbm x3) := by
    have sv : stW w (lbm x3) = coI w (bs (lbm x3 - 1) 8).toInt.toNat * (24 - hrI w (bs (lbm x3 - 1) 8).toInt.toNat) := by
      have q := sumP_1 (f := fun p => coI w p * (24 - hrI w p)) (v := (bs (lbm x3 - 1) 8).toInt.toNat) (s := lbm x3) (fun i hi => lb_bt gd h0 hi) w.1.toNat (by omega)
      rw [if_pos (by omega)] at q
      exact q
    have sv : stW w (lbm x3) = (w.2.2.1 (bs (lbm x3 - 1) 8).toInt.toNat).toInt * (24 - (w.2.1 (bs (lbm x3 - 1) 8).toInt.toNat).toInt) := sv
    rw [i32_mul _ _ (by rw [e1, e2, Int.mul_assoc]; omega) (by rw [e1, e2, Int.mul_assoc]; omega), e1, e2, Int.mul_assoc, sv]
  have sb := st_b (s := lbm x3) hb.1 hH
  have e4 := i32_add (I (20 + 3) (dl x3 (lbm x3)).toInt.toNat) (((16 : Int32) * w.2.2.1 (bs (lbm x3 - 1) 8).toInt.toNat) * (24 - w.2.1 (bs (lbm x3 - 1) 8).toInt.toNat)) (by omega) (by omega)
  rw [nd]
  refine pX3_cheapest_64 (R := tabW w 16 x3) ht hu1 hu2 hb hsy hH hT hs h0 rfl hp htab hK (LW w).length _ 0 (by decide) (by show (0 : Int) + _ = _; omega) ?_
  rw [e4, e3, tv]
  exact (tabW_s hb hsy gd h0).symm
theorem ev_val {w : Tw} (hb : 0 ≤ w.1 ∧ w.1 ≤ 7) : (evW w).toInt = 2 ^ w.1.toNat - 1 := by
  have q : (Int32.ofInt w.1).toInt = w.1 := Int32.toInt_ofInt_of_le (by omega) (by omega)
  have e := (ev_of (x := Int32.ofInt w.1) (by omega) (by omega)).2
  rw [q] at e
  exact e
theorem ev_sub {w : Tw} (hb : 0 ≤ w.1 ∧ w.1 ≤ 7) {x : Int32} (h0 : 0 ≤ x.toInt) (h1 : x.toInt ≤ (evW w).toInt) : sbs (evW w) x = true := by
  have v := ev_val hb
  have q : (Int32.ofInt w.1).toInt = w.1 := Int32.toInt_ofInt_of_le (by omega) (by omega)
  have g := ev_Gd hb
  have gx : Gd x := ⟨h0, by have := g.2; omega⟩
  refine sbs_bt.mpr (fun i hi hx => ?_)
  by_cases c : i < 8
  · unfold evW
    rw [bt_ev (by omega) c, q]
    refine decide_eq_true (Nat.lt_of_not_le (fun z => ?_))
    rw [bt_hi2 h0 (by omega) z hi] at hx
    cases hx
  · rw [Gd_bt gx i (by omega) hi] at hx
    cases hx
theorem pX3_findLeast_46 {G : jdG} {n rc rs : Nat} {Z : jdL} {J : jdJ} {K : jdI → jdJ → Prop} {I0 : jdI} {w : Tw} (ht : zDay Z 20) (hu1 : zTown Z 1) (hu2 : zTies Z 13) (hb : (0 ≤ w.1 ∧ w.1 ≤ 7) ∧ 2 ≤ w.2.2.2.1 ∧ w.2.2.2.1 ≤ 4) (hsy : SYM w) (hH : HC w) (hw0 : RX I0 1 w) (hT0 : TL I0 w) (hK : ∀ I2 : jdI, WX I2 → Fr (fun a k => 20 ≤ a ∧ a ≤ 24) I0 I2 → (I2 20 6).toInt = tabW w 16 (evW w) → K I2 J) : ∀ f : Nat, ∀ (I : jdI) (x3 : Int32), WX I → Fr (fun a k => 23 ≤ a ∧ a ≤ 24) I0 I → LiS I (20 + 4) ((LW w).map (prW w)) → (∀ k : Nat, (k : Int) < x3.toInt → (I (20 + 3) k).toInt = tabW w 16 (Int32.ofNat k)) → 1 ≤ x3.toInt → x3.toInt + (f : Int) = (evW w).toInt + 1 → Jd G mX3_findLeast (jdFm G (qv Z K)) (n + 2) rc rs 46 [(0, .ref (gb G + 20)), (1, .ref (gb G + 1)), (2, .ref (gb G + 13)), (3, .int x3)] [] Z I J := by
  have ge := ev_Gd hb.1
  have ge2 := ge.2
  intro f
  induction f with
  | zero =>
    intro I x3 hW hF hp ht3 h3 hf
    have hw : RX I 1 w := RX_fr hw0 hF (by intro a k h1 h2; omega)
    refine rX3_findLeast_46 ht hu1 hu2 (eX9_everybody hu1 ?_)
    rw [evX hw]
    refine ⟨fun _ => eX9_everybody hu1 ?_, fun h => absurd (Int32.lt_iff_toInt_lt.mpr (by omega)) h⟩
    rw [evX hw]
    have nv := tn_eq (evW w)
    refine ⟨vp_of ge.1 (by omega), ?_⟩
    have w1 := WX_uI (id := 20) (k := 6) (v := I (20 + 3) (Int32.toNatClampNeg (evW w))) hW (by first | exact okXo (by decide) | (unfold okX; refine ⟨?_, ?_, ?_, ?_, ?_, ?_, ?_, ?_, ?_, ?_⟩ <;> intro h <;> omega))
    refine hK _ w1 (Fr_uI (Fr.tr Fr.rf hF (by intro a k h; omega)) (by omega)) ?_
    rw [uI_ap, if_pos ⟨rfl, rfl⟩, nv, ht3 (evW w).toInt.toNat (by have := ge.1; omega), ← i32_ofNat ge.1]
  | succ f ih =>
    intro I x3 hW hF hp ht3 h3 hf
    have hw : RX I 1 w := RX_fr hw0 hF (by intro a k h1 h2; omega)
    have hT : TL I w := TL_fr hT0 hF (by intro a k h; omega)
    have q1 : (1 : Int32).toInt = 1 := rfl
    have q0 : (0 : Int32).toInt = 0 := rfl
    have e3 := i32_add x3 1 (by omega) (by omega)
    have n3 := tn_eq x3
    refine rX3_findLeast_46 ht hu1 hu2 (eX9_everybody hu1 ?_)
    rw [evX hw]
    refine ⟨fun h => by have := Int32.lt_iff_toInt_lt.mp h; omega, fun _ => ?_⟩
    refine pX3_cheapest ht hu1 hu2 hw hb hsy hH hT (ev_sub hb.1 (by omega) (by omega)) (fun z => by rw [z, q0] at h3; omega) hp ht3 (fun v7 hv7 => ⟨vp_of (by omega) (by omega), ?_⟩)
    have w1 := WX_uI (id := 20 + 3) (k := Int32.toNatClampNeg x3) (v := v7) hW (by first | exact okXo (by decide) | (unfold okX; refine ⟨?_, ?_, ?_, ?_, ?_, ?_, ?_, ?_, ?_, ?_⟩ <;> intro h <;> omega))
    have f1 : Fr (fun a k => a = 23) I (uI I (20 + 3) (Int32.toNatClampNeg x3) v7) := Fr_uI Fr.rf rfl
    refine ih _ (x3 + 1) w1 (Fr.tr hF f1 (by intro a k h; omega)) (LiS_fr hp f1 (fun k => by omega)) (fun k hk => ?_) (by omega) (by omega)
    rw [uI_ap]
    by_cases c : k = Int32.toNatClampNeg x3
    · rw [if_pos ⟨rfl, c⟩, hv7, c, n3, ← i32_ofNat (show 0 ≤ x3.toInt by omega)]
    · rw [if_neg (fun z => c z.2)]
      exact ht3 k (by omega)
theorem pX3_findLeast_2 {G : jdG} {n rc rs : Nat} {Z : jdL} {J : jdJ} {K : jdI → jdJ → Prop} {I0 : jdI} {w : Tw} (ht : zDay Z 20) (hu1 : zTown Z 1) (hu2 : zTies Z 13) (hb : (0 ≤ w.1 ∧ w.1 ≤ 7) ∧ 2 ≤ w.2.2.2.1 ∧ w.2.2.2.1 ≤ 4) (hsy : SYM w) (hH : HC w) (hw0 : RX I0 1 w) (hT0 : TL I0 w) (hK : ∀ I2 : jdI, WX I2 → Fr (fun a k => 20 ≤ a ∧ a ≤ 24) I0 I2 → (I2 20 6).toInt = tabW w 16 (evW w) → K I2 J) : ∀ f : Nat, ∀ (I : jdI) (x3 : Int32) (D : List Int32), WX I → Fr (fun a k => a = 24) I0 I → LiS I (20 + 4) D → x3.toInt = (D.length : Int) → x3.toInt + (f : Int) = ((LW w).length : Int) → D ++ ((LW w).drop x3.toInt.toNat).map (prW w) = (LW w).map (prW w) → Jd G mX3_findLeast (jdFm G (qv Z K)) (n + 2) rc rs 2 [(0, .ref (gb G + 20)), (1, .ref (gb G + 1)), (2, .ref (gb G + 13)), (3, .int x3)] [] Z I J := by
  have l70 := LW_70 hb
  have ge := ev_Gd hb.1
  intro f
  induction f with
  | zero =>
    intro I x3 D hW hF hD h3 hf hr
    have hT : TL I w := TL_fr hT0 hF (by intro a k h; omega)
    have h8 : (I 13 8).toInt = ((LW w).length : Int) := hT.2.2.1
    rw [drop_end (show (LW w).length ≤ x3.toInt.toNat by omega), List.map_nil, List.append_nil] at hr
    rw [hr] at hD
    refine rX3_findLeast_2 ht hu1 hu2 ⟨fun _ => ?_, fun h => absurd (Int32.le_iff_toInt_le.mpr (by omega)) h⟩
    have w1 := WX_uI (id := 20 + 3) (k := 0) (v := 0) hW (by first | exact okXo (by decide) | (unfold okX; refine ⟨?_, ?_, ?_, ?_, ?_, ?_, ?_, ?_, ?_, ?_⟩ <;> intro h <;> omega))
    have f1 : Fr (fun a k => a = 23) I (uI I (20 + 3) 0 0) := Fr_uI Fr.rf rfl
    have q1 : (1 : Int32).toInt = 1 := rfl
    refine pX3_findLeast_46 ht hu1 hu2 hb hsy hH hw0 hT0 hK (evW w).toInt.toNat _ 1 w1 (Fr.tr (Fr.tr Fr.rf hF (by intro a k h; omega)) f1 (by intro a k h; omega)) (LiS_fr hD f1 (fun k => by omega)) (fun k hk => ?_) (by decide) (by have := ge.1; omega)
    have k0 : k = 0 := by omega
    rw [k0, uI_ap, if_pos ⟨rfl, rfl⟩]
    show (0 : Int32).toInt = tabW w 16 0
    rw [tabW_0]
    rfl
  | succ f ih =>
    intro I x3 D hW hF hD h3 hf hr
    have hT : TL I w := TL_fr hT0 hF (by intro a k h; omega)
    have hw : RX I 1 w := RX_fr hw0 hF (by intro a k h1 h2; omega)
    have h8 : (I 13 8).toInt = ((LW w).length : Int) := hT.2.2.1
    have hL : LiS I (13 + 3) (LW w) := hT.2.2.2
    have q1 : (1 : Int32).toInt = 1 := rfl
    have q16 : (16 : Int32).toInt = 16 := rfl
    have e3 := i32_add x3 1 (by omega) (by omega)
    have n3 := tn_eq x3
    have en : x3.toInt.toNat + 1 = (x3 + 1).toInt.toNat := by omega
    have ed : Int32.toNatClampNeg x3 = D.length := by omega
    rw [LiS_drop hL (k := x3.toInt.toNat) (by omega), en, List.map_cons] at hr
    refine rX3_findLeast_2 ht hu1 hu2 ⟨fun h => by have := Int32.le_iff_toInt_le.mp h; omega, fun _ => ⟨vp_of (by omega) (by omega), ?_⟩⟩
    refine pX3_waitingTogether hu1 hw hb.1 hH (fun v3 hv3 => ⟨vp_of (by omega) (by omega), ?_⟩)
    rw [n3] at hv3
    rw [ed]
    have wb := wt_b (g := I (13 + 3) x3.toInt.toNat) hb.1 hH
    have m : ((16 : Int32) * v3).toInt = 16 * v3.toInt := by
      have m0 := i32_mul 16 v3 (by rw [q16]; omega) (by rw [q16]; omega)
      rw [q16] at m0
      exact m0
    have m2 := i32_sub ((16 : Int32) * v3) 1 (by omega) (by omega)
    have pv : ((16 : Int32) * v3) - 1 = prW w (I (13 + 3) x3.toInt.toNat) := Int32.toInt_inj.mp (by rw [m2, m, hv3, pr_i hb.1 hH]; rfl)
    rw [pv]
    have w1 := WX_uI (id := 20 + 4) (k := D.length) (v := prW w (I (13 + 3) x3.toInt.toNat)) hW (by first | exact okXo (by decide) | (unfold okX; refine ⟨?_, ?_, ?_, ?_, ?_, ?_, ?_, ?_, ?_, ?_⟩ <;> intro h <;> omega))
    have f1 : Fr (fun a k => a = 24) I (uI I (20 + 4) D.length (prW w (I (13 + 3) x3.toInt.toNat))) := Fr_uI Fr.rf rfl
    exact ih _ (x3 + 1) (D ++ [prW w (I (13 + 3) x3.toInt.toNat)]) w1 (Fr.tr hF f1 (by intro a k h; omega)) (LiS_push hD rfl) (by rw [List.length_append, List.length_singleton]; omega) (by omega) (by rw [List.append_assoc]; exact hr)
theorem pX3_findLeast {G : jdG} {n : Nat} {Z : jdL} {J : jdJ} {K : jdI → jdJ → Prop} {I : jdI} {w : Tw} (ht : zDay Z 20) (hu1 : zTown Z 1) (hu2 : zTies Z 13) (hW : WX I) (hb : (0 ≤ w.1 ∧ w.1 ≤ 7) ∧ 2 ≤ w.2.2.2.1 ∧ w.2.2.2.1 ≤ 4) (hsy : SYM w) (hH : HC w) (hw : RX I 1 w) (hT : TL I w) (hK : ∀ I2 : jdI, WX I2 → Fr (fun a k => 20 ≤ a ∧ a ≤ 24) I I2 → (I2 20 6).toInt = tabW w 16 (evW w) → K I2 J) : Cl G mX3_findLeast (n + 2) 0 0 [.ref (gb G + 20), .ref (gb G + 1), .ref (gb G + 13)] Z I J (qv Z K) :=
  eX3_findLeast ht hu1 hu2 (pX3_findLeast_2 ht hu1 hu2 hb hsy hH hw hT hK (LW w).length I 0 [] hW Fr.rf (LiS_nil _ _) rfl (by show (0 : Int) + _ = _; omega) rfl)
theorem i32_divp (a b : Int32) (ha : 0 ≤ a.toInt) (hb : 0 < b.toInt) : (a / b).toInt = a.toInt / b.toInt := by
  have qm : (-1 : Int32).toInt = -1 := rfl
  rw [Int32.toInt_div_of_ne_right a b (fun e => by rw [e, qm] at hb; omega), Int.tdiv_eq_ediv_of_nonneg ha]
def oLeast (w : Tw) (x : Int32) : Int := if x.toInt = 0 then (tabW w 16 (evW w) + 15) / 16 else if x.toInt = 1 then (tabW w 16 (evW w) + 15) / 16 * 16 - tabW w 16 (evW w) else -2
theorem lw_v {I : jdI} {T : Int} (h : (I 20 6).toInt = T) (hT : -8 ≤ T ∧ T ≤ 24192) : ((((I 20 6) + 16) - 1) / 16).toInt = (T + 15) / 16 := by
  have q16 : (16 : Int32).toInt = 16 := rfl
  have q1 : (1 : Int32).toInt = 1 := rfl
  have e1 := i32_add (I 20 6) 16 (by omega) (by omega)
  have e2 := i32_sub ((I 20 6) + 16) 1 (by omega) (by omega)
  rw [i32_divp _ _ (by omega) (by omega), e2, e1, q16, q1, h]
  omega
theorem pX11_least {G : jdG} {n : Nat} {Z : jdL} {J : jdJ} {K : Int32 → jdI → jdJ → Prop} {I : jdI} {s : Sd} {x1 : Int32} (hX : zX Z) (hW : WX I) (hs : TX I 1 s) (hk : OKT s.1) (hK : ∀ (v : Int32) (I2 : jdI), WX I2 → Fr (fun a k => (13 ≤ a ∧ a ≤ 24) ∨ a = 28) I I2 → v.toInt = oLeast s.1 x1 → K v I2 J) : Cl G mX11_least (n + 8) 0 0 [.ref (gb G + 0), .int x1] Z I J (qi Z K) := by
  have hb := RX_b hW hs.1
  have hsy := OKT_sy hk
  have q0 : (0 : Int32).toInt = 0 := rfl
  have q1 : (1 : Int32).toInt = 1 := rfl
  have q16 : (16 : Int32).toInt = 16 := rfl
  have hev : sbs (evW s.1) (evW s.1) = true := sbs_bt.mpr (fun i _ h => h)
  have tb9 := tab_b hb hsy hk.1 hev
  refine eX11_least hX ⟨fun h0 => ?_, fun h0 => ⟨fun h1 => ?_, fun h1 => ?_⟩⟩
  · refine pX8_load (zX_o3 hX) (zX_o0 hX) (Or.inl rfl) hW hs.1 hsy (fun I1 hW1 hF1 hT1 _ => ?_)
    refine pX3_findLeast (zX_o4 hX) (zX_o0 hX) (zX_o3 hX) hW1 hb hsy hk.1 (RX_fr hs.1 hF1 (by intro a k h1 h2; omega)) hT1 (fun I3 hW3 hF3 h6 => ⟨fun z => absurd h0 z, fun _ => eX3_leastWaiting (zX_o4 hX) (hK _ I3 hW3 (Fr.tr (Fr.tr Fr.rf hF1 (by intro a k h; omega)) hF3 (by intro a k h; omega)) ?_)⟩)
    unfold oLeast
    rw [if_pos (by rw [h0]; rfl)]
    exact lw_v h6 tb9
  · have n0 : ¬ x1.toInt = 0 := fun z => h0 (Int32.toInt_inj.mp (z.trans q0.symm))
    refine pX8_load (zX_o3 hX) (zX_o0 hX) (Or.inl rfl) hW hs.1 hsy (fun I1 hW1 hF1 hT1 _ => ?_)
    refine pX3_findLeast (zX_o4 hX) (zX_o0 hX) (zX_o3 hX) hW1 hb hsy hk.1 (RX_fr hs.1 hF1 (by intro a k h1 h2; omega)) hT1 (fun I3 hW3 hF3 h6 => ⟨fun _ => eX3_leastCoaches (zX_o4 hX) (eX3_leastWaiting (zX_o4 hX) (hK _ I3 hW3 (Fr.tr (Fr.tr Fr.rf hF1 (by intro a k h; omega)) hF3 (by intro a k h; omega)) ?_)), fun z => absurd z h0⟩)
    unfold oLeast
    rw [if_neg n0, if_pos (by rw [h1]; rfl)]
    have v := lw_v h6 tb9
    have m := i32_mulc ((((I3 20 6) + 16) - 1) / 16) 16 16 rfl (by omega) (by omega)
    have m2 := i32_sub (((((I3 20 6) + 16) - 1) / 16) * 16) (I3 20 6) (by omega) (by omega)
    rw [m2, m, v, h6]
  · have n0 : ¬ x1.toInt = 0 := fun z => h0 (Int32.toInt_inj.mp (z.trans q0.symm))
    have n1 : ¬ x1.toInt = 1 := fun z => h1 (Int32.toInt_inj.mp (z.trans q1.symm))
    exact rfX hX hW (by unfold oLeast; rw [if_neg n0, if_neg n1]; rfl) (by intro a k h; omega) hK
/-! the least waiting, as the model finds it -/
theorem mnl_no {p : Int32 → Bool} {h : Int32 → Int} : ∀ (L : List Int32) (b : Int), (∀ g ∈ L, ¬ p g = true) → mnl p h L b = b
  | [], _, _ => rfl
  | g :: L, b, e => by
    show mnl p h L (if p g = true ∧ h g < b then h g else b) = b
    rw [if_neg (fun z => e g List.mem_cons_self z.1)]
    exact mnl_no L b (fun x hx => e x (List.mem_cons_of_mem _ hx))
theorem lfI_f {L : List Int32} {wn : Int → Int32 → Int} {adv : Int32 → Int} {now : Int} (hG : ∀ g ∈ L, 1 ≤ cd g) : ∀ (f f2 : Nat) (y : Int32), cd y ≤ f → cd y ≤ f2 → lfI L wn adv now f y = lfI L wn adv now f2 y := by
  have z : ∀ f y, cd y = 0 → lfI L wn adv now f y = adv y := fun f y hc => by
    cases f with
    | zero => rfl
    | succ f =>
      refine mnl_no L (adv y) (fun g hg q => ?_)
      obtain ⟨p, hp, hb⟩ := cdN_one 8 (hG g hg)
      have := sbs_bt.mp q p (by omega) hb
      rw [cdN_0 8 hc p hp] at this
      cases this
  intro f
  induction f with
  | zero =>
    intro f2 y h1 h2
    rw [z f2 y (Nat.le_zero.mp h1)]
    rfl
  | succ f ih =>
    intro f2 y h1 h2
    by_cases c : cd y = 0
    · rw [z _ y c, z _ y c]
    · cases f2 with
      | zero => omega
      | succ f2 =>
        refine mnl_c L (adv y) (fun g hg pg => ?_)
        have cg := cdd_l pg
        have g1 := hG g hg
        show 10 * wn now g - 1 + lfI L wn adv now f (dl y g) = 10 * wn now g - 1 + lfI L wn adv now f2 (dl y g)
        rw [ih f2 (dl y g) (by omega) (by omega)]
def cmW (w : Tw) : List Nat := coA w.2.1 w.1.toNat 24 0
def nwW (w : Tw) (m : Nat) : Int := if m = 0 then 0 else hrI w ((cmW w).getD (m - 1) 0)
def vM (w : Tw) (m : Nat) (y : Int32) : Int := lfO (LW w) (wnW w) (stW w) (hrI w) ((cmW w).drop m) (nwW w m) y
def avM (w : Tw) (m : Nat) (y : Int32) : Int := if m = w.1.toNat then 10 * stW w y + 9 else vM w (m + 1) (y ||| bitN ((cmW w).getD m 0))
theorem cm_len {w : Tw} (hH : HC w) : (cmW w).length = w.1.toNat := coA_len w.2.1 w.1.toNat (fun p hp => (hH p (by omega)).1)
theorem cm_drop {w : Tw} (hH : HC w) {m : Nat} (h : m < w.1.toNat) : (cmW w).drop m = (cmW w).getD m 0 :: (cmW w).drop (m + 1) := by
  have hl : m < (cmW w).length := by rw [cm_len hH]; exact h
  rw [List.drop_eq_getElem_cons hl, List.getD_eq_getElem?_getD, List.getElem?_eq_getElem hl]
  rfl
theorem vM_rec {w : Tw} (hb : (0 ≤ w.1 ∧ w.1 ≤ 7) ∧ 2 ≤ w.2.2.2.1 ∧ w.2.2.2.1 ≤ 4) (hsy : SYM w) (hH : HC w) {m : Nat} (hm : m ≤ w.1.toNat) (y : Int32) : vM w m y = mnl (sbs y) (fun g => 10 * wnW w (nwW w m) g - 1 + vM w m (dl y g)) (LW w) (avM w m y) := by
  have hG := LW_c1 hb hsy
  unfold vM avM
  by_cases c : m = w.1.toNat
  · rw [if_pos c, List.drop_eq_nil_of_le (by rw [cm_len hH]; omega)]
    refine mnl_c (LW w) _ (fun g hg pg => ?_)
    have cg := cdd_l pg
    have g1 := hG g hg
    have c8 := cd_8n y
    show 10 * wnW w (nwW w m) g - 1 + lfI (LW w) (wnW w) (fun y => 10 * stW w y + 9) (nwW w m) 7 (dl y g) = 10 * wnW w (nwW w m) g - 1 + lfI (LW w) (wnW w) (fun y => 10 * stW w y + 9) (nwW w m) 8 (dl y g)
    rw [lfI_f hG 7 8 (dl y g) (by omega) (by omega)]
  · rw [if_neg c, cm_drop hH (by omega)]
    have en : nwW w (m + 1) = hrI w ((cmW w).getD m 0) := if_neg (by omega)
    unfold vM
    rw [en]
    refine mnl_c (LW w) _ (fun g hg pg => ?_)
    have cg := cdd_l pg
    have g1 := hG g hg
    have c8 := cd_8n y
    show 10 * wnW w (nwW w m) g - 1 + lfI (LW w) (wnW w) (fun z => lfO (LW w) (wnW w) (stW w) (hrI w) ((cmW w).drop (m + 1)) (hrI w ((cmW w).getD m 0)) (z ||| bitN ((cmW w).getD m 0))) (nwW w m) 7 (dl y g) = 10 * wnW w (nwW w m) g - 1 + lfI (LW w) (wnW w) (fun z => lfO (LW w) (wnW w) (stW w) (hrI w) ((cmW w).drop (m + 1)) (hrI w ((cmW w).getD m 0)) (z ||| bitN ((cmW w).getD m 0))) (nwW w m) 8 (dl y g)
    rw [lfI_f hG 7 8 (dl y g) (by omega) (by omega)]
theorem Come_mono {hr : Nat → Int} : ∀ (R : List Nat) (now now2 : Int), now2 ≤ now → ComeOk hr R now → ComeOk hr R now2
  | [], _, _, _, _ => trivial
  | c :: R, now, now2, h, ⟨h1, h2⟩ => ⟨Int.le_trans h h1, h2⟩
theorem Come_app {hr : Nat → Int} {h : Int} {B : List Nat} : ∀ (A : List Nat) (now : Int), (∀ a ∈ A, hr a = h ∧ a < 8) → (A ++ B).Nodup → now ≤ h → ComeOk hr B h → ComeOk hr (A ++ B) now
  | [], now, _, _, hn, hB => Come_mono B h now hn hB
  | a :: A, now, hA, hd, hn, hB => by
    obtain ⟨n1, n2⟩ := List.nodup_cons.mp hd
    obtain ⟨a1, a2⟩ := hA a List.mem_cons_self
    refine ⟨by omega, a2, n1, ?_⟩
    rw [a1]
    exact Come_app A h (fun x hx => hA x (List.mem_cons_of_mem _ hx)) n2 (Int.le_refl _) hB
theorem coA_ok (hr : Nat → Int32) (n : Nat) (hn : n ≤ 8) : ∀ (k h : Nat) (now : Int), h + k ≤ 24 → now ≤ (h : Int) → ComeOk (fun p => (hr p).toInt) (coA hr n k h) now
  | 0, _, _, _, _ => trivial
  | k + 1, h, now, hk, hnow => by
    have nd := coA_nd hr n (k + 1) h (by omega)
    refine Come_app (h := (h : Int)) (cof hr (Int32.ofNat h) n 0) now (fun a ha => ⟨?_, ?_⟩) nd hnow (coA_ok hr n hn k (h + 1) (h : Int) (by omega) (by omega))
    · show (hr a).toInt = (h : Int)
      rw [(cof_lo hr _ n 0 a ha).2, ofN_i (by omega)]
    · have := coA_mem hr n (k + 1) h a (List.mem_append.mpr (Or.inl ha))
      omega
theorem cm_ok {w : Tw} (hb : 0 ≤ w.1 ∧ w.1 ≤ 7) : ComeOk (hrI w) (cmW w) 0 := coA_ok w.2.1 w.1.toNat (by omega) 24 0 0 (by decide) (by decide)
theorem Come_drop {w : Tw} (hb : 0 ≤ w.1 ∧ w.1 ≤ 7) (hH : HC w) : ∀ m, m ≤ w.1.toNat → ComeOk (hrI w) ((cmW w).drop m) (nwW w m)
  | 0, _ => cm_ok hb
  | m + 1, hm => by
    have ih := Come_drop hb hH m (by omega)
    rw [cm_drop hH (by omega)] at ih
    have en : nwW w (m + 1) = hrI w ((cmW w).getD m 0) := if_neg (by omega)
    rw [en]
    exact ih.2.2.2
theorem cm_mask {w : Tw} (hb : 0 ≤ w.1 ∧ w.1 ≤ 7) (hH : HC w) : maskN (cmW w) = evW w := by
  have hl := Come_lt _ _ (cm_ok hb)
  have g := ev_Gd hb
  have q : (Int32.ofInt w.1).toInt = w.1 := Int32.toInt_ofInt_of_le (by omega) (by omega)
  refine bt_all (fun i hi => ?_)
  rw [maskN_bt _ hl i hi]
  by_cases c : i < 8
  · have e : bt (evW w) i = decide (i < w.1.toNat) := by
      unfold evW
      rw [bt_ev (by omega) c, q]
    rw [e]
    refine decide_eq_decide.mpr ⟨fun h => coA_mem _ _ _ _ _ h, fun h => ?_⟩
    have hh := (hH i (by omega)).1
    exact coA_all _ _ 24 0 i h ⟨(w.2.1 i).toInt.toNat, by omega, by omega, i32_ofNat hh.1⟩
  · rw [Gd_bt g i (by omega) hi]
    exact decide_eq_false (fun h => by have := hl i h; omega)
theorem laN_le {w : Tw} {g : Int32} {now : Int} (h0 : 0 ≤ now) : ∀ k, (∀ p, p < k → bt g p = true → hrI w p ≤ now) → laN w g k ≤ now
  | 0, _ => h0
  | k + 1, h => by
    have ih := laN_le (w := w) (g := g) h0 k (fun p hp => h p (by omega))
    show (if bt g k = true ∧ laN w g k < hrI w k then hrI w k else laN w g k) ≤ now
    by_cases c : bt g k = true ∧ laN w g k < hrI w k
    · rw [if_pos c]
      exact h k (by omega) c.1
    · rw [if_neg c]
      exact ih
theorem wn_ge {w : Tw} (hb : 0 ≤ w.1 ∧ w.1 ≤ 7) (hH : HC w) (now : Int) (y g : Int32) (hY : InY (hrI w) now y) (hg : sbs y g = true) : wtW w g ≤ wnW w now g := by
  have l := laN_le (w := w) (g := g) hY.2.2 w.1.toNat (fun p hp hbp => hY.1 p (by omega) (sbs_bt.mp hg p (by omega) hbp))
  refine sumP_le w.1.toNat (fun p hp _ => ?_)
  have h := hH p (by omega)
  exact Int.mul_le_mul_of_nonneg_left (by omega) h.2.1
theorem wn_eq {w : Tw} (hb : (0 ≤ w.1 ∧ w.1 ≤ 7) ∧ 2 ≤ w.2.2.2.1 ∧ w.2.2.2.1 ≤ 4) (hsy : SYM w) (now : Int) (y g cl : Int32) (hY : InY (hrI w) now y) (hgL : g ∈ LW w) (hg : sbs y g = true) (hc : ¬ (g &&& cl) = 0) (hcl : ∀ p, p < 32 → bt cl p = true → hrI w p = now) : wnW w now g = wtW w g := by
  have l := laN_le (w := w) (g := g) hY.2.2 w.1.toNat (fun p hp hbp => hY.1 p (by omega) (sbs_bt.mp hg p (by omega) hbp))
  have l2 : now ≤ laN w g w.1.toNat := Classical.byContradiction (fun no => hc (dis_bt.mpr (fun i hi hbi => Bool.eq_false_iff.mpr (fun hci => by
    have h8 : i < 8 := Nat.lt_of_not_le (fun z => by
      have := hY.2.1 i z hi
      rw [sbs_bt.mp hg i hi hbi] at this
      cases this)
    have hN : i < w.1.toNat := Nat.lt_of_not_le (fun z => by
      rw [(LW_rel hb hsy hgL).2.1 i z h8] at hbi
      cases hbi)
    have g1 := laN_ge (w := w) hbi w.1.toNat hN
    rw [hcl i hi hci] at g1
    exact no g1))))
  unfold wtW
  rw [show laN w g w.1.toNat = now by omega]
/-- both have found the same -/
theorem least_eq {w : Tw} (hb : (0 ≤ w.1 ∧ w.1 ≤ 7) ∧ 2 ≤ w.2.2.2.1 ∧ w.2.2.2.1 ≤ 4) (hsy : SYM w) (hH : HC w) : ∃ W C : Int, 0 ≤ W ∧ 0 ≤ C ∧ C ≤ 8 ∧ tabW w 16 (evW w) = 16 * W - C ∧ vM w 0 0 = 10 * W - C + 9 := by
  have hev : sbs (evW w) (evW w) = true := sbs_bt.mpr (fun i _ h => h)
  obtain ⟨t1, P, p1, p2⟩ := tab_W (k := 16) hb hsy hev
  have hG := LW_c1 hb hsy
  have ge := cd_Gd (ev_Gd hb.1)
  have c1 := pkv_len hG P _ p1
  have hm := cm_mask hb.1 hH
  have y0 : InY (hrI w) 0 0 := ⟨fun p hp h => (by rw [bt_ze p (by omega)] at h; cases h), fun i _ h => bt_ze i h, Int.le_refl _⟩
  have d0 : ((0 : Int32) &&& maskN (cmW w)) = 0 := Int32.zero_and
  have z0 : (0 : Int32) ||| maskN (cmW w) = evW w := by rw [Int32.zero_or, hm]
  have ev : vM w 0 0 = lfO (LW w) (wnW w) (stW w) (hrI w) (cmW w) 0 0 := rfl
  obtain ⟨P2, q1, q2⟩ := lfO_A (wt := wtW w) (st := stW w) (wn := wnW w) (hr := hrI w) (L := LW w) (fun now y g h _ hs => wn_ge hb.1 hH now y g h hs) (cmW w) 0 0 (cm_ok hb.1) y0 d0
  rw [z0] at q1 q2
  have c2 := pkv_len hG P2 _ q1
  have b := lfO_B (wt := wtW w) (st := stW w) (wn := wnW w) (hr := hrI w) (L := LW w) hG (fun now y g cl h hgL hs hc hcl => wn_eq hb hsy now y g cl h hgL hs hc hcl) (cmW w) 0 0 0 P (cm_ok hb.1) y0 d0 (fun p hp h => by rw [bt_ze p hp] at h; cases h) (by rw [z0]; exact p1) (fun g hg => Or.inl (fun z => by
    rw [hm] at z
    obtain ⟨gL, gs⟩ := pkv_sub P _ p1 g hg
    obtain ⟨p, hp, hbp⟩ := cdN_one 8 (hG g gL)
    have := dis_bt.mp z p (by omega) hbp
    rw [sbs_bt.mp gs p (by omega) hbp] at this
    cases this))
  rw [z0] at b
  have t2 := t1 P2 q1
  rw [p2] at t2
  have lx := lex_w (W := pkV (wtW w) (stW w) (evW w) P) (C := (P.length : Int)) (W2 := pkV (wtW w) (stW w) (evW w) P2) (C2 := (P2.length : Int)) ⟨by omega, by omega⟩ ⟨by omega, by omega⟩ t2
  refine ⟨pkV (wtW w) (stW w) (evW w) P, (P.length : Int), pkV_0 hb.1 hH P _, by omega, by omega, p2, ?_⟩
  rw [ev]
  omega
/-! the model's table of the least waiting -/
theorem key_all : ∀ m : Fin 8, ∀ y : Fin 128, ((Int32.ofNat m.val <<< (7 &&& 31)) ||| Int32.ofNat y.val).toInt = 128 * (m.val : Int) + (y.val : Int) := by decide +kernel
theorem key_i {x y : Int32} (h0 : 0 ≤ x.toInt ∧ x.toInt ≤ 7) (h : Gd y) : ((x <<< (7 &&& 31)) ||| y).toInt = 128 * x.toInt + y.toInt := by
  have g1 := h.1
  have g2 := h.2
  have e := key_all ⟨x.toInt.toNat, by omega⟩ ⟨y.toInt.toNat, by omega⟩
  have e : ((Int32.ofNat x.toInt.toNat <<< (7 &&& 31)) ||| Int32.ofNat y.toInt.toNat).toInt = 128 * (x.toInt.toNat : Int) + (y.toInt.toNat : Int) := e
  rw [← i32_ofNat h0.1, ← i32_ofNat g1] at e
  omega
theorem m10 {c d : Int32} {cI dI : Int} (hc : c.toInt = cI) (hd : d.toInt = dI) (h1 : 0 ≤ cI ∧ cI ≤ 9) (h2 : 0 ≤ cI * dI ∧ cI * dI ≤ 216) : ((10 * c) * d).toInt = 10 * (cI * dI) := by
  have q : (10 : Int32).toInt = 10 := rfl
  have e1 : (10 * c).toInt = 10 * cI := by rw [i32_mul 10 c (by rw [q, hc]; omega) (by rw [q, hc]; omega), q, hc]
  have e2 : 10 * cI * dI = 10 * (cI * dI) := Int.mul_assoc _ _ _
  rw [i32_mul _ d (by rw [e1, hd, e2]; omega) (by rw [e1, hd, e2]; omega), e1, hd, e2]
def LF (w : Tw) (t : Nat) (I : jdI) : Prop := RM I t w ∧ LiS I (t + 31) ((cmW w).map Int32.ofNat) ∧ (I t 30).toInt = ((LW w).length : Int) ∧ LiS I (t + 30) (LW w)
theorem LF_fr {w : Tw} {t : Nat} {I I2 : jdI} (h : LF w t I) (hb : w.1 ≤ 8) (hF : Fr (fun a _ => a = t + 34) I I2) : LF w t I2 :=
  ⟨RM_fr h.1 hb hF (by omega) (by omega) (by omega) (by intro a k h1 h2 h3; omega), LiS_fr h.2.1 hF (by intro k; omega), by rw [hF t 30 (by omega)]; exact h.2.2.1, LiS_fr h.2.2.2 hF (by intro k; omega)⟩
def MMt (w : Tw) (t : Nat) (I : jdI) : Prop := ∀ (m : Nat) (y : Int32), m ≤ w.1.toNat → Gd y → InY (hrI w) (nwW w m) y → (y &&& maskN ((cmW w).drop m)) = 0 → (I (t + 34) (128 * m + y.toInt.toNat)).toInt < 0 ∨ (I (t + 34) (128 * m + y.toInt.toNat)).toInt = vM w m y
theorem MMt_put {w : Tw} {t m k : Nat} {I : jdI} {x2 x4 : Int32} (h : MMt w t I) (hy : Gd x2) (hk : k = 128 * m + x2.toInt.toNat) (h4 : x4.toInt = vM w m x2) : MMt w t (uI I (t + 34) k x4) := fun m' y hm hg hY hd => by
  have g1 := hg.1
  have g2 := hg.2
  have y1 := hy.1
  have y2 := hy.2
  rw [uI_ap]
  by_cases c : 128 * m' + y.toInt.toNat = k
  · have em : m' = m := by omega
    have ey : y = x2 := Int32.toInt_inj.mp (by omega)
    rw [if_pos ⟨rfl, c⟩, em, ey]
    exact Or.inr h4
  · rw [if_neg (fun z => c z.2)]
    exact h m' y hm hg hY hd
theorem vM_b {w : Tw} (hb : (0 ≤ w.1 ∧ w.1 ≤ 7) ∧ 2 ≤ w.2.2.2.1 ∧ w.2.2.2.1 ≤ 4) (hsy : SYM w) (hH : HC w) {m : Nat} {y : Int32} (hm : m ≤ w.1.toNat) (hY : InY (hrI w) (nwW w m) y) (hd : (y &&& maskN ((cmW w).drop m)) = 0) : 1 ≤ vM w m y ∧ vM w m y ≤ 15129 := by
  have hG := LW_c1 hb hsy
  have co := Come_drop hb.1 hH m hm
  obtain ⟨P, p1, p2⟩ := lfO_A (wt := wtW w) (st := stW w) (wn := wnW w) (hr := hrI w) (L := LW w) (fun now y g h _ hs => wn_ge hb.1 hH now y g h hs) ((cmW w).drop m) (nwW w m) y co hY hd
  have p2 : 10 * pkV (wtW w) (stW w) (y ||| maskN ((cmW w).drop m)) P - (P.length : Int) + 9 ≤ vM w m y := p2
  have c1 := pkv_len hG P _ p1
  have c8 := cd_8n (y ||| maskN ((cmW w).drop m))
  have v0 := pkV_0 hb.1 hH P (y ||| maskN ((cmW w).drop m))
  have b := lfO_B (wt := wtW w) (st := stW w) (wn := wnW w) (hr := hrI w) (L := LW w) hG (fun now y g cl h hgL hs hc hcl => wn_eq hb hsy now y g cl h hgL hs hc hcl) ((cmW w).drop m) (nwW w m) y 0 [] co hY hd (fun p hp h => by rw [bt_ze p hp] at h; cases h) trivial (fun g hg => by cases hg)
  have b2 : vM w m y ≤ 10 * stW w (y ||| maskN ((cmW w).drop m)) - ((0 : Nat) : Int) + 9 := b
  have s := st_b (s := y ||| maskN ((cmW w).drop m)) hb.1 hH
  constructor <;> omega
theorem cm_at {w : Tw} {I : jdI} {b k : Nat} (hH : HC w) (h : LiS I b ((cmW w).map Int32.ofNat)) (hk : k < w.1.toNat) : I b k = Int32.ofNat ((cmW w).getD k 0) ∧ (cmW w).getD k 0 < w.1.toNat := by
  have hl : k < (cmW w).length := by rw [cm_len hH]; exact hk
  have e := h k (by rw [List.length_map]; exact hl)
  rw [List.getElem?_map, List.getElem?_eq_getElem hl] at e
  have e2 : (cmW w).getD k 0 = (cmW w)[k] := by
    rw [List.getD_eq_getElem?_getD, List.getElem?_eq_getElem hl]
    rfl
  rw [e2]
  exact ⟨(Option.some.inj e).symm, coA_mem _ _ _ _ _ (List.getElem_mem hl)⟩
theorem cm_lt {w : Tw} (hH : HC w) {k : Nat} (hk : k < w.1.toNat) : (cmW w).getD k 0 < w.1.toNat := by
  have hl : k < (cmW w).length := by rw [cm_len hH]; exact hk
  have e2 : (cmW w).getD k 0 = (cmW w)[k] := by
    rw [List.getD_eq_getElem?_getD, List.getElem?_eq_getElem hl]
    rfl
  rw [e2]
  exact coA_mem _ _ _ _ _ (List.getElem_mem hl)
theorem nw_b {w : Tw} (hH : HC w) {m : Nat} (hm : m ≤ w.1.toNat) : 0 ≤ nwW w m ∧ nwW w m < 24 := by
  unfold nwW
  by_cases c : m = 0
  · rw [if_pos c]
    decide
  · rw [if_neg c]
    have l := cm_lt hH (k := m - 1) (by omega)
    exact (hH ((cmW w).getD (m - 1) 0) (by omega)).1
theorem wn_b {w : Tw} {g : Int32} {now : Int} (hb : 0 ≤ w.1 ∧ w.1 ≤ 7) (hH : HC w) (hn : 0 ≤ now ∧ now < 24) (hgY : ∀ p, p < w.1.toNat → bt g p = true → hrI w p ≤ now) : 0 ≤ wnW w now g ∧ wnW w now g ≤ 1512 := by
  have s := sumP_b (f := fun p => coI w p * (now - hrI w p)) (s := g) w.1.toNat (fun p hp hbp => by
    have h := hH p (by omega)
    have g1 := hgY p hp hbp
    have e : hrI w p = (w.2.1 p).toInt := rfl
    exact mulb h.2 ⟨by omega, by omega⟩)
  have s : 0 ≤ wnW w now g ∧ wnW w now g ≤ 216 * (w.1.toNat : Int) := s
  omega
/-- the hour now -/
theorem now_in {w : Tw} {t m : Nat} {I : jdI} {x1 : Int32} (hb : 0 ≤ w.1 ∧ w.1 ≤ 7) (hH : HC w) (hL : LF w t I) (h1 : x1.toInt = (m : Int)) (hm : m ≤ w.1.toNat) : (¬ x1 = 0 → vp_in (x1 - 1) 7 ∧ vp_in (I (t + 31) (Int32.toNatClampNeg (x1 - 1))) 8 ∧ (I (t + 18) (Int32.toNatClampNeg (I (t + 31) (Int32.toNatClampNeg (x1 - 1))))).toInt = nwW w m) ∧ (x1 = 0 → (0 : Int32).toInt = nwW w m) := by
  have q0 : (0 : Int32).toInt = 0 := rfl
  have q1 : (1 : Int32).toInt = 1 := rfl
  refine ⟨fun h => ?_, fun h => ?_⟩
  · have hz : ¬ x1.toInt = 0 := fun z => h (Int32.toInt_inj.mp (z.trans q0.symm))
    have e1 := i32_sub x1 1 (by omega) (by omega)
    have n1 : Int32.toNatClampNeg (x1 - 1) = m - 1 := by rw [tn_eq]; omega
    obtain ⟨c1, c2⟩ := cm_at hH hL.2.1 (show m - 1 < w.1.toNat by omega)
    have oi : (Int32.ofNat ((cmW w).getD (m - 1) 0)).toInt = ((cmW w).getD (m - 1) 0 : Nat) := ofN_i (by omega)
    have n2 : Int32.toNatClampNeg (Int32.ofNat ((cmW w).getD (m - 1) 0)) = (cmW w).getD (m - 1) 0 := by rw [tn_eq]; omega
    refine ⟨vp_of (by omega) (by omega), ?_, ?_⟩
    · rw [n1, c1]
      exact vp_of (by omega) (by omega)
    · rw [n1, c1, n2, (hL.1.2.1 _ (by omega)).1]
      unfold nwW
      rw [if_neg (by omega)]
      rfl
  · rw [h] at h1
    unfold nwW
    rw [if_pos (by omega)]
    rfl
theorem pX12_leastFrom_171 {G : jdG} {n rc rs : Nat} {Z : jdL} {J : jdJ} {K : Int32 → jdI → jdJ → Prop} {I : jdI} {t : Nat} {w : Tw} {x1 x2 x3 x4 x5 x6 g : Int32} {now : Int} (ht : zModel Z t) (hw : RM I t w) (hb : 0 ≤ w.1 ∧ w.1 ≤ 7) (hH : HC w) (h6 : 0 ≤ x6.toInt ∧ x6.toInt < 70) (hg : I (t + 30) (Int32.toNatClampNeg x6) = g) (h5 : x5.toInt = now) (hn : 0 ≤ now ∧ now < 24) (hgY : ∀ p, p < w.1.toNat → bt g p = true → hrI w p ≤ now)
    (hO : ∀ x7 : Int32, x7.toInt = 10 * wnW w now g - 1 → Cl G mX12_leastFrom n 0 0 [.ref (gb G + t), .int x1, .int (dl x2 g)] Z I J (qi Z (fun v3 I2 J2 => ((x4 ≤ (x7 + v3) → Jd G mX12_leastFrom (jdFm G (qi Z K)) (n + 1) rc rs 142 [(0, .ref (gb G + t)), (1, .int x1), (2, .int x2), (3, .int x3), (4, .int x4), (5, .int x5), (6, .int (x6 + 1))] [] Z I2 J2) ∧ (¬ x4 ≤ (x7 + v3) → Jd G mX12_leastFrom (jdFm G (qi Z K)) (n + 1) rc rs 142 [(0, .ref (gb G + t)), (1, .int x1), (2, .int x2), (3, .int x3), (4, .int (x7 + v3)), (5, .int x5), (6, .int (x6 + 1))] [] Z I2 J2))))) : ∀ f : Nat, ∀ x7 x8 : Int32, 0 ≤ x8.toInt → x8.toInt + (f : Int) = w.1 → x7.toInt = 10 * sumP (fun p => coI w p * (now - hrI w p)) g x8.toInt.toNat - 1 → Jd G mX12_leastFrom (jdFm G (qi Z K)) (n + 1) rc rs 171 [(0, .ref (gb G + t)), (1, .int x1), (2, .int x2), (3, .int x3), (4, .int x4), (5, .int x5), (6, .int x6), (7, .int x7), (8, .int x8)] [] Z I J := by
  have h10 := hw.1
  have fb : ∀ p, p < w.1.toNat → bt g p = true → 0 ≤ coI w p * (now - hrI w p) ∧ coI w p * (now - hrI w p) ≤ 216 := fun p hp hbp => by
    have h := hH p (by omega)
    have g1 := hgY p hp hbp
    have e : hrI w p = (w.2.1 p).toInt := rfl
    exact mulb h.2 ⟨by omega, by omega⟩
  intro f
  induction f with
  | zero =>
    intro x7 x8 h8 hf h7
    refine rX12_leastFrom_171 ht ⟨fun _ => ⟨vp_of (by omega) (by omega), ?_⟩, fun h => absurd (Int32.le_iff_toInt_le.mpr (by omega)) h⟩
    rw [hg, xo_m1]
    exact hO x7 (by rw [h7, show x8.toInt.toNat = w.1.toNat by omega]; rfl)
  | succ f ih =>
    intro x7 x8 h8 hf h7
    have q1 : (1 : Int32).toInt = 1 := rfl
    have q0 : (0 : Int32).toInt = 0 := rfl
    have e8 := i32_add x8 1 (by omega) (by omega)
    have n8 := tn_eq x8
    have en : (x8 + 1).toInt.toNat = x8.toInt.toNat + 1 := by omega
    have sb := sumP_b (f := fun p => coI w p * (now - hrI w p)) (s := g) x8.toInt.toNat (fun p hp => fb p (by omega))
    have st : sumP (fun p => coI w p * (now - hrI w p)) g (x8.toInt.toNat + 1) = sumP (fun p => coI w p * (now - hrI w p)) g x8.toInt.toNat + (if bt g x8.toInt.toNat = true then coI w x8.toInt.toNat * (now - hrI w x8.toInt.toNat) else 0) := rfl
    have b8 := bt_iff g (x := x8) h8
    refine rX12_leastFrom_171 ht ⟨fun h => by have := Int32.le_iff_toInt_le.mp h; omega, fun _ => ⟨vp_of (by omega) (by omega), ?_⟩⟩
    rw [hg]
    refine sfX12_has trivial (fun v p => ⟨fun hv => ?_, fun hv => ?_⟩)
    · have hv := i0 hv
      have nb : ¬ bt g x8.toInt.toNat = true := fun z => b8.mp z (Int32.toInt_inj.mp (show _ = (0 : Int32).toInt by omega))
      rw [Int32.add_zero]
      exact ih x7 (x8 + 1) (by omega) (by omega) (by rw [en, st, if_neg nb, h7, Int.add_zero])
    · have hv := i1 hv
      have yb : bt g x8.toInt.toNat = true := b8.mpr (fun q => by rw [q] at p; omega)
      obtain ⟨a1, a2⟩ := hw.2.1 x8.toInt.toNat (by omega)
      have fp := fb x8.toInt.toNat (by omega) yb
      refine ⟨vp_of (by omega) (by omega), vp_of (by omega) (by omega), ?_⟩
      rw [n8, a1, a2]
      have hh := hH x8.toInt.toNat (by omega)
      have e1 : (x5 - w.2.1 x8.toInt.toNat).toInt = now - hrI w x8.toInt.toNat := by
        rw [i32_sub x5 (w.2.1 x8.toInt.toNat) (by omega) (by omega), h5]
        rfl
      have e2 := m10 (c := w.2.2.1 x8.toInt.toNat) (d := x5 - w.2.1 x8.toInt.toNat) (cI := coI w x8.toInt.toNat) rfl e1 hh.2 fp
      have e3 := i32_add x7 (10 * w.2.2.1 x8.toInt.toNat * (x5 - w.2.1 x8.toInt.toNat)) (by omega) (by omega)
      exact ih _ (x8 + 1) (by omega) (by omega) (by rw [en, st, if_pos yb, e3, h7, e2]; omega)
theorem pX12_leastFrom_37 {G : jdG} {n rc rs : Nat} {Z : jdL} {J : jdJ} {K : Int32 → jdI → jdJ → Prop} {I : jdI} {t : Nat} {w : Tw} {x1 x2 x3 : Int32} (ht : zModel Z t) (hw : RM I t w) (hb : 0 ≤ w.1 ∧ w.1 ≤ 7) (hH : HC w)
    (hO : ∀ x4 : Int32, x4.toInt = 10 * stW w x2 → ((¬ x1 = 0 → (vp_in (x1 - 1) 7 ∧ (vp_in (I (t + 31) (Int32.toNatClampNeg (x1 - 1))) 8 ∧ Jd G mX12_leastFrom (jdFm G (qi Z K)) (n + 1) rc rs 142 [(0, .ref (gb G + t)), (1, .int x1), (2, .int x2), (3, .int x3), (4, .int (x4 + 9)), (5, .int (I (t + 18) (Int32.toNatClampNeg (I (t + 31) (Int32.toNatClampNeg (x1 - 1)))))), (6, .int 0)] [] Z I J))) ∧ (x1 = 0 → Jd G mX12_leastFrom (jdFm G (qi Z K)) (n + 1) rc rs 142 [(0, .ref (gb G + t)), (1, .int x1), (2, .int x2), (3, .int x3), (4, .int (x4 + 9)), (5, .int 0), (6, .int 0)] [] Z I J))) : ∀ f : Nat, ∀ x4 x5 : Int32, 0 ≤ x5.toInt → x5.toInt + (f : Int) = w.1 → x4.toInt = 10 * sumP (fun p => coI w p * (24 - hrI w p)) x2 x5.toInt.toNat → Jd G mX12_leastFrom (jdFm G (qi Z K)) (n + 1) rc rs 37 [(0, .ref (gb G + t)), (1, .int x1), (2, .int x2), (3, .int x3), (4, .int x4), (5, .int x5)] [] Z I J := by
  have h10 := hw.1
  have fb : ∀ p, p < w.1.toNat → bt x2 p = true → 0 ≤ coI w p * (24 - hrI w p) ∧ coI w p * (24 - hrI w p) ≤ 216 := fun p hp hbp => by
    have h := hH p (by omega)
    have e : hrI w p = (w.2.1 p).toInt := rfl
    exact mulb h.2 ⟨by omega, by omega⟩
  intro f
  induction f with
  | zero =>
    intro x4 x5 h5 hf h4
    exact rX12_leastFrom_37 ht ⟨fun _ => hO x4 (by rw [h4, show x5.toInt.toNat = w.1.toNat by omega]; rfl), fun h => absurd (Int32.le_iff_toInt_le.mpr (by omega)) h⟩
  | succ f ih =>
    intro x4 x5 h5 hf h4
    have q1 : (1 : Int32).toInt = 1 := rfl
    have q0 : (0 : Int32).toInt = 0 := rfl
    have q24 : (24 : Int32).toInt = 24 := rfl
    have e5 := i32_add x5 1 (by omega) (by omega)
    have n5 := tn_eq x5
    have en : (x5 + 1).toInt.toNat = x5.toInt.toNat + 1 := by omega
    have sb := sumP_b (f := fun p => coI w p * (24 - hrI w p)) (s := x2) x5.toInt.toNat (fun p hp => fb p (by omega))
    have st : sumP (fun p => coI w p * (24 - hrI w p)) x2 (x5.toInt.toNat + 1) = sumP (fun p => coI w p * (24 - hrI w p)) x2 x5.toInt.toNat + (if bt x2 x5.toInt.toNat = true then coI w x5.toInt.toNat * (24 - hrI w x5.toInt.toNat) else 0) := rfl
    have b5 := bt_iff x2 (x := x5) h5
    refine rX12_leastFrom_37 ht ⟨fun h => by have := Int32.le_iff_toInt_le.mp h; omega, fun _ => ?_⟩
    refine sfX12_has trivial (fun v p => ⟨fun hv => ?_, fun hv => ?_⟩)
    · have hv := i0 hv
      have nb : ¬ bt x2 x5.toInt.toNat = true := fun z => b5.mp z (Int32.toInt_inj.mp (show _ = (0 : Int32).toInt by omega))
      rw [Int32.add_zero]
      exact ih x4 (x5 + 1) (by omega) (by omega) (by rw [en, st, if_neg nb, h4, Int.add_zero])
    · have hv := i1 hv
      have yb : bt x2 x5.toInt.toNat = true := b5.mpr (fun q => by rw [q] at p; omega)
      obtain ⟨a1, a2⟩ := hw.2.1 x5.toInt.toNat (by omega)
      have fp := fb x5.toInt.toNat (by omega) yb
      refine ⟨vp_of (by omega) (by omega), vp_of (by omega) (by omega), ?_⟩
      rw [n5, a1, a2]
      have hh := hH x5.toInt.toNat (by omega)
      have e1 : (24 - w.2.1 x5.toInt.toNat).toInt = 24 - hrI w x5.toInt.toNat := by
        rw [i32_sub 24 (w.2.1 x5.toInt.toNat) (by omega) (by omega), q24]
        rfl
      have e2 := m10 (c := w.2.2.1 x5.toInt.toNat) (d := 24 - w.2.1 x5.toInt.toNat) (cI := coI w x5.toInt.toNat) rfl e1 hh.2 fp
      have e3 := i32_add x4 (10 * w.2.2.1 x5.toInt.toNat * (24 - w.2.1 x5.toInt.toNat)) (by omega) (by omega)
      exact ih _ (x5 + 1) (by omega) (by omega) (by rw [en, st, if_pos yb, e3, h4, e2]; omega)
theorem pX12_leastFrom_142 {G : jdG} {n rc rs : Nat} {Z : jdL} {J : jdJ} {K : Int32 → jdI → jdJ → Prop} {I0 : jdI} {t m : Nat} {w : Tw} {x1 x2 x3 x5 : Int32} (ht : zModel Z t) (hb : (0 ≤ w.1 ∧ w.1 ≤ 7) ∧ 2 ≤ w.2.2.2.1 ∧ w.2.2.2.1 ≤ 4) (hsy : SYM w) (hH : HC w) (hm : m ≤ w.1.toNat) (hy : Gd x2) (hY : InY (hrI w) (nwW w m) x2) (hd : (x2 &&& maskN ((cmW w).drop m)) = 0) (h3 : x3.toInt = 128 * (m : Int) + x2.toInt) (h5 : x5.toInt = nwW w m)
    (hR : ∀ (K2 : Int32 → jdI → jdJ → Prop) (I : jdI) (g : Int32), WM 7 t I → LF w t I → MMt w t I → g ∈ LW w → sbs x2 g = true → (∀ (v : Int32) (I2 : jdI), WM 7 t I2 → Fr (fun a _ => a = t + 34) I I2 → MMt w t I2 → v.toInt = vM w m (dl x2 g) → K2 v I2 J) → Cl G mX12_leastFrom n 0 0 [.ref (gb G + t), .int x1, .int (dl x2 g)] Z I J (qi Z K2))
    (hK : ∀ (v : Int32) (I2 : jdI), WM 7 t I2 → Fr (fun a _ => a = t + 34) I0 I2 → MMt w t I2 → v.toInt = vM w m x2 → K v I2 J) :
    ∀ f : Nat, ∀ (I : jdI) (x4 x6 : Int32), WM 7 t I → Fr (fun a _ => a = t + 34) I0 I → LF w t I → MMt w t I → 0 ≤ x6.toInt → x6.toInt + (f : Int) = ((LW w).length : Int) → (0 ≤ x4.toInt ∧ x4.toInt ≤ 15129) → mnl (sbs x2) (fun g => 10 * wnW w (nwW w m) g - 1 + vM w m (dl x2 g)) ((LW w).drop x6.toInt.toNat) x4.toInt = vM w m x2 → Jd G mX12_leastFrom (jdFm G (qi Z K)) (n + 1) rc rs 142 [(0, .ref (gb G + t)), (1, .int x1), (2, .int x2), (3, .int x3), (4, .int x4), (5, .int x5), (6, .int x6)] [] Z I J := by
  have g1 := hy.1
  have g2 := hy.2
  have h70 := LW_70 hb
  have n3 := tn_eq x3
  intro f
  induction f with
  | zero =>
    intro I x4 x6 hW hF hL hM h6 hf h4 hr
    have hc := hL.2.2.1
    have hw := WM_f hW
    rw [drop_end (by omega)] at hr
    have hr : x4.toInt = vM w m x2 := hr
    exact rX12_leastFrom_142 ht ⟨fun _ => ⟨vp_of (by omega) (by omega), hK x4 _ (WM_uI hW (by first | exact okMo (by decide) (by decide) (by decide) (by decide) (by decide) | exact okMf (by decide) (by decide) (by decide) (by decide) (by decide) (by decide) (by decide) (by decide) | exact okM30 (by omega) | exact okM42 (by omega) | exact okM33 (by omega) | exact okM10 (by omega) | exact okM8 (by omega) | exact okM22 (by omega) | exact okM24 (by omega) | exact okM14 (by omega) | exact okMa31 (by omega) | exact okMa35 (by omega) | exact okMa36 (by omega) | exact okMa3 (by omega) | exact okMr (by omega) | (unfold okM; refine ⟨?_, ?_, ?_, ?_, ?_, ?_, ?_, ?_, ?_, ?_, ?_, ?_⟩ <;> intro h <;> omega))) (Fr_uI hF rfl) (MMt_put hM hy (by omega) hr) hr⟩, fun h => absurd (Int32.le_iff_toInt_le.mpr (by omega)) h⟩
  | succ f ih =>
    intro I x4 x6 hW hF hL hM h6 hf h4 hr
    have hc := hL.2.2.1
    have q1 : (1 : Int32).toInt = 1 := rfl
    have e6 := i32_add x6 1 (by omega) (by omega)
    have n6 := tn_eq x6
    have en : (x6 + 1).toInt.toNat = x6.toInt.toNat + 1 := by omega
    have hdr := LiS_drop hL.2.2.2 (show x6.toInt.toNat < (LW w).length by omega)
    have hgm : I (t + 30) (Int32.toNatClampNeg x6) ∈ LW w := List.mem_of_mem_drop (i := x6.toInt.toNat) (by rw [hdr]; exact List.mem_cons_self)
    rw [hdr] at hr
    have hr : mnl (sbs x2) (fun g => 10 * wnW w (nwW w m) g - 1 + vM w m (dl x2 g)) ((LW w).drop (x6.toInt.toNat + 1)) (if sbs x2 (I (t + 30) (Int32.toNatClampNeg x6)) = true ∧ 10 * wnW w (nwW w m) (I (t + 30) (Int32.toNatClampNeg x6)) - 1 + vM w m (dl x2 (I (t + 30) (Int32.toNatClampNeg x6))) < x4.toInt then 10 * wnW w (nwW w m) (I (t + 30) (Int32.toNatClampNeg x6)) - 1 + vM w m (dl x2 (I (t + 30) (Int32.toNatClampNeg x6))) else x4.toInt) = vM w m x2 := hr
    refine rX12_leastFrom_142 ht ⟨fun h => by have := Int32.le_iff_toInt_le.mp h; omega, fun _ => ⟨vp_of (by omega) (by omega), fun hz => ?_, fun hz => ?_⟩⟩
    · rw [if_neg (fun z => hz (sbs_m.mpr z.1))] at hr
      refine ih I x4 (x6 + 1) hW hF hL hM (by omega) (by omega) h4 ?_
      rw [en]
      exact hr
    · have hs := sbs_m.mp hz
      have hgY : ∀ p, p < w.1.toNat → bt (I (t + 30) (Int32.toNatClampNeg x6)) p = true → hrI w p ≤ nwW w m := fun p hp hbp => hY.1 p (by omega) (sbs_bt.mp hs p (by omega) hbp)
      have hn := nw_b hH hm
      have wb := wn_b hb.1 hH hn hgY
      have vb := vM_b hb hsy hH hm (InY_dl x2 (I (t + 30) (Int32.toNatClampNeg x6)) hY) (dis_dl hd)
      refine pX12_leastFrom_171 ht hL.1 hb.1 hH ⟨h6, by omega⟩ rfl h5 hn hgY (fun x7 h7 => ?_) w.1.toNat (-1) 0 (by decide) (by show (0 : Int) + _ = _; omega) (by show (-1 : Int32).toInt = 10 * (0 : Int) - 1; rfl)
      refine hR _ I _ hW hL hM hgm hs (fun v I2 hW2 hF2 hM2 hv => ?_)
      have ea := i32_add x7 v (by omega) (by omega)
      have hF3 := Fr.tr hF hF2 (fun _ _ h => h)
      have hL3 := LF_fr hL (by omega) hF2
      refine ⟨fun c => ?_, fun c => ?_⟩
      · have c := Int32.le_iff_toInt_le.mp c
        rw [if_neg (fun z => by have := z.2; omega)] at hr
        refine ih I2 x4 (x6 + 1) hW2 hF3 hL3 hM2 (by omega) (by omega) h4 ?_
        rw [en]
        exact hr
      · have c := mt Int32.le_iff_toInt_le.mpr c
        rw [if_pos ⟨hs, by omega⟩] at hr
        refine ih I2 (x7 + v) (x6 + 1) hW2 hF3 hL3 hM2 (by omega) (by omega) (by omega) ?_
        rw [en, ea, h7, hv]
        exact hr
theorem Gd_or {y : Int32} {c : Nat} (h : Gd y) (hc : c < 7) : Gd (y ||| bitN c) := by
  have g1 := h.1
  have g2 := h.2
  have oi : (Int32.ofNat c).toInt = (c : Int) := ofN_i (by omega)
  have o := or_127 (x := y) (f := Int32.ofNat c) (by omega) (by omega) (by omega) (by omega)
  exact ⟨o.1, Int.lt_of_le_of_lt o.2 (by decide)⟩
theorem pX12_leastFrom {G : jdG} {Z : jdL} {J : jdJ} {t : Nat} {w : Tw} (ht : zModel Z t) (hb : (0 ≤ w.1 ∧ w.1 ≤ 7) ∧ 2 ≤ w.2.2.2.1 ∧ w.2.2.2.1 ≤ 4) (hsy : SYM w) (hH : HC w) : ∀ (d n : Nat) (I : jdI) (K : Int32 → jdI → jdJ → Prop) (m : Nat) (x1 x2 : Int32), WM 7 t I → LF w t I → MMt w t I → x1.toInt = (m : Int) → m ≤ w.1.toNat → Gd x2 → InY (hrI w) (nwW w m) x2 → (x2 &&& maskN ((cmW w).drop m)) = 0 → (7 - (m : Int)) * 128 + x2.toInt < (d : Int) → (∀ (v : Int32) (I2 : jdI), WM 7 t I2 → Fr (fun a _ => a = t + 34) I I2 → MMt w t I2 → v.toInt = vM w m x2 → K v I2 J) → Cl G mX12_leastFrom (n + d) 0 0 [.ref (gb G + t), .int x1, .int x2] Z I J (qi Z K) := by
  intro d
  induction d with
  | zero =>
    intro n I K m x1 x2 hW hL hM h1 hm hy hY hd hmu hK
    have g1 := hy.1
    omega
  | succ d ihd =>
    intro n I K m x1 x2 hW hL hM h1 hm hy hY hd hmu hK
    have g1 := hy.1
    have g2 := hy.2
    have q0 : (0 : Int32).toInt = 0 := rfl
    have q1 : (1 : Int32).toInt = 1 := rfl
    have h10 := hL.1.1
    have hkey := key_i (x := x1) (y := x2) (by omega) hy
    have nk : Int32.toNatClampNeg ((x1 <<< (7 &&& 31)) ||| x2) = 128 * m + x2.toInt.toNat := by rw [tn_eq]; omega
    have hrec := vM_rec hb hsy hH hm x2
    have hR : ∀ (K2 : Int32 → jdI → jdJ → Prop) (I : jdI) (g : Int32), WM 7 t I → LF w t I → MMt w t I → g ∈ LW w → sbs x2 g = true → (∀ (v : Int32) (I2 : jdI), WM 7 t I2 → Fr (fun a _ => a = t + 34) I I2 → MMt w t I2 → v.toInt = vM w m (dl x2 g) → K2 v I2 J) → Cl G mX12_leastFrom (n + d) 0 0 [.ref (gb G + t), .int x1, .int (dl x2 g)] Z I J (qi Z K2) := fun K2 I g hW hL hM hg hs hK2 => by
      have l := dll_t hy hs (LW_c1 hb hsy g hg)
      exact ihd n I K2 m x1 (dl x2 g) hW hL hM h1 hm (Gd_dl hy) (InY_dl x2 g hY) (dis_dl hd) (by omega) hK2
    have go : ∀ (I3 : jdI) (x4 x5 : Int32), WM 7 t I3 → Fr (fun a _ => a = t + 34) I I3 → LF w t I3 → MMt w t I3 → (0 ≤ x4.toInt ∧ x4.toInt ≤ 15129) → x4.toInt = avM w m x2 → x5.toInt = nwW w m → Jd G mX12_leastFrom (jdFm G (qi Z K)) (n + d + 1) 0 0 142 [(0, .ref (gb G + t)), (1, .int x1), (2, .int x2), (3, .int ((x1 <<< (7 &&& 31)) ||| x2)), (4, .int x4), (5, .int x5), (6, .int 0)] [] Z I3 J := fun I3 x4 x5 hW3 hF3 hL3 hM3 b4 h4 h5 => by
      refine pX12_leastFrom_142 (I0 := I) ht hb hsy hH hm hy hY hd (by omega) h5 hR hK (LW w).length I3 x4 0 hW3 hF3 hL3 hM3 (by decide) (by show (0 : Int) + _ = _; omega) b4 ?_
      rw [show (0 : Int32).toInt.toNat = 0 from rfl, List.drop_zero, h4]
      exact hrec.symm
    refine eX12_leastFrom (n := n + d) ht ⟨vp_of (by omega) (by omega), fun hz => ⟨fun hne => ?_, fun he => ?_⟩, fun hz => ⟨vp_of (by omega) (by omega), ?_⟩⟩
    · have hlt : m < w.1.toNat := by
        have : ¬ x1.toInt = (I t 10).toInt := fun z => hne (Int32.toInt_inj.mp z)
        omega
      refine ⟨vp_of (by omega) (by omega), ?_⟩
      have n1 : Int32.toNatClampNeg x1 = m := by rw [tn_eq]; omega
      obtain ⟨c1, c2⟩ := cm_at hH hL.2.1 hlt
      rw [n1, c1]
      have co := Come_drop hb.1 hH m hm
      rw [cm_drop hH hlt] at co hd
      obtain ⟨y1, y2, y3⟩ := come_y co hY hd
      have e1 := i32_add x1 1 (by omega) (by omega)
      have gd := Gd_or hy (show (cmW w).getD m 0 < 7 by omega)
      have gd2 := gd.2
      have en : nwW w (m + 1) = hrI w ((cmW w).getD m 0) := if_neg (by omega)
      have ea : avM w m x2 = vM w (m + 1) (x2 ||| bitN ((cmW w).getD m 0)) := if_neg (by omega)
      have y1n : InY (hrI w) (nwW w (m + 1)) (x2 ||| bitN ((cmW w).getD m 0)) := by rw [en]; exact y1
      have vb := vM_b hb hsy hH (m := m + 1) (by omega) y1n y2
      refine ihd n I _ (m + 1) (x1 + 1) (x2 ||| bitN ((cmW w).getD m 0)) hW hL hM (by omega) (by omega) gd y1n y2 (by omega) (fun v I3 hW3 hF3 hM3 hv => ?_)
      have hL3 := LF_fr hL (by omega) hF3
      obtain ⟨a1, a2⟩ := now_in hb.1 hH hL3 h1 hm
      exact ⟨fun c => ⟨(a1 c).1, (a1 c).2.1, go I3 v _ hW3 hF3 hL3 hM3 (by omega) (by omega) (a1 c).2.2⟩, fun c => go I3 v 0 hW3 hF3 hL3 hM3 (by omega) (by omega) (a2 c)⟩
    · have hN : m = w.1.toNat := by
        have := congrArg Int32.toInt he
        omega
      obtain ⟨a1, a2⟩ := now_in hb.1 hH hL h1 hm
      have sb := st_b (s := x2) hb.1 hH
      have ea : avM w m x2 = 10 * stW w x2 + 9 := if_pos hN
      have q9 : (9 : Int32).toInt = 9 := rfl
      refine pX12_leastFrom_37 ht hL.1 hb.1 hH (fun x4 h4 => ?_) w.1.toNat 0 0 (by decide) (by show (0 : Int) + _ = _; omega) rfl
      have e9 := i32_add x4 9 (by omega) (by omega)
      exact ⟨fun c => ⟨(a1 c).1, (a1 c).2.1, go I (x4 + 9) _ hW Fr.rf hL hM (by omega) (by omega) (a1 c).2.2⟩, fun c => go I (x4 + 9) 0 hW Fr.rf hL hM (by omega) (by omega) (a2 c)⟩
    · have hz := mt Int32.lt_iff_toInt_lt.mpr hz
      rw [nk] at hz ⊢
      rcases hM m x2 hm hy hY hd with e | e
      · omega
      · exact hK _ I hW Fr.rf hM e
theorem pX12_least_27 {G : jdG} {n rc rs : Nat} {Z : jdL} {J : jdJ} {K : Int32 → jdI → jdJ → Prop} {I0 : jdI} {t : Nat} {w : Tw} {x1 : Int32} (ht : zModel Z t) (hb : (0 ≤ w.1 ∧ w.1 ≤ 7) ∧ 2 ≤ w.2.2.2.1 ∧ w.2.2.2.1 ≤ 4) (hsy : SYM w) (hH : HC w) (hL0 : LF w t I0) (hK : ∀ (v : Int32) (I2 : jdI), WM 7 t I2 → Fr (fun a _ => a = t + 34) I0 I2 → v.toInt = vM w 0 0 → (¬ x1 = 0 → K (9 - (v - v / 10 * 10)) I2 J) ∧ (x1 = 0 → K (v / 10) I2 J)) : ∀ f : Nat, ∀ (I : jdI) (x2 : Int32), WM 7 t I → Fr (fun a _ => a = t + 34) I0 I → 0 ≤ x2.toInt → x2.toInt + (f : Int) = 1024 → (∀ k : Nat, (k : Int) < x2.toInt → I (t + 34) k = -1) → Jd G mX12_least (jdFm G (qi Z K)) (n + 898) rc rs 27 [(0, .ref (gb G + t)), (1, .int x1), (2, .int x2)] [] Z I J := by
  have q1k : (1024 : Int32).toInt = 1024 := rfl
  intro f
  induction f with
  | zero =>
    intro I x2 hW hF h2 hf hT
    refine rX12_least_27 (n := n + 897) ht ⟨fun _ => ?_, fun h => absurd (Int32.le_iff_toInt_le.mpr (by omega)) h⟩
    have hM : MMt w t I := fun m y hm hg _ _ => Or.inl (by
      have g1 := hg.1
      have g2 := hg.2
      rw [hT _ (by omega)]
      decide)
    have y0 : InY (hrI w) (nwW w 0) 0 := ⟨fun p hp h => (by rw [bt_ze p (by omega)] at h; cases h), fun i _ h => bt_ze i h, Int.le_refl _⟩
    exact pX12_leastFrom ht hb hsy hH 897 n I _ 0 0 0 hW (LF_fr hL0 (by omega) hF) hM rfl (by omega) ⟨by decide, by decide⟩ y0 Int32.zero_and (by decide) (fun v I2 hW2 hF2 _ hv => hK v I2 hW2 (Fr.tr hF hF2 (fun _ _ h => h)) hv)
  | succ f ih =>
    intro I x2 hW hF h2 hf hT
    have q1 : (1 : Int32).toInt = 1 := rfl
    have e2 := i32_add x2 1 (by omega) (by omega)
    have n2 := tn_eq x2
    have hw := WM_f hW
    refine rX12_least_27 (n := n + 897) ht ⟨fun h => by have := Int32.le_iff_toInt_le.mp h; omega, fun _ => ⟨vp_of (by omega) (by omega), ?_⟩⟩
    refine ih _ (x2 + 1) (WM_uI hW (by first | exact okMo (by decide) (by decide) (by decide) (by decide) (by decide) | exact okMf (by decide) (by decide) (by decide) (by decide) (by decide) (by decide) (by decide) (by decide) | exact okM30 (by omega) | exact okM42 (by omega) | exact okM33 (by omega) | exact okM10 (by omega) | exact okM8 (by omega) | exact okM22 (by omega) | exact okM24 (by omega) | exact okM14 (by omega) | exact okMa31 (by omega) | exact okMa35 (by omega) | exact okMa36 (by omega) | exact okMa3 (by omega) | exact okMr (by omega) | (unfold okM; refine ⟨?_, ?_, ?_, ?_, ?_, ?_, ?_, ?_, ?_, ?_, ?_, ?_⟩ <;> intro h <;> omega))) (Fr_uI hF rfl) (by omega) (by omega) (fun k hk => ?_)
    rw [uI_ap]
    by_cases c : k = Int32.toNatClampNeg x2
    · rw [if_pos ⟨rfl, c⟩]
    · rw [if_neg (fun z => c z.2)]
      exact hT k (by omega)
theorem pX12_least {G : jdG} {n : Nat} {Z : jdL} {J : jdJ} {K : Int32 → jdI → jdJ → Prop} {I : jdI} {t : Nat} {s : Sd} {x1 : Int32} (ht : zModel Z t) (hW : WM 7 t I) (hs : TM I t s) (hk : OKT s.1) (hK : ∀ (v : Int32) (I2 : jdI), WM 7 t I2 → Fr (fun a k => (a = t ∧ k = 30) ∨ a = t + 17 ∨ a = t + 30 ∨ a = t + 31 ∨ a = t + 34) I I2 → v.toInt = oLeast s.1 x1 → K v I2 J) : Cl G mX12_least (n + 898) 0 0 [.ref (gb G + t), .int x1] Z I J (qi Z K) := by
  have hb := RM_b hW hs.1
  have hsy := OKT_sy hk
  have hH := hk.1
  have q0 : (0 : Int32).toInt = 0 := rfl
  have q10 : (10 : Int32).toInt = 10 := rfl
  have q9 : (9 : Int32).toInt = 9 := rfl
  have l0 : (0 : Int64).toInt = 0 := rfl
  have l1 : (1 : Int64).toInt = 1 := rfl
  have lx : (Int32.toInt64 x1).toInt = x1.toInt := Int32.toInt_toInt64 _
  obtain ⟨W, C, w0, c0, c8, eT, eV⟩ := least_eq hb hsy hH
  refine eX12_least (n := n + 897) ht ?_
  refine sfX12_in trivial (fun v2 p2 => ⟨fun c2 => ?_, fun c2 => ?_⟩)
  · have c2 := i1 c2
    refine pX12_findComing (N := s.1.1.toNat) (hr := s.1.2.1) ht hW (by omega) (by rw [hs.1.1]; omega) (fun p hp => (hs.1.2.1 p (by omega)).1) (fun p hp => (hH p (by omega)).1) (fun I2 hW2 hF2 hL2 => ?_)
    have hs2 : RM I2 t s.1 := RM_fr hs.1 (by omega) hF2 (by omega) (by omega) (by omega) (by intro a k h1 h2 h3; omega)
    refine pX12_listAll (n := n + 891) ht hW2 (GM_RM hs2 (by omega) (by omega)) (by omega) (by omega) (fun I3 hW3 hF3 hc hL => ?_)
    have hs3 : RM I3 t s.1 := RM_fr hs2 (by omega) hF3 (by omega) (by omega) (by omega) (by intro a k h1 h2 h3; omega)
    have hLF : LF s.1 t I3 := ⟨hs3, LiS_fr hL2 hF3 (by intro k; omega), hc, hL⟩
    have vb := vM_b hb hsy hH (m := 0) (y := 0) (by omega) ⟨fun p hp h => (by rw [bt_ze p (by omega)] at h; cases h), fun i _ h => bt_ze i h, Int.le_refl _⟩ Int32.zero_and
    refine pX12_least_27 (I0 := I3) ht hb hsy hH hLF (fun v I4 hW4 hF4 hv => ?_) 1024 I3 0 hW3 Fr.rf (by decide) rfl (fun k hk => by have : (k : Int) < 0 := hk; omega)
    have hF : Fr (fun a k => (a = t ∧ k = 30) ∨ a = t + 17 ∨ a = t + 30 ∨ a = t + 31 ∨ a = t + 34) I I4 := Fr.tr (Fr.tr (Fr.tr Fr.rf hF2 (by intro a k h; omega)) hF3 (by intro a k h; omega)) hF4 (by intro a k h; omega)
    have ed : (v / 10).toInt = W := by
      rw [i32_divp _ _ (by omega) (by omega), q10, hv, eV]
      omega
    refine ⟨fun n0 => hK _ I4 hW4 hF ?_, fun z0 => hK _ I4 hW4 hF ?_⟩
    · have n0 : ¬ x1.toInt = 0 := fun z => n0 (Int32.toInt_inj.mp (z.trans q0.symm))
      have em := i32_mulc (v / 10) 10 10 rfl (by omega) (by omega)
      have es := i32_sub v (v / 10 * 10) (by omega) (by omega)
      have e9 := i32_sub 9 (v - v / 10 * 10) (by omega) (by omega)
      unfold oLeast
      rw [if_neg n0, if_pos (by omega), e9, es, em, ed, hv, eV, eT, q9]
      omega
    · have z0 : x1.toInt = 0 := by rw [z0]; rfl
      unfold oLeast
      rw [if_pos z0, ed, eT]
      omega
  · have c2 := i0 c2
    exact rfM ht hW (by decide) (by unfold oLeast; rw [if_neg (by omega), if_neg (by omega)]; rfl) (by intro a k h; omega) hK
