/-! the most groups of a set -/
def dl (s g : Int32) : Int32 := s &&& ~~~g
theorem dl_bt (s g : Int32) {i : Nat} (hi : i < 32) : bt (dl s g) i = (bt s i && !(bt g i)) := by
  unfold dl
  rw [bt_an _ _ _ hi, bt_no _ _ hi]
theorem sbs_bt {s g : Int32} : sbs s g = true ↔ ∀ i, i < 32 → bt g i = true → bt s i = true := by
  rw [← sbs_x]
  constructor
  · intro h i hi hg
    have e : bt (g &&& s) i = bt g i := congrArg (fun x => bt x i) h
    rw [bt_an _ _ _ hi, hg, Bool.true_and] at e
    exact e
  · intro h
    refine bt_all (fun i hi => ?_)
    rw [bt_an _ _ _ hi]
    cases a : bt g i with
    | false => rfl
    | true => rw [h i hi a]; rfl
theorem dl_comm (s g h : Int32) : dl (dl s g) h = dl (dl s h) g := bt_all (fun i hi => by
  rw [dl_bt _ _ hi, dl_bt _ _ hi, dl_bt _ _ hi, dl_bt _ _ hi]
  cases bt s i <;> cases bt g i <;> cases bt h i <;> rfl)
theorem dl_r {s g : Int32} (h : 0 ≤ s.toInt) : 0 ≤ (dl s g).toInt ∧ (dl s g).toInt ≤ s.toInt := i32_and' s (~~~g) h
theorem dl_lt {s g : Int32} (h : 0 ≤ s.toInt) (hs : sbs s g = true) (hg : ¬ g = 0) : (dl s g).toInt < s.toInt := by
  have r := dl_r (g := g) h
  by_cases c : dl s g = s
  · exfalso
    apply hg
    refine bt_all (fun i hi => ?_)
    rw [bt_ze i hi]
    have e : bt (dl s g) i = bt s i := congrArg (fun x => bt x i) c
    rw [dl_bt _ _ hi] at e
    cases a : bt g i with
    | false => rfl
    | true =>
      have b := sbs_bt.mp hs i hi a
      rw [a, b] at e
      cases e
  · have : ¬ (dl s g).toInt = s.toInt := fun z => c (Int32.toInt_inj.mp z)
    omega
theorem dl_sub {s s2 g : Int32} (h : sbs s s2 = true) : sbs (dl s g) (dl s2 g) = true := sbs_bt.mpr (fun i hi a => by
  rw [dl_bt _ _ hi] at a ⊢
  rw [Bool.and_eq_true] at a ⊢
  exact ⟨sbs_bt.mp h i hi a.1, a.2⟩)
theorem sbs_tr {a b c : Int32} (h : sbs b a = true) (h2 : sbs c b = true) : sbs c a = true := sbs_bt.mpr (fun i hi g => sbs_bt.mp h2 i hi (sbs_bt.mp h i hi g))
theorem dl_le (s g : Int32) : sbs s (dl s g) = true := sbs_bt.mpr (fun i hi a => by
  rw [dl_bt _ _ hi, Bool.and_eq_true] at a
  exact a.1)
theorem sbs_dl {s g h : Int32} (hg : sbs s g = true) (hn : ∀ i, i < 32 → bt g i = true → bt h i = false) : sbs (dl s h) g = true := sbs_bt.mpr (fun i hi a => by
  rw [dl_bt _ _ hi, sbs_bt.mp hg i hi a, hn i hi a]
  rfl)
/-- the greatest of h over those of a list with p, and b -/
def mxl (p : Int32 → Bool) (h : Int32 → Int) : List Int32 → Int → Int
  | [], b => b
  | g :: L, b => mxl p h L (if p g = true ∧ b < h g then h g else b)
theorem mxl_ge (p : Int32 → Bool) (h : Int32 → Int) : ∀ (L : List Int32) (b : Int), b ≤ mxl p h L b ∧ ∀ g ∈ L, p g = true → h g ≤ mxl p h L b
  | [], b => ⟨Int.le_refl _, fun g hg => by cases hg⟩
  | g :: L, b => by
    have ih := mxl_ge p h L (if p g = true ∧ b < h g then h g else b)
    show b ≤ mxl p h L (if p g = true ∧ b < h g then h g else b) ∧ _
    by_cases c : p g = true ∧ b < h g
    · rw [if_pos c] at ih
      refine ⟨by rw [if_pos c]; have := ih.1; omega, fun x hx hp => ?_⟩
      show h x ≤ mxl p h L (if p g = true ∧ b < h g then h g else b)
      rw [if_pos c]
      rcases List.mem_cons.mp hx with rfl | hx
      · exact ih.1
      · exact ih.2 x hx hp
    · rw [if_neg c] at ih
      refine ⟨by rw [if_neg c]; exact ih.1, fun x hx hp => ?_⟩
      show h x ≤ mxl p h L (if p g = true ∧ b < h g then h g else b)
      rw [if_neg c]
      rcases List.mem_cons.mp hx with rfl | hx
      · have : ¬ b < h x := fun z => c ⟨hp, z⟩
        have := ih.1
        omega
      · exact ih.2 x hx hp
theorem mxl_ex (p : Int32 → Bool) (h : Int32 → Int) : ∀ (L : List Int32) (b : Int), mxl p h L b = b ∨ ∃ g ∈ L, p g = true ∧ mxl p h L b = h g
  | [], b => Or.inl rfl
  | g :: L, b => by
    show mxl p h L (if p g = true ∧ b < h g then h g else b) = b ∨ ∃ x ∈ g :: L, p x = true ∧ mxl p h L (if p g = true ∧ b < h g then h g else b) = h x
    by_cases c : p g = true ∧ b < h g
    · rw [if_pos c]
      rcases mxl_ex p h L (h g) with e | ⟨x, hx, hp, e⟩
      · exact Or.inr ⟨g, List.mem_cons_self, c.1, e⟩
      · exact Or.inr ⟨x, List.mem_cons_of_mem _ hx, hp, e⟩
    · rw [if_neg c]
      rcases mxl_ex p h L b with e | ⟨x, hx, hp, e⟩
      · exact Or.inl e
      · exact Or.inr ⟨x, List.mem_cons_of_mem _ hx, hp, e⟩
theorem mxl_c {p : Int32 → Bool} {h h2 : Int32 → Int} : ∀ (L : List Int32) (b : Int), (∀ g ∈ L, p g = true → h g = h2 g) → mxl p h L b = mxl p h2 L b
  | [], b, _ => rfl
  | g :: L, b, e => by
    show mxl p h L (if p g = true ∧ b < h g then h g else b) = mxl p h2 L (if p g = true ∧ b < h2 g then h2 g else b)
    rw [mxl_c L _ (fun x hx => e x (List.mem_cons_of_mem _ hx))]
    by_cases c : p g = true
    · rw [e g List.mem_cons_self c]
    · rw [if_neg (fun z => c z.1), if_neg (fun z => c z.1)]
def mst (L : List Int32) : Nat → Int32 → Int
  | 0, _ => 0
  | k + 1, s => mxl (sbs s) (fun g => 1 + mst L k (dl s g)) L 0
/-- the groups of a list are sets of somebody -/
def GG (L : List Int32) : Prop := ∀ g ∈ L, 0 < g.toInt ∧ g.toInt ≤ 255
theorem GG_n {L : List Int32} (h : GG L) {g : Int32} (hg : g ∈ L) : ¬ g = 0 := fun e => by
  have := (h g hg).1
  rw [e] at this
  exact absurd this (by decide)
theorem sbs_0 {g : Int32} (h : ¬ g = 0) : ¬ sbs 0 g = true := fun e => h (by
  have := sbs_x.mpr e
  rw [Int32.and_zero] at this
  exact this.symm)
theorem mst_st {L : List Int32} (hL : GG L) : ∀ (k : Nat) (s : Int32), 0 ≤ s.toInt → s.toInt ≤ (k : Int) → mst L (k + 1) s = mst L k s
  | 0, s, h0, h1 => by
    have e : s = 0 := Int32.toInt_inj.mp (show s.toInt = (0 : Int32).toInt by have : (0 : Int32).toInt = 0 := rfl; omega)
    rw [e]
    show mxl (sbs 0) _ L 0 = 0
    rcases mxl_ex (sbs 0) (fun g => 1 + mst L 0 (dl 0 g)) L 0 with q | ⟨g, hg, hp, _⟩
    · exact q
    · exact absurd hp (sbs_0 (GG_n hL hg))
  | k + 1, s, h0, h1 => by
    show mxl (sbs s) (fun g => 1 + mst L (k + 1) (dl s g)) L 0 = mxl (sbs s) (fun g => 1 + mst L k (dl s g)) L 0
    refine mxl_c L 0 (fun g hg hp => ?_)
    have r := dl_r (g := g) h0
    have l := dl_lt h0 hp (GG_n hL hg)
    show 1 + mst L (k + 1) (dl s g) = 1 + mst L k (dl s g)
    rw [mst_st hL k (dl s g) r.1 (by omega)]
def MS (L : List Int32) (s : Int32) : Int := mst L 255 s
theorem MS_r {L : List Int32} (hL : GG L) {s : Int32} (h0 : 0 ≤ s.toInt) (h1 : s.toInt ≤ 255) : MS L s = mxl (sbs s) (fun g => 1 + MS L (dl s g)) L 0 := (mst_st hL 255 s h0 h1).symm
theorem mst_MS {L : List Int32} (hL : GG L) : ∀ (d : Nat) (k : Nat) (s : Int32), 0 ≤ s.toInt → s.toInt ≤ (k : Int) → k + d = 255 → mst L k s = MS L s
  | 0, k, s, h0, h1, h => by
    rw [show k = 255 by omega]
    rfl
  | d + 1, k, s, h0, h1, h => by
    rw [← mst_st hL k s h0 h1]
    exact mst_MS hL d (k + 1) s h0 (by omega) (by omega)
theorem MS_nn {L : List Int32} (hL : GG L) {s : Int32} (h0 : 0 ≤ s.toInt) (h1 : s.toInt ≤ 255) : 0 ≤ MS L s := by
  rw [MS_r hL h0 h1]
  exact (mxl_ge _ _ L 0).1
theorem MS_le {L : List Int32} (hL : GG L) : ∀ (k : Nat) (s : Int32), 0 ≤ s.toInt → s.toInt ≤ 255 → s.toInt ≤ (k : Int) → MS L s ≤ s.toInt
  | 0, s, h0, h1, hk => by
    have e : s = 0 := Int32.toInt_inj.mp (show s.toInt = (0 : Int32).toInt by have : (0 : Int32).toInt = 0 := rfl; omega)
    rw [MS_r hL h0 h1]
    rcases mxl_ex (sbs s) (fun g => 1 + MS L (dl s g)) L 0 with q | ⟨g, hg, hp, _⟩
    · omega
    · rw [e] at hp
      exact absurd hp (sbs_0 (GG_n hL hg))
  | k + 1, s, h0, h1, hk => by
    rw [MS_r hL h0 h1]
    rcases mxl_ex (sbs s) (fun g => 1 + MS L (dl s g)) L 0 with q | ⟨g, hg, hp, q⟩
    · omega
    · rw [q]
      have r := dl_r (g := g) h0
      have l := dl_lt h0 hp (GG_n hL hg)
      have ih := MS_le hL k (dl s g) r.1 (by omega) (by omega)
      show 1 + MS L (dl s g) ≤ _
      omega
theorem MS_1 {L : List Int32} (hL : GG L) {s g : Int32} (h0 : 0 ≤ s.toInt) (h1 : s.toInt ≤ 255) (hg : g ∈ L) (hp : sbs s g = true) : 1 + MS L (dl s g) ≤ MS L s := by
  rw [MS_r hL h0 h1]
  exact (mxl_ge (sbs s) (fun g => 1 + MS L (dl s g)) L 0).2 g hg hp
theorem MS_mo {L : List Int32} (hL : GG L) : ∀ (k : Nat) (s s2 : Int32), 0 ≤ s.toInt → s.toInt ≤ 255 → 0 ≤ s2.toInt → s2.toInt ≤ 255 → s2.toInt ≤ (k : Int) → sbs s s2 = true → MS L s2 ≤ MS L s
  | 0, s, s2, a0, a1, b0, b1, hk, h => by
    have := MS_le hL 0 s2 b0 b1 hk
    have := MS_nn hL a0 a1
    omega
  | k + 1, s, s2, a0, a1, b0, b1, hk, h => by
    rw [MS_r hL b0 b1]
    rcases mxl_ex (sbs s2) (fun g => 1 + MS L (dl s2 g)) L 0 with q | ⟨g, hg, hp, q⟩
    · rw [q]
      exact MS_nn hL a0 a1
    · rw [q]
      have r := dl_r (g := g) b0
      have r2 := dl_r (g := g) a0
      have l := dl_lt b0 hp (GG_n hL hg)
      have ih := MS_mo hL k (dl s g) (dl s2 g) r2.1 (by omega) r.1 (by omega) (by omega) (dl_sub h)
      have := MS_1 hL a0 a1 hg (sbs_tr hp h)
      show 1 + MS L (dl s2 g) ≤ _
      omega
/-- those of s with somebody x, of a list -/
def pw (s : Int32) (x : Nat) (g : Int32) : Bool := sbs s g && bt g x
theorem MS_dp {L : List Int32} (hL : GG L) {x : Nat} {e : Int32} (hx : x < 8) (he : ∀ i, i < 32 → bt e i = decide (i = x)) : ∀ (k : Nat) (s : Int32), 0 ≤ s.toInt → s.toInt ≤ 255 → s.toInt ≤ (k : Int) → bt s x = true → MS L s = mxl (pw s x) (fun g => 1 + MS L (dl s g)) L (MS L (dl s e))
  | 0, s, h0, h1, hk, hb => by
    have z : s = 0 := Int32.toInt_inj.mp (show s.toInt = (0 : Int32).toInt by have : (0 : Int32).toInt = 0 := rfl; omega)
    rw [z, bt_ze x (by omega)] at hb
    cases hb
  | k + 1, s, h0, h1, hk, hb => by
    have ge := mxl_ge (pw s x) (fun g => 1 + MS L (dl s g)) L (MS L (dl s e))
    have re := dl_r (g := e) h0
    have nn := MS_nn hL re.1 (show (dl s e).toInt ≤ 255 by omega)
    apply Int.le_antisymm
    · have ms := MS_r hL h0 h1
      rcases mxl_ex (sbs s) (fun g => 1 + MS L (dl s g)) L 0 with q | ⟨g, hg, hp, q⟩
      · rw [ms, q]
        exact Int.le_trans nn ge.1
      · rw [ms, q]
        show 1 + MS L (dl s g) ≤ _
        by_cases c : bt g x = true
        · exact ge.2 g hg (by unfold pw; rw [hp, c]; rfl)
        · have r := dl_r (g := g) h0
          have l := dl_lt h0 hp (GG_n hL hg)
          have cx : bt g x = false := Bool.eq_false_iff.mpr c
          have hb2 : bt (dl s g) x = true := by rw [dl_bt _ _ (by omega), hb, cx]; rfl
          have ih := MS_dp hL hx he k (dl s g) r.1 (by omega) (by omega) hb2
          rcases mxl_ex (pw (dl s g) x) (fun h => 1 + MS L (dl (dl s g) h)) L (MS L (dl (dl s g) e)) with q2 | ⟨h, hh, hp2, q2⟩
          · rw [q2] at ih
            rw [ih, dl_comm]
            have sg : sbs (dl s e) g = true := sbs_dl hp (fun i hi a => by
              rw [he i hi]
              exact decide_eq_false (fun z => by rw [z, cx] at a; cases a))
            exact Int.le_trans (MS_1 hL re.1 (by omega) hg sg) ge.1
          · rw [q2] at ih
            unfold pw at hp2
            rw [Bool.and_eq_true] at hp2
            have hs : sbs s h = true := sbs_tr hp2.1 (dl_le s g)
            have rh := dl_r (g := h) h0
            have hgx : sbs (dl s h) g = true := sbs_dl hp (fun i hi a => by
              cases b : bt h i with
              | false => rfl
              | true =>
                have := sbs_bt.mp hp2.1 i hi b
                rw [dl_bt _ _ hi, a] at this
                rw [Bool.not_true, Bool.and_false] at this
                cases this)
            have a1 := MS_1 hL rh.1 (show (dl s h).toInt ≤ 255 by omega) hg hgx
            have a2 := ge.2 h hh (by unfold pw; rw [hs, hp2.2]; rfl)
            have a2 : 1 + MS L (dl s h) ≤ _ := a2
            rw [ih]
            show 1 + (1 + MS L (dl (dl s g) h)) ≤ _
            rw [dl_comm]
            omega
    · rcases mxl_ex (pw s x) (fun g => 1 + MS L (dl s g)) L (MS L (dl s e)) with q | ⟨g, hg, hp, q⟩
      · rw [q]
        exact MS_mo hL 255 s (dl s e) h0 h1 re.1 (by omega) (by omega) (dl_le s e)
      · rw [q]
        unfold pw at hp
        rw [Bool.and_eq_true] at hp
        exact MS_1 hL h0 h1 hg hp.1
theorem pX12_mostIn_4 {G : jdG} {n rc rs : Nat} {Z : jdL} {J : jdJ} {K : Int32 → jdI → jdJ → Prop} {I : jdI} {t : Nat} {L : List Int32} {s : Int32} (ht : zModel Z t) (hG : GG L) (h0 : 0 ≤ s.toInt) (h1 : s.toInt ≤ 255) (hc : (I t 30).toInt = (L.length : Int)) (h70 : L.length ≤ 70) (hL : LiS I (t + 30) L)
    (hR : ∀ (K2 : Int32 → jdI → jdJ → Prop) (g : Int32), g ∈ L → sbs s g = true → (∀ v : Int32, v.toInt = MS L (dl s g) → K2 v I J) → Cl G mX12_mostIn n 0 0 [.ref (gb G + t), .int (dl s g)] Z I J (qi Z K2))
    (hK : ∀ v : Int32, v.toInt = MS L s → K v I J) : ∀ f : Nat, ∀ (x2 x3 : Int32), 0 ≤ x3.toInt → x3.toInt + (f : Int) = (L.length : Int) → 0 ≤ x2.toInt ∧ x2.toInt ≤ 256 → mxl (sbs s) (fun g => 1 + MS L (dl s g)) (L.drop x3.toInt.toNat) x2.toInt = MS L s → Jd G mX12_mostIn (jdFm G (qi Z K)) (n + 1) rc rs 4 [(0, .ref (gb G + t)), (1, .int s), (2, .int x2), (3, .int x3)] [] Z I J := by
  intro f
  induction f with
  | zero =>
    intro x2 x3 h3 hf h2 hr
    refine rX12_mostIn_4 ht ⟨fun _ => ?_, fun hx => absurd (Int32.le_iff_toInt_le.mpr (by omega)) hx⟩
    rw [drop_end (by omega)] at hr
    exact hK x2 hr
  | succ f ih =>
    intro x2 x3 h3 hf h2 hr
    have q1 : (1 : Int32).toInt = 1 := rfl
    have e3 := i32_add x3 1 (by omega) (by omega)
    have n3 := tn_eq x3
    have en : (x3 + 1).toInt.toNat = x3.toInt.toNat + 1 := by omega
    have hd := LiS_drop hL (show x3.toInt.toNat < L.length by omega)
    have hm : I (t + 30) (Int32.toNatClampNeg x3) ∈ L := List.mem_of_mem_drop (i := x3.toInt.toNat) (by rw [hd]; exact List.mem_cons_self)
    rw [hd] at hr
    have hr : mxl (sbs s) (fun g => 1 + MS L (dl s g)) (L.drop (x3.toInt.toNat + 1)) (if sbs s (I (t + 30) (Int32.toNatClampNeg x3)) = true ∧ x2.toInt < 1 + MS L (dl s (I (t + 30) (Int32.toNatClampNeg x3))) then 1 + MS L (dl s (I (t + 30) (Int32.toNatClampNeg x3))) else x2.toInt) = MS L s := hr
    refine rX12_mostIn_4 ht ⟨fun hx => by have := Int32.le_iff_toInt_le.mp hx; omega, fun _ => ⟨vp_of (by omega) (by omega), fun hz => ?_, fun hz => ⟨vp_of (by omega) (by omega), ?_⟩⟩⟩
    · rw [if_neg (fun z => hz (sbs_m.mpr z.1))] at hr
      refine ih x2 (x3 + 1) (by omega) (by omega) h2 ?_
      rw [en]
      exact hr
    · have hb := sbs_m.mp hz
      have r := dl_r (g := I (t + 30) (Int32.toNatClampNeg x3)) h0
      have l1 := MS_le hG 255 _ r.1 (show _ ≤ (255 : Int) by omega) (by omega)
      have l2 := MS_nn hG r.1 (show (dl s (I (t + 30) (Int32.toNatClampNeg x3))).toInt ≤ 255 by omega)
      rw [xo_m1]
      refine hR _ _ hm hb (fun v hv => ?_)
      have e1 := i32_add 1 v (by omega) (by omega)
      refine ⟨fun hx => ?_, fun hx => ?_⟩
      · have hx := Int32.le_iff_toInt_le.mp hx
        rw [if_neg (fun z => by have := z.2; omega)] at hr
        refine ih x2 (x3 + 1) (by omega) (by omega) h2 ?_
        rw [en]
        exact hr
      · have hx := mt Int32.le_iff_toInt_le.mpr hx
        rw [if_pos ⟨hb, by omega⟩] at hr
        refine ih (1 + v) (x3 + 1) (by omega) (by omega) (by omega) ?_
        rw [en, e1, hv, q1]
        exact hr
theorem pX12_mostIn {G : jdG} {Z : jdL} {J : jdJ} {I : jdI} {t : Nat} {L : List Int32} (ht : zModel Z t) (hG : GG L) (hc : (I t 30).toInt = (L.length : Int)) (h70 : L.length ≤ 70) (hL : LiS I (t + 30) L) : ∀ (k n : Nat) (K : Int32 → jdI → jdJ → Prop) (s : Int32), 0 ≤ s.toInt → s.toInt ≤ 255 → s.toInt ≤ (k : Int) → (∀ v : Int32, v.toInt = MS L s → K v I J) → Cl G mX12_mostIn (n + 1 + k) 0 0 [.ref (gb G + t), .int s] Z I J (qi Z K) := by
  intro k
  induction k with
  | zero =>
    intro n K s h0 h1 hk hK
    have z : s = 0 := Int32.toInt_inj.mp (show s.toInt = (0 : Int32).toInt by have : (0 : Int32).toInt = 0 := rfl; omega)
    refine eX12_mostIn ht ?_
    exact pX12_mostIn_4 ht hG h0 h1 hc h70 hL (fun K2 g hg hb => by rw [z] at hb; exact absurd hb (sbs_0 (GG_n hG hg))) hK L.length 0 0 (by decide) (by show (0 : Int) + _ = _; omega) (by decide) (MS_r hG h0 h1).symm
  | succ k ih =>
    intro n K s h0 h1 hk hK
    refine eX12_mostIn ht ?_
    refine pX12_mostIn_4 ht hG h0 h1 hc h70 hL (fun K2 g hg hb hK2 => ?_) hK L.length 0 0 (by decide) (by show (0 : Int) + _ = _; omega) (by decide) (MS_r hG h0 h1).symm
    have r := dl_r (g := g) h0
    have l := dl_lt h0 hb (GG_n hG hg)
    exact ih n K2 (dl s g) r.1 (by omega) (by omega) hK2
/-- the first group without which one fewer could go -/
def bst (L : List Int32) (s : Int32) : List Int32 → Int32
  | [] => 0
  | g :: M => if sbs s g = true ∧ MS L (dl s g) = MS L s - 1 then g else bst L s M
theorem pX12_bestIn {G : jdG} {n : Nat} {Z : jdL} {J : jdJ} {K : Int32 → jdI → jdJ → Prop} {I : jdI} {t : Nat} {L : List Int32} {s : Int32} (ht : zModel Z t) (hG : GG L) (h0 : 0 ≤ s.toInt) (h1 : s.toInt ≤ 255) (hc : (I t 30).toInt = (L.length : Int)) (h70 : L.length ≤ 70) (hL : LiS I (t + 30) L) (hK : K (bst L s L) I J) : Cl G mX12_bestIn (n + 257) 0 0 [.ref (gb G + t), .int s] Z I J (qi Z K) := by
  have lp : ∀ x2 : Int32, x2.toInt = MS L s → ∀ f : Nat, ∀ x3 : Int32, 0 ≤ x3.toInt → x3.toInt + (f : Int) = (L.length : Int) → bst L s (L.drop x3.toInt.toNat) = bst L s L → Jd G mX12_bestIn (jdFm G (qi Z K)) (n + 257) 0 0 8 [(0, .ref (gb G + t)), (1, .int s), (2, .int x2), (3, .int x3)] [] Z I J := by
    intro x2 h2 f
    induction f with
    | zero =>
      intro x3 h3 hf hr
      refine rX12_bestIn_8 ht ⟨fun _ => ?_, fun hx => absurd (Int32.le_iff_toInt_le.mpr (by omega)) hx⟩
      rw [drop_end (by omega)] at hr
      rw [← hr] at hK
      exact hK
    | succ f ih =>
      intro x3 h3 hf hr
      have q1 : (1 : Int32).toInt = 1 := rfl
      have e3 := i32_add x3 1 (by omega) (by omega)
      have n3 := tn_eq x3
      have en : (x3 + 1).toInt.toNat = x3.toInt.toNat + 1 := by omega
      have ls := MS_le hG 255 s h0 h1 (by omega)
      have ln := MS_nn hG h0 h1
      have e2 := i32_sub x2 1 (by omega) (by omega)
      have hd := LiS_drop hL (show x3.toInt.toNat < L.length by omega)
      rw [hd] at hr
      have hr : (if sbs s (I (t + 30) (Int32.toNatClampNeg x3)) = true ∧ MS L (dl s (I (t + 30) (Int32.toNatClampNeg x3))) = MS L s - 1 then I (t + 30) (Int32.toNatClampNeg x3) else bst L s (L.drop (x3.toInt.toNat + 1))) = bst L s L := hr
      refine rX12_bestIn_8 ht ⟨fun hx => by have := Int32.le_iff_toInt_le.mp hx; omega, fun _ => ⟨vp_of (by omega) (by omega), fun hz => ?_, fun hz => ⟨vp_of (by omega) (by omega), ?_⟩⟩⟩
      · rw [if_neg (fun z => hz (sbs_m.mpr z.1))] at hr
        refine ih (x3 + 1) (by omega) (by omega) ?_
        rw [en]
        exact hr
      · have hb := sbs_m.mp hz
        have r := dl_r (g := I (t + 30) (Int32.toNatClampNeg x3)) h0
        rw [xo_m1]
        refine pX12_mostIn ht hG hc h70 hL 255 n _ _ r.1 (show (dl s (I (t + 30) (Int32.toNatClampNeg x3))).toInt ≤ 255 by omega) (show (dl s (I (t + 30) (Int32.toNatClampNeg x3))).toInt ≤ ((255 : Nat) : Int) by omega) (fun v hv => ?_)
        have hv : v.toInt = MS L (dl s (I (t + 30) (Int32.toNatClampNeg x3))) := hv
        refine ⟨fun hx => ?_, fun hx => ⟨vp_of (by omega) (by omega), ?_⟩⟩
        · rw [if_neg (fun z => hx (Int32.toInt_inj.mp (by have := z.2; omega)))] at hr
          refine ih (x3 + 1) (by omega) (by omega) ?_
          rw [en]
          exact hr
        · have hx := congrArg Int32.toInt hx
          rw [if_pos ⟨hb, by omega⟩] at hr
          rw [← hr] at hK
          exact hK
  refine eX12_bestIn ht ?_
  refine pX12_mostIn ht hG hc h70 hL 255 n _ s h0 h1 h1 (fun v hv => ?_)
  exact lp v hv L.length 0 (by decide) (by show (0 : Int) + _ = _; omega) rfl
/-! X's table -/
theorem low_all : ∀ s : Fin 256, s.val ≠ 0 → ∃ x : Fin 8, bt (Int32.ofNat s.val) x.val = true ∧ (Int32.ofNat s.val &&& (-(Int32.ofNat s.val))) = (1 : Int32) <<< (Int32.ofNat x.val &&& 31) := by decide +kernel
theorem bt_1b : ∀ p : Fin 8, ∀ q : Fin 32, bt ((1 : Int32) <<< (Int32.ofNat p.val &&& 31)) q.val = decide (q.val = p.val) := by decide +kernel
theorem low {s : Int32} (h0 : 0 < s.toInt) (h1 : s.toInt ≤ 255) : ∃ x, x < 8 ∧ bt s x = true ∧ ∀ i, i < 32 → bt (s &&& (-s)) i = decide (i = x) := by
  obtain ⟨x, hb, he⟩ := low_all ⟨s.toInt.toNat, by omega⟩ (show s.toInt.toNat ≠ 0 by omega)
  rw [← i32_ofNat (show 0 ≤ s.toInt by omega)] at hb he
  exact ⟨x.val, x.isLt, hb, fun i hi => by rw [he]; exact bt_1b x ⟨i, hi⟩⟩
theorem xor_dl {s g : Int32} (h : sbs s g = true) : s ^^^ g = dl s g := bt_all (fun i hi => by
  rw [bt_xo _ _ _ hi, dl_bt _ _ hi]
  cases a : bt g i with
  | false => cases bt s i <;> rfl
  | true => rw [sbs_bt.mp h i hi a]; rfl)
theorem and_e {g e : Int32} {x : Nat} (hx : x < 32) (he : ∀ i, i < 32 → bt e i = decide (i = x)) : (g &&& e) = 0 ↔ bt g x = false := by
  constructor
  · intro h
    have q : bt (g &&& e) x = bt 0 x := congrArg (fun z => bt z x) h
    rw [bt_an _ _ _ hx, he x hx, decide_eq_true rfl, Bool.and_true, bt_ze x hx] at q
    exact q
  · intro h
    refine bt_all (fun i hi => ?_)
    rw [bt_an _ _ _ hi, he i hi, bt_ze i hi]
    by_cases c : i = x
    · rw [c, h, Bool.false_and]
    · rw [decide_eq_false c, Bool.and_false]
def TB (I : jdI) (L : List Int32) (b : Nat) : Prop := ∀ v : Nat, v < b → (I (13 + 5) v).toInt = MS L (Int32.ofNat v)
theorem ofN_i {v : Nat} (h : v < 1000) : (Int32.ofNat v).toInt = (v : Int) := nI_toInt (by omega)
theorem pw2 : ∀ N : Fin 9, 1 ≤ (2 : Int) ^ N.val ∧ (2 : Int) ^ N.val ≤ 256 := by decide
theorem TB_at {I : jdI} {L : List Int32} {b : Nat} (h : TB I L b) {x : Int32} (h0 : 0 ≤ x.toInt) (h1 : x.toInt < (b : Int)) : (I (13 + 5) (Int32.toNatClampNeg x)).toInt = MS L x := by
  have e := h x.toInt.toNat (by omega)
  rw [← i32_ofNat h0] at e
  exact e
theorem pX8_countMost_36 {G : jdG} {n rc rs : Nat} {Z : jdL} {J : jdJ} {K : jdI → jdJ → Prop} {I : jdI} {L : List Int32} {x : Nat} {x1 x2 : Int32} (ht : zTies Z 13) (hG : GG L) (h0 : 0 < x1.toInt) (h1 : x1.toInt ≤ 255) (hx : x < 8) (he : ∀ i, i < 32 → bt x2 i = decide (i = x)) (hc : (I 13 8).toInt = (L.length : Int)) (h70 : L.length ≤ 70) (hL : LiS I (13 + 3) L) (hT : TB I L x1.toInt.toNat)
    (hO : ∀ x3 : Int32, x3.toInt = MS L x1 → Jd G mX8_countMost (jdFm G (qv Z K)) n rc rs 9 [(0, .ref (gb G + 13)), (1, .int (x1 + 1))] [] Z (uI I (13 + 5) (Int32.toNatClampNeg x1) x3) J) : ∀ f : Nat, ∀ (x3 x4 : Int32), 0 ≤ x4.toInt → x4.toInt + (f : Int) = (L.length : Int) → 0 ≤ x3.toInt ∧ x3.toInt ≤ 256 → mxl (pw x1 x) (fun g => 1 + MS L (dl x1 g)) (L.drop x4.toInt.toNat) x3.toInt = MS L x1 → Jd G mX8_countMost (jdFm G (qv Z K)) n rc rs 36 [(0, .ref (gb G + 13)), (1, .int x1), (2, .int x2), (3, .int x3), (4, .int x4)] [] Z I J := by
  intro f
  induction f with
  | zero =>
    intro x3 x4 h4 hf h3 hr
    refine rX8_countMost_36 ht ⟨fun _ => ⟨vp_of (by omega) (by omega), ?_⟩, fun hz => absurd (Int32.le_iff_toInt_le.mpr (by omega)) hz⟩
    rw [drop_end (by omega)] at hr
    exact hO x3 hr
  | succ f ih =>
    intro x3 x4 h4 hf h3 hr
    have q1 : (1 : Int32).toInt = 1 := rfl
    have e4 := i32_add x4 1 (by omega) (by omega)
    have n4 := tn_eq x4
    have en : (x4 + 1).toInt.toNat = x4.toInt.toNat + 1 := by omega
    have hd := LiS_drop hL (show x4.toInt.toNat < L.length by omega)
    have hm : I (13 + 3) (Int32.toNatClampNeg x4) ∈ L := List.mem_of_mem_drop (i := x4.toInt.toNat) (by rw [hd]; exact List.mem_cons_self)
    rw [hd] at hr
    have hr : mxl (pw x1 x) (fun g => 1 + MS L (dl x1 g)) (L.drop (x4.toInt.toNat + 1)) (if pw x1 x (I (13 + 3) (Int32.toNatClampNeg x4)) = true ∧ x3.toInt < 1 + MS L (dl x1 (I (13 + 3) (Int32.toNatClampNeg x4))) then 1 + MS L (dl x1 (I (13 + 3) (Int32.toNatClampNeg x4))) else x3.toInt) = MS L x1 := hr
    have skip : ¬ (pw x1 x (I (13 + 3) (Int32.toNatClampNeg x4)) = true ∧ x3.toInt < 1 + MS L (dl x1 (I (13 + 3) (Int32.toNatClampNeg x4)))) → Jd G mX8_countMost (jdFm G (qv Z K)) n rc rs 36 [(0, .ref (gb G + 13)), (1, .int x1), (2, .int x2), (3, .int x3), (4, .int (x4 + 1))] [] Z I J := fun hz => by
      rw [if_neg hz] at hr
      refine ih x3 (x4 + 1) (by omega) (by omega) h3 ?_
      rw [en]
      exact hr
    have ae := and_e (g := I (13 + 3) (Int32.toNatClampNeg x4)) (show x < 32 by omega) he
    refine rX8_countMost_36 ht ⟨fun hz => by have := Int32.le_iff_toInt_le.mp hz; omega, fun _ => ⟨vp_of (by omega) (by omega), fun hz => skip (fun z => ?_), fun hz => ⟨fun hz2 => skip (fun z => ?_), fun hz2 => ?_⟩⟩⟩
    · have z := z.1
      unfold pw at z
      rw [ae.mp hz, Bool.and_false] at z
      cases z
    · have z := z.1
      unfold pw at z
      rw [Bool.and_eq_true] at z
      exact hz2 (sbs_x.mpr z.1)
    · have hb := sbs_x.mp hz2
      have hbx : bt (I (13 + 3) (Int32.toNatClampNeg x4)) x = true := by
        cases c : bt (I (13 + 3) (Int32.toNatClampNeg x4)) x with
        | true => rfl
        | false => exact absurd (ae.mpr c) hz
      have r := dl_r (g := I (13 + 3) (Int32.toNatClampNeg x4)) (show 0 ≤ x1.toInt by omega)
      have l := dl_lt (show 0 ≤ x1.toInt by omega) hb (GG_n hG hm)
      have tb := TB_at hT r.1 (by omega)
      have l1 := MS_le hG 255 _ r.1 (show _ ≤ (255 : Int) by omega) (by omega)
      have l2 := MS_nn hG r.1 (show (dl x1 (I (13 + 3) (Int32.toNatClampNeg x4))).toInt ≤ 255 by omega)
      have hpw : pw x1 x (I (13 + 3) (Int32.toNatClampNeg x4)) = true := by
        unfold pw
        rw [hb, hbx]
        rfl
      rw [xor_dl hb]
      refine ⟨vp_of (by omega) (by omega), fun hv => skip (fun z => ?_), fun hv => ⟨vp_of (by omega) (by omega), ?_⟩⟩
      · have hv := Int32.lt_iff_toInt_lt.mp hv
        have := z.2
        omega
      · have hv := mt Int32.lt_iff_toInt_lt.mpr hv
        have e1 := i32_add 1 (I (13 + 5) (Int32.toNatClampNeg (dl x1 (I (13 + 3) (Int32.toNatClampNeg x4))))) (by omega) (by omega)
        rw [if_pos ⟨hpw, by omega⟩] at hr
        refine ih _ (x4 + 1) (by omega) (by omega) (by omega) ?_
        rw [en, e1, tb, q1]
        exact hr
theorem pX8_countMost_9 {G : jdG} {n rc rs : Nat} {Z : jdL} {J : jdJ} {K : jdI → jdJ → Prop} {I0 : jdI} {L : List Int32} {N B : Nat} (ht : zTies Z 13) (hG : GG L) (hN : N ≤ 8) (hB : (B : Int) = 2 ^ N) (h70 : L.length ≤ 70) (hK : ∀ I2 : jdI, WX I2 → Fr (fun a _ => a = 13 + 5) I0 I2 → TB I2 L B → K I2 J) : ∀ f : Nat, ∀ (I : jdI) (x1 : Int32), WX I → Fr (fun a _ => a = 13 + 5) I0 I → (I 13 6).toInt = (N : Int) → (I 13 8).toInt = (L.length : Int) → LiS I (13 + 3) L → 1 ≤ x1.toInt → x1.toInt + (f : Int) = (B : Int) → TB I L x1.toInt.toNat → Jd G mX8_countMost (jdFm G (qv Z K)) n rc rs 9 [(0, .ref (gb G + 13)), (1, .int x1)] [] Z I J := by
  have hp2 := pw2 ⟨N, by omega⟩
  have hp2 : 1 ≤ (2 : Int) ^ N ∧ (2 : Int) ^ N ≤ 256 := hp2
  intro f
  induction f with
  | zero =>
    intro I x1 hW hF h6 hc hL h1 hf hT
    have ev := ev_of (x := I 13 6) (by omega) (by omega)
    have ev1 : ((1 : Int32) <<< ((I 13 6) &&& 31)).toInt = 2 ^ N := by rw [ev.1, show (I 13 6).toInt.toNat = N by omega]
    refine rX8_countMost_9 ht ⟨fun _ => ?_, fun hz => absurd (Int32.le_iff_toInt_le.mpr (by omega)) hz⟩
    rw [show x1.toInt.toNat = B by omega] at hT
    exact hK I hW hF hT
  | succ f ih =>
    intro I x1 hW hF h6 hc hL h1 hf hT
    have ev := ev_of (x := I 13 6) (by omega) (by omega)
    have ev1 : ((1 : Int32) <<< ((I 13 6) &&& 31)).toInt = 2 ^ N := by rw [ev.1, show (I 13 6).toInt.toNat = N by omega]
    have q1 : (1 : Int32).toInt = 1 := rfl
    have e1 := i32_add x1 1 (by omega) (by omega)
    have n1 := tn_eq x1
    obtain ⟨x, hx, hb, he⟩ := low (s := x1) (by omega) (by omega)
    have hs : sbs x1 (x1 &&& (-x1)) = true := sbs_bt.mpr (fun i hi a => by
      rw [he i hi, decide_eq_true_iff] at a
      rw [a]
      exact hb)
    have hne : ¬ (x1 &&& (-x1)) = 0 := fun z => by
      have := he x (by omega)
      rw [z, bt_ze x (by omega), decide_eq_true rfl] at this
      cases this
    have r := dl_r (g := x1 &&& (-x1)) (show 0 ≤ x1.toInt by omega)
    have l := dl_lt (show 0 ≤ x1.toInt by omega) hs hne
    have tb := TB_at hT r.1 (by omega)
    have l1 := MS_le hG 255 _ r.1 (show _ ≤ (255 : Int) by omega) (by omega)
    have l2 := MS_nn hG r.1 (show (dl x1 (x1 &&& (-x1))).toInt ≤ 255 by omega)
    refine rX8_countMost_9 ht ⟨fun hz => by have := Int32.le_iff_toInt_le.mp hz; omega, fun _ => ?_⟩
    rw [xor_dl hs]
    refine ⟨vp_of (by omega) (by omega), ?_⟩
    refine pX8_countMost_36 ht hG (by omega) (by omega) hx he hc h70 hL hT (fun x3 h3 => ?_) L.length _ 0 (by decide) (by show (0 : Int) + _ = _; omega) (by omega) ?_
    · have f0 : Fr (fun a _ => a = 13 + 5) I (uI I (13 + 5) (Int32.toNatClampNeg x1) x3) := Fr_uI Fr.rf rfl
      have hw := WX_f hW
      refine ih _ (x1 + 1) (WX_uI hW (by first | exact okXo (by decide) | (unfold okX; refine ⟨?_, ?_, ?_, ?_, ?_, ?_, ?_, ?_, ?_, ?_⟩ <;> intro h <;> omega))) (Fr.tr hF f0 (fun _ _ h => h)) (by rw [f0 13 6 (by omega)]; exact h6) (by rw [f0 13 8 (by omega)]; exact hc) (LiS_fr hL f0 (by intro k; omega)) (by omega) (by omega) (fun v hv => ?_)
      rw [uI_ap]
      by_cases c : v = Int32.toNatClampNeg x1
      · rw [if_pos ⟨rfl, c⟩, h3, show v = x1.toInt.toNat by omega, ← i32_ofNat (show 0 ≤ x1.toInt by omega)]
      · rw [if_neg (fun z => c z.2)]
        exact hT v (by omega)
    · rw [tb, show (0 : Int32).toInt.toNat = 0 from rfl, List.drop_zero]
      exact (MS_dp hG hx he 255 x1 (by omega) (by omega) (by omega) hb).symm
theorem pX8_countMost {G : jdG} {n : Nat} {Z : jdL} {J : jdJ} {K : jdI → jdJ → Prop} {I : jdI} {L : List Int32} {N B : Nat} (ht : zTies Z 13) (hW : WX I) (hG : GG L) (hN : N ≤ 8) (hB : (B : Int) = 2 ^ N) (h70 : L.length ≤ 70) (h6 : (I 13 6).toInt = (N : Int)) (hc : (I 13 8).toInt = (L.length : Int)) (hL : LiS I (13 + 3) L) (hK : ∀ I2 : jdI, WX I2 → Fr (fun a _ => a = 13 + 5) I I2 → TB I2 L B → K I2 J) : Cl G mX8_countMost n 0 0 [.ref (gb G + 13)] Z I J (qv Z K) := by
  have hp2 := pw2 ⟨N, by omega⟩
  have hp2 : 1 ≤ (2 : Int) ^ N ∧ (2 : Int) ^ N ≤ 256 := hp2
  have hw := WX_f hW
  refine eX8_countMost ht ?_
  have f0 : Fr (fun a _ => a = 13 + 5) I (uI I (13 + 5) 0 0) := Fr_uI Fr.rf rfl
  refine pX8_countMost_9 ht hG hN hB h70 hK (B - 1) _ 1 (WX_uI hW (by first | exact okXo (by decide) | (unfold okX; refine ⟨?_, ?_, ?_, ?_, ?_, ?_, ?_, ?_, ?_, ?_⟩ <;> intro h <;> omega))) f0 (by rw [f0 13 6 (by omega)]; exact h6) (by rw [f0 13 8 (by omega)]; exact hc) (LiS_fr hL f0 (by intro k; omega)) (by decide) (by show (1 : Int) + _ = _; omega) (fun v hv => ?_)
  have hv : v < 1 := hv
  rw [show v = 0 by omega, uI_ap, if_pos ⟨rfl, rfl⟩]
  have z : MS L (Int32.ofNat 0) = 0 := by
    have a := MS_le hG 0 0 (by decide) (by decide) (by decide)
    have b := MS_nn hG (s := 0) (by decide) (by decide)
    have q0 : (0 : Int32).toInt = 0 := rfl
    show MS L 0 = 0
    omega
  rw [z]
  rfl
def PB (N : Nat) (L : List Int32) (I : jdI) : Prop := (I 13 6).toInt = (N : Int) ∧ (I 13 8).toInt = (L.length : Int) ∧ LiS I (13 + 3) L ∧ (¬ (I 13 10).toInt = 0 → TB I L (2 ^ N))
theorem bt_hi2 {x : Int32} {N i : Nat} (h0 : 0 ≤ x.toInt) (h1 : x.toInt < 2 ^ N) (hi : N ≤ i) (h : i < 32) : bt x i = false := by
  rw [bt_lsb _ _ h]
  have e := i32_nat x h0
  have hp : (2 : Int) ^ N = ((2 ^ N : Nat) : Int) := by simp
  exact Nat.testBit_lt_two_pow (Nat.lt_of_lt_of_le (show x.toBitVec.toNat < 2 ^ N by omega) (Nat.pow_le_pow_right (by omega) hi))
theorem and_ev {x y : Int32} {N : Nat} (hN : N ≤ 8) (hy : y.toInt = (N : Int)) (h0 : 0 ≤ x.toInt) (h1 : x.toInt < 2 ^ N) : x &&& (((1 : Int32) <<< (y &&& 31)) - 1) = x := bt_all (fun i hi => by
  rw [bt_an _ _ _ hi]
  by_cases c : i < N
  · rw [bt_ev (x := y) ⟨by omega, by omega⟩ (show i < 8 by omega), decide_eq_true (show i < y.toInt.toNat by omega), Bool.and_true]
  · rw [bt_hi2 h0 h1 (by omega) hi, Bool.false_and])
theorem pX8_mostFrom {G : jdG} {n : Nat} {Z : jdL} {J : jdJ} {K : Int32 → jdI → jdJ → Prop} {I : jdI} {L : List Int32} {N : Nat} {x1 : Int32} (ht : zTies Z 13) (hW : WX I) (hP : PB N L I) (hG : GG L) (hN : N ≤ 8) (h70 : L.length ≤ 70) (h0 : 0 ≤ x1.toInt) (h1 : x1.toInt < 2 ^ N) (hK : ∀ (v : Int32) (I2 : jdI), WX I2 → PB N L I2 → Fr (fun a k => (a = 13 ∧ k = 10) ∨ a = 13 + 5) I I2 → v.toInt = MS L x1 → K v I2 J) : Cl G mX8_mostFrom (n + 1) 0 0 [.ref (gb G + 13), .int x1] Z I J (qi Z K) := by
  have hp2 := pw2 ⟨N, by omega⟩
  have hp2 : 1 ≤ (2 : Int) ^ N ∧ (2 : Int) ^ N ≤ 256 := hp2
  have hpn : ((2 ^ N : Nat) : Int) = 2 ^ N := by simp
  obtain ⟨p1, p2, p3, p4⟩ := hP
  refine eX8_mostFrom ht ⟨fun hz => ?_, fun hz => ?_⟩
  · have hz := i1 hz
    refine eX8_everybody ht ?_
    rw [and_ev hN p1 h0 h1]
    exact ⟨vp_of (by omega) (by omega), hK _ I hW ⟨p1, p2, p3, p4⟩ Fr.rf (TB_at (p4 hz) h0 (by omega))⟩
  · refine pX8_countMost ht hW hG hN hpn h70 p1 p2 p3 (fun I4 hW4 hF4 hT4 => ?_)
    have f0 : Fr (fun a k => a = 13 ∧ k = 10) I4 (uI I4 13 10 1) := Fr_uI Fr.rf ⟨rfl, rfl⟩
    have hw4 := WX_f hW4
    have w1 : WX (uI I4 13 10 1) := WX_uI hW4 (by first | exact okXo (by decide) | (unfold okX; refine ⟨?_, ?_, ?_, ?_, ?_, ?_, ?_, ?_, ?_, ?_⟩ <;> intro h <;> omega))
    have tb : TB (uI I4 13 10 1) L (2 ^ N) := fun v hv => by rw [uI_n _ _ _ (by omega)]; exact hT4 v hv
    have e6 : ((uI I4 13 10 1) 13 6).toInt = (N : Int) := by rw [f0 13 6 (by omega), hF4 13 6 (by omega)]; exact p1
    have e8 : ((uI I4 13 10 1) 13 8).toInt = (L.length : Int) := by rw [f0 13 8 (by omega), hF4 13 8 (by omega)]; exact p2
    have eL := LiS_fr (LiS_fr p3 hF4 (by intro k; omega)) f0 (by intro k; omega)
    generalize (uI I4 13 10 1) = I6 at f0 w1 tb e6 e8 eL ⊢
    refine eX8_everybody ht ?_
    rw [and_ev hN e6 h0 h1]
    exact ⟨vp_of (by omega) (by omega), hK _ I6 w1 ⟨e6, e8, eL, fun _ => tb⟩ (Fr.tr (Fr.tr Fr.rf hF4 (by intro a k h; omega)) f0 (by intro a k h; omega)) (TB_at tb h0 (by omega))⟩
