/-! what a coachman sends -/
theorem chs_A {L : List Int32} {s : Int32} {fw : Int32 → Int32} (hG : GG L) (h0 : 0 ≤ s.toInt) (h1 : s.toInt ≤ 255) (hf : ∀ g, g ∈ L → sbs s g = true → (fw g).toInt = MS L (dl s g)) : ∀ (M : List Int32) (c w : Int32), ¬ c = 0 → w.toInt = MS L s - 1 → (∀ g ∈ M, g ∈ L) → chs fw s M c w = c
  | [], c, w, hc, hw, hM => rfl
  | g :: M, c, w, hc, hw, hM => by
    by_cases hb : sbs s g = true
    · have hg := hM g List.mem_cons_self
      have := MS_1 hG h0 h1 hg hb
      have := hf g hg hb
      rw [chs_k hb (fun z => z.elim hc (fun z => by omega))]
      exact chs_A hG h0 h1 hf M c w hc hw (fun x hx => hM x (List.mem_cons_of_mem _ hx))
    · rw [chs_n hb]
      exact chs_A hG h0 h1 hf M c w hc hw (fun x hx => hM x (List.mem_cons_of_mem _ hx))
theorem bst_n {L M : List Int32} {s g : Int32} (h : ¬ (sbs s g = true ∧ MS L (dl s g) = MS L s - 1)) : bst L s (g :: M) = bst L s M := if_neg h
theorem bst_y {L M : List Int32} {s g : Int32} (h : sbs s g = true ∧ MS L (dl s g) = MS L s - 1) : bst L s (g :: M) = g := if_pos h
theorem chs_B {L : List Int32} {s : Int32} {fw : Int32 → Int32} (hG : GG L) (h0 : 0 ≤ s.toInt) (h1 : s.toInt ≤ 255) (hf : ∀ g, g ∈ L → sbs s g = true → (fw g).toInt = MS L (dl s g)) : ∀ (M : List Int32) (c w : Int32), (c = 0 ∨ w.toInt < MS L s - 1) → (∀ g ∈ M, g ∈ L) → (∃ g ∈ M, sbs s g = true ∧ MS L (dl s g) = MS L s - 1) → chs fw s M c w = bst L s M
  | [], c, w, hc, hM, he => by
    obtain ⟨g, hg, _⟩ := he
    cases hg
  | g :: M, c, w, hc, hM, he => by
    have hg := hM g List.mem_cons_self
    have hM2 : ∀ x ∈ M, x ∈ L := fun x hx => hM x (List.mem_cons_of_mem _ hx)
    by_cases hb : sbs s g = true
    · have f1 := hf g hg hb
      have l1 := MS_1 hG h0 h1 hg hb
      by_cases hy : MS L (dl s g) = MS L s - 1
      · rw [bst_y ⟨hb, hy⟩, chs_y hb (hc.elim Or.inl (fun z => Or.inr (by omega)))]
        exact chs_A hG h0 h1 hf M g (fw g) (GG_n hG hg) (by omega) hM2
      · have he2 : ∃ g ∈ M, sbs s g = true ∧ MS L (dl s g) = MS L s - 1 := by
          obtain ⟨x, hx, hx2, hx3⟩ := he
          rcases List.mem_cons.mp hx with rfl | hx
          · exact absurd hx3 hy
          · exact ⟨x, hx, hx2, hx3⟩
        rw [bst_n (fun z => hy z.2)]
        by_cases hk : c = 0 ∨ w.toInt < (fw g).toInt
        · rw [chs_y hb hk]
          exact chs_B hG h0 h1 hf M g (fw g) (Or.inr (by omega)) hM2 he2
        · rw [chs_k hb hk]
          exact chs_B hG h0 h1 hf M c w hc hM2 he2
    · have he2 : ∃ g ∈ M, sbs s g = true ∧ MS L (dl s g) = MS L s - 1 := by
        obtain ⟨x, hx, hx2, hx3⟩ := he
        rcases List.mem_cons.mp hx with rfl | hx
        · exact absurd hx2 hb
        · exact ⟨x, hx, hx2, hx3⟩
      rw [chs_n hb, bst_n (fun z => hb z.1)]
      exact chs_B hG h0 h1 hf M c w hc hM2 he2
theorem chs_C {L : List Int32} {s : Int32} {fw : Int32 → Int32} : ∀ (M : List Int32) (c w : Int32), (∀ g ∈ M, ¬ sbs s g = true) → chs fw s M c w = c ∧ bst L s M = 0
  | [], c, w, _ => ⟨rfl, rfl⟩
  | g :: M, c, w, h => by
    have hb := h g List.mem_cons_self
    rw [chs_n hb, bst_n (fun z => hb z.1)]
    exact chs_C M c w (fun x hx => h x (List.mem_cons_of_mem _ hx))
theorem chs_bst {L : List Int32} {s : Int32} {fw : Int32 → Int32} (hG : GG L) (h0 : 0 ≤ s.toInt) (h1 : s.toInt ≤ 255) (hf : ∀ g, g ∈ L → sbs s g = true → (fw g).toInt = MS L (dl s g)) : chs fw s L 0 0 = bst L s L := by
  by_cases c : ∃ g ∈ L, sbs s g = true
  · obtain ⟨g, hg, hb⟩ := c
    refine chs_B hG h0 h1 hf L 0 0 (Or.inl rfl) (fun _ h => h) ?_
    have l1 := MS_1 hG h0 h1 hg hb
    have r := dl_r (g := g) h0
    have nn := MS_nn hG r.1 (show (dl s g).toInt ≤ 255 by omega)
    rcases mxl_ex (sbs s) (fun g => 1 + MS L (dl s g)) L 0 with q | ⟨x, hx, hp, q⟩
    · have := MS_r hG h0 h1
      omega
    · have := MS_r hG h0 h1
      have q : mxl (sbs s) (fun g => 1 + MS L (dl s g)) L 0 = 1 + MS L (dl s x) := q
      exact ⟨x, hx, hp, by omega⟩
  · have e := chs_C (L := L) (s := s) (fw := fw) L 0 0 (fun g hg hb => c ⟨g, hg, hb⟩)
    rw [e.1, e.2]
def pk (N : Nat) (rel : Nat → Nat → Bool) (c : Nat → Int32) (L : List Int32) (kind : Int) (a yard : Int32) (toCome : Int) : Int32 := if kind = 3 ∧ ¬ toCome ≤ 0 ∧ (bs yard 8).toInt < a.toInt then 0 else if kind = 1 ∨ kind = 3 then fstIn yard L else if kind = 2 then chs (fun g => csum c g N) yard L 0 0 else if kind = 4 then chs (fun g => -(csum (deg rel N) g N)) yard L 0 0 else bst L yard L
/-- the ties' state for picking -/
def PT (N st : Nat) (rel : Nat → Nat → Bool) (c : Nat → Int32) (L : List Int32) (I : jdI) : Prop := PB N L I ∧ GX I N st rel ∧ ∀ p, p < N → I (13 + 2) p = c p

theorem PT_fr {N st : Nat} {rel : Nat → Nat → Bool} {c : Nat → Int32} {L : List Int32} {I I2 : jdI} (h : PT N st rel c L I) (hP : PB N L I2) (hF : Fr (fun a k => (a = 13 ∧ k = 10) ∨ a = 13 + 5) I I2) : PT N st rel c L I2 := ⟨hP, GX_fr h.2.1 hF (by omega) (by omega) (by intro k; omega), fun p hp => by rw [hF (13 + 2) p (by omega)]; exact h.2.2 p hp⟩
theorem p_worth {G : jdG} {n : Nat} {Z : jdL} {J : jdJ} {t N st ci : Nat} {rel : Nat → Nat → Bool} {c : Nat → Int32} {L : List Int32} {y : Int32} (hT : zTies Z 13) (hz : Z.1 t = some (ci + 10, 0)) (hG : GG L) (hN : N ≤ 8) (h70 : L.length ≤ 70) (h0 : 0 ≤ y.toInt) (h1 : y.toInt < 2 ^ N) (fw : Int32 → Int32) (hk : (ci = 1 ∧ fw = fun g => csum c g N) ∨ (ci = 6 ∧ fw = fun g => -(csum (deg rel N) g N)) ∨ (ci = 0 ∧ fw = fun g => Int32.ofInt (MS L (dl y g)))) : ∀ (I : jdI) (K2 : Int32 → jdI → jdJ → Prop) (g : Int32), PT N st rel c L I → WX I → g ∈ L → sbs y g = true → (∀ I2, WX I2 → PT N st rel c L I2 → Fr (fun a k => (a = 13 ∧ k = 10) ∨ a = 13 + 5) I I2 → K2 (fw g) I2 J) → ∀ q ∈ a_worth, Z.1 t = some (q.1 + 10, 0) → Cl G q.2 (n + 2) 0 0 [.ref (gb G + t), .ref (gb G + 13), .int y, .int g] Z I J (qi Z K2) := by
  intro I K2 g hP hW hg hb hK q hq hq2
  have hci : q.1 = ci := by
    rw [hz] at hq2
    injection hq2 with hq2
    injection hq2 with hq2
    omega
  simp only [a_worth, List.mem_cons, List.not_mem_nil, or_false] at hq
  rcases hq with rfl | rfl | rfl
  · have hci : 0 = ci := hci
    rcases hk with hk | hk | hk
    · omega
    · omega
    · refine eX0_worth hq2 hT ?_
      rw [xo_m1]
      have r := dl_r (g := g) h0
      refine pX8_mostFrom hT hW hP.1 hG hN h70 (show 0 ≤ (dl y g).toInt from r.1) (show (dl y g).toInt < 2 ^ N by omega) (fun v I2 hW2 hP2 hF2 hv => ?_)
      have hv : v.toInt = MS L (dl y g) := hv
      have e := hK I2 hW2 (PT_fr hP hP2 hF2) hF2
      rw [hk.2] at e
      have e : K2 (Int32.ofInt (MS L (dl y g))) I2 J := e
      rw [← hv, ofI] at e
      exact e
  · have hci : 1 = ci := hci
    rcases hk with hk | hk | hk
    · refine eX1_worth hq2 hT (pX8_costTogether hT hP.2.1.1 hN hP.2.2 ?_)
      have e := hK I hW hP Fr.rf
      rw [hk.2] at e
      exact e
    · omega
    · omega
  · have hci : 6 = ci := hci
    rcases hk with hk | hk | hk
    · omega
    · refine eX7_worth hq2 hT (pX8_strangersTogether hT hP.2.1 hN ?_)
      have e := hK I hW hP Fr.rf
      rw [hk.2] at e
      exact e
    · omega
theorem p_pick {G : jdG} {n : Nat} {Z : jdL} {J : jdJ} {K : Int32 → jdI → jdJ → Prop} {I : jdI} {t N st ci : Nat} {rel : Nat → Nat → Bool} {c : Nat → Int32} {L : List Int32} {y x3 : Int32} (hT : zTies Z 13) (hz : Z.1 t = some (ci + 10, 0)) (hci : ci = 0 ∨ ci = 1 ∨ ci = 3 ∨ ci = 6 ∨ ci = 9) (hG : GG L) (hN : N ≤ 8) (h70 : L.length ≤ 70) (h0 : 0 ≤ y.toInt) (h1 : y.toInt < 2 ^ N) (h3 : 0 ≤ x3.toInt) (hW : WX I) (hP : PT N st rel c L I) (hK : ∀ I2, WX I2 → PT N st rel c L I2 → Fr (fun a k => (a = 13 ∧ k = 10) ∨ a = 13 + 5) I I2 → K (pk N rel c L (ckI (Z.1 t)) (I t 0) y x3.toInt) I2 J) : ∀ q ∈ a_pick, Z.1 t = some (q.1 + 10, 0) → Cl G q.2 (n + 3) 0 0 [.ref (gb G + t), .ref (gb G + 13), .int y, .int x3] Z I J (qi Z K) := by
  intro q hq hq2
  have hp2 := pw2 ⟨N, by omega⟩
  have hp2 : 1 ≤ (2 : Int) ^ N ∧ (2 : Int) ^ N ≤ 256 := hp2
  have hpb := hP.1
  have hqc : q.1 = ci := by
    rw [hz] at hq2
    injection hq2 with hq2
    injection hq2 with hq2
    omega
  have cho : ∀ fw : Int32 → Int32, ((ci = 1 ∧ fw = fun g => csum c g N) ∨ (ci = 6 ∧ fw = fun g => -(csum (deg rel N) g N)) ∨ (ci = 0 ∧ fw = fun g => Int32.ofInt (MS L (dl y g)))) → pk N rel c L (ckI (Z.1 t)) (I t 0) y x3.toInt = chs fw y L 0 0 → Cl G mX1_pick (n + 3) 0 0 [.ref (gb G + t), .ref (gb G + 13), .int y, .int x3] Z I J (qi Z K) := fun fw hk he => by
    refine pX1_pick (P := PT N st rel c L) (fw := fw) ⟨ci, by omega, hz⟩ hT h70 (fun I hP => ⟨hP.1.2.1, hP.1.2.2.1⟩) (p_worth hT hz hG hN h70 h0 h1 fw hk) hW hP (fun I2 hW2 hP2 hF2 => ?_)
    have e := hK I2 hW2 hP2 hF2
    rw [he] at e
    exact e
  simp only [a_pick, List.mem_cons, List.not_mem_nil, or_false] at hq
  rcases hq with rfl | rfl | rfl | rfl | rfl
  · have hqc : 0 = ci := hqc
    refine cho _ (Or.inr (Or.inr ⟨hqc.symm, rfl⟩)) ?_
    have ek : ckI (Z.1 t) = 5 := by rw [hz, ← hqc]; rfl
    unfold pk
    rw [ek, if_neg (by omega), if_neg (by omega), if_neg (by omega), if_neg (by omega)]
    refine (chs_bst hG h0 (by omega) (fun g hg hb => ?_)).symm
    have r := dl_r (g := g) h0
    have l1 := MS_le hG 255 _ r.1 (show (dl y g).toInt ≤ 255 by omega) (by omega)
    have l2 := MS_nn hG r.1 (show (dl y g).toInt ≤ 255 by omega)
    exact Int32.toInt_ofInt_of_le (by omega) (by omega)
  · have hqc : 1 = ci := hqc
    refine cho _ (Or.inl ⟨hqc.symm, rfl⟩) ?_
    have ek : ckI (Z.1 t) = 2 := by rw [hz, ← hqc]; rfl
    unfold pk
    rw [ek, if_neg (by omega), if_neg (by omega), if_pos rfl]
  · have hqc : 3 = ci := hqc
    have ek : ckI (Z.1 t) = 1 := by rw [hz, ← hqc]; rfl
    refine eX4_pick hq2 hT (pX8_firstIn hT hpb.2.1 h70 hpb.2.2.1 ?_)
    have e := hK I hW hP Fr.rf
    unfold pk at e
    rw [ek, if_neg (by omega), if_pos (Or.inl rfl)] at e
    exact e
  · have hqc : 6 = ci := hqc
    refine cho _ (Or.inr (Or.inl ⟨hqc.symm, rfl⟩)) ?_
    have ek : ckI (Z.1 t) = 4 := by rw [hz, ← hqc]; rfl
    unfold pk
    rw [ek, if_neg (by omega), if_neg (by omega), if_neg (by omega), if_pos rfl]
  · have hqc : 9 = ci := hqc
    have ek : ckI (Z.1 t) = 3 := by rw [hz, ← hqc]; rfl
    have e := hK I hW hP Fr.rf
    unfold pk at e
    rw [ek] at e
    refine eX10_pick hq2 hT ⟨fun hx => pX8_firstIn hT hpb.2.1 h70 hpb.2.2.1 ?_, fun hx => ?_⟩
    · rw [if_neg (fun z => z.2.1 (by rw [hx]; decide)), if_pos (Or.inr rfl)] at e
      exact e
    · have hx := i1 hx
      refine pJ6_bitCount ⟨h0, by omega⟩ ?_
      refine v_number ⟨9, by omega, hq2⟩ ⟨fun hv => ?_, fun hv => pX8_firstIn hT hpb.2.1 h70 hpb.2.2.1 ?_⟩
      · have hv := Int32.lt_iff_toInt_lt.mp hv
        rw [if_pos ⟨rfl, by omega, hv⟩] at e
        exact e
      · have hv := mt Int32.lt_iff_toInt_lt.mpr hv
        rw [if_neg (fun z => hv z.2.2), if_pos (Or.inr rfl)] at e
        exact e
theorem DL_gg (rel : Nat → Nat → Bool) : ∀ (k p m : Nat) (s g : Int32), p + k ≤ 8 → 0 ≤ s.toInt ∧ s.toInt ≤ 255 → (¬ s = 0 ∨ 0 < m) → g ∈ DL rel k p m s → 0 < g.toInt ∧ g.toInt ≤ 255
  | k, p, 0, s, g, hp, hs, hn, hg => by
    rw [DL_m0, List.mem_singleton] at hg
    rw [hg]
    have : ¬ s.toInt = 0 := fun z => hn.elim (fun h => h (Int32.toInt_inj.mp z)) (fun h => absurd h (Nat.lt_irrefl 0))
    omega
  | 0, p, m + 1, s, g, hp, hs, hn, hg => by
    rw [DL_k0] at hg
    cases hg
  | k + 1, p, m + 1, s, g, hp, hs, hn, hg => by
    by_cases c : okN rel s p p = true
    · rw [DL_y c, List.mem_append] at hg
      rcases hg with hg | hg
      · refine DL_gg rel k (p + 1) m _ g (by omega) (or_r hs (by omega)) (Or.inl (fun z => ?_)) hg
        have : bt (s ||| ((1 : Int32) <<< (Int32.ofNat p &&& 31))) p = true := by
          rw [bt_or _ _ _ (by omega), show bt ((1 : Int32) <<< (Int32.ofNat p &&& 31)) p = decide (p = p) from bt_1a ⟨p, by omega⟩ ⟨p, by omega⟩, decide_eq_true rfl, Bool.or_true]
        rw [z, bt_ze p (by omega)] at this
        cases this
      · exact DL_gg rel k (p + 1) (m + 1) s g (by omega) hs (Or.inr (by omega)) hg
    · rw [DL_n c] at hg
      exact DL_gg rel k (p + 1) (m + 1) s g (by omega) hs (Or.inr (by omega)) hg
theorem GG_DL (rel : Nat → Nat → Bool) {N st : Nat} (hN : N ≤ 8) (hs : 0 < st) : GG (DL rel N 0 st 0) := fun g hg => DL_gg rel N 0 st 0 g (by omega) (by decide) (Or.inr hs) hg
theorem DL_70 (rel : Nat → Nat → Bool) {N st : Nat} (hN : N ≤ 8) (hs : st ≤ 4) : (DL rel N 0 st 0).length ≤ 70 := Nat.le_trans (DL_len rel N 0 st 0) (cb_70 ⟨N, by omega⟩ ⟨st, by omega⟩)
theorem pX12_sentBy {G : jdG} {n : Nat} {Z : jdL} {J : jdJ} {K : Int32 → jdI → jdJ → Prop} {I : jdI} {t N st : Nat} {rel : Nat → Nat → Bool} {c : Nat → Int32} {x1 x2 x3 x4 : Int32} (ht : zModel Z t) (hW : WM 7 t I) (hg : GM I t N st rel) (hN : N ≤ 8) (hst : 0 < st ∧ st ≤ 4) (hcs : ∀ p, p < N → I (t + 19) p = c p) (h0 : 0 ≤ x3.toInt) (hx : x3.toInt ≤ 255) (hK : ∀ I2 : jdI, WM 7 t I2 → Fr (fun a k => (a = t ∧ k = 30) ∨ a = t + 30) I I2 → K (pk N rel c (DL rel N 0 st 0) x1.toInt x2 x3 x4.toInt) I2 J) : Cl G mX12_sentBy (n + 258) 0 0 [.ref (gb G + t), .int x1, .int x2, .int x3, .int x4] Z I J (qi Z K) := by
  have n1 : ¬ x1 = 1 → ¬ x1.toInt = 1 := fun h z => h (Int32.toInt_inj.mp z)
  have n2 : ¬ x1 = 2 → ¬ x1.toInt = 2 := fun h z => h (Int32.toInt_inj.mp z)
  have n3 : ¬ x1 = 3 → ¬ x1.toInt = 3 := fun h z => h (Int32.toInt_inj.mp z)
  have n4 : ¬ x1 = 4 → ¬ x1.toInt = 4 := fun h z => h (Int32.toInt_inj.mp z)
  have q0 : (0 : Int32).toInt = 0 := rfl
  have hG := GG_DL rel (N := N) (st := st) hN hst.1
  have h70 := DL_70 rel (N := N) (st := st) hN hst.2
  generalize hLe : DL rel N 0 st 0 = L at hK hG h70
  refine eX12_sentBy ht ?_
  refine pX12_listAll ht hW hg hN hst.2 (fun I1 hW1 hF1 hl hL => ?_)
  rw [hLe] at hl hL
  have hg1 := GM_fr hg hN hF1 (by omega) (by omega) (by intro a k h1 h2; omega)
  have hc1 : ∀ p, p < N → I1 (t + 19) p = c p := fun p hp => by rw [hF1 (t + 19) p (by omega)]; exact hcs p hp
  have e := hK I1 hW1 hF1
  unfold pk at e
  refine ⟨fun h3o => ?_, fun h3o => ⟨fun h4o => ?_, fun h4o => ?_⟩⟩
  · have h3i := n3 h3o
    refine ⟨fun h1 => ?_, fun h1 => ⟨fun h3 => ⟨fun h2 => ?_, fun h2 => ⟨fun h4 => ?_, fun h4 => ?_⟩⟩, fun h3 => ?_⟩⟩
    · have h1 : x1.toInt = 1 := by rw [h1]; rfl
      rw [if_neg (fun z => h3i z.1), if_pos (Or.inl h1)] at e
      exact pX12_firstIn ht hl h70 hL e
    · have h3 := n3 h3
      have h1 := n1 h1
      have h2i : x1.toInt = 2 := by rw [h2]; rfl
      rw [if_neg (fun z => h3i z.1), if_neg (by omega), if_pos h2i] at e
      exact pX12_sentBy_62 (fw := fun g => csum c g N) (w := 0) ht hg1 hN hc1 hl h70 hL (Or.inl ⟨h2, fun g => rfl⟩) e L.length 0 0 (by decide) (by show (0 : Int) + _ = _; omega) (Or.inl rfl) rfl
    · have h3 := n3 h3
      have h1 := n1 h1
      have h4i : x1.toInt = 4 := by rw [h4]; rfl
      rw [if_neg (fun z => h3i z.1), if_neg (by omega), if_neg (by omega), if_pos h4i] at e
      exact pX12_sentBy_62 (fw := fun g => -(csum (deg rel N) g N)) (w := 0) ht hg1 hN hc1 hl h70 hL (Or.inr ⟨h2, fun g => neg_deg rel hN g⟩) e L.length 0 0 (by decide) (by show (0 : Int) + _ = _; omega) (Or.inl rfl) rfl
    · have h3 := n3 h3
      have h1 := n1 h1
      have h2 := n2 h2
      have h4 := n4 h4
      rw [if_neg (fun z => h3i z.1), if_neg (by omega), if_neg h2, if_neg h4] at e
      exact pX12_bestIn ht hG h0 hx hl h70 hL e
    · have h3 : x1.toInt = 3 := by rw [h3]; rfl
      rw [if_neg (fun z => h3i z.1), if_pos (Or.inr h3)] at e
      exact pX12_firstIn ht hl h70 hL e
  · have h4o := Int32.le_iff_toInt_le.mp h4o
    refine ⟨fun h1 => ?_, fun h1 => ⟨fun h3 => ⟨fun h2 => ?_, fun h2 => ⟨fun h4 => ?_, fun h4 => ?_⟩⟩, fun h3 => ?_⟩⟩
    · have h1 : x1.toInt = 1 := by rw [h1]; rfl
      rw [if_neg (fun z => z.2.1 (by omega)), if_pos (Or.inl h1)] at e
      exact pX12_firstIn ht hl h70 hL e
    · have h3 := n3 h3
      have h1 := n1 h1
      have h2i : x1.toInt = 2 := by rw [h2]; rfl
      rw [if_neg (fun z => z.2.1 (by omega)), if_neg (by omega), if_pos h2i] at e
      exact pX12_sentBy_62 (fw := fun g => csum c g N) (w := 0) ht hg1 hN hc1 hl h70 hL (Or.inl ⟨h2, fun g => rfl⟩) e L.length 0 0 (by decide) (by show (0 : Int) + _ = _; omega) (Or.inl rfl) rfl
    · have h3 := n3 h3
      have h1 := n1 h1
      have h4i : x1.toInt = 4 := by rw [h4]; rfl
      rw [if_neg (fun z => z.2.1 (by omega)), if_neg (by omega), if_neg (by omega), if_pos h4i] at e
      exact pX12_sentBy_62 (fw := fun g => -(csum (deg rel N) g N)) (w := 0) ht hg1 hN hc1 hl h70 hL (Or.inr ⟨h2, fun g => neg_deg rel hN g⟩) e L.length 0 0 (by decide) (by show (0 : Int) + _ = _; omega) (Or.inl rfl) rfl
    · have h3 := n3 h3
      have h1 := n1 h1
      have h2 := n2 h2
      have h4 := n4 h4
      rw [if_neg (fun z => z.2.1 (by omega)), if_neg (by omega), if_neg h2, if_neg h4] at e
      exact pX12_bestIn ht hG h0 hx hl h70 hL e
    · have h3 : x1.toInt = 3 := by rw [h3]; rfl
      rw [if_neg (fun z => z.2.1 (by omega)), if_pos (Or.inr h3)] at e
      exact pX12_firstIn ht hl h70 hL e
  · have h4o := mt Int32.le_iff_toInt_le.mpr h4o
    have h3i : x1.toInt = 3 := by rw [h3o]; rfl
    refine sfX12_bits trivial (fun v16 p16 => ⟨fun hv => ?_, fun hv => ?_⟩)
    · have hv := Int32.le_iff_toInt_le.mp hv
      rw [p16] at hv
      refine ⟨fun h1 => ?_, fun h1 => ⟨fun h3 => ⟨fun h2 => ?_, fun h2 => ⟨fun h4 => ?_, fun h4 => ?_⟩⟩, fun h3 => ?_⟩⟩
      · have h1 : x1.toInt = 1 := by rw [h1]; rfl
        rw [if_neg (fun z => by have := z.2.2; omega), if_pos (Or.inl h1)] at e
        exact pX12_firstIn ht hl h70 hL e
      · have h3 := n3 h3
        have h1 := n1 h1
        have h2i : x1.toInt = 2 := by rw [h2]; rfl
        rw [if_neg (fun z => by have := z.2.2; omega), if_neg (by omega), if_pos h2i] at e
        exact pX12_sentBy_62 (fw := fun g => csum c g N) (w := 0) ht hg1 hN hc1 hl h70 hL (Or.inl ⟨h2, fun g => rfl⟩) e L.length 0 0 (by decide) (by show (0 : Int) + _ = _; omega) (Or.inl rfl) rfl
      · have h3 := n3 h3
        have h1 := n1 h1
        have h4i : x1.toInt = 4 := by rw [h4]; rfl
        rw [if_neg (fun z => by have := z.2.2; omega), if_neg (by omega), if_neg (by omega), if_pos h4i] at e
        exact pX12_sentBy_62 (fw := fun g => -(csum (deg rel N) g N)) (w := 0) ht hg1 hN hc1 hl h70 hL (Or.inr ⟨h2, fun g => neg_deg rel hN g⟩) e L.length 0 0 (by decide) (by show (0 : Int) + _ = _; omega) (Or.inl rfl) rfl
      · have h3 := n3 h3
        have h1 := n1 h1
        have h2 := n2 h2
        have h4 := n4 h4
        rw [if_neg (fun z => by have := z.2.2; omega), if_neg (by omega), if_neg h2, if_neg h4] at e
        exact pX12_bestIn ht hG h0 hx hl h70 hL e
      · have h3 : x1.toInt = 3 := by rw [h3]; rfl
        rw [if_neg (fun z => by have := z.2.2; omega), if_pos (Or.inr h3)] at e
        exact pX12_firstIn ht hl h70 hL e
    · have hv := mt Int32.le_iff_toInt_le.mpr hv
      rw [p16] at hv
      rw [if_pos ⟨h3i, by omega, by omega⟩] at e
      exact e
