/-! who is in the list of groups; told days -/
theorem okN_c {rel : Nat → Nat → Bool} {a b : Int32} {p j : Nat} (h : ∀ i, i < j → bt a i = bt b i) : okN rel a p j = okN rel b p j := by
  unfold okN
  exact decide_eq_decide.mpr ⟨fun q i hi hb => q i hi (by rw [h i hi]; exact hb), fun q i hi hb => q i hi (by rw [← h i hi]; exact hb)⟩
/-- how many of p, p + 1 .. (k of them) are in a set -/
def cdR (g : Int32) : Nat → Nat → Nat
  | _, 0 => 0
  | p, k + 1 => (if bt g p = true then 1 else 0) + cdR g (p + 1) k
theorem cdR_z {g : Int32} : ∀ k p, (∀ i, p ≤ i → i < p + k → bt g i = false) → cdR g p k = 0
  | 0, _, _ => rfl
  | k + 1, p, h => by
    show (if bt g p = true then 1 else 0) + cdR g (p + 1) k = 0
    rw [cdR_z k (p + 1) (fun i h1 h2 => h i (by omega) (by omega)), h p (by omega) (by omega)]
    rfl
theorem cdR_n {g : Int32} : ∀ k p, cdR g p k = 0 → ∀ i, p ≤ i → i < p + k → bt g i = false
  | 0, p, _, i, h1, h2 => by omega
  | k + 1, p, h, i, h1, h2 => by
    have h : (if bt g p = true then 1 else 0) + cdR g (p + 1) k = 0 := h
    by_cases c : i = p
    · subst c
      cases e : bt g i with
      | false => rfl
      | true =>
        rw [e] at h
        have e2 : (if true = true then 1 else 0) = 1 := rfl
        omega
    · exact cdR_n k (p + 1) (by omega) i (by omega) (by omega)
theorem cdN_cdR (g : Int32) : ∀ k p, cdN g (p + k) = cdN g p + cdR g p k
  | 0, _ => rfl
  | k + 1, p => by
    have ih := cdN_cdR g k (p + 1)
    have e : cdN g (p + 1) = cdN g p + (if bt g p = true then 1 else 0) := rfl
    show cdN g (p + (k + 1)) = cdN g p + ((if bt g p = true then 1 else 0) + cdR g (p + 1) k)
    rw [show p + (k + 1) = p + 1 + k by omega, ih, e]
    omega
theorem DL_mem (rel : Nat → Nat → Bool) {g : Int32} (hg : 0 ≤ g.toInt ∧ g.toInt ≤ 255) : ∀ (k p m : Nat) (s : Int32), p + k ≤ 8 → 0 ≤ s.toInt ∧ s.toInt ≤ 255 → (∀ i, p ≤ i → i < 8 → bt s i = false) → (g ∈ DL rel k p m s ↔ (∀ i, i < p → bt g i = bt s i) ∧ (∀ i, p + k ≤ i → i < 8 → bt g i = false) ∧ cdR g p k = m ∧ ∀ q, p ≤ q → q < p + k → bt g q = true → okN rel g q q = true)
  | k, p, 0, s, hp, hs, hz => by
    rw [DL_m0, List.mem_singleton]
    refine ⟨fun e => ?_, fun h => ?_⟩
    · rw [e]
      exact ⟨fun i hi => rfl, fun i h1 h2 => hz i (by omega) h2, cdR_z k p (fun i h1 h2 => hz i h1 (by omega)), fun q h1 h2 hb => absurd hb (by rw [hz q h1 (by omega)]; exact fun e => (by cases e))⟩
    · obtain ⟨h1, h2, h3, _⟩ := h
      refine bt_ext ⟨hg.1, by omega⟩ ⟨hs.1, by omega⟩ (fun i hi => ?_)
      by_cases c : i < p
      · exact h1 i c
      · rw [hz i (by omega) hi]
        by_cases d : i < p + k
        · exact cdR_n k p h3 i (by omega) d
        · exact h2 i (by omega) hi
  | 0, p, m + 1, s, hp, hs, hz => by
    rw [DL_k0]
    refine ⟨fun e => (by cases e), fun h => ?_⟩
    have h3 : 0 = m + 1 := h.2.2.1
    omega
  | k + 1, p, m + 1, s, hp, hs, hz => by
    have ih2 := DL_mem rel hg k (p + 1) (m + 1) s (by omega) hs (fun i h1 h2 => hz i (by omega) h2)
    have zp : bt s p = false := hz p (Nat.le_refl _) (by omega)
    have er : cdR g p (k + 1) = (if bt g p = true then 1 else 0) + cdR g (p + 1) k := rfl
    have lo : ∀ i, i < p → bt (s ||| ((1 : Int32) <<< (Int32.ofNat p &&& 31))) i = bt s i := fun i hi => by
      rw [bt_or _ _ _ (by omega), show bt ((1 : Int32) <<< (Int32.ofNat p &&& 31)) i = decide (i = p) from bt_1a ⟨p, by omega⟩ ⟨i, by omega⟩, decide_eq_false (by omega), Bool.or_false]
    have at_p : bt (s ||| ((1 : Int32) <<< (Int32.ofNat p &&& 31))) p = true := by
      rw [bt_or _ _ _ (by omega), show bt ((1 : Int32) <<< (Int32.ofNat p &&& 31)) p = decide (p = p) from bt_1a ⟨p, by omega⟩ ⟨p, by omega⟩, decide_eq_true rfl, Bool.or_true]
    have hi : ∀ i, p + 1 ≤ i → i < 8 → bt (s ||| ((1 : Int32) <<< (Int32.ofNat p &&& 31))) i = false := fun i h1 h2 => by
      rw [bt_or _ _ _ (by omega), show bt ((1 : Int32) <<< (Int32.ofNat p &&& 31)) i = decide (i = p) from bt_1a ⟨p, by omega⟩ ⟨i, by omega⟩, decide_eq_false (by omega), Bool.or_false]
      exact hz i (by omega) h2
    have ih1 := DL_mem rel hg k (p + 1) m (s ||| ((1 : Int32) <<< (Int32.ofNat p &&& 31))) (by omega) (or_r hs (by omega)) hi
    have no : bt g p = false → ((∀ i, i < p + 1 → bt g i = bt s i) ∧ (∀ i, p + 1 + k ≤ i → i < 8 → bt g i = false) ∧ cdR g (p + 1) k = m + 1 ∧ (∀ q, p + 1 ≤ q → q < p + 1 + k → bt g q = true → okN rel g q q = true) ↔ (∀ i, i < p → bt g i = bt s i) ∧ (∀ i, p + (k + 1) ≤ i → i < 8 → bt g i = false) ∧ cdR g p (k + 1) = m + 1 ∧ ∀ q, p ≤ q → q < p + (k + 1) → bt g q = true → okN rel g q q = true) := fun hb => by
      rw [er, hb]
      refine ⟨fun h => ⟨fun i hi => h.1 i (by omega), fun i h1 h2 => h.2.1 i (by omega) h2, by have e0 : (if false = true then 1 else 0) = 0 := rfl; rw [h.2.2.1]; omega, fun q h1 h2 h3 => ?_⟩, fun h => ⟨fun i hi => ?_, fun i h1 h2 => h.2.1 i (by omega) h2, by have := h.2.2.1; have e0 : (if false = true then 1 else 0) = 0 := rfl; omega, fun q h1 h2 h3 => h.2.2.2 q (by omega) (by omega) h3⟩⟩
      · by_cases c : q = p
        · rw [c, hb] at h3
          cases h3
        · exact h.2.2.2 q (by omega) (by omega) h3
      · by_cases c : i = p
        · rw [c, hb, zp]
        · exact h.1 i (by omega)
    by_cases c : okN rel s p p = true
    · rw [DL_y c, List.mem_append, ih1, ih2]
      cases hb : bt g p with
      | false =>
        rw [← no hb]
        refine ⟨fun h => h.elim (fun h => ?_) id, Or.inr⟩
        have := h.1 p (by omega)
        rw [hb, at_p] at this
        cases this
      | true =>
        rw [er, hb]
        have e1 : (if true = true then 1 else 0) = 1 := rfl
        refine ⟨fun h => h.elim (fun h => ⟨fun i hi => (h.1 i (by omega)).trans (lo i hi), fun i h1 h2 => h.2.1 i (by omega) h2, by rw [h.2.2.1]; omega, fun q h1 h2 h3 => ?_⟩) (fun h => ?_), fun h => Or.inl ⟨fun i hi => ?_, fun i h1 h2 => h.2.1 i (by omega) h2, by have := h.2.2.1; omega, fun q h1 h2 h3 => h.2.2.2 q (by omega) (by omega) h3⟩⟩
        · by_cases d : q = p
          · rw [d, okN_c (b := s) (fun i hi => (h.1 i (by omega)).trans (lo i hi))]
            exact c
          · exact h.2.2.2 q (by omega) (by omega) h3
        · have := h.1 p (by omega)
          rw [hb, zp] at this
          cases this
        · by_cases d : i = p
          · rw [d, hb, at_p]
          · rw [lo i (by omega)]
            exact h.1 i (by omega)
    · rw [DL_n c, ih2]
      cases hb : bt g p with
      | false => rw [← no hb]
      | true =>
        refine ⟨fun h => ?_, fun h => ?_⟩
        · have := h.1 p (by omega)
          rw [hb, zp] at this
          cases this
        · have := h.2.2.2 p (Nat.le_refl _) (by omega) hb
          rw [okN_c (b := s) (fun i hi => h.1 i hi)] at this
          exact absurd this c
/-- a set is a group -/
def IG (rel : Nat → Nat → Bool) (N st : Nat) (g : Int32) : Prop := cd g = st ∧ ∀ p, p < N → bt g p = true → okN rel g p p = true
theorem IG_mem (rel : Nat → Nat → Bool) {N st : Nat} {g : Int32} (hN : N ≤ 8) (h0 : 0 ≤ g.toInt) (h1 : g.toInt < 2 ^ N) : g ∈ DL rel N 0 st 0 ↔ IG rel N st g := by
  have hp2 := pw2 ⟨N, by omega⟩
  have hp2 : 1 ≤ (2 : Int) ^ N ∧ (2 : Int) ^ N ≤ 256 := hp2
  have e := DL_mem rel (g := g) ⟨h0, by omega⟩ N 0 st 0 (by omega) (by decide) (fun i _ hi => bt_ze i (by omega))
  have hi : ∀ i, N ≤ i → i < 8 → bt g i = false := fun i h2 h3 => bt_hi2 h0 h1 h2 (by omega)
  have e8 : cd g = cdN g N + cdR g N (8 - N) := by
    have e8 := cdN_cdR g (8 - N) N
    rw [show N + (8 - N) = 8 by omega] at e8
    exact e8
  have eN := cdN_cdR g N 0
  have e0 : cdN g 0 = 0 := rfl
  rw [cdR_z (8 - N) N (fun i h2 h3 => hi i h2 (by omega))] at e8
  rw [Nat.zero_add] at eN
  rw [e]
  refine ⟨fun h => ⟨by have := h.2.2.1; omega, fun p hp hb => h.2.2.2 p (Nat.zero_le _) (by omega) hb⟩, fun h => ⟨fun i hi2 => absurd hi2 (Nat.not_lt_zero _), fun i h2 h3 => hi i (by omega) h3, by have := h.1; omega, fun q _ h2 hb => h.2 q (by omega) hb⟩⟩
theorem bs_cd (x : Int32) : ∀ k, k ≤ 8 → (bs x k).toInt = (cdN x k : Int)
  | 0, _ => rfl
  | k + 1, hk => by
    have ih := bs_cd x k (by omega)
    have hr := bs_r x k (by omega)
    have hki : (Int32.ofNat k).toInt = (k : Int) := ofN_i (by omega)
    have b := bt_iff x (x := Int32.ofNat k) (by omega)
    rw [show (Int32.ofNat k).toInt.toNat = k by omega] at b
    have r := i32_and (x >>> (Int32.ofNat k &&& 31)) 1 (by decide)
    have q1 : (1 : Int32).toInt = 1 := rfl
    have q0 : (0 : Int32).toInt = 0 := rfl
    have e := i32_add (bs x k) ((x >>> (Int32.ofNat k &&& 31)) &&& 1) (by omega) (by omega)
    show (bs x k + ((x >>> (Int32.ofNat k &&& 31)) &&& 1)).toInt = ((cdN x k + (if bt x k = true then 1 else 0) : Nat) : Int)
    rw [e, ih]
    by_cases c : ((x >>> (Int32.ofNat k &&& 31)) &&& 1) = 0
    · rw [if_neg (fun z => b.mp z c), c]
      omega
    · have c2 : ¬ ((x >>> (Int32.ofNat k &&& 31)) &&& 1).toInt = 0 := fun z => c (Int32.toInt_inj.mp (z.trans q0.symm))
      rw [if_pos (b.mpr c)]
      omega
theorem pX8_isOne_2 {G : jdG} {n rc rs : Nat} {Z : jdL} {J : jdJ} {K : Int32 → jdI → jdJ → Prop} {I : jdI} {L : List Int32} {x1 : Int32} (ht : zTies Z 13) (hc : (I 13 8).toInt = (L.length : Int)) (h70 : L.length ≤ 70) (hL : LiS I (13 + 3) L) (hK : ∀ v : Int32, ((v.toInt = 1 ∧ x1 ∈ L) ∨ (v.toInt = 0 ∧ ¬ x1 ∈ L)) → K v I J) : ∀ f : Nat, ∀ x2 : Int32, 0 ≤ x2.toInt → x2.toInt + (f : Int) = (L.length : Int) → (x1 ∈ L ↔ x1 ∈ L.drop x2.toInt.toNat) → Jd G mX8_isOne (jdFm G (qi Z K)) n rc rs 2 [(0, .ref (gb G + 13)), (1, .int x1), (2, .int x2)] [] Z I J := by
  intro f
  induction f with
  | zero =>
    intro x2 h2 hf hm
    rw [drop_end (show L.length ≤ x2.toInt.toNat by omega)] at hm
    exact rX8_isOne_2 ht ⟨fun _ => hK 0 (Or.inr ⟨rfl, fun z => by cases hm.mp z⟩), fun hc2 => absurd (Int32.le_iff_toInt_le.mpr (by omega)) hc2⟩
  | succ f ih =>
    intro x2 h2 hf hm
    have q1 : (1 : Int32).toInt = 1 := rfl
    have e2 := i32_add x2 1 (by omega) (by omega)
    have n2 := tn_eq x2
    have ed := LiS_drop hL (k := x2.toInt.toNat) (by omega)
    rw [ed, List.mem_cons] at hm
    refine rX8_isOne_2 ht ⟨fun hc2 => by have := Int32.le_iff_toInt_le.mp hc2; omega, fun _ => ⟨vp_of (by omega) (by omega), fun hv => ?_, fun hv => ?_⟩⟩
    · refine ih (x2 + 1) (by omega) (by omega) ?_
      rw [show (x2 + 1).toInt.toNat = x2.toInt.toNat + 1 by omega]
      exact hm.trans ⟨fun h => h.elim (fun e => absurd e.symm hv) id, Or.inr⟩
    · exact hK 1 (Or.inl ⟨rfl, hm.mpr (Or.inl hv.symm)⟩)
theorem pX8_isOne {G : jdG} {n : Nat} {Z : jdL} {J : jdJ} {K : Int32 → jdI → jdJ → Prop} {I : jdI} {L : List Int32} {x1 : Int32} (ht : zTies Z 13) (hc : (I 13 8).toInt = (L.length : Int)) (h70 : L.length ≤ 70) (hL : LiS I (13 + 3) L) (hK : ∀ v : Int32, ((v.toInt = 1 ∧ x1 ∈ L) ∨ (v.toInt = 0 ∧ ¬ x1 ∈ L)) → K v I J) : Cl G mX8_isOne n 0 0 [.ref (gb G + 13), .int x1] Z I J (qi Z K) :=
  eX8_isOne ht (pX8_isOne_2 ht hc h70 hL hK L.length 0 (by decide) (by show (0 : Int) + _ = _; omega) Iff.rfl)
theorem pX12_isGroupNow_l {G : jdG} {n rc rs : Nat} {Z : jdL} {J : jdJ} {K : Int32 → jdI → jdJ → Prop} {I : jdI} {t N st : Nat} {rel : Nat → Nat → Bool} {x1 : Int32} (ht : zModel Z t) (hg : GM I t N st rel) (hN : N ≤ 7) (hcd : cd x1 = st) (hK : ∀ v : Int32, ((v.toInt = 1 ∧ IG rel N st x1) ∨ (v.toInt = 0 ∧ ¬ IG rel N st x1)) → K v I J) : ∀ m : Nat,
    (∀ x2 : Int32, 0 ≤ x2.toInt → x2.toInt ≤ (N : Int) → (∀ p : Nat, (p : Int) < x2.toInt → bt x1 p = true → okN rel x1 p p = true) → (8 - x2.toInt) * 10 < (m : Int) → Jd G mX12_isGroupNow (jdFm G (qi Z K)) (n + 1) rc rs 15 [(0, .ref (gb G + t)), (1, .int x1), (2, .int x2)] [] Z I J) ∧
    (∀ x2 x3 : Int32, 0 ≤ x2.toInt → x2.toInt < (N : Int) → 0 ≤ x3.toInt → x3.toInt ≤ x2.toInt → (∀ p : Nat, (p : Int) < x2.toInt → bt x1 p = true → okN rel x1 p p = true) → (bt x1 x2.toInt.toNat = true → okN rel x1 x2.toInt.toNat x3.toInt.toNat = true) → (8 - x2.toInt) * 10 - 1 - x3.toInt < (m : Int) → Jd G mX12_isGroupNow (jdFm G (qi Z K)) (n + 1) rc rs 25 [(0, .ref (gb G + t)), (1, .int x1), (2, .int x2), (3, .int x3)] [] Z I J) := by
  have h10 := hg.1
  intro m
  induction m with
  | zero =>
    refine ⟨fun x2 a1 a2 a3 hm => ?_, fun x2 x3 a1 a2 a3 a4 a5 a6 hm => ?_⟩
    · have hm : (8 - x2.toInt) * 10 < 0 := hm
      omega
    · have hm : (8 - x2.toInt) * 10 - 1 - x3.toInt < 0 := hm
      omega
  | succ m ih =>
    have q1 : (1 : Int32).toInt = 1 := rfl
    have q0 : (0 : Int32).toInt = 0 := rfl
    refine ⟨fun x2 a1 a2 a3 hm => ?_, fun x2 x3 a1 a2 a3 a4 a5 a6 hm => ?_⟩
    · refine rX12_isGroupNow_15 ht ⟨fun hc => ?_, fun hc => ?_⟩
      · have hc := Int32.le_iff_toInt_le.mp hc
        exact hK 1 (Or.inl ⟨rfl, hcd, fun p hp hb => a3 p (by omega) hb⟩)
      · have hc := mt Int32.le_iff_toInt_le.mpr hc
        exact ih.2 x2 0 a1 (by omega) (by decide) a1 a3 (fun _ => okN_0 rel x1 _) (by show _ - 1 - (0 : Int) < _; omega)
    · have e2 := i32_add x2 1 (by omega) (by omega)
      have e3 := i32_add x3 1 (by omega) (by omega)
      have n2 := tn_eq x2
      have n3 := tn_eq x3
      have b2 := bt_iff x1 (x := x2) a1
      have b3 := bt_iff x1 (x := x3) a3
      refine rX12_isGroupNow_25 ht ⟨fun hc => ?_, fun hc => ?_⟩
      · have hc := Int32.le_iff_toInt_le.mp hc
        refine ih.1 (x2 + 1) (by omega) (by omega) (fun p hp hb => ?_) (by omega)
        by_cases c : (p : Int) < x2.toInt
        · exact a5 p c hb
        · have ep : p = x2.toInt.toNat := by omega
          rw [ep] at hb ⊢
          have := a6 hb
          rw [show x3.toInt.toNat = x2.toInt.toNat by omega] at this
          exact this
      · have hc := mt Int32.le_iff_toInt_le.mpr hc
        have go : ∀ _ : (bt x1 x2.toInt.toNat = true → bt x1 x3.toInt.toNat = true → rel x2.toInt.toNat x3.toInt.toNat = true), Jd G mX12_isGroupNow (jdFm G (qi Z K)) (n + 1) rc rs 25 [(0, .ref (gb G + t)), (1, .int x1), (2, .int x2), (3, .int (x3 + 1))] [] Z I J := fun hr => by
          refine ih.2 x2 (x3 + 1) a1 a2 (by omega) (by omega) a5 (fun hb => ?_) (by omega)
          rw [show (x3 + 1).toInt.toNat = x3.toInt.toNat + 1 by omega, okN_s, a6 hb, Bool.true_and]
          cases hb3 : bt x1 x3.toInt.toNat with
          | false => rfl
          | true => rw [hr hb hb3]; rfl
        refine sfX12_has trivial (fun v2 p2 => ⟨fun c2 => ?_, fun c2 => ?_⟩)
        · have c2 := i0 c2
          exact go (fun z => absurd (Int32.toInt_inj.mp (show _ = (0 : Int32).toInt by omega)) (b2.mp z))
        · have c2 := i1 c2
          have hb2 : bt x1 x2.toInt.toNat = true := b2.mpr (fun q => by rw [q] at p2; omega)
          refine sfX12_has trivial (fun v4 p4 => ⟨fun c4 => ?_, fun c4 => ?_⟩)
          · have c4 := i0 c4
            exact go (fun _ z => absurd (Int32.toInt_inj.mp (show _ = (0 : Int32).toInt by omega)) (b3.mp z))
          · have c4 := i1 c4
            have hb3 : bt x1 x3.toInt.toNat = true := b3.mpr (fun q => by rw [q] at p4; omega)
            have hrel := hg.2.2 x2.toInt.toNat x3.toInt.toNat (by omega) (by omega) (by omega)
            refine ⟨vp_of (by omega) (by omega), vp_of (by omega) (by omega), fun hv => go (fun _ _ => hrel.mp hv), fun hv => ?_⟩
            refine hK 0 (Or.inr ⟨rfl, fun z => hv (hrel.mpr ?_)⟩)
            have := z.2 x2.toInt.toNat (by omega) hb2
            exact of_decide_eq_true this x3.toInt.toNat (by omega) hb3
theorem pX12_isGroupNow {G : jdG} {n : Nat} {Z : jdL} {J : jdJ} {K : Int32 → jdI → jdJ → Prop} {I : jdI} {t N st : Nat} {rel : Nat → Nat → Bool} {x1 : Int32} (ht : zModel Z t) (hg : GM I t N st rel) (hN : N ≤ 7) (hK : ∀ v : Int32, ((v.toInt = 1 ∧ IG rel N st x1) ∨ (v.toInt = 0 ∧ ¬ IG rel N st x1)) → K v I J) : Cl G mX12_isGroupNow (n + 1) 0 0 [.ref (gb G + t), .int x1] Z I J (qi Z K) := by
  have h14 := hg.2.1
  refine eX12_isGroupNow ht ?_
  refine sfX12_bits trivial (fun v2 p2 => ?_)
  have e8 : (bs x1 8).toInt = (cd x1 : Int) := bs_cd x1 8 (Nat.le_refl _)
  rw [p2]
  refine ⟨fun c => ?_, fun c => ?_⟩
  · have c := congrArg Int32.toInt c
    exact (pX12_isGroupNow_l ht hg hN (by omega) hK 100).1 0 (by decide) (by show (0 : Int) ≤ _; omega) (fun p hp => by have : (p : Int) < 0 := hp; omega) (by decide)
  · have c : ¬ (bs x1 8).toInt = (I t 14).toInt := fun z => c (Int32.toInt_inj.mp z)
    exact hK 0 (Or.inr ⟨rfl, fun z => by have := z.1; omega⟩)
/-! told days -/
/-- the first wrong coach of a told day, or -1 -/
def wrg (L : List Int32) (N : Nat) (r : Nat → Int64) : Nat → Nat → Int32 → Int
  | 0, _, _ => -1
  | f + 1, i, ro => if (0 ≤ (r i).toInt ∧ (r i).toInt < 2 ^ N) ∧ Int64.toInt32 (r i) ∈ L ∧ (Int64.toInt32 (r i) &&& ro) = 0 then wrg L N r f (i + 1) (ro ||| Int64.toInt32 (r i)) else (i : Int)
theorem wrg_y {L : List Int32} {N : Nat} {r : Nat → Int64} {f i : Nat} {ro : Int32} (h : (0 ≤ (r i).toInt ∧ (r i).toInt < 2 ^ N) ∧ Int64.toInt32 (r i) ∈ L ∧ (Int64.toInt32 (r i) &&& ro) = 0) : wrg L N r (f + 1) i ro = wrg L N r f (i + 1) (ro ||| Int64.toInt32 (r i)) := if_pos h
theorem wrg_n {L : List Int32} {N : Nat} {r : Nat → Int64} {f i : Nat} {ro : Int32} (h : ¬ ((0 ≤ (r i).toInt ∧ (r i).toInt < 2 ^ N) ∧ Int64.toInt32 (r i) ∈ L ∧ (Int64.toInt32 (r i) &&& ro) = 0)) : wrg L N r (f + 1) i ro = (i : Int) := if_neg h
/-- all who rode -/
def roN (r : Nat → Int64) : Nat → Nat → Int32 → Int32
  | 0, _, ro => ro
  | f + 1, i, ro => roN r f (i + 1) (ro ||| Int64.toInt32 (r i))
/-- a told day's coaches -/
def rowL (r : Nat → Int64) : Nat → Nat → List Int32
  | 0, _ => []
  | f + 1, i => Int64.toInt32 (r i) :: rowL r f (i + 1)
theorem wrg_c {L : List Int32} {N : Nat} {r r2 : Nat → Int64} : ∀ (f i : Nat) (ro : Int32), (∀ j, i ≤ j → j < i + f → r j = r2 j) → wrg L N r f i ro = wrg L N r2 f i ro
  | 0, _, _, _ => rfl
  | f + 1, i, ro, h => by
    have e := h i (Nat.le_refl _) (by omega)
    have ih := wrg_c (L := L) (N := N) f (i + 1) (ro ||| Int64.toInt32 (r2 i)) (fun j h1 h2 => h j (by omega) (by omega))
    show (if (0 ≤ (r i).toInt ∧ (r i).toInt < 2 ^ N) ∧ Int64.toInt32 (r i) ∈ L ∧ (Int64.toInt32 (r i) &&& ro) = 0 then wrg L N r f (i + 1) (ro ||| Int64.toInt32 (r i)) else (i : Int)) = (if (0 ≤ (r2 i).toInt ∧ (r2 i).toInt < 2 ^ N) ∧ Int64.toInt32 (r2 i) ∈ L ∧ (Int64.toInt32 (r2 i) &&& ro) = 0 then wrg L N r2 f (i + 1) (ro ||| Int64.toInt32 (r2 i)) else (i : Int))
    rw [e, ih]
theorem rowL_c {r r2 : Nat → Int64} : ∀ (f i : Nat), (∀ j, i ≤ j → j < i + f → r j = r2 j) → rowL r f i = rowL r2 f i
  | 0, _, _ => rfl
  | f + 1, i, h => by
    show Int64.toInt32 (r i) :: rowL r f (i + 1) = Int64.toInt32 (r2 i) :: rowL r2 f (i + 1)
    rw [h i (Nat.le_refl _) (by omega), rowL_c f (i + 1) (fun j h1 h2 => h j (by omega) (by omega))]
theorem i64_sm {y : Int64} (h0 : 0 ≤ y.toInt) (h1 : y.toInt < 256) : (Int64.toInt32 y).toInt = y.toInt := by
  rw [Int64.toInt_toInt32]
  exact Int.bmod_eq_of_le (by omega) (by omega)
theorem pX11_firstWrong_16 {G : jdG} {n rc rs : Nat} {Z : jdL} {J : jdJ} {K : Int32 → jdI → jdJ → Prop} {I : jdI} {N : Nat} {L : List Int32} {x1 x2 : Int32} {R : Int} (hX : zX Z) (hW : WX I) (h3 : (I 1 3).toInt = (N : Int)) (hc : (I 13 8).toInt = (L.length : Int)) (h70 : L.length ≤ 70) (hL : LiS I (13 + 3) L) (hx1 : 0 ≤ x1.toInt ∧ x1.toInt < 8) (hx2 : x2.toInt ≤ 40) (hK : ∀ v : Int32, v.toInt = R → K v I J) : ∀ f : Nat, ∀ x3 x4 : Int32, 0 ≤ x4.toInt → x4.toInt + (f : Int) = x2.toInt → wrg L N (J (29 + 2 * (Int32.toNatClampNeg x1) + 1)) f x4.toInt.toNat x3 = R → Jd G mX11_firstWrong (jdFm G (qi Z K)) (n + 1) rc rs 16 [(0, .ref (gb G + 0)), (1, .int x1), (2, .int x2), (3, .int x3), (4, .int x4)] [] Z I J := by
  have hw := WX_f hW
  have ev := (ev_of (x := I 1 3) (by omega) (by omega)).2
  rw [h3, show ((N : Int)).toNat = N by omega] at ev
  intro f
  induction f with
  | zero =>
    intro x3 x4 h4 hf hr
    have hr : (-1 : Int) = R := hr
    exact rX11_firstWrong_16 hX ⟨fun _ => hK _ (by rw [← hr]; rfl), fun h => absurd (Int32.le_iff_toInt_le.mpr (by omega)) h⟩
  | succ f ih =>
    intro x3 x4 h4 hf hr
    have q1 : (1 : Int32).toInt = 1 := rfl
    have q0 : (0 : Int32).toInt = 0 := rfl
    have z0 : (0 : Int64).toInt = 0 := rfl
    have e4 := i32_add x4 1 (by omega) (by omega)
    have n4 := tn_eq x4
    have n1 := tn_eq x1
    have bad : ¬ ((0 ≤ (J (29 + 2 * (Int32.toNatClampNeg x1) + 1) x4.toInt.toNat).toInt ∧ (J (29 + 2 * (Int32.toNatClampNeg x1) + 1) x4.toInt.toNat).toInt < 2 ^ N) ∧ Int64.toInt32 (J (29 + 2 * (Int32.toNatClampNeg x1) + 1) x4.toInt.toNat) ∈ L ∧ (Int64.toInt32 (J (29 + 2 * (Int32.toNatClampNeg x1) + 1) x4.toInt.toNat) &&& x3) = 0) → K x4 I J := fun hn => hK x4 (by rw [wrg_n hn] at hr; omega)
    refine rX11_firstWrong_16 hX ⟨fun h => by have := Int32.le_iff_toInt_le.mp h; omega, fun _ => ⟨vp_of (by omega) (by omega), vp_of (by omega) (by omega), ?_⟩⟩
    rw [n4]
    have c0 := lg_f (J (29 + 2 * (Int32.toNatClampNeg x1) + 1) x4.toInt.toNat) 0
    refine ⟨fun h => bad (fun z => ?_), fun h => ?_⟩
    · have h := Int32.lt_iff_toInt_lt.mp h
      have := z.1.1
      omega
    · have h := mt Int32.lt_iff_toInt_lt.mpr h
      refine eX9_everybody (zX_o0 hX) ?_
      have ee := Int32.toInt_toInt64 (((1 : Int32) <<< ((I 1 3) &&& 31)) - 1)
      have c1 := lg_f (J (29 + 2 * (Int32.toNatClampNeg x1) + 1) x4.toInt.toNat) (Int32.toInt64 (((1 : Int32) <<< ((I 1 3) &&& 31)) - 1))
      refine ⟨fun h5 => ?_, fun h5 => bad (fun z => ?_)⟩
      · have h5 := Int32.le_iff_toInt_le.mp h5
        refine pX8_isOne (zX_o3 hX) hc h70 hL (fun v6 p6 => ⟨fun c6 => bad (fun z => ?_), fun c6 => ⟨fun h7 => ?_, fun h7 => bad (fun z => h7 z.2.2)⟩⟩)
        · have c6 := i0 c6
          exact (p6.elim (fun q => by omega) (fun q => q.2)) z.2.1
        · have c6 := i1 c6
          have hm : Int64.toInt32 (J (29 + 2 * (Int32.toNatClampNeg x1) + 1) x4.toInt.toNat) ∈ L := p6.elim (fun q => q.2) (fun q => by omega)
          rw [wrg_y ⟨⟨by omega, by omega⟩, hm, h7⟩] at hr
          refine ih _ (x4 + 1) (by omega) (by omega) ?_
          rw [show (x4 + 1).toInt.toNat = x4.toInt.toNat + 1 by omega]
          exact hr
      · have h5 := mt Int32.le_iff_toInt_le.mpr h5
        have := z.1.2
        omega
theorem TL_fr {I I2 : jdI} {w : Tw} {p : Nat → Nat → Prop} (h : TL I w) (hF : Fr p I I2) (hp : ∀ a k, p a k → ¬ (13 ≤ a ∧ a ≤ 16)) : TL I2 w := ⟨GX_fr h.1 hF (fun q => hp _ _ q (by decide)) (fun q => hp _ _ q (by decide)) (fun k q => hp _ _ q (by decide)), fun i hi => by rw [hF (13 + 2) i (fun q => hp _ _ q (by decide))]; exact h.2.1 i hi, by rw [hF 13 8 (fun q => hp _ _ q (by decide))]; exact h.2.2.1, LiS_fr h.2.2.2 hF (fun k q => hp _ _ q (by decide))⟩
def LW (w : Tw) : List Int32 := DL (relW w) w.1.toNat 0 w.2.2.2.1.toNat 0
theorem pX11_firstWrong {G : jdG} {n : Nat} {Z : jdL} {J : jdJ} {K : Int32 → jdI → jdJ → Prop} {I : jdI} {w : Tw} {x1 x2 : Int32} (hX : zX Z) (hW : WX I) (hw : RX I 1 w) (hk : OKT w) (hx1 : 0 ≤ x1.toInt ∧ x1.toInt < 8) (hx2 : 0 ≤ x2.toInt ∧ x2.toInt ≤ 40) (hK : ∀ (v : Int32) (I2 : jdI), WX I2 → Fr (fun a k => (a = 13 ∧ (k = 6 ∨ k = 7 ∨ k = 8 ∨ k = 10)) ∨ (14 ≤ a ∧ a ≤ 16)) I I2 → TL I2 w → v.toInt = wrg (LW w) w.1.toNat (J (29 + 2 * (Int32.toNatClampNeg x1) + 1)) x2.toInt.toNat 0 0 → K v I2 J) : Cl G mX11_firstWrong (n + 8) 0 0 [.ref (gb G + 0), .int x1, .int x2] Z I J (qi Z K) := by
  have hp := WX_f hW
  have h1 : (I 1 3).toInt = w.1 := hw.1
  have h4 : (I 1 4).toInt = w.2.2.2.1 := hw.2.2.1
  refine eX11_firstWrong hX ?_
  refine pX8_load (zX_o3 hX) (zX_o0 hX) (Or.inl rfl) hW hw (OKT_sy hk) (fun I1 hW1 hF1 hT1 hc1 => ?_)
  exact pX11_firstWrong_16 (N := w.1.toNat) (L := LW w) (R := wrg (LW w) w.1.toNat (J (29 + 2 * (Int32.toNatClampNeg x1) + 1)) x2.toInt.toNat 0 0) hX hW1 (by rw [hF1 1 3 (by omega)]; omega) hT1.2.2.1 (DL_70 (relW w) (by omega) (by omega)) hT1.2.2.2 hx1 hx2.2 (fun v hv => hK v I1 hW1 hF1 hT1 hv) x2.toInt.toNat 0 0 (by decide) (by show (0 : Int) + _ = _; omega) rfl
/-- a told day's refusal, or 0 -/
def tX (Z : jdL) (I : jdI) (x1 x2 : Int32) : Int := if (0 ≤ x1.toInt ∧ x1.toInt < 8) ∧ 0 ≤ x2.toInt ∧ x2.toInt ≤ 7 then (if (I (29 + 2 * (Int32.toNatClampNeg x1)) 1).toInt = -1 then (if mk Z (Int32.toNatClampNeg x1) = 0 then -4 else -3) else if x2.toInt ≤ (I (29 + 2 * (Int32.toNatClampNeg x1)) 2).toInt then 0 else -2) else -2
def tM (I : jdI) (t : Nat) (x1 x2 : Int32) : Int := if (0 ≤ x1.toInt ∧ x1.toInt < 8) ∧ 0 ≤ x2.toInt ∧ x2.toInt ≤ 7 then (if (I (t + 1) (Int32.toNatClampNeg x1)).toInt = 2 then -3 else if (I (t + 1) (Int32.toNatClampNeg x1)).toInt = 0 then -4 else if x2.toInt ≤ (I (t + 3) (Int32.toNatClampNeg x1)).toInt then 0 else -2) else -2
theorem tX_0 {Z : jdL} {I : jdI} {x1 x2 : Int32} (h : tX Z I x1 x2 = 0) : (0 ≤ x1.toInt ∧ x1.toInt < 8) ∧ 0 ≤ x2.toInt ∧ x2.toInt ≤ 7 := by
  by_cases c : (0 ≤ x1.toInt ∧ x1.toInt < 8) ∧ 0 ≤ x2.toInt ∧ x2.toInt ≤ 7
  · exact c
  · unfold tX at h
    rw [if_neg c] at h
    omega
theorem tM_0 {I : jdI} {t : Nat} {x1 x2 : Int32} (h : tM I t x1 x2 = 0) : (0 ≤ x1.toInt ∧ x1.toInt < 8) ∧ 0 ≤ x2.toInt ∧ x2.toInt ≤ 7 := by
  by_cases c : (0 ≤ x1.toInt ∧ x1.toInt < 8) ∧ 0 ≤ x2.toInt ∧ x2.toInt ≤ 7
  · exact c
  · unfold tM at h
    rw [if_neg c] at h
    omega
theorem pX11_whyNotTold {G : jdG} {n : Nat} {Z : jdL} {J : jdJ} {K : Int32 → jdI → jdJ → Prop} {I : jdI} {x1 x2 : Int32} (hX : zX Z) (hM : zMen Z) (hW : WX I) (hK : ∀ v : Int32, v.toInt = tX Z I x1 x2 → K v I J) : Cl G mX11_whyNotTold (n + 2) 0 0 [.ref (gb G + 0), .int x1, .int x2] Z I J (qi Z K) := by
  have n1 := tn_eq x1
  have q0 : (0 : Int32).toInt = 0 := rfl
  have q7 : (7 : Int32).toInt = 7 := rfl
  have out : ¬ ((0 ≤ x1.toInt ∧ x1.toInt < 8) ∧ 0 ≤ x2.toInt ∧ x2.toInt ≤ 7) → K (-2) I J := fun h => hK (-2) (by unfold tX; rw [if_neg h]; rfl)
  refine eX11_whyNotTold hX ?_
  refine sfX11_isShelf hW (fun v2 p2 => ⟨fun c2 => ?_, fun c2 => ⟨fun c3 => ?_, fun c3 => ⟨fun c4 => ?_, fun c4 => ?_⟩⟩⟩)
  · have c2 := i0 c2
    exact out (by omega)
  · have c3 := Int32.lt_iff_toInt_lt.mp c3
    exact out (by omega)
  · have c2 := i1 c2
    have c3 := mt Int32.lt_iff_toInt_lt.mpr c3
    have c4 := Int32.le_iff_toInt_le.mp c4
    refine sfX11_holdsRow hX hW (fun v4 p4 => ⟨fun c5 => ⟨vp_of (by omega) (by omega), fun c6 => ?_, fun c6 => ?_⟩, fun c5 => ?_⟩)
    · have c5 := i1 c5
      have c6 := Int32.le_iff_toInt_le.mp c6
      refine hK 0 ?_
      unfold tX
      rw [if_pos (by omega), if_neg (by omega), if_pos c6]
      rfl
    · have c5 := i1 c5
      have c6 := mt Int32.le_iff_toInt_le.mpr c6
      refine hK (-2) ?_
      unfold tX
      rw [if_pos (by omega), if_neg (by omega), if_neg c6]
      rfl
    · have c5 := i0 c5
      refine sfX11_whyNoRow hX hW (fun v7 p7 => hK v7 ?_)
      unfold tX
      rw [if_pos (by omega), if_pos (by omega)]
      by_cases d : mk Z (Int32.toNatClampNeg x1) = 0
      · rw [if_pos d]
        omega
      · rw [if_neg d]
        omega
  · have c4 := mt Int32.le_iff_toInt_le.mpr c4
    exact out (by omega)
theorem pX12_noDay {G : jdG} {n : Nat} {Z : jdL} {J : jdJ} {K : Int32 → jdI → jdJ → Prop} {I : jdI} {t : Nat} {x1 x2 : Int32} (ht : zModel Z t) (hW : WM 7 t I) (hK : ∀ (v : Int32) (I2 : jdI), WM 7 t I2 → Fr (fun a k => a = t + 17) I I2 → v.toInt = tM I t x1 x2 → K v I2 J) : Cl G mX12_noDay (n + 2) 0 0 [.ref (gb G + t), .int x1, .int x2] Z I J (qi Z K) := by
  have n1 := tn_eq x1
  have e1 : (Int32.toInt64 x1).toInt = x1.toInt := Int32.toInt_toInt64 _
  have e2 : (Int32.toInt64 x2).toInt = x2.toInt := Int32.toInt_toInt64 _
  have z0 : (0 : Int64).toInt = 0 := rfl
  have z7 : (7 : Int64).toInt = 7 := rfl
  refine eX12_noDay ht ?_
  refine sfX12_in trivial (fun v2 p2 => ⟨fun c2 => ?_, fun c2 => ?_⟩)
  · have c2 := i0 c2
    exact sfX12_refuse ht (by decide) hW (by decide) (fun v I3 hW3 hF3 hp3 => hK v I3 hW3 hF3 (by unfold tM; rw [if_neg (by omega)]; exact hp3))
  · have c2 := i1 c2
    refine sfX12_in trivial (fun v6 p6 => ⟨fun c6 => ?_, fun c6 => ?_⟩)
    · have c6 := i1 c6
      refine sfX12_noRow ht hW (fun v8 I7 hW7 hF7 p8 => ⟨fun c8 => ⟨vp_of (by omega) (by omega), fun c9 => ?_, fun c9 => ?_⟩, fun c8 => ?_⟩)
      · have c8 := i0 c8
        have c9 := Int32.le_iff_toInt_le.mp c9
        rw [hF7 (t + 3) _ (by omega)] at c9
        refine hK 0 I7 hW7 hF7 ?_
        unfold tM
        rw [if_pos (by omega), if_neg (by omega), if_neg (by omega), if_pos c9]
        rfl
      · have c8 := i0 c8
        have c9 := mt Int32.le_iff_toInt_le.mpr c9
        rw [hF7 (t + 3) _ (by omega)] at c9
        refine sfX12_refuse ht (by decide) hW7 (by decide) (fun v I3 hW3 hF3 hp3 => hK v I3 hW3 (Fr.tr hF7 hF3 (fun _ _ h => h)) ?_)
        unfold tM
        rw [if_pos (by omega), if_neg (by omega), if_neg (by omega), if_neg c9]
        exact hp3
      · have c8 := i1 c8
        refine hK v8 I7 hW7 hF7 ?_
        unfold tM
        rw [if_pos (by omega)]
        by_cases d : (I (t + 1) (Int32.toNatClampNeg x1)).toInt = 2
        · rw [if_pos d]
          omega
        · rw [if_neg d, if_pos (by omega)]
          omega
    · have c6 := i0 c6
      exact sfX12_refuse ht (by decide) hW (by decide) (fun v I3 hW3 hF3 hp3 => hK v I3 hW3 hF3 (by unfold tM; rw [if_neg (by omega)]; exact hp3))
theorem pX12_wrongCoach_7 {G : jdG} {n rc rs : Nat} {Z : jdL} {J : jdJ} {K : Int32 → jdI → jdJ → Prop} {I0 : jdI} {t N st n1 u1 : Nat} {rel : Nat → Nat → Bool} {x2 : Int32} {R : Int} {Y : Int32} (ht : zModel Z t) (hu1 : Z.1 u1 = some (1, n1)) (hN : N ≤ 7) (hx2 : x2.toInt ≤ (n1 : Int)) (hn1 : n1 ≤ 1000) (hg0 : GM I0 t N st rel) (hK : ∀ (v : Int32) (I2 : jdI), WM 7 t I2 → Fr (fun a k => a = t ∧ k = 44) I0 I2 → v.toInt = R → (R = -1 → I2 t 44 = Y) → K v I2 J) : ∀ f : Nat, ∀ (I : jdI) (x3 : Int32), WM 7 t I → Fr (fun a k => a = t ∧ k = 44) I0 I → 0 ≤ x3.toInt → x3.toInt + (f : Int) = x2.toInt → wrg (DL rel N 0 st 0) N (J u1) f x3.toInt.toNat (I t 44) = R → roN (J u1) f x3.toInt.toNat (I t 44) = Y → Jd G mX12_wrongCoach (jdFm G (qi Z K)) (n + 2) rc rs 7 [(0, .ref (gb G + t)), (1, .ref (gb G + u1)), (2, .int x2), (3, .int x3)] [] Z I J := by
  intro f
  induction f with
  | zero =>
    intro I x3 hW hF h3 hf hr hy
    have hr : (-1 : Int) = R := hr
    have hy : I t 44 = Y := hy
    exact rX12_wrongCoach_7 ht hu1 ⟨fun _ => hK _ I hW hF (by rw [← hr]; rfl) (fun _ => hy), fun h => absurd (Int32.le_iff_toInt_le.mpr (by omega)) h⟩
  | succ f ih =>
    intro I x3 hW hF h3 hf hr hy
    have hw := WM_f hW
    have q1 : (1 : Int32).toInt = 1 := rfl
    have z0 : (0 : Int64).toInt = 0 := rfl
    have e3 := i32_add x3 1 (by omega) (by omega)
    have n3 := tn_eq x3
    have hg := GM_fr hg0 (by omega) hF (by omega) (by omega) (by intro a k h1 h2; omega)
    have h10 := hg.1
    have ev := (ev_of (x := I t 10) (by omega) (by omega)).2
    rw [h10, show ((N : Int)).toNat = N by omega] at ev
    have hp2 := pw2 ⟨N, by omega⟩
    have hp2 : 1 ≤ (2 : Int) ^ N ∧ (2 : Int) ^ N ≤ 256 := hp2
    have bad : ¬ ((0 ≤ (J u1 x3.toInt.toNat).toInt ∧ (J u1 x3.toInt.toNat).toInt < 2 ^ N) ∧ Int64.toInt32 (J u1 x3.toInt.toNat) ∈ DL rel N 0 st 0 ∧ (Int64.toInt32 (J u1 x3.toInt.toNat) &&& I t 44) = 0) → K x3 I J := fun hn => by
      rw [wrg_n hn] at hr
      exact hK x3 I hW hF (by omega) (fun z => by omega)
    refine rX12_wrongCoach_7 ht hu1 ⟨fun h => by have := Int32.le_iff_toInt_le.mp h; omega, fun _ => ⟨vp_of (by omega) (by omega), ?_⟩⟩
    refine eX12_all ht ?_
    have ee := Int32.toInt_toInt64 (((1 : Int32) <<< ((I t 10) &&& 31)) - 1)
    refine sfX12_in trivial (fun v5 p5 => ?_)
    rw [n3] at p5 ⊢
    refine ⟨fun c5 => bad (fun z => ?_), fun c5 => ⟨vp_of (by omega) (by omega), ?_⟩⟩
    · have c5 := i0 c5
      have := z.1
      omega
    · have c5 := i1 c5
      have hsm := i64_sm (y := J u1 x3.toInt.toNat) (by omega) (by omega)
      have hIG := IG_mem rel (N := N) (st := st) (g := Int64.toInt32 (J u1 x3.toInt.toNat)) (by omega) (by omega) (by omega)
      refine pX12_isGroupNow ht hg hN (fun v8 p8 => ⟨fun c8 => bad (fun z => ?_), fun c8 => ⟨vp_of (by omega) (by omega), fun h9 => ⟨vp_of (by omega) (by omega), ?_⟩, fun h9 => bad (fun z => h9 z.2.2)⟩⟩)
      · have c8 := i0 c8
        exact (p8.elim (fun q => by omega) (fun q => q.2)) (hIG.mp z.2.1)
      · have c8 := i1 c8
        have hm := hIG.mpr (p8.elim (fun q => q.2) (fun q => by omega))
        rw [wrg_y ⟨⟨by omega, by omega⟩, hm, h9⟩] at hr
        have hy : roN (J u1) f (x3.toInt.toNat + 1) (I t 44 ||| Int64.toInt32 (J u1 x3.toInt.toNat)) = Y := hy
        have e44 : (uI I t 44 ((I t 44) ||| (Int64.toInt32 (J u1 x3.toInt.toNat)))) t 44 = (I t 44) ||| (Int64.toInt32 (J u1 x3.toInt.toNat)) := by rw [uI_ap, if_pos ⟨rfl, rfl⟩]
        refine ih _ (x3 + 1) (WM_uI hW (by first | exact okMo (by decide) (by decide) (by decide) (by decide) (by decide) | exact okMf (by decide) (by decide) (by decide) (by decide) (by decide) (by decide) (by decide) (by decide) | exact okM30 (by omega) | exact okM42 (by omega) | exact okM33 (by omega) | exact okM10 (by omega) | exact okM8 (by omega) | exact okM22 (by omega) | exact okM24 (by omega) | exact okM14 (by omega) | exact okMa31 (by omega) | exact okMa35 (by omega) | exact okMa36 (by omega) | exact okMa3 (by omega) | exact okMr (by omega) | (unfold okM; refine ⟨?_, ?_, ?_, ?_, ?_, ?_, ?_, ?_, ?_, ?_, ?_, ?_⟩ <;> intro h <;> omega))) (Fr_uI hF ⟨rfl, rfl⟩) (by omega) (by omega) ?_ ?_
        · rw [e44, show (x3 + 1).toInt.toNat = x3.toInt.toNat + 1 by omega]
          exact hr
        · rw [e44, show (x3 + 1).toInt.toNat = x3.toInt.toNat + 1 by omega]
          exact hy
theorem pX12_wrongCoach {G : jdG} {n : Nat} {Z : jdL} {J : jdJ} {K : Int32 → jdI → jdJ → Prop} {I : jdI} {t n1 u1 : Nat} {w : Tw} {x2 : Int32} (ht : zModel Z t) (hu1 : Z.1 u1 = some (1, n1)) (hW : WM 7 t I) (hw : RM I t w) (h0 : 0 ≤ x2.toInt) (hx2 : x2.toInt ≤ (n1 : Int)) (hn1 : n1 ≤ 1000) (hK : ∀ (v : Int32) (I2 : jdI), WM 7 t I2 → Fr (fun a k => a = t ∧ k = 44) I I2 → v.toInt = wrg (LW w) w.1.toNat (J u1) x2.toInt.toNat 0 0 → (v.toInt = -1 → I2 t 44 = roN (J u1) x2.toInt.toNat 0 0) → K v I2 J) : Cl G mX12_wrongCoach (n + 2) 0 0 [.ref (gb G + t), .ref (gb G + u1), .int x2] Z I J (qi Z K) := by
  have hp := WM_f hW
  have h1 : (I t 10).toInt = w.1 := hw.1
  have h4 : (I t 14).toInt = w.2.2.2.1 := hw.2.2.1
  refine eX12_wrongCoach ht hu1 ?_
  have q0 : (0 : Int32).toInt = 0 := rfl
  have f0 : Fr (fun a k => a = t ∧ k = 44) I (uI I t 44 0) := Fr_uI Fr.rf ⟨rfl, rfl⟩
  have w1 : WM 7 t (uI I t 44 0) := WM_uI hW (by first | exact okMo (by decide) (by decide) (by decide) (by decide) (by decide) | exact okMf (by decide) (by decide) (by decide) (by decide) (by decide) (by decide) (by decide) (by decide) | exact okM30 (by omega) | exact okM42 (by omega) | exact okM33 (by omega) | exact okM10 (by omega) | exact okM8 (by omega) | exact okM22 (by omega) | exact okM24 (by omega) | exact okM14 (by omega) | exact okMa31 (by omega) | exact okMa35 (by omega) | exact okMa36 (by omega) | exact okMa3 (by omega) | exact okMr (by omega) | (unfold okM; refine ⟨?_, ?_, ?_, ?_, ?_, ?_, ?_, ?_, ?_, ?_, ?_, ?_⟩ <;> intro h <;> omega))
  have e44 : (uI I t 44 0) t 44 = 0 := by rw [uI_ap, if_pos ⟨rfl, rfl⟩]
  exact pX12_wrongCoach_7 (N := w.1.toNat) (st := w.2.2.2.1.toNat) (rel := relW w) (R := wrg (LW w) w.1.toNat (J u1) x2.toInt.toNat 0 0) (Y := roN (J u1) x2.toInt.toNat 0 0) ht hu1 (by omega) hx2 hn1 (GM_RM hw (by omega) (by omega)) (fun v I2 hW2 hF2 hv hy => hK v I2 hW2 hF2 hv (fun z => hy (by omega))) x2.toInt.toNat (uI I t 44 0) 0 w1 f0 (by decide) (by show (0 : Int) + _ = _; omega) (by rw [e44]; rfl) (by rw [e44]; rfl)
/-! judge, rides -/
def oJudge (w : Tw) (c : Int) (r : Nat → Int64) (m : Nat) : Int := if c = 0 then wrg (LW w) w.1.toNat r m 0 0 else c
def oRides (s : Sd) (c : Int) (r : Nat → Int64) (m : Nat) : Int × Sd := if c = 0 then (if wrg (LW s.1) s.1.1.toNat r m 0 0 = -1 then ((m : Int), (acqL s.1 (rowL r m 0), s.2)) else (-5, s)) else (c, s)
theorem oRides_ok {s : Sd} {c : Int} {r : Nat → Int64} {m : Nat} (h : OKT s.1) : OKT (oRides s c r m).2.1 := by
  unfold oRides
  by_cases e : c = 0
  · by_cases d : wrg (LW s.1) s.1.1.toNat r m 0 0 = -1
    · rw [if_pos e, if_pos d]
      exact acqL_ok _ _ h
    · rw [if_pos e, if_neg d]
      exact h
  · rw [if_neg e]
    exact h
theorem pX11_judge {G : jdG} {n : Nat} {Z : jdL} {J : jdJ} {K : Int32 → jdI → jdJ → Prop} {I : jdI} {s : Sd} {x1 x2 : Int32} (hX : zX Z) (hM : zMen Z) (hW : WX I) (hs : TX I 1 s) (hk : OKT s.1) (hK : ∀ (v : Int32) (I2 : jdI), WX I2 → Fr (fun a k => (13 ≤ a ∧ a ≤ 24) ∨ a = 28) I I2 → v.toInt = oJudge s.1 (tX Z I x1 x2) (J (29 + 2 * (Int32.toNatClampNeg x1) + 1)) x2.toInt.toNat → K v I2 J) : Cl G mX11_judge (n + 9) 0 0 [.ref (gb G + 0), .int x1, .int x2] Z I J (qi Z K) := by
  refine eX11_judge hX ?_
  refine pX11_whyNotTold hX hM hW (fun v2 p2 => ⟨fun c2 => ?_, fun c2 => ?_⟩)
  · have c2 := i0 c2
    have hr := tX_0 (by omega : tX Z I x1 x2 = 0)
    refine pX11_firstWrong hX hW hs.1 hk hr.1 ⟨hr.2.1, by omega⟩ (fun v I2 hW2 hF2 _ hv => hK v I2 hW2 (Fr.tr Fr.rf hF2 (by intro a k h; omega)) ?_)
    unfold oJudge
    rw [if_pos (by omega)]
    exact hv
  · have c2 := i1 c2
    refine sfX11_refuse hX hW (fun v I3 hW3 hF3 hp3 => hK v I3 hW3 (Fr.tr Fr.rf hF3 (by intro a k h; omega)) ?_)
    unfold oJudge
    rw [if_neg (by omega), hp3]
    exact p2
theorem pX12_judge {G : jdG} {n : Nat} {Z : jdL} {J : jdJ} {K : Int32 → jdI → jdJ → Prop} {I : jdI} {t : Nat} {s : Sd} {x1 x2 : Int32} (ht : zModel Z t) (hW : WM 7 t I) (hs : TM I t s) (hK : ∀ (v : Int32) (I2 : jdI), WM 7 t I2 → Fr (fun a k => (a = t ∧ k = 44) ∨ a = t + 17) I I2 → v.toInt = oJudge s.1 (tM I t x1 x2) (J (t + 5 + (Int32.toNatClampNeg x1))) x2.toInt.toNat → K v I2 J) : Cl G mX12_judge (n + 3) 0 0 [.ref (gb G + t), .int x1, .int x2] Z I J (qi Z K) := by
  have n1 := tn_eq x1
  have hwm := WM_f hW
  have h1 := hs.1.1
  refine eX12_judge ht ?_
  refine pX12_noDay ht hW (fun v2 I1 hW1 hF1 hv => ⟨fun c2 => ?_, fun c2 => ?_⟩)
  · have c2 := i0 c2
    have hr := tM_0 (by omega : tM I t x1 x2 = 0)
    refine ⟨vp_of (by omega) (by omega), ?_⟩
    refine pX12_wrongCoach ht (zModel_rowsA ht (i := Int32.toNatClampNeg x1) (by omega)) hW1 (RM_fr hs.1 (by omega) hF1 (by omega) (by omega) (by omega) (by intro a k h1 h2 h3; omega)) hr.2.1 (by omega) (by decide) (fun v I2 hW2 hF2 hv2 _ => hK v I2 hW2 (Fr.tr (Fr.tr Fr.rf hF1 (by intro a k h; omega)) hF2 (by intro a k h; omega)) ?_)
    unfold oJudge
    rw [if_pos (by omega)]
    exact hv2
  · have c2 := i1 c2
    refine hK v2 I1 hW1 (Fr.tr Fr.rf hF1 (by intro a k h; omega)) ?_
    unfold oJudge
    rw [if_neg (by omega)]
    exact hv
theorem pX11_whyNotRidden {G : jdG} {n : Nat} {Z : jdL} {J : jdJ} {K : Int32 → jdI → jdJ → Prop} {I : jdI} {s : Sd} {x1 x2 : Int32} (hX : zX Z) (hM : zMen Z) (hW : WX I) (hs : TX I 1 s) (hk : OKT s.1) (hK : ∀ (v : Int32) (I2 : jdI), WX I2 → Fr (fun a k => 13 ≤ a ∧ a ≤ 24) I I2 → v.toInt = (if tX Z I x1 x2 = 0 then (if wrg (LW s.1) s.1.1.toNat (J (29 + 2 * (Int32.toNatClampNeg x1) + 1)) x2.toInt.toNat 0 0 = -1 then 0 else -5) else tX Z I x1 x2) → (v.toInt = 0 → TL I2 s.1) → K v I2 J) : Cl G mX11_whyNotRidden (n + 9) 0 0 [.ref (gb G + 0), .int x1, .int x2] Z I J (qi Z K) := by
  have qm : (-1 : Int32).toInt = -1 := rfl
  refine eX11_whyNotRidden hX ?_
  refine pX11_whyNotTold hX hM hW (fun v2 p2 => ⟨fun c2 => ?_, fun c2 => ?_⟩)
  · have c2 := i0 c2
    have hr := tX_0 (by omega : tX Z I x1 x2 = 0)
    refine pX11_firstWrong hX hW hs.1 hk hr.1 ⟨hr.2.1, by omega⟩ (fun v I2 hW2 hF2 hT2 hv => ⟨fun c => ?_, fun c => ?_⟩)
    · have c : v.toInt = -1 := by rw [c]; rfl
      refine hK 0 I2 hW2 (Fr.tr Fr.rf hF2 (by intro a k h; omega)) ?_ (fun _ => hT2)
      rw [if_pos (by omega), if_pos (by omega)]
      rfl
    · have c : ¬ v.toInt = -1 := fun z => c (Int32.toInt_inj.mp (z.trans qm.symm))
      refine hK (-5) I2 hW2 (Fr.tr Fr.rf hF2 (by intro a k h; omega)) ?_ (fun z => absurd z (by decide))
      rw [if_pos (by omega), if_neg (by omega)]
      rfl
  · have c2 := i1 c2
    refine hK v2 I hW Fr.rf ?_ (fun z => absurd z c2)
    rw [if_neg (by omega)]
    exact p2
theorem pX11_rides_20 {G : jdG} {n rc rs : Nat} {Z : jdL} {J : jdJ} {K : Int32 → jdI → jdJ → Prop} {I0 : jdI} {x1 x2 x3 : Int32} {R : Tw} (hX : zX Z) (hx1 : 0 ≤ x1.toInt ∧ x1.toInt < 8) (hx2 : x2.toInt ≤ 7) (hK : ∀ (I2 : jdI), WX I2 → Fr (fun a k => (a = 1 ∧ (k = 7 ∨ k = 8)) ∨ a = 4) I0 I2 → RX I2 1 R → K x2 I2 J) : ∀ f : Nat, ∀ (I : jdI) (x4 : Int32) (w : Tw), WX I → Fr (fun a k => a = 4) I0 I → RX I 1 w → 0 ≤ x4.toInt → x4.toInt + (f : Int) = x2.toInt → acqL w (rowL (J (29 + 2 * (Int32.toNatClampNeg x1) + 1)) f x4.toInt.toNat) = R → Jd G mX11_rides (jdFm G (qi Z K)) (n + 2) rc rs 20 [(0, .ref (gb G + 0)), (1, .int x1), (2, .int x2), (3, .int x3), (4, .int x4)] [] Z I J := by
  intro f
  induction f with
  | zero =>
    intro I x4 w hW hF hw h4 hf hr
    have hr : w = R := hr
    subst hr
    have hwx := WX_f hW
    refine rX11_rides_20 hX ⟨fun _ => ?_, fun hc => absurd (Int32.le_iff_toInt_le.mpr (by omega)) hc⟩
    have f0 : Fr (fun a k => a = 1 ∧ (k = 7 ∨ k = 8)) I (uI (uI I 1 7 ((I 1 7) + x2)) 1 8 ((I 1 8) + 1)) := Fr_uI (Fr_uI Fr.rf (by omega)) (by omega)
    have w1 : WX (uI I 1 7 ((I 1 7) + x2)) := WX_uI hW (by first | exact okXo (by decide) | (unfold okX; refine ⟨?_, ?_, ?_, ?_, ?_, ?_, ?_, ?_, ?_, ?_⟩ <;> intro h <;> omega))
    exact eX9_endDay (zX_o0 hX) (hK _ (WX_uI w1 (by first | exact okXo (by decide) | (unfold okX; refine ⟨?_, ?_, ?_, ?_, ?_, ?_, ?_, ?_, ?_, ?_⟩ <;> intro h <;> omega))) (Fr.tr (Fr.tr Fr.rf hF (by intro a k h; omega)) f0 (by intro a k h; omega)) (RX_fk hw (fun a k q => f0 a k (by omega))))
  | succ f ih =>
    intro I x4 w hW hF hw h4 hf hr
    have q1 : (1 : Int32).toInt = 1 := rfl
    have e4 := i32_add x4 1 (by omega) (by omega)
    have n4 := tn_eq x4
    have n1 := tn_eq x1
    have hr : acqL (acqT w (Int64.toInt32 (J (29 + 2 * (Int32.toNatClampNeg x1) + 1) x4.toInt.toNat))) (rowL (J (29 + 2 * (Int32.toNatClampNeg x1) + 1)) f (x4.toInt.toNat + 1)) = R := hr
    rw [show x4.toInt.toNat + 1 = (x4 + 1).toInt.toNat by omega] at hr
    refine rX11_rides_20 hX ⟨fun hc => by have := Int32.le_iff_toInt_le.mp hc; omega, fun _ => ⟨vp_of (by omega) (by omega), vp_of (by omega) (by omega), ?_⟩⟩
    exact pX9_acquaint (zX_o0 hX) (Or.inl rfl) hW hw (fun v6 I3 hW3 hF3 hR3 _ => ih I3 (x4 + 1) _ hW3 (Fr.tr hF hF3 (by intro a k h; omega)) hR3 (by omega) (by omega) hr)
theorem pX11_rides {G : jdG} {n : Nat} {Z : jdL} {J : jdJ} {K : Int32 → jdI → jdJ → Prop} {I : jdI} {s : Sd} {x1 x2 : Int32} (hX : zX Z) (hM : zMen Z) (hW : WX I) (hs : TX I 1 s) (hk : OKT s.1) (hK : ∀ (v : Int32) (I2 : jdI), WX I2 → Fr (fun a k => (a = 1 ∧ (k = 7 ∨ k = 8)) ∨ a = 4 ∨ (13 ≤ a ∧ a ≤ 24) ∨ a = 28) I I2 → (v.toInt = (oRides s (tX Z I x1 x2) (J (29 + 2 * (Int32.toNatClampNeg x1) + 1)) x2.toInt.toNat).1 ∧ TX I2 1 (oRides s (tX Z I x1 x2) (J (29 + 2 * (Int32.toNatClampNeg x1) + 1)) x2.toInt.toNat).2) → K v I2 J) : Cl G mX11_rides (n + 10) 0 0 [.ref (gb G + 0), .int x1, .int x2] Z I J (qi Z K) := by
  refine eX11_rides hX ?_
  refine pX11_whyNotRidden hX hM hW hs hk (fun v2 I1 hW1 hF1 hv _ => ⟨fun c2 => ?_, fun c2 => ?_⟩)
  · have c2 := i0 c2
    have hc : tX Z I x1 x2 = 0 := by
      by_cases c : tX Z I x1 x2 = 0
      · exact c
      · rw [if_neg c] at hv
        omega
    have hd : wrg (LW s.1) s.1.1.toNat (J (29 + 2 * (Int32.toNatClampNeg x1) + 1)) x2.toInt.toNat 0 0 = -1 := by
      by_cases d : wrg (LW s.1) s.1.1.toNat (J (29 + 2 * (Int32.toNatClampNeg x1) + 1)) x2.toInt.toNat 0 0 = -1
      · exact d
      · rw [if_pos hc, if_neg d] at hv
        omega
    have hr := tX_0 hc
    have e : oRides s (tX Z I x1 x2) (J (29 + 2 * (Int32.toNatClampNeg x1) + 1)) x2.toInt.toNat = ((x2.toInt.toNat : Int), (acqL s.1 (rowL (J (29 + 2 * (Int32.toNatClampNeg x1) + 1)) x2.toInt.toNat 0), s.2)) := by
      unfold oRides
      rw [if_pos hc, if_pos hd]
    refine pX11_rides_20 (R := acqL s.1 (rowL (J (29 + 2 * (Int32.toNatClampNeg x1) + 1)) x2.toInt.toNat 0)) hX hr.1 hr.2.2 (fun I3 hW3 hF3 hR3 => ?_) x2.toInt.toNat I1 0 s.1 hW1 Fr.rf (RX_fr hs.1 hF1 (by intro a k h1 h2; omega)) (by decide) (by show (0 : Int) + _ = _; omega) rfl
    refine hK x2 I3 hW3 (Fr.tr (Fr.tr Fr.rf hF1 (by intro a k h; omega)) hF3 (by intro a k h; omega)) ?_
    rw [e]
    exact ⟨by show x2.toInt = (x2.toInt.toNat : Int); omega, hR3, by rw [hF3 1 6 (by omega), hF1 1 6 (by omega)]; exact hs.2⟩
  · have c2 := i1 c2
    refine sfX11_refuse hX hW1 (fun v I3 hW3 hF3 hp3 => hK v I3 hW3 (Fr.tr (Fr.tr Fr.rf hF1 (by intro a k h; omega)) hF3 (by intro a k h; omega)) ?_)
    have hs3 := TX_fr (TX_fr hs hF1 (by intro a k h1 h2; omega)) hF3 (by intro a k h1 h2; omega)
    unfold oRides
    by_cases c : tX Z I x1 x2 = 0
    · by_cases d : wrg (LW s.1) s.1.1.toNat (J (29 + 2 * (Int32.toNatClampNeg x1) + 1)) x2.toInt.toNat 0 0 = -1
      · rw [if_pos c, if_pos d] at hv
        omega
      · rw [if_pos c, if_neg d] at hv
        rw [if_pos c, if_neg d, hp3]
        exact ⟨hv, hs3⟩
    · rw [if_neg c] at hv
      rw [if_neg c, hp3]
      exact ⟨hv, hs3⟩
theorem pX12_rides_38 {G : jdG} {n rc rs : Nat} {Z : jdL} {J : jdJ} {K : Int32 → jdI → jdJ → Prop} {I0 : jdI} {t : Nat} {x1 x2 x3 : Int32} {R : Tw} (ht : zModel Z t) (hx1 : 0 ≤ x1.toInt ∧ x1.toInt < 8) (hx2 : x2.toInt ≤ 7) (hK : ∀ (I2 : jdI), WM 7 t I2 → Fr (fun a k => (a = t ∧ (k = 16 ∨ k = 17)) ∨ (t + 21 ≤ a ∧ a ≤ t + 28)) I0 I2 → RM I2 t R → K x2 I2 J) : ∀ f : Nat, ∀ (I : jdI) (x4 : Int32) (w : Tw), WM 7 t I → Fr (fun a k => t + 21 ≤ a ∧ a ≤ t + 28) I0 I → RM I t w → 0 ≤ x4.toInt → x4.toInt + (f : Int) = x2.toInt → acqL w (rowL (J (t + 5 + (Int32.toNatClampNeg x1))) f x4.toInt.toNat) = R → Jd G mX12_rides (jdFm G (qi Z K)) (n + 2) rc rs 38 [(0, .ref (gb G + t)), (1, .int x1), (2, .int x2), (3, .int x3), (4, .int x4)] [] Z I J := by
  intro f
  induction f with
  | zero =>
    intro I x4 w hW hF hw h4 hf hr
    have hr : w = R := hr
    subst hr
    have hwm := WM_f hW
    have h1 := hw.1
    have f0 : Fr (fun a k => a = t ∧ (k = 16 ∨ k = 17)) I (uI (uI I t 16 ((I t 16) + x2)) t 17 ((I t 17) + 1)) := Fr_uI (Fr_uI Fr.rf (by omega)) (by omega)
    have w1 : WM 7 t (uI I t 16 ((I t 16) + x2)) := WM_uI hW (by first | exact okMo (by decide) (by decide) (by decide) (by decide) (by decide) | exact okMf (by decide) (by decide) (by decide) (by decide) (by decide) (by decide) (by decide) (by decide) | exact okM30 (by omega) | exact okM42 (by omega) | exact okM33 (by omega) | exact okM10 (by omega) | exact okM8 (by omega) | exact okM22 (by omega) | exact okM24 (by omega) | exact okM14 (by omega) | exact okMa31 (by omega) | exact okMa35 (by omega) | exact okMa36 (by omega) | exact okMa3 (by omega) | exact okMr (by omega) | (unfold okM; refine ⟨?_, ?_, ?_, ?_, ?_, ?_, ?_, ?_, ?_, ?_, ?_, ?_⟩ <;> intro h <;> omega))
    exact rX12_rides_38 ht ⟨fun _ => hK _ (WM_uI w1 (by first | exact okMo (by decide) (by decide) (by decide) (by decide) (by decide) | exact okMf (by decide) (by decide) (by decide) (by decide) (by decide) (by decide) (by decide) (by decide) | exact okM30 (by omega) | exact okM42 (by omega) | exact okM33 (by omega) | exact okM10 (by omega) | exact okM8 (by omega) | exact okM22 (by omega) | exact okM24 (by omega) | exact okM14 (by omega) | exact okMa31 (by omega) | exact okMa35 (by omega) | exact okMa36 (by omega) | exact okMa3 (by omega) | exact okMr (by omega) | (unfold okM; refine ⟨?_, ?_, ?_, ?_, ?_, ?_, ?_, ?_, ?_, ?_, ?_, ?_⟩ <;> intro h <;> omega))) (Fr.tr (Fr.tr Fr.rf hF (by intro a k h; omega)) f0 (by intro a k h; omega)) (RM_fr hw (by omega) f0 (by omega) (by omega) (by omega) (by intro a k h1 h2 h3; omega)), fun hc => absurd (Int32.le_iff_toInt_le.mpr (by omega)) hc⟩
  | succ f ih =>
    intro I x4 w hW hF hw h4 hf hr
    have q1 : (1 : Int32).toInt = 1 := rfl
    have e4 := i32_add x4 1 (by omega) (by omega)
    have n4 := tn_eq x4
    have n1 := tn_eq x1
    have hr : acqL (acqT w (Int64.toInt32 (J (t + 5 + (Int32.toNatClampNeg x1)) x4.toInt.toNat))) (rowL (J (t + 5 + (Int32.toNatClampNeg x1))) f (x4.toInt.toNat + 1)) = R := hr
    rw [show x4.toInt.toNat + 1 = (x4 + 1).toInt.toNat by omega] at hr
    refine rX12_rides_38 ht ⟨fun hc => by have := Int32.le_iff_toInt_le.mp hc; omega, fun _ => ⟨vp_of (by omega) (by omega), vp_of (by omega) (by omega), ?_⟩⟩
    exact pX12_meets ht hW hw (fun v6 I3 hW3 hF3 hR3 _ => ih I3 (x4 + 1) _ hW3 (Fr.tr hF hF3 (fun _ _ h => h)) hR3 (by omega) (by omega) hr)
theorem pX12_rides {G : jdG} {n : Nat} {Z : jdL} {J : jdJ} {K : Int32 → jdI → jdJ → Prop} {I : jdI} {t : Nat} {s : Sd} {x1 x2 : Int32} (ht : zModel Z t) (hW : WM 7 t I) (hs : TM I t s) (hK : ∀ (v : Int32) (I2 : jdI), WM 7 t I2 → Fr (fun a k => (a = t ∧ (k = 44 ∨ k = 16 ∨ k = 17)) ∨ a = t + 17 ∨ (t + 21 ≤ a ∧ a ≤ t + 28)) I I2 → (v.toInt = (oRides s (tM I t x1 x2) (J (t + 5 + (Int32.toNatClampNeg x1))) x2.toInt.toNat).1 ∧ TM I2 t (oRides s (tM I t x1 x2) (J (t + 5 + (Int32.toNatClampNeg x1))) x2.toInt.toNat).2) → K v I2 J) : Cl G mX12_rides (n + 3) 0 0 [.ref (gb G + t), .int x1, .int x2] Z I J (qi Z K) := by
  have n1 := tn_eq x1
  have hwm := WM_f hW
  have h1 := hs.1.1
  have qm : (-1 : Int32).toInt = -1 := rfl
  refine eX12_rides ht ?_
  refine pX12_noDay ht hW (fun v2 I1 hW1 hF1 hv => ⟨fun c2 => ?_, fun c2 => ?_⟩)
  · have c2 := i0 c2
    have hc : tM I t x1 x2 = 0 := by omega
    have hr := tM_0 hc
    have hs1 := TM_fr hs (show s.1.1 ≤ 8 by omega) hF1 (by omega) (by omega) (by omega) (by omega) (by intro a k h1 h2 h3; omega)
    refine ⟨vp_of (by omega) (by omega), ?_⟩
    refine pX12_wrongCoach ht (zModel_rowsA ht (i := Int32.toNatClampNeg x1) (by omega)) hW1 hs1.1 hr.2.1 (by omega) (by decide) (fun v5 I4 hW4 hF4 hv4 _ => ?_)
    have hs4 := TM_fr hs1 (show s.1.1 ≤ 8 by omega) hF4 (by omega) (by omega) (by omega) (by omega) (by intro a k h1 h2 h3; omega)
    refine ⟨fun c5 => ?_, fun c5 => ?_⟩
    · have c5 : v5.toInt = -1 := by rw [c5]; rfl
      have e : oRides s (tM I t x1 x2) (J (t + 5 + (Int32.toNatClampNeg x1))) x2.toInt.toNat = ((x2.toInt.toNat : Int), (acqL s.1 (rowL (J (t + 5 + (Int32.toNatClampNeg x1))) x2.toInt.toNat 0), s.2)) := by
        unfold oRides
        rw [if_pos hc, if_pos (by omega)]
      refine pX12_rides_38 (R := acqL s.1 (rowL (J (t + 5 + (Int32.toNatClampNeg x1))) x2.toInt.toNat 0)) ht hr.1 hr.2.2 (fun I3 hW3 hF3 hR3 => ?_) x2.toInt.toNat I4 0 s.1 hW4 Fr.rf hs4.1 (by decide) (by show (0 : Int) + _ = _; omega) rfl
      refine hK x2 I3 hW3 (Fr.tr (Fr.tr (Fr.tr Fr.rf hF1 (by intro a k h; omega)) hF4 (by intro a k h; omega)) hF3 (by intro a k h; omega)) ?_
      rw [e]
      exact ⟨by show x2.toInt = (x2.toInt.toNat : Int); omega, hR3, by rw [hF3 t 19 (by omega)]; exact hs4.2⟩
    · have c5 : ¬ v5.toInt = -1 := fun z => c5 (Int32.toInt_inj.mp (z.trans qm.symm))
      have e : oRides s (tM I t x1 x2) (J (t + 5 + (Int32.toNatClampNeg x1))) x2.toInt.toNat = (-5, s) := by
        unfold oRides
        rw [if_pos hc, if_neg (by omega)]
      refine sfX12_refuse ht (by decide) hW4 (by decide) (fun v I3 hW3 hF3 hp3 => hK v I3 hW3 (Fr.tr (Fr.tr (Fr.tr Fr.rf hF1 (by intro a k h; omega)) hF4 (by intro a k h; omega)) hF3 (by intro a k h; omega)) ?_)
      rw [e]
      exact ⟨hp3, TM_fr hs4 (show s.1.1 ≤ 8 by omega) hF3 (by omega) (by omega) (by omega) (by omega) (by intro a k h1 h2 h3; omega)⟩
  · have c2 := i1 c2
    have e : oRides s (tM I t x1 x2) (J (t + 5 + (Int32.toNatClampNeg x1))) x2.toInt.toNat = (tM I t x1 x2, s) := if_neg (by omega)
    refine hK v2 I1 hW1 (Fr.tr Fr.rf hF1 (by intro a k h; omega)) ?_
    rw [e]
    exact ⟨hv, TM_fr hs (show s.1.1 ≤ 8 by omega) hF1 (by omega) (by omega) (by omega) (by omega) (by intro a k h1 h2 h3; omega)⟩
