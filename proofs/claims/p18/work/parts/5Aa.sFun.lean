/-- the kind of token that a letter begins -/
def tokOf (c : Int32) : Int := if 97 ≤ c.toInt ∧ c.toInt ≤ 122 then 1 else if 48 ≤ c.toInt ∧ c.toInt ≤ 57 then 2 else if c.toInt = 59 then 3 else 4
theorem tokOf_r (c : Int32) : 1 ≤ tokOf c ∧ tokOf c ≤ 4 := by
  unfold tokOf
  split
  · omega
  · split
    · omega
    · split <;> omega
/-- spaces from a to b -/
def SPx (T : Nat → Int32) (a b : Int) : Prop := ∀ i : Nat, a ≤ i → (i : Int) < b → (T i).toInt = 32
/-- a token from s to f, not yet at its end -/
def TKp (T : Nat → Int32) (n tk s f : Int) : Prop := (s = n ∧ tk = 0 ∧ f = n) ∨ ((0 ≤ s ∧ s < n) ∧ ¬ (T s.toNat).toInt = 32 ∧ tk = tokOf (T s.toNat) ∧ (s < f ∧ f ≤ n) ∧ ∀ i : Nat, s ≤ i → (i : Int) < f → tokOf (T i) = tk)
/-- the token that is found from e on: its kind, its first place, the place behind it -/
def TK (T : Nat → Int32) (n e tk s f : Int) : Prop := (e ≤ s ∧ s ≤ n) ∧ SPx T e s ∧ TKp T n tk s f ∧ ((tk = 1 ∨ tk = 2) → f < n → ¬ tokOf (T f.toNat) = tk) ∧ (¬ (tk = 1 ∨ tk = 2) → tk = 0 ∨ f = s + 1)
theorem spx_0 {T : Nat → Int32} {a b : Int} (h : b ≤ a) : SPx T a b := fun i h1 h2 => by omega
theorem spx_c {T : Nat → Int32} {a b b2 : Int} (h : SPx T a b) (e : b2 = b) : SPx T a b2 := by
  rw [e]
  exact h
theorem spx_s {T : Nat → Int32} {a b b2 : Int} (h : SPx T a b) (hx : (T b.toNat).toInt = 32) (h0 : 0 ≤ b) (e : b2 = b + 1) : SPx T a b2 := fun i h1 h2 => by
  by_cases c : (i : Int) < b
  · exact h i h1 c
  · have : i = b.toNat := by omega
    rw [this]
    exact hx
theorem tkp_0 {T : Nat → Int32} {n tk s f : Int} (h1 : s = n) (h2 : tk = 0) (h3 : f = n) : TKp T n tk s f := Or.inl ⟨h1, h2, h3⟩
theorem tkp_1 {T : Nat → Int32} {n tk s f : Int} {x y : Int32} (h0 : 0 ≤ s) (h1 : s < n) (hx : ¬ x.toInt = 32) (hT : y = x) (hy : T s.toNat = y) (h2 : tk = tokOf x) (h3 : f = s + 1) (h4 : f ≤ n) : TKp T n tk s f := by
  rw [hT] at hy
  refine Or.inr ⟨⟨h0, h1⟩, by rw [hy]; exact hx, by rw [hy]; exact h2, ⟨by omega, h4⟩, fun i q1 q2 => ?_⟩
  have : i = s.toNat := by omega
  rw [this, hy]
  exact h2.symm
theorem tkp_2 {T : Nat → Int32} {n tk s f tk2 s2 f2 : Int} {x : Int32} (h : TKp T n tk s f) (hT : T f.toNat = x) (hx : tokOf x = tk) (hf : f < n) (h0 : 0 ≤ f) (e1 : tk2 = tk) (e2 : s2 = s) (e3 : f2 = f + 1) : TKp T n tk2 s2 f2 := by
  rcases h with h | h
  · omega
  · obtain ⟨a1, a2, a3, a4, a5⟩ := h
    rw [e1, e2, e3]
    refine Or.inr ⟨a1, a2, a3, ⟨by omega, by omega⟩, fun i q1 q2 => ?_⟩
    by_cases c : (i : Int) < f
    · exact a5 i q1 c
    · have : i = f.toNat := by omega
      rw [this, hT]
      exact hx
theorem tk_end {T : Nat → Int32} {n e tk s f : Int} (h1 : SPx T e s) (h2 : TKp T n tk s f) (h3 : e ≤ s) (h4 : s ≤ n) (h5 : (tk = 1 ∨ tk = 2) → f < n → ¬ tokOf (T f.toNat) = tk) (h6 : ¬ (tk = 1 ∨ tk = 2) → tk = 0 ∨ f = s + 1) : TK T n e tk s f := ⟨⟨h3, h4⟩, h1, h2, h5, h6⟩
theorem TK_uniq {T : Nat → Int32} {n e tk s f tk2 s2 f2 : Int} (h0 : 0 ≤ e) (h : TK T n e tk s f) (g : TK T n e tk2 s2 f2) : tk = tk2 ∧ s = s2 ∧ f = f2 := by
  obtain ⟨⟨a1, a2⟩, a3, a4, a5, a6⟩ := h
  obtain ⟨⟨b1, b2⟩, b3, b4, b5, b6⟩ := g
  have es : s = s2 := by
    rcases Int.lt_trichotomy s s2 with c | c | c
    · have q := b3 s.toNat (by omega) (by omega)
      rcases a4 with a4 | a4
      · omega
      · exact absurd q a4.2.1
    · exact c
    · have q := a3 s2.toNat (by omega) (by omega)
      rcases b4 with b4 | b4
      · omega
      · exact absurd q b4.2.1
  subst es
  rcases a4 with a4 | a4 <;> rcases b4 with b4 | b4
  · omega
  · omega
  · omega
  · obtain ⟨c1, c2, c3, c4, c5⟩ := a4
    obtain ⟨d1, d2, d3, d4, d5⟩ := b4
    have et : tk = tk2 := c3.trans d3.symm
    subst et
    refine ⟨rfl, rfl, ?_⟩
    by_cases k : tk = 1 ∨ tk = 2
    · rcases Int.lt_trichotomy f f2 with c | c | c
      · exact absurd (d5 f.toNat (by omega) (by omega)) (a5 k (by omega))
      · exact c
      · exact absurd (c5 f2.toNat (by omega) (by omega)) (b5 k (by omega))
    · have r := tokOf_r (T s.toNat)
      have := a6 k
      have := b6 k
      omega
theorem tok_1 (c : Int32) : tokOf c = 1 ↔ 97 ≤ c.toInt ∧ c.toInt ≤ 122 := by
  unfold tokOf
  split
  · omega
  · split
    · omega
    · split <;> omega
theorem tok_2 (c : Int32) : tokOf c = 2 ↔ 48 ≤ c.toInt ∧ c.toInt ≤ 57 := by
  unfold tokOf
  split
  · omega
  · split
    · omega
    · split <;> omega
theorem tok_3 (c : Int32) : tokOf c = 3 ↔ c.toInt = 59 := by
  unfold tokOf
  split
  · omega
  · split
    · omega
    · split <;> omega
/-- a token under way: from s, up to f, perhaps still empty -/
def TKr (T : Nat → Int32) (n tk s f : Int) : Prop := (0 ≤ s ∧ s < n) ∧ ¬ (T s.toNat).toInt = 32 ∧ tk = tokOf (T s.toNat) ∧ (s ≤ f ∧ f ≤ n) ∧ ∀ i : Nat, s ≤ i → (i : Int) < f → tokOf (T i) = tk
theorem tkr_0 {T : Nat → Int32} {n tk s f a : Int} {x y : Int32} (hT : y = x) (hy : T a.toNat = y) (hs : s = a) (h0 : 0 ≤ s) (h1 : s < n) (hx : ¬ x.toInt = 32) (h2 : tk = tokOf x) (h3 : f = s) : TKr T n tk s f := by
  rw [hT] at hy
  subst hs
  exact ⟨⟨h0, h1⟩, by rw [hy]; exact hx, by rw [hy]; exact h2, ⟨by omega, by omega⟩, fun i q1 q2 => by omega⟩
theorem tkr_s {T : Nat → Int32} {n tk s f tk2 s2 f2 : Int} {x : Int32} (h : TKr T n tk s f) (hT : T f.toNat = x) (hx : tokOf x = tk) (hf : f < n) (h0 : 0 ≤ f) (e1 : tk2 = tk) (e2 : s2 = s) (e3 : f2 = f + 1) : TKr T n tk2 s2 f2 := by
  obtain ⟨a1, a2, a3, a4, a5⟩ := h
  rw [e1, e2, e3]
  refine ⟨a1, a2, a3, ⟨by omega, by omega⟩, fun i q1 q2 => ?_⟩
  by_cases c : (i : Int) < f
  · exact a5 i q1 c
  · have : i = f.toNat := by omega
    rw [this, hT]
    exact hx
theorem tk_e0 {T : Nat → Int32} {n e tk s f a : Int} (h : SPx T e a) (h1 : e ≤ a) (h2 : a = n ∧ s = n) (h3 : tk = 0) (h4 : f = n) : TK T n e tk s f := by
  rw [h2.1] at h
  exact ⟨⟨by omega, by omega⟩, by rw [h2.2]; exact h, Or.inl ⟨h2.2, h3, h4⟩, fun q => by omega, fun _ => Or.inl h3⟩
theorem tk_e1 {T : Nat → Int32} {n e tk s f a : Int} {x y : Int32} (h : SPx T e a) (h1 : e ≤ a) (hT : y = x) (hy : T a.toNat = y) (hs : s = a) (h0 : 0 ≤ a) (h2 : a < n) (hx : ¬ x.toInt = 32) (h3 : tk = tokOf x ∧ ¬ (tk = 1 ∨ tk = 2)) (h4 : f = s + 1) : TK T n e tk s f := by
  rw [hT] at hy
  subst hs
  refine ⟨⟨h1, by omega⟩, h, Or.inr ⟨⟨h0, h2⟩, by rw [hy]; exact hx, by rw [hy]; exact h3.1, ⟨by omega, by omega⟩, fun i q1 q2 => ?_⟩, fun q => absurd q h3.2, fun _ => Or.inr h4⟩
  have : i = s.toNat := by omega
  rw [this, hy]
  exact h3.1.symm
theorem tk_e2 {T : Nat → Int32} {n e tk s f : Int} (h : SPx T e s) (hq : TKr T n tk s f) (h1 : e ≤ s) (h2 : tk = 1 ∨ tk = 2) (h3 : f < n → ¬ tokOf (T f.toNat) = tk) (h4 : 0 ≤ s) (h5 : s ≤ f) : TK T n e tk s f := by
  obtain ⟨a1, a2, a3, a4, a5⟩ := hq
  have hf : s < f := by
    by_cases c : s < f
    · exact c
    · have e : f = s := by omega
      rw [e] at h3
      exact absurd a3.symm (h3 a1.2)
  exact ⟨⟨h1, by omega⟩, h, Or.inr ⟨a1, a2, a3, ⟨hf, a4.2⟩, a5⟩, fun _ => h3, fun q => absurd h2 q⟩
/-- the value of a token of digits from s to f -/
def vq (T : Nat → Int32) (s f g : Int) : Prop := (f = s ∧ g = 0) ∨ (f = s + 1 ∧ g = (T s.toNat).toInt - 48) ∨ (f = s + 2 ∧ g = 10 * ((T s.toNat).toInt - 48) + ((T (s.toNat + 1)).toInt - 48)) ∨ (s + 3 ≤ f ∧ g = 100000)
theorem vq_s {T : Nat → Int32} {s f g s2 f2 g2 : Int} {x : Int32} (h : vq T s f g) (hT : T f.toNat = x) (h0 : 0 ≤ s) (e1 : s2 = s) (e2 : f2 = f + 1) (e3 : f - s < 2 → g2 = g * 10 + x.toInt - 48) (e4 : ¬ f - s < 2 → g2 = 100000) : vq T s2 f2 g2 := by
  rw [e1, e2]
  rcases h with h | h | h | h
  · refine Or.inr (Or.inl ⟨by omega, ?_⟩)
    rw [e3 (by omega), h.2, ← hT, h.1]
    omega
  · refine Or.inr (Or.inr (Or.inl ⟨by omega, ?_⟩))
    rw [e3 (by omega), h.2, ← hT, h.1, show (s + 1).toNat = s.toNat + 1 by omega]
    omega
  · exact Or.inr (Or.inr (Or.inr ⟨by omega, e4 (by omega)⟩))
  · exact Or.inr (Or.inr (Or.inr ⟨by omega, e4 (by omega)⟩))
theorem vq_r {T : Nat → Int32} {s f g : Int} (h : vq T s f g) : (f = s ∧ g = 0) ∨ (f = s + 1 ∧ g = (T s.toNat).toInt - 48) ∨ (f = s + 2) ∨ (s + 3 ≤ f ∧ g = 100000) := by
  rcases h with h | h | h | h
  · exact Or.inl h
  · exact Or.inr (Or.inl h)
  · exact Or.inr (Or.inr (Or.inl h.1))
  · exact Or.inr (Or.inr (Or.inr h))
theorem tkp_f {T : Nat → Int32} {n tk s f : Int} (h : TKp T n tk s f) : f ≤ n ∧ (¬ tk = 0 → 0 ≤ s ∧ s < f) := by
  rcases h with h | h
  · exact ⟨by omega, fun q => absurd h.2.1 q⟩
  · exact ⟨h.2.2.2.1.2, fun _ => ⟨h.1.1, h.2.2.2.1.1⟩⟩
theorem tkp_d {T : Nat → Int32} {n tk s f : Int} (h : TKp T n tk s f) (h2 : tk = 2) : ∀ i : Nat, s ≤ i → (i : Int) < f → 48 ≤ (T i).toInt ∧ (T i).toInt ≤ 57 := fun i q1 q2 => by
  rcases h with h | h
  · omega
  · have e := h.2.2.2.2 i q1 q2
    rw [h2] at e
    exact (tok_2 (T i)).mp e
/-- what a token of digits is worth; 100000 where it is too long -/
def vl (T : Nat → Int32) (s f : Int) : Int := if f = s + 1 then (T s.toNat).toInt - 48 else if f = s + 2 then 10 * ((T s.toNat).toInt - 48) + ((T (s.toNat + 1)).toInt - 48) else 100000
theorem vl_big {T : Nat → Int32} {s f : Int} : s + 2 < f → vl T s f = 100000 := fun h => by
  unfold vl
  rw [if_neg (by omega), if_neg (by omega)]
theorem vl_of {T : Nat → Int32} {s f g f2 : Int} (h : vq T s f g) (e : f = f2) (hs : s < f2) : g = vl T s f2 := by
  subst e
  unfold vl
  rcases h with h | h | h | h
  · omega
  · rw [if_pos h.1]
    exact h.2
  · rw [if_neg (by omega), if_pos h.1]
    exact h.2
  · rw [if_neg (by omega), if_neg (by omega)]
    exact h.2
/-- the token is the word u -/
def WD (T : Nat → Int32) (tk s f : Int) (u : Nat) : Prop := tk = 1 ∧ f - s = (sl u).toInt ∧ ∀ q : Nat, (q : Int) < (sl u).toInt → T (s.toNat + q) = sc u q
theorem wd_s {T : Nat → Int32} {s : Int} {x2 x3 c : Int32} {u p : Nat} (hk : ∀ q : Nat, (q : Int) < x2.toInt → T (s.toNat + q) = sc u q) (hc : c = sc u (Int32.toNatClampNeg x2)) (h0 : 0 ≤ s) (h1 : 0 ≤ x2.toInt) (hp : p = s.toNat + Int32.toNatClampNeg x2) (e : T p = c) (e3 : x3.toInt = x2.toInt + 1) : ∀ q : Nat, (q : Int) < x3.toInt → T (s.toNat + q) = sc u q := fun q hq => by
  by_cases d : (q : Int) < x2.toInt
  · exact hk q d
  · have n2 := tn_eq x2
    have : q = Int32.toNatClampNeg x2 := by omega
    rw [this, ← hc, ← e, hp]
theorem wd_no {T : Nat → Int32} {tk s f : Int} {x2 c : Int32} {u p : Nat} (h : WD T tk s f u) (hc : c = sc u (Int32.toNatClampNeg x2)) (h0 : 0 ≤ s ∧ 0 ≤ x2.toInt) (h1 : x2.toInt < (sl u).toInt) (hp : p = s.toNat + Int32.toNatClampNeg x2) (e : ¬ (T p).toInt = c.toInt) : False := by
  have n2 := tn_eq x2
  have := h.2.2 (Int32.toNatClampNeg x2) (by omega)
  apply e
  rw [hp, this, hc]
theorem fsfX5_tokenOf {G : jdG} {n : Nat} {Z : jdL} {J : jdJ} {K : Int32 → jdI → jdJ → Prop}  {I : jdI} {x0 : Int32}   (hW : WX I)  (hK : ∀ (v : Int32), (v.toInt = tokOf x0) → K v I J) : Cl G mX5_tokenOf n 0 0 [.int x0] Z I J (qi Z K) := by
  refine eX5_tokenOf  ?_
  have hwI := WX_f hW
  refine ⟨fun hc1 => ?_, fun hc2 => ?_⟩
  · skip
    have q1 := i32_lo x0
    have q2 : (97 : Int32).toInt = 97 := rfl
    have hc1 := Int32.lt_iff_toInt_lt.mp hc1
    refine ⟨fun hc3 => ?_, fun hc4 => ?_⟩
    · skip
      have q3 : (48 : Int32).toInt = 48 := rfl
      have hc3 := Int32.lt_iff_toInt_lt.mp hc3
      refine ⟨fun hc5 => ?_, fun hc6 => ?_⟩
      · skip
        have q4 : (59 : Int32).toInt = 59 := rfl
        have hc5 : ¬ (x0).toInt = (59 : Int32).toInt := fun z => hc5 (Int32.toInt_inj.mp z)
        exact hK _  (by first | (exfalso; omega) | (unfold tokOf; (repeat first | rw [if_pos (by omega)] | rw [if_neg (by omega)]) <;> rfl))
      · skip
        have q4 : (59 : Int32).toInt = 59 := rfl
        have hc6 := Int32.toInt_inj.mpr hc6
        exact hK _  (by first | (exfalso; omega) | (unfold tokOf; (repeat first | rw [if_pos (by omega)] | rw [if_neg (by omega)]) <;> rfl))
    · skip
      have q3 : (48 : Int32).toInt = 48 := rfl
      have hc4 := mt Int32.lt_iff_toInt_lt.mpr hc4
      refine ⟨fun hc7 => ?_, fun hc8 => ?_⟩
      · skip
        have q4 : (57 : Int32).toInt = 57 := rfl
        have hc7 := Int32.lt_iff_toInt_lt.mp hc7
        refine ⟨fun hc9 => ?_, fun hc10 => ?_⟩
        · skip
          have q5 : (59 : Int32).toInt = 59 := rfl
          have hc9 : ¬ (x0).toInt = (59 : Int32).toInt := fun z => hc9 (Int32.toInt_inj.mp z)
          exact hK _  (by first | (exfalso; omega) | (unfold tokOf; (repeat first | rw [if_pos (by omega)] | rw [if_neg (by omega)]) <;> rfl))
        · skip
          have q5 : (59 : Int32).toInt = 59 := rfl
          have hc10 := Int32.toInt_inj.mpr hc10
          exact hK _  (by first | (exfalso; omega) | (unfold tokOf; (repeat first | rw [if_pos (by omega)] | rw [if_neg (by omega)]) <;> rfl))
      · skip
        have q4 : (57 : Int32).toInt = 57 := rfl
        have hc8 := mt Int32.lt_iff_toInt_lt.mpr hc8
        exact hK _  (by first | (exfalso; omega) | (unfold tokOf; (repeat first | rw [if_pos (by omega)] | rw [if_neg (by omega)]) <;> rfl))
  · skip
    have q1 := i32_lo x0
    have q2 : (97 : Int32).toInt = 97 := rfl
    have hc2 := mt Int32.lt_iff_toInt_lt.mpr hc2
    refine ⟨fun hc11 => ?_, fun hc12 => ?_⟩
    · skip
      have q3 : (122 : Int32).toInt = 122 := rfl
      have hc11 := Int32.lt_iff_toInt_lt.mp hc11
      refine ⟨fun hc13 => ?_, fun hc14 => ?_⟩
      · skip
        have q4 : (48 : Int32).toInt = 48 := rfl
        have hc13 := Int32.lt_iff_toInt_lt.mp hc13
        refine ⟨fun hc15 => ?_, fun hc16 => ?_⟩
        · skip
          have q5 : (59 : Int32).toInt = 59 := rfl
          have hc15 : ¬ (x0).toInt = (59 : Int32).toInt := fun z => hc15 (Int32.toInt_inj.mp z)
          exact hK _  (by first | (exfalso; omega) | (unfold tokOf; (repeat first | rw [if_pos (by omega)] | rw [if_neg (by omega)]) <;> rfl))
        · skip
          have q5 : (59 : Int32).toInt = 59 := rfl
          have hc16 := Int32.toInt_inj.mpr hc16
          exact hK _  (by first | (exfalso; omega) | (unfold tokOf; (repeat first | rw [if_pos (by omega)] | rw [if_neg (by omega)]) <;> rfl))
      · skip
        have q4 : (48 : Int32).toInt = 48 := rfl
        have hc14 := mt Int32.lt_iff_toInt_lt.mpr hc14
        refine ⟨fun hc17 => ?_, fun hc18 => ?_⟩
        · skip
          have q5 : (57 : Int32).toInt = 57 := rfl
          have hc17 := Int32.lt_iff_toInt_lt.mp hc17
          refine ⟨fun hc19 => ?_, fun hc20 => ?_⟩
          · skip
            have q6 : (59 : Int32).toInt = 59 := rfl
            have hc19 : ¬ (x0).toInt = (59 : Int32).toInt := fun z => hc19 (Int32.toInt_inj.mp z)
            exact hK _  (by first | (exfalso; omega) | (unfold tokOf; (repeat first | rw [if_pos (by omega)] | rw [if_neg (by omega)]) <;> rfl))
          · skip
            have q6 : (59 : Int32).toInt = 59 := rfl
            have hc20 := Int32.toInt_inj.mpr hc20
            exact hK _  (by first | (exfalso; omega) | (unfold tokOf; (repeat first | rw [if_pos (by omega)] | rw [if_neg (by omega)]) <;> rfl))
        · skip
          have q5 : (57 : Int32).toInt = 57 := rfl
          have hc18 := mt Int32.lt_iff_toInt_lt.mpr hc18
          exact hK _  (by first | (exfalso; omega) | (unfold tokOf; (repeat first | rw [if_pos (by omega)] | rw [if_neg (by omega)]) <;> rfl))
    · skip
      have q3 : (122 : Int32).toInt = 122 := rfl
      have hc12 := mt Int32.lt_iff_toInt_lt.mpr hc12
      exact hK _  (by first | (exfalso; omega) | (unfold tokOf; (repeat first | rw [if_pos (by omega)] | rw [if_neg (by omega)]) <;> rfl))
theorem gX5_advance_101 {G : jdG} {n : Nat} {Z : jdL} {J : jdJ} {rc rs : Nat} {K : jdI → jdJ → Prop}  {I0 : jdI}  (ht : zScribe Z 25)   (hK : ∀ (I2 : jdI), WX I2 → Fr (fun a k => a = 25) I0 I2 → (TK (I0 (25 + 1)) (I0 25 1).toInt (I0 25 4).toInt (I2 25 2).toInt (I2 25 3).toInt (I2 25 4).toInt ∧ (I2 25 1).toInt = (I0 25 1).toInt ∧ (I2 25 5).toInt = (I0 25 5).toInt) → K I2 J) : ∀ m : Nat, ∀ (I : jdI) , WX I → Fr (fun a k => a = 25) I0 I → (((I0 25 4).toInt ≤ (I 25 3).toInt ∧ (I 25 3).toInt ≤ (I 25 1).toInt ∧ (I 25 4).toInt ≤ (I 25 1).toInt) ∧ (I 25 1).toInt = (I0 25 1).toInt ∧ (I 25 5).toInt = (I0 25 5).toInt) → (SPx (I0 (25 + 1)) (I0 25 4).toInt (I 25 3).toInt) → (¬ ((I 25 2).toInt = 1 ∨ (I 25 2).toInt = 2) → (I 25 2).toInt = 0 ∨ (I 25 4).toInt = (I 25 3).toInt + 1) → (TKp (I0 (25 + 1)) (I0 25 1).toInt (I 25 2).toInt (I 25 3).toInt (I 25 4).toInt) → 250 - (I 25 4).toInt < (m : Int) → Jd G mX5_advance (jdFm G (qv Z K)) (n + 1) rc rs 101 [(0, .ref (gb G + 25))] [] Z I J := by
  intro m
  induction m with
  | zero =>
    intro I hW hF h4 hsp h6 hq hm
    have hwI := WX_f hW
    omega
  | succ m ih =>
    intro I hW hF h4 hsp h6 hq hm
    have hwI := WX_f hW
    refine rX5_advance_101 ht ?_
    refine ⟨fun hc1 => ?_, fun hc2 => ?_⟩
    · skip
      have q1 := i32_lo (I 25 2)
      have q2 : (1 : Int32).toInt = 1 := rfl
      have hc1 := Int32.toInt_inj.mpr hc1
      first | have htr := tokOf_r (I (25 + 1) (Int32.toNatClampNeg (I 25 3))) | skip
      refine ⟨fun hc3 => ?_, fun hc4 => ?_⟩
      · skip
        have q3 := i32_lo (I 25 1)
        have q4 := i32_lo (I 25 4)
        have hc3 := Int32.le_iff_toInt_le.mp hc3
        first | have htr := tokOf_r (I (25 + 1) (Int32.toNatClampNeg (I 25 3))) | skip
        exact hK _ hW hF ⟨tk_end hsp hq (by omega) (by omega) (fun k9 l9 q9 => by first | omega | (have hz8 := congrArg tokOf (hF (25 + 1) (Int32.toNatClampNeg (I 25 4)) (by omega)); have hz7 : tokOf (I0 (25 + 1) (Int32.toNatClampNeg (I 25 4))) = tokOf (I0 (25 + 1) (I 25 4).toInt.toNat) := rfl; omega)) (fun k9 => by omega), by omega, by omega⟩
      · skip
        have q3 := i32_lo (I 25 1)
        have q4 := i32_lo (I 25 4)
        have hc4 := mt Int32.le_iff_toInt_le.mpr hc4
        first | have htr := tokOf_r (I (25 + 1) (Int32.toNatClampNeg (I 25 3))) | skip
        refine ⟨vp_of (by omega) (by omega), ?_⟩
        refine fsfX5_tokenOf  hW  (fun v3  hp5 => ?_)
        first | have htr := tokOf_r (I (25 + 1) (Int32.toNatClampNeg (I 25 3))) | skip
        refine ⟨fun hc6 => ?_, fun hc7 => ?_⟩
        · skip
          have q5 := i32_lo v3
          have hc6 : ¬ (v3).toInt = ((I 25 2)).toInt := fun z => hc6 (Int32.toInt_inj.mp z)
          first | have htr := tokOf_r (I (25 + 1) (Int32.toNatClampNeg (I 25 3))) | skip
          exact hK _ hW hF ⟨tk_end hsp hq (by omega) (by omega) (fun k9 l9 q9 => by first | omega | (have hz8 := congrArg tokOf (hF (25 + 1) (Int32.toNatClampNeg (I 25 4)) (by omega)); have hz7 : tokOf (I0 (25 + 1) (Int32.toNatClampNeg (I 25 4))) = tokOf (I0 (25 + 1) (I 25 4).toInt.toNat) := rfl; omega)) (fun k9 => by omega), by omega, by omega⟩
        · skip
          have q5 := i32_lo v3
          have hc7 := Int32.toInt_inj.mpr hc7
          first | have htr := tokOf_r (I (25 + 1) (Int32.toNatClampNeg (I 25 3))) | skip
          have q6 := i32_add (I 25 4) 1 (by omega) (by omega)
          have hr8 : (((uI I 25 4 ((I 25 4) + 1))) 25 4).toInt = (((I 25 4) + 1)).toInt := congrArg Int32.toInt (uI_ss _ _ _ _)
          have hr9 : (((uI I 25 4 ((I 25 4) + 1))) 25 3).toInt = ((I 25 3)).toInt := congrArg Int32.toInt (uI_sk (by decide) rfl)
          have hr10 : (((uI I 25 4 ((I 25 4) + 1))) 25 1).toInt = ((I 25 1)).toInt := congrArg Int32.toInt (uI_sk (by decide) rfl)
          have hr11 : (((uI I 25 4 ((I 25 4) + 1))) 25 5).toInt = ((I 25 5)).toInt := congrArg Int32.toInt (uI_sk (by decide) rfl)
          have hr12 : (((uI I 25 4 ((I 25 4) + 1))) 25 2).toInt = ((I 25 2)).toInt := congrArg Int32.toInt (uI_sk (by decide) rfl)
          exact ih _ (WX_uI hW (by first | exact okXo (by decide) | (unfold okX; refine ⟨?_, ?_, ?_, ?_, ?_, ?_, ?_, ?_, ?_, ?_⟩ <;> intro h <;> omega))) (Fr_uI hF (by omega)) (by omega) (spx_c hsp (by omega)) (by omega) (by first | exact tkp_0 (by omega) (by omega) (by omega) | exact tkp_2 (x := I (25 + 1) (Int32.toNatClampNeg (I 25 4))) hq (hF (25 + 1) (Int32.toNatClampNeg (I 25 4)) (by omega)).symm (by omega) (by omega) (by omega) (by omega) (by omega) (by omega) | exact tkp_1 (x := I (25 + 1) (Int32.toNatClampNeg (I 25 3))) (by omega) (by omega) (by omega) (hF (25 + 1) (Int32.toNatClampNeg (I 25 3)) (by omega)).symm rfl (by omega) (by omega) (by omega)) (by omega)
    · skip
      have q1 := i32_lo (I 25 2)
      have q2 : (1 : Int32).toInt = 1 := rfl
      have hc2 : ¬ ((I 25 2)).toInt = (1 : Int32).toInt := fun z => hc2 (Int32.toInt_inj.mp z)
      first | have htr := tokOf_r (I (25 + 1) (Int32.toNatClampNeg (I 25 3))) | skip
      refine ⟨fun hc13 => ?_, fun hc14 => ?_⟩
      · skip
        have q3 : (2 : Int32).toInt = 2 := rfl
        have hc13 : ¬ ((I 25 2)).toInt = (2 : Int32).toInt := fun z => hc13 (Int32.toInt_inj.mp z)
        first | have htr := tokOf_r (I (25 + 1) (Int32.toNatClampNeg (I 25 3))) | skip
        exact hK _ hW hF ⟨tk_end hsp hq (by omega) (by omega) (fun k9 l9 q9 => by first | omega | (have hz8 := congrArg tokOf (hF (25 + 1) (Int32.toNatClampNeg (I 25 4)) (by omega)); have hz7 : tokOf (I0 (25 + 1) (Int32.toNatClampNeg (I 25 4))) = tokOf (I0 (25 + 1) (I 25 4).toInt.toNat) := rfl; omega)) (fun k9 => by omega), by omega, by omega⟩
      · skip
        have q3 : (2 : Int32).toInt = 2 := rfl
        have hc14 := Int32.toInt_inj.mpr hc14
        first | have htr := tokOf_r (I (25 + 1) (Int32.toNatClampNeg (I 25 3))) | skip
        refine ⟨fun hc15 => ?_, fun hc16 => ?_⟩
        · skip
          have q4 := i32_lo (I 25 1)
          have q5 := i32_lo (I 25 4)
          have hc15 := Int32.le_iff_toInt_le.mp hc15
          first | have htr := tokOf_r (I (25 + 1) (Int32.toNatClampNeg (I 25 3))) | skip
          exact hK _ hW hF ⟨tk_end hsp hq (by omega) (by omega) (fun k9 l9 q9 => by first | omega | (have hz8 := congrArg tokOf (hF (25 + 1) (Int32.toNatClampNeg (I 25 4)) (by omega)); have hz7 : tokOf (I0 (25 + 1) (Int32.toNatClampNeg (I 25 4))) = tokOf (I0 (25 + 1) (I 25 4).toInt.toNat) := rfl; omega)) (fun k9 => by omega), by omega, by omega⟩
        · skip
          have q4 := i32_lo (I 25 1)
          have q5 := i32_lo (I 25 4)
          have hc16 := mt Int32.le_iff_toInt_le.mpr hc16
          first | have htr := tokOf_r (I (25 + 1) (Int32.toNatClampNeg (I 25 3))) | skip
          refine ⟨vp_of (by omega) (by omega), ?_⟩
          refine fsfX5_tokenOf  hW  (fun v6  hp17 => ?_)
          first | have htr := tokOf_r (I (25 + 1) (Int32.toNatClampNeg (I 25 3))) | skip
          refine ⟨fun hc18 => ?_, fun hc19 => ?_⟩
          · skip
            have q6 := i32_lo v6
            have hc18 : ¬ (v6).toInt = ((I 25 2)).toInt := fun z => hc18 (Int32.toInt_inj.mp z)
            first | have htr := tokOf_r (I (25 + 1) (Int32.toNatClampNeg (I 25 3))) | skip
            exact hK _ hW hF ⟨tk_end hsp hq (by omega) (by omega) (fun k9 l9 q9 => by first | omega | (have hz8 := congrArg tokOf (hF (25 + 1) (Int32.toNatClampNeg (I 25 4)) (by omega)); have hz7 : tokOf (I0 (25 + 1) (Int32.toNatClampNeg (I 25 4))) = tokOf (I0 (25 + 1) (I 25 4).toInt.toNat) := rfl; omega)) (fun k9 => by omega), by omega, by omega⟩
          · skip
            have q6 := i32_lo v6
            have hc19 := Int32.toInt_inj.mpr hc19
            first | have htr := tokOf_r (I (25 + 1) (Int32.toNatClampNeg (I 25 3))) | skip
            have q7 := i32_add (I 25 4) 1 (by omega) (by omega)
            have hr20 : (((uI I 25 4 ((I 25 4) + 1))) 25 4).toInt = (((I 25 4) + 1)).toInt := congrArg Int32.toInt (uI_ss _ _ _ _)
            have hr21 : (((uI I 25 4 ((I 25 4) + 1))) 25 3).toInt = ((I 25 3)).toInt := congrArg Int32.toInt (uI_sk (by decide) rfl)
            have hr22 : (((uI I 25 4 ((I 25 4) + 1))) 25 1).toInt = ((I 25 1)).toInt := congrArg Int32.toInt (uI_sk (by decide) rfl)
            have hr23 : (((uI I 25 4 ((I 25 4) + 1))) 25 5).toInt = ((I 25 5)).toInt := congrArg Int32.toInt (uI_sk (by decide) rfl)
            have hr24 : (((uI I 25 4 ((I 25 4) + 1))) 25 2).toInt = ((I 25 2)).toInt := congrArg Int32.toInt (uI_sk (by decide) rfl)
            exact ih _ (WX_uI hW (by first | exact okXo (by decide) | (unfold okX; refine ⟨?_, ?_, ?_, ?_, ?_, ?_, ?_, ?_, ?_, ?_⟩ <;> intro h <;> omega))) (Fr_uI hF (by omega)) (by omega) (spx_c hsp (by omega)) (by omega) (by first | exact tkp_0 (by omega) (by omega) (by omega) | exact tkp_2 (x := I (25 + 1) (Int32.toNatClampNeg (I 25 4))) hq (hF (25 + 1) (Int32.toNatClampNeg (I 25 4)) (by omega)).symm (by omega) (by omega) (by omega) (by omega) (by omega) (by omega) | exact tkp_1 (x := I (25 + 1) (Int32.toNatClampNeg (I 25 3))) (by omega) (by omega) (by omega) (hF (25 + 1) (Int32.toNatClampNeg (I 25 3)) (by omega)).symm rfl (by omega) (by omega) (by omega)) (by omega)
theorem gX5_advance_8 {G : jdG} {n : Nat} {Z : jdL} {J : jdJ} {rc rs : Nat} {K : jdI → jdJ → Prop}  {I0 : jdI}  (ht : zScribe Z 25)   (hK : ∀ (I2 : jdI), WX I2 → Fr (fun a k => a = 25) I0 I2 → (TK (I0 (25 + 1)) (I0 25 1).toInt (I0 25 4).toInt (I2 25 2).toInt (I2 25 3).toInt (I2 25 4).toInt ∧ (I2 25 1).toInt = (I0 25 1).toInt ∧ (I2 25 5).toInt = (I0 25 5).toInt) → K I2 J) : ∀ m : Nat, ∀ (I : jdI) , WX I → Fr (fun a k => a = 25) I0 I → ((I0 25 4).toInt ≤ (I 25 3).toInt ∧ (I 25 3).toInt ≤ (I 25 1).toInt ∧ (I 25 1).toInt = (I0 25 1).toInt ∧ (I 25 5).toInt = (I0 25 5).toInt) → (SPx (I0 (25 + 1)) (I0 25 4).toInt (I 25 3).toInt) → 250 - (I 25 3).toInt < (m : Int) → Jd G mX5_advance (jdFm G (qv Z K)) (n + 1) rc rs 8 [(0, .ref (gb G + 25))] [] Z I J := by
  intro m
  induction m with
  | zero =>
    intro I hW hF h3 hsp hm
    have hwI := WX_f hW
    omega
  | succ m ih =>
    intro I hW hF h3 hsp hm
    have hwI := WX_f hW
    refine rX5_advance_8 ht ?_
    refine ⟨fun hc1 => ?_, fun hc2 => ?_⟩
    · skip
      have q1 := i32_lo (I 25 1)
      have q2 := i32_lo (I 25 3)
      have hc1 := Int32.le_iff_toInt_le.mp hc1
      first | have htr := tokOf_r (I (25 + 1) (Int32.toNatClampNeg (I 25 3))) | skip
      refine ⟨fun hc3 => ?_, fun hc4 => ?_⟩
      · skip
        have hc3 := Int32.le_iff_toInt_le.mp hc3
        first | have htr := tokOf_r (I (25 + 1) (Int32.toNatClampNeg (I 25 3))) | skip
        have q3 : (0 : Int32).toInt = 0 := rfl
        have hr5 : (((uI (uI I 25 2 0) 25 4 (I 25 1))) 25 4).toInt = ((I 25 1)).toInt := congrArg Int32.toInt (uI_ss _ _ _ _)
        have hr6 : (((uI (uI I 25 2 0) 25 4 (I 25 1))) 25 3).toInt = ((I 25 3)).toInt := congrArg Int32.toInt (uI_sk (by decide) (uI_sk (by decide) rfl))
        have hr7 : (((uI (uI I 25 2 0) 25 4 (I 25 1))) 25 1).toInt = ((I 25 1)).toInt := congrArg Int32.toInt (uI_sk (by decide) (uI_sk (by decide) rfl))
        have hr8 : (((uI (uI I 25 2 0) 25 4 (I 25 1))) 25 5).toInt = ((I 25 5)).toInt := congrArg Int32.toInt (uI_sk (by decide) (uI_sk (by decide) rfl))
        have hr9 : (((uI (uI I 25 2 0) 25 4 (I 25 1))) 25 2).toInt = ((0 : Int32)).toInt := congrArg Int32.toInt (uI_sk (by decide) (uI_ss _ _ _ _))
        exact gX5_advance_101 ht   hK  ((250 - ((uI (uI I 25 2 0) 25 4 (I 25 1)) 25 4).toInt).toNat + 1) _ (WX_uI (WX_uI hW (by first | exact okXo (by decide) | (unfold okX; refine ⟨?_, ?_, ?_, ?_, ?_, ?_, ?_, ?_, ?_, ?_⟩ <;> intro h <;> omega))) (by first | exact okXo (by decide) | (unfold okX; refine ⟨?_, ?_, ?_, ?_, ?_, ?_, ?_, ?_, ?_, ?_⟩ <;> intro h <;> omega))) (Fr_uI (Fr_uI hF (by omega)) (by omega)) (by omega) (spx_c hsp (by omega)) (by omega) (by first | exact tkp_0 (by omega) (by omega) (by omega) | exact tkp_2 (x := I (25 + 1) (Int32.toNatClampNeg (I 25 4))) hq (hF (25 + 1) (Int32.toNatClampNeg (I 25 4)) (by omega)).symm (by omega) (by omega) (by omega) (by omega) (by omega) (by omega) | exact tkp_1 (x := I (25 + 1) (Int32.toNatClampNeg (I 25 3))) (by omega) (by omega) (by omega) (hF (25 + 1) (Int32.toNatClampNeg (I 25 3)) (by omega)).symm rfl (by omega) (by omega) (by omega)) (by omega)
      · skip
        have hc4 := mt Int32.le_iff_toInt_le.mpr hc4
        first | have htr := tokOf_r (I (25 + 1) (Int32.toNatClampNeg (I 25 3))) | skip
        refine ⟨vp_of (by omega) (by omega), ?_⟩
        refine fsfX5_tokenOf  hW  (fun v3  hp10 => ?_)
        first | have htr := tokOf_r (I (25 + 1) (Int32.toNatClampNeg (I 25 3))) | skip
        refine ⟨fun hc11 => ?_, fun hc12 => ?_⟩
        · skip
          have q3 := i32_lo v3
          have q4 : (0 : Int32).toInt = 0 := rfl
          have hc11 : ¬ (v3).toInt = (0 : Int32).toInt := fun z => hc11 (Int32.toInt_inj.mp z)
          first | have htr := tokOf_r (I (25 + 1) (Int32.toNatClampNeg (I 25 3))) | skip
          have q5 : (1 : Int32).toInt = 1 := rfl
          have q6 := i32_add (I 25 3) 1 (by omega) (by omega)
          have hr13 : (((uI (uI I 25 2 v3) 25 4 ((I 25 3) + 1))) 25 4).toInt = (((I 25 3) + 1)).toInt := congrArg Int32.toInt (uI_ss _ _ _ _)
          have hr14 : (((uI (uI I 25 2 v3) 25 4 ((I 25 3) + 1))) 25 3).toInt = ((I 25 3)).toInt := congrArg Int32.toInt (uI_sk (by decide) (uI_sk (by decide) rfl))
          have hr15 : (((uI (uI I 25 2 v3) 25 4 ((I 25 3) + 1))) 25 1).toInt = ((I 25 1)).toInt := congrArg Int32.toInt (uI_sk (by decide) (uI_sk (by decide) rfl))
          have hr16 : (((uI (uI I 25 2 v3) 25 4 ((I 25 3) + 1))) 25 5).toInt = ((I 25 5)).toInt := congrArg Int32.toInt (uI_sk (by decide) (uI_sk (by decide) rfl))
          have hr17 : (((uI (uI I 25 2 v3) 25 4 ((I 25 3) + 1))) 25 2).toInt = (v3).toInt := congrArg Int32.toInt (uI_sk (by decide) (uI_ss _ _ _ _))
          exact gX5_advance_101 ht   hK  ((250 - ((uI (uI I 25 2 v3) 25 4 ((I 25 3) + 1)) 25 4).toInt).toNat + 1) _ (WX_uI (WX_uI hW (by first | exact okXo (by decide) | (unfold okX; refine ⟨?_, ?_, ?_, ?_, ?_, ?_, ?_, ?_, ?_, ?_⟩ <;> intro h <;> omega))) (by first | exact okXo (by decide) | (unfold okX; refine ⟨?_, ?_, ?_, ?_, ?_, ?_, ?_, ?_, ?_, ?_⟩ <;> intro h <;> omega))) (Fr_uI (Fr_uI hF (by omega)) (by omega)) (by omega) (spx_c hsp (by omega)) (by omega) (by first | exact tkp_0 (by omega) (by omega) (by omega) | exact tkp_2 (x := I (25 + 1) (Int32.toNatClampNeg (I 25 4))) hq (hF (25 + 1) (Int32.toNatClampNeg (I 25 4)) (by omega)).symm (by omega) (by omega) (by omega) (by omega) (by omega) (by omega) | exact tkp_1 (x := I (25 + 1) (Int32.toNatClampNeg (I 25 3))) (by omega) (by omega) (by omega) (hF (25 + 1) (Int32.toNatClampNeg (I 25 3)) (by omega)).symm rfl (by omega) (by omega) (by omega)) (by omega)
        · skip
          have q3 := i32_lo v3
          have q4 : (0 : Int32).toInt = 0 := rfl
          have hc12 := Int32.toInt_inj.mpr hc12
          first | have htr := tokOf_r (I (25 + 1) (Int32.toNatClampNeg (I 25 3))) | skip
          have hr18 : (((uI (uI I 25 2 v3) 25 4 (I 25 1))) 25 4).toInt = ((I 25 1)).toInt := congrArg Int32.toInt (uI_ss _ _ _ _)
          have hr19 : (((uI (uI I 25 2 v3) 25 4 (I 25 1))) 25 3).toInt = ((I 25 3)).toInt := congrArg Int32.toInt (uI_sk (by decide) (uI_sk (by decide) rfl))
          have hr20 : (((uI (uI I 25 2 v3) 25 4 (I 25 1))) 25 1).toInt = ((I 25 1)).toInt := congrArg Int32.toInt (uI_sk (by decide) (uI_sk (by decide) rfl))
          have hr21 : (((uI (uI I 25 2 v3) 25 4 (I 25 1))) 25 5).toInt = ((I 25 5)).toInt := congrArg Int32.toInt (uI_sk (by decide) (uI_sk (by decide) rfl))
          have hr22 : (((uI (uI I 25 2 v3) 25 4 (I 25 1))) 25 2).toInt = (v3).toInt := congrArg Int32.toInt (uI_sk (by decide) (uI_ss _ _ _ _))
          exact gX5_advance_101 ht   hK  ((250 - ((uI (uI I 25 2 v3) 25 4 (I 25 1)) 25 4).toInt).toNat + 1) _ (WX_uI (WX_uI hW (by first | exact okXo (by decide) | (unfold okX; refine ⟨?_, ?_, ?_, ?_, ?_, ?_, ?_, ?_, ?_, ?_⟩ <;> intro h <;> omega))) (by first | exact okXo (by decide) | (unfold okX; refine ⟨?_, ?_, ?_, ?_, ?_, ?_, ?_, ?_, ?_, ?_⟩ <;> intro h <;> omega))) (Fr_uI (Fr_uI hF (by omega)) (by omega)) (by omega) (spx_c hsp (by omega)) (by omega) (by first | exact tkp_0 (by omega) (by omega) (by omega) | exact tkp_2 (x := I (25 + 1) (Int32.toNatClampNeg (I 25 4))) hq (hF (25 + 1) (Int32.toNatClampNeg (I 25 4)) (by omega)).symm (by omega) (by omega) (by omega) (by omega) (by omega) (by omega) | exact tkp_1 (x := I (25 + 1) (Int32.toNatClampNeg (I 25 3))) (by omega) (by omega) (by omega) (hF (25 + 1) (Int32.toNatClampNeg (I 25 3)) (by omega)).symm rfl (by omega) (by omega) (by omega)) (by omega)
    · skip
      have q1 := i32_lo (I 25 1)
      have q2 := i32_lo (I 25 3)
      have hc2 := mt Int32.le_iff_toInt_le.mpr hc2
      first | have htr := tokOf_r (I (25 + 1) (Int32.toNatClampNeg (I 25 3))) | skip
      refine ⟨vp_of (by omega) (by omega), ?_⟩
      refine ⟨fun hc23 => ?_, fun hc24 => ?_⟩
      · skip
        have q3 : (32 : Int32).toInt = 32 := rfl
        have hc23 : ¬ ((I (25 + 1) (Int32.toNatClampNeg (I 25 3)))).toInt = (32 : Int32).toInt := fun z => hc23 (Int32.toInt_inj.mp z)
        first | have htr := tokOf_r (I (25 + 1) (Int32.toNatClampNeg (I 25 3))) | skip
        refine ⟨fun hc25 => ?_, fun hc26 => ?_⟩
        · skip
          have hc25 := Int32.le_iff_toInt_le.mp hc25
          first | have htr := tokOf_r (I (25 + 1) (Int32.toNatClampNeg (I 25 3))) | skip
          have q4 : (0 : Int32).toInt = 0 := rfl
          have hr27 : (((uI (uI I 25 2 0) 25 4 (I 25 1))) 25 4).toInt = ((I 25 1)).toInt := congrArg Int32.toInt (uI_ss _ _ _ _)
          have hr28 : (((uI (uI I 25 2 0) 25 4 (I 25 1))) 25 3).toInt = ((I 25 3)).toInt := congrArg Int32.toInt (uI_sk (by decide) (uI_sk (by decide) rfl))
          have hr29 : (((uI (uI I 25 2 0) 25 4 (I 25 1))) 25 1).toInt = ((I 25 1)).toInt := congrArg Int32.toInt (uI_sk (by decide) (uI_sk (by decide) rfl))
          have hr30 : (((uI (uI I 25 2 0) 25 4 (I 25 1))) 25 5).toInt = ((I 25 5)).toInt := congrArg Int32.toInt (uI_sk (by decide) (uI_sk (by decide) rfl))
          have hr31 : (((uI (uI I 25 2 0) 25 4 (I 25 1))) 25 2).toInt = ((0 : Int32)).toInt := congrArg Int32.toInt (uI_sk (by decide) (uI_ss _ _ _ _))
          exact gX5_advance_101 ht   hK  ((250 - ((uI (uI I 25 2 0) 25 4 (I 25 1)) 25 4).toInt).toNat + 1) _ (WX_uI (WX_uI hW (by first | exact okXo (by decide) | (unfold okX; refine ⟨?_, ?_, ?_, ?_, ?_, ?_, ?_, ?_, ?_, ?_⟩ <;> intro h <;> omega))) (by first | exact okXo (by decide) | (unfold okX; refine ⟨?_, ?_, ?_, ?_, ?_, ?_, ?_, ?_, ?_, ?_⟩ <;> intro h <;> omega))) (Fr_uI (Fr_uI hF (by omega)) (by omega)) (by omega) (spx_c hsp (by omega)) (by omega) (by first | exact tkp_0 (by omega) (by omega) (by omega) | exact tkp_2 (x := I (25 + 1) (Int32.toNatClampNeg (I 25 4))) hq (hF (25 + 1) (Int32.toNatClampNeg (I 25 4)) (by omega)).symm (by omega) (by omega) (by omega) (by omega) (by omega) (by omega) | exact tkp_1 (x := I (25 + 1) (Int32.toNatClampNeg (I 25 3))) (by omega) (by omega) (by omega) (hF (25 + 1) (Int32.toNatClampNeg (I 25 3)) (by omega)).symm rfl (by omega) (by omega) (by omega)) (by omega)
        · skip
          have hc26 := mt Int32.le_iff_toInt_le.mpr hc26
          first | have htr := tokOf_r (I (25 + 1) (Int32.toNatClampNeg (I 25 3))) | skip
          refine ⟨vp_of (by omega) (by omega), ?_⟩
          refine fsfX5_tokenOf  hW  (fun v7  hp32 => ?_)
          first | have htr := tokOf_r (I (25 + 1) (Int32.toNatClampNeg (I 25 3))) | skip
          refine ⟨fun hc33 => ?_, fun hc34 => ?_⟩
          · skip
            have q4 := i32_lo v7
            have q5 : (0 : Int32).toInt = 0 := rfl
            have hc33 : ¬ (v7).toInt = (0 : Int32).toInt := fun z => hc33 (Int32.toInt_inj.mp z)
            first | have htr := tokOf_r (I (25 + 1) (Int32.toNatClampNeg (I 25 3))) | skip
            have q6 : (1 : Int32).toInt = 1 := rfl
            have q7 := i32_add (I 25 3) 1 (by omega) (by omega)
            have hr35 : (((uI (uI I 25 2 v7) 25 4 ((I 25 3) + 1))) 25 4).toInt = (((I 25 3) + 1)).toInt := congrArg Int32.toInt (uI_ss _ _ _ _)
            have hr36 : (((uI (uI I 25 2 v7) 25 4 ((I 25 3) + 1))) 25 3).toInt = ((I 25 3)).toInt := congrArg Int32.toInt (uI_sk (by decide) (uI_sk (by decide) rfl))
            have hr37 : (((uI (uI I 25 2 v7) 25 4 ((I 25 3) + 1))) 25 1).toInt = ((I 25 1)).toInt := congrArg Int32.toInt (uI_sk (by decide) (uI_sk (by decide) rfl))
            have hr38 : (((uI (uI I 25 2 v7) 25 4 ((I 25 3) + 1))) 25 5).toInt = ((I 25 5)).toInt := congrArg Int32.toInt (uI_sk (by decide) (uI_sk (by decide) rfl))
            have hr39 : (((uI (uI I 25 2 v7) 25 4 ((I 25 3) + 1))) 25 2).toInt = (v7).toInt := congrArg Int32.toInt (uI_sk (by decide) (uI_ss _ _ _ _))
            exact gX5_advance_101 ht   hK  ((250 - ((uI (uI I 25 2 v7) 25 4 ((I 25 3) + 1)) 25 4).toInt).toNat + 1) _ (WX_uI (WX_uI hW (by first | exact okXo (by decide) | (unfold okX; refine ⟨?_, ?_, ?_, ?_, ?_, ?_, ?_, ?_, ?_, ?_⟩ <;> intro h <;> omega))) (by first | exact okXo (by decide) | (unfold okX; refine ⟨?_, ?_, ?_, ?_, ?_, ?_, ?_, ?_, ?_, ?_⟩ <;> intro h <;> omega))) (Fr_uI (Fr_uI hF (by omega)) (by omega)) (by omega) (spx_c hsp (by omega)) (by omega) (by first | exact tkp_0 (by omega) (by omega) (by omega) | exact tkp_2 (x := I (25 + 1) (Int32.toNatClampNeg (I 25 4))) hq (hF (25 + 1) (Int32.toNatClampNeg (I 25 4)) (by omega)).symm (by omega) (by omega) (by omega) (by omega) (by omega) (by omega) | exact tkp_1 (x := I (25 + 1) (Int32.toNatClampNeg (I 25 3))) (by omega) (by omega) (by omega) (hF (25 + 1) (Int32.toNatClampNeg (I 25 3)) (by omega)).symm rfl (by omega) (by omega) (by omega)) (by omega)
          · skip
            have q4 := i32_lo v7
            have q5 : (0 : Int32).toInt = 0 := rfl
            have hc34 := Int32.toInt_inj.mpr hc34
            first | have htr := tokOf_r (I (25 + 1) (Int32.toNatClampNeg (I 25 3))) | skip
            have hr40 : (((uI (uI I 25 2 v7) 25 4 (I 25 1))) 25 4).toInt = ((I 25 1)).toInt := congrArg Int32.toInt (uI_ss _ _ _ _)
            have hr41 : (((uI (uI I 25 2 v7) 25 4 (I 25 1))) 25 3).toInt = ((I 25 3)).toInt := congrArg Int32.toInt (uI_sk (by decide) (uI_sk (by decide) rfl))
            have hr42 : (((uI (uI I 25 2 v7) 25 4 (I 25 1))) 25 1).toInt = ((I 25 1)).toInt := congrArg Int32.toInt (uI_sk (by decide) (uI_sk (by decide) rfl))
            have hr43 : (((uI (uI I 25 2 v7) 25 4 (I 25 1))) 25 5).toInt = ((I 25 5)).toInt := congrArg Int32.toInt (uI_sk (by decide) (uI_sk (by decide) rfl))
            have hr44 : (((uI (uI I 25 2 v7) 25 4 (I 25 1))) 25 2).toInt = (v7).toInt := congrArg Int32.toInt (uI_sk (by decide) (uI_ss _ _ _ _))
            exact gX5_advance_101 ht   hK  ((250 - ((uI (uI I 25 2 v7) 25 4 (I 25 1)) 25 4).toInt).toNat + 1) _ (WX_uI (WX_uI hW (by first | exact okXo (by decide) | (unfold okX; refine ⟨?_, ?_, ?_, ?_, ?_, ?_, ?_, ?_, ?_, ?_⟩ <;> intro h <;> omega))) (by first | exact okXo (by decide) | (unfold okX; refine ⟨?_, ?_, ?_, ?_, ?_, ?_, ?_, ?_, ?_, ?_⟩ <;> intro h <;> omega))) (Fr_uI (Fr_uI hF (by omega)) (by omega)) (by omega) (spx_c hsp (by omega)) (by omega) (by first | exact tkp_0 (by omega) (by omega) (by omega) | exact tkp_2 (x := I (25 + 1) (Int32.toNatClampNeg (I 25 4))) hq (hF (25 + 1) (Int32.toNatClampNeg (I 25 4)) (by omega)).symm (by omega) (by omega) (by omega) (by omega) (by omega) (by omega) | exact tkp_1 (x := I (25 + 1) (Int32.toNatClampNeg (I 25 3))) (by omega) (by omega) (by omega) (hF (25 + 1) (Int32.toNatClampNeg (I 25 3)) (by omega)).symm rfl (by omega) (by omega) (by omega)) (by omega)
      · skip
        have q3 : (32 : Int32).toInt = 32 := rfl
        have hc24 := Int32.toInt_inj.mpr hc24
        first | have htr := tokOf_r (I (25 + 1) (Int32.toNatClampNeg (I 25 3))) | skip
        have q4 : (1 : Int32).toInt = 1 := rfl
        have q5 := i32_add (I 25 3) 1 (by omega) (by omega)
        have hr45 : (((uI I 25 3 ((I 25 3) + 1))) 25 3).toInt = (((I 25 3) + 1)).toInt := congrArg Int32.toInt (uI_ss _ _ _ _)
        have hr46 : (((uI I 25 3 ((I 25 3) + 1))) 25 1).toInt = ((I 25 1)).toInt := congrArg Int32.toInt (uI_sk (by decide) rfl)
        have hr47 : (((uI I 25 3 ((I 25 3) + 1))) 25 5).toInt = ((I 25 5)).toInt := congrArg Int32.toInt (uI_sk (by decide) rfl)
        exact ih _ (WX_uI hW (by first | exact okXo (by decide) | (unfold okX; refine ⟨?_, ?_, ?_, ?_, ?_, ?_, ?_, ?_, ?_, ?_⟩ <;> intro h <;> omega))) (Fr_uI hF (by omega)) (by omega) (by first | exact spx_0 (by omega) | exact spx_s hsp (show (I0 (25 + 1) (I 25 3).toInt.toNat).toInt = 32 by have hz8 := congrArg Int32.toInt (hF (25 + 1) (Int32.toNatClampNeg (I 25 3)) (by omega)); have hz9 : (I0 (25 + 1) (I 25 3).toInt.toNat).toInt = (I0 (25 + 1) (Int32.toNatClampNeg (I 25 3))).toInt := rfl; omega) (by omega) (by omega)) (by omega)
