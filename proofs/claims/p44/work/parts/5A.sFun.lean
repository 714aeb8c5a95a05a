/-- the kind of token that a letter begins -/
def tokOf (c : Int32) : Int := if 97 ≤ c.toInt ∧ c.toInt ≤ 122 then 1 else if 48 ≤ c.toInt ∧ c.toInt ≤ 57 then 2 else if c.toInt = 59 then 3 else 4
theorem tokOf_r (c : Int32) : 1 ≤ tokOf c ∧ tokOf c ≤ 4 := by
  unfold tokOf
  split
  · omega
  · split
    · omega
    · split <;> omega
/-- spaces from a to b -/
def SPx (T : Nat → Int32) (a b : Int) : Prop := ∀ i : Nat, a ≤ i → (i : Int) < b → (T i).toInt = 32
/-- a token from s to f, not yet at its end -/
def TKp (T : Nat → Int32) (n tk s f : Int) : Prop := (s = n ∧ tk = 0 ∧ f = n) ∨ ((0 ≤ s ∧ s < n) ∧ ¬ (T s.toNat).toInt = 32 ∧ tk = tokOf (T s.toNat) ∧ (s < f ∧ f ≤ n) ∧ ∀ i : Nat, s ≤ i → (i : Int) < f → tokOf (T i) = tk)
/-- the token that is found from e on: its kind, its first place, the place behind it -/
def TK (T : Nat → Int32) (n e tk s f : Int) : Prop := (e ≤ s ∧ s ≤ n) ∧ SPx T e s ∧ TKp T n tk s f ∧ ((tk = 1 ∨ tk = 2) → f < n → ¬ tokOf (T f.toNat) = tk) ∧ (¬ (tk = 1 ∨ tk = 2) → tk = 0 ∨ f = s + 1)
theorem spx_0 {T : Nat → Int32} {a b : Int} (h : b ≤ a) : SPx T a b := fun i h1 h2 => by omega
theorem spx_c {T : Nat → Int32} {a b b2 : Int} (h : SPx T a b) (e : b2 = b) : SPx T a b2 := by
  rw [e]
  exact h
theorem spx_s {T : Nat → Int32} {a b b2 : Int} (h : SPx T a b) (hx : (T b.toNat).toInt = 32) (h0 : 0 ≤ b) (e : b2 = b + 1) : SPx T a b2 := fun i h1 h2 => by
  by_cases c : (i : Int) < b
  · exact h i h1 c
  · have : i = b.toNat := by omega
    rw [this]
    exact hx
theorem tkp_0 {T : Nat → Int32} {n tk s f : Int} (h1 : s = n) (h2 : tk = 0) (h3 : f = n) : TKp T n tk s f := Or.inl ⟨h1, h2, h3⟩
theorem tkp_1 {T : Nat → Int32} {n tk s f : Int} {x y : Int32} (h0 : 0 ≤ s) (h1 : s < n) (hx : ¬ x.toInt = 32) (hT : y = x) (hy : T s.toNat = y) (h2 : tk = tokOf x) (h3 : f = s + 1) (h4 : f ≤ n) : TKp T n tk s f := by
  rw [hT] at hy
  refine Or.inr ⟨⟨h0, h1⟩, by rw [hy]; exact hx, by rw [hy]; exact h2, ⟨by omega, h4⟩, fun i q1 q2 => ?_⟩
  have : i = s.toNat := by omega
  rw [this, hy]
  exact h2.symm
theorem tkp_2 {T : Nat → Int32} {n tk s f tk2 s2 f2 : Int} {x : Int32} (h : TKp T n tk s f) (hT : T f.toNat = x) (hx : tokOf x = tk) (hf : f < n) (h0 : 0 ≤ f) (e1 : tk2 = tk) (e2 : s2 = s) (e3 : f2 = f + 1) : TKp T n tk2 s2 f2 := by
  rcases h with h | h
  · omega
  · obtain ⟨a1, a2, a3, a4, a5⟩ := h
    rw [e1, e2, e3]
    refine Or.inr ⟨a1, a2, a3, ⟨by omega, by omega⟩, fun i q1 q2 => ?_⟩
    by_cases c : (i : Int) < f
    · exact a5 i q1 c
    · have : i = f.toNat := by omega
      rw [this, hT]
      exact hx
theorem tk_end {T : Nat → Int32} {n e tk s f : Int} (h1 : SPx T e s) (h2 : TKp T n tk s f) (h3 : e ≤ s) (h4 : s ≤ n) (h5 : (tk = 1 ∨ tk = 2) → f < n → ¬ tokOf (T f.toNat) = tk) (h6 : ¬ (tk = 1 ∨ tk = 2) → tk = 0 ∨ f = s + 1) : TK T n e tk s f := ⟨⟨h3, h4⟩, h1, h2, h5, h6⟩
theorem TK_uniq {T : Nat → Int32} {n e tk s f tk2 s2 f2 : Int} (h0 : 0 ≤ e) (h : TK T n e tk s f) (g : TK T n e tk2 s2 f2) : tk = tk2 ∧ s = s2 ∧ f = f2 := by
  obtain ⟨⟨a1, a2⟩, a3, a4, a5, a6⟩ := h
  obtain ⟨⟨b1, b2⟩, b3, b4, b5, b6⟩ := g
  have es : s = s2 := by
    rcases Int.lt_trichotomy s s2 with c | c | c
    · have q := b3 s.toNat (by omega) (by omega)
      rcases a4 with a4 | a4
      · omega
      · exact absurd q a4.2.1
    · exact c
    · have q := a3 s2.toNat (by omega) (by omega)
      rcases b4 with b4 | b4
      · omega
      · exact absurd q b4.2.1
  subst es
  rcases a4 with a4 | a4 <;> rcases b4 with b4 | b4
  · omega
  · omega
  · omega
  · obtain ⟨c1, c2, c3, c4, c5⟩ := a4
    obtain ⟨d1, d2, d3, d4, d5⟩ := b4
    have et : tk = tk2 := c3.trans d3.symm
    subst et
    refine ⟨rfl, rfl, ?_⟩
    by_cases k : tk = 1 ∨ tk = 2
    · rcases Int.lt_trichotomy f f2 with c | c | c
      · exact absurd (d5 f.toNat (by omega) (by omega)) (a5 k (by omega))
      · exact c
      · exact absurd (c5 f2.toNat (by omega) (by omega)) (b5 k (by omega))
    · have r := tokOf_r (T s.toNat)
      have := a6 k
      have := b6 k
      omega
theorem tok_1 (c : Int32) : tokOf c = 1 ↔ 97 ≤ c.toInt ∧ c.toInt ≤ 122 := by
  unfold tokOf
  split
  · omega
  · split
    · omega
    · split <;> omega
theorem tok_2 (c : Int32) : tokOf c = 2 ↔ 48 ≤ c.toInt ∧ c.toInt ≤ 57 := by
  unfold tokOf
  split
  · omega
  · split
    · omega
    · split <;> omega
theorem tok_3 (c : Int32) : tokOf c = 3 ↔ c.toInt = 59 := by
  unfold tokOf
  split
  · omega
  · split
    · omega
    · split <;> omega
/-- a token under way: from s, up to f, perhaps still empty -/
def TKr (T : Nat → Int32) (n tk s f : Int) : Prop := (0 ≤ s ∧ s < n) ∧ ¬ (T s.toNat).toInt = 32 ∧ tk = tokOf (T s.toNat) ∧ (s ≤ f ∧ f ≤ n) ∧ ∀ i : Nat, s ≤ i → (i : Int) < f → tokOf (T i) = tk
theorem tkr_0 {T : Nat → Int32} {n tk s f a : Int} {x y : Int32} (hT : y = x) (hy : T a.toNat = y) (hs : s = a) (h0 : 0 ≤ s) (h1 : s < n) (hx : ¬ x.toInt = 32) (h2 : tk = tokOf x) (h3 : f = s) : TKr T n tk s f := by
  rw [hT] at hy
  subst hs
  exact ⟨⟨h0, h1⟩, by rw [hy]; exact hx, by rw [hy]; exact h2, ⟨by omega, by omega⟩, fun i q1 q2 => by omega⟩
theorem tkr_s {T : Nat → Int32} {n tk s f tk2 s2 f2 : Int} {x : Int32} (h : TKr T n tk s f) (hT : T f.toNat = x) (hx : tokOf x = tk) (hf : f < n) (h0 : 0 ≤ f) (e1 : tk2 = tk) (e2 : s2 = s) (e3 : f2 = f + 1) : TKr T n tk2 s2 f2 := by
  obtain ⟨a1, a2, a3, a4, a5⟩ := h
  rw [e1, e2, e3]
  refine ⟨a1, a2, a3, ⟨by omega, by omega⟩, fun i q1 q2 => ?_⟩
  by_cases c : (i : Int) < f
  · exact a5 i q1 c
  · have : i = f.toNat := by omega
    rw [this, hT]
    exact hx
theorem tk_e0 {T : Nat → Int32} {n e tk s f a : Int} (h : SPx T e a) (h1 : e ≤ a) (h2 : a = n ∧ s = n) (h3 : tk = 0) (h4 : f = n) : TK T n e tk s f := by
  rw [h2.1] at h
  exact ⟨⟨by omega, by omega⟩, by rw [h2.2]; exact h, Or.inl ⟨h2.2, h3, h4⟩, fun q => by omega, fun _ => Or.inl h3⟩
theorem tk_e1 {T : Nat → Int32} {n e tk s f a : Int} {x y : Int32} (h : SPx T e a) (h1 : e ≤ a) (hT : y = x) (hy : T a.toNat = y) (hs : s = a) (h0 : 0 ≤ a) (h2 : a < n) (hx : ¬ x.toInt = 32) (h3 : tk = tokOf x ∧ ¬ (tk = 1 ∨ tk = 2)) (h4 : f = s + 1) : TK T n e tk s f := by
  rw [hT] at hy
  subst hs
  refine ⟨⟨h1, by omega⟩, h, Or.inr ⟨⟨h0, h2⟩, by rw [hy]; exact hx, by rw [hy]; exact h3.1, ⟨by omega, by omega⟩, fun i q1 q2 => ?_⟩, fun q => absurd q h3.2, fun _ => Or.inr h4⟩
  have : i = s.toNat := by omega
  rw [this, hy]
  exact h3.1.symm
theorem tk_e2 {T : Nat → Int32} {n e tk s f : Int} (h : SPx T e s) (hq : TKr T n tk s f) (h1 : e ≤ s) (h2 : tk = 1 ∨ tk = 2) (h3 : f < n → ¬ tokOf (T f.toNat) = tk) (h4 : 0 ≤ s) (h5 : s ≤ f) : TK T n e tk s f := by
  obtain ⟨a1, a2, a3, a4, a5⟩ := hq
  have hf : s < f := by
    by_cases c : s < f
    · exact c
    · have e : f = s := by omega
      rw [e] at h3
      exact absurd a3.symm (h3 a1.2)
  exact ⟨⟨h1, by omega⟩, h, Or.inr ⟨a1, a2, a3, ⟨hf, a4.2⟩, a5⟩, fun _ => h3, fun q => absurd h2 q⟩
/-- the value of a token of digits from s to f -/
def vq (T : Nat → Int32) (s f g : Int) : Prop := (f = s ∧ g = 0) ∨ (f = s + 1 ∧ g = (T s.toNat).toInt - 48) ∨ (f = s + 2 ∧ g = 10 * ((T s.toNat).toInt - 48) + ((T (s.toNat + 1)).toInt - 48)) ∨ (s + 3 ≤ f ∧ g = 100000)
theorem vq_s {T : Nat → Int32} {s f g s2 f2 g2 : Int} {x : Int32} (h : vq T s f g) (hT : T f.toNat = x) (h0 : 0 ≤ s) (e1 : s2 = s) (e2 : f2 = f + 1) (e3 : f - s < 2 → g2 = g * 10 + x.toInt - 48) (e4 : ¬ f - s < 2 → g2 = 100000) : vq T s2 f2 g2 := by
  rw [e1, e2]
  rcases h with h | h | h | h
  · refine Or.inr (Or.inl ⟨by omega, ?_⟩)
    rw [e3 (by omega), h.2, ← hT, h.1]
    omega
  · refine Or.inr (Or.inr (Or.inl ⟨by omega, ?_⟩))
    rw [e3 (by omega), h.2, ← hT, h.1, show (s + 1).toNat = s.toNat + 1 by omega]
    omega
  · exact Or.inr (Or.inr (Or.inr ⟨by omega, e4 (by omega)⟩))
  · exact Or.inr (Or.inr (Or.inr ⟨by omega, e4 (by omega)⟩))
theorem vq_r {T : Nat → Int32} {s f g : Int} (h : vq T s f g) : (f = s ∧ g = 0) ∨ (f = s + 1 ∧ g = (T s.toNat).toInt - 48) ∨ (f = s + 2) ∨ (s + 3 ≤ f ∧ g = 100000) := by
  rcases h with h | h | h | h
  · exact Or.inl h
  · exact Or.inr (Or.inl h)
  · exact Or.inr (Or.inr (Or.inl h.1))
  · exact Or.inr (Or.inr (Or.inr h))
theorem tkp_f {T : Nat → Int32} {n tk s f : Int} (h : TKp T n tk s f) : f ≤ n ∧ (¬ tk = 0 → 0 ≤ s ∧ s < f) := by
  rcases h with h | h
  · exact ⟨by omega, fun q => absurd h.2.1 q⟩
  · exact ⟨h.2.2.2.1.2, fun _ => ⟨h.1.1, h.2.2.2.1.1⟩⟩
theorem tkp_d {T : Nat → Int32} {n tk s f : Int} (h : TKp T n tk s f) (h2 : tk = 2) : ∀ i : Nat, s ≤ i → (i : Int) < f → 48 ≤ (T i).toInt ∧ (T i).toInt ≤ 57 := fun i q1 q2 => by
  rcases h with h | h
  · omega
  · have e := h.2.2.2.2 i q1 q2
    rw [h2] at e
    exact (tok_2 (T i)).mp e
/-- what a token of digits is worth; 100000 where it is too long -/
def vl (T : Nat → Int32) (s f : Int) : Int := if f = s + 1 then (T s.toNat).toInt - 48 else if f = s + 2 then 10 * ((T s.toNat).toInt - 48) + ((T (s.toNat + 1)).toInt - 48) else 100000
theorem vl_big {T : Nat → Int32} {s f : Int} : s + 2 < f → vl T s f = 100000 := fun h => by
  unfold vl
  rw [if_neg (by omega), if_neg (by omega)]
theorem vl_of {T : Nat → Int32} {s f g f2 : Int} (h : vq T s f g) (e : f = f2) (hs : s < f2) : g = vl T s f2 := by
  subst e
  unfold vl
  rcases h with h | h | h | h
  · omega
  · rw [if_pos h.1]
    exact h.2
  · rw [if_neg (by omega), if_pos h.1]
    exact h.2
  · rw [if_neg (by omega), if_neg (by omega)]
    exact h.2
/-- the token is the word u -/
def WD (T : Nat → Int32) (tk s f : Int) (u : Nat) : Prop := tk = 1 ∧ f - s = (sl u).toInt ∧ ∀ q : Nat, (q : Int) < (sl u).toInt → T (s.toNat + q) = sc u q
theorem wd_s {T : Nat → Int32} {s : Int} {x2 x3 c : Int32} {u p : Nat} (hk : ∀ q : Nat, (q : Int) < x2.toInt → T (s.toNat + q) = sc u q) (hc : c = sc u (Int32.toNatClampNeg x2)) (h0 : 0 ≤ s) (h1 : 0 ≤ x2.toInt) (hp : p = s.toNat + Int32.toNatClampNeg x2) (e : T p = c) (e3 : x3.toInt = x2.toInt + 1) : ∀ q : Nat, (q : Int) < x3.toInt → T (s.toNat + q) = sc u q := fun q hq => by
  by_cases d : (q : Int) < x2.toInt
  · exact hk q d
  · have n2 := tn_eq x2
    have : q = Int32.toNatClampNeg x2 := by omega
    rw [this, ← hc, ← e, hp]
theorem wd_no {T : Nat → Int32} {tk s f : Int} {x2 c : Int32} {u p : Nat} (h : WD T tk s f u) (hc : c = sc u (Int32.toNatClampNeg x2)) (h0 : 0 ≤ s ∧ 0 ≤ x2.toInt) (h1 : x2.toInt < (sl u).toInt) (hp : p = s.toNat + Int32.toNatClampNeg x2) (e : ¬ (T p).toInt = c.toInt) : False := by
  have n2 := tn_eq x2
  have := h.2.2 (Int32.toNatClampNeg x2) (by omega)
  apply e
  rw [hp, this, hc]
theorem fsfX5_tokenOf {G : jdG} {n : Nat} {Z : jdL} {J : jdJ} {K : Int32 → jdI → jdJ → Prop}  {I : jdI} {x0 : Int32}   (hW : WX I)  (hK : ∀ (v : Int32), (v.toInt = tokOf x0) → K v I J) : Cl G mX5_tokenOf n 0 0 [.int x0] Z I J (qi Z K) := by
  refine eX5_tokenOf  ?_
  have hwI := WX_f hW
  refine ⟨fun hc1 => ?_, fun hc2 => ?_⟩
  · skip
    have q1 := i32_lo x0
    have q2 : (97 : Int32).toInt = 97 := rfl
    have hc1 := Int32.lt_iff_toInt_lt.mp hc1
    refine ⟨fun hc3 => ?_, fun hc4 => ?_⟩
    · skip
      have q3 : (48 : Int32).toInt = 48 := rfl
      have hc3 := Int32.lt_iff_toInt_lt.mp hc3
      refine ⟨fun hc5 => ?_, fun hc6 => ?_⟩
      · skip
        have q4 : (59 : Int32).toInt = 59 := rfl
        have hc5 : ¬ (x0).toInt = (59 : Int32).toInt := fun z => hc5 (Int32.toInt_inj.mp z)
        exact hK _  (by first | (exfalso; omega) | (unfold tokOf; (repeat first | rw [if_pos (by omega)] | rw [if_neg (by omega)]) <;> rfl))
      · skip
        have q4 : (59 : Int32).toInt = 59 := rfl
        have hc6 := Int32.toInt_inj.mpr hc6
        exact hK _  (by first | (exfalso; omega) | (unfold tokOf; (repeat first | rw [if_pos (by omega)] | rw [if_neg (by omega)]) <;> rfl))
    · skip
      have q3 : (48 : Int32).toInt = 48 := rfl
      have hc4 := mt Int32.lt_iff_toInt_lt.mpr hc4
      refine ⟨fun hc7 => ?_, fun hc8 => ?_⟩
      · skip
        have q4 : (57 : Int32).toInt = 57 := rfl
        have hc7 := Int32.lt_iff_toInt_lt.mp hc7
        refine ⟨fun hc9 => ?_, fun hc10 => ?_⟩
        · skip
          have q5 : (59 : Int32).toInt = 59 := rfl
          have hc9 : ¬ (x0).toInt = (59 : Int32).toInt := fun z => hc9 (Int32.toInt_inj.mp z)
          exact hK _  (by first | (exfalso; omega) | (unfold tokOf; (repeat first | rw [if_pos (by omega)] | rw [if_neg (by omega)]) <;> rfl))
        · skip
          have q5 : (59 : Int32).toInt = 59 := rfl
          have hc10 := Int32.toInt_inj.mpr hc10
          exact hK _  (by first | (exfalso; omega) | (unfold tokOf; (repeat first | rw [if_pos (by omega)] | rw [if_neg (by omega)]) <;> rfl))
      · skip
        have q4 : (57 : Int32).toInt = 57 := rfl
        have hc8 := mt Int32.lt_iff_toInt_lt.mpr hc8
        exact hK _  (by first | (exfalso; omega) | (unfold tokOf; (repeat first | rw [if_pos (by omega)] | rw [if_neg (by omega)]) <;> rfl))
  · skip
    have q1 := i32_lo x0
    have q2 : (97 : Int32).toInt = 97 := rfl
    have hc2 := mt Int32.lt_iff_toInt_lt.mpr hc2
    refine ⟨fun hc11 => ?_, fun hc12 => ?_⟩
    · skip
      have q3 : (122 : Int32).toInt = 122 := rfl
      have hc11 := Int32.lt_iff_toInt_lt.mp hc11
      refine ⟨fun hc13 => ?_, fun hc14 => ?_⟩
      · skip
        have q4 : (48 : Int32).toInt = 48 := rfl
        have hc13 := Int32.lt_iff_toInt_lt.mp hc13
        refine ⟨fun hc15 => ?_, fun hc16 => ?_⟩
        · skip
          have q5 : (59 : Int32).toInt = 59 := rfl
          have hc15 : ¬ (x0).toInt = (59 : Int32).toInt := fun z => hc15 (Int32.toInt_inj.mp z)
          exact hK _  (by first | (exfalso; omega) | (unfold tokOf; (repeat first | rw [if_pos (by omega)] | rw [if_neg (by omega)]) <;> rfl))
        · skip
          have q5 : (59 : Int32).toInt = 59 := rfl
          have hc16 := Int32.toInt_inj.mpr hc16
          exact hK _  (by first | (exfalso; omega) | (unfold tokOf; (repeat first | rw [if_pos (by omega)] | rw [if_neg (by omega)]) <;> rfl))
      · skip
        have q4 : (48 : Int32).toInt = 48 := rfl
        have hc14 := mt Int32.lt_iff_toInt_lt.mpr hc14
        refine ⟨fun hc17 => ?_, fun hc18 => ?_⟩
        · skip
          have q5 : (57 : Int32).toInt = 57 := rfl
          have hc17 := Int32.lt_iff_toInt_lt.mp hc17
          refine ⟨fun hc19 => ?_, fun hc20 => ?_⟩
          · skip
            have q6 : (59 : Int32).toInt = 59 := rfl
            have hc19 : ¬ (x0).toInt = (59 : Int32).toInt := fun z => hc19 (Int32.toInt_inj.mp z)
            exact hK _  (by first | (exfalso; omega) | (unfold tokOf; (repeat first | rw [if_pos (by omega)] | rw [if_neg (by omega)]) <;> rfl))
          · skip
            have q6 : (59 : Int32).toInt = 59 := rfl
            have hc20 := Int32.toInt_inj.mpr hc20
            exact hK _  (by first | (exfalso; omega) | (unfold tokOf; (repeat first | rw [if_pos (by omega)] | rw [if_neg (by omega)]) <;> rfl))
        · skip
          have q5 : (57 : Int32).toInt = 57 := rfl
          have hc18 := mt Int32.lt_iff_toInt_lt.mpr hc18
          exact hK _  (by first | (exfalso; omega) | (unfold tokOf; (repeat first | rw [if_pos (by omega)] | rw [if_neg (by omega)]) <;> rfl))
    · skip
      have q3 : (122 : Int32).toInt = 122 := rfl
      have hc12 := mt Int32.lt_iff_toInt_lt.mpr hc12
      exact hK _  (by first | (exfalso; omega) | (unfold tokOf; (repeat first | rw [if_pos (by omega)] | rw [if_neg (by omega)]) <;> rfl))
theorem gX5_advance_101 {G : jdG} {n : Nat} {Z : jdL} {J : jdJ} {rc rs : Nat} {K : jdI → jdJ → Prop}  {I0 : jdI}  (ht : zScribe Z 25)   (hK : ∀ (I2 : jdI), WX I2 → Fr (fun a k => a = 25) I0 I2 → (TK (I0 (25 + 1)) (I0 25 1).toInt (I0 25 4).toInt (I2 25 2).toInt (I2 25 3).toInt (I2 25 4).toInt ∧ (I2 25 1).toInt = (I0 25 1).toInt ∧ (I2 25 5).toInt = (I0 25 5).toInt) → K I2 J) : ∀ m : Nat, ∀ (I : jdI) , WX I → Fr (fun a k => a = 25) I0 I → (((I0 25 4).toInt ≤ (I 25 3).toInt ∧ (I 25 3).toInt ≤ (I 25 1).toInt ∧ (I 25 4).toInt ≤ (I 25 1).toInt) ∧ (I 25 1).toInt = (I0 25 1).toInt ∧ (I 25 5).toInt = (I0 25 5).toInt) → (SPx (I0 (25 + 1)) (I0 25 4).toInt (I 25 3).toInt) → (¬ ((I 25 2).toInt = 1 ∨ (I 25 2).toInt = 2) → (I 25 2).toInt = 0 ∨ (I 25 4).toInt = (I 25 3).toInt + 1) → (TKp (I0 (25 + 1)) (I0 25 1).toInt (I 25 2).toInt (I 25 3).toInt (I 25 4).toInt) → 250 - (I 25 4).toInt < (m : Int) → Jd G mX5_advance (jdFm G (qv Z K)) (n + 1) rc rs 101 [(0, .ref (gb G + 25))] [] Z I J := by
  intro m
  induction m with
  | zero =>
    intro I hW hF h4 hsp h6 hq hm
    have hwI := WX_f hW
    omega
  | succ m ih =>
    intro I hW hF h4 hsp h6 hq hm
    have hwI := WX_f hW
    refine rX5_advance_101 ht ?_
    refine ⟨fun hc1 => ?_, fun hc2 => ?_⟩
    · skip
      have q1 := i32_lo (I 25 2)
      have q2 : (1 : Int32).toInt = 1 := rfl
      have hc1 := Int32.toInt_inj.mpr hc1
      first | have htr := tokOf_r (I (25 + 1) (Int32.toNatClampNeg (I 25 3))) | skip
      refine ⟨fun hc3 => ?_, fun hc4 => ?_⟩
      · skip
        have q3 := i32_lo (I 25 1)
        have q4 := i32_lo (I 25 4)
        have hc3 := Int32.le_iff_toInt_le.mp hc3
        first | have htr := tokOf_r (I (25 + 1) (Int32.toNatClampNeg (I 25 3))) | skip
        exact hK _ hW hF ⟨tk_end hsp hq (by omega) (by omega) (fun k9 l9 q9 => by first | omega | (have hz8 := congrArg tokOf (hF (25 + 1) (Int32.toNatClampNeg (I 25 4)) (by omega)); have hz7 : tokOf (I0 (25 + 1) (Int32.toNatClampNeg (I 25 4))) = tokOf (I0 (25 + 1) (I 25 4).toInt.toNat) := rfl; omega)) (fun k9 => by omega), by omega, by omega⟩
      · skip
        have q3 := i32_lo (I 25 1)
        have q4 := i32_lo (I 25 4)
        have hc4 := mt Int32.le_iff_toInt_le.mpr hc4
        first | have htr := tokOf_r (I (25 + 1) (Int32.toNatClampNeg (I 25 3))) | skip
        refine ⟨vp_of (by omega) (by omega), ?_⟩
        refine fsfX5_tokenOf  hW  (fun v3  hp5 => ?_)
        first | have htr := tokOf_r (I (25 + 1) (Int32.toNatClampNeg (I 25 3))) | skip
        refine ⟨fun hc6 => ?_, fun hc7 => ?_⟩
        · skip
          have q5 := i32_lo v3
          have hc6 : ¬ (v3).toInt = ((I 25 2)).toInt := fun z => hc6 (Int32.toInt_inj.mp z)
          first | have htr := tokOf_r (I (25 + 1) (Int32.toNatClampNeg (I 25 3))) | skip
          exact hK _ hW hF ⟨tk_end hsp hq (by omega) (by omega) (fun k9 l9 q9 => by first | omega | (have hz8 := congrArg tokOf (hF (25 + 1) (Int32.toNatClampNeg (I 25 4)) (by omega)); have hz7 : tokOf (I0 (25 + 1) (Int32.toNatClampNeg (I 25 4))) = tokOf (I0 (25 + 1) (I 25 4).toInt.toNat) := rfl; omega)) (fun k9 => by omega), by omega, by omega⟩
        · skip
          have q5 := i32_lo v3
          have hc7 := Int32.toInt_inj.mpr hc7
          first | have htr := tokOf_r (I (25 + 1) (Int32.toNatClampNeg (I 25 3))) | skip
          have q6 := i32_add (I 25 4) 1 (by omega) (by omega)
          have hr8 : (((uI I 25 4 ((I 25 4) + 1))) 25 4).toInt = (((I 25 4) + 1)).toInt := congrArg Int32.toInt (uI_ss _ _ _ _)
          have hr9 : (((uI I 25 4 ((I 25 4) + 1))) 25 3).toInt = ((I 25 3)).toInt := congrArg Int32.toInt (uI_sk (by decide) rfl)
          have hr10 : (((uI I 25 4 ((I 25 4) + 1))) 25 1).toInt = ((I 25 1)).toInt := congrArg Int32.toInt (uI_sk (by decide) rfl)
          have hr11 : (((uI I 25 4 ((I 25 4) + 1))) 25 5).toInt = ((I 25 5)).toInt := congrArg Int32.toInt (uI_sk (by decide) rfl)
          have hr12 : (((uI I 25 4 ((I 25 4) + 1))) 25 2).toInt = ((I 25 2)).toInt := congrArg Int32.toInt (uI_sk (by decide) rfl)
          exact ih _ (WX_uI hW (by first | exact okXo (by decide) | (unfold okX; refine ⟨?_, ?_, ?_, ?_, ?_, ?_, ?_, ?_, ?_, ?_⟩ <;> intro h <;> omega))) (Fr_uI hF (by omega)) (by omega) (spx_c hsp (by omega)) (by omega) (by first | exact tkp_0 (by omega) (by omega) (by omega) | exact tkp_2 (x := I (25 + 1) (Int32.toNatClampNeg (I 25 4))) hq (hF (25 + 1) (Int32.toNatClampNeg (I 25 4)) (by omega)).symm (by omega) (by omega) (by omega) (by omega) (by omega) (by omega) | exact tkp_1 (x := I (25 + 1) (Int32.toNatClampNeg (I 25 3))) (by omega) (by omega) (by omega) (hF (25 + 1) (Int32.toNatClampNeg (I 25 3)) (by omega)).symm rfl (by omega) (by omega) (by omega)) (by omega)
    · skip
      have q1 := i32_lo (I 25 2)
      have q2 : (1 : Int32).toInt = 1 := rfl
      have hc2 : ¬ ((I 25 2)).toInt = (1 : Int32).toInt := fun z => hc2 (Int32.toInt_inj.mp z)
      first | have htr := tokOf_r (I (25 + 1) (Int32.toNatClampNeg (I 25 3))) | skip
      refine ⟨fun hc13 => ?_, fun hc14 => ?_⟩
      · skip
        have q3 : (2 : Int32).toInt = 2 := rfl
        have hc13 : ¬ ((I 25 2)).toInt = (2 : Int32).toInt := fun z => hc13 (Int32.toInt_inj.mp z)
        first | have htr := tokOf_r (I (25 + 1) (Int32.toNatClampNeg (I 25 3))) | skip
        exact hK _ hW hF ⟨tk_end hsp hq (by omega) (by omega) (fun k9 l9 q9 => by first | omega | (have hz8 := congrArg tokOf (hF (25 + 1) (Int32.toNatClampNeg (I 25 4)) (by omega)); have hz7 : tokOf (I0 (25 + 1) (Int32.toNatClampNeg (I 25 4))) = tokOf (I0 (25 + 1) (I 25 4).toInt.toNat) := rfl; omega)) (fun k9 => by omega), by omega, by omega⟩
      · skip
        have q3 : (2 : Int32).toInt = 2 := rfl
        have hc14 := Int32.toInt_inj.mpr hc14
        first | have htr := tokOf_r (I (25 + 1) (Int32.toNatClampNeg (I 25 3))) | skip
        refine ⟨fun hc15 => ?_, fun hc16 => ?_⟩
        · skip
          have q4 := i32_lo (I 25 1)
          have q5 := i32_lo (I 25 4)
          have hc15 := Int32.le_iff_toInt_le.mp hc15
          first | have htr := tokOf_r (I (25 + 1) (Int32.toNatClampNeg (I 25 3))) | skip
          exact hK _ hW hF ⟨tk_end hsp hq (by omega) (by omega) (fun k9 l9 q9 => by first | omega | (have hz8 := congrArg tokOf (hF (25 + 1) (Int32.toNatClampNeg (I 25 4)) (by omega)); have hz7 : tokOf (I0 (25 + 1) (Int32.toNatClampNeg (I 25 4))) = tokOf (I0 (25 + 1) (I 25 4).toInt.toNat) := rfl; omega)) (fun k9 => by omega), by omega, by omega⟩
        · skip
          have q4 := i32_lo (I 25 1)
          have q5 := i32_lo (I 25 4)
          have hc16 := mt Int32.le_iff_toInt_le.mpr hc16
          first | have htr := tokOf_r (I (25 + 1) (Int32.toNatClampNeg (I 25 3))) | skip
          refine ⟨vp_of (by omega) (by omega), ?_⟩
          refine fsfX5_tokenOf  hW  (fun v6  hp17 => ?_)
          first | have htr := tokOf_r (I (25 + 1) (Int32.toNatClampNeg (I 25 3))) | skip
          refine ⟨fun hc18 => ?_, fun hc19 => ?_⟩
          · skip
            have q6 := i32_lo v6
            have hc18 : ¬ (v6).toInt = ((I 25 2)).toInt := fun z => hc18 (Int32.toInt_inj.mp z)
            first | have htr := tokOf_r (I (25 + 1) (Int32.toNatClampNeg (I 25 3))) | skip
            exact hK _ hW hF ⟨tk_end hsp hq (by omega) (by omega) (fun k9 l9 q9 => by first | omega | (have hz8 := congrArg tokOf (hF (25 + 1) (Int32.toNatClampNeg (I 25 4)) (by omega)); have hz7 : tokOf (I0 (25 + 1) (Int32.toNatClampNeg (I 25 4))) = tokOf (I0 (25 + 1) (I 25 4).toInt.toNat) := rfl; omega)) (fun k9 => by omega), by omega, by omega⟩
          · skip
            have q6 := i32_lo v6
            have hc19 := Int32.toInt_inj.mpr hc19
            first | have htr := tokOf_r (I (25 + 1) (Int32.toNatClampNeg (I 25 3))) | skip
            have q7 := i32_add (I 25 4) 1 (by omega) (by omega)
            have hr20 : (((uI I 25 4 ((I 25 4) + 1))) 25 4).toInt = (((I 25 4) + 1)).toInt := congrArg Int32.toInt (uI_ss _ _ _ _)
            have hr21 : (((uI I 25 4 ((I 25 4) + 1))) 25 3).toInt = ((I 25 3)).toInt := congrArg Int32.toInt (uI_sk (by decide) rfl)
            have hr22 : (((uI I 25 4 ((I 25 4) + 1))) 25 1).toInt = ((I 25 1)).toInt := congrArg Int32.toInt (uI_sk (by decide) rfl)
            have hr23 : (((uI I 25 4 ((I 25 4) + 1))) 25 5).toInt = ((I 25 5)).toInt := congrArg Int32.toInt (uI_sk (by decide) rfl)
            have hr24 : (((uI I 25 4 ((I 25 4) + 1))) 25 2).toInt = ((I 25 2)).toInt := congrArg Int32.toInt (uI_sk (by decide) rfl)
            exact ih _ (WX_uI hW (by first | exact okXo (by decide) | (unfold okX; refine ⟨?_, ?_, ?_, ?_, ?_, ?_, ?_, ?_, ?_, ?_⟩ <;> intro h <;> omega))) (Fr_uI hF (by omega)) (by omega) (spx_c hsp (by omega)) (by omega) (by first | exact tkp_0 (by omega) (by omega) (by omega) | exact tkp_2 (x := I (25 + 1) (Int32.toNatClampNeg (I 25 4))) hq (hF (25 + 1) (Int32.toNatClampNeg (I 25 4)) (by omega)).symm (by omega) (by omega) (by omega) (by omega) (by omega) (by omega) | exact tkp_1 (x := I (25 + 1) (Int32.toNatClampNeg (I 25 3))) (by omega) (by omega) (by omega) (hF (25 + 1) (Int32.toNatClampNeg (I 25 3)) (by omega)).symm rfl (by omega) (by omega) (by omega)) (by omega)
theorem gX5_advance_8 {G : jdG} {n : Nat} {Z : jdL} {J : jdJ} {rc rs : Nat} {K : jdI → jdJ → Prop}  {I0 : jdI}  (ht : zScribe Z 25)   (hK : ∀ (I2 : jdI), WX I2 → Fr (fun a k => a = 25) I0 I2 → (TK (I0 (25 + 1)) (I0 25 1).toInt (I0 25 4).toInt (I2 25 2).toInt (I2 25 3).toInt (I2 25 4).toInt ∧ (I2 25 1).toInt = (I0 25 1).toInt ∧ (I2 25 5).toInt = (I0 25 5).toInt) → K I2 J) : ∀ m : Nat, ∀ (I : jdI) , WX I → Fr (fun a k => a = 25) I0 I → ((I0 25 4).toInt ≤ (I 25 3).toInt ∧ (I 25 3).toInt ≤ (I 25 1).toInt ∧ (I 25 1).toInt = (I0 25 1).toInt ∧ (I 25 5).toInt = (I0 25 5).toInt) → (SPx (I0 (25 + 1)) (I0 25 4).toInt (I 25 3).toInt) → 250 - (I 25 3).toInt < (m : Int) → Jd G mX5_advance (jdFm G (qv Z K)) (n + 1) rc rs 8 [(0, .ref (gb G + 25))] [] Z I J := by
  intro m
  induction m with
  | zero =>
    intro I hW hF h3 hsp hm
    have hwI := WX_f hW
    omega
  | succ m ih =>
    intro I hW hF h3 hsp hm
    have hwI := WX_f hW
    refine rX5_advance_8 ht ?_
    refine ⟨fun hc1 => ?_, fun hc2 => ?_⟩
    · skip
      have q1 := i32_lo (I 25 1)
      have q2 := i32_lo (I 25 3)
      have hc1 := Int32.le_iff_toInt_le.mp hc1
      first | have htr := tokOf_r (I (25 + 1) (Int32.toNatClampNeg (I 25 3))) | skip
      refine ⟨fun hc3 => ?_, fun hc4 => ?_⟩
      · skip
        have hc3 := Int32.le_iff_toInt_le.mp hc3
        first | have htr := tokOf_r (I (25 + 1) (Int32.toNatClampNeg (I 25 3))) | skip
        have q3 : (0 : Int32).toInt = 0 := rfl
        have hr5 : (((uI (uI I 25 2 0) 25 4 (I 25 1))) 25 4).toInt = ((I 25 1)).toInt := congrArg Int32.toInt (uI_ss _ _ _ _)
        have hr6 : (((uI (uI I 25 2 0) 25 4 (I 25 1))) 25 3).toInt = ((I 25 3)).toInt := congrArg Int32.toInt (uI_sk (by decide) (uI_sk (by decide) rfl))
        have hr7 : (((uI (uI I 25 2 0) 25 4 (I 25 1))) 25 1).toInt = ((I 25 1)).toInt := congrArg Int32.toInt (uI_sk (by decide) (uI_sk (by decide) rfl))
        have hr8 : (((uI (uI I 25 2 0) 25 4 (I 25 1))) 25 5).toInt = ((I 25 5)).toInt := congrArg Int32.toInt (uI_sk (by decide) (uI_sk (by decide) rfl))
        have hr9 : (((uI (uI I 25 2 0) 25 4 (I 25 1))) 25 2).toInt = ((0 : Int32)).toInt := congrArg Int32.toInt (uI_sk (by decide) (uI_ss _ _ _ _))
        exact gX5_advance_101 ht   hK  ((250 - ((uI (uI I 25 2 0) 25 4 (I 25 1)) 25 4).toInt).toNat + 1) _ (WX_uI (WX_uI hW (by first | exact okXo (by decide) | (unfold okX; refine ⟨?_, ?_, ?_, ?_, ?_, ?_, ?_, ?_, ?_, ?_⟩ <;> intro h <;> omega))) (by first | exact okXo (by decide) | (unfold okX; refine ⟨?_, ?_, ?_, ?_, ?_, ?_, ?_, ?_, ?_, ?_⟩ <;> intro h <;> omega))) (Fr_uI (Fr_uI hF (by omega)) (by omega)) (by omega) (spx_c hsp (by omega)) (by omega) (by first | exact tkp_0 (by omega) (by omega) (by omega) | exact tkp_2 (x := I (25 + 1) (Int32.toNatClampNeg (I 25 4))) hq (hF (25 + 1) (Int32.toNatClampNeg (I 25 4)) (by omega)).symm (by omega) (by omega) (by omega) (by omega) (by omega) (by omega) | exact tkp_1 (x := I (25 + 1) (Int32.toNatClampNeg (I 25 3))) (by omega) (by omega) (by omega) (hF (25 + 1) (Int32.toNatClampNeg (I 25 3)) (by omega)).symm rfl (by omega) (by omega) (by omega)) (by omega)
      · skip
        have hc4 := mt Int32.le_iff_toInt_le.mpr hc4
        first | have htr := tokOf_r (I (25 + 1) (Int32.toNatClampNeg (I 25 3))) | skip
        refine ⟨vp_of (by omega) (by omega), ?_⟩
        refine fsfX5_tokenOf  hW  (fun v3  hp10 => ?_)
        first | have htr := tokOf_r (I (25 + 1) (Int32.toNatClampNeg (I 25 3))) | skip
        refine ⟨fun hc11 => ?_, fun hc12 => ?_⟩
        · skip
          have q3 := i32_lo v3
          have q4 : (0 : Int32).toInt = 0 := rfl
          have hc11 : ¬ (v3).toInt = (0 : Int32).toInt := fun z => hc11 (Int32.toInt_inj.mp z)
          first | have htr := tokOf_r (I (25 + 1) (Int32.toNatClampNeg (I 25 3))) | skip
          have q5 : (1 : Int32).toInt = 1 := rfl
          have q6 := i32_add (I 25 3) 1 (by omega) (by omega)
          have hr13 : (((uI (uI I 25 2 v3) 25 4 ((I 25 3) + 1))) 25 4).toInt = (((I 25 3) + 1)).toInt := congrArg Int32.toInt (uI_ss _ _ _ _)
          have hr14 : (((uI (uI I 25 2 v3) 25 4 ((I 25 3) + 1))) 25 3).toInt = ((I 25 3)).toInt := congrArg Int32.toInt (uI_sk (by decide) (uI_sk (by decide) rfl))
          have hr15 : (((uI (uI I 25 2 v3) 25 4 ((I 25 3) + 1))) 25 1).toInt = ((I 25 1)).toInt := congrArg Int32.toInt (uI_sk (by decide) (uI_sk (by decide) rfl))
          have hr16 : (((uI (uI I 25 2 v3) 25 4 ((I 25 3) + 1))) 25 5).toInt = ((I 25 5)).toInt := congrArg Int32.toInt (uI_sk (by decide) (uI_sk (by decide) rfl))
          have hr17 : (((uI (uI I 25 2 v3) 25 4 ((I 25 3) + 1))) 25 2).toInt = (v3).toInt := congrArg Int32.toInt (uI_sk (by decide) (uI_ss _ _ _ _))
          exact gX5_advance_101 ht   hK  ((250 - ((uI (uI I 25 2 v3) 25 4 ((I 25 3) + 1)) 25 4).toInt).toNat + 1) _ (WX_uI (WX_uI hW (by first | exact okXo (by decide) | (unfold okX; refine ⟨?_, ?_, ?_, ?_, ?_, ?_, ?_, ?_, ?_, ?_⟩ <;> intro h <;> omega))) (by first | exact okXo (by decide) | (unfold okX; refine ⟨?_, ?_, ?_, ?_, ?_, ?_, ?_, ?_, ?_, ?_⟩ <;> intro h <;> omega))) (Fr_uI (Fr_uI hF (by omega)) (by omega)) (by omega) (spx_c hsp (by omega)) (by omega) (by first | exact tkp_0 (by omega) (by omega) (by omega) | exact tkp_2 (x := I (25 + 1) (Int32.toNatClampNeg (I 25 4))) hq (hF (25 + 1) (Int32.toNatClampNeg (I 25 4)) (by omega)).symm (by omega) (by omega) (by omega) (by omega) (by omega) (by omega) | exact tkp_1 (x := I (25 + 1) (Int32.toNatClampNeg (I 25 3))) (by omega) (by omega) (by omega) (hF (25 + 1) (Int32.toNatClampNeg (I 25 3)) (by omega)).symm rfl (by omega) (by omega) (by omega)) (by omega)
        · skip
          have q3 := i32_lo v3
          have q4 : (0 : Int32).toInt = 0 := rfl
          have hc12 := Int32.toInt_inj.mpr hc12
          first | have htr := tokOf_r (I (25 + 1) (Int32.toNatClampNeg (I 25 3))) | skip
          have hr18 : (((uI (uI I 25 2 v3) 25 4 (I 25 1))) 25 4).toInt = ((I 25 1)).toInt := congrArg Int32.toInt (uI_ss _ _ _ _)
          have hr19 : (((uI (uI I 25 2 v3) 25 4 (I 25 1))) 25 3).toInt = ((I 25 3)).toInt := congrArg Int32.toInt (uI_sk (by decide) (uI_sk (by decide) rfl))
          have hr20 : (((uI (uI I 25 2 v3) 25 4 (I 25 1))) 25 1).toInt = ((I 25 1)).toInt := congrArg Int32.toInt (uI_sk (by decide) (uI_sk (by decide) rfl))
          have hr21 : (((uI (uI I 25 2 v3) 25 4 (I 25 1))) 25 5).toInt = ((I 25 5)).toInt := congrArg Int32.toInt (uI_sk (by decide) (uI_sk (by decide) rfl))
          have hr22 : (((uI (uI I 25 2 v3) 25 4 (I 25 1))) 25 2).toInt = (v3).toInt := congrArg Int32.toInt (uI_sk (by decide) (uI_ss _ _ _ _))
          exact gX5_advance_101 ht   hK  ((250 - ((uI (uI I 25 2 v3) 25 4 (I 25 1)) 25 4).toInt).toNat + 1) _ (WX_uI (WX_uI hW (by first | exact okXo (by decide) | (unfold okX; refine ⟨?_, ?_, ?_, ?_, ?_, ?_, ?_, ?_, ?_, ?_⟩ <;> intro h <;> omega))) (by first | exact okXo (by decide) | (unfold okX; refine ⟨?_, ?_, ?_, ?_, ?_, ?_, ?_, ?_, ?_, ?_⟩ <;> intro h <;> omega))) (Fr_uI (Fr_uI hF (by omega)) (by omega)) (by omega) (spx_c hsp (by omega)) (by omega) (by first | exact tkp_0 (by omega) (by omega) (by omega) | exact tkp_2 (x := I (25 + 1) (Int32.toNatClampNeg (I 25 4))) hq (hF (25 + 1) (Int32.toNatClampNeg (I 25 4)) (by omega)).symm (by omega) (by omega) (by omega) (by omega) (by omega) (by omega) | exact tkp_1 (x := I (25 + 1) (Int32.toNatClampNeg (I 25 3))) (by omega) (by omega) (by omega) (hF (25 + 1) (Int32.toNatClampNeg (I 25 3)) (by omega)).symm rfl (by omega) (by omega) (by omega)) (by omega)
    · skip
      have q1 := i32_lo (I 25 1)
      have q2 := i32_lo (I 25 3)
      have hc2 := mt Int32.le_iff_toInt_le.mpr hc2
      first | have htr := tokOf_r (I (25 + 1) (Int32.toNatClampNeg (I 25 3))) | skip
      refine ⟨vp_of (by omega) (by omega), ?_⟩
      refine ⟨fun hc23 => ?_, fun hc24 => ?_⟩
      · skip
        have q3 : (32 : Int32).toInt = 32 := rfl
        have hc23 : ¬ ((I (25 + 1) (Int32.toNatClampNeg (I 25 3)))).toInt = (32 : Int32).toInt := fun z => hc23 (Int32.toInt_inj.mp z)
        first | have htr := tokOf_r (I (25 + 1) (Int32.toNatClampNeg (I 25 3))) | skip
        refine ⟨fun hc25 => ?_, fun hc26 => ?_⟩
        · skip
          have hc25 := Int32.le_iff_toInt_le.mp hc25
          first | have htr := tokOf_r (I (25 + 1) (Int32.toNatClampNeg (I 25 3))) | skip
          have q4 : (0 : Int32).toInt = 0 := rfl
          have hr27 : (((uI (uI I 25 2 0) 25 4 (I 25 1))) 25 4).toInt = ((I 25 1)).toInt := congrArg Int32.toInt (uI_ss _ _ _ _)
          have hr28 : (((uI (uI I 25 2 0) 25 4 (I 25 1))) 25 3).toInt = ((I 25 3)).toInt := congrArg Int32.toInt (uI_sk (by decide) (uI_sk (by decide) rfl))
          have hr29 : (((uI (uI I 25 2 0) 25 4 (I 25 1))) 25 1).toInt = ((I 25 1)).toInt := congrArg Int32.toInt (uI_sk (by decide) (uI_sk (by decide) rfl))
          have hr30 : (((uI (uI I 25 2 0) 25 4 (I 25 1))) 25 5).toInt = ((I 25 5)).toInt := congrArg Int32.toInt (uI_sk (by decide) (uI_sk (by decide) rfl))
          have hr31 : (((uI (uI I 25 2 0) 25 4 (I 25 1))) 25 2).toInt = ((0 : Int32)).toInt := congrArg Int32.toInt (uI_sk (by decide) (uI_ss _ _ _ _))
          exact gX5_advance_101 ht   hK  ((250 - ((uI (uI I 25 2 0) 25 4 (I 25 1)) 25 4).toInt).toNat + 1) _ (WX_uI (WX_uI hW (by first | exact okXo (by decide) | (unfold okX; refine ⟨?_, ?_, ?_, ?_, ?_, ?_, ?_, ?_, ?_, ?_⟩ <;> intro h <;> omega))) (by first | exact okXo (by decide) | (unfold okX; refine ⟨?_, ?_, ?_, ?_, ?_, ?_, ?_, ?_, ?_, ?_⟩ <;> intro h <;> omega))) (Fr_uI (Fr_uI hF (by omega)) (by omega)) (by omega) (spx_c hsp (by omega)) (by omega) (by first | exact tkp_0 (by omega) (by omega) (by omega) | exact tkp_2 (x := I (25 + 1) (Int32.toNatClampNeg (I 25 4))) hq (hF (25 + 1) (Int32.toNatClampNeg (I 25 4)) (by omega)).symm (by omega) (by omega) (by omega) (by omega) (by omega) (by omega) | exact tkp_1 (x := I (25 + 1) (Int32.toNatClampNeg (I 25 3))) (by omega) (by omega) (by omega) (hF (25 + 1) (Int32.toNatClampNeg (I 25 3)) (by omega)).symm rfl (by omega) (by omega) (by omega)) (by omega)
        · skip
          have hc26 := mt Int32.le_iff_toInt_le.mpr hc26
          first | have htr := tokOf_r (I (25 + 1) (Int32.toNatClampNeg (I 25 3))) | skip
          refine ⟨vp_of (by omega) (by omega), ?_⟩
          refine fsfX5_tokenOf  hW  (fun v7  hp32 => ?_)
          first | have htr := tokOf_r (I (25 + 1) (Int32.toNatClampNeg (I 25 3))) | skip
          refine ⟨fun hc33 => ?_, fun hc34 => ?_⟩
          · skip
            have q4 := i32_lo v7
            have q5 : (0 : Int32).toInt = 0 := rfl
            have hc33 : ¬ (v7).toInt = (0 : Int32).toInt := fun z => hc33 (Int32.toInt_inj.mp z)
            first | have htr := tokOf_r (I (25 + 1) (Int32.toNatClampNeg (I 25 3))) | skip
            have q6 : (1 : Int32).toInt = 1 := rfl
            have q7 := i32_add (I 25 3) 1 (by omega) (by omega)
            have hr35 : (((uI (uI I 25 2 v7) 25 4 ((I 25 3) + 1))) 25 4).toInt = (((I 25 3) + 1)).toInt := congrArg Int32.toInt (uI_ss _ _ _ _)
            have hr36 : (((uI (uI I 25 2 v7) 25 4 ((I 25 3) + 1))) 25 3).toInt = ((I 25 3)).toInt := congrArg Int32.toInt (uI_sk (by decide) (uI_sk (by decide) rfl))
            have hr37 : (((uI (uI I 25 2 v7) 25 4 ((I 25 3) + 1))) 25 1).toInt = ((I 25 1)).toInt := congrArg Int32.toInt (uI_sk (by decide) (uI_sk (by decide) rfl))
            have hr38 : (((uI (uI I 25 2 v7) 25 4 ((I 25 3) + 1))) 25 5).toInt = ((I 25 5)).toInt := congrArg Int32.toInt (uI_sk (by decide) (uI_sk (by decide) rfl))
            have hr39 : (((uI (uI I 25 2 v7) 25 4 ((I 25 3) + 1))) 25 2).toInt = (v7).toInt := congrArg Int32.toInt (uI_sk (by decide) (uI_ss _ _ _ _))
            exact gX5_advance_101 ht   hK  ((250 - ((uI (uI I 25 2 v7) 25 4 ((I 25 3) + 1)) 25 4).toInt).toNat + 1) _ (WX_uI (WX_uI hW (by first | exact okXo (by decide) | (unfold okX; refine ⟨?_, ?_, ?_, ?_, ?_, ?_, ?_, ?_, ?_, ?_⟩ <;> intro h <;> omega))) (by first | exact okXo (by decide) | (unfold okX; refine ⟨?_, ?_, ?_, ?_, ?_, ?_, ?_, ?_, ?_, ?_⟩ <;> intro h <;> omega))) (Fr_uI (Fr_uI hF (by omega)) (by omega)) (by omega) (spx_c hsp (by omega)) (by omega) (by first | exact tkp_0 (by omega) (by omega) (by omega) | exact tkp_2 (x := I (25 + 1) (Int32.toNatClampNeg (I 25 4))) hq (hF (25 + 1) (Int32.toNatClampNeg (I 25 4)) (by omega)).symm (by omega) (by omega) (by omega) (by omega) (by omega) (by omega) | exact tkp_1 (x := I (25 + 1) (Int32.toNatClampNeg (I 25 3))) (by omega) (by omega) (by omega) (hF (25 + 1) (Int32.toNatClampNeg (I 25 3)) (by omega)).symm rfl (by omega) (by omega) (by omega)) (by omega)
          · skip
            have q4 := i32_lo v7
            have q5 : (0 : Int32).toInt = 0 := rfl
            have hc34 := Int32.toInt_inj.mpr hc34
            first | have htr := tokOf_r (I (25 + 1) (Int32.toNatClampNeg (I 25 3))) | skip
            have hr40 : (((uI (uI I 25 2 v7) 25 4 (I 25 1))) 25 4).toInt = ((I 25 1)).toInt := congrArg Int32.toInt (uI_ss _ _ _ _)
            have hr41 : (((uI (uI I 25 2 v7) 25 4 (I 25 1))) 25 3).toInt = ((I 25 3)).toInt := congrArg Int32.toInt (uI_sk (by decide) (uI_sk (by decide) rfl))
            have hr42 : (((uI (uI I 25 2 v7) 25 4 (I 25 1))) 25 1).toInt = ((I 25 1)).toInt := congrArg Int32.toInt (uI_sk (by decide) (uI_sk (by decide) rfl))
            have hr43 : (((uI (uI I 25 2 v7) 25 4 (I 25 1))) 25 5).toInt = ((I 25 5)).toInt := congrArg Int32.toInt (uI_sk (by decide) (uI_sk (by decide) rfl))
            have hr44 : (((uI (uI I 25 2 v7) 25 4 (I 25 1))) 25 2).toInt = (v7).toInt := congrArg Int32.toInt (uI_sk (by decide) (uI_ss _ _ _ _))
            exact gX5_advance_101 ht   hK  ((250 - ((uI (uI I 25 2 v7) 25 4 (I 25 1)) 25 4).toInt).toNat + 1) _ (WX_uI (WX_uI hW (by first | exact okXo (by decide) | (unfold okX; refine ⟨?_, ?_, ?_, ?_, ?_, ?_, ?_, ?_, ?_, ?_⟩ <;> intro h <;> omega))) (by first | exact okXo (by decide) | (unfold okX; refine ⟨?_, ?_, ?_, ?_, ?_, ?_, ?_, ?_, ?_, ?_⟩ <;> intro h <;> omega))) (Fr_uI (Fr_uI hF (by omega)) (by omega)) (by omega) (spx_c hsp (by omega)) (by omega) (by first | exact tkp_0 (by omega) (by omega) (by omega) | exact tkp_2 (x := I (25 + 1) (Int32.toNatClampNeg (I 25 4))) hq (hF (25 + 1) (Int32.toNatClampNeg (I 25 4)) (by omega)).symm (by omega) (by omega) (by omega) (by omega) (by omega) (by omega) | exact tkp_1 (x := I (25 + 1) (Int32.toNatClampNeg (I 25 3))) (by omega) (by omega) (by omega) (hF (25 + 1) (Int32.toNatClampNeg (I 25 3)) (by omega)).symm rfl (by omega) (by omega) (by omega)) (by omega)
      · skip
        have q3 : (32 : Int32).toInt = 32 := rfl
        have hc24 := Int32.toInt_inj.mpr hc24
        first | have htr := tokOf_r (I (25 + 1) (Int32.toNatClampNeg (I 25 3))) | skip
        have q4 : (1 : Int32).toInt = 1 := rfl
        have q5 := i32_add (I 25 3) 1 (by omega) (by omega)
        have hr45 : (((uI I 25 3 ((I 25 3) + 1))) 25 3).toInt = (((I 25 3) + 1)).toInt := congrArg Int32.toInt (uI_ss _ _ _ _)
        have hr46 : (((uI I 25 3 ((I 25 3) + 1))) 25 1).toInt = ((I 25 1)).toInt := congrArg Int32.toInt (uI_sk (by decide) rfl)
        have hr47 : (((uI I 25 3 ((I 25 3) + 1))) 25 5).toInt = ((I 25 5)).toInt := congrArg Int32.toInt (uI_sk (by decide) rfl)
        exact ih _ (WX_uI hW (by first | exact okXo (by decide) | (unfold okX; refine ⟨?_, ?_, ?_, ?_, ?_, ?_, ?_, ?_, ?_, ?_⟩ <;> intro h <;> omega))) (Fr_uI hF (by omega)) (by omega) (by first | exact spx_0 (by omega) | exact spx_s hsp (show (I0 (25 + 1) (I 25 3).toInt.toNat).toInt = 32 by have hz8 := congrArg Int32.toInt (hF (25 + 1) (Int32.toNatClampNeg (I 25 3)) (by omega)); have hz9 : (I0 (25 + 1) (I 25 3).toInt.toNat).toInt = (I0 (25 + 1) (Int32.toNatClampNeg (I 25 3))).toInt := rfl; omega) (by omega) (by omega)) (by omega)
theorem fsfX5_advance {G : jdG} {n : Nat} {Z : jdL} {J : jdJ} {K : jdI → jdJ → Prop}  {I : jdI}  (ht : zScribe Z 25)  (hW : WX I) (hen : (I 25 4).toInt ≤ (I 25 1).toInt) (hK : ∀ (I2 : jdI), WX I2 → Fr (fun a k => a = 25) I I2 → (TK (I (25 + 1)) (I 25 1).toInt (I 25 4).toInt (I2 25 2).toInt (I2 25 3).toInt (I2 25 4).toInt ∧ (I2 25 1).toInt = (I 25 1).toInt ∧ (I2 25 5).toInt = (I 25 5).toInt) → K I2 J) : Cl G mX5_advance (n + 1) 0 0 [.ref (gb G + 25)] Z I J (qv Z K) := by
  refine eX5_advance ht ?_
  have hwI := WX_f hW
  have q1 := i32_lo (I 25 4)
  have hr1 : (((uI I 25 3 (I 25 4))) 25 3).toInt = ((I 25 4)).toInt := congrArg Int32.toInt (uI_ss _ _ _ _)
  have hr2 : (((uI I 25 3 (I 25 4))) 25 1).toInt = ((I 25 1)).toInt := congrArg Int32.toInt (uI_sk (by decide) rfl)
  have hr3 : (((uI I 25 3 (I 25 4))) 25 5).toInt = ((I 25 5)).toInt := congrArg Int32.toInt (uI_sk (by decide) rfl)
  exact gX5_advance_8 ht   hK  ((250 - ((uI I 25 3 (I 25 4)) 25 3).toInt).toNat + 1) _ (WX_uI hW (by first | exact okXo (by decide) | (unfold okX; refine ⟨?_, ?_, ?_, ?_, ?_, ?_, ?_, ?_, ?_, ?_⟩ <;> intro h <;> omega))) (Fr_uI Fr.rf (by omega)) (by omega) (by first | exact spx_0 (by omega) | exact spx_s hsp (show (I0 (25 + 1) (I 25 3).toInt.toNat).toInt = 32 by have hz8 := congrArg Int32.toInt (hF (25 + 1) (Int32.toNatClampNeg (I 25 3)) (by omega)); have hz9 : (I0 (25 + 1) (I 25 3).toInt.toNat).toInt = (I0 (25 + 1) (Int32.toNatClampNeg (I 25 3))).toInt := rfl; omega) (by omega) (by omega)) (by omega)
theorem gX12_look_149 {G : jdG} {n : Nat} {Z : jdL} {J : jdJ} {rc rs : Nat} {K : jdI → jdJ → Prop}  {I0 : jdI} {t : Nat} (ht : zModel Z t)   (hK : ∀ (I2 : jdI), WM 7 t I2 → Fr (fun a k => a = t ∧ 22 ≤ k ∧ k ≤ 25) I0 I2 → (TK (I0 (t + 16)) (I0 t 8).toInt (I0 t 22).toInt (I2 t 23).toInt (I2 t 24).toInt (I2 t 22).toInt ∧ ((I2 t 23).toInt = 2 → vq (I0 (t + 16)) (I2 t 24).toInt (I2 t 22).toInt (I2 t 25).toInt)) → K I2 J) : ∀ m : Nat, ∀ (I : jdI) , WM 7 t I → Fr (fun a k => a = t ∧ 22 ≤ k ∧ k ≤ 25) I0 I → ((I0 t 22).toInt ≤ (I t 24).toInt ∧ (I t 24).toInt ≤ (I t 22).toInt ∧ (I t 22).toInt ≤ (I t 8).toInt) → ((I t 23).toInt = 2) → (SPx (I0 (t + 16)) (I0 t 22).toInt (I t 24).toInt) → (TKr (I0 (t + 16)) (I0 t 8).toInt (I t 23).toInt (I t 24).toInt (I t 22).toInt) → (vq (I0 (t + 16)) (I t 24).toInt (I t 22).toInt (I t 25).toInt) → 250 - (I t 22).toInt < (m : Int) → Jd G mX12_look (jdFm G (qv Z K)) (n + 1) rc rs 149 [(0, .ref (gb G + t))] [] Z I J := by
  intro m
  induction m with
  | zero =>
    intro I hW hF hat htk hsp hq hv hm
    have hwI := WM_f hW
    omega
  | succ m ih =>
    intro I hW hF hat htk hsp hq hv hm
    have hwI := WM_f hW
    refine rX12_look_149 ht ?_
    have hs8 := congrArg Int32.toInt (hF t 8 (by omega))
    have hz := hF (t + 16) (Int32.toNatClampNeg (I t 22)) (by omega)
    have hzi := congrArg Int32.toInt hz
    have hzt := congrArg tokOf hz
    have ht1 := tok_1 (I (t + 16) (Int32.toNatClampNeg (I t 22)))
    have ht2 := tok_2 (I (t + 16) (Int32.toNatClampNeg (I t 22)))
    have ht3 := tok_3 (I (t + 16) (Int32.toNatClampNeg (I t 22)))
    have htr := tokOf_r (I (t + 16) (Int32.toNatClampNeg (I t 22)))
    have hv4 := vq_r hv
    have hts := tok_2 (I0 (t + 16) (I t 24).toInt.toNat)
    have hqs := hq.2.2.1
    refine ⟨fun hc1 => ?_, fun hc2 => ?_⟩
    · skip
      have q1 := i32_lo (I t 8)
      have q2 := i32_lo (I t 22)
      have hc1 := Int32.le_iff_toInt_le.mp hc1
      exact hK _ hW hF (by first | exact ⟨tk_e0 hsp (by omega) (by omega) (by omega) (by omega), fun q9 => by exfalso; omega⟩ | exact ⟨tk_e1 (a := (I t 22).toInt) (x := I (t + 16) (Int32.toNatClampNeg (I t 22))) hsp (by omega) hz.symm rfl (by omega) (by omega) (by omega) (by omega) (by omega) (by omega), fun q9 => by exfalso; omega⟩ | exact ⟨tk_e2 hsp hq (by omega) (by omega) (fun l9 => by show ¬ tokOf (I0 (t + 16) (Int32.toNatClampNeg (I t 22))) = _; omega) (by omega) (by omega), fun q9 => by first | exact hv | (exfalso; omega)⟩)
    · skip
      have q1 := i32_lo (I t 8)
      have q2 := i32_lo (I t 22)
      have hc2 := mt Int32.le_iff_toInt_le.mpr hc2
      refine ⟨vp_of (by omega) (by omega), ?_⟩
      refine sfX12_isDigit  trivial  (fun v3  hp3 => ?_)
      refine ⟨fun hc4 => ?_, fun hc5 => ?_⟩
      · skip
        have q3 := i32_lo v3
        have q4 : (0 : Int32).toInt = 0 := rfl
        have hc4 := Int32.toInt_inj.mpr hc4
        exact hK _ hW hF (by first | exact ⟨tk_e0 hsp (by omega) (by omega) (by omega) (by omega), fun q9 => by exfalso; omega⟩ | exact ⟨tk_e1 (a := (I t 22).toInt) (x := I (t + 16) (Int32.toNatClampNeg (I t 22))) hsp (by omega) hz.symm rfl (by omega) (by omega) (by omega) (by omega) (by omega) (by omega), fun q9 => by exfalso; omega⟩ | exact ⟨tk_e2 hsp hq (by omega) (by omega) (fun l9 => by show ¬ tokOf (I0 (t + 16) (Int32.toNatClampNeg (I t 22))) = _; omega) (by omega) (by omega), fun q9 => by first | exact hv | (exfalso; omega)⟩)
      · skip
        have q3 := i32_lo v3
        have q4 : (0 : Int32).toInt = 0 := rfl
        have hc5 : ¬ (v3).toInt = (0 : Int32).toInt := fun z => hc5 (Int32.toInt_inj.mp z)
        refine ⟨fun hc6 => ?_, fun hc7 => ?_⟩
        · skip
          have q5 : (2 : Int32).toInt = 2 := rfl
          have q6 := i32_lo (I t 24)
          have q7 := i32_subI (I t 22) (I t 24)
          have hc6 := Int32.le_iff_toInt_le.mp hc6
          have q8 : (1 : Int32).toInt = 1 := rfl
          have q9 := i32_add (I t 22) 1 (by omega) (by omega)
          have hr8 : (((uI (uI I t 25 100000) t 22 ((I t 22) + 1))) t 22).toInt = (((I t 22) + 1)).toInt := congrArg Int32.toInt (uI_ss _ _ _ _)
          have hr9 : (((uI (uI I t 25 100000) t 22 ((I t 22) + 1))) t 24).toInt = ((I t 24)).toInt := congrArg Int32.toInt (uI_sk (by decide) (uI_sk (by decide) rfl))
          have hr10 : (((uI (uI I t 25 100000) t 22 ((I t 22) + 1))) t 8).toInt = ((I t 8)).toInt := congrArg Int32.toInt (uI_sk (by decide) (uI_sk (by decide) rfl))
          have hr11 : (((uI (uI I t 25 100000) t 22 ((I t 22) + 1))) t 23).toInt = ((I t 23)).toInt := congrArg Int32.toInt (uI_sk (by decide) (uI_sk (by decide) rfl))
          have hr12 : (((uI (uI I t 25 100000) t 22 ((I t 22) + 1))) t 25).toInt = ((100000 : Int32)).toInt := congrArg Int32.toInt (uI_sk (by decide) (uI_ss _ _ _ _))
          have q10 : (100000 : Int32).toInt = 100000 := rfl
          exact ih _ (WM_uI (WM_uI hW (by first | exact okMo (by decide) (by decide) (by decide) (by decide) (by decide) | exact okMf (by decide) (by decide) (by decide) (by decide) (by decide) (by decide) (by decide) (by decide) | exact okM30 (by omega) | exact okM42 (by omega) | exact okM33 (by omega) | exact okM10 (by omega) | exact okM8 (by omega) | exact okM22 (by omega) | exact okM24 (by omega) | exact okM14 (by omega) | exact okMa31 (by omega) | exact okMa35 (by omega) | exact okMa36 (by omega) | exact okMa3 (by omega) | exact okMr (by omega) | (unfold okM; refine ⟨?_, ?_, ?_, ?_, ?_, ?_, ?_, ?_, ?_, ?_, ?_, ?_⟩ <;> intro h <;> omega))) (by first | exact okMo (by decide) (by decide) (by decide) (by decide) (by decide) | exact okMf (by decide) (by decide) (by decide) (by decide) (by decide) (by decide) (by decide) (by decide) | exact okM30 (by omega) | exact okM42 (by omega) | exact okM33 (by omega) | exact okM10 (by omega) | exact okM8 (by omega) | exact okM22 (by omega) | exact okM24 (by omega) | exact okM14 (by omega) | exact okMa31 (by omega) | exact okMa35 (by omega) | exact okMa36 (by omega) | exact okMa3 (by omega) | exact okMr (by omega) | (unfold okM; refine ⟨?_, ?_, ?_, ?_, ?_, ?_, ?_, ?_, ?_, ?_, ?_, ?_⟩ <;> intro h <;> omega))) (Fr_uI (Fr_uI hF (by omega)) (by omega)) (by omega) (by omega) (spx_c hsp (by omega)) (by first | exact tkr_0 (a := (I t 22).toInt) (x := I (t + 16) (Int32.toNatClampNeg (I t 22))) hz.symm rfl (by omega) (by omega) (by omega) (by omega) (by omega) (by omega) | exact tkr_s (x := I (t + 16) (Int32.toNatClampNeg (I t 22))) hq hz.symm (by omega) (by omega) (by omega) (by omega) (by omega) (by omega)) (by first | exact Or.inl ⟨by omega, by omega⟩ | exact vq_s (x := I (t + 16) (Int32.toNatClampNeg (I t 22))) hv hz.symm (by omega) (by omega) (by omega) (by omega) (by omega)) (by omega)
        · skip
          have q5 : (2 : Int32).toInt = 2 := rfl
          have q6 := i32_lo (I t 24)
          have q7 := i32_subI (I t 22) (I t 24)
          have hc7 := mt Int32.le_iff_toInt_le.mpr hc7
          refine ⟨vp_of (by omega) (by omega), ?_⟩
          have q8 : (1 : Int32).toInt = 1 := rfl
          have q9 := i32_add (I t 22) 1 (by omega) (by omega)
          have hr13 : (((uI (uI I t 25 ((((I t 25) * 10) + (I (t + 16) (Int32.toNatClampNeg (I t 22)))) - 48)) t 22 ((I t 22) + 1))) t 22).toInt = (((I t 22) + 1)).toInt := congrArg Int32.toInt (uI_ss _ _ _ _)
          have hr14 : (((uI (uI I t 25 ((((I t 25) * 10) + (I (t + 16) (Int32.toNatClampNeg (I t 22)))) - 48)) t 22 ((I t 22) + 1))) t 24).toInt = ((I t 24)).toInt := congrArg Int32.toInt (uI_sk (by decide) (uI_sk (by decide) rfl))
          have hr15 : (((uI (uI I t 25 ((((I t 25) * 10) + (I (t + 16) (Int32.toNatClampNeg (I t 22)))) - 48)) t 22 ((I t 22) + 1))) t 8).toInt = ((I t 8)).toInt := congrArg Int32.toInt (uI_sk (by decide) (uI_sk (by decide) rfl))
          have hr16 : (((uI (uI I t 25 ((((I t 25) * 10) + (I (t + 16) (Int32.toNatClampNeg (I t 22)))) - 48)) t 22 ((I t 22) + 1))) t 23).toInt = ((I t 23)).toInt := congrArg Int32.toInt (uI_sk (by decide) (uI_sk (by decide) rfl))
          have hr17 : (((uI (uI I t 25 ((((I t 25) * 10) + (I (t + 16) (Int32.toNatClampNeg (I t 22)))) - 48)) t 22 ((I t 22) + 1))) t 25).toInt = (((((I t 25) * 10) + (I (t + 16) (Int32.toNatClampNeg (I t 22)))) - 48)).toInt := congrArg Int32.toInt (uI_sk (by decide) (uI_ss _ _ _ _))
          have q10 := i32_lo (I t 25)
          have q11 : (10 : Int32).toInt = 10 := rfl
          have q12 := i32_mulc (I t 25) 10 10 rfl (by omega) (by omega)
          have q13 := i32_add ((I t 25) * 10) (I (t + 16) (Int32.toNatClampNeg (I t 22))) (by omega) (by omega)
          have q14 : (48 : Int32).toInt = 48 := rfl
          have q15 := i32_sub (((I t 25) * 10) + (I (t + 16) (Int32.toNatClampNeg (I t 22)))) 48 (by omega) (by omega)
          exact ih _ (WM_uI (WM_uI hW (by first | exact okMo (by decide) (by decide) (by decide) (by decide) (by decide) | exact okMf (by decide) (by decide) (by decide) (by decide) (by decide) (by decide) (by decide) (by decide) | exact okM30 (by omega) | exact okM42 (by omega) | exact okM33 (by omega) | exact okM10 (by omega) | exact okM8 (by omega) | exact okM22 (by omega) | exact okM24 (by omega) | exact okM14 (by omega) | exact okMa31 (by omega) | exact okMa35 (by omega) | exact okMa36 (by omega) | exact okMa3 (by omega) | exact okMr (by omega) | (unfold okM; refine ⟨?_, ?_, ?_, ?_, ?_, ?_, ?_, ?_, ?_, ?_, ?_, ?_⟩ <;> intro h <;> omega))) (by first | exact okMo (by decide) (by decide) (by decide) (by decide) (by decide) | exact okMf (by decide) (by decide) (by decide) (by decide) (by decide) (by decide) (by decide) (by decide) | exact okM30 (by omega) | exact okM42 (by omega) | exact okM33 (by omega) | exact okM10 (by omega) | exact okM8 (by omega) | exact okM22 (by omega) | exact okM24 (by omega) | exact okM14 (by omega) | exact okMa31 (by omega) | exact okMa35 (by omega) | exact okMa36 (by omega) | exact okMa3 (by omega) | exact okMr (by omega) | (unfold okM; refine ⟨?_, ?_, ?_, ?_, ?_, ?_, ?_, ?_, ?_, ?_, ?_, ?_⟩ <;> intro h <;> omega))) (Fr_uI (Fr_uI hF (by omega)) (by omega)) (by omega) (by omega) (spx_c hsp (by omega)) (by first | exact tkr_0 (a := (I t 22).toInt) (x := I (t + 16) (Int32.toNatClampNeg (I t 22))) hz.symm rfl (by omega) (by omega) (by omega) (by omega) (by omega) (by omega) | exact tkr_s (x := I (t + 16) (Int32.toNatClampNeg (I t 22))) hq hz.symm (by omega) (by omega) (by omega) (by omega) (by omega) (by omega)) (by first | exact Or.inl ⟨by omega, by omega⟩ | exact vq_s (x := I (t + 16) (Int32.toNatClampNeg (I t 22))) hv hz.symm (by omega) (by omega) (by omega) (by omega) (by omega)) (by omega)
theorem gX12_look_90 {G : jdG} {n : Nat} {Z : jdL} {J : jdJ} {rc rs : Nat} {K : jdI → jdJ → Prop}  {I0 : jdI} {t : Nat} (ht : zModel Z t)   (hK : ∀ (I2 : jdI), WM 7 t I2 → Fr (fun a k => a = t ∧ 22 ≤ k ∧ k ≤ 25) I0 I2 → (TK (I0 (t + 16)) (I0 t 8).toInt (I0 t 22).toInt (I2 t 23).toInt (I2 t 24).toInt (I2 t 22).toInt ∧ ((I2 t 23).toInt = 2 → vq (I0 (t + 16)) (I2 t 24).toInt (I2 t 22).toInt (I2 t 25).toInt)) → K I2 J) : ∀ m : Nat, ∀ (I : jdI) , WM 7 t I → Fr (fun a k => a = t ∧ 22 ≤ k ∧ k ≤ 25) I0 I → ((I0 t 22).toInt ≤ (I t 24).toInt ∧ (I t 24).toInt ≤ (I t 22).toInt ∧ (I t 22).toInt ≤ (I t 8).toInt) → ((I t 23).toInt = 1) → (SPx (I0 (t + 16)) (I0 t 22).toInt (I t 24).toInt) → (TKr (I0 (t + 16)) (I0 t 8).toInt (I t 23).toInt (I t 24).toInt (I t 22).toInt) → 250 - (I t 22).toInt < (m : Int) → Jd G mX12_look (jdFm G (qv Z K)) (n + 1) rc rs 90 [(0, .ref (gb G + t))] [] Z I J := by
  intro m
  induction m with
  | zero =>
    intro I hW hF hat htk hsp hq hm
    have hwI := WM_f hW
    omega
  | succ m ih =>
    intro I hW hF hat htk hsp hq hm
    have hwI := WM_f hW
    refine rX12_look_90 ht ?_
    have hs8 := congrArg Int32.toInt (hF t 8 (by omega))
    have hz := hF (t + 16) (Int32.toNatClampNeg (I t 22)) (by omega)
    have hzi := congrArg Int32.toInt hz
    have hzt := congrArg tokOf hz
    have ht1 := tok_1 (I (t + 16) (Int32.toNatClampNeg (I t 22)))
    have ht2 := tok_2 (I (t + 16) (Int32.toNatClampNeg (I t 22)))
    have ht3 := tok_3 (I (t + 16) (Int32.toNatClampNeg (I t 22)))
    have htr := tokOf_r (I (t + 16) (Int32.toNatClampNeg (I t 22)))
    refine ⟨fun hc1 => ?_, fun hc2 => ?_⟩
    · skip
      have q1 := i32_lo (I t 8)
      have q2 := i32_lo (I t 22)
      have hc1 := Int32.le_iff_toInt_le.mp hc1
      exact hK _ hW hF (by first | exact ⟨tk_e0 hsp (by omega) (by omega) (by omega) (by omega), fun q9 => by exfalso; omega⟩ | exact ⟨tk_e1 (a := (I t 22).toInt) (x := I (t + 16) (Int32.toNatClampNeg (I t 22))) hsp (by omega) hz.symm rfl (by omega) (by omega) (by omega) (by omega) (by omega) (by omega), fun q9 => by exfalso; omega⟩ | exact ⟨tk_e2 hsp hq (by omega) (by omega) (fun l9 => by show ¬ tokOf (I0 (t + 16) (Int32.toNatClampNeg (I t 22))) = _; omega) (by omega) (by omega), fun q9 => by first | exact hv | (exfalso; omega)⟩)
    · skip
      have q1 := i32_lo (I t 8)
      have q2 := i32_lo (I t 22)
      have hc2 := mt Int32.le_iff_toInt_le.mpr hc2
      refine ⟨vp_of (by omega) (by omega), ?_⟩
      refine sfX12_isLetter  trivial  (fun v3  hp3 => ?_)
      refine ⟨fun hc4 => ?_, fun hc5 => ?_⟩
      · skip
        have q3 := i32_lo v3
        have q4 : (0 : Int32).toInt = 0 := rfl
        have hc4 := Int32.toInt_inj.mpr hc4
        exact hK _ hW hF (by first | exact ⟨tk_e0 hsp (by omega) (by omega) (by omega) (by omega), fun q9 => by exfalso; omega⟩ | exact ⟨tk_e1 (a := (I t 22).toInt) (x := I (t + 16) (Int32.toNatClampNeg (I t 22))) hsp (by omega) hz.symm rfl (by omega) (by omega) (by omega) (by omega) (by omega) (by omega), fun q9 => by exfalso; omega⟩ | exact ⟨tk_e2 hsp hq (by omega) (by omega) (fun l9 => by show ¬ tokOf (I0 (t + 16) (Int32.toNatClampNeg (I t 22))) = _; omega) (by omega) (by omega), fun q9 => by first | exact hv | (exfalso; omega)⟩)
      · skip
        have q3 := i32_lo v3
        have q4 : (0 : Int32).toInt = 0 := rfl
        have hc5 : ¬ (v3).toInt = (0 : Int32).toInt := fun z => hc5 (Int32.toInt_inj.mp z)
        have q5 : (1 : Int32).toInt = 1 := rfl
        have q6 := i32_add (I t 22) 1 (by omega) (by omega)
        have hr6 : (((uI I t 22 ((I t 22) + 1))) t 22).toInt = (((I t 22) + 1)).toInt := congrArg Int32.toInt (uI_ss _ _ _ _)
        have hr7 : (((uI I t 22 ((I t 22) + 1))) t 24).toInt = ((I t 24)).toInt := congrArg Int32.toInt (uI_sk (by decide) rfl)
        have hr8 : (((uI I t 22 ((I t 22) + 1))) t 8).toInt = ((I t 8)).toInt := congrArg Int32.toInt (uI_sk (by decide) rfl)
        have hr9 : (((uI I t 22 ((I t 22) + 1))) t 23).toInt = ((I t 23)).toInt := congrArg Int32.toInt (uI_sk (by decide) rfl)
        exact ih _ (WM_uI hW (by first | exact okMo (by decide) (by decide) (by decide) (by decide) (by decide) | exact okMf (by decide) (by decide) (by decide) (by decide) (by decide) (by decide) (by decide) (by decide) | exact okM30 (by omega) | exact okM42 (by omega) | exact okM33 (by omega) | exact okM10 (by omega) | exact okM8 (by omega) | exact okM22 (by omega) | exact okM24 (by omega) | exact okM14 (by omega) | exact okMa31 (by omega) | exact okMa35 (by omega) | exact okMa36 (by omega) | exact okMa3 (by omega) | exact okMr (by omega) | (unfold okM; refine ⟨?_, ?_, ?_, ?_, ?_, ?_, ?_, ?_, ?_, ?_, ?_, ?_⟩ <;> intro h <;> omega))) (Fr_uI hF (by omega)) (by omega) (by omega) (spx_c hsp (by omega)) (by first | exact tkr_0 (a := (I t 22).toInt) (x := I (t + 16) (Int32.toNatClampNeg (I t 22))) hz.symm rfl (by omega) (by omega) (by omega) (by omega) (by omega) (by omega) | exact tkr_s (x := I (t + 16) (Int32.toNatClampNeg (I t 22))) hq hz.symm (by omega) (by omega) (by omega) (by omega) (by omega) (by omega)) (by omega)
theorem gX12_look_0 {G : jdG} {n : Nat} {Z : jdL} {J : jdJ} {rc rs : Nat} {K : jdI → jdJ → Prop}  {I0 : jdI} {t : Nat} (ht : zModel Z t)   (hK : ∀ (I2 : jdI), WM 7 t I2 → Fr (fun a k => a = t ∧ 22 ≤ k ∧ k ≤ 25) I0 I2 → (TK (I0 (t + 16)) (I0 t 8).toInt (I0 t 22).toInt (I2 t 23).toInt (I2 t 24).toInt (I2 t 22).toInt ∧ ((I2 t 23).toInt = 2 → vq (I0 (t + 16)) (I2 t 24).toInt (I2 t 22).toInt (I2 t 25).toInt)) → K I2 J) : ∀ m : Nat, ∀ (I : jdI) , WM 7 t I → Fr (fun a k => a = t ∧ 22 ≤ k ∧ k ≤ 25) I0 I → ((I0 t 22).toInt ≤ (I t 22).toInt ∧ (I t 22).toInt ≤ (I t 8).toInt) → (SPx (I0 (t + 16)) (I0 t 22).toInt (I t 22).toInt) → 250 - (I t 22).toInt < (m : Int) → Jd G mX12_look (jdFm G (qv Z K)) (n + 1) rc rs 0 [(0, .ref (gb G + t))] [] Z I J := by
  intro m
  induction m with
  | zero =>
    intro I hW hF hat hsp hm
    have hwI := WM_f hW
    omega
  | succ m ih =>
    intro I hW hF hat hsp hm
    have hwI := WM_f hW
    refine rX12_look_0 ht ?_
    have hs8 := congrArg Int32.toInt (hF t 8 (by omega))
    have hz := hF (t + 16) (Int32.toNatClampNeg (I t 22)) (by omega)
    have hzi := congrArg Int32.toInt hz
    have hzt := congrArg tokOf hz
    have ht1 := tok_1 (I (t + 16) (Int32.toNatClampNeg (I t 22)))
    have ht2 := tok_2 (I (t + 16) (Int32.toNatClampNeg (I t 22)))
    have ht3 := tok_3 (I (t + 16) (Int32.toNatClampNeg (I t 22)))
    have htr := tokOf_r (I (t + 16) (Int32.toNatClampNeg (I t 22)))
    have hE1 : (uI (uI I t 24 (I t 22)) t 25 0) t 22 = I t 22 := by rw [uI_ap, if_neg (by omega), uI_ap, if_neg (by omega)]
    have hE2 : (uI (uI I t 24 (I t 22)) t 25 0) (t + 16) = I (t + 16) := by rw [uI_n _ _ _ (by omega), uI_n _ _ _ (by omega)]
    have hE3 : ((uI (uI I t 24 (I t 22)) t 25 0) (t + 16) (Int32.toNatClampNeg ((uI (uI I t 24 (I t 22)) t 25 0) t 22))).toInt = (I (t + 16) (Int32.toNatClampNeg (I t 22))).toInt := by rw [hE2, hE1]
    refine ⟨fun hc1 => ?_, fun hc2 => ?_⟩
    · skip
      have q1 := i32_lo (I t 8)
      have q2 := i32_lo (I t 22)
      have hc1 := Int32.le_iff_toInt_le.mp hc1
      refine ⟨fun hc3 => ?_, fun hc4 => ?_⟩
      · skip
        have hc3 : ¬ ((I t 22)).toInt = ((I t 8)).toInt := fun z => hc3 (Int32.toInt_inj.mp z)
        refine ⟨vp_of (by omega) (by omega), ?_⟩
        refine sfX12_isLetter  trivial  (fun v3  hp5 => ?_)
        refine ⟨fun hc6 => ?_, fun hc7 => ?_⟩
        · skip
          have q3 := i32_lo v3
          have q4 : (0 : Int32).toInt = 0 := rfl
          have hc6 := Int32.toInt_inj.mpr hc6
          have hr8 : (((uI (uI I t 24 (I t 22)) t 25 0)) t 22).toInt = ((I t 22)).toInt := congrArg Int32.toInt (uI_sk (by decide) (uI_sk (by decide) rfl))
          refine ⟨vp_of (by omega) (by omega), ?_⟩
          have hr9 : (((uI (uI I t 24 (I t 22)) t 25 0)) (t + 16) (Int32.toNatClampNeg ((uI (uI I t 24 (I t 22)) t 25 0) t 22))).toInt = ((I (t + 16) (Int32.toNatClampNeg ((uI (uI I t 24 (I t 22)) t 25 0) t 22)))).toInt := congrArg Int32.toInt (uI_ne (by omega) (uI_ne (by omega) rfl))
          refine sfX12_isDigit  trivial  (fun v6  hp10 => ?_)
          refine ⟨fun hc11 => ?_, fun hc12 => ?_⟩
          · skip
            have q5 := i32_lo v6
            have hc11 := Int32.toInt_inj.mpr hc11
            refine ⟨vp_of (by omega) (by omega), ?_⟩
            refine ⟨fun hc13 => ?_, fun hc14 => ?_⟩
            · skip
              have q6 : (59 : Int32).toInt = 59 := rfl
              have hc13 : ¬ (((uI (uI I t 24 (I t 22)) t 25 0) (t + 16) (Int32.toNatClampNeg ((uI (uI I t 24 (I t 22)) t 25 0) t 22)))).toInt = (59 : Int32).toInt := fun z => hc13 (Int32.toInt_inj.mp z)
              have q7 : (1 : Int32).toInt = 1 := rfl
              have q8 := i32_add ((uI (uI I t 24 (I t 22)) t 25 0) t 22) 1 (by omega) (by omega)
              have hr15 : (((uI (uI (uI (uI I t 24 (I t 22)) t 25 0) t 23 4) t 22 (((uI (uI I t 24 (I t 22)) t 25 0) t 22) + 1))) t 8).toInt = ((I t 8)).toInt := congrArg Int32.toInt (uI_sk (by decide) (uI_sk (by decide) (uI_sk (by decide) (uI_sk (by decide) rfl))))
              have hr16 : (((uI (uI (uI (uI I t 24 (I t 22)) t 25 0) t 23 4) t 22 (((uI (uI I t 24 (I t 22)) t 25 0) t 22) + 1))) t 22).toInt = ((((uI (uI I t 24 (I t 22)) t 25 0) t 22) + 1)).toInt := congrArg Int32.toInt (uI_ss _ _ _ _)
              have hr17 : (((uI (uI (uI (uI I t 24 (I t 22)) t 25 0) t 23 4) t 22 (((uI (uI I t 24 (I t 22)) t 25 0) t 22) + 1))) t 23).toInt = ((4 : Int32)).toInt := congrArg Int32.toInt (uI_sk (by decide) (uI_ss _ _ _ _))
              have q9 : (4 : Int32).toInt = 4 := rfl
              have hr18 : (((uI (uI (uI (uI I t 24 (I t 22)) t 25 0) t 23 4) t 22 (((uI (uI I t 24 (I t 22)) t 25 0) t 22) + 1))) t 24).toInt = ((I t 22)).toInt := congrArg Int32.toInt (uI_sk (by decide) (uI_sk (by decide) (uI_sk (by decide) (uI_ss _ _ _ _))))
              have hr19 : (((uI (uI (uI (uI I t 24 (I t 22)) t 25 0) t 23 4) t 22 (((uI (uI I t 24 (I t 22)) t 25 0) t 22) + 1))) t 25).toInt = ((0 : Int32)).toInt := congrArg Int32.toInt (uI_sk (by decide) (uI_sk (by decide) (uI_ss _ _ _ _)))
              exact hK _ (WM_uI (WM_uI (WM_uI (WM_uI hW (by first | exact okMo (by decide) (by decide) (by decide) (by decide) (by decide) | exact okMf (by decide) (by decide) (by decide) (by decide) (by decide) (by decide) (by decide) (by decide) | exact okM30 (by omega) | exact okM42 (by omega) | exact okM33 (by omega) | exact okM10 (by omega) | exact okM8 (by omega) | exact okM22 (by omega) | exact okM24 (by omega) | exact okM14 (by omega) | exact okMa31 (by omega) | exact okMa35 (by omega) | exact okMa36 (by omega) | exact okMa3 (by omega) | exact okMr (by omega) | (unfold okM; refine ⟨?_, ?_, ?_, ?_, ?_, ?_, ?_, ?_, ?_, ?_, ?_, ?_⟩ <;> intro h <;> omega))) (by first | exact okMo (by decide) (by decide) (by decide) (by decide) (by decide) | exact okMf (by decide) (by decide) (by decide) (by decide) (by decide) (by decide) (by decide) (by decide) | exact okM30 (by omega) | exact okM42 (by omega) | exact okM33 (by omega) | exact okM10 (by omega) | exact okM8 (by omega) | exact okM22 (by omega) | exact okM24 (by omega) | exact okM14 (by omega) | exact okMa31 (by omega) | exact okMa35 (by omega) | exact okMa36 (by omega) | exact okMa3 (by omega) | exact okMr (by omega) | (unfold okM; refine ⟨?_, ?_, ?_, ?_, ?_, ?_, ?_, ?_, ?_, ?_, ?_, ?_⟩ <;> intro h <;> omega))) (by first | exact okMo (by decide) (by decide) (by decide) (by decide) (by decide) | exact okMf (by decide) (by decide) (by decide) (by decide) (by decide) (by decide) (by decide) (by decide) | exact okM30 (by omega) | exact okM42 (by omega) | exact okM33 (by omega) | exact okM10 (by omega) | exact okM8 (by omega) | exact okM22 (by omega) | exact okM24 (by omega) | exact okM14 (by omega) | exact okMa31 (by omega) | exact okMa35 (by omega) | exact okMa36 (by omega) | exact okMa3 (by omega) | exact okMr (by omega) | (unfold okM; refine ⟨?_, ?_, ?_, ?_, ?_, ?_, ?_, ?_, ?_, ?_, ?_, ?_⟩ <;> intro h <;> omega))) (by first | exact okMo (by decide) (by decide) (by decide) (by decide) (by decide) | exact okMf (by decide) (by decide) (by decide) (by decide) (by decide) (by decide) (by decide) (by decide) | exact okM30 (by omega) | exact okM42 (by omega) | exact okM33 (by omega) | exact okM10 (by omega) | exact okM8 (by omega) | exact okM22 (by omega) | exact okM24 (by omega) | exact okM14 (by omega) | exact okMa31 (by omega) | exact okMa35 (by omega) | exact okMa36 (by omega) | exact okMa3 (by omega) | exact okMr (by omega) | (unfold okM; refine ⟨?_, ?_, ?_, ?_, ?_, ?_, ?_, ?_, ?_, ?_, ?_, ?_⟩ <;> intro h <;> omega))) (Fr_uI (Fr_uI (Fr_uI (Fr_uI hF (by omega)) (by omega)) (by omega)) (by omega)) (by first | exact ⟨tk_e0 hsp (by omega) (by omega) (by omega) (by omega), fun q9 => by exfalso; omega⟩ | exact ⟨tk_e1 (a := (I t 22).toInt) (x := I (t + 16) (Int32.toNatClampNeg (I t 22))) hsp (by omega) hz.symm rfl (by omega) (by omega) (by omega) (by omega) (by omega) (by omega), fun q9 => by exfalso; omega⟩ | exact ⟨tk_e2 hsp hq (by omega) (by omega) (fun l9 => by show ¬ tokOf (I0 (t + 16) (Int32.toNatClampNeg (I t 22))) = _; omega) (by omega) (by omega), fun q9 => by first | exact hv | (exfalso; omega)⟩)
            · skip
              have q6 : (59 : Int32).toInt = 59 := rfl
              have hc14 := Int32.toInt_inj.mpr hc14
              have q7 : (1 : Int32).toInt = 1 := rfl
              have q8 := i32_add ((uI (uI I t 24 (I t 22)) t 25 0) t 22) 1 (by omega) (by omega)
              have hr20 : (((uI (uI (uI (uI I t 24 (I t 22)) t 25 0) t 23 3) t 22 (((uI (uI I t 24 (I t 22)) t 25 0) t 22) + 1))) t 8).toInt = ((I t 8)).toInt := congrArg Int32.toInt (uI_sk (by decide) (uI_sk (by decide) (uI_sk (by decide) (uI_sk (by decide) rfl))))
              have hr21 : (((uI (uI (uI (uI I t 24 (I t 22)) t 25 0) t 23 3) t 22 (((uI (uI I t 24 (I t 22)) t 25 0) t 22) + 1))) t 22).toInt = ((((uI (uI I t 24 (I t 22)) t 25 0) t 22) + 1)).toInt := congrArg Int32.toInt (uI_ss _ _ _ _)
              have hr22 : (((uI (uI (uI (uI I t 24 (I t 22)) t 25 0) t 23 3) t 22 (((uI (uI I t 24 (I t 22)) t 25 0) t 22) + 1))) t 23).toInt = ((3 : Int32)).toInt := congrArg Int32.toInt (uI_sk (by decide) (uI_ss _ _ _ _))
              have q9 : (3 : Int32).toInt = 3 := rfl
              have hr23 : (((uI (uI (uI (uI I t 24 (I t 22)) t 25 0) t 23 3) t 22 (((uI (uI I t 24 (I t 22)) t 25 0) t 22) + 1))) t 24).toInt = ((I t 22)).toInt := congrArg Int32.toInt (uI_sk (by decide) (uI_sk (by decide) (uI_sk (by decide) (uI_ss _ _ _ _))))
              have hr24 : (((uI (uI (uI (uI I t 24 (I t 22)) t 25 0) t 23 3) t 22 (((uI (uI I t 24 (I t 22)) t 25 0) t 22) + 1))) t 25).toInt = ((0 : Int32)).toInt := congrArg Int32.toInt (uI_sk (by decide) (uI_sk (by decide) (uI_ss _ _ _ _)))
              exact hK _ (WM_uI (WM_uI (WM_uI (WM_uI hW (by first | exact okMo (by decide) (by decide) (by decide) (by decide) (by decide) | exact okMf (by decide) (by decide) (by decide) (by decide) (by decide) (by decide) (by decide) (by decide) | exact okM30 (by omega) | exact okM42 (by omega) | exact okM33 (by omega) | exact okM10 (by omega) | exact okM8 (by omega) | exact okM22 (by omega) | exact okM24 (by omega) | exact okM14 (by omega) | exact okMa31 (by omega) | exact okMa35 (by omega) | exact okMa36 (by omega) | exact okMa3 (by omega) | exact okMr (by omega) | (unfold okM; refine ⟨?_, ?_, ?_, ?_, ?_, ?_, ?_, ?_, ?_, ?_, ?_, ?_⟩ <;> intro h <;> omega))) (by first | exact okMo (by decide) (by decide) (by decide) (by decide) (by decide) | exact okMf (by decide) (by decide) (by decide) (by decide) (by decide) (by decide) (by decide) (by decide) | exact okM30 (by omega) | exact okM42 (by omega) | exact okM33 (by omega) | exact okM10 (by omega) | exact okM8 (by omega) | exact okM22 (by omega) | exact okM24 (by omega) | exact okM14 (by omega) | exact okMa31 (by omega) | exact okMa35 (by omega) | exact okMa36 (by omega) | exact okMa3 (by omega) | exact okMr (by omega) | (unfold okM; refine ⟨?_, ?_, ?_, ?_, ?_, ?_, ?_, ?_, ?_, ?_, ?_, ?_⟩ <;> intro h <;> omega))) (by first | exact okMo (by decide) (by decide) (by decide) (by decide) (by decide) | exact okMf (by decide) (by decide) (by decide) (by decide) (by decide) (by decide) (by decide) (by decide) | exact okM30 (by omega) | exact okM42 (by omega) | exact okM33 (by omega) | exact okM10 (by omega) | exact okM8 (by omega) | exact okM22 (by omega) | exact okM24 (by omega) | exact okM14 (by omega) | exact okMa31 (by omega) | exact okMa35 (by omega) | exact okMa36 (by omega) | exact okMa3 (by omega) | exact okMr (by omega) | (unfold okM; refine ⟨?_, ?_, ?_, ?_, ?_, ?_, ?_, ?_, ?_, ?_, ?_, ?_⟩ <;> intro h <;> omega))) (by first | exact okMo (by decide) (by decide) (by decide) (by decide) (by decide) | exact okMf (by decide) (by decide) (by decide) (by decide) (by decide) (by decide) (by decide) (by decide) | exact okM30 (by omega) | exact okM42 (by omega) | exact okM33 (by omega) | exact okM10 (by omega) | exact okM8 (by omega) | exact okM22 (by omega) | exact okM24 (by omega) | exact okM14 (by omega) | exact okMa31 (by omega) | exact okMa35 (by omega) | exact okMa36 (by omega) | exact okMa3 (by omega) | exact okMr (by omega) | (unfold okM; refine ⟨?_, ?_, ?_, ?_, ?_, ?_, ?_, ?_, ?_, ?_, ?_, ?_⟩ <;> intro h <;> omega))) (Fr_uI (Fr_uI (Fr_uI (Fr_uI hF (by omega)) (by omega)) (by omega)) (by omega)) (by first | exact ⟨tk_e0 hsp (by omega) (by omega) (by omega) (by omega), fun q9 => by exfalso; omega⟩ | exact ⟨tk_e1 (a := (I t 22).toInt) (x := I (t + 16) (Int32.toNatClampNeg (I t 22))) hsp (by omega) hz.symm rfl (by omega) (by omega) (by omega) (by omega) (by omega) (by omega), fun q9 => by exfalso; omega⟩ | exact ⟨tk_e2 hsp hq (by omega) (by omega) (fun l9 => by show ¬ tokOf (I0 (t + 16) (Int32.toNatClampNeg (I t 22))) = _; omega) (by omega) (by omega), fun q9 => by first | exact hv | (exfalso; omega)⟩)
          · skip
            have q5 := i32_lo v6
            have hc12 : ¬ (v6).toInt = (0 : Int32).toInt := fun z => hc12 (Int32.toInt_inj.mp z)
            have hr25 : (((uI (uI (uI I t 24 (I t 22)) t 25 0) t 23 2)) t 22).toInt = ((I t 22)).toInt := congrArg Int32.toInt (uI_sk (by decide) (uI_sk (by decide) (uI_sk (by decide) rfl)))
            have hr26 : (((uI (uI (uI I t 24 (I t 22)) t 25 0) t 23 2)) t 24).toInt = ((I t 22)).toInt := congrArg Int32.toInt (uI_sk (by decide) (uI_sk (by decide) (uI_ss _ _ _ _)))
            have hr27 : (((uI (uI (uI I t 24 (I t 22)) t 25 0) t 23 2)) t 8).toInt = ((I t 8)).toInt := congrArg Int32.toInt (uI_sk (by decide) (uI_sk (by decide) (uI_sk (by decide) rfl)))
            have hr28 : (((uI (uI (uI I t 24 (I t 22)) t 25 0) t 23 2)) t 23).toInt = ((2 : Int32)).toInt := congrArg Int32.toInt (uI_ss _ _ _ _)
            have q6 : (2 : Int32).toInt = 2 := rfl
            have hr29 : (((uI (uI (uI I t 24 (I t 22)) t 25 0) t 23 2)) t 25).toInt = ((0 : Int32)).toInt := congrArg Int32.toInt (uI_sk (by decide) (uI_ss _ _ _ _))
            exact gX12_look_149 ht   hK  ((250 - ((uI (uI (uI I t 24 (I t 22)) t 25 0) t 23 2) t 22).toInt).toNat + 1) _ (WM_uI (WM_uI (WM_uI hW (by first | exact okMo (by decide) (by decide) (by decide) (by decide) (by decide) | exact okMf (by decide) (by decide) (by decide) (by decide) (by decide) (by decide) (by decide) (by decide) | exact okM30 (by omega) | exact okM42 (by omega) | exact okM33 (by omega) | exact okM10 (by omega) | exact okM8 (by omega) | exact okM22 (by omega) | exact okM24 (by omega) | exact okM14 (by omega) | exact okMa31 (by omega) | exact okMa35 (by omega) | exact okMa36 (by omega) | exact okMa3 (by omega) | exact okMr (by omega) | (unfold okM; refine ⟨?_, ?_, ?_, ?_, ?_, ?_, ?_, ?_, ?_, ?_, ?_, ?_⟩ <;> intro h <;> omega))) (by first | exact okMo (by decide) (by decide) (by decide) (by decide) (by decide) | exact okMf (by decide) (by decide) (by decide) (by decide) (by decide) (by decide) (by decide) (by decide) | exact okM30 (by omega) | exact okM42 (by omega) | exact okM33 (by omega) | exact okM10 (by omega) | exact okM8 (by omega) | exact okM22 (by omega) | exact okM24 (by omega) | exact okM14 (by omega) | exact okMa31 (by omega) | exact okMa35 (by omega) | exact okMa36 (by omega) | exact okMa3 (by omega) | exact okMr (by omega) | (unfold okM; refine ⟨?_, ?_, ?_, ?_, ?_, ?_, ?_, ?_, ?_, ?_, ?_, ?_⟩ <;> intro h <;> omega))) (by first | exact okMo (by decide) (by decide) (by decide) (by decide) (by decide) | exact okMf (by decide) (by decide) (by decide) (by decide) (by decide) (by decide) (by decide) (by decide) | exact okM30 (by omega) | exact okM42 (by omega) | exact okM33 (by omega) | exact okM10 (by omega) | exact okM8 (by omega) | exact okM22 (by omega) | exact okM24 (by omega) | exact okM14 (by omega) | exact okMa31 (by omega) | exact okMa35 (by omega) | exact okMa36 (by omega) | exact okMa3 (by omega) | exact okMr (by omega) | (unfold okM; refine ⟨?_, ?_, ?_, ?_, ?_, ?_, ?_, ?_, ?_, ?_, ?_, ?_⟩ <;> intro h <;> omega))) (Fr_uI (Fr_uI (Fr_uI hF (by omega)) (by omega)) (by omega)) (by omega) (by omega) (spx_c hsp (by omega)) (by first | exact tkr_0 (a := (I t 22).toInt) (x := I (t + 16) (Int32.toNatClampNeg (I t 22))) hz.symm rfl (by omega) (by omega) (by omega) (by omega) (by omega) (by omega) | exact tkr_s (x := I (t + 16) (Int32.toNatClampNeg (I t 22))) hq hz.symm (by omega) (by omega) (by omega) (by omega) (by omega) (by omega)) (by first | exact Or.inl ⟨by omega, by omega⟩ | exact vq_s (x := I (t + 16) (Int32.toNatClampNeg (I t 22))) hv hz.symm (by omega) (by omega) (by omega) (by omega) (by omega)) (by omega)
        · skip
          have q3 := i32_lo v3
          have q4 : (0 : Int32).toInt = 0 := rfl
          have hc7 : ¬ (v3).toInt = (0 : Int32).toInt := fun z => hc7 (Int32.toInt_inj.mp z)
          have hr30 : (((uI (uI (uI I t 24 (I t 22)) t 25 0) t 23 1)) t 22).toInt = ((I t 22)).toInt := congrArg Int32.toInt (uI_sk (by decide) (uI_sk (by decide) (uI_sk (by decide) rfl)))
          have hr31 : (((uI (uI (uI I t 24 (I t 22)) t 25 0) t 23 1)) t 24).toInt = ((I t 22)).toInt := congrArg Int32.toInt (uI_sk (by decide) (uI_sk (by decide) (uI_ss _ _ _ _)))
          have hr32 : (((uI (uI (uI I t 24 (I t 22)) t 25 0) t 23 1)) t 8).toInt = ((I t 8)).toInt := congrArg Int32.toInt (uI_sk (by decide) (uI_sk (by decide) (uI_sk (by decide) rfl)))
          have hr33 : (((uI (uI (uI I t 24 (I t 22)) t 25 0) t 23 1)) t 23).toInt = ((1 : Int32)).toInt := congrArg Int32.toInt (uI_ss _ _ _ _)
          have q5 : (1 : Int32).toInt = 1 := rfl
          exact gX12_look_90 ht   hK  ((250 - ((uI (uI (uI I t 24 (I t 22)) t 25 0) t 23 1) t 22).toInt).toNat + 1) _ (WM_uI (WM_uI (WM_uI hW (by first | exact okMo (by decide) (by decide) (by decide) (by decide) (by decide) | exact okMf (by decide) (by decide) (by decide) (by decide) (by decide) (by decide) (by decide) (by decide) | exact okM30 (by omega) | exact okM42 (by omega) | exact okM33 (by omega) | exact okM10 (by omega) | exact okM8 (by omega) | exact okM22 (by omega) | exact okM24 (by omega) | exact okM14 (by omega) | exact okMa31 (by omega) | exact okMa35 (by omega) | exact okMa36 (by omega) | exact okMa3 (by omega) | exact okMr (by omega) | (unfold okM; refine ⟨?_, ?_, ?_, ?_, ?_, ?_, ?_, ?_, ?_, ?_, ?_, ?_⟩ <;> intro h <;> omega))) (by first | exact okMo (by decide) (by decide) (by decide) (by decide) (by decide) | exact okMf (by decide) (by decide) (by decide) (by decide) (by decide) (by decide) (by decide) (by decide) | exact okM30 (by omega) | exact okM42 (by omega) | exact okM33 (by omega) | exact okM10 (by omega) | exact okM8 (by omega) | exact okM22 (by omega) | exact okM24 (by omega) | exact okM14 (by omega) | exact okMa31 (by omega) | exact okMa35 (by omega) | exact okMa36 (by omega) | exact okMa3 (by omega) | exact okMr (by omega) | (unfold okM; refine ⟨?_, ?_, ?_, ?_, ?_, ?_, ?_, ?_, ?_, ?_, ?_, ?_⟩ <;> intro h <;> omega))) (by first | exact okMo (by decide) (by decide) (by decide) (by decide) (by decide) | exact okMf (by decide) (by decide) (by decide) (by decide) (by decide) (by decide) (by decide) (by decide) | exact okM30 (by omega) | exact okM42 (by omega) | exact okM33 (by omega) | exact okM10 (by omega) | exact okM8 (by omega) | exact okM22 (by omega) | exact okM24 (by omega) | exact okM14 (by omega) | exact okMa31 (by omega) | exact okMa35 (by omega) | exact okMa36 (by omega) | exact okMa3 (by omega) | exact okMr (by omega) | (unfold okM; refine ⟨?_, ?_, ?_, ?_, ?_, ?_, ?_, ?_, ?_, ?_, ?_, ?_⟩ <;> intro h <;> omega))) (Fr_uI (Fr_uI (Fr_uI hF (by omega)) (by omega)) (by omega)) (by omega) (by omega) (spx_c hsp (by omega)) (by first | exact tkr_0 (a := (I t 22).toInt) (x := I (t + 16) (Int32.toNatClampNeg (I t 22))) hz.symm rfl (by omega) (by omega) (by omega) (by omega) (by omega) (by omega) | exact tkr_s (x := I (t + 16) (Int32.toNatClampNeg (I t 22))) hq hz.symm (by omega) (by omega) (by omega) (by omega) (by omega) (by omega)) (by omega)
      · skip
        have hc4 := Int32.toInt_inj.mpr hc4
        have hr34 : (((uI (uI (uI I t 24 (I t 22)) t 25 0) t 23 0)) t 8).toInt = ((I t 8)).toInt := congrArg Int32.toInt (uI_sk (by decide) (uI_sk (by decide) (uI_sk (by decide) rfl)))
        have hr35 : (((uI (uI (uI I t 24 (I t 22)) t 25 0) t 23 0)) t 22).toInt = ((I t 22)).toInt := congrArg Int32.toInt (uI_sk (by decide) (uI_sk (by decide) (uI_sk (by decide) rfl)))
        have hr36 : (((uI (uI (uI I t 24 (I t 22)) t 25 0) t 23 0)) t 23).toInt = ((0 : Int32)).toInt := congrArg Int32.toInt (uI_ss _ _ _ _)
        have q3 : (0 : Int32).toInt = 0 := rfl
        have hr37 : (((uI (uI (uI I t 24 (I t 22)) t 25 0) t 23 0)) t 24).toInt = ((I t 22)).toInt := congrArg Int32.toInt (uI_sk (by decide) (uI_sk (by decide) (uI_ss _ _ _ _)))
        have hr38 : (((uI (uI (uI I t 24 (I t 22)) t 25 0) t 23 0)) t 25).toInt = ((0 : Int32)).toInt := congrArg Int32.toInt (uI_sk (by decide) (uI_ss _ _ _ _))
        exact hK _ (WM_uI (WM_uI (WM_uI hW (by first | exact okMo (by decide) (by decide) (by decide) (by decide) (by decide) | exact okMf (by decide) (by decide) (by decide) (by decide) (by decide) (by decide) (by decide) (by decide) | exact okM30 (by omega) | exact okM42 (by omega) | exact okM33 (by omega) | exact okM10 (by omega) | exact okM8 (by omega) | exact okM22 (by omega) | exact okM24 (by omega) | exact okM14 (by omega) | exact okMa31 (by omega) | exact okMa35 (by omega) | exact okMa36 (by omega) | exact okMa3 (by omega) | exact okMr (by omega) | (unfold okM; refine ⟨?_, ?_, ?_, ?_, ?_, ?_, ?_, ?_, ?_, ?_, ?_, ?_⟩ <;> intro h <;> omega))) (by first | exact okMo (by decide) (by decide) (by decide) (by decide) (by decide) | exact okMf (by decide) (by decide) (by decide) (by decide) (by decide) (by decide) (by decide) (by decide) | exact okM30 (by omega) | exact okM42 (by omega) | exact okM33 (by omega) | exact okM10 (by omega) | exact okM8 (by omega) | exact okM22 (by omega) | exact okM24 (by omega) | exact okM14 (by omega) | exact okMa31 (by omega) | exact okMa35 (by omega) | exact okMa36 (by omega) | exact okMa3 (by omega) | exact okMr (by omega) | (unfold okM; refine ⟨?_, ?_, ?_, ?_, ?_, ?_, ?_, ?_, ?_, ?_, ?_, ?_⟩ <;> intro h <;> omega))) (by first | exact okMo (by decide) (by decide) (by decide) (by decide) (by decide) | exact okMf (by decide) (by decide) (by decide) (by decide) (by decide) (by decide) (by decide) (by decide) | exact okM30 (by omega) | exact okM42 (by omega) | exact okM33 (by omega) | exact okM10 (by omega) | exact okM8 (by omega) | exact okM22 (by omega) | exact okM24 (by omega) | exact okM14 (by omega) | exact okMa31 (by omega) | exact okMa35 (by omega) | exact okMa36 (by omega) | exact okMa3 (by omega) | exact okMr (by omega) | (unfold okM; refine ⟨?_, ?_, ?_, ?_, ?_, ?_, ?_, ?_, ?_, ?_, ?_, ?_⟩ <;> intro h <;> omega))) (Fr_uI (Fr_uI (Fr_uI hF (by omega)) (by omega)) (by omega)) (by first | exact ⟨tk_e0 hsp (by omega) (by omega) (by omega) (by omega), fun q9 => by exfalso; omega⟩ | exact ⟨tk_e1 (a := (I t 22).toInt) (x := I (t + 16) (Int32.toNatClampNeg (I t 22))) hsp (by omega) hz.symm rfl (by omega) (by omega) (by omega) (by omega) (by omega) (by omega), fun q9 => by exfalso; omega⟩ | exact ⟨tk_e2 hsp hq (by omega) (by omega) (fun l9 => by show ¬ tokOf (I0 (t + 16) (Int32.toNatClampNeg (I t 22))) = _; omega) (by omega) (by omega), fun q9 => by first | exact hv | (exfalso; omega)⟩)
    · skip
      have q1 := i32_lo (I t 8)
      have q2 := i32_lo (I t 22)
      have hc2 := mt Int32.le_iff_toInt_le.mpr hc2
      refine ⟨vp_of (by omega) (by omega), ?_⟩
      refine ⟨fun hc39 => ?_, fun hc40 => ?_⟩
      · skip
        have q3 : (32 : Int32).toInt = 32 := rfl
        have hc39 : ¬ ((I (t + 16) (Int32.toNatClampNeg (I t 22)))).toInt = (32 : Int32).toInt := fun z => hc39 (Int32.toInt_inj.mp z)
        refine ⟨fun hc41 => ?_, fun hc42 => ?_⟩
        · skip
          have hc41 : ¬ ((I t 22)).toInt = ((I t 8)).toInt := fun z => hc41 (Int32.toInt_inj.mp z)
          refine ⟨vp_of (by omega) (by omega), ?_⟩
          refine sfX12_isLetter  trivial  (fun v11  hp43 => ?_)
          refine ⟨fun hc44 => ?_, fun hc45 => ?_⟩
          · skip
            have q4 := i32_lo v11
            have q5 : (0 : Int32).toInt = 0 := rfl
            have hc44 := Int32.toInt_inj.mpr hc44
            have hr46 : (((uI (uI I t 24 (I t 22)) t 25 0)) t 22).toInt = ((I t 22)).toInt := congrArg Int32.toInt (uI_sk (by decide) (uI_sk (by decide) rfl))
            refine ⟨vp_of (by omega) (by omega), ?_⟩
            have hr47 : (((uI (uI I t 24 (I t 22)) t 25 0)) (t + 16) (Int32.toNatClampNeg ((uI (uI I t 24 (I t 22)) t 25 0) t 22))).toInt = ((I (t + 16) (Int32.toNatClampNeg ((uI (uI I t 24 (I t 22)) t 25 0) t 22)))).toInt := congrArg Int32.toInt (uI_ne (by omega) (uI_ne (by omega) rfl))
            refine sfX12_isDigit  trivial  (fun v14  hp48 => ?_)
            refine ⟨fun hc49 => ?_, fun hc50 => ?_⟩
            · skip
              have q6 := i32_lo v14
              have hc49 := Int32.toInt_inj.mpr hc49
              refine ⟨vp_of (by omega) (by omega), ?_⟩
              refine ⟨fun hc51 => ?_, fun hc52 => ?_⟩
              · skip
                have q7 : (59 : Int32).toInt = 59 := rfl
                have hc51 : ¬ (((uI (uI I t 24 (I t 22)) t 25 0) (t + 16) (Int32.toNatClampNeg ((uI (uI I t 24 (I t 22)) t 25 0) t 22)))).toInt = (59 : Int32).toInt := fun z => hc51 (Int32.toInt_inj.mp z)
                have q8 : (1 : Int32).toInt = 1 := rfl
                have q9 := i32_add ((uI (uI I t 24 (I t 22)) t 25 0) t 22) 1 (by omega) (by omega)
                have hr53 : (((uI (uI (uI (uI I t 24 (I t 22)) t 25 0) t 23 4) t 22 (((uI (uI I t 24 (I t 22)) t 25 0) t 22) + 1))) t 8).toInt = ((I t 8)).toInt := congrArg Int32.toInt (uI_sk (by decide) (uI_sk (by decide) (uI_sk (by decide) (uI_sk (by decide) rfl))))
                have hr54 : (((uI (uI (uI (uI I t 24 (I t 22)) t 25 0) t 23 4) t 22 (((uI (uI I t 24 (I t 22)) t 25 0) t 22) + 1))) t 22).toInt = ((((uI (uI I t 24 (I t 22)) t 25 0) t 22) + 1)).toInt := congrArg Int32.toInt (uI_ss _ _ _ _)
                have hr55 : (((uI (uI (uI (uI I t 24 (I t 22)) t 25 0) t 23 4) t 22 (((uI (uI I t 24 (I t 22)) t 25 0) t 22) + 1))) t 23).toInt = ((4 : Int32)).toInt := congrArg Int32.toInt (uI_sk (by decide) (uI_ss _ _ _ _))
                have q10 : (4 : Int32).toInt = 4 := rfl
                have hr56 : (((uI (uI (uI (uI I t 24 (I t 22)) t 25 0) t 23 4) t 22 (((uI (uI I t 24 (I t 22)) t 25 0) t 22) + 1))) t 24).toInt = ((I t 22)).toInt := congrArg Int32.toInt (uI_sk (by decide) (uI_sk (by decide) (uI_sk (by decide) (uI_ss _ _ _ _))))
                have hr57 : (((uI (uI (uI (uI I t 24 (I t 22)) t 25 0) t 23 4) t 22 (((uI (uI I t 24 (I t 22)) t 25 0) t 22) + 1))) t 25).toInt = ((0 : Int32)).toInt := congrArg Int32.toInt (uI_sk (by decide) (uI_sk (by decide) (uI_ss _ _ _ _)))
                exact hK _ (WM_uI (WM_uI (WM_uI (WM_uI hW (by first | exact okMo (by decide) (by decide) (by decide) (by decide) (by decide) | exact okMf (by decide) (by decide) (by decide) (by decide) (by decide) (by decide) (by decide) (by decide) | exact okM30 (by omega) | exact okM42 (by omega) | exact okM33 (by omega) | exact okM10 (by omega) | exact okM8 (by omega) | exact okM22 (by omega) | exact okM24 (by omega) | exact okM14 (by omega) | exact okMa31 (by omega) | exact okMa35 (by omega) | exact okMa36 (by omega) | exact okMa3 (by omega) | exact okMr (by omega) | (unfold okM; refine ⟨?_, ?_, ?_, ?_, ?_, ?_, ?_, ?_, ?_, ?_, ?_, ?_⟩ <;> intro h <;> omega))) (by first | exact okMo (by decide) (by decide) (by decide) (by decide) (by decide) | exact okMf (by decide) (by decide) (by decide) (by decide) (by decide) (by decide) (by decide) (by decide) | exact okM30 (by omega) | exact okM42 (by omega) | exact okM33 (by omega) | exact okM10 (by omega) | exact okM8 (by omega) | exact okM22 (by omega) | exact okM24 (by omega) | exact okM14 (by omega) | exact okMa31 (by omega) | exact okMa35 (by omega) | exact okMa36 (by omega) | exact okMa3 (by omega) | exact okMr (by omega) | (unfold okM; refine ⟨?_, ?_, ?_, ?_, ?_, ?_, ?_, ?_, ?_, ?_, ?_, ?_⟩ <;> intro h <;> omega))) (by first | exact okMo (by decide) (by decide) (by decide) (by decide) (by decide) | exact okMf (by decide) (by decide) (by decide) (by decide) (by decide) (by decide) (by decide) (by decide) | exact okM30 (by omega) | exact okM42 (by omega) | exact okM33 (by omega) | exact okM10 (by omega) | exact okM8 (by omega) | exact okM22 (by omega) | exact okM24 (by omega) | exact okM14 (by omega) | exact okMa31 (by omega) | exact okMa35 (by omega) | exact okMa36 (by omega) | exact okMa3 (by omega) | exact okMr (by omega) | (unfold okM; refine ⟨?_, ?_, ?_, ?_, ?_, ?_, ?_, ?_, ?_, ?_, ?_, ?_⟩ <;> intro h <;> omega))) (by first | exact okMo (by decide) (by decide) (by decide) (by decide) (by decide) | exact okMf (by decide) (by decide) (by decide) (by decide) (by decide) (by decide) (by decide) (by decide) | exact okM30 (by omega) | exact okM42 (by omega) | exact okM33 (by omega) | exact okM10 (by omega) | exact okM8 (by omega) | exact okM22 (by omega) | exact okM24 (by omega) | exact okM14 (by omega) | exact okMa31 (by omega) | exact okMa35 (by omega) | exact okMa36 (by omega) | exact okMa3 (by omega) | exact okMr (by omega) | (unfold okM; refine ⟨?_, ?_, ?_, ?_, ?_, ?_, ?_, ?_, ?_, ?_, ?_, ?_⟩ <;> intro h <;> omega))) (Fr_uI (Fr_uI (Fr_uI (Fr_uI hF (by omega)) (by omega)) (by omega)) (by omega)) (by first | exact ⟨tk_e0 hsp (by omega) (by omega) (by omega) (by omega), fun q9 => by exfalso; omega⟩ | exact ⟨tk_e1 (a := (I t 22).toInt) (x := I (t + 16) (Int32.toNatClampNeg (I t 22))) hsp (by omega) hz.symm rfl (by omega) (by omega) (by omega) (by omega) (by omega) (by omega), fun q9 => by exfalso; omega⟩ | exact ⟨tk_e2 hsp hq (by omega) (by omega) (fun l9 => by show ¬ tokOf (I0 (t + 16) (Int32.toNatClampNeg (I t 22))) = _; omega) (by omega) (by omega), fun q9 => by first | exact hv | (exfalso; omega)⟩)
              · skip
                have q7 : (59 : Int32).toInt = 59 := rfl
                have hc52 := Int32.toInt_inj.mpr hc52
                have q8 : (1 : Int32).toInt = 1 := rfl
                have q9 := i32_add ((uI (uI I t 24 (I t 22)) t 25 0) t 22) 1 (by omega) (by omega)
                have hr58 : (((uI (uI (uI (uI I t 24 (I t 22)) t 25 0) t 23 3) t 22 (((uI (uI I t 24 (I t 22)) t 25 0) t 22) + 1))) t 8).toInt = ((I t 8)).toInt := congrArg Int32.toInt (uI_sk (by decide) (uI_sk (by decide) (uI_sk (by decide) (uI_sk (by decide) rfl))))
                have hr59 : (((uI (uI (uI (uI I t 24 (I t 22)) t 25 0) t 23 3) t 22 (((uI (uI I t 24 (I t 22)) t 25 0) t 22) + 1))) t 22).toInt = ((((uI (uI I t 24 (I t 22)) t 25 0) t 22) + 1)).toInt := congrArg Int32.toInt (uI_ss _ _ _ _)
                have hr60 : (((uI (uI (uI (uI I t 24 (I t 22)) t 25 0) t 23 3) t 22 (((uI (uI I t 24 (I t 22)) t 25 0) t 22) + 1))) t 23).toInt = ((3 : Int32)).toInt := congrArg Int32.toInt (uI_sk (by decide) (uI_ss _ _ _ _))
                have q10 : (3 : Int32).toInt = 3 := rfl
                have hr61 : (((uI (uI (uI (uI I t 24 (I t 22)) t 25 0) t 23 3) t 22 (((uI (uI I t 24 (I t 22)) t 25 0) t 22) + 1))) t 24).toInt = ((I t 22)).toInt := congrArg Int32.toInt (uI_sk (by decide) (uI_sk (by decide) (uI_sk (by decide) (uI_ss _ _ _ _))))
                have hr62 : (((uI (uI (uI (uI I t 24 (I t 22)) t 25 0) t 23 3) t 22 (((uI (uI I t 24 (I t 22)) t 25 0) t 22) + 1))) t 25).toInt = ((0 : Int32)).toInt := congrArg Int32.toInt (uI_sk (by decide) (uI_sk (by decide) (uI_ss _ _ _ _)))
                exact hK _ (WM_uI (WM_uI (WM_uI (WM_uI hW (by first | exact okMo (by decide) (by decide) (by decide) (by decide) (by decide) | exact okMf (by decide) (by decide) (by decide) (by decide) (by decide) (by decide) (by decide) (by decide) | exact okM30 (by omega) | exact okM42 (by omega) | exact okM33 (by omega) | exact okM10 (by omega) | exact okM8 (by omega) | exact okM22 (by omega) | exact okM24 (by omega) | exact okM14 (by omega) | exact okMa31 (by omega) | exact okMa35 (by omega) | exact okMa36 (by omega) | exact okMa3 (by omega) | exact okMr (by omega) | (unfold okM; refine ⟨?_, ?_, ?_, ?_, ?_, ?_, ?_, ?_, ?_, ?_, ?_, ?_⟩ <;> intro h <;> omega))) (by first | exact okMo (by decide) (by decide) (by decide) (by decide) (by decide) | exact okMf (by decide) (by decide) (by decide) (by decide) (by decide) (by decide) (by decide) (by decide) | exact okM30 (by omega) | exact okM42 (by omega) | exact okM33 (by omega) | exact okM10 (by omega) | exact okM8 (by omega) | exact okM22 (by omega) | exact okM24 (by omega) | exact okM14 (by omega) | exact okMa31 (by omega) | exact okMa35 (by omega) | exact okMa36 (by omega) | exact okMa3 (by omega) | exact okMr (by omega) | (unfold okM; refine ⟨?_, ?_, ?_, ?_, ?_, ?_, ?_, ?_, ?_, ?_, ?_, ?_⟩ <;> intro h <;> omega))) (by first | exact okMo (by decide) (by decide) (by decide) (by decide) (by decide) | exact okMf (by decide) (by decide) (by decide) (by decide) (by decide) (by decide) (by decide) (by decide) | exact okM30 (by omega) | exact okM42 (by omega) | exact okM33 (by omega) | exact okM10 (by omega) | exact okM8 (by omega) | exact okM22 (by omega) | exact okM24 (by omega) | exact okM14 (by omega) | exact okMa31 (by omega) | exact okMa35 (by omega) | exact okMa36 (by omega) | exact okMa3 (by omega) | exact okMr (by omega) | (unfold okM; refine ⟨?_, ?_, ?_, ?_, ?_, ?_, ?_, ?_, ?_, ?_, ?_, ?_⟩ <;> intro h <;> omega))) (by first | exact okMo (by decide) (by decide) (by decide) (by decide) (by decide) | exact okMf (by decide) (by decide) (by decide) (by decide) (by decide) (by decide) (by decide) (by decide) | exact okM30 (by omega) | exact okM42 (by omega) | exact okM33 (by omega) | exact okM10 (by omega) | exact okM8 (by omega) | exact okM22 (by omega) | exact okM24 (by omega) | exact okM14 (by omega) | exact okMa31 (by omega) | exact okMa35 (by omega) | exact okMa36 (by omega) | exact okMa3 (by omega) | exact okMr (by omega) | (unfold okM; refine ⟨?_, ?_, ?_, ?_, ?_, ?_, ?_, ?_, ?_, ?_, ?_, ?_⟩ <;> intro h <;> omega))) (Fr_uI (Fr_uI (Fr_uI (Fr_uI hF (by omega)) (by omega)) (by omega)) (by omega)) (by first | exact ⟨tk_e0 hsp (by omega) (by omega) (by omega) (by omega), fun q9 => by exfalso; omega⟩ | exact ⟨tk_e1 (a := (I t 22).toInt) (x := I (t + 16) (Int32.toNatClampNeg (I t 22))) hsp (by omega) hz.symm rfl (by omega) (by omega) (by omega) (by omega) (by omega) (by omega), fun q9 => by exfalso; omega⟩ | exact ⟨tk_e2 hsp hq (by omega) (by omega) (fun l9 => by show ¬ tokOf (I0 (t + 16) (Int32.toNatClampNeg (I t 22))) = _; omega) (by omega) (by omega), fun q9 => by first | exact hv | (exfalso; omega)⟩)
            · skip
              have q6 := i32_lo v14
              have hc50 : ¬ (v14).toInt = (0 : Int32).toInt := fun z => hc50 (Int32.toInt_inj.mp z)
              have hr63 : (((uI (uI (uI I t 24 (I t 22)) t 25 0) t 23 2)) t 22).toInt = ((I t 22)).toInt := congrArg Int32.toInt (uI_sk (by decide) (uI_sk (by decide) (uI_sk (by decide) rfl)))
              have hr64 : (((uI (uI (uI I t 24 (I t 22)) t 25 0) t 23 2)) t 24).toInt = ((I t 22)).toInt := congrArg Int32.toInt (uI_sk (by decide) (uI_sk (by decide) (uI_ss _ _ _ _)))
              have hr65 : (((uI (uI (uI I t 24 (I t 22)) t 25 0) t 23 2)) t 8).toInt = ((I t 8)).toInt := congrArg Int32.toInt (uI_sk (by decide) (uI_sk (by decide) (uI_sk (by decide) rfl)))
              have hr66 : (((uI (uI (uI I t 24 (I t 22)) t 25 0) t 23 2)) t 23).toInt = ((2 : Int32)).toInt := congrArg Int32.toInt (uI_ss _ _ _ _)
              have q7 : (2 : Int32).toInt = 2 := rfl
              have hr67 : (((uI (uI (uI I t 24 (I t 22)) t 25 0) t 23 2)) t 25).toInt = ((0 : Int32)).toInt := congrArg Int32.toInt (uI_sk (by decide) (uI_ss _ _ _ _))
              exact gX12_look_149 ht   hK  ((250 - ((uI (uI (uI I t 24 (I t 22)) t 25 0) t 23 2) t 22).toInt).toNat + 1) _ (WM_uI (WM_uI (WM_uI hW (by first | exact okMo (by decide) (by decide) (by decide) (by decide) (by decide) | exact okMf (by decide) (by decide) (by decide) (by decide) (by decide) (by decide) (by decide) (by decide) | exact okM30 (by omega) | exact okM42 (by omega) | exact okM33 (by omega) | exact okM10 (by omega) | exact okM8 (by omega) | exact okM22 (by omega) | exact okM24 (by omega) | exact okM14 (by omega) | exact okMa31 (by omega) | exact okMa35 (by omega) | exact okMa36 (by omega) | exact okMa3 (by omega) | exact okMr (by omega) | (unfold okM; refine ⟨?_, ?_, ?_, ?_, ?_, ?_, ?_, ?_, ?_, ?_, ?_, ?_⟩ <;> intro h <;> omega))) (by first | exact okMo (by decide) (by decide) (by decide) (by decide) (by decide) | exact okMf (by decide) (by decide) (by decide) (by decide) (by decide) (by decide) (by decide) (by decide) | exact okM30 (by omega) | exact okM42 (by omega) | exact okM33 (by omega) | exact okM10 (by omega) | exact okM8 (by omega) | exact okM22 (by omega) | exact okM24 (by omega) | exact okM14 (by omega) | exact okMa31 (by omega) | exact okMa35 (by omega) | exact okMa36 (by omega) | exact okMa3 (by omega) | exact okMr (by omega) | (unfold okM; refine ⟨?_, ?_, ?_, ?_, ?_, ?_, ?_, ?_, ?_, ?_, ?_, ?_⟩ <;> intro h <;> omega))) (by first | exact okMo (by decide) (by decide) (by decide) (by decide) (by decide) | exact okMf (by decide) (by decide) (by decide) (by decide) (by decide) (by decide) (by decide) (by decide) | exact okM30 (by omega) | exact okM42 (by omega) | exact okM33 (by omega) | exact okM10 (by omega) | exact okM8 (by omega) | exact okM22 (by omega) | exact okM24 (by omega) | exact okM14 (by omega) | exact okMa31 (by omega) | exact okMa35 (by omega) | exact okMa36 (by omega) | exact okMa3 (by omega) | exact okMr (by omega) | (unfold okM; refine ⟨?_, ?_, ?_, ?_, ?_, ?_, ?_, ?_, ?_, ?_, ?_, ?_⟩ <;> intro h <;> omega))) (Fr_uI (Fr_uI (Fr_uI hF (by omega)) (by omega)) (by omega)) (by omega) (by omega) (spx_c hsp (by omega)) (by first | exact tkr_0 (a := (I t 22).toInt) (x := I (t + 16) (Int32.toNatClampNeg (I t 22))) hz.symm rfl (by omega) (by omega) (by omega) (by omega) (by omega) (by omega) | exact tkr_s (x := I (t + 16) (Int32.toNatClampNeg (I t 22))) hq hz.symm (by omega) (by omega) (by omega) (by omega) (by omega) (by omega)) (by first | exact Or.inl ⟨by omega, by omega⟩ | exact vq_s (x := I (t + 16) (Int32.toNatClampNeg (I t 22))) hv hz.symm (by omega) (by omega) (by omega) (by omega) (by omega)) (by omega)
          · skip
            have q4 := i32_lo v11
            have q5 : (0 : Int32).toInt = 0 := rfl
            have hc45 : ¬ (v11).toInt = (0 : Int32).toInt := fun z => hc45 (Int32.toInt_inj.mp z)
            have hr68 : (((uI (uI (uI I t 24 (I t 22)) t 25 0) t 23 1)) t 22).toInt = ((I t 22)).toInt := congrArg Int32.toInt (uI_sk (by decide) (uI_sk (by decide) (uI_sk (by decide) rfl)))
            have hr69 : (((uI (uI (uI I t 24 (I t 22)) t 25 0) t 23 1)) t 24).toInt = ((I t 22)).toInt := congrArg Int32.toInt (uI_sk (by decide) (uI_sk (by decide) (uI_ss _ _ _ _)))
            have hr70 : (((uI (uI (uI I t 24 (I t 22)) t 25 0) t 23 1)) t 8).toInt = ((I t 8)).toInt := congrArg Int32.toInt (uI_sk (by decide) (uI_sk (by decide) (uI_sk (by decide) rfl)))
            have hr71 : (((uI (uI (uI I t 24 (I t 22)) t 25 0) t 23 1)) t 23).toInt = ((1 : Int32)).toInt := congrArg Int32.toInt (uI_ss _ _ _ _)
            have q6 : (1 : Int32).toInt = 1 := rfl
            exact gX12_look_90 ht   hK  ((250 - ((uI (uI (uI I t 24 (I t 22)) t 25 0) t 23 1) t 22).toInt).toNat + 1) _ (WM_uI (WM_uI (WM_uI hW (by first | exact okMo (by decide) (by decide) (by decide) (by decide) (by decide) | exact okMf (by decide) (by decide) (by decide) (by decide) (by decide) (by decide) (by decide) (by decide) | exact okM30 (by omega) | exact okM42 (by omega) | exact okM33 (by omega) | exact okM10 (by omega) | exact okM8 (by omega) | exact okM22 (by omega) | exact okM24 (by omega) | exact okM14 (by omega) | exact okMa31 (by omega) | exact okMa35 (by omega) | exact okMa36 (by omega) | exact okMa3 (by omega) | exact okMr (by omega) | (unfold okM; refine ⟨?_, ?_, ?_, ?_, ?_, ?_, ?_, ?_, ?_, ?_, ?_, ?_⟩ <;> intro h <;> omega))) (by first | exact okMo (by decide) (by decide) (by decide) (by decide) (by decide) | exact okMf (by decide) (by decide) (by decide) (by decide) (by decide) (by decide) (by decide) (by decide) | exact okM30 (by omega) | exact okM42 (by omega) | exact okM33 (by omega) | exact okM10 (by omega) | exact okM8 (by omega) | exact okM22 (by omega) | exact okM24 (by omega) | exact okM14 (by omega) | exact okMa31 (by omega) | exact okMa35 (by omega) | exact okMa36 (by omega) | exact okMa3 (by omega) | exact okMr (by omega) | (unfold okM; refine ⟨?_, ?_, ?_, ?_, ?_, ?_, ?_, ?_, ?_, ?_, ?_, ?_⟩ <;> intro h <;> omega))) (by first | exact okMo (by decide) (by decide) (by decide) (by decide) (by decide) | exact okMf (by decide) (by decide) (by decide) (by decide) (by decide) (by decide) (by decide) (by decide) | exact okM30 (by omega) | exact okM42 (by omega) | exact okM33 (by omega) | exact okM10 (by omega) | exact okM8 (by omega) | exact okM22 (by omega) | exact okM24 (by omega) | exact okM14 (by omega) | exact okMa31 (by omega) | exact okMa35 (by omega) | exact okMa36 (by omega) | exact okMa3 (by omega) | exact okMr (by omega) | (unfold okM; refine ⟨?_, ?_, ?_, ?_, ?_, ?_, ?_, ?_, ?_, ?_, ?_, ?_⟩ <;> intro h <;> omega))) (Fr_uI (Fr_uI (Fr_uI hF (by omega)) (by omega)) (by omega)) (by omega) (by omega) (spx_c hsp (by omega)) (by first | exact tkr_0 (a := (I t 22).toInt) (x := I (t + 16) (Int32.toNatClampNeg (I t 22))) hz.symm rfl (by omega) (by omega) (by omega) (by omega) (by omega) (by omega) | exact tkr_s (x := I (t + 16) (Int32.toNatClampNeg (I t 22))) hq hz.symm (by omega) (by omega) (by omega) (by omega) (by omega) (by omega)) (by omega)
        · skip
          have hc42 := Int32.toInt_inj.mpr hc42
          have hr72 : (((uI (uI (uI I t 24 (I t 22)) t 25 0) t 23 0)) t 8).toInt = ((I t 8)).toInt := congrArg Int32.toInt (uI_sk (by decide) (uI_sk (by decide) (uI_sk (by decide) rfl)))
          have hr73 : (((uI (uI (uI I t 24 (I t 22)) t 25 0) t 23 0)) t 22).toInt = ((I t 22)).toInt := congrArg Int32.toInt (uI_sk (by decide) (uI_sk (by decide) (uI_sk (by decide) rfl)))
          have hr74 : (((uI (uI (uI I t 24 (I t 22)) t 25 0) t 23 0)) t 23).toInt = ((0 : Int32)).toInt := congrArg Int32.toInt (uI_ss _ _ _ _)
          have q4 : (0 : Int32).toInt = 0 := rfl
          have hr75 : (((uI (uI (uI I t 24 (I t 22)) t 25 0) t 23 0)) t 24).toInt = ((I t 22)).toInt := congrArg Int32.toInt (uI_sk (by decide) (uI_sk (by decide) (uI_ss _ _ _ _)))
          have hr76 : (((uI (uI (uI I t 24 (I t 22)) t 25 0) t 23 0)) t 25).toInt = ((0 : Int32)).toInt := congrArg Int32.toInt (uI_sk (by decide) (uI_ss _ _ _ _))
          exact hK _ (WM_uI (WM_uI (WM_uI hW (by first | exact okMo (by decide) (by decide) (by decide) (by decide) (by decide) | exact okMf (by decide) (by decide) (by decide) (by decide) (by decide) (by decide) (by decide) (by decide) | exact okM30 (by omega) | exact okM42 (by omega) | exact okM33 (by omega) | exact okM10 (by omega) | exact okM8 (by omega) | exact okM22 (by omega) | exact okM24 (by omega) | exact okM14 (by omega) | exact okMa31 (by omega) | exact okMa35 (by omega) | exact okMa36 (by omega) | exact okMa3 (by omega) | exact okMr (by omega) | (unfold okM; refine ⟨?_, ?_, ?_, ?_, ?_, ?_, ?_, ?_, ?_, ?_, ?_, ?_⟩ <;> intro h <;> omega))) (by first | exact okMo (by decide) (by decide) (by decide) (by decide) (by decide) | exact okMf (by decide) (by decide) (by decide) (by decide) (by decide) (by decide) (by decide) (by decide) | exact okM30 (by omega) | exact okM42 (by omega) | exact okM33 (by omega) | exact okM10 (by omega) | exact okM8 (by omega) | exact okM22 (by omega) | exact okM24 (by omega) | exact okM14 (by omega) | exact okMa31 (by omega) | exact okMa35 (by omega) | exact okMa36 (by omega) | exact okMa3 (by omega) | exact okMr (by omega) | (unfold okM; refine ⟨?_, ?_, ?_, ?_, ?_, ?_, ?_, ?_, ?_, ?_, ?_, ?_⟩ <;> intro h <;> omega))) (by first | exact okMo (by decide) (by decide) (by decide) (by decide) (by decide) | exact okMf (by decide) (by decide) (by decide) (by decide) (by decide) (by decide) (by decide) (by decide) | exact okM30 (by omega) | exact okM42 (by omega) | exact okM33 (by omega) | exact okM10 (by omega) | exact okM8 (by omega) | exact okM22 (by omega) | exact okM24 (by omega) | exact okM14 (by omega) | exact okMa31 (by omega) | exact okMa35 (by omega) | exact okMa36 (by omega) | exact okMa3 (by omega) | exact okMr (by omega) | (unfold okM; refine ⟨?_, ?_, ?_, ?_, ?_, ?_, ?_, ?_, ?_, ?_, ?_, ?_⟩ <;> intro h <;> omega))) (Fr_uI (Fr_uI (Fr_uI hF (by omega)) (by omega)) (by omega)) (by first | exact ⟨tk_e0 hsp (by omega) (by omega) (by omega) (by omega), fun q9 => by exfalso; omega⟩ | exact ⟨tk_e1 (a := (I t 22).toInt) (x := I (t + 16) (Int32.toNatClampNeg (I t 22))) hsp (by omega) hz.symm rfl (by omega) (by omega) (by omega) (by omega) (by omega) (by omega), fun q9 => by exfalso; omega⟩ | exact ⟨tk_e2 hsp hq (by omega) (by omega) (fun l9 => by show ¬ tokOf (I0 (t + 16) (Int32.toNatClampNeg (I t 22))) = _; omega) (by omega) (by omega), fun q9 => by first | exact hv | (exfalso; omega)⟩)
      · skip
        have q3 : (32 : Int32).toInt = 32 := rfl
        have hc40 := Int32.toInt_inj.mpr hc40
        have q4 : (1 : Int32).toInt = 1 := rfl
        have q5 := i32_add (I t 22) 1 (by omega) (by omega)
        have hr77 : (((uI I t 22 ((I t 22) + 1))) t 22).toInt = (((I t 22) + 1)).toInt := congrArg Int32.toInt (uI_ss _ _ _ _)
        have hr78 : (((uI I t 22 ((I t 22) + 1))) t 8).toInt = ((I t 8)).toInt := congrArg Int32.toInt (uI_sk (by decide) rfl)
        exact ih _ (WM_uI hW (by first | exact okMo (by decide) (by decide) (by decide) (by decide) (by decide) | exact okMf (by decide) (by decide) (by decide) (by decide) (by decide) (by decide) (by decide) (by decide) | exact okM30 (by omega) | exact okM42 (by omega) | exact okM33 (by omega) | exact okM10 (by omega) | exact okM8 (by omega) | exact okM22 (by omega) | exact okM24 (by omega) | exact okM14 (by omega) | exact okMa31 (by omega) | exact okMa35 (by omega) | exact okMa36 (by omega) | exact okMa3 (by omega) | exact okMr (by omega) | (unfold okM; refine ⟨?_, ?_, ?_, ?_, ?_, ?_, ?_, ?_, ?_, ?_, ?_, ?_⟩ <;> intro h <;> omega))) (Fr_uI hF (by omega)) (by omega) (by first | exact spx_0 (by omega) | exact spx_s hsp (show (_ : Int) = 32 from (by first | exact (congrArg Int32.toInt hz.symm).trans (by omega) | omega)) (by omega) (by omega)) (by omega)
theorem fsfX12_look {G : jdG} {n : Nat} {Z : jdL} {J : jdJ} {K : jdI → jdJ → Prop}  {I : jdI} {t : Nat} (ht : zModel Z t)  (hW : WM 7 t I) (hat : (I t 22).toInt ≤ (I t 8).toInt) (hK : ∀ (I2 : jdI), WM 7 t I2 → Fr (fun a k => a = t ∧ 22 ≤ k ∧ k ≤ 25) I I2 → (TK (I (t + 16)) (I t 8).toInt (I t 22).toInt (I2 t 23).toInt (I2 t 24).toInt (I2 t 22).toInt ∧ ((I2 t 23).toInt = 2 → vq (I (t + 16)) (I2 t 24).toInt (I2 t 22).toInt (I2 t 25).toInt)) → K I2 J) : Cl G mX12_look (n + 1) 0 0 [.ref (gb G + t)] Z I J (qv Z K) := by
  refine eX12_look ht ?_
  have hwI := WM_f hW
  have hF : Fr (fun a k => a = t ∧ 22 ≤ k ∧ k ≤ 25) I I := Fr.rf
  have hsp := spx_0 (T := I (t + 16)) (a := (I t 22).toInt) (b := (I t 22).toInt) (Int.le_refl _)
  have hs8 := congrArg Int32.toInt (hF t 8 (by omega))
  have hz := hF (t + 16) (Int32.toNatClampNeg (I t 22)) (by omega)
  have hzi := congrArg Int32.toInt hz
  have hzt := congrArg tokOf hz
  have ht1 := tok_1 (I (t + 16) (Int32.toNatClampNeg (I t 22)))
  have ht2 := tok_2 (I (t + 16) (Int32.toNatClampNeg (I t 22)))
  have ht3 := tok_3 (I (t + 16) (Int32.toNatClampNeg (I t 22)))
  have htr := tokOf_r (I (t + 16) (Int32.toNatClampNeg (I t 22)))
  have hE1 : (uI (uI I t 24 (I t 22)) t 25 0) t 22 = I t 22 := by rw [uI_ap, if_neg (by omega), uI_ap, if_neg (by omega)]
  have hE2 : (uI (uI I t 24 (I t 22)) t 25 0) (t + 16) = I (t + 16) := by rw [uI_n _ _ _ (by omega), uI_n _ _ _ (by omega)]
  have hE3 : ((uI (uI I t 24 (I t 22)) t 25 0) (t + 16) (Int32.toNatClampNeg ((uI (uI I t 24 (I t 22)) t 25 0) t 22))).toInt = (I (t + 16) (Int32.toNatClampNeg (I t 22))).toInt := by rw [hE2, hE1]
  refine ⟨fun hc1 => ?_, fun hc2 => ?_⟩
  · skip
    have q1 := i32_lo (I t 8)
    have q2 := i32_lo (I t 22)
    have hc1 := Int32.le_iff_toInt_le.mp hc1
    refine ⟨fun hc3 => ?_, fun hc4 => ?_⟩
    · skip
      have hc3 : ¬ ((I t 22)).toInt = ((I t 8)).toInt := fun z => hc3 (Int32.toInt_inj.mp z)
      refine ⟨vp_of (by omega) (by omega), ?_⟩
      refine sfX12_isLetter  trivial  (fun v3  hp5 => ?_)
      refine ⟨fun hc6 => ?_, fun hc7 => ?_⟩
      · skip
        have q3 := i32_lo v3
        have q4 : (0 : Int32).toInt = 0 := rfl
        have hc6 := Int32.toInt_inj.mpr hc6
        have hr8 : (((uI (uI I t 24 (I t 22)) t 25 0)) t 22).toInt = ((I t 22)).toInt := congrArg Int32.toInt (uI_sk (by decide) (uI_sk (by decide) rfl))
        refine ⟨vp_of (by omega) (by omega), ?_⟩
        have hr9 : (((uI (uI I t 24 (I t 22)) t 25 0)) (t + 16) (Int32.toNatClampNeg ((uI (uI I t 24 (I t 22)) t 25 0) t 22))).toInt = ((I (t + 16) (Int32.toNatClampNeg ((uI (uI I t 24 (I t 22)) t 25 0) t 22)))).toInt := congrArg Int32.toInt (uI_ne (by omega) (uI_ne (by omega) rfl))
        refine sfX12_isDigit  trivial  (fun v6  hp10 => ?_)
        refine ⟨fun hc11 => ?_, fun hc12 => ?_⟩
        · skip
          have q5 := i32_lo v6
          have hc11 := Int32.toInt_inj.mpr hc11
          refine ⟨vp_of (by omega) (by omega), ?_⟩
          refine ⟨fun hc13 => ?_, fun hc14 => ?_⟩
          · skip
            have q6 : (59 : Int32).toInt = 59 := rfl
            have hc13 : ¬ (((uI (uI I t 24 (I t 22)) t 25 0) (t + 16) (Int32.toNatClampNeg ((uI (uI I t 24 (I t 22)) t 25 0) t 22)))).toInt = (59 : Int32).toInt := fun z => hc13 (Int32.toInt_inj.mp z)
            have q7 : (1 : Int32).toInt = 1 := rfl
            have q8 := i32_add ((uI (uI I t 24 (I t 22)) t 25 0) t 22) 1 (by omega) (by omega)
            have hr15 : (((uI (uI (uI (uI I t 24 (I t 22)) t 25 0) t 23 4) t 22 (((uI (uI I t 24 (I t 22)) t 25 0) t 22) + 1))) t 8).toInt = ((I t 8)).toInt := congrArg Int32.toInt (uI_sk (by decide) (uI_sk (by decide) (uI_sk (by decide) (uI_sk (by decide) rfl))))
            have hr16 : (((uI (uI (uI (uI I t 24 (I t 22)) t 25 0) t 23 4) t 22 (((uI (uI I t 24 (I t 22)) t 25 0) t 22) + 1))) t 22).toInt = ((((uI (uI I t 24 (I t 22)) t 25 0) t 22) + 1)).toInt := congrArg Int32.toInt (uI_ss _ _ _ _)
            have hr17 : (((uI (uI (uI (uI I t 24 (I t 22)) t 25 0) t 23 4) t 22 (((uI (uI I t 24 (I t 22)) t 25 0) t 22) + 1))) t 23).toInt = ((4 : Int32)).toInt := congrArg Int32.toInt (uI_sk (by decide) (uI_ss _ _ _ _))
            have q9 : (4 : Int32).toInt = 4 := rfl
            have hr18 : (((uI (uI (uI (uI I t 24 (I t 22)) t 25 0) t 23 4) t 22 (((uI (uI I t 24 (I t 22)) t 25 0) t 22) + 1))) t 24).toInt = ((I t 22)).toInt := congrArg Int32.toInt (uI_sk (by decide) (uI_sk (by decide) (uI_sk (by decide) (uI_ss _ _ _ _))))
            have hr19 : (((uI (uI (uI (uI I t 24 (I t 22)) t 25 0) t 23 4) t 22 (((uI (uI I t 24 (I t 22)) t 25 0) t 22) + 1))) t 25).toInt = ((0 : Int32)).toInt := congrArg Int32.toInt (uI_sk (by decide) (uI_sk (by decide) (uI_ss _ _ _ _)))
            exact hK _ (WM_uI (WM_uI (WM_uI (WM_uI hW (by first | exact okMo (by decide) (by decide) (by decide) (by decide) (by decide) | exact okMf (by decide) (by decide) (by decide) (by decide) (by decide) (by decide) (by decide) (by decide) | exact okM30 (by omega) | exact okM42 (by omega) | exact okM33 (by omega) | exact okM10 (by omega) | exact okM8 (by omega) | exact okM22 (by omega) | exact okM24 (by omega) | exact okM14 (by omega) | exact okMa31 (by omega) | exact okMa35 (by omega) | exact okMa36 (by omega) | exact okMa3 (by omega) | exact okMr (by omega) | (unfold okM; refine ⟨?_, ?_, ?_, ?_, ?_, ?_, ?_, ?_, ?_, ?_, ?_, ?_⟩ <;> intro h <;> omega))) (by first | exact okMo (by decide) (by decide) (by decide) (by decide) (by decide) | exact okMf (by decide) (by decide) (by decide) (by decide) (by decide) (by decide) (by decide) (by decide) | exact okM30 (by omega) | exact okM42 (by omega) | exact okM33 (by omega) | exact okM10 (by omega) | exact okM8 (by omega) | exact okM22 (by omega) | exact okM24 (by omega) | exact okM14 (by omega) | exact okMa31 (by omega) | exact okMa35 (by omega) | exact okMa36 (by omega) | exact okMa3 (by omega) | exact okMr (by omega) | (unfold okM; refine ⟨?_, ?_, ?_, ?_, ?_, ?_, ?_, ?_, ?_, ?_, ?_, ?_⟩ <;> intro h <;> omega))) (by first | exact okMo (by decide) (by decide) (by decide) (by decide) (by decide) | exact okMf (by decide) (by decide) (by decide) (by decide) (by decide) (by decide) (by decide) (by decide) | exact okM30 (by omega) | exact okM42 (by omega) | exact okM33 (by omega) | exact okM10 (by omega) | exact okM8 (by omega) | exact okM22 (by omega) | exact okM24 (by omega) | exact okM14 (by omega) | exact okMa31 (by omega) | exact okMa35 (by omega) | exact okMa36 (by omega) | exact okMa3 (by omega) | exact okMr (by omega) | (unfold okM; refine ⟨?_, ?_, ?_, ?_, ?_, ?_, ?_, ?_, ?_, ?_, ?_, ?_⟩ <;> intro h <;> omega))) (by first | exact okMo (by decide) (by decide) (by decide) (by decide) (by decide) | exact okMf (by decide) (by decide) (by decide) (by decide) (by decide) (by decide) (by decide) (by decide) | exact okM30 (by omega) | exact okM42 (by omega) | exact okM33 (by omega) | exact okM10 (by omega) | exact okM8 (by omega) | exact okM22 (by omega) | exact okM24 (by omega) | exact okM14 (by omega) | exact okMa31 (by omega) | exact okMa35 (by omega) | exact okMa36 (by omega) | exact okMa3 (by omega) | exact okMr (by omega) | (unfold okM; refine ⟨?_, ?_, ?_, ?_, ?_, ?_, ?_, ?_, ?_, ?_, ?_, ?_⟩ <;> intro h <;> omega))) (Fr_uI (Fr_uI (Fr_uI (Fr_uI Fr.rf (by omega)) (by omega)) (by omega)) (by omega)) (by first | exact ⟨tk_e0 hsp (by omega) (by omega) (by omega) (by omega), fun q9 => by exfalso; omega⟩ | exact ⟨tk_e1 (a := (I t 22).toInt) (x := I (t + 16) (Int32.toNatClampNeg (I t 22))) hsp (by omega) hz.symm rfl (by omega) (by omega) (by omega) (by omega) (by omega) (by omega), fun q9 => by exfalso; omega⟩ | exact ⟨tk_e2 hsp hq (by omega) (by omega) (fun l9 => by show ¬ tokOf (I0 (t + 16) (Int32.toNatClampNeg (I t 22))) = _; omega) (by omega) (by omega), fun q9 => by first | exact hv | (exfalso; omega)⟩)
          · skip
            have q6 : (59 : Int32).toInt = 59 := rfl
            have hc14 := Int32.toInt_inj.mpr hc14
            have q7 : (1 : Int32).toInt = 1 := rfl
            have q8 := i32_add ((uI (uI I t 24 (I t 22)) t 25 0) t 22) 1 (by omega) (by omega)
            have hr20 : (((uI (uI (uI (uI I t 24 (I t 22)) t 25 0) t 23 3) t 22 (((uI (uI I t 24 (I t 22)) t 25 0) t 22) + 1))) t 8).toInt = ((I t 8)).toInt := congrArg Int32.toInt (uI_sk (by decide) (uI_sk (by decide) (uI_sk (by decide) (uI_sk (by decide) rfl))))
            have hr21 : (((uI (uI (uI (uI I t 24 (I t 22)) t 25 0) t 23 3) t 22 (((uI (uI I t 24 (I t 22)) t 25 0) t 22) + 1))) t 22).toInt = ((((uI (uI I t 24 (I t 22)) t 25 0) t 22) + 1)).toInt := congrArg Int32.toInt (uI_ss _ _ _ _)
            have hr22 : (((uI (uI (uI (uI I t 24 (I t 22)) t 25 0) t 23 3) t 22 (((uI (uI I t 24 (I t 22)) t 25 0) t 22) + 1))) t 23).toInt = ((3 : Int32)).toInt := congrArg Int32.toInt (uI_sk (by decide) (uI_ss _ _ _ _))
            have q9 : (3 : Int32).toInt = 3 := rfl
            have hr23 : (((uI (uI (uI (uI I t 24 (I t 22)) t 25 0) t 23 3) t 22 (((uI (uI I t 24 (I t 22)) t 25 0) t 22) + 1))) t 24).toInt = ((I t 22)).toInt := congrArg Int32.toInt (uI_sk (by decide) (uI_sk (by decide) (uI_sk (by decide) (uI_ss _ _ _ _))))
            have hr24 : (((uI (uI (uI (uI I t 24 (I t 22)) t 25 0) t 23 3) t 22 (((uI (uI I t 24 (I t 22)) t 25 0) t 22) + 1))) t 25).toInt = ((0 : Int32)).toInt := congrArg Int32.toInt (uI_sk (by decide) (uI_sk (by decide) (uI_ss _ _ _ _)))
            exact hK _ (WM_uI (WM_uI (WM_uI (WM_uI hW (by first | exact okMo (by decide) (by decide) (by decide) (by decide) (by decide) | exact okMf (by decide) (by decide) (by decide) (by decide) (by decide) (by decide) (by decide) (by decide) | exact okM30 (by omega) | exact okM42 (by omega) | exact okM33 (by omega) | exact okM10 (by omega) | exact okM8 (by omega) | exact okM22 (by omega) | exact okM24 (by omega) | exact okM14 (by omega) | exact okMa31 (by omega) | exact okMa35 (by omega) | exact okMa36 (by omega) | exact okMa3 (by omega) | exact okMr (by omega) | (unfold okM; refine ⟨?_, ?_, ?_, ?_, ?_, ?_, ?_, ?_, ?_, ?_, ?_, ?_⟩ <;> intro h <;> omega))) (by first | exact okMo (by decide) (by decide) (by decide) (by decide) (by decide) | exact okMf (by decide) (by decide) (by decide) (by decide) (by decide) (by decide) (by decide) (by decide) | exact okM30 (by omega) | exact okM42 (by omega) | exact okM33 (by omega) | exact okM10 (by omega) | exact okM8 (by omega) | exact okM22 (by omega) | exact okM24 (by omega) | exact okM14 (by omega) | exact okMa31 (by omega) | exact okMa35 (by omega) | exact okMa36 (by omega) | exact okMa3 (by omega) | exact okMr (by omega) | (unfold okM; refine ⟨?_, ?_, ?_, ?_, ?_, ?_, ?_, ?_, ?_, ?_, ?_, ?_⟩ <;> intro h <;> omega))) (by first | exact okMo (by decide) (by decide) (by decide) (by decide) (by decide) | exact okMf (by decide) (by decide) (by decide) (by decide) (by decide) (by decide) (by decide) (by decide) | exact okM30 (by omega) | exact okM42 (by omega) | exact okM33 (by omega) | exact okM10 (by omega) | exact okM8 (by omega) | exact okM22 (by omega) | exact okM24 (by omega) | exact okM14 (by omega) | exact okMa31 (by omega) | exact okMa35 (by omega) | exact okMa36 (by omega) | exact okMa3 (by omega) | exact okMr (by omega) | (unfold okM; refine ⟨?_, ?_, ?_, ?_, ?_, ?_, ?_, ?_, ?_, ?_, ?_, ?_⟩ <;> intro h <;> omega))) (by first | exact okMo (by decide) (by decide) (by decide) (by decide) (by decide) | exact okMf (by decide) (by decide) (by decide) (by decide) (by decide) (by decide) (by decide) (by decide) | exact okM30 (by omega) | exact okM42 (by omega) | exact okM33 (by omega) | exact okM10 (by omega) | exact okM8 (by omega) | exact okM22 (by omega) | exact okM24 (by omega) | exact okM14 (by omega) | exact okMa31 (by omega) | exact okMa35 (by omega) | exact okMa36 (by omega) | exact okMa3 (by omega) | exact okMr (by omega) | (unfold okM; refine ⟨?_, ?_, ?_, ?_, ?_, ?_, ?_, ?_, ?_, ?_, ?_, ?_⟩ <;> intro h <;> omega))) (Fr_uI (Fr_uI (Fr_uI (Fr_uI Fr.rf (by omega)) (by omega)) (by omega)) (by omega)) (by first | exact ⟨tk_e0 hsp (by omega) (by omega) (by omega) (by omega), fun q9 => by exfalso; omega⟩ | exact ⟨tk_e1 (a := (I t 22).toInt) (x := I (t + 16) (Int32.toNatClampNeg (I t 22))) hsp (by omega) hz.symm rfl (by omega) (by omega) (by omega) (by omega) (by omega) (by omega), fun q9 => by exfalso; omega⟩ | exact ⟨tk_e2 hsp hq (by omega) (by omega) (fun l9 => by show ¬ tokOf (I0 (t + 16) (Int32.toNatClampNeg (I t 22))) = _; omega) (by omega) (by omega), fun q9 => by first | exact hv | (exfalso; omega)⟩)
        · skip
          have q5 := i32_lo v6
          have hc12 : ¬ (v6).toInt = (0 : Int32).toInt := fun z => hc12 (Int32.toInt_inj.mp z)
          have hr25 : (((uI (uI (uI I t 24 (I t 22)) t 25 0) t 23 2)) t 22).toInt = ((I t 22)).toInt := congrArg Int32.toInt (uI_sk (by decide) (uI_sk (by decide) (uI_sk (by decide) rfl)))
          have hr26 : (((uI (uI (uI I t 24 (I t 22)) t 25 0) t 23 2)) t 24).toInt = ((I t 22)).toInt := congrArg Int32.toInt (uI_sk (by decide) (uI_sk (by decide) (uI_ss _ _ _ _)))
          have hr27 : (((uI (uI (uI I t 24 (I t 22)) t 25 0) t 23 2)) t 8).toInt = ((I t 8)).toInt := congrArg Int32.toInt (uI_sk (by decide) (uI_sk (by decide) (uI_sk (by decide) rfl)))
          have hr28 : (((uI (uI (uI I t 24 (I t 22)) t 25 0) t 23 2)) t 23).toInt = ((2 : Int32)).toInt := congrArg Int32.toInt (uI_ss _ _ _ _)
          have q6 : (2 : Int32).toInt = 2 := rfl
          have hr29 : (((uI (uI (uI I t 24 (I t 22)) t 25 0) t 23 2)) t 25).toInt = ((0 : Int32)).toInt := congrArg Int32.toInt (uI_sk (by decide) (uI_ss _ _ _ _))
          exact gX12_look_149 ht   hK  ((250 - ((uI (uI (uI I t 24 (I t 22)) t 25 0) t 23 2) t 22).toInt).toNat + 1) _ (WM_uI (WM_uI (WM_uI hW (by first | exact okMo (by decide) (by decide) (by decide) (by decide) (by decide) | exact okMf (by decide) (by decide) (by decide) (by decide) (by decide) (by decide) (by decide) (by decide) | exact okM30 (by omega) | exact okM42 (by omega) | exact okM33 (by omega) | exact okM10 (by omega) | exact okM8 (by omega) | exact okM22 (by omega) | exact okM24 (by omega) | exact okM14 (by omega) | exact okMa31 (by omega) | exact okMa35 (by omega) | exact okMa36 (by omega) | exact okMa3 (by omega) | exact okMr (by omega) | (unfold okM; refine ⟨?_, ?_, ?_, ?_, ?_, ?_, ?_, ?_, ?_, ?_, ?_, ?_⟩ <;> intro h <;> omega))) (by first | exact okMo (by decide) (by decide) (by decide) (by decide) (by decide) | exact okMf (by decide) (by decide) (by decide) (by decide) (by decide) (by decide) (by decide) (by decide) | exact okM30 (by omega) | exact okM42 (by omega) | exact okM33 (by omega) | exact okM10 (by omega) | exact okM8 (by omega) | exact okM22 (by omega) | exact okM24 (by omega) | exact okM14 (by omega) | exact okMa31 (by omega) | exact okMa35 (by omega) | exact okMa36 (by omega) | exact okMa3 (by omega) | exact okMr (by omega) | (unfold okM; refine ⟨?_, ?_, ?_, ?_, ?_, ?_, ?_, ?_, ?_, ?_, ?_, ?_⟩ <;> intro h <;> omega))) (by first | exact okMo (by decide) (by decide) (by decide) (by decide) (by decide) | exact okMf (by decide) (by decide) (by decide) (by decide) (by decide) (by decide) (by decide) (by decide) | exact okM30 (by omega) | exact okM42 (by omega) | exact okM33 (by omega) | exact okM10 (by omega) | exact okM8 (by omega) | exact okM22 (by omega) | exact okM24 (by omega) | exact okM14 (by omega) | exact okMa31 (by omega) | exact okMa35 (by omega) | exact okMa36 (by omega) | exact okMa3 (by omega) | exact okMr (by omega) | (unfold okM; refine ⟨?_, ?_, ?_, ?_, ?_, ?_, ?_, ?_, ?_, ?_, ?_, ?_⟩ <;> intro h <;> omega))) (Fr_uI (Fr_uI (Fr_uI Fr.rf (by omega)) (by omega)) (by omega)) (by omega) (by omega) (spx_c hsp (by omega)) (by first | exact tkr_0 (a := (I t 22).toInt) (x := I (t + 16) (Int32.toNatClampNeg (I t 22))) hz.symm rfl (by omega) (by omega) (by omega) (by omega) (by omega) (by omega) | exact tkr_s (x := I (t + 16) (Int32.toNatClampNeg (I t 22))) hq hz.symm (by omega) (by omega) (by omega) (by omega) (by omega) (by omega)) (by first | exact Or.inl ⟨by omega, by omega⟩ | exact vq_s (x := I (t + 16) (Int32.toNatClampNeg (I t 22))) hv hz.symm (by omega) (by omega) (by omega) (by omega) (by omega)) (by omega)
      · skip
        have q3 := i32_lo v3
        have q4 : (0 : Int32).toInt = 0 := rfl
        have hc7 : ¬ (v3).toInt = (0 : Int32).toInt := fun z => hc7 (Int32.toInt_inj.mp z)
        have hr30 : (((uI (uI (uI I t 24 (I t 22)) t 25 0) t 23 1)) t 22).toInt = ((I t 22)).toInt := congrArg Int32.toInt (uI_sk (by decide) (uI_sk (by decide) (uI_sk (by decide) rfl)))
        have hr31 : (((uI (uI (uI I t 24 (I t 22)) t 25 0) t 23 1)) t 24).toInt = ((I t 22)).toInt := congrArg Int32.toInt (uI_sk (by decide) (uI_sk (by decide) (uI_ss _ _ _ _)))
        have hr32 : (((uI (uI (uI I t 24 (I t 22)) t 25 0) t 23 1)) t 8).toInt = ((I t 8)).toInt := congrArg Int32.toInt (uI_sk (by decide) (uI_sk (by decide) (uI_sk (by decide) rfl)))
        have hr33 : (((uI (uI (uI I t 24 (I t 22)) t 25 0) t 23 1)) t 23).toInt = ((1 : Int32)).toInt := congrArg Int32.toInt (uI_ss _ _ _ _)
        have q5 : (1 : Int32).toInt = 1 := rfl
        exact gX12_look_90 ht   hK  ((250 - ((uI (uI (uI I t 24 (I t 22)) t 25 0) t 23 1) t 22).toInt).toNat + 1) _ (WM_uI (WM_uI (WM_uI hW (by first | exact okMo (by decide) (by decide) (by decide) (by decide) (by decide) | exact okMf (by decide) (by decide) (by decide) (by decide) (by decide) (by decide) (by decide) (by decide) | exact okM30 (by omega) | exact okM42 (by omega) | exact okM33 (by omega) | exact okM10 (by omega) | exact okM8 (by omega) | exact okM22 (by omega) | exact okM24 (by omega) | exact okM14 (by omega) | exact okMa31 (by omega) | exact okMa35 (by omega) | exact okMa36 (by omega) | exact okMa3 (by omega) | exact okMr (by omega) | (unfold okM; refine ⟨?_, ?_, ?_, ?_, ?_, ?_, ?_, ?_, ?_, ?_, ?_, ?_⟩ <;> intro h <;> omega))) (by first | exact okMo (by decide) (by decide) (by decide) (by decide) (by decide) | exact okMf (by decide) (by decide) (by decide) (by decide) (by decide) (by decide) (by decide) (by decide) | exact okM30 (by omega) | exact okM42 (by omega) | exact okM33 (by omega) | exact okM10 (by omega) | exact okM8 (by omega) | exact okM22 (by omega) | exact okM24 (by omega) | exact okM14 (by omega) | exact okMa31 (by omega) | exact okMa35 (by omega) | exact okMa36 (by omega) | exact okMa3 (by omega) | exact okMr (by omega) | (unfold okM; refine ⟨?_, ?_, ?_, ?_, ?_, ?_, ?_, ?_, ?_, ?_, ?_, ?_⟩ <;> intro h <;> omega))) (by first | exact okMo (by decide) (by decide) (by decide) (by decide) (by decide) | exact okMf (by decide) (by decide) (by decide) (by decide) (by decide) (by decide) (by decide) (by decide) | exact okM30 (by omega) | exact okM42 (by omega) | exact okM33 (by omega) | exact okM10 (by omega) | exact okM8 (by omega) | exact okM22 (by omega) | exact okM24 (by omega) | exact okM14 (by omega) | exact okMa31 (by omega) | exact okMa35 (by omega) | exact okMa36 (by omega) | exact okMa3 (by omega) | exact okMr (by omega) | (unfold okM; refine ⟨?_, ?_, ?_, ?_, ?_, ?_, ?_, ?_, ?_, ?_, ?_, ?_⟩ <;> intro h <;> omega))) (Fr_uI (Fr_uI (Fr_uI Fr.rf (by omega)) (by omega)) (by omega)) (by omega) (by omega) (spx_c hsp (by omega)) (by first | exact tkr_0 (a := (I t 22).toInt) (x := I (t + 16) (Int32.toNatClampNeg (I t 22))) hz.symm rfl (by omega) (by omega) (by omega) (by omega) (by omega) (by omega) | exact tkr_s (x := I (t + 16) (Int32.toNatClampNeg (I t 22))) hq hz.symm (by omega) (by omega) (by omega) (by omega) (by omega) (by omega)) (by omega)
    · skip
      have hc4 := Int32.toInt_inj.mpr hc4
      have hr34 : (((uI (uI (uI I t 24 (I t 22)) t 25 0) t 23 0)) t 8).toInt = ((I t 8)).toInt := congrArg Int32.toInt (uI_sk (by decide) (uI_sk (by decide) (uI_sk (by decide) rfl)))
      have hr35 : (((uI (uI (uI I t 24 (I t 22)) t 25 0) t 23 0)) t 22).toInt = ((I t 22)).toInt := congrArg Int32.toInt (uI_sk (by decide) (uI_sk (by decide) (uI_sk (by decide) rfl)))
      have hr36 : (((uI (uI (uI I t 24 (I t 22)) t 25 0) t 23 0)) t 23).toInt = ((0 : Int32)).toInt := congrArg Int32.toInt (uI_ss _ _ _ _)
      have q3 : (0 : Int32).toInt = 0 := rfl
      have hr37 : (((uI (uI (uI I t 24 (I t 22)) t 25 0) t 23 0)) t 24).toInt = ((I t 22)).toInt := congrArg Int32.toInt (uI_sk (by decide) (uI_sk (by decide) (uI_ss _ _ _ _)))
      have hr38 : (((uI (uI (uI I t 24 (I t 22)) t 25 0) t 23 0)) t 25).toInt = ((0 : Int32)).toInt := congrArg Int32.toInt (uI_sk (by decide) (uI_ss _ _ _ _))
      exact hK _ (WM_uI (WM_uI (WM_uI hW (by first | exact okMo (by decide) (by decide) (by decide) (by decide) (by decide) | exact okMf (by decide) (by decide) (by decide) (by decide) (by decide) (by decide) (by decide) (by decide) | exact okM30 (by omega) | exact okM42 (by omega) | exact okM33 (by omega) | exact okM10 (by omega) | exact okM8 (by omega) | exact okM22 (by omega) | exact okM24 (by omega) | exact okM14 (by omega) | exact okMa31 (by omega) | exact okMa35 (by omega) | exact okMa36 (by omega) | exact okMa3 (by omega) | exact okMr (by omega) | (unfold okM; refine ⟨?_, ?_, ?_, ?_, ?_, ?_, ?_, ?_, ?_, ?_, ?_, ?_⟩ <;> intro h <;> omega))) (by first | exact okMo (by decide) (by decide) (by decide) (by decide) (by decide) | exact okMf (by decide) (by decide) (by decide) (by decide) (by decide) (by decide) (by decide) (by decide) | exact okM30 (by omega) | exact okM42 (by omega) | exact okM33 (by omega) | exact okM10 (by omega) | exact okM8 (by omega) | exact okM22 (by omega) | exact okM24 (by omega) | exact okM14 (by omega) | exact okMa31 (by omega) | exact okMa35 (by omega) | exact okMa36 (by omega) | exact okMa3 (by omega) | exact okMr (by omega) | (unfold okM; refine ⟨?_, ?_, ?_, ?_, ?_, ?_, ?_, ?_, ?_, ?_, ?_, ?_⟩ <;> intro h <;> omega))) (by first | exact okMo (by decide) (by decide) (by decide) (by decide) (by decide) | exact okMf (by decide) (by decide) (by decide) (by decide) (by decide) (by decide) (by decide) (by decide) | exact okM30 (by omega) | exact okM42 (by omega) | exact okM33 (by omega) | exact okM10 (by omega) | exact okM8 (by omega) | exact okM22 (by omega) | exact okM24 (by omega) | exact okM14 (by omega) | exact okMa31 (by omega) | exact okMa35 (by omega) | exact okMa36 (by omega) | exact okMa3 (by omega) | exact okMr (by omega) | (unfold okM; refine ⟨?_, ?_, ?_, ?_, ?_, ?_, ?_, ?_, ?_, ?_, ?_, ?_⟩ <;> intro h <;> omega))) (Fr_uI (Fr_uI (Fr_uI Fr.rf (by omega)) (by omega)) (by omega)) (by first | exact ⟨tk_e0 hsp (by omega) (by omega) (by omega) (by omega), fun q9 => by exfalso; omega⟩ | exact ⟨tk_e1 (a := (I t 22).toInt) (x := I (t + 16) (Int32.toNatClampNeg (I t 22))) hsp (by omega) hz.symm rfl (by omega) (by omega) (by omega) (by omega) (by omega) (by omega), fun q9 => by exfalso; omega⟩ | exact ⟨tk_e2 hsp hq (by omega) (by omega) (fun l9 => by show ¬ tokOf (I0 (t + 16) (Int32.toNatClampNeg (I t 22))) = _; omega) (by omega) (by omega), fun q9 => by first | exact hv | (exfalso; omega)⟩)
  · skip
    have q1 := i32_lo (I t 8)
    have q2 := i32_lo (I t 22)
    have hc2 := mt Int32.le_iff_toInt_le.mpr hc2
    refine ⟨vp_of (by omega) (by omega), ?_⟩
    refine ⟨fun hc39 => ?_, fun hc40 => ?_⟩
    · skip
      have q3 : (32 : Int32).toInt = 32 := rfl
      have hc39 : ¬ ((I (t + 16) (Int32.toNatClampNeg (I t 22)))).toInt = (32 : Int32).toInt := fun z => hc39 (Int32.toInt_inj.mp z)
      refine ⟨fun hc41 => ?_, fun hc42 => ?_⟩
      · skip
        have hc41 : ¬ ((I t 22)).toInt = ((I t 8)).toInt := fun z => hc41 (Int32.toInt_inj.mp z)
        refine ⟨vp_of (by omega) (by omega), ?_⟩
        refine sfX12_isLetter  trivial  (fun v11  hp43 => ?_)
        refine ⟨fun hc44 => ?_, fun hc45 => ?_⟩
        · skip
          have q4 := i32_lo v11
          have q5 : (0 : Int32).toInt = 0 := rfl
          have hc44 := Int32.toInt_inj.mpr hc44
          have hr46 : (((uI (uI I t 24 (I t 22)) t 25 0)) t 22).toInt = ((I t 22)).toInt := congrArg Int32.toInt (uI_sk (by decide) (uI_sk (by decide) rfl))
          refine ⟨vp_of (by omega) (by omega), ?_⟩
          have hr47 : (((uI (uI I t 24 (I t 22)) t 25 0)) (t + 16) (Int32.toNatClampNeg ((uI (uI I t 24 (I t 22)) t 25 0) t 22))).toInt = ((I (t + 16) (Int32.toNatClampNeg ((uI (uI I t 24 (I t 22)) t 25 0) t 22)))).toInt := congrArg Int32.toInt (uI_ne (by omega) (uI_ne (by omega) rfl))
          refine sfX12_isDigit  trivial  (fun v14  hp48 => ?_)
          refine ⟨fun hc49 => ?_, fun hc50 => ?_⟩
          · skip
            have q6 := i32_lo v14
            have hc49 := Int32.toInt_inj.mpr hc49
            refine ⟨vp_of (by omega) (by omega), ?_⟩
            refine ⟨fun hc51 => ?_, fun hc52 => ?_⟩
            · skip
              have q7 : (59 : Int32).toInt = 59 := rfl
              have hc51 : ¬ (((uI (uI I t 24 (I t 22)) t 25 0) (t + 16) (Int32.toNatClampNeg ((uI (uI I t 24 (I t 22)) t 25 0) t 22)))).toInt = (59 : Int32).toInt := fun z => hc51 (Int32.toInt_inj.mp z)
              have q8 : (1 : Int32).toInt = 1 := rfl
              have q9 := i32_add ((uI (uI I t 24 (I t 22)) t 25 0) t 22) 1 (by omega) (by omega)
              have hr53 : (((uI (uI (uI (uI I t 24 (I t 22)) t 25 0) t 23 4) t 22 (((uI (uI I t 24 (I t 22)) t 25 0) t 22) + 1))) t 8).toInt = ((I t 8)).toInt := congrArg Int32.toInt (uI_sk (by decide) (uI_sk (by decide) (uI_sk (by decide) (uI_sk (by decide) rfl))))
              have hr54 : (((uI (uI (uI (uI I t 24 (I t 22)) t 25 0) t 23 4) t 22 (((uI (uI I t 24 (I t 22)) t 25 0) t 22) + 1))) t 22).toInt = ((((uI (uI I t 24 (I t 22)) t 25 0) t 22) + 1)).toInt := congrArg Int32.toInt (uI_ss _ _ _ _)
              have hr55 : (((uI (uI (uI (uI I t 24 (I t 22)) t 25 0) t 23 4) t 22 (((uI (uI I t 24 (I t 22)) t 25 0) t 22) + 1))) t 23).toInt = ((4 : Int32)).toInt := congrArg Int32.toInt (uI_sk (by decide) (uI_ss _ _ _ _))
              have q10 : (4 : Int32).toInt = 4 := rfl
              have hr56 : (((uI (uI (uI (uI I t 24 (I t 22)) t 25 0) t 23 4) t 22 (((uI (uI I t 24 (I t 22)) t 25 0) t 22) + 1))) t 24).toInt = ((I t 22)).toInt := congrArg Int32.toInt (uI_sk (by decide) (uI_sk (by decide) (uI_sk (by decide) (uI_ss _ _ _ _))))
              have hr57 : (((uI (uI (uI (uI I t 24 (I t 22)) t 25 0) t 23 4) t 22 (((uI (uI I t 24 (I t 22)) t 25 0) t 22) + 1))) t 25).toInt = ((0 : Int32)).toInt := congrArg Int32.toInt (uI_sk (by decide) (uI_sk (by decide) (uI_ss _ _ _ _)))
              exact hK _ (WM_uI (WM_uI (WM_uI (WM_uI hW (by first | exact okMo (by decide) (by decide) (by decide) (by decide) (by decide) | exact okMf (by decide) (by decide) (by decide) (by decide) (by decide) (by decide) (by decide) (by decide) | exact okM30 (by omega) | exact okM42 (by omega) | exact okM33 (by omega) | exact okM10 (by omega) | exact okM8 (by omega) | exact okM22 (by omega) | exact okM24 (by omega) | exact okM14 (by omega) | exact okMa31 (by omega) | exact okMa35 (by omega) | exact okMa36 (by omega) | exact okMa3 (by omega) | exact okMr (by omega) | (unfold okM; refine ⟨?_, ?_, ?_, ?_, ?_, ?_, ?_, ?_, ?_, ?_, ?_, ?_⟩ <;> intro h <;> omega))) (by first | exact okMo (by decide) (by decide) (by decide) (by decide) (by decide) | exact okMf (by decide) (by decide) (by decide) (by decide) (by decide) (by decide) (by decide) (by decide) | exact okM30 (by omega) | exact okM42 (by omega) | exact okM33 (by omega) | exact okM10 (by omega) | exact okM8 (by omega) | exact okM22 (by omega) | exact okM24 (by omega) | exact okM14 (by omega) | exact okMa31 (by omega) | exact okMa35 (by omega) | exact okMa36 (by omega) | exact okMa3 (by omega) | exact okMr (by omega) | (unfold okM; refine ⟨?_, ?_, ?_, ?_, ?_, ?_, ?_, ?_, ?_, ?_, ?_, ?_⟩ <;> intro h <;> omega))) (by first | exact okMo (by decide) (by decide) (by decide) (by decide) (by decide) | exact okMf (by decide) (by decide) (by decide) (by decide) (by decide) (by decide) (by decide) (by decide) | exact okM30 (by omega) | exact okM42 (by omega) | exact okM33 (by omega) | exact okM10 (by omega) | exact okM8 (by omega) | exact okM22 (by omega) | exact okM24 (by omega) | exact okM14 (by omega) | exact okMa31 (by omega) | exact okMa35 (by omega) | exact okMa36 (by omega) | exact okMa3 (by omega) | exact okMr (by omega) | (unfold okM; refine ⟨?_, ?_, ?_, ?_, ?_, ?_, ?_, ?_, ?_, ?_, ?_, ?_⟩ <;> intro h <;> omega))) (by first | exact okMo (by decide) (by decide) (by decide) (by decide) (by decide) | exact okMf (by decide) (by decide) (by decide) (by decide) (by decide) (by decide) (by decide) (by decide) | exact okM30 (by omega) | exact okM42 (by omega) | exact okM33 (by omega) | exact okM10 (by omega) | exact okM8 (by omega) | exact okM22 (by omega) | exact okM24 (by omega) | exact okM14 (by omega) | exact okMa31 (by omega) | exact okMa35 (by omega) | exact okMa36 (by omega) | exact okMa3 (by omega) | exact okMr (by omega) | (unfold okM; refine ⟨?_, ?_, ?_, ?_, ?_, ?_, ?_, ?_, ?_, ?_, ?_, ?_⟩ <;> intro h <;> omega))) (Fr_uI (Fr_uI (Fr_uI (Fr_uI Fr.rf (by omega)) (by omega)) (by omega)) (by omega)) (by first | exact ⟨tk_e0 hsp (by omega) (by omega) (by omega) (by omega), fun q9 => by exfalso; omega⟩ | exact ⟨tk_e1 (a := (I t 22).toInt) (x := I (t + 16) (Int32.toNatClampNeg (I t 22))) hsp (by omega) hz.symm rfl (by omega) (by omega) (by omega) (by omega) (by omega) (by omega), fun q9 => by exfalso; omega⟩ | exact ⟨tk_e2 hsp hq (by omega) (by omega) (fun l9 => by show ¬ tokOf (I0 (t + 16) (Int32.toNatClampNeg (I t 22))) = _; omega) (by omega) (by omega), fun q9 => by first | exact hv | (exfalso; omega)⟩)
            · skip
              have q7 : (59 : Int32).toInt = 59 := rfl
              have hc52 := Int32.toInt_inj.mpr hc52
              have q8 : (1 : Int32).toInt = 1 := rfl
              have q9 := i32_add ((uI (uI I t 24 (I t 22)) t 25 0) t 22) 1 (by omega) (by omega)
              have hr58 : (((uI (uI (uI (uI I t 24 (I t 22)) t 25 0) t 23 3) t 22 (((uI (uI I t 24 (I t 22)) t 25 0) t 22) + 1))) t 8).toInt = ((I t 8)).toInt := congrArg Int32.toInt (uI_sk (by decide) (uI_sk (by decide) (uI_sk (by decide) (uI_sk (by decide) rfl))))
              have hr59 : (((uI (uI (uI (uI I t 24 (I t 22)) t 25 0) t 23 3) t 22 (((uI (uI I t 24 (I t 22)) t 25 0) t 22) + 1))) t 22).toInt = ((((uI (uI I t 24 (I t 22)) t 25 0) t 22) + 1)).toInt := congrArg Int32.toInt (uI_ss _ _ _ _)
              have hr60 : (((uI (uI (uI (uI I t 24 (I t 22)) t 25 0) t 23 3) t 22 (((uI (uI I t 24 (I t 22)) t 25 0) t 22) + 1))) t 23).toInt = ((3 : Int32)).toInt := congrArg Int32.toInt (uI_sk (by decide) (uI_ss _ _ _ _))
              have q10 : (3 : Int32).toInt = 3 := rfl
              have hr61 : (((uI (uI (uI (uI I t 24 (I t 22)) t 25 0) t 23 3) t 22 (((uI (uI I t 24 (I t 22)) t 25 0) t 22) + 1))) t 24).toInt = ((I t 22)).toInt := congrArg Int32.toInt (uI_sk (by decide) (uI_sk (by decide) (uI_sk (by decide) (uI_ss _ _ _ _))))
              have hr62 : (((uI (uI (uI (uI I t 24 (I t 22)) t 25 0) t 23 3) t 22 (((uI (uI I t 24 (I t 22)) t 25 0) t 22) + 1))) t 25).toInt = ((0 : Int32)).toInt := congrArg Int32.toInt (uI_sk (by decide) (uI_sk (by decide) (uI_ss _ _ _ _)))
              exact hK _ (WM_uI (WM_uI (WM_uI (WM_uI hW (by first | exact okMo (by decide) (by decide) (by decide) (by decide) (by decide) | exact okMf (by decide) (by decide) (by decide) (by decide) (by decide) (by decide) (by decide) (by decide) | exact okM30 (by omega) | exact okM42 (by omega) | exact okM33 (by omega) | exact okM10 (by omega) | exact okM8 (by omega) | exact okM22 (by omega) | exact okM24 (by omega) | exact okM14 (by omega) | exact okMa31 (by omega) | exact okMa35 (by omega) | exact okMa36 (by omega) | exact okMa3 (by omega) | exact okMr (by omega) | (unfold okM; refine ⟨?_, ?_, ?_, ?_, ?_, ?_, ?_, ?_, ?_, ?_, ?_, ?_⟩ <;> intro h <;> omega))) (by first | exact okMo (by decide) (by decide) (by decide) (by decide) (by decide) | exact okMf (by decide) (by decide) (by decide) (by decide) (by decide) (by decide) (by decide) (by decide) | exact okM30 (by omega) | exact okM42 (by omega) | exact okM33 (by omega) | exact okM10 (by omega) | exact okM8 (by omega) | exact okM22 (by omega) | exact okM24 (by omega) | exact okM14 (by omega) | exact okMa31 (by omega) | exact okMa35 (by omega) | exact okMa36 (by omega) | exact okMa3 (by omega) | exact okMr (by omega) | (unfold okM; refine ⟨?_, ?_, ?_, ?_, ?_, ?_, ?_, ?_, ?_, ?_, ?_, ?_⟩ <;> intro h <;> omega))) (by first | exact okMo (by decide) (by decide) (by decide) (by decide) (by decide) | exact okMf (by decide) (by decide) (by decide) (by decide) (by decide) (by decide) (by decide) (by decide) | exact okM30 (by omega) | exact okM42 (by omega) | exact okM33 (by omega) | exact okM10 (by omega) | exact okM8 (by omega) | exact okM22 (by omega) | exact okM24 (by omega) | exact okM14 (by omega) | exact okMa31 (by omega) | exact okMa35 (by omega) | exact okMa36 (by omega) | exact okMa3 (by omega) | exact okMr (by omega) | (unfold okM; refine ⟨?_, ?_, ?_, ?_, ?_, ?_, ?_, ?_, ?_, ?_, ?_, ?_⟩ <;> intro h <;> omega))) (by first | exact okMo (by decide) (by decide) (by decide) (by decide) (by decide) | exact okMf (by decide) (by decide) (by decide) (by decide) (by decide) (by decide) (by decide) (by decide) | exact okM30 (by omega) | exact okM42 (by omega) | exact okM33 (by omega) | exact okM10 (by omega) | exact okM8 (by omega) | exact okM22 (by omega) | exact okM24 (by omega) | exact okM14 (by omega) | exact okMa31 (by omega) | exact okMa35 (by omega) | exact okMa36 (by omega) | exact okMa3 (by omega) | exact okMr (by omega) | (unfold okM; refine ⟨?_, ?_, ?_, ?_, ?_, ?_, ?_, ?_, ?_, ?_, ?_, ?_⟩ <;> intro h <;> omega))) (Fr_uI (Fr_uI (Fr_uI (Fr_uI Fr.rf (by omega)) (by omega)) (by omega)) (by omega)) (by first | exact ⟨tk_e0 hsp (by omega) (by omega) (by omega) (by omega), fun q9 => by exfalso; omega⟩ | exact ⟨tk_e1 (a := (I t 22).toInt) (x := I (t + 16) (Int32.toNatClampNeg (I t 22))) hsp (by omega) hz.symm rfl (by omega) (by omega) (by omega) (by omega) (by omega) (by omega), fun q9 => by exfalso; omega⟩ | exact ⟨tk_e2 hsp hq (by omega) (by omega) (fun l9 => by show ¬ tokOf (I0 (t + 16) (Int32.toNatClampNeg (I t 22))) = _; omega) (by omega) (by omega), fun q9 => by first | exact hv | (exfalso; omega)⟩)
          · skip
            have q6 := i32_lo v14
            have hc50 : ¬ (v14).toInt = (0 : Int32).toInt := fun z => hc50 (Int32.toInt_inj.mp z)
            have hr63 : (((uI (uI (uI I t 24 (I t 22)) t 25 0) t 23 2)) t 22).toInt = ((I t 22)).toInt := congrArg Int32.toInt (uI_sk (by decide) (uI_sk (by decide) (uI_sk (by decide) rfl)))
            have hr64 : (((uI (uI (uI I t 24 (I t 22)) t 25 0) t 23 2)) t 24).toInt = ((I t 22)).toInt := congrArg Int32.toInt (uI_sk (by decide) (uI_sk (by decide) (uI_ss _ _ _ _)))
            have hr65 : (((uI (uI (uI I t 24 (I t 22)) t 25 0) t 23 2)) t 8).toInt = ((I t 8)).toInt := congrArg Int32.toInt (uI_sk (by decide) (uI_sk (by decide) (uI_sk (by decide) rfl)))
            have hr66 : (((uI (uI (uI I t 24 (I t 22)) t 25 0) t 23 2)) t 23).toInt = ((2 : Int32)).toInt := congrArg Int32.toInt (uI_ss _ _ _ _)
            have q7 : (2 : Int32).toInt = 2 := rfl
            have hr67 : (((uI (uI (uI I t 24 (I t 22)) t 25 0) t 23 2)) t 25).toInt = ((0 : Int32)).toInt := congrArg Int32.toInt (uI_sk (by decide) (uI_ss _ _ _ _))
            exact gX12_look_149 ht   hK  ((250 - ((uI (uI (uI I t 24 (I t 22)) t 25 0) t 23 2) t 22).toInt).toNat + 1) _ (WM_uI (WM_uI (WM_uI hW (by first | exact okMo (by decide) (by decide) (by decide) (by decide) (by decide) | exact okMf (by decide) (by decide) (by decide) (by decide) (by decide) (by decide) (by decide) (by decide) | exact okM30 (by omega) | exact okM42 (by omega) | exact okM33 (by omega) | exact okM10 (by omega) | exact okM8 (by omega) | exact okM22 (by omega) | exact okM24 (by omega) | exact okM14 (by omega) | exact okMa31 (by omega) | exact okMa35 (by omega) | exact okMa36 (by omega) | exact okMa3 (by omega) | exact okMr (by omega) | (unfold okM; refine ⟨?_, ?_, ?_, ?_, ?_, ?_, ?_, ?_, ?_, ?_, ?_, ?_⟩ <;> intro h <;> omega))) (by first | exact okMo (by decide) (by decide) (by decide) (by decide) (by decide) | exact okMf (by decide) (by decide) (by decide) (by decide) (by decide) (by decide) (by decide) (by decide) | exact okM30 (by omega) | exact okM42 (by omega) | exact okM33 (by omega) | exact okM10 (by omega) | exact okM8 (by omega) | exact okM22 (by omega) | exact okM24 (by omega) | exact okM14 (by omega) | exact okMa31 (by omega) | exact okMa35 (by omega) | exact okMa36 (by omega) | exact okMa3 (by omega) | exact okMr (by omega) | (unfold okM; refine ⟨?_, ?_, ?_, ?_, ?_, ?_, ?_, ?_, ?_, ?_, ?_, ?_⟩ <;> intro h <;> omega))) (by first | exact okMo (by decide) (by decide) (by decide) (by decide) (by decide) | exact okMf (by decide) (by decide) (by decide) (by decide) (by decide) (by decide) (by decide) (by decide) | exact okM30 (by omega) | exact okM42 (by omega) | exact okM33 (by omega) | exact okM10 (by omega) | exact okM8 (by omega) | exact okM22 (by omega) | exact okM24 (by omega) | exact okM14 (by omega) | exact okMa31 (by omega) | exact okMa35 (by omega) | exact okMa36 (by omega) | exact okMa3 (by omega) | exact okMr (by omega) | (unfold okM; refine ⟨?_, ?_, ?_, ?_, ?_, ?_, ?_, ?_, ?_, ?_, ?_, ?_⟩ <;> intro h <;> omega))) (Fr_uI (Fr_uI (Fr_uI Fr.rf (by omega)) (by omega)) (by omega)) (by omega) (by omega) (spx_c hsp (by omega)) (by first | exact tkr_0 (a := (I t 22).toInt) (x := I (t + 16) (Int32.toNatClampNeg (I t 22))) hz.symm rfl (by omega) (by omega) (by omega) (by omega) (by omega) (by omega) | exact tkr_s (x := I (t + 16) (Int32.toNatClampNeg (I t 22))) hq hz.symm (by omega) (by omega) (by omega) (by omega) (by omega) (by omega)) (by first | exact Or.inl ⟨by omega, by omega⟩ | exact vq_s (x := I (t + 16) (Int32.toNatClampNeg (I t 22))) hv hz.symm (by omega) (by omega) (by omega) (by omega) (by omega)) (by omega)
        · skip
          have q4 := i32_lo v11
          have q5 : (0 : Int32).toInt = 0 := rfl
          have hc45 : ¬ (v11).toInt = (0 : Int32).toInt := fun z => hc45 (Int32.toInt_inj.mp z)
          have hr68 : (((uI (uI (uI I t 24 (I t 22)) t 25 0) t 23 1)) t 22).toInt = ((I t 22)).toInt := congrArg Int32.toInt (uI_sk (by decide) (uI_sk (by decide) (uI_sk (by decide) rfl)))
          have hr69 : (((uI (uI (uI I t 24 (I t 22)) t 25 0) t 23 1)) t 24).toInt = ((I t 22)).toInt := congrArg Int32.toInt (uI_sk (by decide) (uI_sk (by decide) (uI_ss _ _ _ _)))
          have hr70 : (((uI (uI (uI I t 24 (I t 22)) t 25 0) t 23 1)) t 8).toInt = ((I t 8)).toInt := congrArg Int32.toInt (uI_sk (by decide) (uI_sk (by decide) (uI_sk (by decide) rfl)))
          have hr71 : (((uI (uI (uI I t 24 (I t 22)) t 25 0) t 23 1)) t 23).toInt = ((1 : Int32)).toInt := congrArg Int32.toInt (uI_ss _ _ _ _)
          have q6 : (1 : Int32).toInt = 1 := rfl
          exact gX12_look_90 ht   hK  ((250 - ((uI (uI (uI I t 24 (I t 22)) t 25 0) t 23 1) t 22).toInt).toNat + 1) _ (WM_uI (WM_uI (WM_uI hW (by first | exact okMo (by decide) (by decide) (by decide) (by decide) (by decide) | exact okMf (by decide) (by decide) (by decide) (by decide) (by decide) (by decide) (by decide) (by decide) | exact okM30 (by omega) | exact okM42 (by omega) | exact okM33 (by omega) | exact okM10 (by omega) | exact okM8 (by omega) | exact okM22 (by omega) | exact okM24 (by omega) | exact okM14 (by omega) | exact okMa31 (by omega) | exact okMa35 (by omega) | exact okMa36 (by omega) | exact okMa3 (by omega) | exact okMr (by omega) | (unfold okM; refine ⟨?_, ?_, ?_, ?_, ?_, ?_, ?_, ?_, ?_, ?_, ?_, ?_⟩ <;> intro h <;> omega))) (by first | exact okMo (by decide) (by decide) (by decide) (by decide) (by decide) | exact okMf (by decide) (by decide) (by decide) (by decide) (by decide) (by decide) (by decide) (by decide) | exact okM30 (by omega) | exact okM42 (by omega) | exact okM33 (by omega) | exact okM10 (by omega) | exact okM8 (by omega) | exact okM22 (by omega) | exact okM24 (by omega) | exact okM14 (by omega) | exact okMa31 (by omega) | exact okMa35 (by omega) | exact okMa36 (by omega) | exact okMa3 (by omega) | exact okMr (by omega) | (unfold okM; refine ⟨?_, ?_, ?_, ?_, ?_, ?_, ?_, ?_, ?_, ?_, ?_, ?_⟩ <;> intro h <;> omega))) (by first | exact okMo (by decide) (by decide) (by decide) (by decide) (by decide) | exact okMf (by decide) (by decide) (by decide) (by decide) (by decide) (by decide) (by decide) (by decide) | exact okM30 (by omega) | exact okM42 (by omega) | exact okM33 (by omega) | exact okM10 (by omega) | exact okM8 (by omega) | exact okM22 (by omega) | exact okM24 (by omega) | exact okM14 (by omega) | exact okMa31 (by omega) | exact okMa35 (by omega) | exact okMa36 (by omega) | exact okMa3 (by omega) | exact okMr (by omega) | (unfold okM; refine ⟨?_, ?_, ?_, ?_, ?_, ?_, ?_, ?_, ?_, ?_, ?_, ?_⟩ <;> intro h <;> omega))) (Fr_uI (Fr_uI (Fr_uI Fr.rf (by omega)) (by omega)) (by omega)) (by omega) (by omega) (spx_c hsp (by omega)) (by first | exact tkr_0 (a := (I t 22).toInt) (x := I (t + 16) (Int32.toNatClampNeg (I t 22))) hz.symm rfl (by omega) (by omega) (by omega) (by omega) (by omega) (by omega) | exact tkr_s (x := I (t + 16) (Int32.toNatClampNeg (I t 22))) hq hz.symm (by omega) (by omega) (by omega) (by omega) (by omega) (by omega)) (by omega)
      · skip
        have hc42 := Int32.toInt_inj.mpr hc42
        have hr72 : (((uI (uI (uI I t 24 (I t 22)) t 25 0) t 23 0)) t 8).toInt = ((I t 8)).toInt := congrArg Int32.toInt (uI_sk (by decide) (uI_sk (by decide) (uI_sk (by decide) rfl)))
        have hr73 : (((uI (uI (uI I t 24 (I t 22)) t 25 0) t 23 0)) t 22).toInt = ((I t 22)).toInt := congrArg Int32.toInt (uI_sk (by decide) (uI_sk (by decide) (uI_sk (by decide) rfl)))
        have hr74 : (((uI (uI (uI I t 24 (I t 22)) t 25 0) t 23 0)) t 23).toInt = ((0 : Int32)).toInt := congrArg Int32.toInt (uI_ss _ _ _ _)
        have q4 : (0 : Int32).toInt = 0 := rfl
        have hr75 : (((uI (uI (uI I t 24 (I t 22)) t 25 0) t 23 0)) t 24).toInt = ((I t 22)).toInt := congrArg Int32.toInt (uI_sk (by decide) (uI_sk (by decide) (uI_ss _ _ _ _)))
        have hr76 : (((uI (uI (uI I t 24 (I t 22)) t 25 0) t 23 0)) t 25).toInt = ((0 : Int32)).toInt := congrArg Int32.toInt (uI_sk (by decide) (uI_ss _ _ _ _))
        exact hK _ (WM_uI (WM_uI (WM_uI hW (by first | exact okMo (by decide) (by decide) (by decide) (by decide) (by decide) | exact okMf (by decide) (by decide) (by decide) (by decide) (by decide) (by decide) (by decide) (by decide) | exact okM30 (by omega) | exact okM42 (by omega) | exact okM33 (by omega) | exact okM10 (by omega) | exact okM8 (by omega) | exact okM22 (by omega) | exact okM24 (by omega) | exact okM14 (by omega) | exact okMa31 (by omega) | exact okMa35 (by omega) | exact okMa36 (by omega) | exact okMa3 (by omega) | exact okMr (by omega) | (unfold okM; refine ⟨?_, ?_, ?_, ?_, ?_, ?_, ?_, ?_, ?_, ?_, ?_, ?_⟩ <;> intro h <;> omega))) (by first | exact okMo (by decide) (by decide) (by decide) (by decide) (by decide) | exact okMf (by decide) (by decide) (by decide) (by decide) (by decide) (by decide) (by decide) (by decide) | exact okM30 (by omega) | exact okM42 (by omega) | exact okM33 (by omega) | exact okM10 (by omega) | exact okM8 (by omega) | exact okM22 (by omega) | exact okM24 (by omega) | exact okM14 (by omega) | exact okMa31 (by omega) | exact okMa35 (by omega) | exact okMa36 (by omega) | exact okMa3 (by omega) | exact okMr (by omega) | (unfold okM; refine ⟨?_, ?_, ?_, ?_, ?_, ?_, ?_, ?_, ?_, ?_, ?_, ?_⟩ <;> intro h <;> omega))) (by first | exact okMo (by decide) (by decide) (by decide) (by decide) (by decide) | exact okMf (by decide) (by decide) (by decide) (by decide) (by decide) (by decide) (by decide) (by decide) | exact okM30 (by omega) | exact okM42 (by omega) | exact okM33 (by omega) | exact okM10 (by omega) | exact okM8 (by omega) | exact okM22 (by omega) | exact okM24 (by omega) | exact okM14 (by omega) | exact okMa31 (by omega) | exact okMa35 (by omega) | exact okMa36 (by omega) | exact okMa3 (by omega) | exact okMr (by omega) | (unfold okM; refine ⟨?_, ?_, ?_, ?_, ?_, ?_, ?_, ?_, ?_, ?_, ?_, ?_⟩ <;> intro h <;> omega))) (Fr_uI (Fr_uI (Fr_uI Fr.rf (by omega)) (by omega)) (by omega)) (by first | exact ⟨tk_e0 hsp (by omega) (by omega) (by omega) (by omega), fun q9 => by exfalso; omega⟩ | exact ⟨tk_e1 (a := (I t 22).toInt) (x := I (t + 16) (Int32.toNatClampNeg (I t 22))) hsp (by omega) hz.symm rfl (by omega) (by omega) (by omega) (by omega) (by omega) (by omega), fun q9 => by exfalso; omega⟩ | exact ⟨tk_e2 hsp hq (by omega) (by omega) (fun l9 => by show ¬ tokOf (I0 (t + 16) (Int32.toNatClampNeg (I t 22))) = _; omega) (by omega) (by omega), fun q9 => by first | exact hv | (exfalso; omega)⟩)
    · skip
      have q3 : (32 : Int32).toInt = 32 := rfl
      have hc40 := Int32.toInt_inj.mpr hc40
      have q4 : (1 : Int32).toInt = 1 := rfl
      have q5 := i32_add (I t 22) 1 (by omega) (by omega)
      have hr77 : (((uI I t 22 ((I t 22) + 1))) t 22).toInt = (((I t 22) + 1)).toInt := congrArg Int32.toInt (uI_ss _ _ _ _)
      have hr78 : (((uI I t 22 ((I t 22) + 1))) t 8).toInt = ((I t 8)).toInt := congrArg Int32.toInt (uI_sk (by decide) rfl)
      exact gX12_look_0 ht   hK  ((250 - ((uI I t 22 ((I t 22) + 1)) t 22).toInt).toNat + 1) _ (WM_uI hW (by first | exact okMo (by decide) (by decide) (by decide) (by decide) (by decide) | exact okMf (by decide) (by decide) (by decide) (by decide) (by decide) (by decide) (by decide) (by decide) | exact okM30 (by omega) | exact okM42 (by omega) | exact okM33 (by omega) | exact okM10 (by omega) | exact okM8 (by omega) | exact okM22 (by omega) | exact okM24 (by omega) | exact okM14 (by omega) | exact okMa31 (by omega) | exact okMa35 (by omega) | exact okMa36 (by omega) | exact okMa3 (by omega) | exact okMr (by omega) | (unfold okM; refine ⟨?_, ?_, ?_, ?_, ?_, ?_, ?_, ?_, ?_, ?_, ?_, ?_⟩ <;> intro h <;> omega))) (Fr_uI Fr.rf (by omega)) (by omega) (by first | exact spx_0 (by omega) | exact spx_s hsp (show (_ : Int) = 32 from (by first | exact (congrArg Int32.toInt hz.symm).trans (by omega) | omega)) (by omega) (by omega)) (by omega)
theorem fsfX5_fail {G : jdG} {n : Nat} {Z : jdL} {J : jdJ} {K : Int32 → jdI → jdJ → Prop}  {I : jdI}  (ht : zScribe Z 25)  (hW : WX I)  (hK : ∀ (v : Int32) (I2 : jdI), WX I2 → Fr (fun a k => a = 25) I I2 → (v.toInt = 0 ∧ (I2 25 5).toInt = (I 25 3).toInt ∧ (I2 25 1).toInt = (I 25 1).toInt) → K v I2 J) : Cl G mX5_fail n 0 0 [.ref (gb G + 25)] Z I J (qi Z K) := by
  refine eX5_fail ht ?_
  have hwI := WX_f hW
  have q1 : (0 : Int32).toInt = 0 := rfl
  have hr1 : (((uI I 25 5 (I 25 3))) 25 5).toInt = ((I 25 3)).toInt := congrArg Int32.toInt (uI_ss _ _ _ _)
  have hr2 : (((uI I 25 5 (I 25 3))) 25 3).toInt = ((I 25 3)).toInt := congrArg Int32.toInt (uI_sk (by decide) rfl)
  have hr3 : (((uI I 25 5 (I 25 3))) 25 1).toInt = ((I 25 1)).toInt := congrArg Int32.toInt (uI_sk (by decide) rfl)
  exact hK _ _ (WX_uI hW (by first | exact okXo (by decide) | (unfold okX; refine ⟨?_, ?_, ?_, ?_, ?_, ?_, ?_, ?_, ?_, ?_⟩ <;> intro h <;> omega))) (Fr_uI Fr.rf (by omega)) (by omega)
theorem gX5_readNumber_48 {G : jdG} {n : Nat} {Z : jdL} {J : jdJ} {rc rs : Nat} {K : Int32 → jdI → jdJ → Prop}  {I0 : jdI} {x1 : Int32} {x2 : Int32} {x3 : Int32} (ht : zScribe Z 25)  (hx1 : 0 ≤ x1.toInt ∧ x2.toInt ≤ 99) (hK : ∀ (v : Int32) (I2 : jdI), WX I2 → Fr (fun a k => a = 25) I0 I2 → (((((I0 25 2).toInt = 2 ∧ x1.toInt ≤ vl (I0 (25 + 1)) (I0 25 3).toInt (I0 25 4).toInt ∧ vl (I0 (25 + 1)) (I0 25 3).toInt (I0 25 4).toInt ≤ x2.toInt) ∧ v.toInt = vl (I0 (25 + 1)) (I0 25 3).toInt (I0 25 4).toInt ∧ (x3.toInt = 0 ∨ ((x3 >>> (v &&& 31)) &&& 1).toInt = 0) ∧ TK (I0 (25 + 1)) (I0 25 1).toInt (I0 25 4).toInt (I2 25 2).toInt (I2 25 3).toInt (I2 25 4).toInt ∧ (I2 25 5).toInt = (I0 25 5).toInt) ∨ (v.toInt = -1 ∧ (I2 25 5).toInt = (I0 25 3).toInt ∧ (¬ ((I0 25 2).toInt = 2 ∧ x1.toInt ≤ vl (I0 (25 + 1)) (I0 25 3).toInt (I0 25 4).toInt ∧ vl (I0 (25 + 1)) (I0 25 3).toInt (I0 25 4).toInt ≤ x2.toInt) ∨ (¬ x3.toInt = 0 ∧ ∀ w : Int32, w.toInt = vl (I0 (25 + 1)) (I0 25 3).toInt (I0 25 4).toInt → ¬ ((x3 >>> (w &&& 31)) &&& 1).toInt = 0)))) ∧ (I2 25 1).toInt = (I0 25 1).toInt) → K v I2 J) : ∀ m : Nat, ∀ (I : jdI) (x4 : Int32) (x5 : Int32), WX I → Fr (fun a k => a = 25) I0 I → (I = I0) → ((I 25 3).toInt ≤ x5.toInt ∧ x5.toInt ≤ (I 25 4).toInt ∧ (I 25 4).toInt - (I 25 3).toInt ≤ 2 ∧ (I 25 2).toInt = 2) → (TKp (I (25 + 1)) (I 25 1).toInt (I 25 2).toInt (I 25 3).toInt (I 25 4).toInt) → (0 ≤ x1.toInt ∧ x2.toInt ≤ 99) → (vq (I (25 + 1)) (I 25 3).toInt x5.toInt x4.toInt) → 250 - x5.toInt < (m : Int) → Jd G mX5_readNumber (jdFm G (qi Z K)) (n + 2) rc rs 48 [(0, .ref (gb G + 25)), (1, .int x1), (2, .int x2), (3, .int x3), (4, .int x4), (5, .int x5)] [] Z I J := by
  intro m
  induction m with
  | zero =>
    intro I x4 x5 hW hF hII hx5 hq hx1 hv hm
    have hwI := WX_f hW
    omega
  | succ m ih =>
    intro I x4 x5 hW hF hII hx5 hq hx1 hv hm
    have hwI := WX_f hW
    refine rX5_readNumber_48 ht ?_
    subst hII
    have hqf := tkp_f hq
    have hvr := vl_big (T := I (25 + 1)) (s := (I 25 3).toInt) (f := (I 25 4).toInt)
    have hv4 := vq_r hv
    have hd := tkp_d hq
    have hvl : (I 25 4).toInt ≤ x5.toInt → x4.toInt = vl (I (25 + 1)) (I 25 3).toInt (I 25 4).toInt := fun h => vl_of hv (by omega) (by omega)
    have hd5 : ¬ (I 25 4).toInt ≤ x5.toInt → 48 ≤ (I (25 + 1) (Int32.toNatClampNeg x5)).toInt ∧ (I (25 + 1) (Int32.toNatClampNeg x5)).toInt ≤ 57 := fun h => hd (by omega) _ (by rw [tn_eq]; omega) (by rw [tn_eq]; omega)
    have hd3 := hd (by omega) (I 25 3).toInt.toNat (by omega) (by omega)
    refine ⟨fun hc1 => ?_, fun hc2 => ?_⟩
    · skip
      have q1 := i32_lo (I 25 4)
      have q2 := i32_lo x5
      have hc1 := Int32.le_iff_toInt_le.mp hc1
      refine ⟨fun hc3 => ?_, fun hc4 => ?_⟩
      · skip
        have q3 := i32_lo x4
        have q4 := i32_lo x1
        have hc3 := Int32.lt_iff_toInt_lt.mp hc3
        refine fsfX5_fail ht hW  (fun v2 I1 hWI1 hFI1 hp5 => ?_)
        have hwI1 := WX_f hWI1
        have q5 : (-1 : Int32).toInt = -1 := rfl
        exact hK _ _ hWI1 (Fr.tr hF hFI1 (by intro a k h; omega)) (by first | exact ⟨Or.inl ⟨⟨by omega, by omega, by omega⟩, by omega, by first | exact Or.inl (by omega) | exact Or.inr (by omega), htk.1, htk.2.2⟩, htk.2.1⟩ | exact ⟨Or.inr ⟨by omega, by omega, by first | exact Or.inl (by omega) | exact Or.inr ⟨by omega, fun w9 hw9 => by rw [Int32.toInt_inj.mp (show w9.toInt = x4.toInt by omega)]; omega⟩⟩, by omega⟩)
      · skip
        have q3 := i32_lo x4
        have q4 := i32_lo x1
        have hc4 := mt Int32.lt_iff_toInt_lt.mpr hc4
        refine ⟨fun hc6 => ?_, fun hc7 => ?_⟩
        · skip
          have q5 := i32_lo x2
          have hc6 := Int32.lt_iff_toInt_lt.mp hc6
          refine fsfX5_fail ht hW  (fun v4 I3 hWI3 hFI3 hp8 => ?_)
          have hwI3 := WX_f hWI3
          have q6 : (-1 : Int32).toInt = -1 := rfl
          exact hK _ _ hWI3 (Fr.tr hF hFI3 (by intro a k h; omega)) (by first | exact ⟨Or.inl ⟨⟨by omega, by omega, by omega⟩, by omega, by first | exact Or.inl (by omega) | exact Or.inr (by omega), htk.1, htk.2.2⟩, htk.2.1⟩ | exact ⟨Or.inr ⟨by omega, by omega, by first | exact Or.inl (by omega) | exact Or.inr ⟨by omega, fun w9 hw9 => by rw [Int32.toInt_inj.mp (show w9.toInt = x4.toInt by omega)]; omega⟩⟩, by omega⟩)
        · skip
          have q5 := i32_lo x2
          have hc7 := mt Int32.lt_iff_toInt_lt.mpr hc7
          refine ⟨fun hc9 => ?_, fun hc10 => ?_⟩
          · skip
            have q6 := i32_lo x3
            have q7 : (0 : Int32).toInt = 0 := rfl
            have hc9 := Int32.toInt_inj.mpr hc9
            refine fsfX5_advance ht hW (by omega) (fun I5 hWI5 hFI5 hp11 => ?_)
            have hwI5 := WX_f hWI5
            have htk := hp11
            exact hK _ _ hWI5 (Fr.tr hF hFI5 (by intro a k h; omega)) (by first | exact ⟨Or.inl ⟨⟨by omega, by omega, by omega⟩, by omega, by first | exact Or.inl (by omega) | exact Or.inr (by omega), htk.1, htk.2.2⟩, htk.2.1⟩ | exact ⟨Or.inr ⟨by omega, by omega, by first | exact Or.inl (by omega) | exact Or.inr ⟨by omega, fun w9 hw9 => by rw [Int32.toInt_inj.mp (show w9.toInt = x4.toInt by omega)]; omega⟩⟩, by omega⟩)
          · skip
            have q6 := i32_lo x3
            have q7 : (0 : Int32).toInt = 0 := rfl
            have hc10 : ¬ (x3).toInt = (0 : Int32).toInt := fun z => hc10 (Int32.toInt_inj.mp z)
            refine ⟨fun hc12 => ?_, fun hc13 => ?_⟩
            · skip
              have q8 : (31 : Int32).toInt = 31 := rfl
              have q9 : (1 : Int32).toInt = 1 := rfl
              have hc12 := Int32.toInt_inj.mpr hc12
              refine fsfX5_advance ht hW (by omega) (fun I7 hWI7 hFI7 hp14 => ?_)
              have hwI7 := WX_f hWI7
              have htk := hp14
              exact hK _ _ hWI7 (Fr.tr hF hFI7 (by intro a k h; omega)) (by first | exact ⟨Or.inl ⟨⟨by omega, by omega, by omega⟩, by omega, by first | exact Or.inl (by omega) | exact Or.inr (by omega), htk.1, htk.2.2⟩, htk.2.1⟩ | exact ⟨Or.inr ⟨by omega, by omega, by first | exact Or.inl (by omega) | exact Or.inr ⟨by omega, fun w9 hw9 => by rw [Int32.toInt_inj.mp (show w9.toInt = x4.toInt by omega)]; omega⟩⟩, by omega⟩)
            · skip
              have q8 : (31 : Int32).toInt = 31 := rfl
              have q9 : (1 : Int32).toInt = 1 := rfl
              have hc13 : ¬ (((x3 >>> (x4 &&& 31)) &&& 1)).toInt = (0 : Int32).toInt := fun z => hc13 (Int32.toInt_inj.mp z)
              refine fsfX5_fail ht hW  (fun v10 I9 hWI9 hFI9 hp15 => ?_)
              have hwI9 := WX_f hWI9
              have q10 : (-1 : Int32).toInt = -1 := rfl
              exact hK _ _ hWI9 (Fr.tr hF hFI9 (by intro a k h; omega)) (by first | exact ⟨Or.inl ⟨⟨by omega, by omega, by omega⟩, by omega, by first | exact Or.inl (by omega) | exact Or.inr (by omega), htk.1, htk.2.2⟩, htk.2.1⟩ | exact ⟨Or.inr ⟨by omega, by omega, by first | exact Or.inl (by omega) | exact Or.inr ⟨by omega, fun w9 hw9 => by rw [Int32.toInt_inj.mp (show w9.toInt = x4.toInt by omega)]; omega⟩⟩, by omega⟩)
    · skip
      have q1 := i32_lo (I 25 4)
      have q2 := i32_lo x5
      have hc2 := mt Int32.le_iff_toInt_le.mpr hc2
      refine ⟨vp_of (by omega) (by omega), ?_⟩
      have q3 : (10 : Int32).toInt = 10 := rfl
      have q4 := i32_lo x4
      have q5 := i32_cmul 10 x4 10 rfl (by omega) (by omega)
      have q6 := i32_add (10 * x4) (I (25 + 1) (Int32.toNatClampNeg x5)) (by omega) (by omega)
      have q7 : (48 : Int32).toInt = 48 := rfl
      have q8 := i32_sub ((10 * x4) + (I (25 + 1) (Int32.toNatClampNeg x5))) 48 (by omega) (by omega)
      have q9 : (1 : Int32).toInt = 1 := rfl
      have q10 := i32_add x5 1 (by omega) (by omega)
      exact ih _ (((10 * x4) + (I (25 + 1) (Int32.toNatClampNeg x5))) - 48) (x5 + 1) hW hF rfl (by omega) (by assumption) (by omega) (by first | exact Or.inl ⟨by omega, by omega⟩ | exact vq_s (x := I (25 + 1) (Int32.toNatClampNeg x5)) hv rfl (by omega) rfl (by omega) (by omega) (by omega)) (by omega)
theorem fsfX5_readNumber {G : jdG} {n : Nat} {Z : jdL} {J : jdJ} {K : Int32 → jdI → jdJ → Prop}  {I : jdI} {x1 : Int32} {x2 : Int32} {x3 : Int32} (ht : zScribe Z 25)  (hW : WX I) (hq : TKp (I (25 + 1)) (I 25 1).toInt (I 25 2).toInt (I 25 3).toInt (I 25 4).toInt) (hx1 : 0 ≤ x1.toInt ∧ x2.toInt ≤ 99) (hK : ∀ (v : Int32) (I2 : jdI), WX I2 → Fr (fun a k => a = 25) I I2 → (((((I 25 2).toInt = 2 ∧ x1.toInt ≤ vl (I (25 + 1)) (I 25 3).toInt (I 25 4).toInt ∧ vl (I (25 + 1)) (I 25 3).toInt (I 25 4).toInt ≤ x2.toInt) ∧ v.toInt = vl (I (25 + 1)) (I 25 3).toInt (I 25 4).toInt ∧ (x3.toInt = 0 ∨ ((x3 >>> (v &&& 31)) &&& 1).toInt = 0) ∧ TK (I (25 + 1)) (I 25 1).toInt (I 25 4).toInt (I2 25 2).toInt (I2 25 3).toInt (I2 25 4).toInt ∧ (I2 25 5).toInt = (I 25 5).toInt) ∨ (v.toInt = -1 ∧ (I2 25 5).toInt = (I 25 3).toInt ∧ (¬ ((I 25 2).toInt = 2 ∧ x1.toInt ≤ vl (I (25 + 1)) (I 25 3).toInt (I 25 4).toInt ∧ vl (I (25 + 1)) (I 25 3).toInt (I 25 4).toInt ≤ x2.toInt) ∨ (¬ x3.toInt = 0 ∧ ∀ w : Int32, w.toInt = vl (I (25 + 1)) (I 25 3).toInt (I 25 4).toInt → ¬ ((x3 >>> (w &&& 31)) &&& 1).toInt = 0)))) ∧ (I2 25 1).toInt = (I 25 1).toInt) → K v I2 J) : Cl G mX5_readNumber (n + 2) 0 0 [.ref (gb G + 25), .int x1, .int x2, .int x3] Z I J (qi Z K) := by
  refine eX5_readNumber ht ?_
  have hwI := WX_f hW
  have hqf := tkp_f hq
  have hvr := vl_big (T := I (25 + 1)) (s := (I 25 3).toInt) (f := (I 25 4).toInt)
  refine ⟨fun hc1 => ?_, fun hc2 => ?_⟩
  · skip
    have q1 := i32_lo (I 25 2)
    have q2 : (2 : Int32).toInt = 2 := rfl
    have hc1 : ¬ ((I 25 2)).toInt = (2 : Int32).toInt := fun z => hc1 (Int32.toInt_inj.mp z)
    refine fsfX5_fail ht hW  (fun v2 I1 hWI1 hFI1 hp3 => ?_)
    have hwI1 := WX_f hWI1
    have q3 : (-1 : Int32).toInt = -1 := rfl
    exact hK _ _ hWI1 (Fr.tr Fr.rf hFI1 (by intro a k h; omega)) (by first | exact ⟨Or.inl ⟨⟨by omega, by omega, by omega⟩, by omega, by first | exact Or.inl (by omega) | exact Or.inr (by omega), htk.1, htk.2.2⟩, htk.2.1⟩ | exact ⟨Or.inr ⟨by omega, by omega, by first | exact Or.inl (by omega) | exact Or.inr ⟨by omega, fun w9 hw9 => by rw [Int32.toInt_inj.mp (show w9.toInt = x4.toInt by omega)]; omega⟩⟩, by omega⟩)
  · skip
    have q1 := i32_lo (I 25 2)
    have q2 : (2 : Int32).toInt = 2 := rfl
    have hc2 := Int32.toInt_inj.mpr hc2
    refine ⟨fun hc4 => ?_, fun hc5 => ?_⟩
    · skip
      have q3 := i32_lo (I 25 4)
      have q4 := i32_lo (I 25 3)
      have q5 := i32_subI (I 25 4) (I 25 3)
      have hc4 := Int32.lt_iff_toInt_lt.mp hc4
      refine fsfX5_fail ht hW  (fun v4 I3 hWI3 hFI3 hp6 => ?_)
      have hwI3 := WX_f hWI3
      have q6 : (-1 : Int32).toInt = -1 := rfl
      exact hK _ _ hWI3 (Fr.tr Fr.rf hFI3 (by intro a k h; omega)) (by first | exact ⟨Or.inl ⟨⟨by omega, by omega, by omega⟩, by omega, by first | exact Or.inl (by omega) | exact Or.inr (by omega), htk.1, htk.2.2⟩, htk.2.1⟩ | exact ⟨Or.inr ⟨by omega, by omega, by first | exact Or.inl (by omega) | exact Or.inr ⟨by omega, fun w9 hw9 => by rw [Int32.toInt_inj.mp (show w9.toInt = x4.toInt by omega)]; omega⟩⟩, by omega⟩)
    · skip
      have q3 := i32_lo (I 25 4)
      have q4 := i32_lo (I 25 3)
      have q5 := i32_subI (I 25 4) (I 25 3)
      have hc5 := mt Int32.lt_iff_toInt_lt.mpr hc5
      refine ⟨fun hc7 => ?_, fun hc8 => ?_⟩
      · skip
        have q6 := i32_lo (I 25 1)
        have hc7 := Int32.le_iff_toInt_le.mp hc7
        have q7 : (0 : Int32).toInt = 0 := rfl
        exact gX5_readNumber_48 ht  hx1 hK  ((250 - (I 25 3).toInt).toNat + 1) _ 0 (I 25 3) hW Fr.rf rfl (by omega) (by assumption) (by omega) (by first | exact Or.inl ⟨by omega, by omega⟩ | exact vq_s (x := I (25 + 1) (Int32.toNatClampNeg x5)) hv rfl (by omega) rfl (by omega) (by omega) (by omega)) (by omega)
      · skip
        have q6 := i32_lo (I 25 1)
        have hc8 := mt Int32.le_iff_toInt_le.mpr hc8
        refine fsfX5_fail ht hW  (fun v6 I5 hWI5 hFI5 hp9 => ?_)
        have hwI5 := WX_f hWI5
        have q7 : (-1 : Int32).toInt = -1 := rfl
        exact hK _ _ hWI5 (Fr.tr Fr.rf hFI5 (by intro a k h; omega)) (by first | exact ⟨Or.inl ⟨⟨by omega, by omega, by omega⟩, by omega, by first | exact Or.inl (by omega) | exact Or.inr (by omega), htk.1, htk.2.2⟩, htk.2.1⟩ | exact ⟨Or.inr ⟨by omega, by omega, by first | exact Or.inl (by omega) | exact Or.inr ⟨by omega, fun w9 hw9 => by rw [Int32.toInt_inj.mp (show w9.toInt = x4.toInt by omega)]; omega⟩⟩, by omega⟩)
theorem fsfX12_wrong {G : jdG} {n : Nat} {Z : jdL} {J : jdJ} {K : Int32 → jdI → jdJ → Prop}  {I : jdI} {t : Nat} (ht : zModel Z t)  (hW : WM 7 t I)  (hK : ∀ (v : Int32) (I2 : jdI), WM 7 t I2 → Fr (fun a k => a = t ∧ k = 26) I I2 → (v.toInt = 0 ∧ (I2 t 26).toInt = (I t 24).toInt) → K v I2 J) : Cl G mX12_wrong n 0 0 [.ref (gb G + t)] Z I J (qi Z K) := by
  refine eX12_wrong ht ?_
  have hwI := WM_f hW
  have q1 : (0 : Int32).toInt = 0 := rfl
  have hr1 : (((uI I t 26 (I t 24))) t 26).toInt = ((I t 24)).toInt := congrArg Int32.toInt (uI_ss _ _ _ _)
  have hr2 : (((uI I t 26 (I t 24))) t 24).toInt = ((I t 24)).toInt := congrArg Int32.toInt (uI_sk (by decide) rfl)
  exact hK _ _ (WM_uI hW (by first | exact okMo (by decide) (by decide) (by decide) (by decide) (by decide) | exact okMf (by decide) (by decide) (by decide) (by decide) (by decide) (by decide) (by decide) (by decide) | exact okM30 (by omega) | exact okM42 (by omega) | exact okM33 (by omega) | exact okM10 (by omega) | exact okM8 (by omega) | exact okM22 (by omega) | exact okM24 (by omega) | exact okM14 (by omega) | exact okMa31 (by omega) | exact okMa35 (by omega) | exact okMa36 (by omega) | exact okMa3 (by omega) | exact okMr (by omega) | (unfold okM; refine ⟨?_, ?_, ?_, ?_, ?_, ?_, ?_, ?_, ?_, ?_, ?_, ?_⟩ <;> intro h <;> omega))) (Fr_uI Fr.rf (by omega)) (by omega)
theorem fsfX12_number {G : jdG} {n : Nat} {Z : jdL} {J : jdJ} {K : Int32 → jdI → jdJ → Prop}  {I : jdI} {t : Nat} {x1 : Int32} {x2 : Int32} {x3 : Int32} (ht : zModel Z t)  (hW : WM 7 t I) (hq : TKp (I (t + 16)) (I t 8).toInt (I t 23).toInt (I t 24).toInt (I t 22).toInt) (hfg : ((I t 23).toInt = 2 → (I t 25).toInt = vl (I (t + 16)) (I t 24).toInt (I t 22).toInt)) (hx1 : x1.toInt = 0 ∨ x1.toInt = 1) (hx3 : 0 ≤ x2.toInt ∧ x3.toInt ≤ 99) (hK : ∀ (v : Int32) (I2 : jdI), WM 7 t I2 → Fr (fun a k => (a = t ∧ 22 ≤ k ∧ k ≤ 26) ∨ a = t + 29) I I2 → ((((I t 23).toInt = 2 ∧ x2.toInt ≤ vl (I (t + 16)) (I t 24).toInt (I t 22).toInt ∧ vl (I (t + 16)) (I t 24).toInt (I t 22).toInt ≤ x3.toInt) ∧ v.toInt = 1 ∧ TK (I (t + 16)) (I t 8).toInt (I t 22).toInt (I2 t 23).toInt (I2 t 24).toInt (I2 t 22).toInt ∧ ((I2 t 23).toInt = 2 → (I2 t 25).toInt = vl (I (t + 16)) (I2 t 24).toInt (I2 t 22).toInt) ∧ (I2 t 26).toInt = (I t 26).toInt ∧ (x1.toInt = 0 → (I2 (t + 29) 0).toInt = vl (I (t + 16)) (I t 24).toInt (I t 22).toInt ∧ (I2 (t + 29) 1).toInt = (I (t + 29) 1).toInt) ∧ (x1.toInt = 1 → (I2 (t + 29) 1).toInt = vl (I (t + 16)) (I t 24).toInt (I t 22).toInt ∧ (I2 (t + 29) 0).toInt = (I (t + 29) 0).toInt)) ∨ (¬ ((I t 23).toInt = 2 ∧ x2.toInt ≤ vl (I (t + 16)) (I t 24).toInt (I t 22).toInt ∧ vl (I (t + 16)) (I t 24).toInt (I t 22).toInt ≤ x3.toInt) ∧ v.toInt = 0 ∧ (I2 t 26).toInt = (I t 24).toInt)) → K v I2 J) : Cl G mX12_number (n + 2) 0 0 [.ref (gb G + t), .int x1, .int x2, .int x3] Z I J (qi Z K) := by
  refine eX12_number ht ?_
  have hwI := WM_f hW
  have hqf := tkp_f hq
  have hE8 : (uI I (t + 29) (Int32.toNatClampNeg x1) (I t 25)) t = I t := uI_n _ _ _ (by omega)
  have hE9 : (uI I (t + 29) (Int32.toNatClampNeg x1) (I t 25)) (t + 16) = I (t + 16) := uI_n _ _ _ (by omega)
  have hEa : ((uI I (t + 29) (Int32.toNatClampNeg x1) (I t 25)) t 22).toInt = (I t 22).toInt := by rw [hE8]
  have hEb : ((uI I (t + 29) (Int32.toNatClampNeg x1) (I t 25)) t 8).toInt = (I t 8).toInt := by rw [hE8]
  refine ⟨fun hc1 => ?_, fun hc2 => ?_⟩
  · skip
    have q1 := i32_lo (I t 23)
    have q2 : (2 : Int32).toInt = 2 := rfl
    have hc1 : ¬ ((I t 23)).toInt = (2 : Int32).toInt := fun z => hc1 (Int32.toInt_inj.mp z)
    refine fsfX12_wrong ht hW  (fun v2 I1 hWI1 hFI1 hp3 => ?_)
    have hwI1 := WM_f hWI1
    have q3 := i32_lo v2
    refine ⟨narrow_b (by omega), ?_⟩
    exact hK _ _ hWI1 (Fr.tr Fr.rf hFI1 (by intro a k h; omega)) (by first | exact Or.inr ⟨by omega, by omega, by omega⟩ | exact Or.inl ⟨⟨by omega, by omega, by omega⟩, by omega, hlk.1, fun q => vl_of (hlk.2 q) rfl ((tkp_f hlk.1.2.2.1).2 (by omega)).2, by omega, fun q => by have := hta q; omega, fun q => by have := htb q; omega⟩)
  · skip
    have q1 := i32_lo (I t 23)
    have q2 : (2 : Int32).toInt = 2 := rfl
    have hc2 := Int32.toInt_inj.mpr hc2
    have q3 := i32_lo (I t 25)
    have q4 : (Int32.toInt64 (I t 25)).toInt = ((I t 25)).toInt := Int32.toInt_toInt64 _
    have q5 := i32_lo x2
    have q6 : (Int32.toInt64 x2).toInt = (x2).toInt := Int32.toInt_toInt64 _
    have q7 := i32_lo x3
    have q8 : (Int32.toInt64 x3).toInt = (x3).toInt := Int32.toInt_toInt64 _
    refine sfX12_in  trivial  (fun v4  hp4 => ?_)
    refine ⟨fun hc5 => ?_, fun hc6 => ?_⟩
    · skip
      have q9 := i32_lo v4
      have q10 : (0 : Int32).toInt = 0 := rfl
      have hc5 : ¬ (v4).toInt = (0 : Int32).toInt := fun z => hc5 (Int32.toInt_inj.mp z)
      have q11 := i32_lo x1
      refine ⟨vp_of (by omega) (by omega), ?_⟩
      have hr8 : (((uI I (t + 29) (Int32.toNatClampNeg x1) (I t 25))) t 22).toInt = ((I t 22)).toInt := congrArg Int32.toInt (uI_ne (by omega) rfl)
      have hr9 : (((uI I (t + 29) (Int32.toNatClampNeg x1) (I t 25))) t 8).toInt = ((I t 8)).toInt := congrArg Int32.toInt (uI_ne (by omega) rfl)
      refine fsfX12_look ht (WM_uI hW (by first | exact okMo (by decide) (by decide) (by decide) (by decide) (by decide) | exact okMf (by decide) (by decide) (by decide) (by decide) (by decide) (by decide) (by decide) (by decide) | exact okM30 (by omega) | exact okM42 (by omega) | exact okM33 (by omega) | exact okM10 (by omega) | exact okM8 (by omega) | exact okM22 (by omega) | exact okM24 (by omega) | exact okM14 (by omega) | exact okMa31 (by omega) | exact okMa35 (by omega) | exact okMa36 (by omega) | exact okMa3 (by omega) | exact okMr (by omega) | (unfold okM; refine ⟨?_, ?_, ?_, ?_, ?_, ?_, ?_, ?_, ?_, ?_, ?_, ?_⟩ <;> intro h <;> omega))) (by omega) (fun I6 hWI6 hFI6 hp7 => ?_)
      have hwI6 := WM_f hWI6
      have hlk := hp7
      rw [hE8, hE9] at hlk
      have hn1 := tn_eq x1
      have ht0 := hFI6 (t + 29) 0 (by omega)
      have ht1 := hFI6 (t + 29) 1 (by omega)
      have h26 := congrArg Int32.toInt (hFI6 t 26 (by omega))
      rw [hE8] at h26
      have hta : x1.toInt = 0 → (I6 (t + 29) 0).toInt = (I t 25).toInt ∧ (I6 (t + 29) 1).toInt = (I (t + 29) 1).toInt := fun h => ⟨by rw [ht0, uI_ap, if_pos ⟨rfl, by omega⟩], by rw [ht1, uI_ap, if_neg (by omega)]⟩
      have htb : x1.toInt = 1 → (I6 (t + 29) 1).toInt = (I t 25).toInt ∧ (I6 (t + 29) 0).toInt = (I (t + 29) 0).toInt := fun h => ⟨by rw [ht1, uI_ap, if_pos ⟨rfl, by omega⟩], by rw [ht0, uI_ap, if_neg (by omega)]⟩
      have q12 : (1 : Int32).toInt = 1 := rfl
      exact hK _ _ hWI6 (Fr.tr (Fr_uI Fr.rf (by omega)) hFI6 (by intro a k h; omega)) (by first | exact Or.inr ⟨by omega, by omega, by omega⟩ | exact Or.inl ⟨⟨by omega, by omega, by omega⟩, by omega, hlk.1, fun q => vl_of (hlk.2 q) rfl ((tkp_f hlk.1.2.2.1).2 (by omega)).2, by omega, fun q => by have := hta q; omega, fun q => by have := htb q; omega⟩)
    · skip
      have q9 := i32_lo v4
      have q10 : (0 : Int32).toInt = 0 := rfl
      have hc6 := Int32.toInt_inj.mpr hc6
      refine fsfX12_wrong ht hW  (fun v9 I8 hWI8 hFI8 hp10 => ?_)
      have hwI8 := WM_f hWI8
      have q11 := i32_lo v9
      refine ⟨narrow_b (by omega), ?_⟩
      exact hK _ _ hWI8 (Fr.tr Fr.rf hFI8 (by intro a k h; omega)) (by first | exact Or.inr ⟨by omega, by omega, by omega⟩ | exact Or.inl ⟨⟨by omega, by omega, by omega⟩, by omega, hlk.1, fun q => vl_of (hlk.2 q) rfl ((tkp_f hlk.1.2.2.1).2 (by omega)).2, by omega, fun q => by have := hta q; omega, fun q => by have := htb q; omega⟩)
theorem gX5_isWord_28 {G : jdG} {n : Nat} {Z : jdL} {J : jdJ} {rc rs : Nat} {K : Int32 → jdI → jdJ → Prop}  {I : jdI} {sA : Nat → Nat} {sV : Nat → Nat} {u1 : Nat} (hG : gOK G sA sV) (ht : zScribe Z 25) (hsi : u1 < 14)  (hW : WX I) (hq : TKp (I (25 + 1)) (I 25 1).toInt (I 25 2).toInt (I 25 3).toInt (I 25 4).toInt) (hK : ∀ (v : Int32), ((v.toInt = 1 ∧ WD (I (25 + 1)) (I 25 2).toInt (I 25 3).toInt (I 25 4).toInt u1) ∨ (v.toInt = 0 ∧ ¬ WD (I (25 + 1)) (I 25 2).toInt (I 25 3).toInt (I 25 4).toInt u1)) → K v I J) : ∀ m : Nat, ∀ (x2 : Int32), (0 ≤ x2.toInt ∧ x2.toInt ≤ 7) → (TKp (I (25 + 1)) (I 25 1).toInt (I 25 2).toInt (I 25 3).toInt (I 25 4).toInt) → ((I 25 2).toInt = 1) → ((I 25 4).toInt - (I 25 3).toInt = (sl u1).toInt) → (∀ q : Nat, (q : Int) < x2.toInt → (I (25 + 1)) ((I 25 3).toInt.toNat + q) = sc u1 q) → (7) - x2.toInt < (m : Int) → Jd G mX5_isWord (jdFm G (qi Z K)) (n + 4) rc rs 28 [(0, .ref (gb G + 25)), (1, .ref (sA u1)), (2, .int x2)] [] Z I J := by
  intro m
  induction m with
  | zero =>
    intro x2 hx2 hq htk hln hk hm
    have hwI := WX_f hW
    omega
  | succ m ih =>
    intro x2 hx2 hq htk hln hk hm
    have hwI := WX_f hW
    refine rX5_isWord_28 hG ht hsi ?_
    have hqf := tkp_f hq
    have hsl := sl_r u1
    have hix : x2.toInt < (sl u1).toInt → ((I 25 3) + x2).toInt = (I 25 3).toInt + x2.toInt := fun h => i32_add _ _ (by omega) (by omega)
    refine sfJ0_length_8abf5 hG hsi   (fun v2  hp1 => ?_)
    have hl := hp1
    have hlt := congrArg Int32.toInt hp1
    have hsl := sl_r u1
    refine ⟨fun hc2 => ?_, fun hc3 => ?_⟩
    · skip
      have q1 := i32_lo v2
      have q2 := i32_lo x2
      have hc2 := Int32.le_iff_toInt_le.mp hc2
      have q3 : (1 : Int32).toInt = 1 := rfl
      exact hK _  (by first | exact Or.inl ⟨by omega, htk, hln, fun q hq9 => hk q (by omega)⟩ | (exfalso; omega) | exact Or.inr ⟨by omega, fun h => by have h9 := h.1; omega⟩ | exact Or.inr ⟨by omega, fun h => by have h9 := h.2.1; omega⟩ | exact Or.inr ⟨by omega, fun h => wd_no (p := Int32.toNatClampNeg ((I 25 3) + x2)) h hch ⟨by omega, by omega⟩ (by omega) (by simp only [tn_eq]; omega) (by assumption)⟩)
    · skip
      have q1 := i32_lo v2
      have q2 := i32_lo x2
      have hc3 := mt Int32.le_iff_toInt_le.mpr hc3
      refine ⟨fun hc4 => ?_, fun hc5 => ?_⟩
      · skip
        have q3 := i32_lo (I 25 1)
        have q4 := i32_lo (I 25 3)
        have q5 := i32_addI (I 25 3) x2
        have hc4 := Int32.le_iff_toInt_le.mp hc4
        have q6 : (1 : Int32).toInt = 1 := rfl
        exact hK _  (by first | exact Or.inl ⟨by omega, htk, hln, fun q hq9 => hk q (by omega)⟩ | (exfalso; omega) | exact Or.inr ⟨by omega, fun h => by have h9 := h.1; omega⟩ | exact Or.inr ⟨by omega, fun h => by have h9 := h.2.1; omega⟩ | exact Or.inr ⟨by omega, fun h => wd_no (p := Int32.toNatClampNeg ((I 25 3) + x2)) h hch ⟨by omega, by omega⟩ (by omega) (by simp only [tn_eq]; omega) (by assumption)⟩)
      · skip
        have q3 := i32_lo (I 25 1)
        have q4 := i32_lo (I 25 3)
        have q5 := i32_addI (I 25 3) x2
        have hc5 := mt Int32.le_iff_toInt_le.mpr hc5
        refine ⟨vp_of (by omega) (by omega), ?_⟩
        refine sfJ0_charAt_5068e hG hsi  (by rw [← hl]; omega) (fun v5  hp6 => ?_)
        have hch := hp6
        refine ⟨fun hc7 => ?_, fun hc8 => ?_⟩
        · skip
          have q6 := i32_lo v5
          have hc7 := Int32.toInt_inj.mpr hc7
          have q7 : (1 : Int32).toInt = 1 := rfl
          have q8 := i32_add x2 1 (by omega) (by omega)
          exact ih (x2 + 1) (by omega) (by assumption) (by omega) (by omega) (by first | exact (fun q hq9 => by exfalso; omega) | exact wd_s (p := Int32.toNatClampNeg ((I 25 3) + x2)) hk hch (by omega) (by omega) (by simp only [tn_eq]; omega) (Int32.toInt_inj.mp (by assumption)) (by omega)) (by omega)
        · skip
          have q6 := i32_lo v5
          have hc8 : ¬ ((I (25 + 1) (Int32.toNatClampNeg ((I 25 3) + x2)))).toInt = (v5).toInt := fun z => hc8 (Int32.toInt_inj.mp z)
          have q7 : (0 : Int32).toInt = 0 := rfl
          exact hK _  (by first | exact Or.inl ⟨by omega, htk, hln, fun q hq9 => hk q (by omega)⟩ | (exfalso; omega) | exact Or.inr ⟨by omega, fun h => by have h9 := h.1; omega⟩ | exact Or.inr ⟨by omega, fun h => by have h9 := h.2.1; omega⟩ | exact Or.inr ⟨by omega, fun h => wd_no (p := Int32.toNatClampNeg ((I 25 3) + x2)) h hch ⟨by omega, by omega⟩ (by omega) (by simp only [tn_eq]; omega) (by assumption)⟩)
theorem fsfX5_isWord {G : jdG} {n : Nat} {Z : jdL} {J : jdJ} {K : Int32 → jdI → jdJ → Prop}  {I : jdI} {sA : Nat → Nat} {sV : Nat → Nat} {u1 : Nat} (hG : gOK G sA sV) (ht : zScribe Z 25) (hsi : u1 < 14)  (hW : WX I) (hq : TKp (I (25 + 1)) (I 25 1).toInt (I 25 2).toInt (I 25 3).toInt (I 25 4).toInt) (hK : ∀ (v : Int32), ((v.toInt = 1 ∧ WD (I (25 + 1)) (I 25 2).toInt (I 25 3).toInt (I 25 4).toInt u1) ∨ (v.toInt = 0 ∧ ¬ WD (I (25 + 1)) (I 25 2).toInt (I 25 3).toInt (I 25 4).toInt u1)) → K v I J) : Cl G mX5_isWord (n + 4) 0 0 [.ref (gb G + 25), .ref (sA u1)] Z I J (qi Z K) := by
  refine eX5_isWord hG ht hsi ?_
  have hwI := WX_f hW
  have hqf := tkp_f hq
  have hsl := sl_r u1
  refine ⟨fun hc1 => ?_, fun hc2 => ?_⟩
  · skip
    have q1 := i32_lo (I 25 2)
    have q2 : (1 : Int32).toInt = 1 := rfl
    have hc1 : ¬ ((I 25 2)).toInt = (1 : Int32).toInt := fun z => hc1 (Int32.toInt_inj.mp z)
    have q3 : (0 : Int32).toInt = 0 := rfl
    exact hK _  (by first | exact Or.inl ⟨by omega, htk, hln, fun q hq9 => hk q (by omega)⟩ | (exfalso; omega) | exact Or.inr ⟨by omega, fun h => by have h9 := h.1; omega⟩ | exact Or.inr ⟨by omega, fun h => by have h9 := h.2.1; omega⟩ | exact Or.inr ⟨by omega, fun h => wd_no (p := Int32.toNatClampNeg ((I 25 3) + x2)) h hch ⟨by omega, by omega⟩ (by omega) (by simp only [tn_eq]; omega) (by assumption)⟩)
  · skip
    have q1 := i32_lo (I 25 2)
    have q2 : (1 : Int32).toInt = 1 := rfl
    have hc2 := Int32.toInt_inj.mpr hc2
    refine sfJ0_length_8abf5 hG hsi   (fun v2  hp3 => ?_)
    have hl := hp3
    have hlt := congrArg Int32.toInt hp3
    have hsl := sl_r u1
    refine ⟨fun hc4 => ?_, fun hc5 => ?_⟩
    · skip
      have q3 := i32_lo (I 25 4)
      have q4 := i32_lo (I 25 3)
      have q5 := i32_subI (I 25 4) (I 25 3)
      have q6 := i32_lo v2
      have hc4 := Int32.toInt_inj.mpr hc4
      have q7 : (0 : Int32).toInt = 0 := rfl
      exact gX5_isWord_28 hG ht hsi  hW hq hK  (((7) - (0 : Int32).toInt).toNat + 1) 0 (by omega) (by assumption) (by omega) (by omega) (by first | exact (fun q hq9 => by exfalso; omega) | exact wd_s (p := Int32.toNatClampNeg ((I 25 3) + x2)) hk hch (by omega) (by omega) (by simp only [tn_eq]; omega) (Int32.toInt_inj.mp (by assumption)) (by omega)) (by omega)
    · skip
      have q3 := i32_lo (I 25 4)
      have q4 := i32_lo (I 25 3)
      have q5 := i32_subI (I 25 4) (I 25 3)
      have q6 := i32_lo v2
      have hc5 : ¬ (((I 25 4) - (I 25 3))).toInt = (v2).toInt := fun z => hc5 (Int32.toInt_inj.mp z)
      have q7 : (0 : Int32).toInt = 0 := rfl
      exact hK _  (by first | exact Or.inl ⟨by omega, htk, hln, fun q hq9 => hk q (by omega)⟩ | (exfalso; omega) | exact Or.inr ⟨by omega, fun h => by have h9 := h.1; omega⟩ | exact Or.inr ⟨by omega, fun h => by have h9 := h.2.1; omega⟩ | exact Or.inr ⟨by omega, fun h => wd_no (p := Int32.toNatClampNeg ((I 25 3) + x2)) h hch ⟨by omega, by omega⟩ (by omega) (by simp only [tn_eq]; omega) (by assumption)⟩)
theorem gX12_isWord_28 {G : jdG} {n : Nat} {Z : jdL} {J : jdJ} {rc rs : Nat} {K : Int32 → jdI → jdJ → Prop}  {I : jdI} {sA : Nat → Nat} {sV : Nat → Nat} {t : Nat} {u1 : Nat} (hG : gOK G sA sV) (ht : zModel Z t) (hsi : u1 < 14)  (hW : WM 7 t I) (hq : TKp (I (t + 16)) (I t 8).toInt (I t 23).toInt (I t 24).toInt (I t 22).toInt) (hK : ∀ (v : Int32), ((v.toInt = 1 ∧ WD (I (t + 16)) (I t 23).toInt (I t 24).toInt (I t 22).toInt u1) ∨ (v.toInt = 0 ∧ ¬ WD (I (t + 16)) (I t 23).toInt (I t 24).toInt (I t 22).toInt u1)) → K v I J) : ∀ m : Nat, ∀ (x2 : Int32), (0 ≤ x2.toInt ∧ x2.toInt ≤ 7) → (TKp (I (t + 16)) (I t 8).toInt (I t 23).toInt (I t 24).toInt (I t 22).toInt) → ((I t 23).toInt = 1) → ((I t 22).toInt - (I t 24).toInt = (sl u1).toInt) → (∀ q : Nat, (q : Int) < x2.toInt → (I (t + 16)) ((I t 24).toInt.toNat + q) = sc u1 q) → (7) - x2.toInt < (m : Int) → Jd G mX12_isWord (jdFm G (qi Z K)) (n + 4) rc rs 28 [(0, .ref (gb G + t)), (1, .ref (sA u1)), (2, .int x2)] [] Z I J := by
  intro m
  induction m with
  | zero =>
    intro x2 hx2 hq htk hln hk hm
    have hwI := WM_f hW
    omega
  | succ m ih =>
    intro x2 hx2 hq htk hln hk hm
    have hwI := WM_f hW
    refine rX12_isWord_28 hG ht hsi ?_
    have hqf := tkp_f hq
    have hsl := sl_r u1
    have hix : x2.toInt < (sl u1).toInt → ((I t 24) + x2).toInt = (I t 24).toInt + x2.toInt := fun h => i32_add _ _ (by omega) (by omega)
    refine sfJ0_length_8abf5 hG hsi   (fun v2  hp1 => ?_)
    have hl := hp1
    have hlt := congrArg Int32.toInt hp1
    have hsl := sl_r u1
    refine ⟨fun hc2 => ?_, fun hc3 => ?_⟩
    · skip
      have q1 := i32_lo v2
      have q2 := i32_lo x2
      have hc2 := Int32.le_iff_toInt_le.mp hc2
      have q3 : (1 : Int32).toInt = 1 := rfl
      exact hK _  (by first | exact Or.inl ⟨by omega, htk, hln, fun q hq9 => hk q (by omega)⟩ | (exfalso; omega) | exact Or.inr ⟨by omega, fun h => by have h9 := h.1; omega⟩ | exact Or.inr ⟨by omega, fun h => by have h9 := h.2.1; omega⟩ | exact Or.inr ⟨by omega, fun h => wd_no (p := Int32.toNatClampNeg ((I t 24) + x2)) h hch ⟨by omega, by omega⟩ (by omega) (by simp only [tn_eq]; omega) (by assumption)⟩)
    · skip
      have q1 := i32_lo v2
      have q2 := i32_lo x2
      have hc3 := mt Int32.le_iff_toInt_le.mpr hc3
      have q3 := i32_lo (I t 24)
      have q4 := i32_add (I t 24) x2 (by omega) (by omega)
      refine ⟨vp_of (by omega) (by omega), ?_⟩
      refine sfJ0_charAt_5068e hG hsi  (by rw [← hl]; omega) (fun v5  hp4 => ?_)
      have hch := hp4
      refine ⟨fun hc5 => ?_, fun hc6 => ?_⟩
      · skip
        have q5 := i32_lo v5
        have hc5 := Int32.toInt_inj.mpr hc5
        have q6 : (1 : Int32).toInt = 1 := rfl
        have q7 := i32_add x2 1 (by omega) (by omega)
        exact ih (x2 + 1) (by omega) (by assumption) (by omega) (by omega) (by first | exact (fun q hq9 => by exfalso; omega) | exact wd_s (p := Int32.toNatClampNeg ((I t 24) + x2)) hk hch (by omega) (by omega) (by simp only [tn_eq]; omega) (Int32.toInt_inj.mp (by assumption)) (by omega)) (by omega)
      · skip
        have q5 := i32_lo v5
        have hc6 : ¬ ((I (t + 16) (Int32.toNatClampNeg ((I t 24) + x2)))).toInt = (v5).toInt := fun z => hc6 (Int32.toInt_inj.mp z)
        have q6 : (0 : Int32).toInt = 0 := rfl
        exact hK _  (by first | exact Or.inl ⟨by omega, htk, hln, fun q hq9 => hk q (by omega)⟩ | (exfalso; omega) | exact Or.inr ⟨by omega, fun h => by have h9 := h.1; omega⟩ | exact Or.inr ⟨by omega, fun h => by have h9 := h.2.1; omega⟩ | exact Or.inr ⟨by omega, fun h => wd_no (p := Int32.toNatClampNeg ((I t 24) + x2)) h hch ⟨by omega, by omega⟩ (by omega) (by simp only [tn_eq]; omega) (by assumption)⟩)
theorem fsfX12_isWord {G : jdG} {n : Nat} {Z : jdL} {J : jdJ} {K : Int32 → jdI → jdJ → Prop}  {I : jdI} {sA : Nat → Nat} {sV : Nat → Nat} {t : Nat} {u1 : Nat} (hG : gOK G sA sV) (ht : zModel Z t) (hsi : u1 < 14)  (hW : WM 7 t I) (hq : TKp (I (t + 16)) (I t 8).toInt (I t 23).toInt (I t 24).toInt (I t 22).toInt) (hK : ∀ (v : Int32), ((v.toInt = 1 ∧ WD (I (t + 16)) (I t 23).toInt (I t 24).toInt (I t 22).toInt u1) ∨ (v.toInt = 0 ∧ ¬ WD (I (t + 16)) (I t 23).toInt (I t 24).toInt (I t 22).toInt u1)) → K v I J) : Cl G mX12_isWord (n + 4) 0 0 [.ref (gb G + t), .ref (sA u1)] Z I J (qi Z K) := by
  refine eX12_isWord hG ht hsi ?_
  have hwI := WM_f hW
  have hqf := tkp_f hq
  have hsl := sl_r u1
  refine ⟨fun hc1 => ?_, fun hc2 => ?_⟩
  · skip
    have q1 := i32_lo (I t 23)
    have q2 : (1 : Int32).toInt = 1 := rfl
    have hc1 : ¬ ((I t 23)).toInt = (1 : Int32).toInt := fun z => hc1 (Int32.toInt_inj.mp z)
    have q3 : (0 : Int32).toInt = 0 := rfl
    exact hK _  (by first | exact Or.inl ⟨by omega, htk, hln, fun q hq9 => hk q (by omega)⟩ | (exfalso; omega) | exact Or.inr ⟨by omega, fun h => by have h9 := h.1; omega⟩ | exact Or.inr ⟨by omega, fun h => by have h9 := h.2.1; omega⟩ | exact Or.inr ⟨by omega, fun h => wd_no (p := Int32.toNatClampNeg ((I t 24) + x2)) h hch ⟨by omega, by omega⟩ (by omega) (by simp only [tn_eq]; omega) (by assumption)⟩)
  · skip
    have q1 := i32_lo (I t 23)
    have q2 : (1 : Int32).toInt = 1 := rfl
    have hc2 := Int32.toInt_inj.mpr hc2
    refine sfJ0_length_8abf5 hG hsi   (fun v2  hp3 => ?_)
    have hl := hp3
    have hlt := congrArg Int32.toInt hp3
    have hsl := sl_r u1
    refine ⟨fun hc4 => ?_, fun hc5 => ?_⟩
    · skip
      have q3 := i32_lo (I t 22)
      have q4 := i32_lo (I t 24)
      have q5 := i32_subI (I t 22) (I t 24)
      have q6 := i32_lo v2
      have hc4 := Int32.toInt_inj.mpr hc4
      have q7 : (0 : Int32).toInt = 0 := rfl
      exact gX12_isWord_28 hG ht hsi  hW hq hK  (((7) - (0 : Int32).toInt).toNat + 1) 0 (by omega) (by assumption) (by omega) (by omega) (by first | exact (fun q hq9 => by exfalso; omega) | exact wd_s (p := Int32.toNatClampNeg ((I t 24) + x2)) hk hch (by omega) (by omega) (by simp only [tn_eq]; omega) (Int32.toInt_inj.mp (by assumption)) (by omega)) (by omega)
    · skip
      have q3 := i32_lo (I t 22)
      have q4 := i32_lo (I t 24)
      have q5 := i32_subI (I t 22) (I t 24)
      have q6 := i32_lo v2
      have hc5 : ¬ (((I t 22) - (I t 24))).toInt = (v2).toInt := fun z => hc5 (Int32.toInt_inj.mp z)
      have q7 : (0 : Int32).toInt = 0 := rfl
      exact hK _  (by first | exact Or.inl ⟨by omega, htk, hln, fun q hq9 => hk q (by omega)⟩ | (exfalso; omega) | exact Or.inr ⟨by omega, fun h => by have h9 := h.1; omega⟩ | exact Or.inr ⟨by omega, fun h => by have h9 := h.2.1; omega⟩ | exact Or.inr ⟨by omega, fun h => wd_no (p := Int32.toNatClampNeg ((I t 24) + x2)) h hch ⟨by omega, by omega⟩ (by omega) (by simp only [tn_eq]; omega) (by assumption)⟩)
