theorem cp_end {J J0 : jdJ} {a b sp dp q : Nat} {x5 x6 : Int32} (h1 : x5.toInt ≤ x6.toInt) (h2 : x6.toInt ≤ x5.toInt) (h : J b q = va_cpy (J0 a) (J0 b) sp dp (Int32.toNatClampNeg x6) q) : J b q = va_cpy (J0 a) (J0 b) sp dp (Int32.toNatClampNeg x5) q := by
  have e : x5 = x6 := Int32.toInt_inj.mp (by omega)
  rw [e]
  exact h
theorem cp_1 {J J0 : jdJ} {t a : Nat} {x3 x6 : Int32} (hJ : (∀ q : Nat, (q : Int) < x6.toInt → J (t + 13) q = J0 a (Int32.toNatClampNeg x3 + q)) ∧ ∀ c, c ≠ t + 13 → J c = J0 c) (h0 : 0 ≤ x6.toInt) (h1 : x6.toInt < 40) (h2 : 0 ≤ x3.toInt) (h3 : x3.toInt ≤ 40) (ha : a ≠ t + 13) : (∀ q : Nat, (q : Int) < (x6 + 1).toInt → (uJ J (t + 13) (Int32.toNatClampNeg x6) (J a (Int32.toNatClampNeg (x3 + x6)))) (t + 13) q = J0 a (Int32.toNatClampNeg x3 + q)) ∧ ∀ c, c ≠ t + 13 → (uJ J (t + 13) (Int32.toNatClampNeg x6) (J a (Int32.toNatClampNeg (x3 + x6)))) c = J0 c := by
  have q1 : (1 : Int32).toInt = 1 := rfl
  have e1 := i32_add x6 1 (by omega) (by omega)
  have e2 := i32_add x3 x6 (by omega) (by omega)
  have n1 := tn_eq x6
  have n2 := tn_eq x3
  have n3 := tn_eq (x3 + x6)
  refine ⟨fun q hq => ?_, fun c hc => (uJ_n _ _ _ hc).trans (hJ.2 c hc)⟩
  rw [uJ_ap]
  by_cases h : q = Int32.toNatClampNeg x6
  · rw [if_pos ⟨rfl, h⟩, hJ.2 a ha, h, show Int32.toNatClampNeg (x3 + x6) = Int32.toNatClampNeg x3 + Int32.toNatClampNeg x6 by omega]
  · rw [if_neg (fun z => h z.2)]
    exact hJ.1 q (by omega)
theorem cp_2 {J J0 : jdJ} {t a b dp : Nat} {x3 x5 x6 : Int32} (hJ : (∀ q : Nat, (q : Int) < x6.toInt → J (t + 13) q = J0 a (Int32.toNatClampNeg x3 + q)) ∧ ∀ c, c ≠ t + 13 → J c = J0 c) (h1 : x5.toInt ≤ x6.toInt) (hb : b ≠ t + 13) : (∀ q : Nat, J b q = va_cpy (J0 a) (J0 b) (Int32.toNatClampNeg x3) dp (Int32.toNatClampNeg 0) q) ∧ (∀ q : Nat, (q : Int) < x5.toInt → J (t + 13) q = J0 a (Int32.toNatClampNeg x3 + q)) ∧ ∀ c, c ≠ t + 13 → c ≠ b → J c = J0 c := by
  have z : Int32.toNatClampNeg 0 = 0 := rfl
  refine ⟨fun q => ?_, fun q hq => hJ.1 q (by omega), fun c h1 _ => hJ.2 c h1⟩
  unfold va_cpy
  rw [z, if_neg (by omega), hJ.2 b hb]
theorem cp_3 {J J0 : jdJ} {t a b : Nat} {x3 x4 x5 x6 : Int32} (hJ : (∀ q : Nat, J b q = va_cpy (J0 a) (J0 b) (Int32.toNatClampNeg x3) (Int32.toNatClampNeg x4) (Int32.toNatClampNeg x6) q) ∧ (∀ q : Nat, (q : Int) < x5.toInt → J (t + 13) q = J0 a (Int32.toNatClampNeg x3 + q)) ∧ ∀ c, c ≠ t + 13 → c ≠ b → J c = J0 c) (h0 : 0 ≤ x6.toInt) (h1 : x6.toInt < x5.toInt) (h2 : 0 ≤ x4.toInt) (h3 : x4.toInt + x5.toInt ≤ 40) (hb : b ≠ t + 13) : (∀ q : Nat, (uJ J b (Int32.toNatClampNeg (x4 + x6)) (J (t + 13) (Int32.toNatClampNeg x6))) b q = va_cpy (J0 a) (J0 b) (Int32.toNatClampNeg x3) (Int32.toNatClampNeg x4) (Int32.toNatClampNeg (x6 + 1)) q) ∧ (∀ q : Nat, (q : Int) < x5.toInt → (uJ J b (Int32.toNatClampNeg (x4 + x6)) (J (t + 13) (Int32.toNatClampNeg x6))) (t + 13) q = J0 a (Int32.toNatClampNeg x3 + q)) ∧ ∀ c, c ≠ t + 13 → c ≠ b → (uJ J b (Int32.toNatClampNeg (x4 + x6)) (J (t + 13) (Int32.toNatClampNeg x6))) c = J0 c := by
  have q1 : (1 : Int32).toInt = 1 := rfl
  have e1 := i32_add x6 1 (by omega) (by omega)
  have e2 := i32_add x4 x6 (by omega) (by omega)
  have n1 := tn_eq x6
  have n2 := tn_eq x4
  have n3 := tn_eq (x4 + x6)
  have n4 := tn_eq (x6 + 1)
  refine ⟨fun q => ?_, fun q hq => ?_, fun c h1 h2 => (uJ_n _ _ _ h2).trans (hJ.2.2 c h1 h2)⟩
  · rw [uJ_ap]
    by_cases h : q = Int32.toNatClampNeg (x4 + x6)
    · rw [if_pos ⟨rfl, h⟩, hJ.2.1 _ (by omega)]
      unfold va_cpy
      rw [if_pos (by omega)]
      congr 1
      omega
    · rw [if_neg (fun z => h z.2), hJ.1 q]
      unfold va_cpy
      by_cases hc : Int32.toNatClampNeg x4 ≤ q ∧ q < Int32.toNatClampNeg x4 + Int32.toNatClampNeg x6
      · rw [if_pos hc, if_pos (by omega)]
      · rw [if_neg hc, if_neg (by omega)]
  · rw [uJ_ap, if_neg (fun z => hb z.1.symm)]
    exact hJ.2.1 q hq
def bs (x : Int32) : Nat → Int32
  | 0 => 0
  | k + 1 => bs x k + ((x >>> (Int32.ofNat k &&& 31)) &&& 1)
theorem bs_step {x y i : Int32} (h0 : 0 ≤ i.toInt) (h1 : i.toInt < 8) (hb : y = bs x (Int32.toNatClampNeg i)) : y + ((x >>> (i &&& 31)) &&& 1) = bs x (Int32.toNatClampNeg (i + 1)) := by
  have e : Int32.toNatClampNeg (i + 1) = Int32.toNatClampNeg i + 1 := by
    rw [tn_eq, tn_eq, i32_add i 1 (by show _ ≤ i.toInt + 1; omega) (by show i.toInt + 1 ≤ _; omega)]
    show (i.toInt + 1).toNat = _
    omega
  rw [e, hb]
  show _ = bs x (Int32.toNatClampNeg i) + ((x >>> (Int32.ofNat (Int32.toNatClampNeg i) &&& 31)) &&& 1)
  rw [tn_eq, ← i32_ofNat h0]
theorem bs_end {x y i : Int32} (h0 : i.toInt ≤ 8) (h1 : 8 ≤ i.toInt) (hb : y = bs x (Int32.toNatClampNeg i)) : y = bs x 8 := by
  have e : Int32.toNatClampNeg i = 8 := by
    rw [tn_eq]
    omega
  rw [hb, e]
theorem sfX12_in {G : jdG} {n : Nat} {Z : jdL} {J : jdJ} {K : Int32 → jdI → jdJ → Prop}  {I : jdI} {y0 : Int64} {y2 : Int64} {y4 : Int64}   (hW : True)  (hK : ∀ (v : Int32), ((v.toInt = 1 ∧ y2.toInt ≤ y0.toInt ∧ y0.toInt ≤ y4.toInt) ∨ (v.toInt = 0 ∧ ¬ (y2.toInt ≤ y0.toInt ∧ y0.toInt ≤ y4.toInt))) → K v I J) : Cl G mX12_in n 0 0 [.long y0, .long y2, .long y4] Z I J (qi Z K) := by
  refine eX12_in  ?_
  refine ⟨fun hc1 => ?_, fun hc2 => ?_⟩
  · skip
    have q1 := lg_f y0 y2
    have q2 : (0 : Int32).toInt = 0 := rfl
    have hc1 := Int32.lt_iff_toInt_lt.mp hc1
    exact hK _  (by omega)
  · skip
    have q1 := lg_f y0 y2
    have q2 : (0 : Int32).toInt = 0 := rfl
    have hc2 := mt Int32.lt_iff_toInt_lt.mpr hc2
    refine ⟨fun hc3 => ?_, fun hc4 => ?_⟩
    · skip
      have q3 := lg_f y0 y4
      have hc3 := Int32.lt_iff_toInt_lt.mp hc3
      exact hK _  (by omega)
    · skip
      have q3 := lg_f y0 y4
      have hc4 := mt Int32.lt_iff_toInt_lt.mpr hc4
      have q4 : (1 : Int32).toInt = 1 := rfl
      exact hK _  (by omega)
theorem sfX12_refuse {G : jdG} {n : Nat} {Z : jdL} {J : jdJ} {K : Int32 → jdI → jdJ → Prop} {c : Int} {I : jdI} {t : Nat} {x1 : Int32} (ht : zModel Z t)  (hc : c ≤ 8) (hW : WM c t I) (hx1 : -7 ≤ x1.toInt ∧ x1.toInt ≤ 0) (hK : ∀ (v : Int32) (I2 : jdI), WM c t I2 → Fr (fun a k => a = t + 17) I I2 → (v.toInt = x1.toInt) → K v I2 J) : Cl G mX12_refuse n 0 0 [.ref (gb G + t), .int x1] Z I J (qi Z K) := by
  refine eX12_refuse ht ?_
  have hwI := WM_f hW
  have q1 := i32_lo x1
  have q2 := i32_neg x1 (by omega)
  refine ⟨vp_of (by omega) (by omega), ?_⟩
  refine ⟨vp_of (by omega) (by omega), ?_⟩
  exact hK _ _ (WM_uI hW (by first | exact okMo (by decide) (by decide) (by decide) (by decide) (by decide) | exact okMf (by decide) (by decide) (by decide) (by decide) (by decide) (by decide) (by decide) (by decide) | exact okM30 (by omega) | exact okM42 (by omega) | exact okM33 (by omega) | exact okM10 (by omega) | exact okM8 (by omega) | exact okM22 (by omega) | exact okM24 (by omega) | exact okM14 (by omega) | exact okMa31 (by omega) | exact okMa35 (by omega) | exact okMa36 (by omega) | exact okMa3 (by omega) | exact okMr (by omega) | (unfold okM; refine ⟨?_, ?_, ?_, ?_, ?_, ?_, ?_, ?_, ?_, ?_, ?_, ?_⟩ <;> intro h <;> omega))) (Fr_uI Fr.rf (by omega)) rfl
theorem sfX12_isOne {G : jdG} {n : Nat} {Z : jdL} {J : jdJ} {K : Int32 → jdI → jdJ → Prop}  {I : jdI} {t : Nat} {x1 : Int32} (ht : zModel Z t)  (hW : WM 7 t I)  (hK : ∀ (v : Int32), ((v.toInt = 1 ∧ 0 ≤ x1.toInt ∧ x1.toInt < (I t 10).toInt) ∨ (v.toInt = 0 ∧ ¬ (0 ≤ x1.toInt ∧ x1.toInt < (I t 10).toInt))) → K v I J) : Cl G mX12_isOne (n + 1) 0 0 [.ref (gb G + t), .int x1] Z I J (qi Z K) := by
  refine eX12_isOne ht ?_
  have hwI := WM_f hW
  have q1 := i32_lo x1
  have q2 : (Int32.toInt64 x1).toInt = (x1).toInt := Int32.toInt_toInt64 _
  have q3 : (0 : Int64).toInt = 0 := rfl
  have q4 := i32_lo (I t 10)
  have q5 : (1 : Int32).toInt = 1 := rfl
  have q6 := i32_sub (I t 10) 1 (by omega) (by omega)
  have q7 : (Int32.toInt64 ((I t 10) - 1)).toInt = (((I t 10) - 1)).toInt := Int32.toInt_toInt64 _
  refine sfX12_in  trivial  (fun v2  hp1 => ?_)
  have q8 := i32_lo v2
  refine ⟨narrow_b (by omega), ?_⟩
  exact hK _  (by omega)
theorem sfX12_all {G : jdG} {n : Nat} {Z : jdL} {J : jdJ} {K : Int32 → jdI → jdJ → Prop} {c : Int} {I : jdI} {t : Nat} (ht : zModel Z t)  (hc : c ≤ 8) (hW : WM c t I)  (hK : ∀ (v : Int32), (v = ((1 : Int32) <<< ((I t 10) &&& 31)) - 1 ∧ (0 ≤ v.toInt ∧ v.toInt ≤ 255) ∧ ((I t 10).toInt ≤ 7 → v.toInt ≤ 127)) → K v I J) : Cl G mX12_all n 0 0 [.ref (gb G + t)] Z I J (qi Z K) := by
  refine eX12_all ht ?_
  have hwI := WM_f hW
  exact hK _  ⟨rfl, (ev_8 (by omega) (by omega)).2.2, fun h => (ev_7 (by omega) h).2.2.2⟩
theorem sfX12_isSet {G : jdG} {n : Nat} {Z : jdL} {J : jdJ} {K : Int32 → jdI → jdJ → Prop}  {I : jdI} {t : Nat} {x1 : Int32} (ht : zModel Z t)  (hW : WM 7 t I)  (hK : ∀ (v : Int32), (v.toInt = 0 ∨ (v.toInt = 1 ∧ 0 ≤ x1.toInt ∧ x1.toInt ≤ 127)) → K v I J) : Cl G mX12_isSet (n + 1) 0 0 [.ref (gb G + t), .int x1] Z I J (qi Z K) := by
  refine eX12_isSet ht ?_
  have hwI := WM_f hW
  refine sfX12_all ht (by decide) hW  (fun v2  hp1 => ?_)
  have q1 := i32_lo x1
  have q2 : (Int32.toInt64 x1).toInt = (x1).toInt := Int32.toInt_toInt64 _
  have q3 : (0 : Int64).toInt = 0 := rfl
  have q4 := i32_lo v2
  have q5 : (Int32.toInt64 v2).toInt = (v2).toInt := Int32.toInt_toInt64 _
  refine sfX12_in  trivial  (fun v4  hp2 => ?_)
  have q6 := i32_lo v4
  refine ⟨narrow_b (by omega), ?_⟩
  exact hK _  (by omega)
theorem sfX12_has {G : jdG} {n : Nat} {Z : jdL} {J : jdJ} {K : Int32 → jdI → jdJ → Prop}  {I : jdI} {x0 : Int32} {x1 : Int32}   (hW : True)  (hK : ∀ (v : Int32), ((v.toInt = 0 ∧ ((x0 >>> (x1 &&& 31)) &&& 1).toInt = 0) ∨ (v.toInt = 1 ∧ ¬ ((x0 >>> (x1 &&& 31)) &&& 1).toInt = 0)) → K v I J) : Cl G mX12_has n 0 0 [.int x0, .int x1] Z I J (qi Z K) := by
  refine eX12_has  ?_
  refine ⟨fun hc1 => ?_, fun hc2 => ?_⟩
  · skip
    have q1 := i32_lo x0
    have q2 := i32_lo x1
    have q3 : (31 : Int32).toInt = 31 := rfl
    have q4 : (1 : Int32).toInt = 1 := rfl
    have q5 : (0 : Int32).toInt = 0 := rfl
    have hc1 := Int32.toInt_inj.mpr hc1
    exact hK _  (by omega)
  · skip
    have q1 := i32_lo x0
    have q2 := i32_lo x1
    have q3 : (31 : Int32).toInt = 31 := rfl
    have q4 : (1 : Int32).toInt = 1 := rfl
    have q5 : (0 : Int32).toInt = 0 := rfl
    have hc2 : ¬ (((x0 >>> (x1 &&& 31)) &&& 1)).toInt = (0 : Int32).toInt := fun z => hc2 (Int32.toInt_inj.mp z)
    exact hK _  (by omega)
theorem lX12_bits_4 {G : jdG} {n : Nat} {Z : jdL} {J : jdJ} {rc rs : Nat} {K : Int32 → jdI → jdJ → Prop}  {I : jdI} {x0 : Int32}   (hW : True)  (hK : ∀ (v : Int32), (v = bs x0 8) → K v I J) : ∀ m : Nat, ∀ (x1 : Int32) (x2 : Int32), (0 ≤ x2.toInt ∧ x2.toInt ≤ 8) → (x1 = bs x0 (Int32.toNatClampNeg x2)) → (8) - x2.toInt < (m : Int) → Jd G mX12_bits (jdFm G (qi Z K)) n rc rs 4 [(0, .int x0), (1, .int x1), (2, .int x2)] [] Z I J := by
  intro m
  induction m with
  | zero =>
    intro x1 x2 hx2 hb hm

    omega
  | succ m ih =>
    intro x1 x2 hx2 hb hm
    refine rX12_bits_4  ?_
    refine ⟨fun hc1 => ?_, fun hc2 => ?_⟩
    · skip
      have q1 : (8 : Int32).toInt = 8 := rfl
      have q2 := i32_lo x2
      have hc1 := Int32.le_iff_toInt_le.mp hc1
      exact hK _  (bs_end (by omega) (by omega) hb)
    · skip
      have q1 : (8 : Int32).toInt = 8 := rfl
      have q2 := i32_lo x2
      have hc2 := mt Int32.le_iff_toInt_le.mpr hc2
      have q3 : (1 : Int32).toInt = 1 := rfl
      have q4 := i32_add x2 1 (by omega) (by omega)
      exact ih (x1 + ((x0 >>> (x2 &&& 31)) &&& 1)) (x2 + 1) (by omega) (by first | rfl | exact bs_step (by omega) (by omega) hb) (by omega)
theorem sfX12_bits {G : jdG} {n : Nat} {Z : jdL} {J : jdJ} {K : Int32 → jdI → jdJ → Prop}  {I : jdI} {x0 : Int32}   (hW : True)  (hK : ∀ (v : Int32), (v = bs x0 8) → K v I J) : Cl G mX12_bits n 0 0 [.int x0] Z I J (qi Z K) := by
  refine eX12_bits  ?_
  have q1 : (0 : Int32).toInt = 0 := rfl
  exact lX12_bits_4   hW  hK  (((8) - (0 : Int32).toInt).toNat + 1) 0 0 (by omega) (by first | rfl | exact bs_step (by omega) (by omega) hb) (by omega)
theorem lX12_row_67 {G : jdG} {n : Nat} {Z : jdL} {rc rs : Nat} {K : Int32 → jdI → jdJ → Prop}  {I0 : jdI} {J0 : jdJ} {t : Nat} {x1 : Int32} {x2 : Int32} {x3 : Int32} (ht : zModel Z t)   (hK : ∀ (v : Int32) (I2 : jdI) (J2 : jdJ), WM 7 t I2 → Fr (fun a k => ((a = t + 1 ∨ a = t + 2 ∨ a = t + 3) ∧ k = (Int32.toNatClampNeg x1)) ∨ a = t + 17) I0 I2 → ((v.toInt = 1 ∧ ((0 ≤ x1.toInt ∧ x1.toInt ≤ 7) ∧ (0 ≤ x2.toInt ∧ x2.toInt ≤ 4) ∧ 0 ≤ x3.toInt ∧ x3.toInt ≤ 40) ∧ (I2 (t + 1) (Int32.toNatClampNeg x1)).toInt = 1 ∧ (I2 (t + 2) (Int32.toNatClampNeg x1)).toInt = x2.toInt ∧ (I2 (t + 3) (Int32.toNatClampNeg x1)).toInt = x3.toInt ∧ ((∀ q : Nat, q < 40 → J2 (t + 5 + (Int32.toNatClampNeg x1)) q = 0) ∧ ∀ a, a ≠ t + 5 + (Int32.toNatClampNeg x1) → J2 a = J0 a)) ∨ (v.toInt = -2 ∧ ¬ ((0 ≤ x1.toInt ∧ x1.toInt ≤ 7) ∧ (0 ≤ x2.toInt ∧ x2.toInt ≤ 4) ∧ 0 ≤ x3.toInt ∧ x3.toInt ≤ 40) ∧ (I2 (t + 1) (Int32.toNatClampNeg x1)).toInt = (I0 (t + 1) (Int32.toNatClampNeg x1)).toInt ∧ (I2 (t + 2) (Int32.toNatClampNeg x1)).toInt = (I0 (t + 2) (Int32.toNatClampNeg x1)).toInt ∧ (I2 (t + 3) (Int32.toNatClampNeg x1)).toInt = (I0 (t + 3) (Int32.toNatClampNeg x1)).toInt ∧ J2 = J0)) → K v I2 J2) : ∀ m : Nat, ∀ (I : jdI) (J : jdJ) (x4 : Int32), WM 7 t I → Fr (fun a k => ((a = t + 1 ∨ a = t + 2 ∨ a = t + 3) ∧ k = (Int32.toNatClampNeg x1)) ∨ a = t + 17) I0 I → (0 ≤ x4.toInt ∧ x4.toInt ≤ 40) → (((0 ≤ x1.toInt ∧ x1.toInt ≤ 7) ∧ (0 ≤ x2.toInt ∧ x2.toInt ≤ 4) ∧ 0 ≤ x3.toInt ∧ x3.toInt ≤ 40)) → ((I (t + 1) (Int32.toNatClampNeg x1)).toInt = 1 ∧ (I (t + 2) (Int32.toNatClampNeg x1)).toInt = x2.toInt ∧ (I (t + 3) (Int32.toNatClampNeg x1)).toInt = x3.toInt) → ((∀ q : Nat, (q : Int) < x4.toInt → J (t + 5 + (Int32.toNatClampNeg x1)) q = 0) ∧ ∀ a, a ≠ t + 5 + (Int32.toNatClampNeg x1) → J a = J0 a) → (40) - x4.toInt < (m : Int) → Jd G mX12_row (jdFm G (qi Z K)) (n + 1) rc rs 67 [(0, .ref (gb G + t)), (1, .int x1), (2, .int x2), (3, .int x3), (4, .int x4)] [] Z I J := by
  intro m
  induction m with
  | zero =>
    intro I J x4 hW hF hx4 hx123 hI hJ hm
    have hwI := WM_f hW
    omega
  | succ m ih =>
    intro I J x4 hW hF hx4 hx123 hI hJ hm
    have hwI := WM_f hW
    refine rX12_row_67 ht ?_
    refine ⟨fun hc1 => ?_, fun hc2 => ?_⟩
    · skip
      have q1 : (40 : Int32).toInt = 40 := rfl
      have q2 := i32_lo x4
      have hc1 := Int32.le_iff_toInt_le.mp hc1
      have q3 : (1 : Int32).toInt = 1 := rfl
      exact hK _ _ _ hW hF (by first | exact Or.inl ⟨by omega, by omega, by omega, by omega, by omega, ⟨fun q hq => hJ.1 q (by omega), hJ.2⟩⟩ | exact Or.inr (⟨by omega, by omega, by omega, by omega, by omega, rfl⟩))
    · skip
      have q1 : (40 : Int32).toInt = 40 := rfl
      have q2 := i32_lo x4
      have hc2 := mt Int32.le_iff_toInt_le.mpr hc2
      have q3 := i32_lo x1
      refine ⟨vp_of (by omega) (by omega), ?_⟩
      refine ⟨vp_of (by omega) (by omega), ?_⟩
      have q4 : (1 : Int32).toInt = 1 := rfl
      have q5 := i32_add x4 1 (by omega) (by omega)
      exact ih _ _ (x4 + 1) hW hF (by omega) (by omega) (by omega) (by first | exact ⟨fun q hq => by exfalso; omega, fun _ _ => rfl⟩ | exact ⟨fun q hq => by rw [uJ_ap]; split <;> first | rfl | (rename_i hne; exact hJ.1 q (by have hn9 := tn_eq x4; have : ¬ q = Int32.toNatClampNeg x4 := fun e => hne ⟨rfl, e⟩; omega)), fun a ha => (uJ_n _ _ _ ha).trans (hJ.2 a ha)⟩) (by omega)
theorem sfX12_row {G : jdG} {n : Nat} {Z : jdL} {J : jdJ} {K : Int32 → jdI → jdJ → Prop}  {I : jdI} {t : Nat} {x1 : Int32} {x2 : Int32} {x3 : Int32} (ht : zModel Z t)  (hW : WM 7 t I)  (hK : ∀ (v : Int32) (I2 : jdI) (J2 : jdJ), WM 7 t I2 → Fr (fun a k => ((a = t + 1 ∨ a = t + 2 ∨ a = t + 3) ∧ k = (Int32.toNatClampNeg x1)) ∨ a = t + 17) I I2 → ((v.toInt = 1 ∧ ((0 ≤ x1.toInt ∧ x1.toInt ≤ 7) ∧ (0 ≤ x2.toInt ∧ x2.toInt ≤ 4) ∧ 0 ≤ x3.toInt ∧ x3.toInt ≤ 40) ∧ (I2 (t + 1) (Int32.toNatClampNeg x1)).toInt = 1 ∧ (I2 (t + 2) (Int32.toNatClampNeg x1)).toInt = x2.toInt ∧ (I2 (t + 3) (Int32.toNatClampNeg x1)).toInt = x3.toInt ∧ ((∀ q : Nat, q < 40 → J2 (t + 5 + (Int32.toNatClampNeg x1)) q = 0) ∧ ∀ a, a ≠ t + 5 + (Int32.toNatClampNeg x1) → J2 a = J a)) ∨ (v.toInt = -2 ∧ ¬ ((0 ≤ x1.toInt ∧ x1.toInt ≤ 7) ∧ (0 ≤ x2.toInt ∧ x2.toInt ≤ 4) ∧ 0 ≤ x3.toInt ∧ x3.toInt ≤ 40) ∧ (I2 (t + 1) (Int32.toNatClampNeg x1)).toInt = (I (t + 1) (Int32.toNatClampNeg x1)).toInt ∧ (I2 (t + 2) (Int32.toNatClampNeg x1)).toInt = (I (t + 2) (Int32.toNatClampNeg x1)).toInt ∧ (I2 (t + 3) (Int32.toNatClampNeg x1)).toInt = (I (t + 3) (Int32.toNatClampNeg x1)).toInt ∧ J2 = J)) → K v I2 J2) : Cl G mX12_row (n + 1) 0 0 [.ref (gb G + t), .int x1, .int x2, .int x3] Z I J (qi Z K) := by
  refine eX12_row ht ?_
  have hwI := WM_f hW
  have q1 := i32_lo x1
  have q2 : (Int32.toInt64 x1).toInt = (x1).toInt := Int32.toInt_toInt64 _
  have q3 : (0 : Int64).toInt = 0 := rfl
  have q4 : (7 : Int64).toInt = 7 := rfl
  refine sfX12_in  trivial  (fun v2  hp1 => ?_)
  refine ⟨fun hc2 => ?_, fun hc3 => ?_⟩
  · skip
    have q5 := i32_lo v2
    have q6 : (0 : Int32).toInt = 0 := rfl
    have hc2 := Int32.toInt_inj.mpr hc2
    have q7 : (-2 : Int32).toInt = -2 := rfl
    refine sfX12_refuse ht (by decide) hW (by omega) (fun v4 I3 hWI3 hFI3 hp4 => ?_)
    have hwI3 := WM_f hWI3
    first | have hk5 : (I3 (t + 1) (Int32.toNatClampNeg x1)).toInt = (I (t + 1) (Int32.toNatClampNeg x1)).toInt := (by rw [hFI3 (t + 1) (Int32.toNatClampNeg x1) (by omega)]) | skip
    first | have hk6 : (I3 (t + 2) (Int32.toNatClampNeg x1)).toInt = (I (t + 2) (Int32.toNatClampNeg x1)).toInt := (by rw [hFI3 (t + 2) (Int32.toNatClampNeg x1) (by omega)]) | skip
    first | have hk7 : (I3 (t + 3) (Int32.toNatClampNeg x1)).toInt = (I (t + 3) (Int32.toNatClampNeg x1)).toInt := (by rw [hFI3 (t + 3) (Int32.toNatClampNeg x1) (by omega)]) | skip
    have q8 := i32_lo v4
    exact hK _ _ _ hWI3 (Fr.tr Fr.rf hFI3 (by intro a k h; omega)) (by first | exact Or.inl ⟨by omega, by omega, by omega, by omega, by omega, ⟨fun q hq => hJ.1 q (by omega), hJ.2⟩⟩ | exact Or.inr (⟨by omega, by omega, by omega, by omega, by omega, rfl⟩))
  · skip
    have q5 := i32_lo v2
    have q6 : (0 : Int32).toInt = 0 := rfl
    have hc3 : ¬ (v2).toInt = (0 : Int32).toInt := fun z => hc3 (Int32.toInt_inj.mp z)
    have q7 := i32_lo x2
    have q8 : (Int32.toInt64 x2).toInt = (x2).toInt := Int32.toInt_toInt64 _
    have q9 : (4 : Int64).toInt = 4 := rfl
    refine sfX12_in  trivial  (fun v6  hp8 => ?_)
    refine ⟨fun hc9 => ?_, fun hc10 => ?_⟩
    · skip
      have q10 := i32_lo v6
      have hc9 := Int32.toInt_inj.mpr hc9
      have q11 : (-2 : Int32).toInt = -2 := rfl
      refine sfX12_refuse ht (by decide) hW (by omega) (fun v8 I7 hWI7 hFI7 hp11 => ?_)
      have hwI7 := WM_f hWI7
      first | have hk12 : (I7 (t + 1) (Int32.toNatClampNeg x1)).toInt = (I (t + 1) (Int32.toNatClampNeg x1)).toInt := (by rw [hFI7 (t + 1) (Int32.toNatClampNeg x1) (by omega)]) | skip
      first | have hk13 : (I7 (t + 2) (Int32.toNatClampNeg x1)).toInt = (I (t + 2) (Int32.toNatClampNeg x1)).toInt := (by rw [hFI7 (t + 2) (Int32.toNatClampNeg x1) (by omega)]) | skip
      first | have hk14 : (I7 (t + 3) (Int32.toNatClampNeg x1)).toInt = (I (t + 3) (Int32.toNatClampNeg x1)).toInt := (by rw [hFI7 (t + 3) (Int32.toNatClampNeg x1) (by omega)]) | skip
      have q12 := i32_lo v8
      exact hK _ _ _ hWI7 (Fr.tr Fr.rf hFI7 (by intro a k h; omega)) (by first | exact Or.inl ⟨by omega, by omega, by omega, by omega, by omega, ⟨fun q hq => hJ.1 q (by omega), hJ.2⟩⟩ | exact Or.inr (⟨by omega, by omega, by omega, by omega, by omega, rfl⟩))
    · skip
      have q10 := i32_lo v6
      have hc10 : ¬ (v6).toInt = (0 : Int32).toInt := fun z => hc10 (Int32.toInt_inj.mp z)
      have q11 := i32_lo x3
      have q12 : (Int32.toInt64 x3).toInt = (x3).toInt := Int32.toInt_toInt64 _
      have q13 : (40 : Int64).toInt = 40 := rfl
      refine sfX12_in  trivial  (fun v10  hp15 => ?_)
      refine ⟨fun hc16 => ?_, fun hc17 => ?_⟩
      · skip
        have q14 := i32_lo v10
        have hc16 : ¬ (v10).toInt = (0 : Int32).toInt := fun z => hc16 (Int32.toInt_inj.mp z)
        refine ⟨vp_of (by omega) (by omega), ?_⟩
        refine ⟨vp_of (by omega) (by omega), ?_⟩
        refine ⟨vp_of (by omega) (by omega), ?_⟩
        have hr18 : (((uI (uI (uI I (t + 1) (Int32.toNatClampNeg x1) 1) (t + 2) (Int32.toNatClampNeg x1) x2) (t + 3) (Int32.toNatClampNeg x1) x3)) (t + 1) (Int32.toNatClampNeg x1)).toInt = ((1 : Int32)).toInt := congrArg Int32.toInt (uI_ne (by omega) (uI_ne (by omega) (uI_ss _ _ _ _)))
        have q15 : (1 : Int32).toInt = 1 := rfl
        have hr19 : (((uI (uI (uI I (t + 1) (Int32.toNatClampNeg x1) 1) (t + 2) (Int32.toNatClampNeg x1) x2) (t + 3) (Int32.toNatClampNeg x1) x3)) (t + 2) (Int32.toNatClampNeg x1)).toInt = (x2).toInt := congrArg Int32.toInt (uI_ne (by omega) (uI_ss _ _ _ _))
        have hr20 : (((uI (uI (uI I (t + 1) (Int32.toNatClampNeg x1) 1) (t + 2) (Int32.toNatClampNeg x1) x2) (t + 3) (Int32.toNatClampNeg x1) x3)) (t + 3) (Int32.toNatClampNeg x1)).toInt = (x3).toInt := congrArg Int32.toInt (uI_ss _ _ _ _)
        exact lX12_row_67 ht   hK  (((40) - (0 : Int32).toInt).toNat + 1) _ _ 0 (WM_uI (WM_uI (WM_uI hW (by first | exact okMo (by decide) (by decide) (by decide) (by decide) (by decide) | exact okMf (by decide) (by decide) (by decide) (by decide) (by decide) (by decide) (by decide) (by decide) | exact okM30 (by omega) | exact okM42 (by omega) | exact okM33 (by omega) | exact okM10 (by omega) | exact okM8 (by omega) | exact okM22 (by omega) | exact okM24 (by omega) | exact okM14 (by omega) | exact okMa31 (by omega) | exact okMa35 (by omega) | exact okMa36 (by omega) | exact okMa3 (by omega) | exact okMr (by omega) | (unfold okM; refine ⟨?_, ?_, ?_, ?_, ?_, ?_, ?_, ?_, ?_, ?_, ?_, ?_⟩ <;> intro h <;> omega))) (by first | exact okMo (by decide) (by decide) (by decide) (by decide) (by decide) | exact okMf (by decide) (by decide) (by decide) (by decide) (by decide) (by decide) (by decide) (by decide) | exact okM30 (by omega) | exact okM42 (by omega) | exact okM33 (by omega) | exact okM10 (by omega) | exact okM8 (by omega) | exact okM22 (by omega) | exact okM24 (by omega) | exact okM14 (by omega) | exact okMa31 (by omega) | exact okMa35 (by omega) | exact okMa36 (by omega) | exact okMa3 (by omega) | exact okMr (by omega) | (unfold okM; refine ⟨?_, ?_, ?_, ?_, ?_, ?_, ?_, ?_, ?_, ?_, ?_, ?_⟩ <;> intro h <;> omega))) (by first | exact okMo (by decide) (by decide) (by decide) (by decide) (by decide) | exact okMf (by decide) (by decide) (by decide) (by decide) (by decide) (by decide) (by decide) (by decide) | exact okM30 (by omega) | exact okM42 (by omega) | exact okM33 (by omega) | exact okM10 (by omega) | exact okM8 (by omega) | exact okM22 (by omega) | exact okM24 (by omega) | exact okM14 (by omega) | exact okMa31 (by omega) | exact okMa35 (by omega) | exact okMa36 (by omega) | exact okMa3 (by omega) | exact okMr (by omega) | (unfold okM; refine ⟨?_, ?_, ?_, ?_, ?_, ?_, ?_, ?_, ?_, ?_, ?_, ?_⟩ <;> intro h <;> omega))) (Fr_uI (Fr_uI (Fr_uI Fr.rf (by omega)) (by omega)) (by omega)) (by omega) (by omega) (by omega) (by first | exact ⟨fun q hq => by exfalso; omega, fun _ _ => rfl⟩ | exact ⟨fun q hq => by rw [uJ_ap]; split <;> first | rfl | (rename_i hne; exact hJ.1 q (by have hn9 := tn_eq x4; have : ¬ q = Int32.toNatClampNeg x4 := fun e => hne ⟨rfl, e⟩; omega)), fun a ha => (uJ_n _ _ _ ha).trans (hJ.2 a ha)⟩) (by omega)
      · skip
        have q14 := i32_lo v10
        have hc17 := Int32.toInt_inj.mpr hc17
        have q15 : (-2 : Int32).toInt = -2 := rfl
        refine sfX12_refuse ht (by decide) hW (by omega) (fun v15 I14 hWI14 hFI14 hp21 => ?_)
        have hwI14 := WM_f hWI14
        first | have hk22 : (I14 (t + 1) (Int32.toNatClampNeg x1)).toInt = (I (t + 1) (Int32.toNatClampNeg x1)).toInt := (by rw [hFI14 (t + 1) (Int32.toNatClampNeg x1) (by omega)]) | skip
        first | have hk23 : (I14 (t + 2) (Int32.toNatClampNeg x1)).toInt = (I (t + 2) (Int32.toNatClampNeg x1)).toInt := (by rw [hFI14 (t + 2) (Int32.toNatClampNeg x1) (by omega)]) | skip
        first | have hk24 : (I14 (t + 3) (Int32.toNatClampNeg x1)).toInt = (I (t + 3) (Int32.toNatClampNeg x1)).toInt := (by rw [hFI14 (t + 3) (Int32.toNatClampNeg x1) (by omega)]) | skip
        have q16 := i32_lo v15
        exact hK _ _ _ hWI14 (Fr.tr Fr.rf hFI14 (by intro a k h; omega)) (by first | exact Or.inl ⟨by omega, by omega, by omega, by omega, by omega, ⟨fun q hq => hJ.1 q (by omega), hJ.2⟩⟩ | exact Or.inr (⟨by omega, by omega, by omega, by omega, by omega, rfl⟩))
