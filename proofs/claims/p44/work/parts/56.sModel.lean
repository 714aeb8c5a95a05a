theorem cp_end {J J0 : jdJ} {a b sp dp q : Nat} {x5 x6 : Int32} (h1 : x5.toInt ≤ x6.toInt) (h2 : x6.toInt ≤ x5.toInt) (h : J b q = va_cpy (J0 a) (J0 b) sp dp (Int32.toNatClampNeg x6) q) : J b q = va_cpy (J0 a) (J0 b) sp dp (Int32.toNatClampNeg x5) q := by
  have e : x5 = x6 := Int32.toInt_inj.mp (by omega)
  rw [e]
  exact h
theorem cp_1 {J J0 : jdJ} {t a : Nat} {x3 x6 : Int32} (hJ : (∀ q : Nat, (q : Int) < x6.toInt → J (t + 13) q = J0 a (Int32.toNatClampNeg x3 + q)) ∧ ∀ c, c ≠ t + 13 → J c = J0 c) (h0 : 0 ≤ x6.toInt) (h1 : x6.toInt < 40) (h2 : 0 ≤ x3.toInt) (h3 : x3.toInt ≤ 40) (ha : a ≠ t + 13) : (∀ q : Nat, (q : Int) < (x6 + 1).toInt → (uJ J (t + 13) (Int32.toNatClampNeg x6) (J a (Int32.toNatClampNeg (x3 + x6)))) (t + 13) q = J0 a (Int32.toNatClampNeg x3 + q)) ∧ ∀ c, c ≠ t + 13 → (uJ J (t + 13) (Int32.toNatClampNeg x6) (J a (Int32.toNatClampNeg (x3 + x6)))) c = J0 c := by
  have q1 : (1 : Int32).toInt = 1 := rfl
  have e1 := i32_add x6 1 (by omega) (by omega)
  have e2 := i32_add x3 x6 (by omega) (by omega)
  have n1 := tn_eq x6
  have n2 := tn_eq x3
  have n3 := tn_eq (x3 + x6)
  refine ⟨fun q hq => ?_, fun c hc => (uJ_n _ _ _ hc).trans (hJ.2 c hc)⟩
  rw [uJ_ap]
  by_cases h : q = Int32.toNatClampNeg x6
  · rw [if_pos ⟨rfl, h⟩, hJ.2 a ha, h, show Int32.toNatClampNeg (x3 + x6) = Int32.toNatClampNeg x3 + Int32.toNatClampNeg x6 by omega]
  · rw [if_neg (fun z => h z.2)]
    exact hJ.1 q (by omega)
theorem cp_2 {J J0 : jdJ} {t a b dp : Nat} {x3 x5 x6 : Int32} (hJ : (∀ q : Nat, (q : Int) < x6.toInt → J (t + 13) q = J0 a (Int32.toNatClampNeg x3 + q)) ∧ ∀ c, c ≠ t + 13 → J c = J0 c) (h1 : x5.toInt ≤ x6.toInt) (hb : b ≠ t + 13) : (∀ q : Nat, J b q = va_cpy (J0 a) (J0 b) (Int32.toNatClampNeg x3) dp (Int32.toNatClampNeg 0) q) ∧ (∀ q : Nat, (q : Int) < x5.toInt → J (t + 13) q = J0 a (Int32.toNatClampNeg x3 + q)) ∧ ∀ c, c ≠ t + 13 → c ≠ b → J c = J0 c := by
  have z : Int32.toNatClampNeg 0 = 0 := rfl
  refine ⟨fun q => ?_, fun q hq => hJ.1 q (by omega), fun c h1 _ => hJ.2 c h1⟩
  unfold va_cpy
  rw [z, if_neg (by omega), hJ.2 b hb]
theorem cp_3 {J J0 : jdJ} {t a b : Nat} {x3 x4 x5 x6 : Int32} (hJ : (∀ q : Nat, J b q = va_cpy (J0 a) (J0 b) (Int32.toNatClampNeg x3) (Int32.toNatClampNeg x4) (Int32.toNatClampNeg x6) q) ∧ (∀ q : Nat, (q : Int) < x5.toInt → J (t + 13) q = J0 a (Int32.toNatClampNeg x3 + q)) ∧ ∀ c, c ≠ t + 13 → c ≠ b → J c = J0 c) (h0 : 0 ≤ x6.toInt) (h1 : x6.toInt < x5.toInt) (h2 : 0 ≤ x4.toInt) (h3 : x4.toInt + x5.toInt ≤ 40) (hb : b ≠ t + 13) : (∀ q : Nat, (uJ J b (Int32.toNatClampNeg (x4 + x6)) (J (t + 13) (Int32.toNatClampNeg x6))) b q = va_cpy (J0 a) (J0 b) (Int32.toNatClampNeg x3) (Int32.toNatClampNeg x4) (Int32.toNatClampNeg (x6 + 1)) q) ∧ (∀ q : Nat, (q : Int) < x5.toInt → (uJ J b (Int32.toNatClampNeg (x4 + x6)) (J (t + 13) (Int32.toNatClampNeg x6))) (t + 13) q = J0 a (Int32.toNatClampNeg x3 + q)) ∧ ∀ c, c ≠ t + 13 → c ≠ b → (uJ J b (Int32.toNatClampNeg (x4 + x6)) (J (t + 13) (Int32.toNatClampNeg x6))) c = J0 c := by
  have q1 : (1 : Int32).toInt = 1 := rfl
  have e1 := i32_add x6 1 (by omega) (by omega)
  have e2 := i32_add x4 x6 (by omega) (by omega)
  have n1 := tn_eq x6
  have n2 := tn_eq x4
  have n3 := tn_eq (x4 + x6)
  have n4 := tn_eq (x6 + 1)
  refine ⟨fun q => ?_, fun q hq => ?_, fun c h1 h2 => (uJ_n _ _ _ h2).trans (hJ.2.2 c h1 h2)⟩
  · rw [uJ_ap]
    by_cases h : q = Int32.toNatClampNeg (x4 + x6)
    · rw [if_pos ⟨rfl, h⟩, hJ.2.1 _ (by omega)]
      unfold va_cpy
      rw [if_pos (by omega)]
      congr 1
      omega
    · rw [if_neg (fun z => h z.2), hJ.1 q]
      unfold va_cpy
      by_cases hc : Int32.toNatClampNeg x4 ≤ q ∧ q < Int32.toNatClampNeg x4 + Int32.toNatClampNeg x6
      · rw [if_pos hc, if_pos (by omega)]
      · rw [if_neg hc, if_neg (by omega)]
  · rw [uJ_ap, if_neg (fun z => hb z.1.symm)]
    exact hJ.2.1 q hq
def bs (x : Int32) : Nat → Int32
  | 0 => 0
  | k + 1 => bs x k + ((x >>> (Int32.ofNat k &&& 31)) &&& 1)
theorem bs_step {x y i : Int32} (h0 : 0 ≤ i.toInt) (h1 : i.toInt < 8) (hb : y = bs x (Int32.toNatClampNeg i)) : y + ((x >>> (i &&& 31)) &&& 1) = bs x (Int32.toNatClampNeg (i + 1)) := by
  have e : Int32.toNatClampNeg (i + 1) = Int32.toNatClampNeg i + 1 := by
    rw [tn_eq, tn_eq, i32_add i 1 (by show _ ≤ i.toInt + 1; omega) (by show i.toInt + 1 ≤ _; omega)]
    show (i.toInt + 1).toNat = _
    omega
  rw [e, hb]
  show _ = bs x (Int32.toNatClampNeg i) + ((x >>> (Int32.ofNat (Int32.toNatClampNeg i) &&& 31)) &&& 1)
  rw [tn_eq, ← i32_ofNat h0]
theorem bs_end {x y i : Int32} (h0 : i.toInt ≤ 8) (h1 : 8 ≤ i.toInt) (hb : y = bs x (Int32.toNatClampNeg i)) : y = bs x 8 := by
  have e : Int32.toNatClampNeg i = 8 := by
    rw [tn_eq]
    omega
  rw [hb, e]
theorem sfX12_in {G : jdG} {n : Nat} {Z : jdL} {J : jdJ} {K : Int32 → jdI → jdJ → Prop}  {I : jdI} {y0 : Int64} {y2 : Int64} {y4 : Int64}   (hW : True)  (hK : ∀ (v : Int32), ((v.toInt = 1 ∧ y2.toInt ≤ y0.toInt ∧ y0.toInt ≤ y4.toInt) ∨ (v.toInt = 0 ∧ ¬ (y2.toInt ≤ y0.toInt ∧ y0.toInt ≤ y4.toInt))) → K v I J) : Cl G mX12_in n 0 0 [.long y0, .long y2, .long y4] Z I J (qi Z K) := by
  refine eX12_in  ?_
  refine ⟨fun hc1 => ?_, fun hc2 => ?_⟩
  · skip
    have q1 := lg_f y0 y2
    have q2 : (0 : Int32).toInt = 0 := rfl
    have hc1 := Int32.lt_iff_toInt_lt.mp hc1
    exact hK _  (by omega)
  · skip
    have q1 := lg_f y0 y2
    have q2 : (0 : Int32).toInt = 0 := rfl
    have hc2 := mt Int32.lt_iff_toInt_lt.mpr hc2
    refine ⟨fun hc3 => ?_, fun hc4 => ?_⟩
    · skip
      have q3 := lg_f y0 y4
      have hc3 := Int32.lt_iff_toInt_lt.mp hc3
      exact hK _  (by omega)
    · skip
      have q3 := lg_f y0 y4
      have hc4 := mt Int32.lt_iff_toInt_lt.mpr hc4
      have q4 : (1 : Int32).toInt = 1 := rfl
      exact hK _  (by omega)
theorem sfX12_refuse {G : jdG} {n : Nat} {Z : jdL} {J : jdJ} {K : Int32 → jdI → jdJ → Prop} {c : Int} {I : jdI} {t : Nat} {x1 : Int32} (ht : zModel Z t)  (hc : c ≤ 8) (hW : WM c t I) (hx1 : -7 ≤ x1.toInt ∧ x1.toInt ≤ 0) (hK : ∀ (v : Int32) (I2 : jdI), WM c t I2 → Fr (fun a k => a = t + 17) I I2 → (v.toInt = x1.toInt) → K v I2 J) : Cl G mX12_refuse n 0 0 [.ref (gb G + t), .int x1] Z I J (qi Z K) := by
  refine eX12_refuse ht ?_
  have hwI := WM_f hW
  have q1 := i32_lo x1
  have q2 := i32_neg x1 (by omega)
  refine ⟨vp_of (by omega) (by omega), ?_⟩
  refine ⟨vp_of (by omega) (by omega), ?_⟩
  exact hK _ _ (WM_uI hW (by first | exact okMo (by decide) (by decide) (by decide) (by decide) (by decide) | exact okMf (by decide) (by decide) (by decide) (by decide) (by decide) (by decide) (by decide) (by decide) | exact okM30 (by omega) | exact okM42 (by omega) | exact okM33 (by omega) | exact okM10 (by omega) | exact okM8 (by omega) | exact okM22 (by omega) | exact okM24 (by omega) | exact okM14 (by omega) | exact okMa31 (by omega) | exact okMa35 (by omega) | exact okMa36 (by omega) | exact okMa3 (by omega) | exact okMr (by omega) | (unfold okM; refine ⟨?_, ?_, ?_, ?_, ?_, ?_, ?_, ?_, ?_, ?_, ?_, ?_⟩ <;> intro h <;> omega))) (Fr_uI Fr.rf (by omega)) rfl
theorem sfX12_isOne {G : jdG} {n : Nat} {Z : jdL} {J : jdJ} {K : Int32 → jdI → jdJ → Prop}  {I : jdI} {t : Nat} {x1 : Int32} (ht : zModel Z t)  (hW : WM 7 t I)  (hK : ∀ (v : Int32), ((v.toInt = 1 ∧ 0 ≤ x1.toInt ∧ x1.toInt < (I t 10).toInt) ∨ (v.toInt = 0 ∧ ¬ (0 ≤ x1.toInt ∧ x1.toInt < (I t 10).toInt))) → K v I J) : Cl G mX12_isOne (n + 1) 0 0 [.ref (gb G + t), .int x1] Z I J (qi Z K) := by
  refine eX12_isOne ht ?_
  have hwI := WM_f hW
  have q1 := i32_lo x1
  have q2 : (Int32.toInt64 x1).toInt = (x1).toInt := Int32.toInt_toInt64 _
  have q3 : (0 : Int64).toInt = 0 := rfl
  have q4 := i32_lo (I t 10)
  have q5 : (1 : Int32).toInt = 1 := rfl
  have q6 := i32_sub (I t 10) 1 (by omega) (by omega)
  have q7 : (Int32.toInt64 ((I t 10) - 1)).toInt = (((I t 10) - 1)).toInt := Int32.toInt_toInt64 _
  refine sfX12_in  trivial  (fun v2  hp1 => ?_)
  have q8 := i32_lo v2
  refine ⟨narrow_b (by omega), ?_⟩
  exact hK _  (by omega)
theorem sfX12_all {G : jdG} {n : Nat} {Z : jdL} {J : jdJ} {K : Int32 → jdI → jdJ → Prop} {c : Int} {I : jdI} {t : Nat} (ht : zModel Z t)  (hc : c ≤ 8) (hW : WM c t I)  (hK : ∀ (v : Int32), (v = ((1 : Int32) <<< ((I t 10) &&& 31)) - 1 ∧ (0 ≤ v.toInt ∧ v.toInt ≤ 255) ∧ ((I t 10).toInt ≤ 7 → v.toInt ≤ 127)) → K v I J) : Cl G mX12_all n 0 0 [.ref (gb G + t)] Z I J (qi Z K) := by
  refine eX12_all ht ?_
  have hwI := WM_f hW
  exact hK _  ⟨rfl, (ev_8 (by omega) (by omega)).2.2, fun h => (ev_7 (by omega) h).2.2.2⟩
theorem sfX12_isSet {G : jdG} {n : Nat} {Z : jdL} {J : jdJ} {K : Int32 → jdI → jdJ → Prop}  {I : jdI} {t : Nat} {x1 : Int32} (ht : zModel Z t)  (hW : WM 7 t I)  (hK : ∀ (v : Int32), (v.toInt = 0 ∨ (v.toInt = 1 ∧ 0 ≤ x1.toInt ∧ x1.toInt ≤ 127)) → K v I J) : Cl G mX12_isSet (n + 1) 0 0 [.ref (gb G + t), .int x1] Z I J (qi Z K) := by
  refine eX12_isSet ht ?_
  have hwI := WM_f hW
  refine sfX12_all ht (by decide) hW  (fun v2  hp1 => ?_)
  have q1 := i32_lo x1
  have q2 : (Int32.toInt64 x1).toInt = (x1).toInt := Int32.toInt_toInt64 _
  have q3 : (0 : Int64).toInt = 0 := rfl
  have q4 := i32_lo v2
  have q5 : (Int32.toInt64 v2).toInt = (v2).toInt := Int32.toInt_toInt64 _
  refine sfX12_in  trivial  (fun v4  hp2 => ?_)
  have q6 := i32_lo v4
  refine ⟨narrow_b (by omega), ?_⟩
  exact hK _  (by omega)
theorem sfX12_has {G : jdG} {n : Nat} {Z : jdL} {J : jdJ} {K : Int32 → jdI → jdJ → Prop}  {I : jdI} {x0 : Int32} {x1 : Int32}   (hW : True)  (hK : ∀ (v : Int32), ((v.toInt = 0 ∧ ((x0 >>> (x1 &&& 31)) &&& 1).toInt = 0) ∨ (v.toInt = 1 ∧ ¬ ((x0 >>> (x1 &&& 31)) &&& 1).toInt = 0)) → K v I J) : Cl G mX12_has n 0 0 [.int x0, .int x1] Z I J (qi Z K) := by
  refine eX12_has  ?_
  refine ⟨fun hc1 => ?_, fun hc2 => ?_⟩
  · skip
    have q1 := i32_lo x0
    have q2 := i32_lo x1
    have q3 : (31 : Int32).toInt = 31 := rfl
    have q4 : (1 : Int32).toInt = 1 := rfl
    have q5 : (0 : Int32).toInt = 0 := rfl
    have hc1 := Int32.toInt_inj.mpr hc1
    exact hK _  (by omega)
  · skip
    have q1 := i32_lo x0
    have q2 := i32_lo x1
    have q3 : (31 : Int32).toInt = 31 := rfl
    have q4 : (1 : Int32).toInt = 1 := rfl
    have q5 : (0 : Int32).toInt = 0 := rfl
    have hc2 : ¬ (((x0 >>> (x1 &&& 31)) &&& 1)).toInt = (0 : Int32).toInt := fun z => hc2 (Int32.toInt_inj.mp z)
    exact hK _  (by omega)
theorem lX12_bits_4 {G : jdG} {n : Nat} {Z : jdL} {J : jdJ} {rc rs : Nat} {K : Int32 → jdI → jdJ → Prop}  {I : jdI} {x0 : Int32}   (hW : True)  (hK : ∀ (v : Int32), (v = bs x0 8) → K v I J) : ∀ m : Nat, ∀ (x1 : Int32) (x2 : Int32), (0 ≤ x2.toInt ∧ x2.toInt ≤ 8) → (x1 = bs x0 (Int32.toNatClampNeg x2)) → (8) - x2.toInt < (m : Int) → Jd G mX12_bits (jdFm G (qi Z K)) n rc rs 4 [(0, .int x0), (1, .int x1), (2, .int x2)] [] Z I J := by
  intro m
  induction m with
  | zero =>
    intro x1 x2 hx2 hb hm

    omega
  | succ m ih =>
    intro x1 x2 hx2 hb hm
    refine rX12_bits_4  ?_
    refine ⟨fun hc1 => ?_, fun hc2 => ?_⟩
    · skip
      have q1 : (8 : Int32).toInt = 8 := rfl
      have q2 := i32_lo x2
      have hc1 := Int32.le_iff_toInt_le.mp hc1
      exact hK _  (bs_end (by omega) (by omega) hb)
    · skip
      have q1 : (8 : Int32).toInt = 8 := rfl
      have q2 := i32_lo x2
      have hc2 := mt Int32.le_iff_toInt_le.mpr hc2
      have q3 : (1 : Int32).toInt = 1 := rfl
      have q4 := i32_add x2 1 (by omega) (by omega)
      exact ih (x1 + ((x0 >>> (x2 &&& 31)) &&& 1)) (x2 + 1) (by omega) (by first | rfl | exact bs_step (by omega) (by omega) hb) (by omega)
theorem sfX12_bits {G : jdG} {n : Nat} {Z : jdL} {J : jdJ} {K : Int32 → jdI → jdJ → Prop}  {I : jdI} {x0 : Int32}   (hW : True)  (hK : ∀ (v : Int32), (v = bs x0 8) → K v I J) : Cl G mX12_bits n 0 0 [.int x0] Z I J (qi Z K) := by
  refine eX12_bits  ?_
  have q1 : (0 : Int32).toInt = 0 := rfl
  exact lX12_bits_4   hW  hK  (((8) - (0 : Int32).toInt).toNat + 1) 0 0 (by omega) (by first | rfl | exact bs_step (by omega) (by omega) hb) (by omega)
theorem lX12_row_67 {G : jdG} {n : Nat} {Z : jdL} {rc rs : Nat} {K : Int32 → jdI → jdJ → Prop}  {I0 : jdI} {J0 : jdJ} {t : Nat} {x1 : Int32} {x2 : Int32} {x3 : Int32} (ht : zModel Z t)   (hK : ∀ (v : Int32) (I2 : jdI) (J2 : jdJ), WM 7 t I2 → Fr (fun a k => ((a = t + 1 ∨ a = t + 2 ∨ a = t + 3) ∧ k = (Int32.toNatClampNeg x1)) ∨ a = t + 17) I0 I2 → ((v.toInt = 1 ∧ ((0 ≤ x1.toInt ∧ x1.toInt ≤ 7) ∧ (0 ≤ x2.toInt ∧ x2.toInt ≤ 4) ∧ 0 ≤ x3.toInt ∧ x3.toInt ≤ 40) ∧ (I2 (t + 1) (Int32.toNatClampNeg x1)).toInt = 1 ∧ (I2 (t + 2) (Int32.toNatClampNeg x1)).toInt = x2.toInt ∧ (I2 (t + 3) (Int32.toNatClampNeg x1)).toInt = x3.toInt ∧ ((∀ q : Nat, q < 40 → J2 (t + 5 + (Int32.toNatClampNeg x1)) q = 0) ∧ ∀ a, a ≠ t + 5 + (Int32.toNatClampNeg x1) → J2 a = J0 a)) ∨ (v.toInt = -2 ∧ ¬ ((0 ≤ x1.toInt ∧ x1.toInt ≤ 7) ∧ (0 ≤ x2.toInt ∧ x2.toInt ≤ 4) ∧ 0 ≤ x3.toInt ∧ x3.toInt ≤ 40) ∧ (I2 (t + 1) (Int32.toNatClampNeg x1)).toInt = (I0 (t + 1) (Int32.toNatClampNeg x1)).toInt ∧ (I2 (t + 2) (Int32.toNatClampNeg x1)).toInt = (I0 (t + 2) (Int32.toNatClampNeg x1)).toInt ∧ (I2 (t + 3) (Int32.toNatClampNeg x1)).toInt = (I0 (t + 3) (Int32.toNatClampNeg x1)).toInt ∧ J2 = J0)) → K v I2 J2) : ∀ m : Nat, ∀ (I : jdI) (J : jdJ) (x4 : Int32), WM 7 t I → Fr (fun a k => ((a = t + 1 ∨ a = t + 2 ∨ a = t + 3) ∧ k = (Int32.toNatClampNeg x1)) ∨ a = t + 17) I0 I → (0 ≤ x4.toInt ∧ x4.toInt ≤ 40) → (((0 ≤ x1.toInt ∧ x1.toInt ≤ 7) ∧ (0 ≤ x2.toInt ∧ x2.toInt ≤ 4) ∧ 0 ≤ x3.toInt ∧ x3.toInt ≤ 40)) → ((I (t + 1) (Int32.toNatClampNeg x1)).toInt = 1 ∧ (I (t + 2) (Int32.toNatClampNeg x1)).toInt = x2.toInt ∧ (I (t + 3) (Int32.toNatClampNeg x1)).toInt = x3.toInt) → ((∀ q : Nat, (q : Int) < x4.toInt → J (t + 5 + (Int32.toNatClampNeg x1)) q = 0) ∧ ∀ a, a ≠ t + 5 + (Int32.toNatClampNeg x1) → J a = J0 a) → (40) - x4.toInt < (m : Int) → Jd G mX12_row (jdFm G (qi Z K)) (n + 1) rc rs 67 [(0, .ref (gb G + t)), (1, .int x1), (2, .int x2), (3, .int x3), (4, .int x4)] [] Z I J := by
  intro m
  induction m with
  | zero =>
    intro I J x4 hW hF hx4 hx123 hI hJ hm
    have hwI := WM_f hW
    omega
  | succ m ih =>
    intro I J x4 hW hF hx4 hx123 hI hJ hm
    have hwI := WM_f hW
    refine rX12_row_67 ht ?_
    refine ⟨fun hc1 => ?_, fun hc2 => ?_⟩
    · skip
      have q1 : (40 : Int32).toInt = 40 := rfl
      have q2 := i32_lo x4
      have hc1 := Int32.le_iff_toInt_le.mp hc1
      have q3 : (1 : Int32).toInt = 1 := rfl
      exact hK _ _ _ hW hF (by first | exact Or.inl ⟨by omega, by omega, by omega, by omega, by omega, ⟨fun q hq => hJ.1 q (by omega), hJ.2⟩⟩ | exact Or.inr (⟨by omega, by omega, by omega, by omega, by omega, rfl⟩))
    · skip
      have q1 : (40 : Int32).toInt = 40 := rfl
      have q2 := i32_lo x4
      have hc2 := mt Int32.le_iff_toInt_le.mpr hc2
      have q3 := i32_lo x1
      refine ⟨vp_of (by omega) (by omega), ?_⟩
      refine ⟨vp_of (by omega) (by omega), ?_⟩
      have q4 : (1 : Int32).toInt = 1 := rfl
      have q5 := i32_add x4 1 (by omega) (by omega)
      exact ih _ _ (x4 + 1) hW hF (by omega) (by omega) (by omega) (by first | exact ⟨fun q hq => by exfalso; omega, fun _ _ => rfl⟩ | exact ⟨fun q hq => by rw [uJ_ap]; split <;> first | rfl | (rename_i hne; exact hJ.1 q (by have hn9 := tn_eq x4; have : ¬ q = Int32.toNatClampNeg x4 := fun e => hne ⟨rfl, e⟩; omega)), fun a ha => (uJ_n _ _ _ ha).trans (hJ.2 a ha)⟩) (by omega)
theorem sfX12_row {G : jdG} {n : Nat} {Z : jdL} {J : jdJ} {K : Int32 → jdI → jdJ → Prop}  {I : jdI} {t : Nat} {x1 : Int32} {x2 : Int32} {x3 : Int32} (ht : zModel Z t)  (hW : WM 7 t I)  (hK : ∀ (v : Int32) (I2 : jdI) (J2 : jdJ), WM 7 t I2 → Fr (fun a k => ((a = t + 1 ∨ a = t + 2 ∨ a = t + 3) ∧ k = (Int32.toNatClampNeg x1)) ∨ a = t + 17) I I2 → ((v.toInt = 1 ∧ ((0 ≤ x1.toInt ∧ x1.toInt ≤ 7) ∧ (0 ≤ x2.toInt ∧ x2.toInt ≤ 4) ∧ 0 ≤ x3.toInt ∧ x3.toInt ≤ 40) ∧ (I2 (t + 1) (Int32.toNatClampNeg x1)).toInt = 1 ∧ (I2 (t + 2) (Int32.toNatClampNeg x1)).toInt = x2.toInt ∧ (I2 (t + 3) (Int32.toNatClampNeg x1)).toInt = x3.toInt ∧ ((∀ q : Nat, q < 40 → J2 (t + 5 + (Int32.toNatClampNeg x1)) q = 0) ∧ ∀ a, a ≠ t + 5 + (Int32.toNatClampNeg x1) → J2 a = J a)) ∨ (v.toInt = -2 ∧ ¬ ((0 ≤ x1.toInt ∧ x1.toInt ≤ 7) ∧ (0 ≤ x2.toInt ∧ x2.toInt ≤ 4) ∧ 0 ≤ x3.toInt ∧ x3.toInt ≤ 40) ∧ (I2 (t + 1) (Int32.toNatClampNeg x1)).toInt = (I (t + 1) (Int32.toNatClampNeg x1)).toInt ∧ (I2 (t + 2) (Int32.toNatClampNeg x1)).toInt = (I (t + 2) (Int32.toNatClampNeg x1)).toInt ∧ (I2 (t + 3) (Int32.toNatClampNeg x1)).toInt = (I (t + 3) (Int32.toNatClampNeg x1)).toInt ∧ J2 = J)) → K v I2 J2) : Cl G mX12_row (n + 1) 0 0 [.ref (gb G + t), .int x1, .int x2, .int x3] Z I J (qi Z K) := by
  refine eX12_row ht ?_
  have hwI := WM_f hW
  have q1 := i32_lo x1
  have q2 : (Int32.toInt64 x1).toInt = (x1).toInt := Int32.toInt_toInt64 _
  have q3 : (0 : Int64).toInt = 0 := rfl
  have q4 : (7 : Int64).toInt = 7 := rfl
  refine sfX12_in  trivial  (fun v2  hp1 => ?_)
  refine ⟨fun hc2 => ?_, fun hc3 => ?_⟩
  · skip
    have q5 := i32_lo v2
    have q6 : (0 : Int32).toInt = 0 := rfl
    have hc2 := Int32.toInt_inj.mpr hc2
    have q7 : (-2 : Int32).toInt = -2 := rfl
    refine sfX12_refuse ht (by decide) hW (by omega) (fun v4 I3 hWI3 hFI3 hp4 => ?_)
    have hwI3 := WM_f hWI3
    first | have hk5 : (I3 (t + 1) (Int32.toNatClampNeg x1)).toInt = (I (t + 1) (Int32.toNatClampNeg x1)).toInt := (by rw [hFI3 (t + 1) (Int32.toNatClampNeg x1) (by omega)]) | skip
    first | have hk6 : (I3 (t + 2) (Int32.toNatClampNeg x1)).toInt = (I (t + 2) (Int32.toNatClampNeg x1)).toInt := (by rw [hFI3 (t + 2) (Int32.toNatClampNeg x1) (by omega)]) | skip
    first | have hk7 : (I3 (t + 3) (Int32.toNatClampNeg x1)).toInt = (I (t + 3) (Int32.toNatClampNeg x1)).toInt := (by rw [hFI3 (t + 3) (Int32.toNatClampNeg x1) (by omega)]) | skip
    have q8 := i32_lo v4
    exact hK _ _ _ hWI3 (Fr.tr Fr.rf hFI3 (by intro a k h; omega)) (by first | exact Or.inl ⟨by omega, by omega, by omega, by omega, by omega, ⟨fun q hq => hJ.1 q (by omega), hJ.2⟩⟩ | exact Or.inr (⟨by omega, by omega, by omega, by omega, by omega, rfl⟩))
  · skip
    have q5 := i32_lo v2
    have q6 : (0 : Int32).toInt = 0 := rfl
    have hc3 : ¬ (v2).toInt = (0 : Int32).toInt := fun z => hc3 (Int32.toInt_inj.mp z)
    have q7 := i32_lo x2
    have q8 : (Int32.toInt64 x2).toInt = (x2).toInt := Int32.toInt_toInt64 _
    have q9 : (4 : Int64).toInt = 4 := rfl
    refine sfX12_in  trivial  (fun v6  hp8 => ?_)
    refine ⟨fun hc9 => ?_, fun hc10 => ?_⟩
    · skip
      have q10 := i32_lo v6
      have hc9 := Int32.toInt_inj.mpr hc9
      have q11 : (-2 : Int32).toInt = -2 := rfl
      refine sfX12_refuse ht (by decide) hW (by omega) (fun v8 I7 hWI7 hFI7 hp11 => ?_)
      have hwI7 := WM_f hWI7
      first | have hk12 : (I7 (t + 1) (Int32.toNatClampNeg x1)).toInt = (I (t + 1) (Int32.toNatClampNeg x1)).toInt := (by rw [hFI7 (t + 1) (Int32.toNatClampNeg x1) (by omega)]) | skip
      first | have hk13 : (I7 (t + 2) (Int32.toNatClampNeg x1)).toInt = (I (t + 2) (Int32.toNatClampNeg x1)).toInt := (by rw [hFI7 (t + 2) (Int32.toNatClampNeg x1) (by omega)]) | skip
      first | have hk14 : (I7 (t + 3) (Int32.toNatClampNeg x1)).toInt = (I (t + 3) (Int32.toNatClampNeg x1)).toInt := (by rw [hFI7 (t + 3) (Int32.toNatClampNeg x1) (by omega)]) | skip
      have q12 := i32_lo v8
      exact hK _ _ _ hWI7 (Fr.tr Fr.rf hFI7 (by intro a k h; omega)) (by first | exact Or.inl ⟨by omega, by omega, by omega, by omega, by omega, ⟨fun q hq => hJ.1 q (by omega), hJ.2⟩⟩ | exact Or.inr (⟨by omega, by omega, by omega, by omega, by omega, rfl⟩))
    · skip
      have q10 := i32_lo v6
      have hc10 : ¬ (v6).toInt = (0 : Int32).toInt := fun z => hc10 (Int32.toInt_inj.mp z)
      have q11 := i32_lo x3
      have q12 : (Int32.toInt64 x3).toInt = (x3).toInt := Int32.toInt_toInt64 _
      have q13 : (40 : Int64).toInt = 40 := rfl
      refine sfX12_in  trivial  (fun v10  hp15 => ?_)
      refine ⟨fun hc16 => ?_, fun hc17 => ?_⟩
      · skip
        have q14 := i32_lo v10
        have hc16 : ¬ (v10).toInt = (0 : Int32).toInt := fun z => hc16 (Int32.toInt_inj.mp z)
        refine ⟨vp_of (by omega) (by omega), ?_⟩
        refine ⟨vp_of (by omega) (by omega), ?_⟩
        refine ⟨vp_of (by omega) (by omega), ?_⟩
        have hr18 : (((uI (uI (uI I (t + 1) (Int32.toNatClampNeg x1) 1) (t + 2) (Int32.toNatClampNeg x1) x2) (t + 3) (Int32.toNatClampNeg x1) x3)) (t + 1) (Int32.toNatClampNeg x1)).toInt = ((1 : Int32)).toInt := congrArg Int32.toInt (uI_ne (by omega) (uI_ne (by omega) (uI_ss _ _ _ _)))
        have q15 : (1 : Int32).toInt = 1 := rfl
        have hr19 : (((uI (uI (uI I (t + 1) (Int32.toNatClampNeg x1) 1) (t + 2) (Int32.toNatClampNeg x1) x2) (t + 3) (Int32.toNatClampNeg x1) x3)) (t + 2) (Int32.toNatClampNeg x1)).toInt = (x2).toInt := congrArg Int32.toInt (uI_ne (by omega) (uI_ss _ _ _ _))
        have hr20 : (((uI (uI (uI I (t + 1) (Int32.toNatClampNeg x1) 1) (t + 2) (Int32.toNatClampNeg x1) x2) (t + 3) (Int32.toNatClampNeg x1) x3)) (t + 3) (Int32.toNatClampNeg x1)).toInt = (x3).toInt := congrArg Int32.toInt (uI_ss _ _ _ _)
        exact lX12_row_67 ht   hK  (((40) - (0 : Int32).toInt).toNat + 1) _ _ 0 (WM_uI (WM_uI (WM_uI hW (by first | exact okMo (by decide) (by decide) (by decide) (by decide) (by decide) | exact okMf (by decide) (by decide) (by decide) (by decide) (by decide) (by decide) (by decide) (by decide) | exact okM30 (by omega) | exact okM42 (by omega) | exact okM33 (by omega) | exact okM10 (by omega) | exact okM8 (by omega) | exact okM22 (by omega) | exact okM24 (by omega) | exact okM14 (by omega) | exact okMa31 (by omega) | exact okMa35 (by omega) | exact okMa36 (by omega) | exact okMa3 (by omega) | exact okMr (by omega) | (unfold okM; refine ⟨?_, ?_, ?_, ?_, ?_, ?_, ?_, ?_, ?_, ?_, ?_, ?_⟩ <;> intro h <;> omega))) (by first | exact okMo (by decide) (by decide) (by decide) (by decide) (by decide) | exact okMf (by decide) (by decide) (by decide) (by decide) (by decide) (by decide) (by decide) (by decide) | exact okM30 (by omega) | exact okM42 (by omega) | exact okM33 (by omega) | exact okM10 (by omega) | exact okM8 (by omega) | exact okM22 (by omega) | exact okM24 (by omega) | exact okM14 (by omega) | exact okMa31 (by omega) | exact okMa35 (by omega) | exact okMa36 (by omega) | exact okMa3 (by omega) | exact okMr (by omega) | (unfold okM; refine ⟨?_, ?_, ?_, ?_, ?_, ?_, ?_, ?_, ?_, ?_, ?_, ?_⟩ <;> intro h <;> omega))) (by first | exact okMo (by decide) (by decide) (by decide) (by decide) (by decide) | exact okMf (by decide) (by decide) (by decide) (by decide) (by decide) (by decide) (by decide) (by decide) | exact okM30 (by omega) | exact okM42 (by omega) | exact okM33 (by omega) | exact okM10 (by omega) | exact okM8 (by omega) | exact okM22 (by omega) | exact okM24 (by omega) | exact okM14 (by omega) | exact okMa31 (by omega) | exact okMa35 (by omega) | exact okMa36 (by omega) | exact okMa3 (by omega) | exact okMr (by omega) | (unfold okM; refine ⟨?_, ?_, ?_, ?_, ?_, ?_, ?_, ?_, ?_, ?_, ?_, ?_⟩ <;> intro h <;> omega))) (Fr_uI (Fr_uI (Fr_uI Fr.rf (by omega)) (by omega)) (by omega)) (by omega) (by omega) (by omega) (by first | exact ⟨fun q hq => by exfalso; omega, fun _ _ => rfl⟩ | exact ⟨fun q hq => by rw [uJ_ap]; split <;> first | rfl | (rename_i hne; exact hJ.1 q (by have hn9 := tn_eq x4; have : ¬ q = Int32.toNatClampNeg x4 := fun e => hne ⟨rfl, e⟩; omega)), fun a ha => (uJ_n _ _ _ ha).trans (hJ.2 a ha)⟩) (by omega)
      · skip
        have q14 := i32_lo v10
        have hc17 := Int32.toInt_inj.mpr hc17
        have q15 : (-2 : Int32).toInt = -2 := rfl
        refine sfX12_refuse ht (by decide) hW (by omega) (fun v15 I14 hWI14 hFI14 hp21 => ?_)
        have hwI14 := WM_f hWI14
        first | have hk22 : (I14 (t + 1) (Int32.toNatClampNeg x1)).toInt = (I (t + 1) (Int32.toNatClampNeg x1)).toInt := (by rw [hFI14 (t + 1) (Int32.toNatClampNeg x1) (by omega)]) | skip
        first | have hk23 : (I14 (t + 2) (Int32.toNatClampNeg x1)).toInt = (I (t + 2) (Int32.toNatClampNeg x1)).toInt := (by rw [hFI14 (t + 2) (Int32.toNatClampNeg x1) (by omega)]) | skip
        first | have hk24 : (I14 (t + 3) (Int32.toNatClampNeg x1)).toInt = (I (t + 3) (Int32.toNatClampNeg x1)).toInt := (by rw [hFI14 (t + 3) (Int32.toNatClampNeg x1) (by omega)]) | skip
        have q16 := i32_lo v15
        exact hK _ _ _ hWI14 (Fr.tr Fr.rf hFI14 (by intro a k h; omega)) (by first | exact Or.inl ⟨by omega, by omega, by omega, by omega, by omega, ⟨fun q hq => hJ.1 q (by omega), hJ.2⟩⟩ | exact Or.inr (⟨by omega, by omega, by omega, by omega, by omega, rfl⟩))
theorem sfX12_fit {G : jdG} {n : Nat} {Z : jdL} {J : jdJ} {K : Int64 → jdI → jdJ → Prop}  {I : jdI} {x0 : Int32} {y1 : Int64}   (hW : True)  (hK : ∀ (v : Int64), (v = cutf x0.toInt y1) → K v I J) : Cl G mX12_fit n 0 0 [.int x0, .long y1] Z I J (ql Z K) := by
  refine eX12_fit  ?_
  refine ⟨fun hc1 => ?_, fun hc2 => ?_, fun hc3 => ?_, fun hc4 => ?_, fun hc5 => ?_⟩
  · skip
    refine ⟨fun hc6 => ?_, fun hc7 => ?_⟩
    · skip
      have q1 : (0 : Int64).toInt = 0 := rfl
      have q2 := lg_f y1 0
      have q3 : (0 : Int32).toInt = 0 := rfl
      have hc6 := Int32.toInt_inj.mpr hc6
      exact hK _  (by first | (exfalso; omega) | (unfold cutf; (repeat first | rw [if_pos (by omega)] | rw [if_neg (by omega)])))
    · skip
      have q1 : (0 : Int64).toInt = 0 := rfl
      have q2 := lg_f y1 0
      have q3 : (0 : Int32).toInt = 0 := rfl
      have hc7 : ¬ ((lg_cmp y1 0)).toInt = (0 : Int32).toInt := fun z => hc7 (Int32.toInt_inj.mp z)
      exact hK _  (by first | (exfalso; omega) | (unfold cutf; (repeat first | rw [if_pos (by omega)] | rw [if_neg (by omega)])))
  · skip
    exact hK _  (by first | (exfalso; omega) | (unfold cutf; (repeat first | rw [if_pos (by omega)] | rw [if_neg (by omega)])))
  · skip
    exact hK _  (by first | (exfalso; omega) | (unfold cutf; (repeat first | rw [if_pos (by omega)] | rw [if_neg (by omega)])))
  · skip
    exact hK _  (by first | (exfalso; omega) | (unfold cutf; (repeat first | rw [if_pos (by omega)] | rw [if_neg (by omega)])))
  · skip
    exact hK _  (by first | (exfalso; omega) | (unfold cutf; (repeat first | rw [if_pos (by omega)] | rw [if_neg (by omega)])))
theorem sfX12_noRow {G : jdG} {n : Nat} {Z : jdL} {J : jdJ} {K : Int32 → jdI → jdJ → Prop}  {I : jdI} {t : Nat} {x1 : Int32} (ht : zModel Z t)  (hW : WM 7 t I)  (hK : ∀ (v : Int32) (I2 : jdI), WM 7 t I2 → Fr (fun a k => a = t + 17) I I2 → ((v.toInt = 0 ∧ (0 ≤ x1.toInt ∧ x1.toInt ≤ 7) ∧ ¬ (I (t + 1) (Int32.toNatClampNeg x1)).toInt = 0 ∧ ¬ (I (t + 1) (Int32.toNatClampNeg x1)).toInt = 2) ∨ (¬ (0 ≤ x1.toInt ∧ x1.toInt ≤ 7) ∧ v.toInt = -2) ∨ ((0 ≤ x1.toInt ∧ x1.toInt ≤ 7) ∧ (I (t + 1) (Int32.toNatClampNeg x1)).toInt = 0 ∧ v.toInt = -4) ∨ ((0 ≤ x1.toInt ∧ x1.toInt ≤ 7) ∧ (I (t + 1) (Int32.toNatClampNeg x1)).toInt = 2 ∧ v.toInt = -3)) → K v I2 J) : Cl G mX12_noRow (n + 1) 0 0 [.ref (gb G + t), .int x1] Z I J (qi Z K) := by
  refine eX12_noRow ht ?_
  have hwI := WM_f hW
  have q1 := i32_lo x1
  have q2 : (Int32.toInt64 x1).toInt = (x1).toInt := Int32.toInt_toInt64 _
  have q3 : (0 : Int64).toInt = 0 := rfl
  have q4 : (7 : Int64).toInt = 7 := rfl
  refine sfX12_in  trivial  (fun v2  hp1 => ?_)
  refine ⟨fun hc2 => ?_, fun hc3 => ?_⟩
  · skip
    have q5 := i32_lo v2
    have q6 : (0 : Int32).toInt = 0 := rfl
    have hc2 : ¬ (v2).toInt = (0 : Int32).toInt := fun z => hc2 (Int32.toInt_inj.mp z)
    refine ⟨vp_of (by omega) (by omega), ?_⟩
    refine ⟨fun hc4 => ?_, fun hc5 => ?_⟩
    · skip
      have q7 : (2 : Int32).toInt = 2 := rfl
      have hc4 : ¬ ((I (t + 1) (Int32.toNatClampNeg x1))).toInt = (2 : Int32).toInt := fun z => hc4 (Int32.toInt_inj.mp z)
      refine ⟨vp_of (by omega) (by omega), ?_⟩
      refine ⟨fun hc6 => ?_, fun hc7 => ?_⟩
      · skip
        have hc6 : ¬ ((I (t + 1) (Int32.toNatClampNeg x1))).toInt = (0 : Int32).toInt := fun z => hc6 (Int32.toInt_inj.mp z)
        exact hK _ _ hW Fr.rf (by omega)
      · skip
        have hc7 := Int32.toInt_inj.mpr hc7
        have q8 : (-4 : Int32).toInt = -4 := rfl
        refine sfX12_refuse ht (by decide) hW (by omega) (fun v6 I5 hWI5 hFI5 hp8 => ?_)
        have hwI5 := WM_f hWI5
        have q9 := i32_lo v6
        exact hK _ _ hWI5 (Fr.tr Fr.rf hFI5 (by intro a k h; omega)) (by omega)
    · skip
      have q7 : (2 : Int32).toInt = 2 := rfl
      have hc5 := Int32.toInt_inj.mpr hc5
      have q8 : (-3 : Int32).toInt = -3 := rfl
      refine sfX12_refuse ht (by decide) hW (by omega) (fun v8 I7 hWI7 hFI7 hp9 => ?_)
      have hwI7 := WM_f hWI7
      have q9 := i32_lo v8
      exact hK _ _ hWI7 (Fr.tr Fr.rf hFI7 (by intro a k h; omega)) (by omega)
  · skip
    have q5 := i32_lo v2
    have q6 : (0 : Int32).toInt = 0 := rfl
    have hc3 := Int32.toInt_inj.mpr hc3
    have q7 : (-2 : Int32).toInt = -2 := rfl
    refine sfX12_refuse ht (by decide) hW (by omega) (fun v10 I9 hWI9 hFI9 hp10 => ?_)
    have hwI9 := WM_f hWI9
    have q8 := i32_lo v10
    exact hK _ _ hWI9 (Fr.tr Fr.rf hFI9 (by intro a k h; omega)) (by omega)
theorem sfX12_noMan {G : jdG} {n : Nat} {Z : jdL} {J : jdJ} {K : Int32 → jdI → jdJ → Prop}  {I : jdI} {t : Nat} {x1 : Int32} (ht : zModel Z t)  (hW : WM 7 t I)  (hK : ∀ (v : Int32) (I2 : jdI), WM 7 t I2 → Fr (fun a k => a = t + 17) I I2 → ((v.toInt = 0 ∧ 0 ≤ x1.toInt ∧ x1.toInt ≤ 7) ∨ ¬ v.toInt = 0) → K v I2 J) : Cl G mX12_noMan (n + 1) 0 0 [.ref (gb G + t), .int x1] Z I J (qi Z K) := by
  refine eX12_noMan ht ?_
  have hwI := WM_f hW
  have q1 := i32_lo x1
  have q2 : (Int32.toInt64 x1).toInt = (x1).toInt := Int32.toInt_toInt64 _
  have q3 : (0 : Int64).toInt = 0 := rfl
  have q4 : (7 : Int64).toInt = 7 := rfl
  refine sfX12_in  trivial  (fun v2  hp1 => ?_)
  refine ⟨fun hc2 => ?_, fun hc3 => ?_⟩
  · skip
    have q5 := i32_lo v2
    have q6 : (0 : Int32).toInt = 0 := rfl
    have hc2 : ¬ (v2).toInt = (0 : Int32).toInt := fun z => hc2 (Int32.toInt_inj.mp z)
    refine ⟨vp_of (by omega) (by omega), ?_⟩
    refine ⟨fun hc4 => ?_, fun hc5 => ?_⟩
    · skip
      have q7 : (1 : Int32).toInt = 1 := rfl
      have hc4 : ¬ ((I (t + 1) (Int32.toNatClampNeg x1))).toInt = (1 : Int32).toInt := fun z => hc4 (Int32.toInt_inj.mp z)
      refine ⟨vp_of (by omega) (by omega), ?_⟩
      refine ⟨fun hc6 => ?_, fun hc7 => ?_⟩
      · skip
        have hc6 : ¬ ((I (t + 1) (Int32.toNatClampNeg x1))).toInt = (0 : Int32).toInt := fun z => hc6 (Int32.toInt_inj.mp z)
        exact hK _ _ hW Fr.rf (by omega)
      · skip
        have hc7 := Int32.toInt_inj.mpr hc7
        have q8 : (-4 : Int32).toInt = -4 := rfl
        refine sfX12_refuse ht (by decide) hW (by omega) (fun v6 I5 hWI5 hFI5 hp8 => ?_)
        have hwI5 := WM_f hWI5
        have q9 := i32_lo v6
        exact hK _ _ hWI5 (Fr.tr Fr.rf hFI5 (by intro a k h; omega)) (by omega)
    · skip
      have q7 : (1 : Int32).toInt = 1 := rfl
      have hc5 := Int32.toInt_inj.mpr hc5
      have q8 : (-3 : Int32).toInt = -3 := rfl
      refine sfX12_refuse ht (by decide) hW (by omega) (fun v8 I7 hWI7 hFI7 hp9 => ?_)
      have hwI7 := WM_f hWI7
      have q9 := i32_lo v8
      exact hK _ _ hWI7 (Fr.tr Fr.rf hFI7 (by intro a k h; omega)) (by omega)
  · skip
    have q5 := i32_lo v2
    have q6 : (0 : Int32).toInt = 0 := rfl
    have hc3 := Int32.toInt_inj.mpr hc3
    have q7 : (-2 : Int32).toInt = -2 := rfl
    refine sfX12_refuse ht (by decide) hW (by omega) (fun v10 I9 hWI9 hFI9 hp10 => ?_)
    have hwI9 := WM_f hWI9
    have q8 := i32_lo v10
    exact hK _ _ hWI9 (Fr.tr Fr.rf hFI9 (by intro a k h; omega)) (by omega)
theorem sfX12_set {G : jdG} {n : Nat} {Z : jdL} {J : jdJ} {K : Int32 → jdI → jdJ → Prop}  {I : jdI} {t : Nat} {x1 : Int32} {x2 : Int32} {y3 : Int64} (ht : zModel Z t)  (hW : WM 7 t I)  (hK : ∀ (v : Int32) (I2 : jdI) (J2 : jdJ), WM 7 t I2 → Fr (fun a k => a = t + 17) I I2 → (((¬ (0 ≤ x1.toInt ∧ x1.toInt ≤ 7) ∧ v.toInt = -2) ∨ ((0 ≤ x1.toInt ∧ x1.toInt ≤ 7) ∧ (I (t + 1) (Int32.toNatClampNeg x1)).toInt = 0 ∧ v.toInt = -4) ∨ ((0 ≤ x1.toInt ∧ x1.toInt ≤ 7) ∧ (I (t + 1) (Int32.toNatClampNeg x1)).toInt = 2 ∧ v.toInt = -3) ∨ (((0 ≤ x1.toInt ∧ x1.toInt ≤ 7) ∧ ¬ (I (t + 1) (Int32.toNatClampNeg x1)).toInt = 0 ∧ ¬ (I (t + 1) (Int32.toNatClampNeg x1)).toInt = 2 ∧ 0 ≤ x2.toInt ∧ x2.toInt < (I (t + 3) (Int32.toNatClampNeg x1)).toInt) ∧ v.toInt = 1) ∨ ((0 ≤ x1.toInt ∧ x1.toInt ≤ 7) ∧ ¬ (I (t + 1) (Int32.toNatClampNeg x1)).toInt = 0 ∧ ¬ (I (t + 1) (Int32.toNatClampNeg x1)).toInt = 2 ∧ ¬ (0 ≤ x2.toInt ∧ x2.toInt < (I (t + 3) (Int32.toNatClampNeg x1)).toInt) ∧ v.toInt = -2)) ∧ (((0 ≤ x1.toInt ∧ x1.toInt ≤ 7) ∧ ¬ (I (t + 1) (Int32.toNatClampNeg x1)).toInt = 0 ∧ ¬ (I (t + 1) (Int32.toNatClampNeg x1)).toInt = 2 ∧ 0 ≤ x2.toInt ∧ x2.toInt < (I (t + 3) (Int32.toNatClampNeg x1)).toInt) → J2 = uJ J (t + 5 + (Int32.toNatClampNeg x1)) (Int32.toNatClampNeg x2) (cutf (I (t + 2) (Int32.toNatClampNeg x1)).toInt y3)) ∧ (¬ ((0 ≤ x1.toInt ∧ x1.toInt ≤ 7) ∧ ¬ (I (t + 1) (Int32.toNatClampNeg x1)).toInt = 0 ∧ ¬ (I (t + 1) (Int32.toNatClampNeg x1)).toInt = 2 ∧ 0 ≤ x2.toInt ∧ x2.toInt < (I (t + 3) (Int32.toNatClampNeg x1)).toInt) → J2 = J)) → K v I2 J2) : Cl G mX12_set (n + 2) 0 0 [.ref (gb G + t), .int x1, .int x2, .long y3] Z I J (qi Z K) := by
  refine eX12_set ht ?_
  have q1 := i32_lo x1
  refine sfX12_noRow ht hW  (fun v2 I1 hWI1 hFI1 hp1 => ?_)
  first | have hk2 : (I1 (t + 3) (Int32.toNatClampNeg x1)).toInt = (I (t + 3) (Int32.toNatClampNeg x1)).toInt := (by rw [hFI1 (t + 3) (Int32.toNatClampNeg x1) (by omega)]) | skip
  first | (revert hrsx1; intro hrsx1) | have hrsx1 := WM_rowSize hWI1 (k := Int32.toNatClampNeg x1) (by rw [tn_eq]; omega) | skip
  refine ⟨fun hc3 => ?_, fun hc4 => ?_⟩
  · skip
    have q2 := i32_lo v2
    have q3 : (0 : Int32).toInt = 0 := rfl
    have hc3 := Int32.toInt_inj.mpr hc3
    first | (revert hrsx1; intro hrsx1) | have hrsx1 := WM_rowSize hWI1 (k := Int32.toNatClampNeg x1) (by rw [tn_eq]; omega) | skip
    refine ⟨vp_of (by omega) (by omega), ?_⟩
    have q4 := i32_lo x2
    have q5 : (Int32.toInt64 x2).toInt = (x2).toInt := Int32.toInt_toInt64 _
    have q6 : (0 : Int64).toInt = 0 := rfl
    have q7 : (1 : Int32).toInt = 1 := rfl
    have q8 := i32_sub (I1 (t + 3) (Int32.toNatClampNeg x1)) 1 (by omega) (by omega)
    have q9 : (Int32.toInt64 ((I1 (t + 3) (Int32.toNatClampNeg x1)) - 1)).toInt = (((I1 (t + 3) (Int32.toNatClampNeg x1)) - 1)).toInt := Int32.toInt_toInt64 _
    refine sfX12_in  trivial  (fun v5  hp5 => ?_)
    first | (revert hrsx1; intro hrsx1) | have hrsx1 := WM_rowSize hWI1 (k := Int32.toNatClampNeg x1) (by rw [tn_eq]; omega) | skip
    refine ⟨fun hc6 => ?_, fun hc7 => ?_⟩
    · skip
      have q10 := i32_lo v5
      have hc6 : ¬ (v5).toInt = (0 : Int32).toInt := fun z => hc6 (Int32.toInt_inj.mp z)
      first | replace hp5 := Or.resolve_left hp5 (by omega) | replace hp5 := Or.resolve_right hp5 (by omega) | skip
      first | (revert hrsx1; intro hrsx1) | have hrsx1 := WM_rowSize hWI1 (k := Int32.toNatClampNeg x1) (by rw [tn_eq]; omega) | skip
      refine ⟨vp_of (by omega) (by omega), ?_⟩
      refine ⟨vp_of (by omega) (by omega), ?_⟩
      refine sfX12_fit  trivial  (fun v9  hp8 => ?_)
      have hfit := hp8
      first | (revert hrsx1; intro hrsx1) | have hrsx1 := WM_rowSize hWI1 (k := Int32.toNatClampNeg x1) (by rw [tn_eq]; omega) | skip
      refine ⟨vp_of (by omega) (by omega), ?_⟩
      exact hK _ _ _ hWI1 (Fr.tr Fr.rf hFI1 (by intro a k h; omega)) ⟨(Or.inr (Or.inr (Or.inr (Or.inl (by omega))))), fun q => by first | (exfalso; omega) | exact (by rw [hfit, hFI1 (t + 2) (Int32.toNatClampNeg x1) (by omega)]), fun q => by first | rfl | (exfalso; omega)⟩
    · skip
      have q10 := i32_lo v5
      have hc7 := Int32.toInt_inj.mpr hc7
      first | replace hp5 := Or.resolve_left hp5 (by omega) | replace hp5 := Or.resolve_right hp5 (by omega) | skip
      first | (revert hrsx1; intro hrsx1) | have hrsx1 := WM_rowSize hWI1 (k := Int32.toNatClampNeg x1) (by rw [tn_eq]; omega) | skip
      have q11 : (-2 : Int32).toInt = -2 := rfl
      refine sfX12_refuse ht (by decide) hWI1 (by omega) (fun v12 I11 hWI11 hFI11 hp9 => ?_)
      first | have hk10 : (I11 (t + 3) (Int32.toNatClampNeg x1)).toInt = (I1 (t + 3) (Int32.toNatClampNeg x1)).toInt := (by rw [hFI11 (t + 3) (Int32.toNatClampNeg x1) (by omega)]) | skip
      first | (revert hrsx1; intro hrsx1) | have hrsx1 := WM_rowSize hWI1 (k := Int32.toNatClampNeg x1) (by rw [tn_eq]; omega) | skip
      have q12 := i32_lo v12
      exact hK _ _ _ hWI11 (Fr.tr (Fr.tr Fr.rf hFI1 (by intro a k h; omega)) hFI11 (by intro a k h; omega)) ⟨(Or.inr (Or.inr (Or.inr (Or.inr (by omega))))), fun q => by first | (exfalso; omega) | exact (by rw [hfit, hFI1 (t + 2) (Int32.toNatClampNeg x1) (by omega)]), fun q => by first | rfl | (exfalso; omega)⟩
  · skip
    have q2 := i32_lo v2
    have q3 : (0 : Int32).toInt = 0 := rfl
    have hc4 : ¬ (v2).toInt = (0 : Int32).toInt := fun z => hc4 (Int32.toInt_inj.mp z)
    first | (revert hrsx1; intro hrsx1) | have hrsx1 := WM_rowSize hWI1 (k := Int32.toNatClampNeg x1) (by rw [tn_eq]; omega) | skip
    exact hK _ _ _ hWI1 (Fr.tr Fr.rf hFI1 (by intro a k h; omega)) ⟨(by rcases hp1 with hp1 | hp1 | hp1 | hp1 <;> first | (exfalso; omega) | exact Or.inl (by omega) | exact Or.inr (Or.inl (by omega)) | exact Or.inr (Or.inr (Or.inl (by omega)))), fun q => by first | (exfalso; omega) | exact (by rw [hfit, hFI1 (t + 2) (Int32.toNatClampNeg x1) (by omega)]), fun q => by first | rfl | (exfalso; omega)⟩
theorem lX12_copy_225 {G : jdG} {n : Nat} {Z : jdL} {rc rs : Nat} {K : Int32 → jdI → jdJ → Prop}  {I0 : jdI} {J0 : jdJ} {t : Nat} {x1 : Int32} {x2 : Int32} {x3 : Int32} {x4 : Int32} {x5 : Int32} (ht : zModel Z t)   (hK : ∀ (v : Int32) (I2 : jdI) (J2 : jdJ), WM 7 t I2 → Fr (fun a k => a = t + 17) I0 I2 → ((¬ ((0 ≤ x1.toInt ∧ x1.toInt ≤ 7) ∧ 0 ≤ x2.toInt ∧ x2.toInt ≤ 7) ∧ v.toInt = -2 ∧ J2 = J0) ∨ (((0 ≤ x1.toInt ∧ x1.toInt ≤ 7) ∧ 0 ≤ x2.toInt ∧ x2.toInt ≤ 7) ∧ ¬ ((0 ≤ (I0 (t + 1) (Int32.toNatClampNeg x1)).toInt ∧ (I0 (t + 1) (Int32.toNatClampNeg x1)).toInt ≤ 2) ∧ 0 ≤ (I0 (t + 1) (Int32.toNatClampNeg x2)).toInt ∧ (I0 (t + 1) (Int32.toNatClampNeg x2)).toInt ≤ 2)) ∨ (((0 ≤ x1.toInt ∧ x1.toInt ≤ 7) ∧ 0 ≤ x2.toInt ∧ x2.toInt ≤ 7) ∧ ((I0 (t + 1) (Int32.toNatClampNeg x1)).toInt = 2 ∨ (I0 (t + 1) (Int32.toNatClampNeg x2)).toInt = 2) ∧ v.toInt = -3 ∧ J2 = J0) ∨ (((0 ≤ x1.toInt ∧ x1.toInt ≤ 7) ∧ 0 ≤ x2.toInt ∧ x2.toInt ≤ 7) ∧ ¬ (I0 (t + 1) (Int32.toNatClampNeg x1)).toInt = 2 ∧ ¬ (I0 (t + 1) (Int32.toNatClampNeg x2)).toInt = 2 ∧ ((I0 (t + 1) (Int32.toNatClampNeg x1)).toInt = 0 ∨ (I0 (t + 1) (Int32.toNatClampNeg x2)).toInt = 0) ∧ v.toInt = -4 ∧ J2 = J0) ∨ (((0 ≤ x1.toInt ∧ x1.toInt ≤ 7) ∧ 0 ≤ x2.toInt ∧ x2.toInt ≤ 7) ∧ ((I0 (t + 1) (Int32.toNatClampNeg x1)).toInt = 1 ∧ (I0 (t + 1) (Int32.toNatClampNeg x2)).toInt = 1) ∧ ¬ (I0 (t + 2) (Int32.toNatClampNeg x1)).toInt = (I0 (t + 2) (Int32.toNatClampNeg x2)).toInt ∧ v.toInt = -3 ∧ J2 = J0) ∨ (((0 ≤ x1.toInt ∧ x1.toInt ≤ 7) ∧ 0 ≤ x2.toInt ∧ x2.toInt ≤ 7) ∧ ((I0 (t + 1) (Int32.toNatClampNeg x1)).toInt = 1 ∧ (I0 (t + 1) (Int32.toNatClampNeg x2)).toInt = 1) ∧ (I0 (t + 2) (Int32.toNatClampNeg x1)).toInt = (I0 (t + 2) (Int32.toNatClampNeg x2)).toInt ∧ (0 ≤ x3.toInt ∧ 0 ≤ x4.toInt ∧ 0 ≤ x5.toInt ∧ x5.toInt ≤ (I0 (t + 3) (Int32.toNatClampNeg x1)).toInt - x3.toInt ∧ x5.toInt ≤ (I0 (t + 3) (Int32.toNatClampNeg x2)).toInt - x4.toInt) ∧ v.toInt = x5.toInt ∧ ((∀ q : Nat, q < 40 → J2 (t + 5 + (Int32.toNatClampNeg x2)) q = va_cpy (J0 (t + 5 + (Int32.toNatClampNeg x1))) (J0 (t + 5 + (Int32.toNatClampNeg x2))) (Int32.toNatClampNeg x3) (Int32.toNatClampNeg x4) (Int32.toNatClampNeg x5) q) ∧ ∀ a, a ≠ t + 13 → a ≠ t + 5 + (Int32.toNatClampNeg x2) → J2 a = J0 a)) ∨ (((0 ≤ x1.toInt ∧ x1.toInt ≤ 7) ∧ 0 ≤ x2.toInt ∧ x2.toInt ≤ 7) ∧ ((I0 (t + 1) (Int32.toNatClampNeg x1)).toInt = 1 ∧ (I0 (t + 1) (Int32.toNatClampNeg x2)).toInt = 1) ∧ (I0 (t + 2) (Int32.toNatClampNeg x1)).toInt = (I0 (t + 2) (Int32.toNatClampNeg x2)).toInt ∧ ¬ (0 ≤ x3.toInt ∧ 0 ≤ x4.toInt ∧ 0 ≤ x5.toInt ∧ x5.toInt ≤ (I0 (t + 3) (Int32.toNatClampNeg x1)).toInt - x3.toInt ∧ x5.toInt ≤ (I0 (t + 3) (Int32.toNatClampNeg x2)).toInt - x4.toInt) ∧ v.toInt = -2 ∧ J2 = J0)) → K v I2 J2) : ∀ m : Nat, ∀ (I : jdI) (J : jdJ) (x6 : Int32), WM 7 t I → Fr (fun a k => a = t + 17) I0 I → (0 ≤ x6.toInt ∧ x6.toInt ≤ x5.toInt) → ((0 ≤ x1.toInt ∧ x1.toInt ≤ 7) ∧ 0 ≤ x2.toInt ∧ x2.toInt ≤ 7) → (0 ≤ x3.toInt ∧ 0 ≤ x5.toInt ∧ x3.toInt + x5.toInt ≤ 40) → (0 ≤ x4.toInt ∧ x4.toInt + x5.toInt ≤ 40) → (((0 ≤ (I0 (t + 1) (Int32.toNatClampNeg x1)).toInt ∧ (I0 (t + 1) (Int32.toNatClampNeg x1)).toInt ≤ 2) ∧ 0 ≤ (I0 (t + 1) (Int32.toNatClampNeg x2)).toInt ∧ (I0 (t + 1) (Int32.toNatClampNeg x2)).toInt ≤ 2) → ((0 ≤ x1.toInt ∧ x1.toInt ≤ 7) ∧ 0 ≤ x2.toInt ∧ x2.toInt ≤ 7) ∧ ((I0 (t + 1) (Int32.toNatClampNeg x1)).toInt = 1 ∧ (I0 (t + 1) (Int32.toNatClampNeg x2)).toInt = 1) ∧ (I0 (t + 2) (Int32.toNatClampNeg x1)).toInt = (I0 (t + 2) (Int32.toNatClampNeg x2)).toInt ∧ (0 ≤ x3.toInt ∧ 0 ≤ x4.toInt ∧ 0 ≤ x5.toInt ∧ x5.toInt ≤ (I0 (t + 3) (Int32.toNatClampNeg x1)).toInt - x3.toInt ∧ x5.toInt ≤ (I0 (t + 3) (Int32.toNatClampNeg x2)).toInt - x4.toInt)) → ((∀ q : Nat, J (t + 5 + (Int32.toNatClampNeg x2)) q = va_cpy (J0 (t + 5 + (Int32.toNatClampNeg x1))) (J0 (t + 5 + (Int32.toNatClampNeg x2))) (Int32.toNatClampNeg x3) (Int32.toNatClampNeg x4) (Int32.toNatClampNeg x6) q) ∧ (∀ q : Nat, (q : Int) < x5.toInt → J (t + 13) q = J0 (t + 5 + (Int32.toNatClampNeg x1)) ((Int32.toNatClampNeg x3) + q)) ∧ ∀ a, a ≠ t + 13 → a ≠ t + 5 + (Int32.toNatClampNeg x2) → J a = J0 a) → (x5.toInt) - x6.toInt < (m : Int) → Jd G mX12_copy (jdFm G (qi Z K)) (n + 1) rc rs 225 [(0, .ref (gb G + t)), (1, .int x1), (2, .int x2), (3, .int x3), (4, .int x4), (5, .int x5), (6, .int x6)] [] Z I J := by
  intro m
  induction m with
  | zero =>
    intro I J x6 hW hF hx6 hx12 hx35 hx45 hsu hJ hm
    have hwI := WM_f hW
    omega
  | succ m ih =>
    intro I J x6 hW hF hx6 hx12 hx35 hx45 hsu hJ hm
    have hwI := WM_f hW
    refine rX12_copy_225 ht ?_
    have hn1 := tn_eq x1
    have hn2 := tn_eq x2
    refine ⟨fun hc1 => ?_, fun hc2 => ?_⟩
    · skip
      have q1 := i32_lo x5
      have q2 := i32_lo x6
      have hc1 := Int32.le_iff_toInt_le.mp hc1
      first | (revert hrsx1; intro hrsx1) | have hrsx1 := WM_rowSize hW (k := Int32.toNatClampNeg x1) (by rw [tn_eq]; omega) | skip
      first | (revert hrsx2; intro hrsx2) | have hrsx2 := WM_rowSize hW (k := Int32.toNatClampNeg x2) (by rw [tn_eq]; omega) | skip
      exact hK _ _ _ hW hF (by first | exact Or.inl ⟨by omega, by omega, rfl⟩ | exact Or.inr (Or.inl ⟨by omega, by omega⟩) | exact Or.inr (Or.inr (Or.inl ⟨by omega, by omega, by omega, rfl⟩)) | exact Or.inr (Or.inr (Or.inr (Or.inl ⟨by omega, by omega, by omega, by omega, by omega, rfl⟩))) | exact Or.inr (Or.inr (Or.inr (Or.inr (Or.inl ⟨by omega, by omega, by omega, by omega, rfl⟩)))) | exact Or.inr (Or.inr (Or.inr (Or.inr (Or.inr (Or.inl ⟨by omega, by omega, by omega, by omega, by omega, ⟨fun q _ => cp_end (by omega) (by omega) (hJ.1 q), hJ.2⟩⟩))))) | exact Or.inr (Or.inr (Or.inr (Or.inr (Or.inr (Or.inr (⟨by omega, by omega, by omega, by omega, by omega, rfl⟩)))))) | (by_cases hA : ((0 ≤ (I0 (t + 1) (Int32.toNatClampNeg x1)).toInt ∧ (I0 (t + 1) (Int32.toNatClampNeg x1)).toInt ≤ 2) ∧ 0 ≤ (I0 (t + 1) (Int32.toNatClampNeg x2)).toInt ∧ (I0 (t + 1) (Int32.toNatClampNeg x2)).toInt ≤ 2) <;> first | (have hs9 := hsu hA; exact Or.inr (Or.inr (Or.inr (Or.inr (Or.inr (Or.inl ⟨hs9.1, hs9.2.1, hs9.2.2.1, hs9.2.2.2, rfl, fun q _ => cp_end (by omega) (by omega) (hJ.1 q), hJ.2.2⟩)))))) | exact Or.inr (Or.inl ⟨by omega, hA⟩)))
    · skip
      have q1 := i32_lo x5
      have q2 := i32_lo x6
      have hc2 := mt Int32.le_iff_toInt_le.mpr hc2
      first | (revert hrsx1; intro hrsx1) | have hrsx1 := WM_rowSize hW (k := Int32.toNatClampNeg x1) (by rw [tn_eq]; omega) | skip
      first | (revert hrsx2; intro hrsx2) | have hrsx2 := WM_rowSize hW (k := Int32.toNatClampNeg x2) (by rw [tn_eq]; omega) | skip
      have q3 := i32_lo x2
      refine ⟨vp_of (by omega) (by omega), ?_⟩
      refine ⟨vp_of (by omega) (by omega), ?_⟩
      have q4 := i32_lo x4
      have q5 := i32_add x4 x6 (by omega) (by omega)
      refine ⟨vp_of (by omega) (by omega), ?_⟩
      have q6 : (1 : Int32).toInt = 1 := rfl
      have q7 := i32_add x6 1 (by omega) (by omega)
      exact ih _ _ (x6 + 1) hW hF (by omega) (by omega) (by omega) (by omega) (by omega) (by first | exact cp_2 hJ (by omega) (by omega) | exact cp_3 hJ (by omega) (by omega) (by omega) (by omega) (by omega)) (by omega)
theorem lX12_copy_191 {G : jdG} {n : Nat} {Z : jdL} {rc rs : Nat} {K : Int32 → jdI → jdJ → Prop}  {I0 : jdI} {J0 : jdJ} {t : Nat} {x1 : Int32} {x2 : Int32} {x3 : Int32} {x4 : Int32} {x5 : Int32} (ht : zModel Z t)   (hK : ∀ (v : Int32) (I2 : jdI) (J2 : jdJ), WM 7 t I2 → Fr (fun a k => a = t + 17) I0 I2 → ((¬ ((0 ≤ x1.toInt ∧ x1.toInt ≤ 7) ∧ 0 ≤ x2.toInt ∧ x2.toInt ≤ 7) ∧ v.toInt = -2 ∧ J2 = J0) ∨ (((0 ≤ x1.toInt ∧ x1.toInt ≤ 7) ∧ 0 ≤ x2.toInt ∧ x2.toInt ≤ 7) ∧ ¬ ((0 ≤ (I0 (t + 1) (Int32.toNatClampNeg x1)).toInt ∧ (I0 (t + 1) (Int32.toNatClampNeg x1)).toInt ≤ 2) ∧ 0 ≤ (I0 (t + 1) (Int32.toNatClampNeg x2)).toInt ∧ (I0 (t + 1) (Int32.toNatClampNeg x2)).toInt ≤ 2)) ∨ (((0 ≤ x1.toInt ∧ x1.toInt ≤ 7) ∧ 0 ≤ x2.toInt ∧ x2.toInt ≤ 7) ∧ ((I0 (t + 1) (Int32.toNatClampNeg x1)).toInt = 2 ∨ (I0 (t + 1) (Int32.toNatClampNeg x2)).toInt = 2) ∧ v.toInt = -3 ∧ J2 = J0) ∨ (((0 ≤ x1.toInt ∧ x1.toInt ≤ 7) ∧ 0 ≤ x2.toInt ∧ x2.toInt ≤ 7) ∧ ¬ (I0 (t + 1) (Int32.toNatClampNeg x1)).toInt = 2 ∧ ¬ (I0 (t + 1) (Int32.toNatClampNeg x2)).toInt = 2 ∧ ((I0 (t + 1) (Int32.toNatClampNeg x1)).toInt = 0 ∨ (I0 (t + 1) (Int32.toNatClampNeg x2)).toInt = 0) ∧ v.toInt = -4 ∧ J2 = J0) ∨ (((0 ≤ x1.toInt ∧ x1.toInt ≤ 7) ∧ 0 ≤ x2.toInt ∧ x2.toInt ≤ 7) ∧ ((I0 (t + 1) (Int32.toNatClampNeg x1)).toInt = 1 ∧ (I0 (t + 1) (Int32.toNatClampNeg x2)).toInt = 1) ∧ ¬ (I0 (t + 2) (Int32.toNatClampNeg x1)).toInt = (I0 (t + 2) (Int32.toNatClampNeg x2)).toInt ∧ v.toInt = -3 ∧ J2 = J0) ∨ (((0 ≤ x1.toInt ∧ x1.toInt ≤ 7) ∧ 0 ≤ x2.toInt ∧ x2.toInt ≤ 7) ∧ ((I0 (t + 1) (Int32.toNatClampNeg x1)).toInt = 1 ∧ (I0 (t + 1) (Int32.toNatClampNeg x2)).toInt = 1) ∧ (I0 (t + 2) (Int32.toNatClampNeg x1)).toInt = (I0 (t + 2) (Int32.toNatClampNeg x2)).toInt ∧ (0 ≤ x3.toInt ∧ 0 ≤ x4.toInt ∧ 0 ≤ x5.toInt ∧ x5.toInt ≤ (I0 (t + 3) (Int32.toNatClampNeg x1)).toInt - x3.toInt ∧ x5.toInt ≤ (I0 (t + 3) (Int32.toNatClampNeg x2)).toInt - x4.toInt) ∧ v.toInt = x5.toInt ∧ ((∀ q : Nat, q < 40 → J2 (t + 5 + (Int32.toNatClampNeg x2)) q = va_cpy (J0 (t + 5 + (Int32.toNatClampNeg x1))) (J0 (t + 5 + (Int32.toNatClampNeg x2))) (Int32.toNatClampNeg x3) (Int32.toNatClampNeg x4) (Int32.toNatClampNeg x5) q) ∧ ∀ a, a ≠ t + 13 → a ≠ t + 5 + (Int32.toNatClampNeg x2) → J2 a = J0 a)) ∨ (((0 ≤ x1.toInt ∧ x1.toInt ≤ 7) ∧ 0 ≤ x2.toInt ∧ x2.toInt ≤ 7) ∧ ((I0 (t + 1) (Int32.toNatClampNeg x1)).toInt = 1 ∧ (I0 (t + 1) (Int32.toNatClampNeg x2)).toInt = 1) ∧ (I0 (t + 2) (Int32.toNatClampNeg x1)).toInt = (I0 (t + 2) (Int32.toNatClampNeg x2)).toInt ∧ ¬ (0 ≤ x3.toInt ∧ 0 ≤ x4.toInt ∧ 0 ≤ x5.toInt ∧ x5.toInt ≤ (I0 (t + 3) (Int32.toNatClampNeg x1)).toInt - x3.toInt ∧ x5.toInt ≤ (I0 (t + 3) (Int32.toNatClampNeg x2)).toInt - x4.toInt) ∧ v.toInt = -2 ∧ J2 = J0)) → K v I2 J2) : ∀ m : Nat, ∀ (I : jdI) (J : jdJ) (x6 : Int32), WM 7 t I → Fr (fun a k => a = t + 17) I0 I → (0 ≤ x6.toInt ∧ x6.toInt ≤ x5.toInt) → ((0 ≤ x1.toInt ∧ x1.toInt ≤ 7) ∧ 0 ≤ x2.toInt ∧ x2.toInt ≤ 7) → (0 ≤ x3.toInt ∧ 0 ≤ x5.toInt ∧ x3.toInt + x5.toInt ≤ 40) → (0 ≤ x4.toInt ∧ x4.toInt + x5.toInt ≤ 40) → (((0 ≤ (I0 (t + 1) (Int32.toNatClampNeg x1)).toInt ∧ (I0 (t + 1) (Int32.toNatClampNeg x1)).toInt ≤ 2) ∧ 0 ≤ (I0 (t + 1) (Int32.toNatClampNeg x2)).toInt ∧ (I0 (t + 1) (Int32.toNatClampNeg x2)).toInt ≤ 2) → ((0 ≤ x1.toInt ∧ x1.toInt ≤ 7) ∧ 0 ≤ x2.toInt ∧ x2.toInt ≤ 7) ∧ ((I0 (t + 1) (Int32.toNatClampNeg x1)).toInt = 1 ∧ (I0 (t + 1) (Int32.toNatClampNeg x2)).toInt = 1) ∧ (I0 (t + 2) (Int32.toNatClampNeg x1)).toInt = (I0 (t + 2) (Int32.toNatClampNeg x2)).toInt ∧ (0 ≤ x3.toInt ∧ 0 ≤ x4.toInt ∧ 0 ≤ x5.toInt ∧ x5.toInt ≤ (I0 (t + 3) (Int32.toNatClampNeg x1)).toInt - x3.toInt ∧ x5.toInt ≤ (I0 (t + 3) (Int32.toNatClampNeg x2)).toInt - x4.toInt)) → ((∀ q : Nat, (q : Int) < x6.toInt → J (t + 13) q = J0 (t + 5 + (Int32.toNatClampNeg x1)) ((Int32.toNatClampNeg x3) + q)) ∧ ∀ a, a ≠ t + 13 → J a = J0 a) → (x5.toInt) - x6.toInt < (m : Int) → Jd G mX12_copy (jdFm G (qi Z K)) (n + 1) rc rs 191 [(0, .ref (gb G + t)), (1, .int x1), (2, .int x2), (3, .int x3), (4, .int x4), (5, .int x5), (6, .int x6)] [] Z I J := by
  intro m
  induction m with
  | zero =>
    intro I J x6 hW hF hx6 hx12 hx35 hx45 hsu hJ hm
    have hwI := WM_f hW
    omega
  | succ m ih =>
    intro I J x6 hW hF hx6 hx12 hx35 hx45 hsu hJ hm
    have hwI := WM_f hW
    refine rX12_copy_191 ht ?_
    have hn1 := tn_eq x1
    have hn2 := tn_eq x2
    refine ⟨fun hc1 => ?_, fun hc2 => ?_⟩
    · skip
      have q1 := i32_lo x5
      have q2 := i32_lo x6
      have hc1 := Int32.le_iff_toInt_le.mp hc1
      first | (revert hrsx1; intro hrsx1) | have hrsx1 := WM_rowSize hW (k := Int32.toNatClampNeg x1) (by rw [tn_eq]; omega) | skip
      first | (revert hrsx2; intro hrsx2) | have hrsx2 := WM_rowSize hW (k := Int32.toNatClampNeg x2) (by rw [tn_eq]; omega) | skip
      have q3 : (0 : Int32).toInt = 0 := rfl
      exact lX12_copy_225 ht   hK  (((x5.toInt) - (0 : Int32).toInt).toNat + 1) _ _ 0 hW hF (by omega) (by omega) (by omega) (by omega) (by omega) (by first | exact cp_2 hJ (by omega) (by omega) | exact cp_3 hJ (by omega) (by omega) (by omega) (by omega) (by omega)) (by omega)
    · skip
      have q1 := i32_lo x5
      have q2 := i32_lo x6
      have hc2 := mt Int32.le_iff_toInt_le.mpr hc2
      first | (revert hrsx1; intro hrsx1) | have hrsx1 := WM_rowSize hW (k := Int32.toNatClampNeg x1) (by rw [tn_eq]; omega) | skip
      first | (revert hrsx2; intro hrsx2) | have hrsx2 := WM_rowSize hW (k := Int32.toNatClampNeg x2) (by rw [tn_eq]; omega) | skip
      have q3 := i32_lo x1
      refine ⟨vp_of (by omega) (by omega), ?_⟩
      have q4 := i32_lo x3
      have q5 := i32_add x3 x6 (by omega) (by omega)
      refine ⟨vp_of (by omega) (by omega), ?_⟩
      refine ⟨vp_of (by omega) (by omega), ?_⟩
      have q6 : (1 : Int32).toInt = 1 := rfl
      have q7 := i32_add x6 1 (by omega) (by omega)
      exact ih _ _ (x6 + 1) hW hF (by omega) (by omega) (by omega) (by omega) (by omega) (by first | exact ⟨fun q hq => by exfalso; omega, fun _ _ => rfl⟩ | exact cp_1 hJ (by omega) (by omega) (by omega) (by omega) (by omega)) (by omega)
theorem sfX12_copy {G : jdG} {n : Nat} {Z : jdL} {J : jdJ} {K : Int32 → jdI → jdJ → Prop}  {I : jdI} {t : Nat} {x1 : Int32} {x2 : Int32} {x3 : Int32} {x4 : Int32} {x5 : Int32} (ht : zModel Z t)  (hW : WM 7 t I)  (hK : ∀ (v : Int32) (I2 : jdI) (J2 : jdJ), WM 7 t I2 → Fr (fun a k => a = t + 17) I I2 → ((¬ ((0 ≤ x1.toInt ∧ x1.toInt ≤ 7) ∧ 0 ≤ x2.toInt ∧ x2.toInt ≤ 7) ∧ v.toInt = -2 ∧ J2 = J) ∨ (((0 ≤ x1.toInt ∧ x1.toInt ≤ 7) ∧ 0 ≤ x2.toInt ∧ x2.toInt ≤ 7) ∧ ¬ ((0 ≤ (I (t + 1) (Int32.toNatClampNeg x1)).toInt ∧ (I (t + 1) (Int32.toNatClampNeg x1)).toInt ≤ 2) ∧ 0 ≤ (I (t + 1) (Int32.toNatClampNeg x2)).toInt ∧ (I (t + 1) (Int32.toNatClampNeg x2)).toInt ≤ 2)) ∨ (((0 ≤ x1.toInt ∧ x1.toInt ≤ 7) ∧ 0 ≤ x2.toInt ∧ x2.toInt ≤ 7) ∧ ((I (t + 1) (Int32.toNatClampNeg x1)).toInt = 2 ∨ (I (t + 1) (Int32.toNatClampNeg x2)).toInt = 2) ∧ v.toInt = -3 ∧ J2 = J) ∨ (((0 ≤ x1.toInt ∧ x1.toInt ≤ 7) ∧ 0 ≤ x2.toInt ∧ x2.toInt ≤ 7) ∧ ¬ (I (t + 1) (Int32.toNatClampNeg x1)).toInt = 2 ∧ ¬ (I (t + 1) (Int32.toNatClampNeg x2)).toInt = 2 ∧ ((I (t + 1) (Int32.toNatClampNeg x1)).toInt = 0 ∨ (I (t + 1) (Int32.toNatClampNeg x2)).toInt = 0) ∧ v.toInt = -4 ∧ J2 = J) ∨ (((0 ≤ x1.toInt ∧ x1.toInt ≤ 7) ∧ 0 ≤ x2.toInt ∧ x2.toInt ≤ 7) ∧ ((I (t + 1) (Int32.toNatClampNeg x1)).toInt = 1 ∧ (I (t + 1) (Int32.toNatClampNeg x2)).toInt = 1) ∧ ¬ (I (t + 2) (Int32.toNatClampNeg x1)).toInt = (I (t + 2) (Int32.toNatClampNeg x2)).toInt ∧ v.toInt = -3 ∧ J2 = J) ∨ (((0 ≤ x1.toInt ∧ x1.toInt ≤ 7) ∧ 0 ≤ x2.toInt ∧ x2.toInt ≤ 7) ∧ ((I (t + 1) (Int32.toNatClampNeg x1)).toInt = 1 ∧ (I (t + 1) (Int32.toNatClampNeg x2)).toInt = 1) ∧ (I (t + 2) (Int32.toNatClampNeg x1)).toInt = (I (t + 2) (Int32.toNatClampNeg x2)).toInt ∧ (0 ≤ x3.toInt ∧ 0 ≤ x4.toInt ∧ 0 ≤ x5.toInt ∧ x5.toInt ≤ (I (t + 3) (Int32.toNatClampNeg x1)).toInt - x3.toInt ∧ x5.toInt ≤ (I (t + 3) (Int32.toNatClampNeg x2)).toInt - x4.toInt) ∧ v.toInt = x5.toInt ∧ ((∀ q : Nat, q < 40 → J2 (t + 5 + (Int32.toNatClampNeg x2)) q = va_cpy (J (t + 5 + (Int32.toNatClampNeg x1))) (J (t + 5 + (Int32.toNatClampNeg x2))) (Int32.toNatClampNeg x3) (Int32.toNatClampNeg x4) (Int32.toNatClampNeg x5) q) ∧ ∀ a, a ≠ t + 13 → a ≠ t + 5 + (Int32.toNatClampNeg x2) → J2 a = J a)) ∨ (((0 ≤ x1.toInt ∧ x1.toInt ≤ 7) ∧ 0 ≤ x2.toInt ∧ x2.toInt ≤ 7) ∧ ((I (t + 1) (Int32.toNatClampNeg x1)).toInt = 1 ∧ (I (t + 1) (Int32.toNatClampNeg x2)).toInt = 1) ∧ (I (t + 2) (Int32.toNatClampNeg x1)).toInt = (I (t + 2) (Int32.toNatClampNeg x2)).toInt ∧ ¬ (0 ≤ x3.toInt ∧ 0 ≤ x4.toInt ∧ 0 ≤ x5.toInt ∧ x5.toInt ≤ (I (t + 3) (Int32.toNatClampNeg x1)).toInt - x3.toInt ∧ x5.toInt ≤ (I (t + 3) (Int32.toNatClampNeg x2)).toInt - x4.toInt) ∧ v.toInt = -2 ∧ J2 = J)) → K v I2 J2) : Cl G mX12_copy (n + 1) 0 0 [.ref (gb G + t), .int x1, .int x2, .int x3, .int x4, .int x5] Z I J (qi Z K) := by
  refine eX12_copy ht ?_
  have q1 := i32_lo x1
  have q2 : (Int32.toInt64 x1).toInt = (x1).toInt := Int32.toInt_toInt64 _
  have q3 : (0 : Int64).toInt = 0 := rfl
  have q4 : (7 : Int64).toInt = 7 := rfl
  refine sfX12_in  trivial  (fun v2  hp1 => ?_)
  first | (revert hrsx1; intro hrsx1) | have hrsx1 := WM_rowSize hW (k := Int32.toNatClampNeg x1) (by rw [tn_eq]; omega) | skip
  first | (revert hrsx2; intro hrsx2) | have hrsx2 := WM_rowSize hW (k := Int32.toNatClampNeg x2) (by rw [tn_eq]; omega) | skip
  refine ⟨fun hc2 => ?_, fun hc3 => ?_⟩
  · skip
    have q5 := i32_lo v2
    have q6 : (0 : Int32).toInt = 0 := rfl
    have hc2 := Int32.toInt_inj.mpr hc2
    first | replace hp1 := Or.resolve_left hp1 (by omega) | replace hp1 := Or.resolve_right hp1 (by omega) | skip
    first | (revert hrsx1; intro hrsx1) | have hrsx1 := WM_rowSize hW (k := Int32.toNatClampNeg x1) (by rw [tn_eq]; omega) | skip
    first | (revert hrsx2; intro hrsx2) | have hrsx2 := WM_rowSize hW (k := Int32.toNatClampNeg x2) (by rw [tn_eq]; omega) | skip
    have q7 : (-2 : Int32).toInt = -2 := rfl
    refine sfX12_refuse ht (by decide) hW (by omega) (fun v4 I3 hWI3 hFI3 hp4 => ?_)
    first | (revert hrsx1; intro hrsx1) | have hrsx1 := WM_rowSize hW (k := Int32.toNatClampNeg x1) (by rw [tn_eq]; omega) | skip
    first | (revert hrsx2; intro hrsx2) | have hrsx2 := WM_rowSize hW (k := Int32.toNatClampNeg x2) (by rw [tn_eq]; omega) | skip
    have q8 := i32_lo v4
    exact hK _ _ _ hWI3 (Fr.tr Fr.rf hFI3 (by intro a k h; omega)) (by first | exact Or.inl ⟨by omega, by omega, rfl⟩ | exact Or.inr (Or.inr (Or.inr (Or.inr (Or.inr (Or.inr (⟨by omega, by omega, by omega, by omega, by omega, rfl⟩)))))) | exact Or.inr (Or.inl ⟨by omega, by omega⟩) | exact Or.inr (Or.inr (Or.inl ⟨by omega, by omega, by omega, rfl⟩)) | exact Or.inr (Or.inr (Or.inr (Or.inl ⟨by omega, by omega, by omega, by omega, by omega, rfl⟩))) | exact Or.inr (Or.inr (Or.inr (Or.inr (Or.inl ⟨by omega, by omega, by omega, by omega, rfl⟩)))) | exact Or.inr (Or.inr (Or.inr (Or.inr (Or.inr (Or.inl ⟨by omega, by omega, by omega, by omega, by omega, ⟨fun q _ => cp_end (by omega) (by omega) (hJ.1 q), hJ.2⟩⟩))))) | (by_cases hA : ((0 ≤ (I0 (t + 1) (Int32.toNatClampNeg x1)).toInt ∧ (I0 (t + 1) (Int32.toNatClampNeg x1)).toInt ≤ 2) ∧ 0 ≤ (I0 (t + 1) (Int32.toNatClampNeg x2)).toInt ∧ (I0 (t + 1) (Int32.toNatClampNeg x2)).toInt ≤ 2) <;> first | (have hs9 := hsu hA; exact Or.inr (Or.inr (Or.inr (Or.inr (Or.inr (Or.inl ⟨hs9.1, hs9.2.1, hs9.2.2.1, hs9.2.2.2, rfl, fun q _ => cp_end (by omega) (by omega) (hJ.1 q), hJ.2.2⟩)))))) | exact Or.inr (Or.inl ⟨by omega, hA⟩)))
  · skip
    have q5 := i32_lo v2
    have q6 : (0 : Int32).toInt = 0 := rfl
    have hc3 : ¬ (v2).toInt = (0 : Int32).toInt := fun z => hc3 (Int32.toInt_inj.mp z)
    first | replace hp1 := Or.resolve_left hp1 (by omega) | replace hp1 := Or.resolve_right hp1 (by omega) | skip
    first | (revert hrsx1; intro hrsx1) | have hrsx1 := WM_rowSize hW (k := Int32.toNatClampNeg x1) (by rw [tn_eq]; omega) | skip
    first | (revert hrsx2; intro hrsx2) | have hrsx2 := WM_rowSize hW (k := Int32.toNatClampNeg x2) (by rw [tn_eq]; omega) | skip
    have q7 := i32_lo x2
    have q8 : (Int32.toInt64 x2).toInt = (x2).toInt := Int32.toInt_toInt64 _
    refine sfX12_in  trivial  (fun v6  hp5 => ?_)
    first | (revert hrsx1; intro hrsx1) | have hrsx1 := WM_rowSize hW (k := Int32.toNatClampNeg x1) (by rw [tn_eq]; omega) | skip
    first | (revert hrsx2; intro hrsx2) | have hrsx2 := WM_rowSize hW (k := Int32.toNatClampNeg x2) (by rw [tn_eq]; omega) | skip
    refine ⟨fun hc6 => ?_, fun hc7 => ?_⟩
    · skip
      have q9 := i32_lo v6
      have hc6 : ¬ (v6).toInt = (0 : Int32).toInt := fun z => hc6 (Int32.toInt_inj.mp z)
      first | replace hp5 := Or.resolve_left hp5 (by omega) | replace hp5 := Or.resolve_right hp5 (by omega) | skip
      first | (revert hrsx1; intro hrsx1) | have hrsx1 := WM_rowSize hW (k := Int32.toNatClampNeg x1) (by rw [tn_eq]; omega) | skip
      first | (revert hrsx2; intro hrsx2) | have hrsx2 := WM_rowSize hW (k := Int32.toNatClampNeg x2) (by rw [tn_eq]; omega) | skip
      refine ⟨vp_of (by omega) (by omega), ?_⟩
      refine ⟨fun hc8 => ?_, fun hc9 => ?_⟩
      · skip
        have q10 : (2 : Int32).toInt = 2 := rfl
        have hc8 := Int32.toInt_inj.mpr hc8
        first | replace hp5 := Or.resolve_left hp5 (by omega) | replace hp5 := Or.resolve_right hp5 (by omega) | skip
        first | (revert hrsx1; intro hrsx1) | have hrsx1 := WM_rowSize hW (k := Int32.toNatClampNeg x1) (by rw [tn_eq]; omega) | skip
        first | (revert hrsx2; intro hrsx2) | have hrsx2 := WM_rowSize hW (k := Int32.toNatClampNeg x2) (by rw [tn_eq]; omega) | skip
        have q11 : (-3 : Int32).toInt = -3 := rfl
        refine sfX12_refuse ht (by decide) hW (by omega) (fun v9 I8 hWI8 hFI8 hp10 => ?_)
        first | (revert hrsx1; intro hrsx1) | have hrsx1 := WM_rowSize hW (k := Int32.toNatClampNeg x1) (by rw [tn_eq]; omega) | skip
        first | (revert hrsx2; intro hrsx2) | have hrsx2 := WM_rowSize hW (k := Int32.toNatClampNeg x2) (by rw [tn_eq]; omega) | skip
        have q12 := i32_lo v9
        exact hK _ _ _ hWI8 (Fr.tr Fr.rf hFI8 (by intro a k h; omega)) (by first | exact Or.inr (Or.inr (Or.inl ⟨by omega, by omega, by omega, rfl⟩)) | exact Or.inr (Or.inr (Or.inr (Or.inr (Or.inl ⟨by omega, by omega, by omega, by omega, rfl⟩)))) | exact Or.inl ⟨by omega, by omega, rfl⟩ | exact Or.inr (Or.inl ⟨by omega, by omega⟩) | exact Or.inr (Or.inr (Or.inr (Or.inl ⟨by omega, by omega, by omega, by omega, by omega, rfl⟩))) | exact Or.inr (Or.inr (Or.inr (Or.inr (Or.inr (Or.inl ⟨by omega, by omega, by omega, by omega, by omega, ⟨fun q _ => cp_end (by omega) (by omega) (hJ.1 q), hJ.2⟩⟩))))) | exact Or.inr (Or.inr (Or.inr (Or.inr (Or.inr (Or.inr (⟨by omega, by omega, by omega, by omega, by omega, rfl⟩)))))) | (by_cases hA : ((0 ≤ (I0 (t + 1) (Int32.toNatClampNeg x1)).toInt ∧ (I0 (t + 1) (Int32.toNatClampNeg x1)).toInt ≤ 2) ∧ 0 ≤ (I0 (t + 1) (Int32.toNatClampNeg x2)).toInt ∧ (I0 (t + 1) (Int32.toNatClampNeg x2)).toInt ≤ 2) <;> first | (have hs9 := hsu hA; exact Or.inr (Or.inr (Or.inr (Or.inr (Or.inr (Or.inl ⟨hs9.1, hs9.2.1, hs9.2.2.1, hs9.2.2.2, rfl, fun q _ => cp_end (by omega) (by omega) (hJ.1 q), hJ.2.2⟩)))))) | exact Or.inr (Or.inl ⟨by omega, hA⟩)))
      · skip
        have q10 : (2 : Int32).toInt = 2 := rfl
        have hc9 : ¬ ((I (t + 1) (Int32.toNatClampNeg x1))).toInt = (2 : Int32).toInt := fun z => hc9 (Int32.toInt_inj.mp z)
        first | (revert hrsx1; intro hrsx1) | have hrsx1 := WM_rowSize hW (k := Int32.toNatClampNeg x1) (by rw [tn_eq]; omega) | skip
        first | (revert hrsx2; intro hrsx2) | have hrsx2 := WM_rowSize hW (k := Int32.toNatClampNeg x2) (by rw [tn_eq]; omega) | skip
        refine ⟨vp_of (by omega) (by omega), ?_⟩
        refine ⟨fun hc11 => ?_, fun hc12 => ?_⟩
        · skip
          have hc11 := Int32.toInt_inj.mpr hc11
          first | (revert hrsx1; intro hrsx1) | have hrsx1 := WM_rowSize hW (k := Int32.toNatClampNeg x1) (by rw [tn_eq]; omega) | skip
          first | (revert hrsx2; intro hrsx2) | have hrsx2 := WM_rowSize hW (k := Int32.toNatClampNeg x2) (by rw [tn_eq]; omega) | skip
          have q11 : (-3 : Int32).toInt = -3 := rfl
          refine sfX12_refuse ht (by decide) hW (by omega) (fun v12 I11 hWI11 hFI11 hp13 => ?_)
          first | (revert hrsx1; intro hrsx1) | have hrsx1 := WM_rowSize hW (k := Int32.toNatClampNeg x1) (by rw [tn_eq]; omega) | skip
          first | (revert hrsx2; intro hrsx2) | have hrsx2 := WM_rowSize hW (k := Int32.toNatClampNeg x2) (by rw [tn_eq]; omega) | skip
          have q12 := i32_lo v12
          exact hK _ _ _ hWI11 (Fr.tr Fr.rf hFI11 (by intro a k h; omega)) (by first | exact Or.inr (Or.inr (Or.inl ⟨by omega, by omega, by omega, rfl⟩)) | exact Or.inr (Or.inr (Or.inr (Or.inr (Or.inl ⟨by omega, by omega, by omega, by omega, rfl⟩)))) | exact Or.inl ⟨by omega, by omega, rfl⟩ | exact Or.inr (Or.inl ⟨by omega, by omega⟩) | exact Or.inr (Or.inr (Or.inr (Or.inl ⟨by omega, by omega, by omega, by omega, by omega, rfl⟩))) | exact Or.inr (Or.inr (Or.inr (Or.inr (Or.inr (Or.inl ⟨by omega, by omega, by omega, by omega, by omega, ⟨fun q _ => cp_end (by omega) (by omega) (hJ.1 q), hJ.2⟩⟩))))) | exact Or.inr (Or.inr (Or.inr (Or.inr (Or.inr (Or.inr (⟨by omega, by omega, by omega, by omega, by omega, rfl⟩)))))) | (by_cases hA : ((0 ≤ (I0 (t + 1) (Int32.toNatClampNeg x1)).toInt ∧ (I0 (t + 1) (Int32.toNatClampNeg x1)).toInt ≤ 2) ∧ 0 ≤ (I0 (t + 1) (Int32.toNatClampNeg x2)).toInt ∧ (I0 (t + 1) (Int32.toNatClampNeg x2)).toInt ≤ 2) <;> first | (have hs9 := hsu hA; exact Or.inr (Or.inr (Or.inr (Or.inr (Or.inr (Or.inl ⟨hs9.1, hs9.2.1, hs9.2.2.1, hs9.2.2.2, rfl, fun q _ => cp_end (by omega) (by omega) (hJ.1 q), hJ.2.2⟩)))))) | exact Or.inr (Or.inl ⟨by omega, hA⟩)))
        · skip
          have hc12 : ¬ ((I (t + 1) (Int32.toNatClampNeg x2))).toInt = (2 : Int32).toInt := fun z => hc12 (Int32.toInt_inj.mp z)
          first | (revert hrsx1; intro hrsx1) | have hrsx1 := WM_rowSize hW (k := Int32.toNatClampNeg x1) (by rw [tn_eq]; omega) | skip
          first | (revert hrsx2; intro hrsx2) | have hrsx2 := WM_rowSize hW (k := Int32.toNatClampNeg x2) (by rw [tn_eq]; omega) | skip
          refine ⟨vp_of (by omega) (by omega), ?_⟩
          refine ⟨fun hc14 => ?_, fun hc15 => ?_⟩
          · skip
            have q11 : (1 : Int32).toInt = 1 := rfl
            have hc14 : ¬ ((I (t + 1) (Int32.toNatClampNeg x1))).toInt = (1 : Int32).toInt := fun z => hc14 (Int32.toInt_inj.mp z)
            first | (revert hrsx1; intro hrsx1) | have hrsx1 := WM_rowSize hW (k := Int32.toNatClampNeg x1) (by rw [tn_eq]; omega) | skip
            first | (revert hrsx2; intro hrsx2) | have hrsx2 := WM_rowSize hW (k := Int32.toNatClampNeg x2) (by rw [tn_eq]; omega) | skip
            refine ⟨vp_of (by omega) (by omega), ?_⟩
            refine ⟨fun hc16 => ?_, fun hc17 => ?_⟩
            · skip
              have hc16 := Int32.toInt_inj.mpr hc16
              first | (revert hrsx1; intro hrsx1) | have hrsx1 := WM_rowSize hW (k := Int32.toNatClampNeg x1) (by rw [tn_eq]; omega) | skip
              first | (revert hrsx2; intro hrsx2) | have hrsx2 := WM_rowSize hW (k := Int32.toNatClampNeg x2) (by rw [tn_eq]; omega) | skip
              have q12 : (-4 : Int32).toInt = -4 := rfl
              refine sfX12_refuse ht (by decide) hW (by omega) (fun v16 I15 hWI15 hFI15 hp18 => ?_)
              first | (revert hrsx1; intro hrsx1) | have hrsx1 := WM_rowSize hW (k := Int32.toNatClampNeg x1) (by rw [tn_eq]; omega) | skip
              first | (revert hrsx2; intro hrsx2) | have hrsx2 := WM_rowSize hW (k := Int32.toNatClampNeg x2) (by rw [tn_eq]; omega) | skip
              have q13 := i32_lo v16
              exact hK _ _ _ hWI15 (Fr.tr Fr.rf hFI15 (by intro a k h; omega)) (by first | exact Or.inr (Or.inr (Or.inr (Or.inl ⟨by omega, by omega, by omega, by omega, by omega, rfl⟩))) | exact Or.inl ⟨by omega, by omega, rfl⟩ | exact Or.inr (Or.inl ⟨by omega, by omega⟩) | exact Or.inr (Or.inr (Or.inl ⟨by omega, by omega, by omega, rfl⟩)) | exact Or.inr (Or.inr (Or.inr (Or.inr (Or.inl ⟨by omega, by omega, by omega, by omega, rfl⟩)))) | exact Or.inr (Or.inr (Or.inr (Or.inr (Or.inr (Or.inl ⟨by omega, by omega, by omega, by omega, by omega, ⟨fun q _ => cp_end (by omega) (by omega) (hJ.1 q), hJ.2⟩⟩))))) | exact Or.inr (Or.inr (Or.inr (Or.inr (Or.inr (Or.inr (⟨by omega, by omega, by omega, by omega, by omega, rfl⟩)))))) | (by_cases hA : ((0 ≤ (I0 (t + 1) (Int32.toNatClampNeg x1)).toInt ∧ (I0 (t + 1) (Int32.toNatClampNeg x1)).toInt ≤ 2) ∧ 0 ≤ (I0 (t + 1) (Int32.toNatClampNeg x2)).toInt ∧ (I0 (t + 1) (Int32.toNatClampNeg x2)).toInt ≤ 2) <;> first | (have hs9 := hsu hA; exact Or.inr (Or.inr (Or.inr (Or.inr (Or.inr (Or.inl ⟨hs9.1, hs9.2.1, hs9.2.2.1, hs9.2.2.2, rfl, fun q _ => cp_end (by omega) (by omega) (hJ.1 q), hJ.2.2⟩)))))) | exact Or.inr (Or.inl ⟨by omega, hA⟩)))
            · skip
              have hc17 : ¬ ((I (t + 1) (Int32.toNatClampNeg x1))).toInt = (0 : Int32).toInt := fun z => hc17 (Int32.toInt_inj.mp z)
              first | (revert hrsx1; intro hrsx1) | have hrsx1 := WM_rowSize hW (k := Int32.toNatClampNeg x1) (by rw [tn_eq]; omega) | skip
              first | (revert hrsx2; intro hrsx2) | have hrsx2 := WM_rowSize hW (k := Int32.toNatClampNeg x2) (by rw [tn_eq]; omega) | skip
              refine ⟨vp_of (by omega) (by omega), ?_⟩
              refine ⟨fun hc19 => ?_, fun hc20 => ?_⟩
              · skip
                have hc19 : ¬ ((I (t + 1) (Int32.toNatClampNeg x2))).toInt = (0 : Int32).toInt := fun z => hc19 (Int32.toInt_inj.mp z)
                first | (revert hrsx1; intro hrsx1) | have hrsx1 := WM_rowSize hW (k := Int32.toNatClampNeg x1) (by rw [tn_eq]; omega) | skip
                first | (revert hrsx2; intro hrsx2) | have hrsx2 := WM_rowSize hW (k := Int32.toNatClampNeg x2) (by rw [tn_eq]; omega) | skip
                refine ⟨fun hc21 => ?_, fun hc22 => ?_⟩
                · skip
                  have q12 := i32_lo x5
                  have hc21 := Int32.lt_iff_toInt_lt.mp hc21
                  first | (revert hrsx1; intro hrsx1) | have hrsx1 := WM_rowSize hW (k := Int32.toNatClampNeg x1) (by rw [tn_eq]; omega) | skip
                  first | (revert hrsx2; intro hrsx2) | have hrsx2 := WM_rowSize hW (k := Int32.toNatClampNeg x2) (by rw [tn_eq]; omega) | skip
                  have q13 : (-2 : Int32).toInt = -2 := rfl
                  refine sfX12_refuse ht (by decide) hW (by omega) (fun v19 I18 hWI18 hFI18 hp23 => ?_)
                  first | (revert hrsx1; intro hrsx1) | have hrsx1 := WM_rowSize hW (k := Int32.toNatClampNeg x1) (by rw [tn_eq]; omega) | skip
                  first | (revert hrsx2; intro hrsx2) | have hrsx2 := WM_rowSize hW (k := Int32.toNatClampNeg x2) (by rw [tn_eq]; omega) | skip
                  have q14 := i32_lo v19
                  exact hK _ _ _ hWI18 (Fr.tr Fr.rf hFI18 (by intro a k h; omega)) (by first | exact Or.inr (Or.inr (Or.inr (Or.inr (Or.inr (Or.inr (⟨by omega, by omega, by omega, by omega, by omega, rfl⟩)))))) | exact Or.inl ⟨by omega, by omega, rfl⟩ | exact Or.inr (Or.inl ⟨by omega, by omega⟩) | exact Or.inr (Or.inr (Or.inl ⟨by omega, by omega, by omega, rfl⟩)) | exact Or.inr (Or.inr (Or.inr (Or.inl ⟨by omega, by omega, by omega, by omega, by omega, rfl⟩))) | exact Or.inr (Or.inr (Or.inr (Or.inr (Or.inl ⟨by omega, by omega, by omega, by omega, rfl⟩)))) | exact Or.inr (Or.inr (Or.inr (Or.inr (Or.inr (Or.inl ⟨by omega, by omega, by omega, by omega, by omega, ⟨fun q _ => cp_end (by omega) (by omega) (hJ.1 q), hJ.2⟩⟩))))) | (by_cases hA : ((0 ≤ (I0 (t + 1) (Int32.toNatClampNeg x1)).toInt ∧ (I0 (t + 1) (Int32.toNatClampNeg x1)).toInt ≤ 2) ∧ 0 ≤ (I0 (t + 1) (Int32.toNatClampNeg x2)).toInt ∧ (I0 (t + 1) (Int32.toNatClampNeg x2)).toInt ≤ 2) <;> first | (have hs9 := hsu hA; exact Or.inr (Or.inr (Or.inr (Or.inr (Or.inr (Or.inl ⟨hs9.1, hs9.2.1, hs9.2.2.1, hs9.2.2.2, rfl, fun q _ => cp_end (by omega) (by omega) (hJ.1 q), hJ.2.2⟩)))))) | exact Or.inr (Or.inl ⟨by omega, hA⟩)))
                · skip
                  have q12 := i32_lo x5
                  have hc22 := mt Int32.lt_iff_toInt_lt.mpr hc22
                  first | (revert hrsx1; intro hrsx1) | have hrsx1 := WM_rowSize hW (k := Int32.toNatClampNeg x1) (by rw [tn_eq]; omega) | skip
                  first | (revert hrsx2; intro hrsx2) | have hrsx2 := WM_rowSize hW (k := Int32.toNatClampNeg x2) (by rw [tn_eq]; omega) | skip
                  refine ⟨fun hc24 => ?_, fun hc25 => ?_⟩
                  · skip
                    have q13 := i32_lo x3
                    have hc24 := Int32.lt_iff_toInt_lt.mp hc24
                    first | (revert hrsx1; intro hrsx1) | have hrsx1 := WM_rowSize hW (k := Int32.toNatClampNeg x1) (by rw [tn_eq]; omega) | skip
                    first | (revert hrsx2; intro hrsx2) | have hrsx2 := WM_rowSize hW (k := Int32.toNatClampNeg x2) (by rw [tn_eq]; omega) | skip
                    have q14 : (-2 : Int32).toInt = -2 := rfl
                    refine sfX12_refuse ht (by decide) hW (by omega) (fun v21 I20 hWI20 hFI20 hp26 => ?_)
                    first | (revert hrsx1; intro hrsx1) | have hrsx1 := WM_rowSize hW (k := Int32.toNatClampNeg x1) (by rw [tn_eq]; omega) | skip
                    first | (revert hrsx2; intro hrsx2) | have hrsx2 := WM_rowSize hW (k := Int32.toNatClampNeg x2) (by rw [tn_eq]; omega) | skip
                    have q15 := i32_lo v21
                    exact hK _ _ _ hWI20 (Fr.tr Fr.rf hFI20 (by intro a k h; omega)) (by first | exact Or.inr (Or.inr (Or.inr (Or.inr (Or.inr (Or.inr (⟨by omega, by omega, by omega, by omega, by omega, rfl⟩)))))) | exact Or.inl ⟨by omega, by omega, rfl⟩ | exact Or.inr (Or.inl ⟨by omega, by omega⟩) | exact Or.inr (Or.inr (Or.inl ⟨by omega, by omega, by omega, rfl⟩)) | exact Or.inr (Or.inr (Or.inr (Or.inl ⟨by omega, by omega, by omega, by omega, by omega, rfl⟩))) | exact Or.inr (Or.inr (Or.inr (Or.inr (Or.inl ⟨by omega, by omega, by omega, by omega, rfl⟩)))) | exact Or.inr (Or.inr (Or.inr (Or.inr (Or.inr (Or.inl ⟨by omega, by omega, by omega, by omega, by omega, ⟨fun q _ => cp_end (by omega) (by omega) (hJ.1 q), hJ.2⟩⟩))))) | (by_cases hA : ((0 ≤ (I0 (t + 1) (Int32.toNatClampNeg x1)).toInt ∧ (I0 (t + 1) (Int32.toNatClampNeg x1)).toInt ≤ 2) ∧ 0 ≤ (I0 (t + 1) (Int32.toNatClampNeg x2)).toInt ∧ (I0 (t + 1) (Int32.toNatClampNeg x2)).toInt ≤ 2) <;> first | (have hs9 := hsu hA; exact Or.inr (Or.inr (Or.inr (Or.inr (Or.inr (Or.inl ⟨hs9.1, hs9.2.1, hs9.2.2.1, hs9.2.2.2, rfl, fun q _ => cp_end (by omega) (by omega) (hJ.1 q), hJ.2.2⟩)))))) | exact Or.inr (Or.inl ⟨by omega, hA⟩)))
                  · skip
                    have q13 := i32_lo x3
                    have hc25 := mt Int32.lt_iff_toInt_lt.mpr hc25
                    first | (revert hrsx1; intro hrsx1) | have hrsx1 := WM_rowSize hW (k := Int32.toNatClampNeg x1) (by rw [tn_eq]; omega) | skip
                    first | (revert hrsx2; intro hrsx2) | have hrsx2 := WM_rowSize hW (k := Int32.toNatClampNeg x2) (by rw [tn_eq]; omega) | skip
                    refine ⟨fun hc27 => ?_, fun hc28 => ?_⟩
                    · skip
                      have q14 := i32_lo x4
                      have hc27 := Int32.lt_iff_toInt_lt.mp hc27
                      first | (revert hrsx1; intro hrsx1) | have hrsx1 := WM_rowSize hW (k := Int32.toNatClampNeg x1) (by rw [tn_eq]; omega) | skip
                      first | (revert hrsx2; intro hrsx2) | have hrsx2 := WM_rowSize hW (k := Int32.toNatClampNeg x2) (by rw [tn_eq]; omega) | skip
                      have q15 : (-2 : Int32).toInt = -2 := rfl
                      refine sfX12_refuse ht (by decide) hW (by omega) (fun v23 I22 hWI22 hFI22 hp29 => ?_)
                      first | (revert hrsx1; intro hrsx1) | have hrsx1 := WM_rowSize hW (k := Int32.toNatClampNeg x1) (by rw [tn_eq]; omega) | skip
                      first | (revert hrsx2; intro hrsx2) | have hrsx2 := WM_rowSize hW (k := Int32.toNatClampNeg x2) (by rw [tn_eq]; omega) | skip
                      have q16 := i32_lo v23
                      exact hK _ _ _ hWI22 (Fr.tr Fr.rf hFI22 (by intro a k h; omega)) (by first | exact Or.inr (Or.inr (Or.inr (Or.inr (Or.inr (Or.inr (⟨by omega, by omega, by omega, by omega, by omega, rfl⟩)))))) | exact Or.inl ⟨by omega, by omega, rfl⟩ | exact Or.inr (Or.inl ⟨by omega, by omega⟩) | exact Or.inr (Or.inr (Or.inl ⟨by omega, by omega, by omega, rfl⟩)) | exact Or.inr (Or.inr (Or.inr (Or.inl ⟨by omega, by omega, by omega, by omega, by omega, rfl⟩))) | exact Or.inr (Or.inr (Or.inr (Or.inr (Or.inl ⟨by omega, by omega, by omega, by omega, rfl⟩)))) | exact Or.inr (Or.inr (Or.inr (Or.inr (Or.inr (Or.inl ⟨by omega, by omega, by omega, by omega, by omega, ⟨fun q _ => cp_end (by omega) (by omega) (hJ.1 q), hJ.2⟩⟩))))) | (by_cases hA : ((0 ≤ (I0 (t + 1) (Int32.toNatClampNeg x1)).toInt ∧ (I0 (t + 1) (Int32.toNatClampNeg x1)).toInt ≤ 2) ∧ 0 ≤ (I0 (t + 1) (Int32.toNatClampNeg x2)).toInt ∧ (I0 (t + 1) (Int32.toNatClampNeg x2)).toInt ≤ 2) <;> first | (have hs9 := hsu hA; exact Or.inr (Or.inr (Or.inr (Or.inr (Or.inr (Or.inl ⟨hs9.1, hs9.2.1, hs9.2.2.1, hs9.2.2.2, rfl, fun q _ => cp_end (by omega) (by omega) (hJ.1 q), hJ.2.2⟩)))))) | exact Or.inr (Or.inl ⟨by omega, hA⟩)))
                    · skip
                      have q14 := i32_lo x4
                      have hc28 := mt Int32.lt_iff_toInt_lt.mpr hc28
                      first | (revert hrsx1; intro hrsx1) | have hrsx1 := WM_rowSize hW (k := Int32.toNatClampNeg x1) (by rw [tn_eq]; omega) | skip
                      first | (revert hrsx2; intro hrsx2) | have hrsx2 := WM_rowSize hW (k := Int32.toNatClampNeg x2) (by rw [tn_eq]; omega) | skip
                      refine ⟨vp_of (by omega) (by omega), ?_⟩
                      refine ⟨fun hc30 => ?_, fun hc31 => ?_⟩
                      · skip
                        have hc30 := Int32.lt_iff_toInt_lt.mp hc30
                        first | (revert hrsx1; intro hrsx1) | have hrsx1 := WM_rowSize hW (k := Int32.toNatClampNeg x1) (by rw [tn_eq]; omega) | skip
                        first | (revert hrsx2; intro hrsx2) | have hrsx2 := WM_rowSize hW (k := Int32.toNatClampNeg x2) (by rw [tn_eq]; omega) | skip
                        have q15 : (-2 : Int32).toInt = -2 := rfl
                        refine sfX12_refuse ht (by decide) hW (by omega) (fun v26 I25 hWI25 hFI25 hp32 => ?_)
                        first | (revert hrsx1; intro hrsx1) | have hrsx1 := WM_rowSize hW (k := Int32.toNatClampNeg x1) (by rw [tn_eq]; omega) | skip
                        first | (revert hrsx2; intro hrsx2) | have hrsx2 := WM_rowSize hW (k := Int32.toNatClampNeg x2) (by rw [tn_eq]; omega) | skip
                        have q16 := i32_lo v26
                        exact hK _ _ _ hWI25 (Fr.tr Fr.rf hFI25 (by intro a k h; omega)) (by first | exact Or.inr (Or.inr (Or.inr (Or.inr (Or.inr (Or.inr (⟨by omega, by omega, by omega, by omega, by omega, rfl⟩)))))) | exact Or.inl ⟨by omega, by omega, rfl⟩ | exact Or.inr (Or.inl ⟨by omega, by omega⟩) | exact Or.inr (Or.inr (Or.inl ⟨by omega, by omega, by omega, rfl⟩)) | exact Or.inr (Or.inr (Or.inr (Or.inl ⟨by omega, by omega, by omega, by omega, by omega, rfl⟩))) | exact Or.inr (Or.inr (Or.inr (Or.inr (Or.inl ⟨by omega, by omega, by omega, by omega, rfl⟩)))) | exact Or.inr (Or.inr (Or.inr (Or.inr (Or.inr (Or.inl ⟨by omega, by omega, by omega, by omega, by omega, ⟨fun q _ => cp_end (by omega) (by omega) (hJ.1 q), hJ.2⟩⟩))))) | (by_cases hA : ((0 ≤ (I0 (t + 1) (Int32.toNatClampNeg x1)).toInt ∧ (I0 (t + 1) (Int32.toNatClampNeg x1)).toInt ≤ 2) ∧ 0 ≤ (I0 (t + 1) (Int32.toNatClampNeg x2)).toInt ∧ (I0 (t + 1) (Int32.toNatClampNeg x2)).toInt ≤ 2) <;> first | (have hs9 := hsu hA; exact Or.inr (Or.inr (Or.inr (Or.inr (Or.inr (Or.inl ⟨hs9.1, hs9.2.1, hs9.2.2.1, hs9.2.2.2, rfl, fun q _ => cp_end (by omega) (by omega) (hJ.1 q), hJ.2.2⟩)))))) | exact Or.inr (Or.inl ⟨by omega, hA⟩)))
                      · skip
                        have hc31 := mt Int32.lt_iff_toInt_lt.mpr hc31
                        first | (revert hrsx1; intro hrsx1) | have hrsx1 := WM_rowSize hW (k := Int32.toNatClampNeg x1) (by rw [tn_eq]; omega) | skip
                        first | (revert hrsx2; intro hrsx2) | have hrsx2 := WM_rowSize hW (k := Int32.toNatClampNeg x2) (by rw [tn_eq]; omega) | skip
                        refine ⟨vp_of (by omega) (by omega), ?_⟩
                        refine ⟨fun hc33 => ?_, fun hc34 => ?_⟩
                        · skip
                          have hc33 := Int32.lt_iff_toInt_lt.mp hc33
                          first | (revert hrsx1; intro hrsx1) | have hrsx1 := WM_rowSize hW (k := Int32.toNatClampNeg x1) (by rw [tn_eq]; omega) | skip
                          first | (revert hrsx2; intro hrsx2) | have hrsx2 := WM_rowSize hW (k := Int32.toNatClampNeg x2) (by rw [tn_eq]; omega) | skip
                          have q15 : (-2 : Int32).toInt = -2 := rfl
                          refine sfX12_refuse ht (by decide) hW (by omega) (fun v29 I28 hWI28 hFI28 hp35 => ?_)
                          first | (revert hrsx1; intro hrsx1) | have hrsx1 := WM_rowSize hW (k := Int32.toNatClampNeg x1) (by rw [tn_eq]; omega) | skip
                          first | (revert hrsx2; intro hrsx2) | have hrsx2 := WM_rowSize hW (k := Int32.toNatClampNeg x2) (by rw [tn_eq]; omega) | skip
                          have q16 := i32_lo v29
                          exact hK _ _ _ hWI28 (Fr.tr Fr.rf hFI28 (by intro a k h; omega)) (by first | exact Or.inr (Or.inr (Or.inr (Or.inr (Or.inr (Or.inr (⟨by omega, by omega, by omega, by omega, by omega, rfl⟩)))))) | exact Or.inl ⟨by omega, by omega, rfl⟩ | exact Or.inr (Or.inl ⟨by omega, by omega⟩) | exact Or.inr (Or.inr (Or.inl ⟨by omega, by omega, by omega, rfl⟩)) | exact Or.inr (Or.inr (Or.inr (Or.inl ⟨by omega, by omega, by omega, by omega, by omega, rfl⟩))) | exact Or.inr (Or.inr (Or.inr (Or.inr (Or.inl ⟨by omega, by omega, by omega, by omega, rfl⟩)))) | exact Or.inr (Or.inr (Or.inr (Or.inr (Or.inr (Or.inl ⟨by omega, by omega, by omega, by omega, by omega, ⟨fun q _ => cp_end (by omega) (by omega) (hJ.1 q), hJ.2⟩⟩))))) | (by_cases hA : ((0 ≤ (I0 (t + 1) (Int32.toNatClampNeg x1)).toInt ∧ (I0 (t + 1) (Int32.toNatClampNeg x1)).toInt ≤ 2) ∧ 0 ≤ (I0 (t + 1) (Int32.toNatClampNeg x2)).toInt ∧ (I0 (t + 1) (Int32.toNatClampNeg x2)).toInt ≤ 2) <;> first | (have hs9 := hsu hA; exact Or.inr (Or.inr (Or.inr (Or.inr (Or.inr (Or.inl ⟨hs9.1, hs9.2.1, hs9.2.2.1, hs9.2.2.2, rfl, fun q _ => cp_end (by omega) (by omega) (hJ.1 q), hJ.2.2⟩)))))) | exact Or.inr (Or.inl ⟨by omega, hA⟩)))
                        · skip
                          have hc34 := mt Int32.lt_iff_toInt_lt.mpr hc34
                          first | (revert hrsx1; intro hrsx1) | have hrsx1 := WM_rowSize hW (k := Int32.toNatClampNeg x1) (by rw [tn_eq]; omega) | skip
                          first | (revert hrsx2; intro hrsx2) | have hrsx2 := WM_rowSize hW (k := Int32.toNatClampNeg x2) (by rw [tn_eq]; omega) | skip
                          refine ⟨vp_of (by omega) (by omega), ?_⟩
                          refine ⟨fun hc36 => ?_, fun hc37 => ?_⟩
                          · skip
                            have q15 := i32_subI (I (t + 3) (Int32.toNatClampNeg x1)) x5
                            have hc36 := Int32.lt_iff_toInt_lt.mp hc36
                            first | (revert hrsx1; intro hrsx1) | have hrsx1 := WM_rowSize hW (k := Int32.toNatClampNeg x1) (by rw [tn_eq]; omega) | skip
                            first | (revert hrsx2; intro hrsx2) | have hrsx2 := WM_rowSize hW (k := Int32.toNatClampNeg x2) (by rw [tn_eq]; omega) | skip
                            have q16 : (-2 : Int32).toInt = -2 := rfl
                            refine sfX12_refuse ht (by decide) hW (by omega) (fun v32 I31 hWI31 hFI31 hp38 => ?_)
                            first | (revert hrsx1; intro hrsx1) | have hrsx1 := WM_rowSize hW (k := Int32.toNatClampNeg x1) (by rw [tn_eq]; omega) | skip
                            first | (revert hrsx2; intro hrsx2) | have hrsx2 := WM_rowSize hW (k := Int32.toNatClampNeg x2) (by rw [tn_eq]; omega) | skip
                            have q17 := i32_lo v32
                            exact hK _ _ _ hWI31 (Fr.tr Fr.rf hFI31 (by intro a k h; omega)) (by first | exact Or.inr (Or.inr (Or.inr (Or.inr (Or.inr (Or.inr (⟨by omega, by omega, by omega, by omega, by omega, rfl⟩)))))) | exact Or.inl ⟨by omega, by omega, rfl⟩ | exact Or.inr (Or.inl ⟨by omega, by omega⟩) | exact Or.inr (Or.inr (Or.inl ⟨by omega, by omega, by omega, rfl⟩)) | exact Or.inr (Or.inr (Or.inr (Or.inl ⟨by omega, by omega, by omega, by omega, by omega, rfl⟩))) | exact Or.inr (Or.inr (Or.inr (Or.inr (Or.inl ⟨by omega, by omega, by omega, by omega, rfl⟩)))) | exact Or.inr (Or.inr (Or.inr (Or.inr (Or.inr (Or.inl ⟨by omega, by omega, by omega, by omega, by omega, ⟨fun q _ => cp_end (by omega) (by omega) (hJ.1 q), hJ.2⟩⟩))))) | (by_cases hA : ((0 ≤ (I0 (t + 1) (Int32.toNatClampNeg x1)).toInt ∧ (I0 (t + 1) (Int32.toNatClampNeg x1)).toInt ≤ 2) ∧ 0 ≤ (I0 (t + 1) (Int32.toNatClampNeg x2)).toInt ∧ (I0 (t + 1) (Int32.toNatClampNeg x2)).toInt ≤ 2) <;> first | (have hs9 := hsu hA; exact Or.inr (Or.inr (Or.inr (Or.inr (Or.inr (Or.inl ⟨hs9.1, hs9.2.1, hs9.2.2.1, hs9.2.2.2, rfl, fun q _ => cp_end (by omega) (by omega) (hJ.1 q), hJ.2.2⟩)))))) | exact Or.inr (Or.inl ⟨by omega, hA⟩)))
                          · skip
                            have q15 := i32_subI (I (t + 3) (Int32.toNatClampNeg x1)) x5
                            have hc37 := mt Int32.lt_iff_toInt_lt.mpr hc37
                            first | (revert hrsx1; intro hrsx1) | have hrsx1 := WM_rowSize hW (k := Int32.toNatClampNeg x1) (by rw [tn_eq]; omega) | skip
                            first | (revert hrsx2; intro hrsx2) | have hrsx2 := WM_rowSize hW (k := Int32.toNatClampNeg x2) (by rw [tn_eq]; omega) | skip
                            refine ⟨vp_of (by omega) (by omega), ?_⟩
                            refine ⟨fun hc39 => ?_, fun hc40 => ?_⟩
                            · skip
                              have q16 := i32_subI (I (t + 3) (Int32.toNatClampNeg x2)) x5
                              have hc39 := Int32.le_iff_toInt_le.mp hc39
                              first | (revert hrsx1; intro hrsx1) | have hrsx1 := WM_rowSize hW (k := Int32.toNatClampNeg x1) (by rw [tn_eq]; omega) | skip
                              first | (revert hrsx2; intro hrsx2) | have hrsx2 := WM_rowSize hW (k := Int32.toNatClampNeg x2) (by rw [tn_eq]; omega) | skip
                              exact lX12_copy_191 ht   hK  (((x5.toInt) - (0 : Int32).toInt).toNat + 1) _ _ 0 hW Fr.rf (by omega) (by omega) (by omega) (by omega) (by omega) (by first | exact ⟨fun q hq => by exfalso; omega, fun _ _ => rfl⟩ | exact cp_1 hJ (by omega) (by omega) (by omega) (by omega) (by omega)) (by omega)
                            · skip
                              have q16 := i32_subI (I (t + 3) (Int32.toNatClampNeg x2)) x5
                              have hc40 := mt Int32.le_iff_toInt_le.mpr hc40
                              first | (revert hrsx1; intro hrsx1) | have hrsx1 := WM_rowSize hW (k := Int32.toNatClampNeg x1) (by rw [tn_eq]; omega) | skip
                              first | (revert hrsx2; intro hrsx2) | have hrsx2 := WM_rowSize hW (k := Int32.toNatClampNeg x2) (by rw [tn_eq]; omega) | skip
                              have q17 : (-2 : Int32).toInt = -2 := rfl
                              refine sfX12_refuse ht (by decide) hW (by omega) (fun v35 I34 hWI34 hFI34 hp41 => ?_)
                              first | (revert hrsx1; intro hrsx1) | have hrsx1 := WM_rowSize hW (k := Int32.toNatClampNeg x1) (by rw [tn_eq]; omega) | skip
                              first | (revert hrsx2; intro hrsx2) | have hrsx2 := WM_rowSize hW (k := Int32.toNatClampNeg x2) (by rw [tn_eq]; omega) | skip
                              have q18 := i32_lo v35
                              exact hK _ _ _ hWI34 (Fr.tr Fr.rf hFI34 (by intro a k h; omega)) (by first | exact Or.inr (Or.inr (Or.inr (Or.inr (Or.inr (Or.inr (⟨by omega, by omega, by omega, by omega, by omega, rfl⟩)))))) | exact Or.inl ⟨by omega, by omega, rfl⟩ | exact Or.inr (Or.inl ⟨by omega, by omega⟩) | exact Or.inr (Or.inr (Or.inl ⟨by omega, by omega, by omega, rfl⟩)) | exact Or.inr (Or.inr (Or.inr (Or.inl ⟨by omega, by omega, by omega, by omega, by omega, rfl⟩))) | exact Or.inr (Or.inr (Or.inr (Or.inr (Or.inl ⟨by omega, by omega, by omega, by omega, rfl⟩)))) | exact Or.inr (Or.inr (Or.inr (Or.inr (Or.inr (Or.inl ⟨by omega, by omega, by omega, by omega, by omega, ⟨fun q _ => cp_end (by omega) (by omega) (hJ.1 q), hJ.2⟩⟩))))) | (by_cases hA : ((0 ≤ (I0 (t + 1) (Int32.toNatClampNeg x1)).toInt ∧ (I0 (t + 1) (Int32.toNatClampNeg x1)).toInt ≤ 2) ∧ 0 ≤ (I0 (t + 1) (Int32.toNatClampNeg x2)).toInt ∧ (I0 (t + 1) (Int32.toNatClampNeg x2)).toInt ≤ 2) <;> first | (have hs9 := hsu hA; exact Or.inr (Or.inr (Or.inr (Or.inr (Or.inr (Or.inl ⟨hs9.1, hs9.2.1, hs9.2.2.1, hs9.2.2.2, rfl, fun q _ => cp_end (by omega) (by omega) (hJ.1 q), hJ.2.2⟩)))))) | exact Or.inr (Or.inl ⟨by omega, hA⟩)))
              · skip
                have hc20 := Int32.toInt_inj.mpr hc20
                first | (revert hrsx1; intro hrsx1) | have hrsx1 := WM_rowSize hW (k := Int32.toNatClampNeg x1) (by rw [tn_eq]; omega) | skip
                first | (revert hrsx2; intro hrsx2) | have hrsx2 := WM_rowSize hW (k := Int32.toNatClampNeg x2) (by rw [tn_eq]; omega) | skip
                have q12 : (-4 : Int32).toInt = -4 := rfl
                refine sfX12_refuse ht (by decide) hW (by omega) (fun v37 I36 hWI36 hFI36 hp42 => ?_)
                first | (revert hrsx1; intro hrsx1) | have hrsx1 := WM_rowSize hW (k := Int32.toNatClampNeg x1) (by rw [tn_eq]; omega) | skip
                first | (revert hrsx2; intro hrsx2) | have hrsx2 := WM_rowSize hW (k := Int32.toNatClampNeg x2) (by rw [tn_eq]; omega) | skip
                have q13 := i32_lo v37
                exact hK _ _ _ hWI36 (Fr.tr Fr.rf hFI36 (by intro a k h; omega)) (by first | exact Or.inr (Or.inr (Or.inr (Or.inl ⟨by omega, by omega, by omega, by omega, by omega, rfl⟩))) | exact Or.inl ⟨by omega, by omega, rfl⟩ | exact Or.inr (Or.inl ⟨by omega, by omega⟩) | exact Or.inr (Or.inr (Or.inl ⟨by omega, by omega, by omega, rfl⟩)) | exact Or.inr (Or.inr (Or.inr (Or.inr (Or.inl ⟨by omega, by omega, by omega, by omega, rfl⟩)))) | exact Or.inr (Or.inr (Or.inr (Or.inr (Or.inr (Or.inl ⟨by omega, by omega, by omega, by omega, by omega, ⟨fun q _ => cp_end (by omega) (by omega) (hJ.1 q), hJ.2⟩⟩))))) | exact Or.inr (Or.inr (Or.inr (Or.inr (Or.inr (Or.inr (⟨by omega, by omega, by omega, by omega, by omega, rfl⟩)))))) | (by_cases hA : ((0 ≤ (I0 (t + 1) (Int32.toNatClampNeg x1)).toInt ∧ (I0 (t + 1) (Int32.toNatClampNeg x1)).toInt ≤ 2) ∧ 0 ≤ (I0 (t + 1) (Int32.toNatClampNeg x2)).toInt ∧ (I0 (t + 1) (Int32.toNatClampNeg x2)).toInt ≤ 2) <;> first | (have hs9 := hsu hA; exact Or.inr (Or.inr (Or.inr (Or.inr (Or.inr (Or.inl ⟨hs9.1, hs9.2.1, hs9.2.2.1, hs9.2.2.2, rfl, fun q _ => cp_end (by omega) (by omega) (hJ.1 q), hJ.2.2⟩)))))) | exact Or.inr (Or.inl ⟨by omega, hA⟩)))
          · skip
            have q11 : (1 : Int32).toInt = 1 := rfl
            have hc15 := Int32.toInt_inj.mpr hc15
            first | (revert hrsx1; intro hrsx1) | have hrsx1 := WM_rowSize hW (k := Int32.toNatClampNeg x1) (by rw [tn_eq]; omega) | skip
            first | (revert hrsx2; intro hrsx2) | have hrsx2 := WM_rowSize hW (k := Int32.toNatClampNeg x2) (by rw [tn_eq]; omega) | skip
            refine ⟨vp_of (by omega) (by omega), ?_⟩
            refine ⟨fun hc43 => ?_, fun hc44 => ?_⟩
            · skip
              have hc43 : ¬ ((I (t + 1) (Int32.toNatClampNeg x2))).toInt = (1 : Int32).toInt := fun z => hc43 (Int32.toInt_inj.mp z)
              first | (revert hrsx1; intro hrsx1) | have hrsx1 := WM_rowSize hW (k := Int32.toNatClampNeg x1) (by rw [tn_eq]; omega) | skip
              first | (revert hrsx2; intro hrsx2) | have hrsx2 := WM_rowSize hW (k := Int32.toNatClampNeg x2) (by rw [tn_eq]; omega) | skip
              refine ⟨vp_of (by omega) (by omega), ?_⟩
              refine ⟨fun hc45 => ?_, fun hc46 => ?_⟩
              · skip
                have hc45 := Int32.toInt_inj.mpr hc45
                first | (revert hrsx1; intro hrsx1) | have hrsx1 := WM_rowSize hW (k := Int32.toNatClampNeg x1) (by rw [tn_eq]; omega) | skip
                first | (revert hrsx2; intro hrsx2) | have hrsx2 := WM_rowSize hW (k := Int32.toNatClampNeg x2) (by rw [tn_eq]; omega) | skip
                have q12 : (-4 : Int32).toInt = -4 := rfl
                refine sfX12_refuse ht (by decide) hW (by omega) (fun v41 I40 hWI40 hFI40 hp47 => ?_)
                first | (revert hrsx1; intro hrsx1) | have hrsx1 := WM_rowSize hW (k := Int32.toNatClampNeg x1) (by rw [tn_eq]; omega) | skip
                first | (revert hrsx2; intro hrsx2) | have hrsx2 := WM_rowSize hW (k := Int32.toNatClampNeg x2) (by rw [tn_eq]; omega) | skip
                have q13 := i32_lo v41
                exact hK _ _ _ hWI40 (Fr.tr Fr.rf hFI40 (by intro a k h; omega)) (by first | exact Or.inr (Or.inr (Or.inr (Or.inl ⟨by omega, by omega, by omega, by omega, by omega, rfl⟩))) | exact Or.inl ⟨by omega, by omega, rfl⟩ | exact Or.inr (Or.inl ⟨by omega, by omega⟩) | exact Or.inr (Or.inr (Or.inl ⟨by omega, by omega, by omega, rfl⟩)) | exact Or.inr (Or.inr (Or.inr (Or.inr (Or.inl ⟨by omega, by omega, by omega, by omega, rfl⟩)))) | exact Or.inr (Or.inr (Or.inr (Or.inr (Or.inr (Or.inl ⟨by omega, by omega, by omega, by omega, by omega, ⟨fun q _ => cp_end (by omega) (by omega) (hJ.1 q), hJ.2⟩⟩))))) | exact Or.inr (Or.inr (Or.inr (Or.inr (Or.inr (Or.inr (⟨by omega, by omega, by omega, by omega, by omega, rfl⟩)))))) | (by_cases hA : ((0 ≤ (I0 (t + 1) (Int32.toNatClampNeg x1)).toInt ∧ (I0 (t + 1) (Int32.toNatClampNeg x1)).toInt ≤ 2) ∧ 0 ≤ (I0 (t + 1) (Int32.toNatClampNeg x2)).toInt ∧ (I0 (t + 1) (Int32.toNatClampNeg x2)).toInt ≤ 2) <;> first | (have hs9 := hsu hA; exact Or.inr (Or.inr (Or.inr (Or.inr (Or.inr (Or.inl ⟨hs9.1, hs9.2.1, hs9.2.2.1, hs9.2.2.2, rfl, fun q _ => cp_end (by omega) (by omega) (hJ.1 q), hJ.2.2⟩)))))) | exact Or.inr (Or.inl ⟨by omega, hA⟩)))
              · skip
                have hc46 : ¬ ((I (t + 1) (Int32.toNatClampNeg x1))).toInt = (0 : Int32).toInt := fun z => hc46 (Int32.toInt_inj.mp z)
                first | (revert hrsx1; intro hrsx1) | have hrsx1 := WM_rowSize hW (k := Int32.toNatClampNeg x1) (by rw [tn_eq]; omega) | skip
                first | (revert hrsx2; intro hrsx2) | have hrsx2 := WM_rowSize hW (k := Int32.toNatClampNeg x2) (by rw [tn_eq]; omega) | skip
                refine ⟨vp_of (by omega) (by omega), ?_⟩
                refine ⟨fun hc48 => ?_, fun hc49 => ?_⟩
                · skip
                  have hc48 : ¬ ((I (t + 1) (Int32.toNatClampNeg x2))).toInt = (0 : Int32).toInt := fun z => hc48 (Int32.toInt_inj.mp z)
                  first | (revert hrsx1; intro hrsx1) | have hrsx1 := WM_rowSize hW (k := Int32.toNatClampNeg x1) (by rw [tn_eq]; omega) | skip
                  first | (revert hrsx2; intro hrsx2) | have hrsx2 := WM_rowSize hW (k := Int32.toNatClampNeg x2) (by rw [tn_eq]; omega) | skip
                  refine ⟨fun hc50 => ?_, fun hc51 => ?_⟩
                  · skip
                    have q12 := i32_lo x5
                    have hc50 := Int32.lt_iff_toInt_lt.mp hc50
                    first | (revert hrsx1; intro hrsx1) | have hrsx1 := WM_rowSize hW (k := Int32.toNatClampNeg x1) (by rw [tn_eq]; omega) | skip
                    first | (revert hrsx2; intro hrsx2) | have hrsx2 := WM_rowSize hW (k := Int32.toNatClampNeg x2) (by rw [tn_eq]; omega) | skip
                    have q13 : (-2 : Int32).toInt = -2 := rfl
                    refine sfX12_refuse ht (by decide) hW (by omega) (fun v44 I43 hWI43 hFI43 hp52 => ?_)
                    first | (revert hrsx1; intro hrsx1) | have hrsx1 := WM_rowSize hW (k := Int32.toNatClampNeg x1) (by rw [tn_eq]; omega) | skip
                    first | (revert hrsx2; intro hrsx2) | have hrsx2 := WM_rowSize hW (k := Int32.toNatClampNeg x2) (by rw [tn_eq]; omega) | skip
                    have q14 := i32_lo v44
                    exact hK _ _ _ hWI43 (Fr.tr Fr.rf hFI43 (by intro a k h; omega)) (by first | exact Or.inr (Or.inr (Or.inr (Or.inr (Or.inr (Or.inr (⟨by omega, by omega, by omega, by omega, by omega, rfl⟩)))))) | exact Or.inl ⟨by omega, by omega, rfl⟩ | exact Or.inr (Or.inl ⟨by omega, by omega⟩) | exact Or.inr (Or.inr (Or.inl ⟨by omega, by omega, by omega, rfl⟩)) | exact Or.inr (Or.inr (Or.inr (Or.inl ⟨by omega, by omega, by omega, by omega, by omega, rfl⟩))) | exact Or.inr (Or.inr (Or.inr (Or.inr (Or.inl ⟨by omega, by omega, by omega, by omega, rfl⟩)))) | exact Or.inr (Or.inr (Or.inr (Or.inr (Or.inr (Or.inl ⟨by omega, by omega, by omega, by omega, by omega, ⟨fun q _ => cp_end (by omega) (by omega) (hJ.1 q), hJ.2⟩⟩))))) | (by_cases hA : ((0 ≤ (I0 (t + 1) (Int32.toNatClampNeg x1)).toInt ∧ (I0 (t + 1) (Int32.toNatClampNeg x1)).toInt ≤ 2) ∧ 0 ≤ (I0 (t + 1) (Int32.toNatClampNeg x2)).toInt ∧ (I0 (t + 1) (Int32.toNatClampNeg x2)).toInt ≤ 2) <;> first | (have hs9 := hsu hA; exact Or.inr (Or.inr (Or.inr (Or.inr (Or.inr (Or.inl ⟨hs9.1, hs9.2.1, hs9.2.2.1, hs9.2.2.2, rfl, fun q _ => cp_end (by omega) (by omega) (hJ.1 q), hJ.2.2⟩)))))) | exact Or.inr (Or.inl ⟨by omega, hA⟩)))
                  · skip
                    have q12 := i32_lo x5
                    have hc51 := mt Int32.lt_iff_toInt_lt.mpr hc51
                    first | (revert hrsx1; intro hrsx1) | have hrsx1 := WM_rowSize hW (k := Int32.toNatClampNeg x1) (by rw [tn_eq]; omega) | skip
                    first | (revert hrsx2; intro hrsx2) | have hrsx2 := WM_rowSize hW (k := Int32.toNatClampNeg x2) (by rw [tn_eq]; omega) | skip
                    refine ⟨fun hc53 => ?_, fun hc54 => ?_⟩
                    · skip
                      have q13 := i32_lo x3
                      have hc53 := Int32.lt_iff_toInt_lt.mp hc53
                      first | (revert hrsx1; intro hrsx1) | have hrsx1 := WM_rowSize hW (k := Int32.toNatClampNeg x1) (by rw [tn_eq]; omega) | skip
                      first | (revert hrsx2; intro hrsx2) | have hrsx2 := WM_rowSize hW (k := Int32.toNatClampNeg x2) (by rw [tn_eq]; omega) | skip
                      have q14 : (-2 : Int32).toInt = -2 := rfl
                      refine sfX12_refuse ht (by decide) hW (by omega) (fun v46 I45 hWI45 hFI45 hp55 => ?_)
                      first | (revert hrsx1; intro hrsx1) | have hrsx1 := WM_rowSize hW (k := Int32.toNatClampNeg x1) (by rw [tn_eq]; omega) | skip
                      first | (revert hrsx2; intro hrsx2) | have hrsx2 := WM_rowSize hW (k := Int32.toNatClampNeg x2) (by rw [tn_eq]; omega) | skip
                      have q15 := i32_lo v46
                      exact hK _ _ _ hWI45 (Fr.tr Fr.rf hFI45 (by intro a k h; omega)) (by first | exact Or.inr (Or.inr (Or.inr (Or.inr (Or.inr (Or.inr (⟨by omega, by omega, by omega, by omega, by omega, rfl⟩)))))) | exact Or.inl ⟨by omega, by omega, rfl⟩ | exact Or.inr (Or.inl ⟨by omega, by omega⟩) | exact Or.inr (Or.inr (Or.inl ⟨by omega, by omega, by omega, rfl⟩)) | exact Or.inr (Or.inr (Or.inr (Or.inl ⟨by omega, by omega, by omega, by omega, by omega, rfl⟩))) | exact Or.inr (Or.inr (Or.inr (Or.inr (Or.inl ⟨by omega, by omega, by omega, by omega, rfl⟩)))) | exact Or.inr (Or.inr (Or.inr (Or.inr (Or.inr (Or.inl ⟨by omega, by omega, by omega, by omega, by omega, ⟨fun q _ => cp_end (by omega) (by omega) (hJ.1 q), hJ.2⟩⟩))))) | (by_cases hA : ((0 ≤ (I0 (t + 1) (Int32.toNatClampNeg x1)).toInt ∧ (I0 (t + 1) (Int32.toNatClampNeg x1)).toInt ≤ 2) ∧ 0 ≤ (I0 (t + 1) (Int32.toNatClampNeg x2)).toInt ∧ (I0 (t + 1) (Int32.toNatClampNeg x2)).toInt ≤ 2) <;> first | (have hs9 := hsu hA; exact Or.inr (Or.inr (Or.inr (Or.inr (Or.inr (Or.inl ⟨hs9.1, hs9.2.1, hs9.2.2.1, hs9.2.2.2, rfl, fun q _ => cp_end (by omega) (by omega) (hJ.1 q), hJ.2.2⟩)))))) | exact Or.inr (Or.inl ⟨by omega, hA⟩)))
                    · skip
                      have q13 := i32_lo x3
                      have hc54 := mt Int32.lt_iff_toInt_lt.mpr hc54
                      first | (revert hrsx1; intro hrsx1) | have hrsx1 := WM_rowSize hW (k := Int32.toNatClampNeg x1) (by rw [tn_eq]; omega) | skip
                      first | (revert hrsx2; intro hrsx2) | have hrsx2 := WM_rowSize hW (k := Int32.toNatClampNeg x2) (by rw [tn_eq]; omega) | skip
                      refine ⟨fun hc56 => ?_, fun hc57 => ?_⟩
                      · skip
                        have q14 := i32_lo x4
                        have hc56 := Int32.lt_iff_toInt_lt.mp hc56
                        first | (revert hrsx1; intro hrsx1) | have hrsx1 := WM_rowSize hW (k := Int32.toNatClampNeg x1) (by rw [tn_eq]; omega) | skip
                        first | (revert hrsx2; intro hrsx2) | have hrsx2 := WM_rowSize hW (k := Int32.toNatClampNeg x2) (by rw [tn_eq]; omega) | skip
                        have q15 : (-2 : Int32).toInt = -2 := rfl
                        refine sfX12_refuse ht (by decide) hW (by omega) (fun v48 I47 hWI47 hFI47 hp58 => ?_)
                        first | (revert hrsx1; intro hrsx1) | have hrsx1 := WM_rowSize hW (k := Int32.toNatClampNeg x1) (by rw [tn_eq]; omega) | skip
                        first | (revert hrsx2; intro hrsx2) | have hrsx2 := WM_rowSize hW (k := Int32.toNatClampNeg x2) (by rw [tn_eq]; omega) | skip
                        have q16 := i32_lo v48
                        exact hK _ _ _ hWI47 (Fr.tr Fr.rf hFI47 (by intro a k h; omega)) (by first | exact Or.inr (Or.inr (Or.inr (Or.inr (Or.inr (Or.inr (⟨by omega, by omega, by omega, by omega, by omega, rfl⟩)))))) | exact Or.inl ⟨by omega, by omega, rfl⟩ | exact Or.inr (Or.inl ⟨by omega, by omega⟩) | exact Or.inr (Or.inr (Or.inl ⟨by omega, by omega, by omega, rfl⟩)) | exact Or.inr (Or.inr (Or.inr (Or.inl ⟨by omega, by omega, by omega, by omega, by omega, rfl⟩))) | exact Or.inr (Or.inr (Or.inr (Or.inr (Or.inl ⟨by omega, by omega, by omega, by omega, rfl⟩)))) | exact Or.inr (Or.inr (Or.inr (Or.inr (Or.inr (Or.inl ⟨by omega, by omega, by omega, by omega, by omega, ⟨fun q _ => cp_end (by omega) (by omega) (hJ.1 q), hJ.2⟩⟩))))) | (by_cases hA : ((0 ≤ (I0 (t + 1) (Int32.toNatClampNeg x1)).toInt ∧ (I0 (t + 1) (Int32.toNatClampNeg x1)).toInt ≤ 2) ∧ 0 ≤ (I0 (t + 1) (Int32.toNatClampNeg x2)).toInt ∧ (I0 (t + 1) (Int32.toNatClampNeg x2)).toInt ≤ 2) <;> first | (have hs9 := hsu hA; exact Or.inr (Or.inr (Or.inr (Or.inr (Or.inr (Or.inl ⟨hs9.1, hs9.2.1, hs9.2.2.1, hs9.2.2.2, rfl, fun q _ => cp_end (by omega) (by omega) (hJ.1 q), hJ.2.2⟩)))))) | exact Or.inr (Or.inl ⟨by omega, hA⟩)))
                      · skip
                        have q14 := i32_lo x4
                        have hc57 := mt Int32.lt_iff_toInt_lt.mpr hc57
                        first | (revert hrsx1; intro hrsx1) | have hrsx1 := WM_rowSize hW (k := Int32.toNatClampNeg x1) (by rw [tn_eq]; omega) | skip
                        first | (revert hrsx2; intro hrsx2) | have hrsx2 := WM_rowSize hW (k := Int32.toNatClampNeg x2) (by rw [tn_eq]; omega) | skip
                        refine ⟨vp_of (by omega) (by omega), ?_⟩
                        refine ⟨fun hc59 => ?_, fun hc60 => ?_⟩
                        · skip
                          have hc59 := Int32.lt_iff_toInt_lt.mp hc59
                          first | (revert hrsx1; intro hrsx1) | have hrsx1 := WM_rowSize hW (k := Int32.toNatClampNeg x1) (by rw [tn_eq]; omega) | skip
                          first | (revert hrsx2; intro hrsx2) | have hrsx2 := WM_rowSize hW (k := Int32.toNatClampNeg x2) (by rw [tn_eq]; omega) | skip
                          have q15 : (-2 : Int32).toInt = -2 := rfl
                          refine sfX12_refuse ht (by decide) hW (by omega) (fun v51 I50 hWI50 hFI50 hp61 => ?_)
                          first | (revert hrsx1; intro hrsx1) | have hrsx1 := WM_rowSize hW (k := Int32.toNatClampNeg x1) (by rw [tn_eq]; omega) | skip
                          first | (revert hrsx2; intro hrsx2) | have hrsx2 := WM_rowSize hW (k := Int32.toNatClampNeg x2) (by rw [tn_eq]; omega) | skip
                          have q16 := i32_lo v51
                          exact hK _ _ _ hWI50 (Fr.tr Fr.rf hFI50 (by intro a k h; omega)) (by first | exact Or.inr (Or.inr (Or.inr (Or.inr (Or.inr (Or.inr (⟨by omega, by omega, by omega, by omega, by omega, rfl⟩)))))) | exact Or.inl ⟨by omega, by omega, rfl⟩ | exact Or.inr (Or.inl ⟨by omega, by omega⟩) | exact Or.inr (Or.inr (Or.inl ⟨by omega, by omega, by omega, rfl⟩)) | exact Or.inr (Or.inr (Or.inr (Or.inl ⟨by omega, by omega, by omega, by omega, by omega, rfl⟩))) | exact Or.inr (Or.inr (Or.inr (Or.inr (Or.inl ⟨by omega, by omega, by omega, by omega, rfl⟩)))) | exact Or.inr (Or.inr (Or.inr (Or.inr (Or.inr (Or.inl ⟨by omega, by omega, by omega, by omega, by omega, ⟨fun q _ => cp_end (by omega) (by omega) (hJ.1 q), hJ.2⟩⟩))))) | (by_cases hA : ((0 ≤ (I0 (t + 1) (Int32.toNatClampNeg x1)).toInt ∧ (I0 (t + 1) (Int32.toNatClampNeg x1)).toInt ≤ 2) ∧ 0 ≤ (I0 (t + 1) (Int32.toNatClampNeg x2)).toInt ∧ (I0 (t + 1) (Int32.toNatClampNeg x2)).toInt ≤ 2) <;> first | (have hs9 := hsu hA; exact Or.inr (Or.inr (Or.inr (Or.inr (Or.inr (Or.inl ⟨hs9.1, hs9.2.1, hs9.2.2.1, hs9.2.2.2, rfl, fun q _ => cp_end (by omega) (by omega) (hJ.1 q), hJ.2.2⟩)))))) | exact Or.inr (Or.inl ⟨by omega, hA⟩)))
                        · skip
                          have hc60 := mt Int32.lt_iff_toInt_lt.mpr hc60
                          first | (revert hrsx1; intro hrsx1) | have hrsx1 := WM_rowSize hW (k := Int32.toNatClampNeg x1) (by rw [tn_eq]; omega) | skip
                          first | (revert hrsx2; intro hrsx2) | have hrsx2 := WM_rowSize hW (k := Int32.toNatClampNeg x2) (by rw [tn_eq]; omega) | skip
                          refine ⟨vp_of (by omega) (by omega), ?_⟩
                          refine ⟨fun hc62 => ?_, fun hc63 => ?_⟩
                          · skip
                            have hc62 := Int32.lt_iff_toInt_lt.mp hc62
                            first | (revert hrsx1; intro hrsx1) | have hrsx1 := WM_rowSize hW (k := Int32.toNatClampNeg x1) (by rw [tn_eq]; omega) | skip
                            first | (revert hrsx2; intro hrsx2) | have hrsx2 := WM_rowSize hW (k := Int32.toNatClampNeg x2) (by rw [tn_eq]; omega) | skip
                            have q15 : (-2 : Int32).toInt = -2 := rfl
                            refine sfX12_refuse ht (by decide) hW (by omega) (fun v54 I53 hWI53 hFI53 hp64 => ?_)
                            first | (revert hrsx1; intro hrsx1) | have hrsx1 := WM_rowSize hW (k := Int32.toNatClampNeg x1) (by rw [tn_eq]; omega) | skip
                            first | (revert hrsx2; intro hrsx2) | have hrsx2 := WM_rowSize hW (k := Int32.toNatClampNeg x2) (by rw [tn_eq]; omega) | skip
                            have q16 := i32_lo v54
                            exact hK _ _ _ hWI53 (Fr.tr Fr.rf hFI53 (by intro a k h; omega)) (by first | exact Or.inr (Or.inr (Or.inr (Or.inr (Or.inr (Or.inr (⟨by omega, by omega, by omega, by omega, by omega, rfl⟩)))))) | exact Or.inl ⟨by omega, by omega, rfl⟩ | exact Or.inr (Or.inl ⟨by omega, by omega⟩) | exact Or.inr (Or.inr (Or.inl ⟨by omega, by omega, by omega, rfl⟩)) | exact Or.inr (Or.inr (Or.inr (Or.inl ⟨by omega, by omega, by omega, by omega, by omega, rfl⟩))) | exact Or.inr (Or.inr (Or.inr (Or.inr (Or.inl ⟨by omega, by omega, by omega, by omega, rfl⟩)))) | exact Or.inr (Or.inr (Or.inr (Or.inr (Or.inr (Or.inl ⟨by omega, by omega, by omega, by omega, by omega, ⟨fun q _ => cp_end (by omega) (by omega) (hJ.1 q), hJ.2⟩⟩))))) | (by_cases hA : ((0 ≤ (I0 (t + 1) (Int32.toNatClampNeg x1)).toInt ∧ (I0 (t + 1) (Int32.toNatClampNeg x1)).toInt ≤ 2) ∧ 0 ≤ (I0 (t + 1) (Int32.toNatClampNeg x2)).toInt ∧ (I0 (t + 1) (Int32.toNatClampNeg x2)).toInt ≤ 2) <;> first | (have hs9 := hsu hA; exact Or.inr (Or.inr (Or.inr (Or.inr (Or.inr (Or.inl ⟨hs9.1, hs9.2.1, hs9.2.2.1, hs9.2.2.2, rfl, fun q _ => cp_end (by omega) (by omega) (hJ.1 q), hJ.2.2⟩)))))) | exact Or.inr (Or.inl ⟨by omega, hA⟩)))
                          · skip
                            have hc63 := mt Int32.lt_iff_toInt_lt.mpr hc63
                            first | (revert hrsx1; intro hrsx1) | have hrsx1 := WM_rowSize hW (k := Int32.toNatClampNeg x1) (by rw [tn_eq]; omega) | skip
                            first | (revert hrsx2; intro hrsx2) | have hrsx2 := WM_rowSize hW (k := Int32.toNatClampNeg x2) (by rw [tn_eq]; omega) | skip
                            refine ⟨vp_of (by omega) (by omega), ?_⟩
                            refine ⟨fun hc65 => ?_, fun hc66 => ?_⟩
                            · skip
                              have q15 := i32_subI (I (t + 3) (Int32.toNatClampNeg x1)) x5
                              have hc65 := Int32.lt_iff_toInt_lt.mp hc65
                              first | (revert hrsx1; intro hrsx1) | have hrsx1 := WM_rowSize hW (k := Int32.toNatClampNeg x1) (by rw [tn_eq]; omega) | skip
                              first | (revert hrsx2; intro hrsx2) | have hrsx2 := WM_rowSize hW (k := Int32.toNatClampNeg x2) (by rw [tn_eq]; omega) | skip
                              have q16 : (-2 : Int32).toInt = -2 := rfl
                              refine sfX12_refuse ht (by decide) hW (by omega) (fun v57 I56 hWI56 hFI56 hp67 => ?_)
                              first | (revert hrsx1; intro hrsx1) | have hrsx1 := WM_rowSize hW (k := Int32.toNatClampNeg x1) (by rw [tn_eq]; omega) | skip
                              first | (revert hrsx2; intro hrsx2) | have hrsx2 := WM_rowSize hW (k := Int32.toNatClampNeg x2) (by rw [tn_eq]; omega) | skip
                              have q17 := i32_lo v57
                              exact hK _ _ _ hWI56 (Fr.tr Fr.rf hFI56 (by intro a k h; omega)) (by first | exact Or.inr (Or.inr (Or.inr (Or.inr (Or.inr (Or.inr (⟨by omega, by omega, by omega, by omega, by omega, rfl⟩)))))) | exact Or.inl ⟨by omega, by omega, rfl⟩ | exact Or.inr (Or.inl ⟨by omega, by omega⟩) | exact Or.inr (Or.inr (Or.inl ⟨by omega, by omega, by omega, rfl⟩)) | exact Or.inr (Or.inr (Or.inr (Or.inl ⟨by omega, by omega, by omega, by omega, by omega, rfl⟩))) | exact Or.inr (Or.inr (Or.inr (Or.inr (Or.inl ⟨by omega, by omega, by omega, by omega, rfl⟩)))) | exact Or.inr (Or.inr (Or.inr (Or.inr (Or.inr (Or.inl ⟨by omega, by omega, by omega, by omega, by omega, ⟨fun q _ => cp_end (by omega) (by omega) (hJ.1 q), hJ.2⟩⟩))))) | (by_cases hA : ((0 ≤ (I0 (t + 1) (Int32.toNatClampNeg x1)).toInt ∧ (I0 (t + 1) (Int32.toNatClampNeg x1)).toInt ≤ 2) ∧ 0 ≤ (I0 (t + 1) (Int32.toNatClampNeg x2)).toInt ∧ (I0 (t + 1) (Int32.toNatClampNeg x2)).toInt ≤ 2) <;> first | (have hs9 := hsu hA; exact Or.inr (Or.inr (Or.inr (Or.inr (Or.inr (Or.inl ⟨hs9.1, hs9.2.1, hs9.2.2.1, hs9.2.2.2, rfl, fun q _ => cp_end (by omega) (by omega) (hJ.1 q), hJ.2.2⟩)))))) | exact Or.inr (Or.inl ⟨by omega, hA⟩)))
                            · skip
                              have q15 := i32_subI (I (t + 3) (Int32.toNatClampNeg x1)) x5
                              have hc66 := mt Int32.lt_iff_toInt_lt.mpr hc66
                              first | (revert hrsx1; intro hrsx1) | have hrsx1 := WM_rowSize hW (k := Int32.toNatClampNeg x1) (by rw [tn_eq]; omega) | skip
                              first | (revert hrsx2; intro hrsx2) | have hrsx2 := WM_rowSize hW (k := Int32.toNatClampNeg x2) (by rw [tn_eq]; omega) | skip
                              refine ⟨vp_of (by omega) (by omega), ?_⟩
                              refine ⟨fun hc68 => ?_, fun hc69 => ?_⟩
                              · skip
                                have q16 := i32_subI (I (t + 3) (Int32.toNatClampNeg x2)) x5
                                have hc68 := Int32.le_iff_toInt_le.mp hc68
                                first | (revert hrsx1; intro hrsx1) | have hrsx1 := WM_rowSize hW (k := Int32.toNatClampNeg x1) (by rw [tn_eq]; omega) | skip
                                first | (revert hrsx2; intro hrsx2) | have hrsx2 := WM_rowSize hW (k := Int32.toNatClampNeg x2) (by rw [tn_eq]; omega) | skip
                                exact lX12_copy_191 ht   hK  (((x5.toInt) - (0 : Int32).toInt).toNat + 1) _ _ 0 hW Fr.rf (by omega) (by omega) (by omega) (by omega) (by omega) (by first | exact ⟨fun q hq => by exfalso; omega, fun _ _ => rfl⟩ | exact cp_1 hJ (by omega) (by omega) (by omega) (by omega) (by omega)) (by omega)
                              · skip
                                have q16 := i32_subI (I (t + 3) (Int32.toNatClampNeg x2)) x5
                                have hc69 := mt Int32.le_iff_toInt_le.mpr hc69
                                first | (revert hrsx1; intro hrsx1) | have hrsx1 := WM_rowSize hW (k := Int32.toNatClampNeg x1) (by rw [tn_eq]; omega) | skip
                                first | (revert hrsx2; intro hrsx2) | have hrsx2 := WM_rowSize hW (k := Int32.toNatClampNeg x2) (by rw [tn_eq]; omega) | skip
                                have q17 : (-2 : Int32).toInt = -2 := rfl
                                refine sfX12_refuse ht (by decide) hW (by omega) (fun v60 I59 hWI59 hFI59 hp70 => ?_)
                                first | (revert hrsx1; intro hrsx1) | have hrsx1 := WM_rowSize hW (k := Int32.toNatClampNeg x1) (by rw [tn_eq]; omega) | skip
                                first | (revert hrsx2; intro hrsx2) | have hrsx2 := WM_rowSize hW (k := Int32.toNatClampNeg x2) (by rw [tn_eq]; omega) | skip
                                have q18 := i32_lo v60
                                exact hK _ _ _ hWI59 (Fr.tr Fr.rf hFI59 (by intro a k h; omega)) (by first | exact Or.inr (Or.inr (Or.inr (Or.inr (Or.inr (Or.inr (⟨by omega, by omega, by omega, by omega, by omega, rfl⟩)))))) | exact Or.inl ⟨by omega, by omega, rfl⟩ | exact Or.inr (Or.inl ⟨by omega, by omega⟩) | exact Or.inr (Or.inr (Or.inl ⟨by omega, by omega, by omega, rfl⟩)) | exact Or.inr (Or.inr (Or.inr (Or.inl ⟨by omega, by omega, by omega, by omega, by omega, rfl⟩))) | exact Or.inr (Or.inr (Or.inr (Or.inr (Or.inl ⟨by omega, by omega, by omega, by omega, rfl⟩)))) | exact Or.inr (Or.inr (Or.inr (Or.inr (Or.inr (Or.inl ⟨by omega, by omega, by omega, by omega, by omega, ⟨fun q _ => cp_end (by omega) (by omega) (hJ.1 q), hJ.2⟩⟩))))) | (by_cases hA : ((0 ≤ (I0 (t + 1) (Int32.toNatClampNeg x1)).toInt ∧ (I0 (t + 1) (Int32.toNatClampNeg x1)).toInt ≤ 2) ∧ 0 ≤ (I0 (t + 1) (Int32.toNatClampNeg x2)).toInt ∧ (I0 (t + 1) (Int32.toNatClampNeg x2)).toInt ≤ 2) <;> first | (have hs9 := hsu hA; exact Or.inr (Or.inr (Or.inr (Or.inr (Or.inr (Or.inl ⟨hs9.1, hs9.2.1, hs9.2.2.1, hs9.2.2.2, rfl, fun q _ => cp_end (by omega) (by omega) (hJ.1 q), hJ.2.2⟩)))))) | exact Or.inr (Or.inl ⟨by omega, hA⟩)))
                · skip
                  have hc49 := Int32.toInt_inj.mpr hc49
                  first | (revert hrsx1; intro hrsx1) | have hrsx1 := WM_rowSize hW (k := Int32.toNatClampNeg x1) (by rw [tn_eq]; omega) | skip
                  first | (revert hrsx2; intro hrsx2) | have hrsx2 := WM_rowSize hW (k := Int32.toNatClampNeg x2) (by rw [tn_eq]; omega) | skip
                  have q12 : (-4 : Int32).toInt = -4 := rfl
                  refine sfX12_refuse ht (by decide) hW (by omega) (fun v62 I61 hWI61 hFI61 hp71 => ?_)
                  first | (revert hrsx1; intro hrsx1) | have hrsx1 := WM_rowSize hW (k := Int32.toNatClampNeg x1) (by rw [tn_eq]; omega) | skip
                  first | (revert hrsx2; intro hrsx2) | have hrsx2 := WM_rowSize hW (k := Int32.toNatClampNeg x2) (by rw [tn_eq]; omega) | skip
                  have q13 := i32_lo v62
                  exact hK _ _ _ hWI61 (Fr.tr Fr.rf hFI61 (by intro a k h; omega)) (by first | exact Or.inr (Or.inr (Or.inr (Or.inl ⟨by omega, by omega, by omega, by omega, by omega, rfl⟩))) | exact Or.inl ⟨by omega, by omega, rfl⟩ | exact Or.inr (Or.inl ⟨by omega, by omega⟩) | exact Or.inr (Or.inr (Or.inl ⟨by omega, by omega, by omega, rfl⟩)) | exact Or.inr (Or.inr (Or.inr (Or.inr (Or.inl ⟨by omega, by omega, by omega, by omega, rfl⟩)))) | exact Or.inr (Or.inr (Or.inr (Or.inr (Or.inr (Or.inl ⟨by omega, by omega, by omega, by omega, by omega, ⟨fun q _ => cp_end (by omega) (by omega) (hJ.1 q), hJ.2⟩⟩))))) | exact Or.inr (Or.inr (Or.inr (Or.inr (Or.inr (Or.inr (⟨by omega, by omega, by omega, by omega, by omega, rfl⟩)))))) | (by_cases hA : ((0 ≤ (I0 (t + 1) (Int32.toNatClampNeg x1)).toInt ∧ (I0 (t + 1) (Int32.toNatClampNeg x1)).toInt ≤ 2) ∧ 0 ≤ (I0 (t + 1) (Int32.toNatClampNeg x2)).toInt ∧ (I0 (t + 1) (Int32.toNatClampNeg x2)).toInt ≤ 2) <;> first | (have hs9 := hsu hA; exact Or.inr (Or.inr (Or.inr (Or.inr (Or.inr (Or.inl ⟨hs9.1, hs9.2.1, hs9.2.2.1, hs9.2.2.2, rfl, fun q _ => cp_end (by omega) (by omega) (hJ.1 q), hJ.2.2⟩)))))) | exact Or.inr (Or.inl ⟨by omega, hA⟩)))
            · skip
              have hc44 := Int32.toInt_inj.mpr hc44
              first | (revert hrsx1; intro hrsx1) | have hrsx1 := WM_rowSize hW (k := Int32.toNatClampNeg x1) (by rw [tn_eq]; omega) | skip
              first | (revert hrsx2; intro hrsx2) | have hrsx2 := WM_rowSize hW (k := Int32.toNatClampNeg x2) (by rw [tn_eq]; omega) | skip
              refine ⟨vp_of (by omega) (by omega), ?_⟩
              refine ⟨vp_of (by omega) (by omega), ?_⟩
              refine ⟨fun hc72 => ?_, fun hc73 => ?_⟩
              · skip
                have hc72 := Int32.toInt_inj.mpr hc72
                first | (revert hrsx1; intro hrsx1) | have hrsx1 := WM_rowSize hW (k := Int32.toNatClampNeg x1) (by rw [tn_eq]; omega) | skip
                first | (revert hrsx2; intro hrsx2) | have hrsx2 := WM_rowSize hW (k := Int32.toNatClampNeg x2) (by rw [tn_eq]; omega) | skip
                refine ⟨vp_of (by omega) (by omega), ?_⟩
                refine ⟨fun hc74 => ?_, fun hc75 => ?_⟩
                · skip
                  have hc74 := Int32.toInt_inj.mpr hc74
                  first | (revert hrsx1; intro hrsx1) | have hrsx1 := WM_rowSize hW (k := Int32.toNatClampNeg x1) (by rw [tn_eq]; omega) | skip
                  first | (revert hrsx2; intro hrsx2) | have hrsx2 := WM_rowSize hW (k := Int32.toNatClampNeg x2) (by rw [tn_eq]; omega) | skip
                  have q12 : (-4 : Int32).toInt = -4 := rfl
                  refine sfX12_refuse ht (by decide) hW (by omega) (fun v67 I66 hWI66 hFI66 hp76 => ?_)
                  first | (revert hrsx1; intro hrsx1) | have hrsx1 := WM_rowSize hW (k := Int32.toNatClampNeg x1) (by rw [tn_eq]; omega) | skip
                  first | (revert hrsx2; intro hrsx2) | have hrsx2 := WM_rowSize hW (k := Int32.toNatClampNeg x2) (by rw [tn_eq]; omega) | skip
                  have q13 := i32_lo v67
                  exact hK _ _ _ hWI66 (Fr.tr Fr.rf hFI66 (by intro a k h; omega)) (by first | exact Or.inr (Or.inr (Or.inr (Or.inl ⟨by omega, by omega, by omega, by omega, by omega, rfl⟩))) | exact Or.inl ⟨by omega, by omega, rfl⟩ | exact Or.inr (Or.inl ⟨by omega, by omega⟩) | exact Or.inr (Or.inr (Or.inl ⟨by omega, by omega, by omega, rfl⟩)) | exact Or.inr (Or.inr (Or.inr (Or.inr (Or.inl ⟨by omega, by omega, by omega, by omega, rfl⟩)))) | exact Or.inr (Or.inr (Or.inr (Or.inr (Or.inr (Or.inl ⟨by omega, by omega, by omega, by omega, by omega, ⟨fun q _ => cp_end (by omega) (by omega) (hJ.1 q), hJ.2⟩⟩))))) | exact Or.inr (Or.inr (Or.inr (Or.inr (Or.inr (Or.inr (⟨by omega, by omega, by omega, by omega, by omega, rfl⟩)))))) | (by_cases hA : ((0 ≤ (I0 (t + 1) (Int32.toNatClampNeg x1)).toInt ∧ (I0 (t + 1) (Int32.toNatClampNeg x1)).toInt ≤ 2) ∧ 0 ≤ (I0 (t + 1) (Int32.toNatClampNeg x2)).toInt ∧ (I0 (t + 1) (Int32.toNatClampNeg x2)).toInt ≤ 2) <;> first | (have hs9 := hsu hA; exact Or.inr (Or.inr (Or.inr (Or.inr (Or.inr (Or.inl ⟨hs9.1, hs9.2.1, hs9.2.2.1, hs9.2.2.2, rfl, fun q _ => cp_end (by omega) (by omega) (hJ.1 q), hJ.2.2⟩)))))) | exact Or.inr (Or.inl ⟨by omega, hA⟩)))
                · skip
                  have hc75 : ¬ ((I (t + 1) (Int32.toNatClampNeg x1))).toInt = (0 : Int32).toInt := fun z => hc75 (Int32.toInt_inj.mp z)
                  first | (revert hrsx1; intro hrsx1) | have hrsx1 := WM_rowSize hW (k := Int32.toNatClampNeg x1) (by rw [tn_eq]; omega) | skip
                  first | (revert hrsx2; intro hrsx2) | have hrsx2 := WM_rowSize hW (k := Int32.toNatClampNeg x2) (by rw [tn_eq]; omega) | skip
                  refine ⟨vp_of (by omega) (by omega), ?_⟩
                  refine ⟨fun hc77 => ?_, fun hc78 => ?_⟩
                  · skip
                    have hc77 : ¬ ((I (t + 1) (Int32.toNatClampNeg x2))).toInt = (0 : Int32).toInt := fun z => hc77 (Int32.toInt_inj.mp z)
                    first | (revert hrsx1; intro hrsx1) | have hrsx1 := WM_rowSize hW (k := Int32.toNatClampNeg x1) (by rw [tn_eq]; omega) | skip
                    first | (revert hrsx2; intro hrsx2) | have hrsx2 := WM_rowSize hW (k := Int32.toNatClampNeg x2) (by rw [tn_eq]; omega) | skip
                    refine ⟨fun hc79 => ?_, fun hc80 => ?_⟩
                    · skip
                      have q12 := i32_lo x5
                      have hc79 := Int32.lt_iff_toInt_lt.mp hc79
                      first | (revert hrsx1; intro hrsx1) | have hrsx1 := WM_rowSize hW (k := Int32.toNatClampNeg x1) (by rw [tn_eq]; omega) | skip
                      first | (revert hrsx2; intro hrsx2) | have hrsx2 := WM_rowSize hW (k := Int32.toNatClampNeg x2) (by rw [tn_eq]; omega) | skip
                      have q13 : (-2 : Int32).toInt = -2 := rfl
                      refine sfX12_refuse ht (by decide) hW (by omega) (fun v70 I69 hWI69 hFI69 hp81 => ?_)
                      first | (revert hrsx1; intro hrsx1) | have hrsx1 := WM_rowSize hW (k := Int32.toNatClampNeg x1) (by rw [tn_eq]; omega) | skip
                      first | (revert hrsx2; intro hrsx2) | have hrsx2 := WM_rowSize hW (k := Int32.toNatClampNeg x2) (by rw [tn_eq]; omega) | skip
                      have q14 := i32_lo v70
                      exact hK _ _ _ hWI69 (Fr.tr Fr.rf hFI69 (by intro a k h; omega)) (by first | exact Or.inr (Or.inr (Or.inr (Or.inr (Or.inr (Or.inr (⟨by omega, by omega, by omega, by omega, by omega, rfl⟩)))))) | exact Or.inl ⟨by omega, by omega, rfl⟩ | exact Or.inr (Or.inl ⟨by omega, by omega⟩) | exact Or.inr (Or.inr (Or.inl ⟨by omega, by omega, by omega, rfl⟩)) | exact Or.inr (Or.inr (Or.inr (Or.inl ⟨by omega, by omega, by omega, by omega, by omega, rfl⟩))) | exact Or.inr (Or.inr (Or.inr (Or.inr (Or.inl ⟨by omega, by omega, by omega, by omega, rfl⟩)))) | exact Or.inr (Or.inr (Or.inr (Or.inr (Or.inr (Or.inl ⟨by omega, by omega, by omega, by omega, by omega, ⟨fun q _ => cp_end (by omega) (by omega) (hJ.1 q), hJ.2⟩⟩))))) | (by_cases hA : ((0 ≤ (I0 (t + 1) (Int32.toNatClampNeg x1)).toInt ∧ (I0 (t + 1) (Int32.toNatClampNeg x1)).toInt ≤ 2) ∧ 0 ≤ (I0 (t + 1) (Int32.toNatClampNeg x2)).toInt ∧ (I0 (t + 1) (Int32.toNatClampNeg x2)).toInt ≤ 2) <;> first | (have hs9 := hsu hA; exact Or.inr (Or.inr (Or.inr (Or.inr (Or.inr (Or.inl ⟨hs9.1, hs9.2.1, hs9.2.2.1, hs9.2.2.2, rfl, fun q _ => cp_end (by omega) (by omega) (hJ.1 q), hJ.2.2⟩)))))) | exact Or.inr (Or.inl ⟨by omega, hA⟩)))
                    · skip
                      have q12 := i32_lo x5
                      have hc80 := mt Int32.lt_iff_toInt_lt.mpr hc80
                      first | (revert hrsx1; intro hrsx1) | have hrsx1 := WM_rowSize hW (k := Int32.toNatClampNeg x1) (by rw [tn_eq]; omega) | skip
                      first | (revert hrsx2; intro hrsx2) | have hrsx2 := WM_rowSize hW (k := Int32.toNatClampNeg x2) (by rw [tn_eq]; omega) | skip
                      refine ⟨fun hc82 => ?_, fun hc83 => ?_⟩
                      · skip
                        have q13 := i32_lo x3
                        have hc82 := Int32.lt_iff_toInt_lt.mp hc82
                        first | (revert hrsx1; intro hrsx1) | have hrsx1 := WM_rowSize hW (k := Int32.toNatClampNeg x1) (by rw [tn_eq]; omega) | skip
                        first | (revert hrsx2; intro hrsx2) | have hrsx2 := WM_rowSize hW (k := Int32.toNatClampNeg x2) (by rw [tn_eq]; omega) | skip
                        have q14 : (-2 : Int32).toInt = -2 := rfl
                        refine sfX12_refuse ht (by decide) hW (by omega) (fun v72 I71 hWI71 hFI71 hp84 => ?_)
                        first | (revert hrsx1; intro hrsx1) | have hrsx1 := WM_rowSize hW (k := Int32.toNatClampNeg x1) (by rw [tn_eq]; omega) | skip
                        first | (revert hrsx2; intro hrsx2) | have hrsx2 := WM_rowSize hW (k := Int32.toNatClampNeg x2) (by rw [tn_eq]; omega) | skip
                        have q15 := i32_lo v72
                        exact hK _ _ _ hWI71 (Fr.tr Fr.rf hFI71 (by intro a k h; omega)) (by first | exact Or.inr (Or.inr (Or.inr (Or.inr (Or.inr (Or.inr (⟨by omega, by omega, by omega, by omega, by omega, rfl⟩)))))) | exact Or.inl ⟨by omega, by omega, rfl⟩ | exact Or.inr (Or.inl ⟨by omega, by omega⟩) | exact Or.inr (Or.inr (Or.inl ⟨by omega, by omega, by omega, rfl⟩)) | exact Or.inr (Or.inr (Or.inr (Or.inl ⟨by omega, by omega, by omega, by omega, by omega, rfl⟩))) | exact Or.inr (Or.inr (Or.inr (Or.inr (Or.inl ⟨by omega, by omega, by omega, by omega, rfl⟩)))) | exact Or.inr (Or.inr (Or.inr (Or.inr (Or.inr (Or.inl ⟨by omega, by omega, by omega, by omega, by omega, ⟨fun q _ => cp_end (by omega) (by omega) (hJ.1 q), hJ.2⟩⟩))))) | (by_cases hA : ((0 ≤ (I0 (t + 1) (Int32.toNatClampNeg x1)).toInt ∧ (I0 (t + 1) (Int32.toNatClampNeg x1)).toInt ≤ 2) ∧ 0 ≤ (I0 (t + 1) (Int32.toNatClampNeg x2)).toInt ∧ (I0 (t + 1) (Int32.toNatClampNeg x2)).toInt ≤ 2) <;> first | (have hs9 := hsu hA; exact Or.inr (Or.inr (Or.inr (Or.inr (Or.inr (Or.inl ⟨hs9.1, hs9.2.1, hs9.2.2.1, hs9.2.2.2, rfl, fun q _ => cp_end (by omega) (by omega) (hJ.1 q), hJ.2.2⟩)))))) | exact Or.inr (Or.inl ⟨by omega, hA⟩)))
                      · skip
                        have q13 := i32_lo x3
                        have hc83 := mt Int32.lt_iff_toInt_lt.mpr hc83
                        first | (revert hrsx1; intro hrsx1) | have hrsx1 := WM_rowSize hW (k := Int32.toNatClampNeg x1) (by rw [tn_eq]; omega) | skip
                        first | (revert hrsx2; intro hrsx2) | have hrsx2 := WM_rowSize hW (k := Int32.toNatClampNeg x2) (by rw [tn_eq]; omega) | skip
                        refine ⟨fun hc85 => ?_, fun hc86 => ?_⟩
                        · skip
                          have q14 := i32_lo x4
                          have hc85 := Int32.lt_iff_toInt_lt.mp hc85
                          first | (revert hrsx1; intro hrsx1) | have hrsx1 := WM_rowSize hW (k := Int32.toNatClampNeg x1) (by rw [tn_eq]; omega) | skip
                          first | (revert hrsx2; intro hrsx2) | have hrsx2 := WM_rowSize hW (k := Int32.toNatClampNeg x2) (by rw [tn_eq]; omega) | skip
                          have q15 : (-2 : Int32).toInt = -2 := rfl
                          refine sfX12_refuse ht (by decide) hW (by omega) (fun v74 I73 hWI73 hFI73 hp87 => ?_)
                          first | (revert hrsx1; intro hrsx1) | have hrsx1 := WM_rowSize hW (k := Int32.toNatClampNeg x1) (by rw [tn_eq]; omega) | skip
                          first | (revert hrsx2; intro hrsx2) | have hrsx2 := WM_rowSize hW (k := Int32.toNatClampNeg x2) (by rw [tn_eq]; omega) | skip
                          have q16 := i32_lo v74
                          exact hK _ _ _ hWI73 (Fr.tr Fr.rf hFI73 (by intro a k h; omega)) (by first | exact Or.inr (Or.inr (Or.inr (Or.inr (Or.inr (Or.inr (⟨by omega, by omega, by omega, by omega, by omega, rfl⟩)))))) | exact Or.inl ⟨by omega, by omega, rfl⟩ | exact Or.inr (Or.inl ⟨by omega, by omega⟩) | exact Or.inr (Or.inr (Or.inl ⟨by omega, by omega, by omega, rfl⟩)) | exact Or.inr (Or.inr (Or.inr (Or.inl ⟨by omega, by omega, by omega, by omega, by omega, rfl⟩))) | exact Or.inr (Or.inr (Or.inr (Or.inr (Or.inl ⟨by omega, by omega, by omega, by omega, rfl⟩)))) | exact Or.inr (Or.inr (Or.inr (Or.inr (Or.inr (Or.inl ⟨by omega, by omega, by omega, by omega, by omega, ⟨fun q _ => cp_end (by omega) (by omega) (hJ.1 q), hJ.2⟩⟩))))) | (by_cases hA : ((0 ≤ (I0 (t + 1) (Int32.toNatClampNeg x1)).toInt ∧ (I0 (t + 1) (Int32.toNatClampNeg x1)).toInt ≤ 2) ∧ 0 ≤ (I0 (t + 1) (Int32.toNatClampNeg x2)).toInt ∧ (I0 (t + 1) (Int32.toNatClampNeg x2)).toInt ≤ 2) <;> first | (have hs9 := hsu hA; exact Or.inr (Or.inr (Or.inr (Or.inr (Or.inr (Or.inl ⟨hs9.1, hs9.2.1, hs9.2.2.1, hs9.2.2.2, rfl, fun q _ => cp_end (by omega) (by omega) (hJ.1 q), hJ.2.2⟩)))))) | exact Or.inr (Or.inl ⟨by omega, hA⟩)))
                        · skip
                          have q14 := i32_lo x4
                          have hc86 := mt Int32.lt_iff_toInt_lt.mpr hc86
                          first | (revert hrsx1; intro hrsx1) | have hrsx1 := WM_rowSize hW (k := Int32.toNatClampNeg x1) (by rw [tn_eq]; omega) | skip
                          first | (revert hrsx2; intro hrsx2) | have hrsx2 := WM_rowSize hW (k := Int32.toNatClampNeg x2) (by rw [tn_eq]; omega) | skip
                          refine ⟨vp_of (by omega) (by omega), ?_⟩
                          refine ⟨fun hc88 => ?_, fun hc89 => ?_⟩
                          · skip
                            have hc88 := Int32.lt_iff_toInt_lt.mp hc88
                            first | (revert hrsx1; intro hrsx1) | have hrsx1 := WM_rowSize hW (k := Int32.toNatClampNeg x1) (by rw [tn_eq]; omega) | skip
                            first | (revert hrsx2; intro hrsx2) | have hrsx2 := WM_rowSize hW (k := Int32.toNatClampNeg x2) (by rw [tn_eq]; omega) | skip
                            have q15 : (-2 : Int32).toInt = -2 := rfl
                            refine sfX12_refuse ht (by decide) hW (by omega) (fun v77 I76 hWI76 hFI76 hp90 => ?_)
                            first | (revert hrsx1; intro hrsx1) | have hrsx1 := WM_rowSize hW (k := Int32.toNatClampNeg x1) (by rw [tn_eq]; omega) | skip
                            first | (revert hrsx2; intro hrsx2) | have hrsx2 := WM_rowSize hW (k := Int32.toNatClampNeg x2) (by rw [tn_eq]; omega) | skip
                            have q16 := i32_lo v77
                            exact hK _ _ _ hWI76 (Fr.tr Fr.rf hFI76 (by intro a k h; omega)) (by first | exact Or.inr (Or.inr (Or.inr (Or.inr (Or.inr (Or.inr (⟨by omega, by omega, by omega, by omega, by omega, rfl⟩)))))) | exact Or.inl ⟨by omega, by omega, rfl⟩ | exact Or.inr (Or.inl ⟨by omega, by omega⟩) | exact Or.inr (Or.inr (Or.inl ⟨by omega, by omega, by omega, rfl⟩)) | exact Or.inr (Or.inr (Or.inr (Or.inl ⟨by omega, by omega, by omega, by omega, by omega, rfl⟩))) | exact Or.inr (Or.inr (Or.inr (Or.inr (Or.inl ⟨by omega, by omega, by omega, by omega, rfl⟩)))) | exact Or.inr (Or.inr (Or.inr (Or.inr (Or.inr (Or.inl ⟨by omega, by omega, by omega, by omega, by omega, ⟨fun q _ => cp_end (by omega) (by omega) (hJ.1 q), hJ.2⟩⟩))))) | (by_cases hA : ((0 ≤ (I0 (t + 1) (Int32.toNatClampNeg x1)).toInt ∧ (I0 (t + 1) (Int32.toNatClampNeg x1)).toInt ≤ 2) ∧ 0 ≤ (I0 (t + 1) (Int32.toNatClampNeg x2)).toInt ∧ (I0 (t + 1) (Int32.toNatClampNeg x2)).toInt ≤ 2) <;> first | (have hs9 := hsu hA; exact Or.inr (Or.inr (Or.inr (Or.inr (Or.inr (Or.inl ⟨hs9.1, hs9.2.1, hs9.2.2.1, hs9.2.2.2, rfl, fun q _ => cp_end (by omega) (by omega) (hJ.1 q), hJ.2.2⟩)))))) | exact Or.inr (Or.inl ⟨by omega, hA⟩)))
                          · skip
                            have hc89 := mt Int32.lt_iff_toInt_lt.mpr hc89
                            first | (revert hrsx1; intro hrsx1) | have hrsx1 := WM_rowSize hW (k := Int32.toNatClampNeg x1) (by rw [tn_eq]; omega) | skip
                            first | (revert hrsx2; intro hrsx2) | have hrsx2 := WM_rowSize hW (k := Int32.toNatClampNeg x2) (by rw [tn_eq]; omega) | skip
                            refine ⟨vp_of (by omega) (by omega), ?_⟩
                            refine ⟨fun hc91 => ?_, fun hc92 => ?_⟩
                            · skip
                              have hc91 := Int32.lt_iff_toInt_lt.mp hc91
                              first | (revert hrsx1; intro hrsx1) | have hrsx1 := WM_rowSize hW (k := Int32.toNatClampNeg x1) (by rw [tn_eq]; omega) | skip
                              first | (revert hrsx2; intro hrsx2) | have hrsx2 := WM_rowSize hW (k := Int32.toNatClampNeg x2) (by rw [tn_eq]; omega) | skip
                              have q15 : (-2 : Int32).toInt = -2 := rfl
                              refine sfX12_refuse ht (by decide) hW (by omega) (fun v80 I79 hWI79 hFI79 hp93 => ?_)
                              first | (revert hrsx1; intro hrsx1) | have hrsx1 := WM_rowSize hW (k := Int32.toNatClampNeg x1) (by rw [tn_eq]; omega) | skip
                              first | (revert hrsx2; intro hrsx2) | have hrsx2 := WM_rowSize hW (k := Int32.toNatClampNeg x2) (by rw [tn_eq]; omega) | skip
                              have q16 := i32_lo v80
                              exact hK _ _ _ hWI79 (Fr.tr Fr.rf hFI79 (by intro a k h; omega)) (by first | exact Or.inr (Or.inr (Or.inr (Or.inr (Or.inr (Or.inr (⟨by omega, by omega, by omega, by omega, by omega, rfl⟩)))))) | exact Or.inl ⟨by omega, by omega, rfl⟩ | exact Or.inr (Or.inl ⟨by omega, by omega⟩) | exact Or.inr (Or.inr (Or.inl ⟨by omega, by omega, by omega, rfl⟩)) | exact Or.inr (Or.inr (Or.inr (Or.inl ⟨by omega, by omega, by omega, by omega, by omega, rfl⟩))) | exact Or.inr (Or.inr (Or.inr (Or.inr (Or.inl ⟨by omega, by omega, by omega, by omega, rfl⟩)))) | exact Or.inr (Or.inr (Or.inr (Or.inr (Or.inr (Or.inl ⟨by omega, by omega, by omega, by omega, by omega, ⟨fun q _ => cp_end (by omega) (by omega) (hJ.1 q), hJ.2⟩⟩))))) | (by_cases hA : ((0 ≤ (I0 (t + 1) (Int32.toNatClampNeg x1)).toInt ∧ (I0 (t + 1) (Int32.toNatClampNeg x1)).toInt ≤ 2) ∧ 0 ≤ (I0 (t + 1) (Int32.toNatClampNeg x2)).toInt ∧ (I0 (t + 1) (Int32.toNatClampNeg x2)).toInt ≤ 2) <;> first | (have hs9 := hsu hA; exact Or.inr (Or.inr (Or.inr (Or.inr (Or.inr (Or.inl ⟨hs9.1, hs9.2.1, hs9.2.2.1, hs9.2.2.2, rfl, fun q _ => cp_end (by omega) (by omega) (hJ.1 q), hJ.2.2⟩)))))) | exact Or.inr (Or.inl ⟨by omega, hA⟩)))
                            · skip
                              have hc92 := mt Int32.lt_iff_toInt_lt.mpr hc92
                              first | (revert hrsx1; intro hrsx1) | have hrsx1 := WM_rowSize hW (k := Int32.toNatClampNeg x1) (by rw [tn_eq]; omega) | skip
                              first | (revert hrsx2; intro hrsx2) | have hrsx2 := WM_rowSize hW (k := Int32.toNatClampNeg x2) (by rw [tn_eq]; omega) | skip
                              refine ⟨vp_of (by omega) (by omega), ?_⟩
                              refine ⟨fun hc94 => ?_, fun hc95 => ?_⟩
                              · skip
                                have q15 := i32_subI (I (t + 3) (Int32.toNatClampNeg x1)) x5
                                have hc94 := Int32.lt_iff_toInt_lt.mp hc94
                                first | (revert hrsx1; intro hrsx1) | have hrsx1 := WM_rowSize hW (k := Int32.toNatClampNeg x1) (by rw [tn_eq]; omega) | skip
                                first | (revert hrsx2; intro hrsx2) | have hrsx2 := WM_rowSize hW (k := Int32.toNatClampNeg x2) (by rw [tn_eq]; omega) | skip
                                have q16 : (-2 : Int32).toInt = -2 := rfl
                                refine sfX12_refuse ht (by decide) hW (by omega) (fun v83 I82 hWI82 hFI82 hp96 => ?_)
                                first | (revert hrsx1; intro hrsx1) | have hrsx1 := WM_rowSize hW (k := Int32.toNatClampNeg x1) (by rw [tn_eq]; omega) | skip
                                first | (revert hrsx2; intro hrsx2) | have hrsx2 := WM_rowSize hW (k := Int32.toNatClampNeg x2) (by rw [tn_eq]; omega) | skip
                                have q17 := i32_lo v83
                                exact hK _ _ _ hWI82 (Fr.tr Fr.rf hFI82 (by intro a k h; omega)) (by first | exact Or.inr (Or.inr (Or.inr (Or.inr (Or.inr (Or.inr (⟨by omega, by omega, by omega, by omega, by omega, rfl⟩)))))) | exact Or.inl ⟨by omega, by omega, rfl⟩ | exact Or.inr (Or.inl ⟨by omega, by omega⟩) | exact Or.inr (Or.inr (Or.inl ⟨by omega, by omega, by omega, rfl⟩)) | exact Or.inr (Or.inr (Or.inr (Or.inl ⟨by omega, by omega, by omega, by omega, by omega, rfl⟩))) | exact Or.inr (Or.inr (Or.inr (Or.inr (Or.inl ⟨by omega, by omega, by omega, by omega, rfl⟩)))) | exact Or.inr (Or.inr (Or.inr (Or.inr (Or.inr (Or.inl ⟨by omega, by omega, by omega, by omega, by omega, ⟨fun q _ => cp_end (by omega) (by omega) (hJ.1 q), hJ.2⟩⟩))))) | (by_cases hA : ((0 ≤ (I0 (t + 1) (Int32.toNatClampNeg x1)).toInt ∧ (I0 (t + 1) (Int32.toNatClampNeg x1)).toInt ≤ 2) ∧ 0 ≤ (I0 (t + 1) (Int32.toNatClampNeg x2)).toInt ∧ (I0 (t + 1) (Int32.toNatClampNeg x2)).toInt ≤ 2) <;> first | (have hs9 := hsu hA; exact Or.inr (Or.inr (Or.inr (Or.inr (Or.inr (Or.inl ⟨hs9.1, hs9.2.1, hs9.2.2.1, hs9.2.2.2, rfl, fun q _ => cp_end (by omega) (by omega) (hJ.1 q), hJ.2.2⟩)))))) | exact Or.inr (Or.inl ⟨by omega, hA⟩)))
                              · skip
                                have q15 := i32_subI (I (t + 3) (Int32.toNatClampNeg x1)) x5
                                have hc95 := mt Int32.lt_iff_toInt_lt.mpr hc95
                                first | (revert hrsx1; intro hrsx1) | have hrsx1 := WM_rowSize hW (k := Int32.toNatClampNeg x1) (by rw [tn_eq]; omega) | skip
                                first | (revert hrsx2; intro hrsx2) | have hrsx2 := WM_rowSize hW (k := Int32.toNatClampNeg x2) (by rw [tn_eq]; omega) | skip
                                refine ⟨vp_of (by omega) (by omega), ?_⟩
                                refine ⟨fun hc97 => ?_, fun hc98 => ?_⟩
                                · skip
                                  have q16 := i32_subI (I (t + 3) (Int32.toNatClampNeg x2)) x5
                                  have hc97 := Int32.le_iff_toInt_le.mp hc97
                                  first | (revert hrsx1; intro hrsx1) | have hrsx1 := WM_rowSize hW (k := Int32.toNatClampNeg x1) (by rw [tn_eq]; omega) | skip
                                  first | (revert hrsx2; intro hrsx2) | have hrsx2 := WM_rowSize hW (k := Int32.toNatClampNeg x2) (by rw [tn_eq]; omega) | skip
                                  exact lX12_copy_191 ht   hK  (((x5.toInt) - (0 : Int32).toInt).toNat + 1) _ _ 0 hW Fr.rf (by omega) (by omega) (by omega) (by omega) (by omega) (by first | exact ⟨fun q hq => by exfalso; omega, fun _ _ => rfl⟩ | exact cp_1 hJ (by omega) (by omega) (by omega) (by omega) (by omega)) (by omega)
                                · skip
                                  have q16 := i32_subI (I (t + 3) (Int32.toNatClampNeg x2)) x5
                                  have hc98 := mt Int32.le_iff_toInt_le.mpr hc98
                                  first | (revert hrsx1; intro hrsx1) | have hrsx1 := WM_rowSize hW (k := Int32.toNatClampNeg x1) (by rw [tn_eq]; omega) | skip
                                  first | (revert hrsx2; intro hrsx2) | have hrsx2 := WM_rowSize hW (k := Int32.toNatClampNeg x2) (by rw [tn_eq]; omega) | skip
                                  have q17 : (-2 : Int32).toInt = -2 := rfl
                                  refine sfX12_refuse ht (by decide) hW (by omega) (fun v86 I85 hWI85 hFI85 hp99 => ?_)
                                  first | (revert hrsx1; intro hrsx1) | have hrsx1 := WM_rowSize hW (k := Int32.toNatClampNeg x1) (by rw [tn_eq]; omega) | skip
                                  first | (revert hrsx2; intro hrsx2) | have hrsx2 := WM_rowSize hW (k := Int32.toNatClampNeg x2) (by rw [tn_eq]; omega) | skip
                                  have q18 := i32_lo v86
                                  exact hK _ _ _ hWI85 (Fr.tr Fr.rf hFI85 (by intro a k h; omega)) (by first | exact Or.inr (Or.inr (Or.inr (Or.inr (Or.inr (Or.inr (⟨by omega, by omega, by omega, by omega, by omega, rfl⟩)))))) | exact Or.inl ⟨by omega, by omega, rfl⟩ | exact Or.inr (Or.inl ⟨by omega, by omega⟩) | exact Or.inr (Or.inr (Or.inl ⟨by omega, by omega, by omega, rfl⟩)) | exact Or.inr (Or.inr (Or.inr (Or.inl ⟨by omega, by omega, by omega, by omega, by omega, rfl⟩))) | exact Or.inr (Or.inr (Or.inr (Or.inr (Or.inl ⟨by omega, by omega, by omega, by omega, rfl⟩)))) | exact Or.inr (Or.inr (Or.inr (Or.inr (Or.inr (Or.inl ⟨by omega, by omega, by omega, by omega, by omega, ⟨fun q _ => cp_end (by omega) (by omega) (hJ.1 q), hJ.2⟩⟩))))) | (by_cases hA : ((0 ≤ (I0 (t + 1) (Int32.toNatClampNeg x1)).toInt ∧ (I0 (t + 1) (Int32.toNatClampNeg x1)).toInt ≤ 2) ∧ 0 ≤ (I0 (t + 1) (Int32.toNatClampNeg x2)).toInt ∧ (I0 (t + 1) (Int32.toNatClampNeg x2)).toInt ≤ 2) <;> first | (have hs9 := hsu hA; exact Or.inr (Or.inr (Or.inr (Or.inr (Or.inr (Or.inl ⟨hs9.1, hs9.2.1, hs9.2.2.1, hs9.2.2.2, rfl, fun q _ => cp_end (by omega) (by omega) (hJ.1 q), hJ.2.2⟩)))))) | exact Or.inr (Or.inl ⟨by omega, hA⟩)))
                  · skip
                    have hc78 := Int32.toInt_inj.mpr hc78
                    first | (revert hrsx1; intro hrsx1) | have hrsx1 := WM_rowSize hW (k := Int32.toNatClampNeg x1) (by rw [tn_eq]; omega) | skip
                    first | (revert hrsx2; intro hrsx2) | have hrsx2 := WM_rowSize hW (k := Int32.toNatClampNeg x2) (by rw [tn_eq]; omega) | skip
                    have q12 : (-4 : Int32).toInt = -4 := rfl
                    refine sfX12_refuse ht (by decide) hW (by omega) (fun v88 I87 hWI87 hFI87 hp100 => ?_)
                    first | (revert hrsx1; intro hrsx1) | have hrsx1 := WM_rowSize hW (k := Int32.toNatClampNeg x1) (by rw [tn_eq]; omega) | skip
                    first | (revert hrsx2; intro hrsx2) | have hrsx2 := WM_rowSize hW (k := Int32.toNatClampNeg x2) (by rw [tn_eq]; omega) | skip
                    have q13 := i32_lo v88
                    exact hK _ _ _ hWI87 (Fr.tr Fr.rf hFI87 (by intro a k h; omega)) (by first | exact Or.inr (Or.inr (Or.inr (Or.inl ⟨by omega, by omega, by omega, by omega, by omega, rfl⟩))) | exact Or.inl ⟨by omega, by omega, rfl⟩ | exact Or.inr (Or.inl ⟨by omega, by omega⟩) | exact Or.inr (Or.inr (Or.inl ⟨by omega, by omega, by omega, rfl⟩)) | exact Or.inr (Or.inr (Or.inr (Or.inr (Or.inl ⟨by omega, by omega, by omega, by omega, rfl⟩)))) | exact Or.inr (Or.inr (Or.inr (Or.inr (Or.inr (Or.inl ⟨by omega, by omega, by omega, by omega, by omega, ⟨fun q _ => cp_end (by omega) (by omega) (hJ.1 q), hJ.2⟩⟩))))) | exact Or.inr (Or.inr (Or.inr (Or.inr (Or.inr (Or.inr (⟨by omega, by omega, by omega, by omega, by omega, rfl⟩)))))) | (by_cases hA : ((0 ≤ (I0 (t + 1) (Int32.toNatClampNeg x1)).toInt ∧ (I0 (t + 1) (Int32.toNatClampNeg x1)).toInt ≤ 2) ∧ 0 ≤ (I0 (t + 1) (Int32.toNatClampNeg x2)).toInt ∧ (I0 (t + 1) (Int32.toNatClampNeg x2)).toInt ≤ 2) <;> first | (have hs9 := hsu hA; exact Or.inr (Or.inr (Or.inr (Or.inr (Or.inr (Or.inl ⟨hs9.1, hs9.2.1, hs9.2.2.1, hs9.2.2.2, rfl, fun q _ => cp_end (by omega) (by omega) (hJ.1 q), hJ.2.2⟩)))))) | exact Or.inr (Or.inl ⟨by omega, hA⟩)))
              · skip
                have hc73 : ¬ ((I (t + 2) (Int32.toNatClampNeg x1))).toInt = ((I (t + 2) (Int32.toNatClampNeg x2))).toInt := fun z => hc73 (Int32.toInt_inj.mp z)
                first | (revert hrsx1; intro hrsx1) | have hrsx1 := WM_rowSize hW (k := Int32.toNatClampNeg x1) (by rw [tn_eq]; omega) | skip
                first | (revert hrsx2; intro hrsx2) | have hrsx2 := WM_rowSize hW (k := Int32.toNatClampNeg x2) (by rw [tn_eq]; omega) | skip
                have q12 : (-3 : Int32).toInt = -3 := rfl
                refine sfX12_refuse ht (by decide) hW (by omega) (fun v90 I89 hWI89 hFI89 hp101 => ?_)
                first | (revert hrsx1; intro hrsx1) | have hrsx1 := WM_rowSize hW (k := Int32.toNatClampNeg x1) (by rw [tn_eq]; omega) | skip
                first | (revert hrsx2; intro hrsx2) | have hrsx2 := WM_rowSize hW (k := Int32.toNatClampNeg x2) (by rw [tn_eq]; omega) | skip
                have q13 := i32_lo v90
                exact hK _ _ _ hWI89 (Fr.tr Fr.rf hFI89 (by intro a k h; omega)) (by first | exact Or.inr (Or.inr (Or.inl ⟨by omega, by omega, by omega, rfl⟩)) | exact Or.inr (Or.inr (Or.inr (Or.inr (Or.inl ⟨by omega, by omega, by omega, by omega, rfl⟩)))) | exact Or.inl ⟨by omega, by omega, rfl⟩ | exact Or.inr (Or.inl ⟨by omega, by omega⟩) | exact Or.inr (Or.inr (Or.inr (Or.inl ⟨by omega, by omega, by omega, by omega, by omega, rfl⟩))) | exact Or.inr (Or.inr (Or.inr (Or.inr (Or.inr (Or.inl ⟨by omega, by omega, by omega, by omega, by omega, ⟨fun q _ => cp_end (by omega) (by omega) (hJ.1 q), hJ.2⟩⟩))))) | exact Or.inr (Or.inr (Or.inr (Or.inr (Or.inr (Or.inr (⟨by omega, by omega, by omega, by omega, by omega, rfl⟩)))))) | (by_cases hA : ((0 ≤ (I0 (t + 1) (Int32.toNatClampNeg x1)).toInt ∧ (I0 (t + 1) (Int32.toNatClampNeg x1)).toInt ≤ 2) ∧ 0 ≤ (I0 (t + 1) (Int32.toNatClampNeg x2)).toInt ∧ (I0 (t + 1) (Int32.toNatClampNeg x2)).toInt ≤ 2) <;> first | (have hs9 := hsu hA; exact Or.inr (Or.inr (Or.inr (Or.inr (Or.inr (Or.inl ⟨hs9.1, hs9.2.1, hs9.2.2.1, hs9.2.2.2, rfl, fun q _ => cp_end (by omega) (by omega) (hJ.1 q), hJ.2.2⟩)))))) | exact Or.inr (Or.inl ⟨by omega, hA⟩)))
    · skip
      have q9 := i32_lo v6
      have hc7 := Int32.toInt_inj.mpr hc7
      first | replace hp5 := Or.resolve_left hp5 (by omega) | replace hp5 := Or.resolve_right hp5 (by omega) | skip
      first | (revert hrsx1; intro hrsx1) | have hrsx1 := WM_rowSize hW (k := Int32.toNatClampNeg x1) (by rw [tn_eq]; omega) | skip
      first | (revert hrsx2; intro hrsx2) | have hrsx2 := WM_rowSize hW (k := Int32.toNatClampNeg x2) (by rw [tn_eq]; omega) | skip
      have q10 : (-2 : Int32).toInt = -2 := rfl
      refine sfX12_refuse ht (by decide) hW (by omega) (fun v92 I91 hWI91 hFI91 hp102 => ?_)
      first | (revert hrsx1; intro hrsx1) | have hrsx1 := WM_rowSize hW (k := Int32.toNatClampNeg x1) (by rw [tn_eq]; omega) | skip
      first | (revert hrsx2; intro hrsx2) | have hrsx2 := WM_rowSize hW (k := Int32.toNatClampNeg x2) (by rw [tn_eq]; omega) | skip
      have q11 := i32_lo v92
      exact hK _ _ _ hWI91 (Fr.tr Fr.rf hFI91 (by intro a k h; omega)) (by first | exact Or.inl ⟨by omega, by omega, rfl⟩ | exact Or.inr (Or.inr (Or.inr (Or.inr (Or.inr (Or.inr (⟨by omega, by omega, by omega, by omega, by omega, rfl⟩)))))) | exact Or.inr (Or.inl ⟨by omega, by omega⟩) | exact Or.inr (Or.inr (Or.inl ⟨by omega, by omega, by omega, rfl⟩)) | exact Or.inr (Or.inr (Or.inr (Or.inl ⟨by omega, by omega, by omega, by omega, by omega, rfl⟩))) | exact Or.inr (Or.inr (Or.inr (Or.inr (Or.inl ⟨by omega, by omega, by omega, by omega, rfl⟩)))) | exact Or.inr (Or.inr (Or.inr (Or.inr (Or.inr (Or.inl ⟨by omega, by omega, by omega, by omega, by omega, ⟨fun q _ => cp_end (by omega) (by omega) (hJ.1 q), hJ.2⟩⟩))))) | (by_cases hA : ((0 ≤ (I0 (t + 1) (Int32.toNatClampNeg x1)).toInt ∧ (I0 (t + 1) (Int32.toNatClampNeg x1)).toInt ≤ 2) ∧ 0 ≤ (I0 (t + 1) (Int32.toNatClampNeg x2)).toInt ∧ (I0 (t + 1) (Int32.toNatClampNeg x2)).toInt ≤ 2) <;> first | (have hs9 := hsu hA; exact Or.inr (Or.inr (Or.inr (Or.inr (Or.inr (Or.inl ⟨hs9.1, hs9.2.1, hs9.2.2.1, hs9.2.2.2, rfl, fun q _ => cp_end (by omega) (by omega) (hJ.1 q), hJ.2.2⟩)))))) | exact Or.inr (Or.inl ⟨by omega, hA⟩)))
theorem sfX12_element {G : jdG} {n : Nat} {Z : jdL} {J : jdJ} {K : Int64 → jdI → jdJ → Prop}  {I : jdI} {t : Nat} {x1 : Int32} {x2 : Int32} (ht : zModel Z t)  (hW : WM 7 t I)  (hK : ∀ (v : Int64), ((((0 ≤ x1.toInt ∧ x1.toInt ≤ 7) ∧ (I (t + 1) (Int32.toNatClampNeg x1)).toInt = 1 ∧ 0 ≤ x2.toInt ∧ x2.toInt < (I (t + 3) (Int32.toNatClampNeg x1)).toInt) ∧ v = J (t + 5 + (Int32.toNatClampNeg x1)) (Int32.toNatClampNeg x2)) ∨ (¬ ((0 ≤ x1.toInt ∧ x1.toInt ≤ 7) ∧ (I (t + 1) (Int32.toNatClampNeg x1)).toInt = 1 ∧ 0 ≤ x2.toInt ∧ x2.toInt < (I (t + 3) (Int32.toNatClampNeg x1)).toInt) ∧ v = 0)) → K v I J) : Cl G mX12_element (n + 1) 0 0 [.ref (gb G + t), .int x1, .int x2] Z I J (ql Z K) := by
  refine eX12_element ht ?_
  have hwI := WM_f hW
  have q1 := i32_lo x1
  have q2 : (Int32.toInt64 x1).toInt = (x1).toInt := Int32.toInt_toInt64 _
  have q3 : (0 : Int64).toInt = 0 := rfl
  have q4 : (7 : Int64).toInt = 7 := rfl
  refine sfX12_in  trivial  (fun v2  hp1 => ?_)
  first | (revert hrsx1; intro hrsx1) | have hrsx1 := WM_rowSize hW (k := Int32.toNatClampNeg x1) (by rw [tn_eq]; omega) | skip
  refine ⟨fun hc2 => ?_, fun hc3 => ?_⟩
  · skip
    have q5 := i32_lo v2
    have q6 : (0 : Int32).toInt = 0 := rfl
    have hc2 := Int32.toInt_inj.mpr hc2
    first | (revert hrsx1; intro hrsx1) | have hrsx1 := WM_rowSize hW (k := Int32.toNatClampNeg x1) (by rw [tn_eq]; omega) | skip
    exact hK _  (by first | exact Or.inl ⟨by omega, rfl⟩ | exact Or.inr (⟨by omega, rfl⟩))
  · skip
    have q5 := i32_lo v2
    have q6 : (0 : Int32).toInt = 0 := rfl
    have hc3 : ¬ (v2).toInt = (0 : Int32).toInt := fun z => hc3 (Int32.toInt_inj.mp z)
    first | (revert hrsx1; intro hrsx1) | have hrsx1 := WM_rowSize hW (k := Int32.toNatClampNeg x1) (by rw [tn_eq]; omega) | skip
    refine ⟨vp_of (by omega) (by omega), ?_⟩
    refine ⟨fun hc4 => ?_, fun hc5 => ?_⟩
    · skip
      have q7 : (1 : Int32).toInt = 1 := rfl
      have hc4 : ¬ ((I (t + 1) (Int32.toNatClampNeg x1))).toInt = (1 : Int32).toInt := fun z => hc4 (Int32.toInt_inj.mp z)
      first | (revert hrsx1; intro hrsx1) | have hrsx1 := WM_rowSize hW (k := Int32.toNatClampNeg x1) (by rw [tn_eq]; omega) | skip
      exact hK _  (by first | exact Or.inl ⟨by omega, rfl⟩ | exact Or.inr (⟨by omega, rfl⟩))
    · skip
      have q7 : (1 : Int32).toInt = 1 := rfl
      have hc5 := Int32.toInt_inj.mpr hc5
      first | (revert hrsx1; intro hrsx1) | have hrsx1 := WM_rowSize hW (k := Int32.toNatClampNeg x1) (by rw [tn_eq]; omega) | skip
      refine ⟨vp_of (by omega) (by omega), ?_⟩
      have q8 := i32_lo x2
      have q9 : (Int32.toInt64 x2).toInt = (x2).toInt := Int32.toInt_toInt64 _
      have q10 := i32_sub (I (t + 3) (Int32.toNatClampNeg x1)) 1 (by omega) (by omega)
      have q11 : (Int32.toInt64 ((I (t + 3) (Int32.toNatClampNeg x1)) - 1)).toInt = (((I (t + 3) (Int32.toNatClampNeg x1)) - 1)).toInt := Int32.toInt_toInt64 _
      refine sfX12_in  trivial  (fun v6  hp6 => ?_)
      first | (revert hrsx1; intro hrsx1) | have hrsx1 := WM_rowSize hW (k := Int32.toNatClampNeg x1) (by rw [tn_eq]; omega) | skip
      refine ⟨fun hc7 => ?_, fun hc8 => ?_⟩
      · skip
        have q12 := i32_lo v6
        have hc7 := Int32.toInt_inj.mpr hc7
        first | (revert hrsx1; intro hrsx1) | have hrsx1 := WM_rowSize hW (k := Int32.toNatClampNeg x1) (by rw [tn_eq]; omega) | skip
        exact hK _  (by first | exact Or.inl ⟨by omega, rfl⟩ | exact Or.inr (⟨by omega, rfl⟩))
      · skip
        have q12 := i32_lo v6
        have hc8 : ¬ (v6).toInt = (0 : Int32).toInt := fun z => hc8 (Int32.toInt_inj.mp z)
        first | (revert hrsx1; intro hrsx1) | have hrsx1 := WM_rowSize hW (k := Int32.toNatClampNeg x1) (by rw [tn_eq]; omega) | skip
        refine ⟨vp_of (by omega) (by omega), ?_⟩
        refine ⟨vp_of (by omega) (by omega), ?_⟩
        exact hK _  (by first | exact Or.inl ⟨by omega, rfl⟩ | exact Or.inr (⟨by omega, rfl⟩))
theorem sfX12_holds {G : jdG} {n : Nat} {Z : jdL} {J : jdJ} {K : Int32 → jdI → jdJ → Prop}  {I : jdI} {t : Nat} {x1 : Int32} (ht : zModel Z t)  (hW : WM 7 t I)  (hK : ∀ (v : Int32), ((¬ (0 ≤ x1.toInt ∧ x1.toInt ≤ 7) ∧ v.toInt = -1) ∨ ((0 ≤ x1.toInt ∧ x1.toInt ≤ 7) ∧ (I (t + 1) (Int32.toNatClampNeg x1)).toInt = 0 ∧ v.toInt = -1) ∨ ((0 ≤ x1.toInt ∧ x1.toInt ≤ 7) ∧ (I (t + 1) (Int32.toNatClampNeg x1)).toInt = 1 ∧ v.toInt = (I (t + 2) (Int32.toNatClampNeg x1)).toInt) ∨ ((0 ≤ x1.toInt ∧ x1.toInt ≤ 7) ∧ ¬ (I (t + 1) (Int32.toNatClampNeg x1)).toInt = 0 ∧ ¬ (I (t + 1) (Int32.toNatClampNeg x1)).toInt = 1 ∧ (1 ≤ (I (t + 14) (Int32.toNatClampNeg x1)).toInt ∧ (I (t + 14) (Int32.toNatClampNeg x1)).toInt ≤ 5 → v.toInt = 10 + (I (t + 14) (Int32.toNatClampNeg x1)).toInt))) → K v I J) : Cl G mX12_holds (n + 1) 0 0 [.ref (gb G + t), .int x1] Z I J (qi Z K) := by
  refine eX12_holds ht ?_
  have hwI := WM_f hW
  have q1 := i32_lo x1
  have q2 : (Int32.toInt64 x1).toInt = (x1).toInt := Int32.toInt_toInt64 _
  have q3 : (0 : Int64).toInt = 0 := rfl
  have q4 : (7 : Int64).toInt = 7 := rfl
  refine sfX12_in  trivial  (fun v2  hp1 => ?_)
  refine ⟨fun hc2 => ?_, fun hc3 => ?_⟩
  · skip
    have q5 := i32_lo v2
    have q6 : (0 : Int32).toInt = 0 := rfl
    have hc2 := Int32.toInt_inj.mpr hc2
    have q7 : (-1 : Int32).toInt = -1 := rfl
    exact hK _  (by omega)
  · skip
    have q5 := i32_lo v2
    have q6 : (0 : Int32).toInt = 0 := rfl
    have hc3 : ¬ (v2).toInt = (0 : Int32).toInt := fun z => hc3 (Int32.toInt_inj.mp z)
    refine ⟨vp_of (by omega) (by omega), ?_⟩
    refine ⟨fun hc4 => ?_, fun hc5 => ?_⟩
    · skip
      have hc4 : ¬ ((I (t + 1) (Int32.toNatClampNeg x1))).toInt = (0 : Int32).toInt := fun z => hc4 (Int32.toInt_inj.mp z)
      refine ⟨vp_of (by omega) (by omega), ?_⟩
      refine ⟨fun hc6 => ?_, fun hc7 => ?_⟩
      · skip
        have q7 : (1 : Int32).toInt = 1 := rfl
        have hc6 : ¬ ((I (t + 1) (Int32.toNatClampNeg x1))).toInt = (1 : Int32).toInt := fun z => hc6 (Int32.toInt_inj.mp z)
        refine ⟨vp_of (by omega) (by omega), ?_⟩
        have q8 : (10 : Int32).toInt = 10 := rfl
        have q9 := i32_addI 10 (I (t + 14) (Int32.toNatClampNeg x1))
        exact hK _  (by omega)
      · skip
        have q7 : (1 : Int32).toInt = 1 := rfl
        have hc7 := Int32.toInt_inj.mpr hc7
        refine ⟨vp_of (by omega) (by omega), ?_⟩
        exact hK _  (by omega)
    · skip
      have hc5 := Int32.toInt_inj.mpr hc5
      have q7 : (-1 : Int32).toInt = -1 := rfl
      exact hK _  (by omega)
theorem sfX12_isUnder {G : jdG} {n : Nat} {Z : jdL} {J : jdJ} {K : Int32 → jdI → jdJ → Prop}  {I : jdI} {x0 : Int32} {x1 : Int32}   (hW : True)  (hK : ∀ (v : Int32), K v I J) : Cl G mX12_isUnder n 0 0 [.int x0, .int x1] Z I J (qi Z K) := by
  refine eX12_isUnder  ?_
  refine ⟨fun hc1 => ?_, fun hc2 => ?_⟩
  · skip
    have q1 := i32_lo x1
    have q2 : (0 : Int32).toInt = 0 := rfl
    have hc1 := Int32.toInt_inj.mpr hc1
    exact hK _ 
  · skip
    have q1 := i32_lo x1
    have q2 : (0 : Int32).toInt = 0 := rfl
    have hc2 : ¬ (x1).toInt = (0 : Int32).toInt := fun z => hc2 (Int32.toInt_inj.mp z)
    refine ⟨fun hc3 => ?_, fun hc4 => ?_⟩
    · skip
      have q3 := i32_lo x0
      have hc3 : ¬ (x0).toInt = (x1).toInt := fun z => hc3 (Int32.toInt_inj.mp z)
      refine ⟨fun hc5 => ?_, fun hc6 => ?_⟩
      · skip
        have q4 : (1 : Int32).toInt = 1 := rfl
        have hc5 : ¬ (x1).toInt = (1 : Int32).toInt := fun z => hc5 (Int32.toInt_inj.mp z)
        refine ⟨fun hc7 => ?_, fun hc8 => ?_⟩
        · skip
          have q5 : (2 : Int32).toInt = 2 := rfl
          have hc7 : ¬ (x1).toInt = (2 : Int32).toInt := fun z => hc7 (Int32.toInt_inj.mp z)
          exact hK _ 
        · skip
          have q5 : (2 : Int32).toInt = 2 := rfl
          have hc8 := Int32.toInt_inj.mpr hc8
          refine ⟨fun hc9 => ?_, fun hc10 => ?_⟩
          · skip
            have q6 : (4 : Int32).toInt = 4 := rfl
            have hc9 := Int32.lt_iff_toInt_lt.mp hc9
            exact hK _ 
          · skip
            have q6 : (4 : Int32).toInt = 4 := rfl
            have hc10 := mt Int32.lt_iff_toInt_lt.mpr hc10
            exact hK _ 
      · skip
        have q4 : (1 : Int32).toInt = 1 := rfl
        have hc6 := Int32.toInt_inj.mpr hc6
        refine ⟨fun hc11 => ?_, fun hc12 => ?_⟩
        · skip
          have q5 : (3 : Int32).toInt = 3 := rfl
          have hc11 : ¬ (x0).toInt = (3 : Int32).toInt := fun z => hc11 (Int32.toInt_inj.mp z)
          exact hK _ 
        · skip
          have q5 : (3 : Int32).toInt = 3 := rfl
          have hc12 := Int32.toInt_inj.mpr hc12
          exact hK _ 
    · skip
      have q3 := i32_lo x0
      have hc4 := Int32.toInt_inj.mpr hc4
      exact hK _ 
theorem lX12_addOne_22 {G : jdG} {n : Nat} {Z : jdL} {J : jdJ} {rc rs : Nat} {K : jdI → jdJ → Prop} {c : Int} {I0 : jdI} {t : Nat} {x1 : Int32} {x2 : Int32} (ht : zModel Z t)  (hc : c ≤ 8)  (hK : ∀ (I2 : jdI), WM c t I2 → Fr (fun a k => (a = t ∧ k = 10) ∨ a = t + 18 ∨ a = t + 19 ∨ (t + 21 ≤ a ∧ a ≤ t + 28)) I0 I2 → K I2 J) : ∀ m : Nat, ∀ (I : jdI) (x3 : Int32), WM c t I → Fr (fun a k => (a = t ∧ k = 10) ∨ a = t + 18 ∨ a = t + 19 ∨ (t + 21 ≤ a ∧ a ≤ t + 28)) I0 I → (0 ≤ x3.toInt ∧ x3.toInt ≤ (I t 10).toInt) → ((I t 10).toInt + 1 ≤ c) → ((I t 10).toInt) - x3.toInt < (m : Int) → Jd G mX12_addOne (jdFm G (qv Z K)) n rc rs 22 [(0, .ref (gb G + t)), (1, .int x1), (2, .int x2), (3, .int x3)] [] Z I J := by
  intro m
  induction m with
  | zero =>
    intro I x3 hW hF hx3 hpe hm
    have hwI := WM_f hW
    omega
  | succ m ih =>
    intro I x3 hW hF hx3 hpe hm
    have hwI := WM_f hW
    refine rX12_addOne_22 ht ?_
    refine ⟨fun hc1 => ?_, fun hc2 => ?_⟩
    · skip
      have q1 := i32_lo (I t 10)
      have q2 := i32_lo x3
      have hc1 := Int32.le_iff_toInt_le.mp hc1
      have q3 : (1 : Int32).toInt = 1 := rfl
      have q4 := i32_add (I t 10) 1 (by omega) (by omega)
      exact hK _ (WM_uI hW (by first | exact okMo (by decide) (by decide) (by decide) (by decide) (by decide) | exact okMf (by decide) (by decide) (by decide) (by decide) (by decide) (by decide) (by decide) (by decide) | exact okM30 (by omega) | exact okM42 (by omega) | exact okM33 (by omega) | exact okM10 (by omega) | exact okM8 (by omega) | exact okM22 (by omega) | exact okM24 (by omega) | exact okM14 (by omega) | exact okMa31 (by omega) | exact okMa35 (by omega) | exact okMa36 (by omega) | exact okMa3 (by omega) | exact okMr (by omega) | (unfold okM; refine ⟨?_, ?_, ?_, ?_, ?_, ?_, ?_, ?_, ?_, ?_, ?_, ?_⟩ <;> intro h <;> omega))) (Fr_uI hF (by omega))
    · skip
      have q1 := i32_lo (I t 10)
      have q2 := i32_lo x3
      have hc2 := mt Int32.le_iff_toInt_le.mpr hc2
      refine ⟨vp_of (by omega) (by omega), ?_⟩
      refine ⟨vp_of (by omega) (by omega), ?_⟩
      refine ⟨vp_of (by omega) (by omega), ?_⟩
      have hr3 : (((uI I (t + 21 + (Int32.toNatClampNeg (I t 10))) (Int32.toNatClampNeg x3) (-1))) t 10).toInt = ((I) t 10).toInt := by rw [uI_n _ _ _ (show t ≠ (t + 21 + (Int32.toNatClampNeg (I t 10))) by omega)]
      refine ⟨vp_of (by omega) (by omega), ?_⟩
      have q3 : (1 : Int32).toInt = 1 := rfl
      have q4 := i32_add x3 1 (by omega) (by omega)
      have q5 := tn_eq x3
      have q6 := tn_eq (I t 10)
      have hr4 : (((uI (uI I (t + 21 + (Int32.toNatClampNeg (I t 10))) (Int32.toNatClampNeg x3) (-1)) (t + 21 + (Int32.toNatClampNeg x3)) (Int32.toNatClampNeg ((uI I (t + 21 + (Int32.toNatClampNeg (I t 10))) (Int32.toNatClampNeg x3) (-1)) t 10)) (-1))) t 10).toInt = (((uI I (t + 21 + (Int32.toNatClampNeg (I t 10))) (Int32.toNatClampNeg x3) (-1))) t 10).toInt := by rw [uI_n _ _ _ (show t ≠ (t + 21 + (Int32.toNatClampNeg x3)) by omega)]
      exact ih _ (x3 + 1) (WM_uI (WM_uI hW (by first | exact okMo (by decide) (by decide) (by decide) (by decide) (by decide) | exact okMf (by decide) (by decide) (by decide) (by decide) (by decide) (by decide) (by decide) (by decide) | exact okM30 (by omega) | exact okM42 (by omega) | exact okM33 (by omega) | exact okM10 (by omega) | exact okM8 (by omega) | exact okM22 (by omega) | exact okM24 (by omega) | exact okM14 (by omega) | exact okMa31 (by omega) | exact okMa35 (by omega) | exact okMa36 (by omega) | exact okMa3 (by omega) | exact okMr (by omega) | (unfold okM; refine ⟨?_, ?_, ?_, ?_, ?_, ?_, ?_, ?_, ?_, ?_, ?_, ?_⟩ <;> intro h <;> omega))) (by first | exact okMo (by decide) (by decide) (by decide) (by decide) (by decide) | exact okMf (by decide) (by decide) (by decide) (by decide) (by decide) (by decide) (by decide) (by decide) | exact okM30 (by omega) | exact okM42 (by omega) | exact okM33 (by omega) | exact okM10 (by omega) | exact okM8 (by omega) | exact okM22 (by omega) | exact okM24 (by omega) | exact okM14 (by omega) | exact okMa31 (by omega) | exact okMa35 (by omega) | exact okMa36 (by omega) | exact okMa3 (by omega) | exact okMr (by omega) | (unfold okM; refine ⟨?_, ?_, ?_, ?_, ?_, ?_, ?_, ?_, ?_, ?_, ?_, ?_⟩ <;> intro h <;> omega))) (Fr_uI (Fr_uI hF (by omega)) (by omega)) (by omega) (by omega) (by omega)
theorem sfX12_addOne {G : jdG} {n : Nat} {Z : jdL} {J : jdJ} {K : jdI → jdJ → Prop} {c : Int} {I : jdI} {t : Nat} {x1 : Int32} {x2 : Int32} (ht : zModel Z t)  (hc : c ≤ 8) (hW : WM c t I) (hpe : (I t 10).toInt + 1 ≤ c) (hK : ∀ (I2 : jdI), WM c t I2 → Fr (fun a k => (a = t ∧ k = 10) ∨ a = t + 18 ∨ a = t + 19 ∨ (t + 21 ≤ a ∧ a ≤ t + 28)) I I2 → K I2 J) : Cl G mX12_addOne n 0 0 [.ref (gb G + t), .int x1, .int x2] Z I J (qv Z K) := by
  refine eX12_addOne ht ?_
  have hwI := WM_f hW
  have q1 := i32_lo (I t 10)
  refine ⟨vp_of (by omega) (by omega), ?_⟩
  refine ⟨vp_of (by omega) (by omega), ?_⟩
  have q2 : (0 : Int32).toInt = 0 := rfl
  have hr1 : (((uI (uI I (t + 18) (Int32.toNatClampNeg (I t 10)) x1) (t + 19) (Int32.toNatClampNeg (I t 10)) x2)) t 10).toInt = ((I t 10)).toInt := congrArg Int32.toInt (uI_ne (by omega) (uI_ne (by omega) rfl))
  exact lX12_addOne_22 ht  hc  hK  (((((uI (uI I (t + 18) (Int32.toNatClampNeg (I t 10)) x1) (t + 19) (Int32.toNatClampNeg (I t 10)) x2) t 10).toInt) - (0 : Int32).toInt).toNat + 1) _ 0 (WM_uI (WM_uI hW (by first | exact okMo (by decide) (by decide) (by decide) (by decide) (by decide) | exact okMf (by decide) (by decide) (by decide) (by decide) (by decide) (by decide) (by decide) (by decide) | exact okM30 (by omega) | exact okM42 (by omega) | exact okM33 (by omega) | exact okM10 (by omega) | exact okM8 (by omega) | exact okM22 (by omega) | exact okM24 (by omega) | exact okM14 (by omega) | exact okMa31 (by omega) | exact okMa35 (by omega) | exact okMa36 (by omega) | exact okMa3 (by omega) | exact okMr (by omega) | (unfold okM; refine ⟨?_, ?_, ?_, ?_, ?_, ?_, ?_, ?_, ?_, ?_, ?_, ?_⟩ <;> intro h <;> omega))) (by first | exact okMo (by decide) (by decide) (by decide) (by decide) (by decide) | exact okMf (by decide) (by decide) (by decide) (by decide) (by decide) (by decide) (by decide) (by decide) | exact okM30 (by omega) | exact okM42 (by omega) | exact okM33 (by omega) | exact okM10 (by omega) | exact okM8 (by omega) | exact okM22 (by omega) | exact okM24 (by omega) | exact okM14 (by omega) | exact okMa31 (by omega) | exact okMa35 (by omega) | exact okMa36 (by omega) | exact okMa3 (by omega) | exact okMr (by omega) | (unfold okM; refine ⟨?_, ?_, ?_, ?_, ?_, ?_, ?_, ?_, ?_, ?_, ?_, ?_⟩ <;> intro h <;> omega))) (Fr_uI (Fr_uI Fr.rf (by omega)) (by omega)) (by omega) (by omega) (by omega)
theorem sfX12_knows {G : jdG} {n : Nat} {Z : jdL} {J : jdJ} {K : jdI → jdJ → Prop} {c : Int} {I : jdI} {t : Nat} {x1 : Int32} {x2 : Int32} {x3 : Int32} (ht : zModel Z t)  (hc : c ≤ 8) (hW : WM c t I) (hx1 : 0 ≤ x1.toInt ∧ x1.toInt ≤ 7) (hx2 : 0 ≤ x2.toInt ∧ x2.toInt ≤ 7) (hK : ∀ (I2 : jdI), WM c t I2 → Fr (fun a k => t + 21 ≤ a ∧ a ≤ t + 28) I I2 → K I2 J) : Cl G mX12_knows n 0 0 [.ref (gb G + t), .int x1, .int x2, .int x3] Z I J (qv Z K) := by
  refine eX12_knows ht ?_
  have hwI := WM_f hW
  have q1 := i32_lo x1
  refine ⟨vp_of (by omega) (by omega), ?_⟩
  have q2 := i32_lo x2
  refine ⟨vp_of (by omega) (by omega), ?_⟩
  refine ⟨vp_of (by omega) (by omega), ?_⟩
  refine ⟨vp_of (by omega) (by omega), ?_⟩
  have q3 := tn_eq x2
  have q4 := tn_eq x1
  exact hK _ (WM_uI (WM_uI hW (by first | exact okMo (by decide) (by decide) (by decide) (by decide) (by decide) | exact okMf (by decide) (by decide) (by decide) (by decide) (by decide) (by decide) (by decide) (by decide) | exact okM30 (by omega) | exact okM42 (by omega) | exact okM33 (by omega) | exact okM10 (by omega) | exact okM8 (by omega) | exact okM22 (by omega) | exact okM24 (by omega) | exact okM14 (by omega) | exact okMa31 (by omega) | exact okMa35 (by omega) | exact okMa36 (by omega) | exact okMa3 (by omega) | exact okMr (by omega) | (unfold okM; refine ⟨?_, ?_, ?_, ?_, ?_, ?_, ?_, ?_, ?_, ?_, ?_, ?_⟩ <;> intro h <;> omega))) (by first | exact okMo (by decide) (by decide) (by decide) (by decide) (by decide) | exact okMf (by decide) (by decide) (by decide) (by decide) (by decide) (by decide) (by decide) (by decide) | exact okM30 (by omega) | exact okM42 (by omega) | exact okM33 (by omega) | exact okM10 (by omega) | exact okM8 (by omega) | exact okM22 (by omega) | exact okM24 (by omega) | exact okM14 (by omega) | exact okMa31 (by omega) | exact okMa35 (by omega) | exact okMa36 (by omega) | exact okMa3 (by omega) | exact okMr (by omega) | (unfold okM; refine ⟨?_, ?_, ?_, ?_, ?_, ?_, ?_, ?_, ?_, ?_, ?_, ?_⟩ <;> intro h <;> omega))) (Fr_uI (Fr_uI Fr.rf (by omega)) (by omega))
theorem sfX12_areTwo {G : jdG} {n : Nat} {Z : jdL} {J : jdJ} {K : Int32 → jdI → jdJ → Prop}  {I : jdI} {t : Nat} {x1 : Int32} {x2 : Int32} (ht : zModel Z t)  (hW : WM 7 t I)  (hK : ∀ (v : Int32), ((v.toInt = 1 ∧ (0 ≤ x1.toInt ∧ x1.toInt < (I t 10).toInt) ∧ (0 ≤ x2.toInt ∧ x2.toInt < (I t 10).toInt) ∧ ¬ x1.toInt = x2.toInt) ∨ (v.toInt = 0 ∧ ¬ ((0 ≤ x1.toInt ∧ x1.toInt < (I t 10).toInt) ∧ (0 ≤ x2.toInt ∧ x2.toInt < (I t 10).toInt) ∧ ¬ x1.toInt = x2.toInt))) → K v I J) : Cl G mX12_areTwo (n + 2) 0 0 [.ref (gb G + t), .int x1, .int x2] Z I J (qi Z K) := by
  refine eX12_areTwo ht ?_
  have hwI := WM_f hW
  have q1 := i32_lo x1
  refine sfX12_isOne ht hW  (fun v2  hp1 => ?_)
  refine ⟨fun hc2 => ?_, fun hc3 => ?_⟩
  · skip
    have q2 := i32_lo v2
    have q3 : (0 : Int32).toInt = 0 := rfl
    have hc2 := Int32.toInt_inj.mpr hc2
    exact hK _  (by omega)
  · skip
    have q2 := i32_lo v2
    have q3 : (0 : Int32).toInt = 0 := rfl
    have hc3 : ¬ (v2).toInt = (0 : Int32).toInt := fun z => hc3 (Int32.toInt_inj.mp z)
    have q4 := i32_lo x2
    refine sfX12_isOne ht hW  (fun v4  hp4 => ?_)
    refine ⟨fun hc5 => ?_, fun hc6 => ?_⟩
    · skip
      have q5 := i32_lo v4
      have hc5 := Int32.toInt_inj.mpr hc5
      exact hK _  (by omega)
    · skip
      have q5 := i32_lo v4
      have hc6 : ¬ (v4).toInt = (0 : Int32).toInt := fun z => hc6 (Int32.toInt_inj.mp z)
      refine ⟨fun hc7 => ?_, fun hc8 => ?_⟩
      · skip
        have hc7 := Int32.toInt_inj.mpr hc7
        exact hK _  (by omega)
      · skip
        have hc8 : ¬ (x1).toInt = (x2).toInt := fun z => hc8 (Int32.toInt_inj.mp z)
        have q6 : (1 : Int32).toInt = 1 := rfl
        exact hK _  (by omega)
theorem lX12_meets_15 {G : jdG} {n : Nat} {Z : jdL} {J : jdJ} {rc rs : Nat} {K : Int32 → jdI → jdJ → Prop}  {I0 : jdI} {mo4 : Nat} {t : Nat} {x1 : Int32} (ht : zModel Z t)   (hK : ∀ (v : Int32) (I2 : jdI), WM 7 t I2 → Fr (fun a k => t + 21 ≤ a ∧ a ≤ t + 28) I0 I2 → K v I2 J) (hO4 : ∀ (I : jdI) (x2 : Int32) (x3 : Int32), WM 7 t I → Fr (fun a k => t + 21 ≤ a ∧ a ≤ t + 28) I0 I → (0 ≤ x3.toInt ∧ x3.toInt ≤ 7) → (7) - x3.toInt < (mo4 : Int) → Jd G mX12_meets (jdFm G (qi Z K)) (n + 1) rc rs 4 [(0, .ref (gb G + t)), (1, .int x1), (2, .int x2), (3, .int x3)] [] Z I J) : ∀ m : Nat, ∀ (I : jdI) (x2 : Int32) (x3 : Int32) (x4 : Int32), WM 7 t I → Fr (fun a k => t + 21 ≤ a ∧ a ≤ t + 28) I0 I → (0 ≤ x4.toInt ∧ x4.toInt ≤ 7) → (0 ≤ x3.toInt ∧ x3.toInt ≤ 6) → (7) - x3.toInt ≤ (mo4 : Int) → (7) - x4.toInt < (m : Int) → Jd G mX12_meets (jdFm G (qi Z K)) (n + 1) rc rs 15 [(0, .ref (gb G + t)), (1, .int x1), (2, .int x2), (3, .int x3), (4, .int x4)] [] Z I J := by
  intro m
  induction m with
  | zero =>
    intro I x2 x3 x4 hW hF hx4 hx3 hmo4 hm
    have hwI := WM_f hW
    omega
  | succ m ih =>
    intro I x2 x3 x4 hW hF hx4 hx3 hmo4 hm
    have hwI := WM_f hW
    refine rX12_meets_15 ht ?_
    refine ⟨fun hc1 => ?_, fun hc2 => ?_⟩
    · skip
      have q1 := i32_lo x3
      have q2 := i32_lo x4
      have hc1 := Int32.le_iff_toInt_le.mp hc1
      have q3 : (1 : Int32).toInt = 1 := rfl
      have q4 := i32_add x3 1 (by omega) (by omega)
      exact hO4 _ x2 (x3 + 1) hW hF (by omega) (by omega)
    · skip
      have q1 := i32_lo x3
      have q2 := i32_lo x4
      have hc2 := mt Int32.le_iff_toInt_le.mpr hc2
      have q3 := i32_lo x1
      refine sfX12_has  trivial  (fun v2  hp3 => ?_)
      refine ⟨fun hc4 => ?_, fun hc5 => ?_⟩
      · skip
        have q4 := i32_lo v2
        have q5 : (0 : Int32).toInt = 0 := rfl
        have hc4 := Int32.toInt_inj.mpr hc4
        have q6 : (1 : Int32).toInt = 1 := rfl
        have q7 := i32_add x4 1 (by omega) (by omega)
        exact ih _ x2 x3 (x4 + 1) hW hF (by omega) (by omega) (by omega) (by omega)
      · skip
        have q4 := i32_lo v2
        have q5 : (0 : Int32).toInt = 0 := rfl
        have hc5 : ¬ (v2).toInt = (0 : Int32).toInt := fun z => hc5 (Int32.toInt_inj.mp z)
        refine sfX12_has  trivial  (fun v4  hp6 => ?_)
        refine ⟨fun hc7 => ?_, fun hc8 => ?_⟩
        · skip
          have q6 := i32_lo v4
          have hc7 := Int32.toInt_inj.mpr hc7
          have q7 : (1 : Int32).toInt = 1 := rfl
          have q8 := i32_add x4 1 (by omega) (by omega)
          exact ih _ x2 x3 (x4 + 1) hW hF (by omega) (by omega) (by omega) (by omega)
        · skip
          have q6 := i32_lo v4
          have hc8 : ¬ (v4).toInt = (0 : Int32).toInt := fun z => hc8 (Int32.toInt_inj.mp z)
          refine ⟨vp_of (by omega) (by omega), ?_⟩
          refine ⟨vp_of (by omega) (by omega), ?_⟩
          refine ⟨fun hc9 => ?_, fun hc10 => ?_⟩
          · skip
            have q7 : (-1 : Int32).toInt = -1 := rfl
            have hc9 : ¬ ((I (t + 21 + (Int32.toNatClampNeg x3)) (Int32.toNatClampNeg x4))).toInt = ((-1) : Int32).toInt := fun z => hc9 (Int32.toInt_inj.mp z)
            refine sfX12_knows ht (by decide) hW (by omega) (by omega) (fun I7 hWI7 hFI7 => ?_)
            have hwI7 := WM_f hWI7
            have q8 : (1 : Int32).toInt = 1 := rfl
            have q9 := i32_add x4 1 (by omega) (by omega)
            exact ih _ (x2 + 0) x3 (x4 + 1) hWI7 (Fr.tr hF hFI7 (by intro a k h; omega)) (by omega) (by omega) (by omega) (by omega)
          · skip
            have q7 : (-1 : Int32).toInt = -1 := rfl
            have hc10 := Int32.toInt_inj.mpr hc10
            refine sfX12_knows ht (by decide) hW (by omega) (by omega) (fun I9 hWI9 hFI9 => ?_)
            have hwI9 := WM_f hWI9
            have q8 : (1 : Int32).toInt = 1 := rfl
            have q9 := i32_add x4 1 (by omega) (by omega)
            exact ih _ (x2 + 1) x3 (x4 + 1) hWI9 (Fr.tr hF hFI9 (by intro a k h; omega)) (by omega) (by omega) (by omega) (by omega)
theorem lX12_meets_4 {G : jdG} {n : Nat} {Z : jdL} {J : jdJ} {rc rs : Nat} {K : Int32 → jdI → jdJ → Prop}  {I0 : jdI} {t : Nat} {x1 : Int32} (ht : zModel Z t)   (hK : ∀ (v : Int32) (I2 : jdI), WM 7 t I2 → Fr (fun a k => t + 21 ≤ a ∧ a ≤ t + 28) I0 I2 → K v I2 J) : ∀ m : Nat, ∀ (I : jdI) (x2 : Int32) (x3 : Int32), WM 7 t I → Fr (fun a k => t + 21 ≤ a ∧ a ≤ t + 28) I0 I → (0 ≤ x3.toInt ∧ x3.toInt ≤ 7) → (7) - x3.toInt < (m : Int) → Jd G mX12_meets (jdFm G (qi Z K)) (n + 1) rc rs 4 [(0, .ref (gb G + t)), (1, .int x1), (2, .int x2), (3, .int x3)] [] Z I J := by
  intro m
  induction m with
  | zero =>
    intro I x2 x3 hW hF hx3 hm
    have hwI := WM_f hW
    omega
  | succ m ih =>
    intro I x2 x3 hW hF hx3 hm
    have hwI := WM_f hW
    refine rX12_meets_4 ht ?_
    refine ⟨fun hc1 => ?_, fun hc2 => ?_⟩
    · skip
      have q1 := i32_lo (I t 10)
      have q2 := i32_lo x3
      have hc1 := Int32.le_iff_toInt_le.mp hc1
      exact hK _ _ hW hF
    · skip
      have q1 := i32_lo (I t 10)
      have q2 := i32_lo x3
      have hc2 := mt Int32.le_iff_toInt_le.mpr hc2
      have q3 : (0 : Int32).toInt = 0 := rfl
      exact lX12_meets_15 ht   hK ih (((7) - (0 : Int32).toInt).toNat + 1) _ x2 x3 0 hW hF (by omega) (by omega) (by omega) (by omega)
theorem sfX12_meets {G : jdG} {n : Nat} {Z : jdL} {J : jdJ} {K : Int32 → jdI → jdJ → Prop}  {I : jdI} {t : Nat} {x1 : Int32} (ht : zModel Z t)  (hW : WM 7 t I)  (hK : ∀ (v : Int32) (I2 : jdI), WM 7 t I2 → Fr (fun a k => t + 21 ≤ a ∧ a ≤ t + 28) I I2 → K v I2 J) : Cl G mX12_meets (n + 1) 0 0 [.ref (gb G + t), .int x1] Z I J (qi Z K) := by
  refine eX12_meets ht ?_
  have hwI := WM_f hW
  have q1 : (0 : Int32).toInt = 0 := rfl
  exact lX12_meets_4 ht   hK  (((7) - (0 : Int32).toInt).toNat + 1) _ 0 0 hW Fr.rf (by omega) (by omega)
theorem sfX12_wipe {G : jdG} {n : Nat} {Z : jdL} {J : jdJ} {K : Int32 → jdI → jdJ → Prop}  {I : jdI} {t : Nat} (ht : zModel Z t)  (hW : WM 7 t I)  (hK : ∀ (v : Int32) (I2 : jdI), WM 7 t I2 → Fr (fun a k => a = t ∧ k = 8) I I2 → (v.toInt = (I t 8).toInt ∧ (I2 t 8).toInt = 0) → K v I2 J) : Cl G mX12_wipe n 0 0 [.ref (gb G + t)] Z I J (qi Z K) := by
  refine eX12_wipe ht ?_
  have hwI := WM_f hW
  have q1 := i32_lo (I t 8)
  have q2 : (0 : Int32).toInt = 0 := rfl
  have hr1 : (((uI I t 8 0)) t 8).toInt = ((0 : Int32)).toInt := congrArg Int32.toInt (uI_ss _ _ _ _)
  exact hK _ _ (WM_uI hW (by first | exact okMo (by decide) (by decide) (by decide) (by decide) (by decide) | exact okMf (by decide) (by decide) (by decide) (by decide) (by decide) (by decide) (by decide) (by decide) | exact okM30 (by omega) | exact okM42 (by omega) | exact okM33 (by omega) | exact okM10 (by omega) | exact okM8 (by omega) | exact okM22 (by omega) | exact okM24 (by omega) | exact okM14 (by omega) | exact okMa31 (by omega) | exact okMa35 (by omega) | exact okMa36 (by omega) | exact okMa3 (by omega) | exact okMr (by omega) | (unfold okM; refine ⟨?_, ?_, ?_, ?_, ?_, ?_, ?_, ?_, ?_, ?_, ?_, ?_⟩ <;> intro h <;> omega))) (Fr_uI Fr.rf (by omega)) (by omega)
theorem sfX12_isLetter {G : jdG} {n : Nat} {Z : jdL} {J : jdJ} {K : Int32 → jdI → jdJ → Prop}  {I : jdI} {x0 : Int32}   (hW : True)  (hK : ∀ (v : Int32), ((v.toInt = 1 ∧ 97 ≤ x0.toInt ∧ x0.toInt ≤ 122) ∨ (v.toInt = 0 ∧ ¬ (97 ≤ x0.toInt ∧ x0.toInt ≤ 122))) → K v I J) : Cl G mX12_isLetter n 0 0 [.int x0] Z I J (qi Z K) := by
  refine eX12_isLetter  ?_
  refine ⟨fun hc1 => ?_, fun hc2 => ?_⟩
  · skip
    have q1 := i32_lo x0
    have q2 : (97 : Int32).toInt = 97 := rfl
    have hc1 := Int32.lt_iff_toInt_lt.mp hc1
    have q3 : (0 : Int32).toInt = 0 := rfl
    exact hK _  (by omega)
  · skip
    have q1 := i32_lo x0
    have q2 : (97 : Int32).toInt = 97 := rfl
    have hc2 := mt Int32.lt_iff_toInt_lt.mpr hc2
    refine ⟨fun hc3 => ?_, fun hc4 => ?_⟩
    · skip
      have q3 : (122 : Int32).toInt = 122 := rfl
      have hc3 := Int32.lt_iff_toInt_lt.mp hc3
      have q4 : (0 : Int32).toInt = 0 := rfl
      exact hK _  (by omega)
    · skip
      have q3 : (122 : Int32).toInt = 122 := rfl
      have hc4 := mt Int32.lt_iff_toInt_lt.mpr hc4
      have q4 : (1 : Int32).toInt = 1 := rfl
      exact hK _  (by omega)
theorem sfX12_isDigit {G : jdG} {n : Nat} {Z : jdL} {J : jdJ} {K : Int32 → jdI → jdJ → Prop}  {I : jdI} {x0 : Int32}   (hW : True)  (hK : ∀ (v : Int32), ((v.toInt = 1 ∧ 48 ≤ x0.toInt ∧ x0.toInt ≤ 57) ∨ (v.toInt = 0 ∧ ¬ (48 ≤ x0.toInt ∧ x0.toInt ≤ 57))) → K v I J) : Cl G mX12_isDigit n 0 0 [.int x0] Z I J (qi Z K) := by
  refine eX12_isDigit  ?_
  refine ⟨fun hc1 => ?_, fun hc2 => ?_⟩
  · skip
    have q1 := i32_lo x0
    have q2 : (48 : Int32).toInt = 48 := rfl
    have hc1 := Int32.lt_iff_toInt_lt.mp hc1
    have q3 : (0 : Int32).toInt = 0 := rfl
    exact hK _  (by omega)
  · skip
    have q1 := i32_lo x0
    have q2 : (48 : Int32).toInt = 48 := rfl
    have hc2 := mt Int32.lt_iff_toInt_lt.mpr hc2
    refine ⟨fun hc3 => ?_, fun hc4 => ?_⟩
    · skip
      have q3 : (57 : Int32).toInt = 57 := rfl
      have hc3 := Int32.lt_iff_toInt_lt.mp hc3
      have q4 : (0 : Int32).toInt = 0 := rfl
      exact hK _  (by omega)
    · skip
      have q3 : (57 : Int32).toInt = 57 := rfl
      have hc4 := mt Int32.lt_iff_toInt_lt.mpr hc4
      have q4 : (1 : Int32).toInt = 1 := rfl
      exact hK _  (by omega)
