theorem ones_bit : ∀ j : Fin 32, ((-1 : Int32).toBitVec)[j.val] = true := by decide
def bn : Nat → Nat → Nat
  | _, 0 => 1
  | 0, _ + 1 => 0
  | n + 1, k + 1 => bn n k + bn n (k + 1)
def bi (P S f m : Int) : Int := (bn (P - f).toNat (S - m).toNat : Nat)
theorem bi_nn (P S f m : Int) : 0 ≤ bi P S f m := by
  unfold bi
  omega
theorem bi_end (P S f m : Int) : m = S → bi P S f m = 1 := by
  intro h
  unfold bi
  rw [show (S - m).toNat = 0 by omega]
  cases (P - f).toNat <;> rfl
theorem bi_step (P S f m : Int) (h1 : f < P) (h2 : m < S) : bi P S f m = bi P S (f + 1) (m + 1) + bi P S (f + 1) m := by
  unfold bi
  obtain ⟨a, ha⟩ : ∃ a, (P - f).toNat = a + 1 := ⟨(P - f).toNat - 1, by omega⟩
  obtain ⟨b, hb⟩ : ∃ b, (S - m).toNat = b + 1 := ⟨(S - m).toNat - 1, by omega⟩
  rw [ha, hb, show (P - (f + 1)).toNat = a by omega, show (S - (m + 1)).toNat = b by omega]
  show ((bn a b + bn a (b + 1) : Nat) : Int) = _
  omega
theorem bn_70 : ∀ p : Fin 9, ∀ s : Fin 5, bn p.val s.val ≤ 70 := by decide +kernel
theorem bn_35 : ∀ p : Fin 8, ∀ s : Fin 5, bn p.val s.val ≤ 35 := by decide +kernel
theorem bi_70 {P S : Int} (h1 : 0 ≤ P) (h2 : P ≤ 8) (h3 : 0 ≤ S) (h4 : S ≤ 4) : bi P S 0 0 ≤ 70 := by
  have h := bn_70 ⟨P.toNat, by omega⟩ ⟨S.toNat, by omega⟩
  unfold bi
  simp only [Int.sub_zero]
  have h2 : bn P.toNat S.toNat ≤ 70 := h
  omega
theorem bi_35 {P S : Int} (h1 : 0 ≤ P) (h2 : P ≤ 7) (h3 : 0 ≤ S) (h4 : S ≤ 4) : bi P S 0 0 ≤ 35 := by
  have h := bn_35 ⟨P.toNat, by omega⟩ ⟨S.toNat, by omega⟩
  unfold bi
  simp only [Int.sub_zero]
  have h2 : bn P.toNat S.toNat ≤ 35 := h
  omega
theorem bi_c {P S : Int} {x y : Int32} (h0 : 0 ≤ x.toInt) (h1 : x.toInt ≤ 100) (h2 : 0 ≤ y.toInt) (h3 : y.toInt ≤ 100) : bi P S (x + 1).toInt (y + 1).toInt = bi P S (x.toInt + 1) (y.toInt + 1) := by
  have q : (1 : Int32).toInt = 1 := rfl
  rw [i32_add x 1 (by omega) (by omega), i32_add y 1 (by omega) (by omega), q]
theorem bi_c2 {P S m : Int} {x : Int32} (h0 : 0 ≤ x.toInt) (h1 : x.toInt ≤ 100) : bi P S (x + 1).toInt m = bi P S (x.toInt + 1) m := by
  have q : (1 : Int32).toInt = 1 := rfl
  rw [i32_add x 1 (by omega) (by omega), q]
/-- no listed group is empty -/
def LG (t : Nat) (I : jdI) : Prop := ∀ i : Nat, (i : Int) < (I t 30).toInt → ¬ (I (t + 30) i).toInt = 0
theorem LG_zero (t : Nat) (I : jdI) : LG t (uI I t 30 0) := by
  intro i hi
  have e : (uI I t 30 0) t 30 = 0 := by rw [uI_ap, if_pos ⟨rfl, rfl⟩]
  rw [e] at hi
  have q : (0 : Int32).toInt = 0 := rfl
  omega
theorem LG_push {t : Nat} {I : jdI} {x : Int32} (h : LG t I) (h0 : 0 ≤ (I t 30).toInt) (h1 : (I t 30).toInt < 70) (hx : ¬ x.toInt = 0) : LG t (uI (uI I t 30 ((I t 30) + 1)) (t + 30) (Int32.toNatClampNeg (I t 30)) x) := by
  have q : (1 : Int32).toInt = 1 := rfl
  have e1 := i32_add (I t 30) 1 (by omega) (by omega)
  have hn := tn_eq (I t 30)
  intro i hi
  rw [uI_ap, if_neg (by omega), uI_ap, if_pos ⟨rfl, rfl⟩, e1] at hi
  rw [uI_ap]
  split
  · exact hx
  · rename_i hne
    rw [uI_ap, if_neg (by omega)]
    refine h i ?_
    have : i ≠ Int32.toNatClampNeg (I t 30) := fun e => hne ⟨rfl, e⟩
    omega
theorem sh_8 {v : Int32} (h2 : 0 ≤ v.toInt) (h3 : v.toInt ≤ 8) : 1 ≤ ((1 : Int32) <<< (v &&& 31)).toInt := (ev_8 h2 h3).1
theorem or_ne (x y : Int32) (h0 : 0 ≤ y.toInt) (h1 : y.toInt ≤ 8) : ¬ (x ||| (1 <<< (y &&& 31))).toInt = 0 := by
  intro h
  have h2 := sh_8 h0 h1
  have e : x ||| (1 <<< (y &&& 31)) = 0 := Int32.toInt_inj.mp h
  have e2 : ((1 : Int32) <<< (y &&& 31)) &&& (x ||| (1 <<< (y &&& 31))) = 1 <<< (y &&& 31) := by
    generalize (1 : Int32) <<< (y &&& 31) = z
    apply Int32.toBitVec_inj.mp
    rw [Int32.toBitVec_and, Int32.toBitVec_or]
    ext i
    simp
    intro h
    exact Or.inr h
  rw [e, Int32.and_zero] at e2
  rw [← e2] at h2
  have q : (0 : Int32).toInt = 0 := rfl
  omega
theorem and_sub {x g : Int32} (h0 : 0 ≤ x.toInt) (hs : (g &&& (x ^^^ (-1))).toInt = (0 : Int32).toInt) : (g &&& x) = g := by
  have e : g &&& (x ^^^ (-1)) = 0 := Int32.toInt_inj.mp hs
  apply Int32.toBitVec_inj.mp
  have e2 := congrArg Int32.toBitVec e
  rw [Int32.toBitVec_and, Int32.toBitVec_xor] at e2
  rw [Int32.toBitVec_and]
  ext i hi
  have e3 := congrArg (fun z => z.getLsbD i) e2
  have e4 : ((-1 : Int32).toBitVec).getLsbD i = true := by
    rw [BitVec.getLsbD_eq_getElem hi]
    exact ones_bit ⟨i, hi⟩
  have e5 : ((0 : Int32).toBitVec).getLsbD i = false := by
    show (0#32).getLsbD i = false
    simp
  simp only [BitVec.getLsbD_and, BitVec.getLsbD_xor, e4, e5] at e3
  simp only [BitVec.getElem_and]
  rw [BitVec.getLsbD_eq_getElem hi, BitVec.getLsbD_eq_getElem hi] at e3
  revert e3
  cases g.toBitVec[i] <;> cases x.toBitVec[i] <;> simp
theorem and_less {x g : Int32} (h0 : 0 ≤ x.toInt) (hg : ¬ g.toInt = 0) (hs : (g &&& (x ^^^ (-1))).toInt = (0 : Int32).toInt) : 0 ≤ (x &&& (g ^^^ (-1))).toInt ∧ (x &&& (g ^^^ (-1))).toInt < x.toInt := by
  have h1 := i32_and' x (g ^^^ (-1)) h0
  refine ⟨h1.1, ?_⟩
  have h2 : ¬ (x &&& (g ^^^ (-1))).toInt = x.toInt := by
    intro e
    have e1 : x &&& (g ^^^ (-1)) = x := Int32.toInt_inj.mp e
    have e2 := and_sub h0 hs
    apply hg
    have e3 : g = 0 := by
      rw [← e2, ← e1]
      apply Int32.toBitVec_inj.mp
      rw [Int32.toBitVec_and, Int32.toBitVec_and, Int32.toBitVec_xor]
      ext i hi
      have e4 : ((-1 : Int32).toBitVec)[i] = true := by
        exact ones_bit ⟨i, hi⟩
      have e5 : ((0 : Int32).toBitVec)[i] = false := by
        show (0#32)[i] = false
        simp
      simp only [BitVec.getElem_and, BitVec.getElem_xor, e4, e5]
      cases g.toBitVec[i] <;> cases x.toBitVec[i] <;> simp
    rw [e3]
    rfl
  omega
theorem lX12_strangersOf_4 {G : jdG} {n : Nat} {Z : jdL} {J : jdJ} {rc rs : Nat} {K : Int32 → jdI → jdJ → Prop}  {I : jdI} {t : Nat} {x1 : Int32} (ht : zModel Z t)  (hW : WM 7 t I) (hx1 : 0 ≤ x1.toInt ∧ x1.toInt ≤ 7) (hK : ∀ (v : Int32), K v I J) : ∀ m : Nat, ∀ (x2 : Int32) (x3 : Int32), (0 ≤ x3.toInt ∧ x3.toInt ≤ 7) → (7) - x3.toInt < (m : Int) → Jd G mX12_strangersOf (jdFm G (qi Z K)) n rc rs 4 [(0, .ref (gb G + t)), (1, .int x1), (2, .int x2), (3, .int x3)] [] Z I J := by
  intro m
  induction m with
  | zero =>
    intro x2 x3 hx3 hm
    have hwI := WM_f hW
    omega
  | succ m ih =>
    intro x2 x3 hx3 hm
    have hwI := WM_f hW
    refine rX12_strangersOf_4 ht ?_
    refine ⟨fun hc1 => ?_, fun hc2 => ?_⟩
    · skip
      have q1 := i32_lo (I t 10)
      have q2 := i32_lo x3
      have hc1 := Int32.le_iff_toInt_le.mp hc1
      exact hK _ 
    · skip
      have q1 := i32_lo (I t 10)
      have q2 := i32_lo x3
      have hc2 := mt Int32.le_iff_toInt_le.mpr hc2
      refine ⟨fun hc3 => ?_, fun hc4 => ?_⟩
      · skip
        have q3 := i32_lo x1
        have hc3 := Int32.toInt_inj.mpr hc3
        have q4 : (1 : Int32).toInt = 1 := rfl
        have q5 := i32_add x3 1 (by omega) (by omega)
        exact ih (x2 ||| 0) (x3 + 1) (by omega) (by omega)
      · skip
        have q3 := i32_lo x1
        have hc4 : ¬ (x3).toInt = (x1).toInt := fun z => hc4 (Int32.toInt_inj.mp z)
        refine ⟨vp_of (by omega) (by omega), ?_⟩
        refine ⟨vp_of (by omega) (by omega), ?_⟩
        refine ⟨fun hc5 => ?_, fun hc6 => ?_⟩
        · skip
          have q4 : (-1 : Int32).toInt = -1 := rfl
          have hc5 : ¬ ((I (t + 21 + (Int32.toNatClampNeg x1)) (Int32.toNatClampNeg x3))).toInt = ((-1) : Int32).toInt := fun z => hc5 (Int32.toInt_inj.mp z)
          have q5 : (1 : Int32).toInt = 1 := rfl
          have q6 := i32_add x3 1 (by omega) (by omega)
          exact ih (x2 ||| 0) (x3 + 1) (by omega) (by omega)
        · skip
          have q4 : (-1 : Int32).toInt = -1 := rfl
          have hc6 := Int32.toInt_inj.mpr hc6
          have q5 : (1 : Int32).toInt = 1 := rfl
          have q6 := i32_add x3 1 (by omega) (by omega)
          exact ih (x2 ||| (1 <<< (x3 &&& 31))) (x3 + 1) (by omega) (by omega)
theorem sfX12_strangersOf {G : jdG} {n : Nat} {Z : jdL} {J : jdJ} {K : Int32 → jdI → jdJ → Prop}  {I : jdI} {t : Nat} {x1 : Int32} (ht : zModel Z t)  (hW : WM 7 t I) (hx1 : 0 ≤ x1.toInt ∧ x1.toInt ≤ 7) (hK : ∀ (v : Int32), K v I J) : Cl G mX12_strangersOf n 0 0 [.ref (gb G + t), .int x1] Z I J (qi Z K) := by
  refine eX12_strangersOf ht ?_
  have hwI := WM_f hW
  have q1 : (0 : Int32).toInt = 0 := rfl
  exact lX12_strangersOf_4 ht  hW hx1 hK  (((7) - (0 : Int32).toInt).toNat + 1) 0 0 (by omega) (by omega)
theorem sfX12_personOf {G : jdG} {n : Nat} {Z : jdL} {J : jdJ} {K : Int32 → jdI → jdJ → Prop}  {I : jdI} {t : Nat} {x1 : Int32} {x2 : Int32} (ht : zModel Z t)  (hW : WM 7 t I)  (hK : ∀ (v : Int32) (I2 : jdI), WM 7 t I2 → Fr (fun a k => a = t + 17) I I2 → K v I2 J) : Cl G mX12_personOf (n + 2) 0 0 [.ref (gb G + t), .int x1, .int x2] Z I J (qi Z K) := by
  refine eX12_personOf ht ?_
  have hwI := WM_f hW
  have q1 := i32_lo x1
  refine sfX12_isOne ht hW  (fun v2  hp1 => ?_)
  refine ⟨fun hc2 => ?_, fun hc3 => ?_⟩
  · skip
    have q2 := i32_lo v2
    have q3 : (0 : Int32).toInt = 0 := rfl
    have hc2 := Int32.toInt_inj.mpr hc2
    have q4 : (-2 : Int32).toInt = -2 := rfl
    refine sfX12_refuse ht (by decide) hW (by omega) (fun v4 I3 hWI3 hFI3 hp4 => ?_)
    have hwI3 := WM_f hWI3
    exact hK _ _ hWI3 (Fr.tr Fr.rf hFI3 (by intro a k h; omega))
  · skip
    have q2 := i32_lo v2
    have q3 : (0 : Int32).toInt = 0 := rfl
    have hc3 : ¬ (v2).toInt = (0 : Int32).toInt := fun z => hc3 (Int32.toInt_inj.mp z)
    have q4 := i32_lo x2
    have q5 : (Int32.toInt64 x2).toInt = (x2).toInt := Int32.toInt_toInt64 _
    have q6 : (0 : Int64).toInt = 0 := rfl
    have q7 : (3 : Int64).toInt = 3 := rfl
    refine sfX12_in  trivial  (fun v6  hp5 => ?_)
    refine ⟨fun hc6 => ?_, fun hc7 => ?_⟩
    · skip
      have q8 := i32_lo v6
      have hc6 : ¬ (v6).toInt = (0 : Int32).toInt := fun z => hc6 (Int32.toInt_inj.mp z)
      refine ⟨fun hc8 => ?_, fun hc9 => ?_, fun hc10 => ?_, fun hc11 => ?_⟩
      · skip
        refine sfX12_strangersOf ht hW (by omega) (fun v8  => ?_)
        have q9 := i32_lo v8
        refine sfX12_bits  trivial  (fun v10  hp13 => ?_)
        exact hK _ _ hW Fr.rf
      · skip
        refine ⟨vp_of (by omega) (by omega), ?_⟩
        exact hK _ _ hW Fr.rf
      · skip
        refine ⟨vp_of (by omega) (by omega), ?_⟩
        exact hK _ _ hW Fr.rf
      · skip
        refine sfX12_strangersOf ht hW (by omega) (fun v14  => ?_)
        exact hK _ _ hW Fr.rf
    · skip
      have q8 := i32_lo v6
      have hc7 := Int32.toInt_inj.mpr hc7
      have q9 : (-2 : Int32).toInt = -2 := rfl
      refine sfX12_refuse ht (by decide) hW (by omega) (fun v16 I15 hWI15 hFI15 hp15 => ?_)
      have hwI15 := WM_f hWI15
      exact hK _ _ hWI15 (Fr.tr Fr.rf hFI15 (by intro a k h; omega))
theorem sfX12_knownOf {G : jdG} {n : Nat} {Z : jdL} {J : jdJ} {K : Int32 → jdI → jdJ → Prop}  {I : jdI} {t : Nat} {x1 : Int32} {x2 : Int32} (ht : zModel Z t)  (hW : WM 7 t I)  (hK : ∀ (v : Int32) (I2 : jdI), WM 7 t I2 → Fr (fun a k => a = t + 17) I I2 → K v I2 J) : Cl G mX12_knownOf (n + 3) 0 0 [.ref (gb G + t), .int x1, .int x2] Z I J (qi Z K) := by
  refine eX12_knownOf ht ?_
  have hwI := WM_f hW
  have q1 := i32_lo x1
  have q2 := i32_lo x2
  refine sfX12_areTwo ht hW  (fun v2  hp1 => ?_)
  refine ⟨fun hc2 => ?_, fun hc3 => ?_⟩
  · skip
    have q3 := i32_lo v2
    have q4 : (0 : Int32).toInt = 0 := rfl
    have hc2 := Int32.toInt_inj.mpr hc2
    have q5 : (-2 : Int32).toInt = -2 := rfl
    refine sfX12_refuse ht (by decide) hW (by omega) (fun v4 I3 hWI3 hFI3 hp4 => ?_)
    have hwI3 := WM_f hWI3
    exact hK _ _ hWI3 (Fr.tr Fr.rf hFI3 (by intro a k h; omega))
  · skip
    have q3 := i32_lo v2
    have q4 : (0 : Int32).toInt = 0 := rfl
    have hc3 : ¬ (v2).toInt = (0 : Int32).toInt := fun z => hc3 (Int32.toInt_inj.mp z)
    refine ⟨vp_of (by omega) (by omega), ?_⟩
    refine ⟨vp_of (by omega) (by omega), ?_⟩
    exact hK _ _ hW Fr.rf
theorem lX12_isGroupNow_25 {G : jdG} {n : Nat} {Z : jdL} {J : jdJ} {rc rs : Nat} {K : Int32 → jdI → jdJ → Prop}  {I : jdI} {mo15 : Nat} {t : Nat} {x1 : Int32} (ht : zModel Z t)  (hW : WM 7 t I)  (hK : ∀ (v : Int32), (v.toInt = 0 ∨ v.toInt = 1) → K v I J) (hO15 : ∀ (x2 : Int32), (0 ≤ x2.toInt ∧ x2.toInt ≤ 7) → (7) - x2.toInt < (mo15 : Int) → Jd G mX12_isGroupNow (jdFm G (qi Z K)) (n + 1) rc rs 15 [(0, .ref (gb G + t)), (1, .int x1), (2, .int x2)] [] Z I J) : ∀ m : Nat, ∀ (x2 : Int32) (x3 : Int32), (0 ≤ x3.toInt ∧ x3.toInt ≤ 7) → (0 ≤ x2.toInt ∧ x2.toInt ≤ 6) → (7) - x2.toInt ≤ (mo15 : Int) → (7) - x3.toInt < (m : Int) → Jd G mX12_isGroupNow (jdFm G (qi Z K)) (n + 1) rc rs 25 [(0, .ref (gb G + t)), (1, .int x1), (2, .int x2), (3, .int x3)] [] Z I J := by
  intro m
  induction m with
  | zero =>
    intro x2 x3 hx3 hx2 hmo15 hm
    have hwI := WM_f hW
    omega
  | succ m ih =>
    intro x2 x3 hx3 hx2 hmo15 hm
    have hwI := WM_f hW
    refine rX12_isGroupNow_25 ht ?_
    refine ⟨fun hc1 => ?_, fun hc2 => ?_⟩
    · skip
      have q1 := i32_lo x2
      have q2 := i32_lo x3
      have hc1 := Int32.le_iff_toInt_le.mp hc1
      have q3 : (1 : Int32).toInt = 1 := rfl
      have q4 := i32_add x2 1 (by omega) (by omega)
      exact hO15 (x2 + 1) (by omega) (by omega)
    · skip
      have q1 := i32_lo x2
      have q2 := i32_lo x3
      have hc2 := mt Int32.le_iff_toInt_le.mpr hc2
      have q3 := i32_lo x1
      refine sfX12_has  trivial  (fun v2  hp3 => ?_)
      refine ⟨fun hc4 => ?_, fun hc5 => ?_⟩
      · skip
        have q4 := i32_lo v2
        have q5 : (0 : Int32).toInt = 0 := rfl
        have hc4 := Int32.toInt_inj.mpr hc4
        have q6 : (1 : Int32).toInt = 1 := rfl
        have q7 := i32_add x3 1 (by omega) (by omega)
        exact ih x2 (x3 + 1) (by omega) (by omega) (by omega) (by omega)
      · skip
        have q4 := i32_lo v2
        have q5 : (0 : Int32).toInt = 0 := rfl
        have hc5 : ¬ (v2).toInt = (0 : Int32).toInt := fun z => hc5 (Int32.toInt_inj.mp z)
        refine sfX12_has  trivial  (fun v4  hp6 => ?_)
        refine ⟨fun hc7 => ?_, fun hc8 => ?_⟩
        · skip
          have q6 := i32_lo v4
          have hc7 := Int32.toInt_inj.mpr hc7
          have q7 : (1 : Int32).toInt = 1 := rfl
          have q8 := i32_add x3 1 (by omega) (by omega)
          exact ih x2 (x3 + 1) (by omega) (by omega) (by omega) (by omega)
        · skip
          have q6 := i32_lo v4
          have hc8 : ¬ (v4).toInt = (0 : Int32).toInt := fun z => hc8 (Int32.toInt_inj.mp z)
          refine ⟨vp_of (by omega) (by omega), ?_⟩
          refine ⟨vp_of (by omega) (by omega), ?_⟩
          refine ⟨fun hc9 => ?_, fun hc10 => ?_⟩
          · skip
            have q7 : (-1 : Int32).toInt = -1 := rfl
            have hc9 := Int32.toInt_inj.mpr hc9
            have q8 : (1 : Int32).toInt = 1 := rfl
            have q9 := i32_add x3 1 (by omega) (by omega)
            exact ih x2 (x3 + 1) (by omega) (by omega) (by omega) (by omega)
          · skip
            have q7 : (-1 : Int32).toInt = -1 := rfl
            have hc10 : ¬ ((I (t + 21 + (Int32.toNatClampNeg x2)) (Int32.toNatClampNeg x3))).toInt = ((-1) : Int32).toInt := fun z => hc10 (Int32.toInt_inj.mp z)
            exact hK _  (by omega)
theorem lX12_isGroupNow_15 {G : jdG} {n : Nat} {Z : jdL} {J : jdJ} {rc rs : Nat} {K : Int32 → jdI → jdJ → Prop}  {I : jdI} {t : Nat} {x1 : Int32} (ht : zModel Z t)  (hW : WM 7 t I)  (hK : ∀ (v : Int32), (v.toInt = 0 ∨ v.toInt = 1) → K v I J) : ∀ m : Nat, ∀ (x2 : Int32), (0 ≤ x2.toInt ∧ x2.toInt ≤ 7) → (7) - x2.toInt < (m : Int) → Jd G mX12_isGroupNow (jdFm G (qi Z K)) (n + 1) rc rs 15 [(0, .ref (gb G + t)), (1, .int x1), (2, .int x2)] [] Z I J := by
  intro m
  induction m with
  | zero =>
    intro x2 hx2 hm
    have hwI := WM_f hW
    omega
  | succ m ih =>
    intro x2 hx2 hm
    have hwI := WM_f hW
    refine rX12_isGroupNow_15 ht ?_
    refine ⟨fun hc1 => ?_, fun hc2 => ?_⟩
    · skip
      have q1 := i32_lo (I t 10)
      have q2 := i32_lo x2
      have hc1 := Int32.le_iff_toInt_le.mp hc1
      have q3 : (1 : Int32).toInt = 1 := rfl
      exact hK _  (by omega)
    · skip
      have q1 := i32_lo (I t 10)
      have q2 := i32_lo x2
      have hc2 := mt Int32.le_iff_toInt_le.mpr hc2
      have q3 : (0 : Int32).toInt = 0 := rfl
      exact lX12_isGroupNow_25 ht  hW  hK ih (((7) - (0 : Int32).toInt).toNat + 1) x2 0 (by omega) (by omega) (by omega) (by omega)
theorem sfX12_isGroupNow {G : jdG} {n : Nat} {Z : jdL} {J : jdJ} {K : Int32 → jdI → jdJ → Prop}  {I : jdI} {t : Nat} {x1 : Int32} (ht : zModel Z t)  (hW : WM 7 t I)  (hK : ∀ (v : Int32), (v.toInt = 0 ∨ v.toInt = 1) → K v I J) : Cl G mX12_isGroupNow (n + 1) 0 0 [.ref (gb G + t), .int x1] Z I J (qi Z K) := by
  refine eX12_isGroupNow ht ?_
  have hwI := WM_f hW
  have q1 := i32_lo x1
  refine sfX12_bits  trivial  (fun v2  hp1 => ?_)
  refine ⟨fun hc2 => ?_, fun hc3 => ?_⟩
  · skip
    have q2 := i32_lo v2
    have q3 := i32_lo (I t 14)
    have hc2 := Int32.toInt_inj.mpr hc2
    have q4 : (0 : Int32).toInt = 0 := rfl
    exact lX12_isGroupNow_15 ht  hW  hK  (((7) - (0 : Int32).toInt).toNat + 1) 0 (by omega) (by omega)
  · skip
    have q2 := i32_lo v2
    have q3 := i32_lo (I t 14)
    have hc3 : ¬ (v2).toInt = ((I t 14)).toInt := fun z => hc3 (Int32.toInt_inj.mp z)
    have q4 : (0 : Int32).toInt = 0 := rfl
    exact hK _  (by omega)
theorem lX12_listFrom_44 {G : jdG} {n : Nat} {Z : jdL} {J : jdJ} {rc rs : Nat} {K : jdI → jdJ → Prop} {c : Int} {P : Int} {S : Int} {I0 : jdI} {mo29 : Nat} {t : Nat} {x1 : Int32} {x2 : Int32} {x3 : Int32} (ht : zModel Z t)  (hc : c ≤ 8) (hx2 : 0 ≤ x2.toInt) (hx3 : 0 ≤ x3.toInt ∧ x3.toInt ≤ S) (hx1 : x3.toInt = 0 ∨ ¬ x1.toInt = 0) (hK : ∀ (I2 : jdI), WM c t I2 → Fr (fun a k => (a = t ∧ k = 30) ∨ a = t + 30) I0 I2 → ((I2 t 30).toInt ≤ (I0 t 30).toInt + bi P S x2.toInt x3.toInt ∧ LG t I2) → K I2 J) {d : Nat} (hR : ∀ (I : jdI) (K : jdI → jdJ → Prop) (x1 : Int32) (x2 : Int32) (x3 : Int32), WM c t I → (0 ≤ x2.toInt) → ((I t 10).toInt = P) → ((I t 14).toInt = S) → (0 ≤ x3.toInt ∧ x3.toInt ≤ S) → ((I t 30).toInt + bi P S x2.toInt x3.toInt ≤ 70) → (x3.toInt = 0 ∨ ¬ x1.toInt = 0) → (LG t I) → 0 ≤ 8 - x2.toInt ∧ 8 - x2.toInt < (d : Int) → (∀ (I2 : jdI), WM c t I2 → Fr (fun a k => (a = t ∧ k = 30) ∨ a = t + 30) I I2 → ((I2 t 30).toInt ≤ (I t 30).toInt + bi P S x2.toInt x3.toInt ∧ LG t I2) → K I2 J) → Cl G mX12_listFrom (n + 0) 0 0 [.ref (gb G + t), .int x1, .int x2, .int x3] Z I J (qv Z K)) (hO29 : ∀ (I : jdI) (x4 : Int32), WM c t I → Fr (fun a k => (a = t ∧ k = 30) ∨ a = t + 30) I0 I → (x2.toInt ≤ x4.toInt ∧ x4.toInt ≤ 8) → ((I t 10).toInt = P) → ((I t 14).toInt = S) → (0 ≤ x3.toInt ∧ x3.toInt < S) → ((I t 30).toInt + bi P S x4.toInt x3.toInt ≤ (I0 t 30).toInt + bi P S x2.toInt x3.toInt) → ((I0 t 30).toInt + bi P S x2.toInt x3.toInt ≤ 70) → (LG t I) → (0 ≤ 8 - x2.toInt ∧ 8 - x2.toInt ≤ (d : Int)) → 8 - x4.toInt < (mo29 : Int) → Jd G mX12_listFrom (jdFm G (qv Z K)) (n + 1) rc rs 29 [(0, .ref (gb G + t)), (1, .int x1), (2, .int x2), (3, .int x3), (4, .int x4)] [] Z I J) : ∀ m : Nat, ∀ (I : jdI) (x4 : Int32) (x5 : Int32) (x6 : Int32), WM c t I → Fr (fun a k => (a = t ∧ k = 30) ∨ a = t + 30) I0 I → (0 ≤ x6.toInt ∧ x6.toInt ≤ x4.toInt) → (x2.toInt ≤ x4.toInt ∧ x4.toInt < P) → ((I t 10).toInt = P) → ((I t 14).toInt = S) → (0 ≤ x3.toInt ∧ x3.toInt < S) → ((I t 30).toInt + bi P S x4.toInt x3.toInt ≤ (I0 t 30).toInt + bi P S x2.toInt x3.toInt) → ((I0 t 30).toInt + bi P S x2.toInt x3.toInt ≤ 70) → (LG t I) → (0 ≤ 8 - x2.toInt ∧ 8 - x2.toInt ≤ (d : Int)) → 8 - x4.toInt ≤ (mo29 : Int) → x4.toInt - x6.toInt < (m : Int) → Jd G mX12_listFrom (jdFm G (qv Z K)) (n + 1) rc rs 44 [(0, .ref (gb G + t)), (1, .int x1), (2, .int x2), (3, .int x3), (4, .int x4), (5, .int x5), (6, .int x6)] [] Z I J := by
  intro m
  induction m with
  | zero =>
    intro I x4 x5 x6 hW hF hx6 hx4 hP hS hx3s hbb hb0 hL hd hmo29 hm
    have hwI := WM_f hW
    omega
  | succ m ih =>
    intro I x4 x5 x6 hW hF hx6 hx4 hP hS hx3s hbb hb0 hL hd hmo29 hm
    have hwI := WM_f hW
    refine rX12_listFrom_44 ht ?_
    have hbs := bi_step P S x4.toInt x3.toInt (by omega) (by omega)
    have hn1 := bi_nn P S (x4.toInt + 1) (x3.toInt + 1)
    have hn2 := bi_nn P S (x4.toInt + 1) x3.toInt
    have hor := or_ne x1 x4 (by omega) (by omega)
    have he1 : bi P S (x4 + 1).toInt (x3 + 1).toInt = bi P S (x4.toInt + 1) (x3.toInt + 1) := bi_c (by omega) (by omega) (by omega) (by omega)
    have he2 : bi P S (x4 + 1).toInt x3.toInt = bi P S (x4.toInt + 1) x3.toInt := bi_c2 (by omega) (by omega)
    refine ⟨fun hc1 => ?_, fun hc2 => ?_⟩
    · skip
      have q1 := i32_lo x4
      have q2 := i32_lo x6
      have hc1 := Int32.le_iff_toInt_le.mp hc1
      refine ⟨fun hc3 => ?_, fun hc4 => ?_⟩
      · skip
        have q3 := i32_lo x5
        have q4 : (0 : Int32).toInt = 0 := rfl
        have hc3 := Int32.toInt_inj.mpr hc3
        have q5 : (1 : Int32).toInt = 1 := rfl
        have q6 := i32_add x4 1 (by omega) (by omega)
        exact hO29 _ (x4 + 1) hW hF (by omega) (by omega) (by omega) (by omega) (by omega) (by omega) (by assumption) (by omega) (by omega)
      · skip
        have q3 := i32_lo x5
        have q4 : (0 : Int32).toInt = 0 := rfl
        have hc4 : ¬ (x5).toInt = (0 : Int32).toInt := fun z => hc4 (Int32.toInt_inj.mp z)
        have q5 := i32_lo x1
        have q6 : (1 : Int32).toInt = 1 := rfl
        have q7 : (31 : Int32).toInt = 31 := rfl
        have q8 := i32_add x4 1 (by omega) (by omega)
        have q9 := i32_lo x3
        have q10 := i32_add x3 1 (by omega) (by omega)
        refine hR _ _ _ _ _ hW (by omega) (by omega) (by omega) (by omega) (by omega) (by omega) (by assumption) ⟨by omega, by omega⟩ (fun I1 hWI1 hFI1 hp5 => ?_)
        have hwI1 := WM_f hWI1
        first | have hk6 : (I1 t 10).toInt = (I t 10).toInt := (by rw [hFI1 t 10 (by omega)]) | skip
        first | have hk7 : (I1 t 14).toInt = (I t 14).toInt := (by rw [hFI1 t 14 (by omega)]) | skip
        have hLn := hp5.2
        have hpn := hp5.1
        exact hO29 _ (x4 + 1) hWI1 (Fr.tr hF hFI1 (by intro a k h; omega)) (by omega) (by omega) (by omega) (by omega) (by omega) (by omega) (by assumption) (by omega) (by omega)
    · skip
      have q1 := i32_lo x4
      have q2 := i32_lo x6
      have hc2 := mt Int32.le_iff_toInt_le.mpr hc2
      have q3 := i32_lo x1
      refine sfX12_has  trivial  (fun v4  hp8 => ?_)
      refine ⟨fun hc9 => ?_, fun hc10 => ?_⟩
      · skip
        have q4 := i32_lo v4
        have q5 : (0 : Int32).toInt = 0 := rfl
        have hc9 := Int32.toInt_inj.mpr hc9
        have q6 : (1 : Int32).toInt = 1 := rfl
        have q7 := i32_add x6 1 (by omega) (by omega)
        exact ih _ x4 (x5 &&& 1) (x6 + 1) hW hF (by omega) (by omega) (by omega) (by omega) (by omega) (by omega) (by omega) (by assumption) (by omega) (by omega) (by omega)
      · skip
        have q4 := i32_lo v4
        have q5 : (0 : Int32).toInt = 0 := rfl
        have hc10 : ¬ (v4).toInt = (0 : Int32).toInt := fun z => hc10 (Int32.toInt_inj.mp z)
        refine ⟨vp_of (by omega) (by omega), ?_⟩
        refine ⟨vp_of (by omega) (by omega), ?_⟩
        refine ⟨fun hc11 => ?_, fun hc12 => ?_⟩
        · skip
          have q6 : (-1 : Int32).toInt = -1 := rfl
          have hc11 : ¬ ((I (t + 21 + (Int32.toNatClampNeg x4)) (Int32.toNatClampNeg x6))).toInt = ((-1) : Int32).toInt := fun z => hc11 (Int32.toInt_inj.mp z)
          have q7 : (1 : Int32).toInt = 1 := rfl
          have q8 := i32_add x6 1 (by omega) (by omega)
          exact ih _ x4 (x5 &&& 0) (x6 + 1) hW hF (by omega) (by omega) (by omega) (by omega) (by omega) (by omega) (by omega) (by assumption) (by omega) (by omega) (by omega)
        · skip
          have q6 : (-1 : Int32).toInt = -1 := rfl
          have hc12 := Int32.toInt_inj.mpr hc12
          have q7 : (1 : Int32).toInt = 1 := rfl
          have q8 := i32_add x6 1 (by omega) (by omega)
          exact ih _ x4 (x5 &&& 1) (x6 + 1) hW hF (by omega) (by omega) (by omega) (by omega) (by omega) (by omega) (by omega) (by assumption) (by omega) (by omega) (by omega)
theorem lX12_listFrom_29 {G : jdG} {n : Nat} {Z : jdL} {J : jdJ} {rc rs : Nat} {K : jdI → jdJ → Prop} {c : Int} {P : Int} {S : Int} {I0 : jdI} {t : Nat} {x1 : Int32} {x2 : Int32} {x3 : Int32} (ht : zModel Z t)  (hc : c ≤ 8) (hx2 : 0 ≤ x2.toInt) (hx3 : 0 ≤ x3.toInt ∧ x3.toInt ≤ S) (hx1 : x3.toInt = 0 ∨ ¬ x1.toInt = 0) (hK : ∀ (I2 : jdI), WM c t I2 → Fr (fun a k => (a = t ∧ k = 30) ∨ a = t + 30) I0 I2 → ((I2 t 30).toInt ≤ (I0 t 30).toInt + bi P S x2.toInt x3.toInt ∧ LG t I2) → K I2 J) {d : Nat} (hR : ∀ (I : jdI) (K : jdI → jdJ → Prop) (x1 : Int32) (x2 : Int32) (x3 : Int32), WM c t I → (0 ≤ x2.toInt) → ((I t 10).toInt = P) → ((I t 14).toInt = S) → (0 ≤ x3.toInt ∧ x3.toInt ≤ S) → ((I t 30).toInt + bi P S x2.toInt x3.toInt ≤ 70) → (x3.toInt = 0 ∨ ¬ x1.toInt = 0) → (LG t I) → 0 ≤ 8 - x2.toInt ∧ 8 - x2.toInt < (d : Int) → (∀ (I2 : jdI), WM c t I2 → Fr (fun a k => (a = t ∧ k = 30) ∨ a = t + 30) I I2 → ((I2 t 30).toInt ≤ (I t 30).toInt + bi P S x2.toInt x3.toInt ∧ LG t I2) → K I2 J) → Cl G mX12_listFrom (n + 0) 0 0 [.ref (gb G + t), .int x1, .int x2, .int x3] Z I J (qv Z K)) : ∀ m : Nat, ∀ (I : jdI) (x4 : Int32), WM c t I → Fr (fun a k => (a = t ∧ k = 30) ∨ a = t + 30) I0 I → (x2.toInt ≤ x4.toInt ∧ x4.toInt ≤ 8) → ((I t 10).toInt = P) → ((I t 14).toInt = S) → (0 ≤ x3.toInt ∧ x3.toInt < S) → ((I t 30).toInt + bi P S x4.toInt x3.toInt ≤ (I0 t 30).toInt + bi P S x2.toInt x3.toInt) → ((I0 t 30).toInt + bi P S x2.toInt x3.toInt ≤ 70) → (LG t I) → (0 ≤ 8 - x2.toInt ∧ 8 - x2.toInt ≤ (d : Int)) → 8 - x4.toInt < (m : Int) → Jd G mX12_listFrom (jdFm G (qv Z K)) (n + 1) rc rs 29 [(0, .ref (gb G + t)), (1, .int x1), (2, .int x2), (3, .int x3), (4, .int x4)] [] Z I J := by
  intro m
  induction m with
  | zero =>
    intro I x4 hW hF hx4 hP hS hx3s hbb hb0 hL hd hm
    have hwI := WM_f hW
    omega
  | succ m ih =>
    intro I x4 hW hF hx4 hP hS hx3s hbb hb0 hL hd hm
    have hwI := WM_f hW
    refine rX12_listFrom_29 ht ?_
    have hbn := bi_nn P S x4.toInt x3.toInt
    refine ⟨fun hc1 => ?_, fun hc2 => ?_⟩
    · skip
      have q1 := i32_lo (I t 10)
      have q2 := i32_lo x4
      have hc1 := Int32.le_iff_toInt_le.mp hc1
      exact hK _ hW hF ⟨by omega, by first | assumption | exact LG_push hL (by omega) (by omega) (by omega)⟩
    · skip
      have q1 := i32_lo (I t 10)
      have q2 := i32_lo x4
      have hc2 := mt Int32.le_iff_toInt_le.mpr hc2
      have q3 : (0 : Int32).toInt = 0 := rfl
      exact lX12_listFrom_44 ht  hc hx2 hx3 hx1 hK hR ih ((x4.toInt - (0 : Int32).toInt).toNat + 1) _ x4 1 0 hW hF (by omega) (by omega) (by omega) (by omega) (by omega) (by omega) (by omega) (by assumption) (by omega) (by omega) (by omega)
theorem sbX12_listFrom {G : jdG} {n : Nat} {Z : jdL} {J : jdJ} {d : Nat} {c : Int} {P : Int} {S : Int} {t : Nat} (ht : zModel Z t)  (hc : c ≤ 8) (hR : ∀ (I : jdI) (K : jdI → jdJ → Prop) (x1 : Int32) (x2 : Int32) (x3 : Int32), WM c t I → (0 ≤ x2.toInt) → ((I t 10).toInt = P) → ((I t 14).toInt = S) → (0 ≤ x3.toInt ∧ x3.toInt ≤ S) → ((I t 30).toInt + bi P S x2.toInt x3.toInt ≤ 70) → (x3.toInt = 0 ∨ ¬ x1.toInt = 0) → (LG t I) → 0 ≤ 8 - x2.toInt ∧ 8 - x2.toInt < (d : Int) → (∀ (I2 : jdI), WM c t I2 → Fr (fun a k => (a = t ∧ k = 30) ∨ a = t + 30) I I2 → ((I2 t 30).toInt ≤ (I t 30).toInt + bi P S x2.toInt x3.toInt ∧ LG t I2) → K I2 J) → Cl G mX12_listFrom (n + 0) 0 0 [.ref (gb G + t), .int x1, .int x2, .int x3] Z I J (qv Z K)) (I : jdI) (K : jdI → jdJ → Prop) (x1 : Int32) (x2 : Int32) (x3 : Int32) (hW : WM c t I) (hx2 : 0 ≤ x2.toInt) (hP : (I t 10).toInt = P) (hS : (I t 14).toInt = S) (hx3 : 0 ≤ x3.toInt ∧ x3.toInt ≤ S) (hb : (I t 30).toInt + bi P S x2.toInt x3.toInt ≤ 70) (hx1 : x3.toInt = 0 ∨ ¬ x1.toInt = 0) (hL : LG t I) (hd : 0 ≤ 8 - x2.toInt ∧ 8 - x2.toInt ≤ (d : Int)) (hK : ∀ (I2 : jdI), WM c t I2 → Fr (fun a k => (a = t ∧ k = 30) ∨ a = t + 30) I I2 → ((I2 t 30).toInt ≤ (I t 30).toInt + bi P S x2.toInt x3.toInt ∧ LG t I2) → K I2 J) : Cl G mX12_listFrom (n + 1) 0 0 [.ref (gb G + t), .int x1, .int x2, .int x3] Z I J (qv Z K) := by
  refine eX12_listFrom ht ?_
  have hwI := WM_f hW
  have hb1 := bi_end P S x2.toInt x3.toInt
  have hbn := bi_nn P S x2.toInt x3.toInt
  refine ⟨fun hc1 => ?_, fun hc2 => ?_⟩
  · skip
    have q1 := i32_lo x3
    have q2 := i32_lo (I t 14)
    have hc1 : ¬ (x3).toInt = ((I t 14)).toInt := fun z => hc1 (Int32.toInt_inj.mp z)
    have q3 := i32_lo x2
    exact lX12_listFrom_29 ht  hc hx2 hx3 hx1 hK hR  ((8 - x2.toInt).toNat + 1) _ x2 hW Fr.rf (by omega) (by omega) (by omega) (by omega) (by omega) (by omega) (by assumption) (by omega) (by omega)
  · skip
    have q1 := i32_lo x3
    have q2 := i32_lo (I t 14)
    have hc2 := Int32.toInt_inj.mpr hc2
    have q3 := i32_lo (I t 30)
    refine ⟨vp_of (by omega) (by omega), ?_⟩
    have q4 : (1 : Int32).toInt = 1 := rfl
    have q5 := i32_add (I t 30) 1 (by omega) (by omega)
    have hr3 : (((uI (uI I t 30 ((I t 30) + 1)) (t + 30) (Int32.toNatClampNeg (I t 30)) x1)) t 30).toInt = (((I t 30) + 1)).toInt := congrArg Int32.toInt (uI_ne (by omega) (uI_ss _ _ _ _))
    exact hK _ (WM_uI (WM_uI hW (by first | exact okMo (by decide) (by decide) (by decide) (by decide) (by decide) | exact okMf (by decide) (by decide) (by decide) (by decide) (by decide) (by decide) (by decide) (by decide) | exact okM30 (by omega) | exact okM42 (by omega) | exact okM33 (by omega) | exact okM10 (by omega) | exact okM8 (by omega) | exact okM22 (by omega) | exact okM24 (by omega) | exact okM14 (by omega) | exact okMa31 (by omega) | exact okMa35 (by omega) | exact okMa36 (by omega) | exact okMa3 (by omega) | exact okMr (by omega) | (unfold okM; refine ⟨?_, ?_, ?_, ?_, ?_, ?_, ?_, ?_, ?_, ?_, ?_, ?_⟩ <;> intro h <;> omega))) (by first | exact okMo (by decide) (by decide) (by decide) (by decide) (by decide) | exact okMf (by decide) (by decide) (by decide) (by decide) (by decide) (by decide) (by decide) (by decide) | exact okM30 (by omega) | exact okM42 (by omega) | exact okM33 (by omega) | exact okM10 (by omega) | exact okM8 (by omega) | exact okM22 (by omega) | exact okM24 (by omega) | exact okM14 (by omega) | exact okMa31 (by omega) | exact okMa35 (by omega) | exact okMa36 (by omega) | exact okMa3 (by omega) | exact okMr (by omega) | (unfold okM; refine ⟨?_, ?_, ?_, ?_, ?_, ?_, ?_, ?_, ?_, ?_, ?_, ?_⟩ <;> intro h <;> omega))) (Fr_uI (Fr_uI Fr.rf (by omega)) (by omega)) ⟨by omega, by first | assumption | exact LG_push hL (by omega) (by omega) (by omega)⟩
theorem srX12_listFrom {G : jdG} {Z : jdL} {J : jdJ} {c : Int} {P : Int} {S : Int} {t : Nat} (ht : zModel Z t)  (hc : c ≤ 8) : ∀ d : Nat, ∀ (n : Nat) (I : jdI) (K : jdI → jdJ → Prop) (x1 : Int32) (x2 : Int32) (x3 : Int32), WM c t I → (0 ≤ x2.toInt) → ((I t 10).toInt = P) → ((I t 14).toInt = S) → (0 ≤ x3.toInt ∧ x3.toInt ≤ S) → ((I t 30).toInt + bi P S x2.toInt x3.toInt ≤ 70) → (x3.toInt = 0 ∨ ¬ x1.toInt = 0) → (LG t I) → 0 ≤ 8 - x2.toInt ∧ 8 - x2.toInt ≤ (d : Int) → (∀ (I2 : jdI), WM c t I2 → Fr (fun a k => (a = t ∧ k = 30) ∨ a = t + 30) I I2 → ((I2 t 30).toInt ≤ (I t 30).toInt + bi P S x2.toInt x3.toInt ∧ LG t I2) → K I2 J) → Cl G mX12_listFrom (n + 0 + d + 1) 0 0 [.ref (gb G + t), .int x1, .int x2, .int x3] Z I J (qv Z K) := by
  intro d
  induction d with
  | zero =>
    intro n
    exact sbX12_listFrom (n := n) (d := 0) ht hc (fun _ _ _ _ _ _ _ _ _ _ _ _ _ h _ => absurd h (by omega))
  | succ d ih =>
    intro n
    exact sbX12_listFrom (n := n + d + 1) (d := d + 1) ht hc (fun I K x1 x2 x3 hW hx2 hP hS hx3 hb hx1 hL h hK => by
      have e : n + d + 1 + 0 = n + 0 + d + 1 := by omega
      rw [e]
      exact ih n I K x1 x2 x3 hW hx2 hP hS hx3 hb hx1 hL ⟨h.1, by omega⟩ hK) |> (fun h => by
      have e : n + 0 + (d + 1) + 1 = n + d + 1 + 1 := by omega
      rw [e]
      exact h)
theorem sfX12_listFrom {G : jdG} {n : Nat} {Z : jdL} {J : jdJ} {K : jdI → jdJ → Prop} {c : Int} {P : Int} {S : Int} {I : jdI} {t : Nat} {x1 : Int32} {x2 : Int32} {x3 : Int32} (ht : zModel Z t)  (hc : c ≤ 8) (hW : WM c t I) (hx2 : 0 ≤ x2.toInt) (hP : (I t 10).toInt = P) (hS : (I t 14).toInt = S) (hx3 : 0 ≤ x3.toInt ∧ x3.toInt ≤ S) (hb : (I t 30).toInt + bi P S x2.toInt x3.toInt ≤ 70) (hx1 : x3.toInt = 0 ∨ ¬ x1.toInt = 0) (hL : LG t I) (hd : 0 ≤ 8 - x2.toInt ∧ 8 - x2.toInt ≤ 8) (hK : ∀ (I2 : jdI), WM c t I2 → Fr (fun a k => (a = t ∧ k = 30) ∨ a = t + 30) I I2 → ((I2 t 30).toInt ≤ (I t 30).toInt + bi P S x2.toInt x3.toInt ∧ LG t I2) → K I2 J) : Cl G mX12_listFrom (n + 9) 0 0 [.ref (gb G + t), .int x1, .int x2, .int x3] Z I J (qv Z K) :=
  srX12_listFrom ht hc 8 n I K x1 x2 x3 hW hx2 hP hS hx3 hb hx1 hL hd hK
theorem sfX12_listAll {G : jdG} {n : Nat} {Z : jdL} {J : jdJ} {K : jdI → jdJ → Prop} {c : Int} {I : jdI} {t : Nat} (ht : zModel Z t)  (hc : c ≤ 8) (hW : WM c t I)  (hK : ∀ (I2 : jdI), WM c t I2 → Fr (fun a k => (a = t ∧ k = 30) ∨ a = t + 30) I I2 → (LG t I2 ∧ (c ≤ 7 → (I2 t 30).toInt ≤ 35)) → K I2 J) : Cl G mX12_listAll (n + 10) 0 0 [.ref (gb G + t)] Z I J (qv Z K) := by
  refine eX12_listAll ht ?_
  have hwI := WM_f hW
  have hb70 := bi_70 (P := (I t 10).toInt) (S := (I t 14).toInt) (by omega) (by omega) (by omega) (by omega)
  have q0 : (0 : Int32).toInt = 0 := rfl
  have hz0 : ((uI I t 30 0) t 30).toInt = 0 := by rw [uI_ap, if_pos ⟨rfl, rfl⟩]; rfl
  have hz1 : ((uI I t 30 0) t 10).toInt = (I t 10).toInt := by rw [uI_ap, if_neg (by omega)]
  have hz2 : ((uI I t 30 0) t 14).toInt = (I t 14).toInt := by rw [uI_ap, if_neg (by omega)]
  have q1 : (0 : Int32).toInt = 0 := rfl
  have hr2 : (((uI I t 30 0)) t 10).toInt = ((I t 10)).toInt := congrArg Int32.toInt (uI_sk (by decide) rfl)
  have hr3 : (((uI I t 30 0)) t 14).toInt = ((I t 14)).toInt := congrArg Int32.toInt (uI_sk (by decide) rfl)
  have hr4 : (((uI I t 30 0)) t 30).toInt = ((0 : Int32)).toInt := congrArg Int32.toInt (uI_ss _ _ _ _)
  refine sfX12_listFrom ht hc (WM_uI hW (by first | exact okMo (by decide) (by decide) (by decide) (by decide) (by decide) | exact okMf (by decide) (by decide) (by decide) (by decide) (by decide) (by decide) (by decide) (by decide) | exact okM30 (by omega) | exact okM42 (by omega) | exact okM33 (by omega) | exact okM10 (by omega) | exact okM8 (by omega) | exact okM22 (by omega) | exact okM24 (by omega) | exact okM14 (by omega) | exact okMa31 (by omega) | exact okMa35 (by omega) | exact okMa36 (by omega) | exact okMa3 (by omega) | exact okMr (by omega) | (unfold okM; refine ⟨?_, ?_, ?_, ?_, ?_, ?_, ?_, ?_, ?_, ?_, ?_, ?_⟩ <;> intro h <;> omega))) (by omega) (P := (I t 10).toInt) hz1 (S := (I t 14).toInt) hz2 (by omega) (by rw [hz0, q0]; omega) (by omega) (LG_zero t I) ⟨by omega, by omega⟩ (fun I1 hWI1 hFI1 hp1 => ?_)
  have hwI1 := WM_f hWI1
  have hpl := hp1
  rw [hz0, q0] at hpl
  exact hK _ hWI1 (Fr.tr (Fr_uI Fr.rf (by omega)) hFI1 (by intro a k h; omega)) ⟨hpl.2, fun h => by have hb := bi_35 (P := (I t 10).toInt) (S := (I t 14).toInt) (by omega) (by omega) (by omega) (by omega); omega⟩
theorem sfX12_isGroup {G : jdG} {n : Nat} {Z : jdL} {J : jdJ} {K : Int32 → jdI → jdJ → Prop}  {I : jdI} {t : Nat} {x1 : Int32} (ht : zModel Z t)  (hW : WM 7 t I)  (hK : ∀ (v : Int32) (I2 : jdI), WM 7 t I2 → Fr (fun a k => a = t + 17) I I2 → K v I2 J) : Cl G mX12_isGroup (n + 2) 0 0 [.ref (gb G + t), .int x1] Z I J (qi Z K) := by
  refine eX12_isGroup ht ?_
  have hwI := WM_f hW
  have q1 := i32_lo x1
  refine sfX12_isSet ht hW  (fun v2  hp1 => ?_)
  refine ⟨fun hc2 => ?_, fun hc3 => ?_⟩
  · skip
    have q2 := i32_lo v2
    have q3 : (0 : Int32).toInt = 0 := rfl
    have hc2 : ¬ (v2).toInt = (0 : Int32).toInt := fun z => hc2 (Int32.toInt_inj.mp z)
    refine sfX12_isGroupNow ht hW  (fun v4  hp4 => ?_)
    refine ⟨fun hc5 => ?_, fun hc6 => ?_⟩
    · skip
      have q4 := i32_lo v4
      have hc5 := Int32.toInt_inj.mpr hc5
      exact hK _ _ hW Fr.rf
    · skip
      have q4 := i32_lo v4
      have hc6 : ¬ (v4).toInt = (0 : Int32).toInt := fun z => hc6 (Int32.toInt_inj.mp z)
      exact hK _ _ hW Fr.rf
  · skip
    have q2 := i32_lo v2
    have q3 : (0 : Int32).toInt = 0 := rfl
    have hc3 := Int32.toInt_inj.mpr hc3
    have q4 : (-2 : Int32).toInt = -2 := rfl
    refine sfX12_refuse ht (by decide) hW (by omega) (fun v6 I5 hWI5 hFI5 hp7 => ?_)
    have hwI5 := WM_f hWI5
    exact hK _ _ hWI5 (Fr.tr Fr.rf hFI5 (by intro a k h; omega))
theorem lX12_groupsOf_8 {G : jdG} {n : Nat} {Z : jdL} {J : jdJ} {rc rs : Nat} {K : Int32 → jdI → jdJ → Prop}  {I0 : jdI} {t : Nat} {x1 : Int32} (ht : zModel Z t)   (hK : ∀ (v : Int32) (I2 : jdI), WM 7 t I2 → Fr (fun a k => (a = t ∧ k = 30) ∨ a = t + 30) I0 I2 → K v I2 J) : ∀ m : Nat, ∀ (I : jdI) (x2 : Int32) (x3 : Int32), WM 7 t I → Fr (fun a k => (a = t ∧ k = 30) ∨ a = t + 30) I0 I → (0 ≤ x3.toInt ∧ x3.toInt ≤ 70) → (70) - x3.toInt < (m : Int) → Jd G mX12_groupsOf (jdFm G (qi Z K)) (n + 11) rc rs 8 [(0, .ref (gb G + t)), (1, .int x1), (2, .int x2), (3, .int x3)] [] Z I J := by
  intro m
  induction m with
  | zero =>
    intro I x2 x3 hW hF hx3 hm
    have hwI := WM_f hW
    omega
  | succ m ih =>
    intro I x2 x3 hW hF hx3 hm
    have hwI := WM_f hW
    refine rX12_groupsOf_8 ht ?_
    refine ⟨fun hc1 => ?_, fun hc2 => ?_⟩
    · skip
      have q1 := i32_lo (I t 30)
      have q2 := i32_lo x3
      have hc1 := Int32.le_iff_toInt_le.mp hc1
      exact hK _ _ hW hF
    · skip
      have q1 := i32_lo (I t 30)
      have q2 := i32_lo x3
      have hc2 := mt Int32.le_iff_toInt_le.mpr hc2
      refine ⟨vp_of (by omega) (by omega), ?_⟩
      refine ⟨fun hc3 => ?_, fun hc4 => ?_⟩
      · skip
        have q3 := i32_lo x1
        have q4 : (-1 : Int32).toInt = -1 := rfl
        have q5 : (0 : Int32).toInt = 0 := rfl
        have hc3 : ¬ (((I (t + 30) (Int32.toNatClampNeg x3)) &&& (x1 ^^^ (-1)))).toInt = (0 : Int32).toInt := fun z => hc3 (Int32.toInt_inj.mp z)
        have q6 : (1 : Int32).toInt = 1 := rfl
        have q7 := i32_add x3 1 (by omega) (by omega)
        exact ih _ (x2 + 0) (x3 + 1) hW hF (by omega) (by omega)
      · skip
        have q3 := i32_lo x1
        have q4 : (-1 : Int32).toInt = -1 := rfl
        have q5 : (0 : Int32).toInt = 0 := rfl
        have hc4 := Int32.toInt_inj.mpr hc4
        have q6 : (1 : Int32).toInt = 1 := rfl
        have q7 := i32_add x3 1 (by omega) (by omega)
        exact ih _ (x2 + 1) (x3 + 1) hW hF (by omega) (by omega)
theorem sfX12_groupsOf {G : jdG} {n : Nat} {Z : jdL} {J : jdJ} {K : Int32 → jdI → jdJ → Prop}  {I : jdI} {t : Nat} {x1 : Int32} (ht : zModel Z t)  (hW : WM 7 t I)  (hK : ∀ (v : Int32) (I2 : jdI), WM 7 t I2 → Fr (fun a k => (a = t ∧ k = 30) ∨ a = t + 30) I I2 → K v I2 J) : Cl G mX12_groupsOf (n + 11) 0 0 [.ref (gb G + t), .int x1] Z I J (qi Z K) := by
  refine eX12_groupsOf ht ?_
  have hwI := WM_f hW
  refine sfX12_listAll ht (by decide) hW  (fun I1 hWI1 hFI1 hp1 => ?_)
  have hwI1 := WM_f hWI1
  have q1 : (0 : Int32).toInt = 0 := rfl
  exact lX12_groupsOf_8 ht   hK  (((70) - (0 : Int32).toInt).toNat + 1) _ 0 0 hWI1 (Fr.tr Fr.rf hFI1 (by intro a k h; omega)) (by omega) (by omega)
theorem sfX12_groups {G : jdG} {n : Nat} {Z : jdL} {J : jdJ} {K : Int32 → jdI → jdJ → Prop}  {I : jdI} {t : Nat} {x1 : Int32} (ht : zModel Z t)  (hW : WM 7 t I)  (hK : ∀ (v : Int32) (I2 : jdI), WM 7 t I2 → Fr (fun a k => (a = t ∧ k = 30) ∨ a = t + 30 ∨ a = t + 17) I I2 → K v I2 J) : Cl G mX12_groups (n + 12) 0 0 [.ref (gb G + t), .int x1] Z I J (qi Z K) := by
  refine eX12_groups ht ?_
  have hwI := WM_f hW
  have q1 := i32_lo x1
  refine sfX12_isSet ht hW  (fun v2  hp1 => ?_)
  refine ⟨fun hc2 => ?_, fun hc3 => ?_⟩
  · skip
    have q2 := i32_lo v2
    have q3 : (0 : Int32).toInt = 0 := rfl
    have hc2 := Int32.toInt_inj.mpr hc2
    have q4 : (-2 : Int32).toInt = -2 := rfl
    refine sfX12_refuse ht (by decide) hW (by omega) (fun v4 I3 hWI3 hFI3 hp4 => ?_)
    have hwI3 := WM_f hWI3
    exact hK _ _ hWI3 (Fr.tr Fr.rf hFI3 (by intro a k h; omega))
  · skip
    have q2 := i32_lo v2
    have q3 : (0 : Int32).toInt = 0 := rfl
    have hc3 : ¬ (v2).toInt = (0 : Int32).toInt := fun z => hc3 (Int32.toInt_inj.mp z)
    refine sfX12_groupsOf ht hW  (fun v6 I5 hWI5 hFI5 => ?_)
    have hwI5 := WM_f hWI5
    exact hK _ _ hWI5 (Fr.tr Fr.rf hFI5 (by intro a k h; omega))
theorem lX12_firstIn_2 {G : jdG} {n : Nat} {Z : jdL} {J : jdJ} {rc rs : Nat} {K : Int32 → jdI → jdJ → Prop}  {I : jdI} {t : Nat} {x1 : Int32} (ht : zModel Z t)  (hW : WM 7 t I)  (hK : ∀ (v : Int32), (v.toInt = 0 ∨ (v &&& (x1 ^^^ (-1))).toInt = 0) → K v I J) : ∀ m : Nat, ∀ (x2 : Int32), (0 ≤ x2.toInt ∧ x2.toInt ≤ 70) → (70) - x2.toInt < (m : Int) → Jd G mX12_firstIn (jdFm G (qi Z K)) n rc rs 2 [(0, .ref (gb G + t)), (1, .int x1), (2, .int x2)] [] Z I J := by
  intro m
  induction m with
  | zero =>
    intro x2 hx2 hm
    have hwI := WM_f hW
    omega
  | succ m ih =>
    intro x2 hx2 hm
    have hwI := WM_f hW
    refine rX12_firstIn_2 ht ?_
    refine ⟨fun hc1 => ?_, fun hc2 => ?_⟩
    · skip
      have q1 := i32_lo (I t 30)
      have q2 := i32_lo x2
      have hc1 := Int32.le_iff_toInt_le.mp hc1
      exact hK _  (by first | exact Or.inl rfl | (right; assumption) | (right; exact (by assumption : _ = (0 : Int32).toInt)))
    · skip
      have q1 := i32_lo (I t 30)
      have q2 := i32_lo x2
      have hc2 := mt Int32.le_iff_toInt_le.mpr hc2
      refine ⟨vp_of (by omega) (by omega), ?_⟩
      refine ⟨fun hc3 => ?_, fun hc4 => ?_⟩
      · skip
        have q3 := i32_lo x1
        have q4 : (-1 : Int32).toInt = -1 := rfl
        have q5 : (0 : Int32).toInt = 0 := rfl
        have hc3 : ¬ (((I (t + 30) (Int32.toNatClampNeg x2)) &&& (x1 ^^^ (-1)))).toInt = (0 : Int32).toInt := fun z => hc3 (Int32.toInt_inj.mp z)
        have q6 : (1 : Int32).toInt = 1 := rfl
        have q7 := i32_add x2 1 (by omega) (by omega)
        exact ih (x2 + 1) (by omega) (by omega)
      · skip
        have q3 := i32_lo x1
        have q4 : (-1 : Int32).toInt = -1 := rfl
        have q5 : (0 : Int32).toInt = 0 := rfl
        have hc4 := Int32.toInt_inj.mpr hc4
        refine ⟨vp_of (by omega) (by omega), ?_⟩
        exact hK _  (by first | exact Or.inl rfl | (right; assumption) | (right; exact (by assumption : _ = (0 : Int32).toInt)))
theorem sfX12_firstIn {G : jdG} {n : Nat} {Z : jdL} {J : jdJ} {K : Int32 → jdI → jdJ → Prop}  {I : jdI} {t : Nat} {x1 : Int32} (ht : zModel Z t)  (hW : WM 7 t I)  (hK : ∀ (v : Int32), (v.toInt = 0 ∨ (v &&& (x1 ^^^ (-1))).toInt = 0) → K v I J) : Cl G mX12_firstIn n 0 0 [.ref (gb G + t), .int x1] Z I J (qi Z K) := by
  refine eX12_firstIn ht ?_
  have hwI := WM_f hW
  have q1 : (0 : Int32).toInt = 0 := rfl
  exact lX12_firstIn_2 ht  hW  hK  (((70) - (0 : Int32).toInt).toNat + 1) 0 (by omega) (by omega)
theorem sfX12_firstOf {G : jdG} {n : Nat} {Z : jdL} {J : jdJ} {K : Int32 → jdI → jdJ → Prop}  {I : jdI} {t : Nat} {x1 : Int32} (ht : zModel Z t)  (hW : WM 7 t I)  (hK : ∀ (v : Int32) (I2 : jdI), WM 7 t I2 → Fr (fun a k => (a = t ∧ k = 30) ∨ a = t + 30 ∨ a = t + 17) I I2 → K v I2 J) : Cl G mX12_firstOf (n + 11) 0 0 [.ref (gb G + t), .int x1] Z I J (qi Z K) := by
  refine eX12_firstOf ht ?_
  have hwI := WM_f hW
  have q1 := i32_lo x1
  refine sfX12_isSet ht hW  (fun v2  hp1 => ?_)
  refine ⟨fun hc2 => ?_, fun hc3 => ?_⟩
  · skip
    have q2 := i32_lo v2
    have q3 : (0 : Int32).toInt = 0 := rfl
    have hc2 : ¬ (v2).toInt = (0 : Int32).toInt := fun z => hc2 (Int32.toInt_inj.mp z)
    refine sfX12_listAll ht (by decide) hW  (fun I3 hWI3 hFI3 hp4 => ?_)
    have hwI3 := WM_f hWI3
    refine sfX12_firstIn ht hWI3  (fun v6  hp5 => ?_)
    exact hK _ _ hWI3 (Fr.tr Fr.rf hFI3 (by intro a k h; omega))
  · skip
    have q2 := i32_lo v2
    have q3 : (0 : Int32).toInt = 0 := rfl
    have hc3 := Int32.toInt_inj.mpr hc3
    have q4 : (-2 : Int32).toInt = -2 := rfl
    refine sfX12_refuse ht (by decide) hW (by omega) (fun v8 I7 hWI7 hFI7 hp6 => ?_)
    have hwI7 := WM_f hWI7
    exact hK _ _ hWI7 (Fr.tr Fr.rf hFI7 (by intro a k h; omega))
theorem lX12_mostIn_4 {G : jdG} {n : Nat} {Z : jdL} {J : jdJ} {rc rs : Nat} {K : Int32 → jdI → jdJ → Prop} {c : Int} {I : jdI} {t : Nat} {x1 : Int32} (ht : zModel Z t)  (hc : c ≤ 8) (hW : WM c t I) (hL : LG t I) (hK : ∀ (v : Int32), K v I J) {d : Nat} (hR : ∀ (I : jdI) (K : Int32 → jdI → jdJ → Prop) (x1 : Int32), WM c t I → (LG t I) → 0 ≤ x1.toInt ∧ x1.toInt < (d : Int) → (∀ (v : Int32), K v I J) → Cl G mX12_mostIn (n + 0) 0 0 [.ref (gb G + t), .int x1] Z I J (qi Z K)) : ∀ m : Nat, ∀ (x2 : Int32) (x3 : Int32), (0 ≤ x3.toInt ∧ x3.toInt ≤ 70) → (0 ≤ x1.toInt ∧ x1.toInt ≤ (d : Int)) → (70) - x3.toInt < (m : Int) → Jd G mX12_mostIn (jdFm G (qi Z K)) (n + 1) rc rs 4 [(0, .ref (gb G + t)), (1, .int x1), (2, .int x2), (3, .int x3)] [] Z I J := by
  intro m
  induction m with
  | zero =>
    intro x2 x3 hx3 hd hm
    have hwI := WM_f hW
    omega
  | succ m ih =>
    intro x2 x3 hx3 hd hm
    have hwI := WM_f hW
    refine rX12_mostIn_4 ht ?_
    refine ⟨fun hc1 => ?_, fun hc2 => ?_⟩
    · skip
      have q1 := i32_lo (I t 30)
      have q2 := i32_lo x3
      have hc1 := Int32.le_iff_toInt_le.mp hc1
      first | have hal := and_less (x := x1) (g := I (t + 30) (Int32.toNatClampNeg x3)) (by omega) (hL _ (by rw [tn_eq]; omega)) (by assumption) | skip
      exact hK _ 
    · skip
      have q1 := i32_lo (I t 30)
      have q2 := i32_lo x3
      have hc2 := mt Int32.le_iff_toInt_le.mpr hc2
      first | have hal := and_less (x := x1) (g := I (t + 30) (Int32.toNatClampNeg x3)) (by omega) (hL _ (by rw [tn_eq]; omega)) (by assumption) | skip
      refine ⟨vp_of (by omega) (by omega), ?_⟩
      refine ⟨fun hc3 => ?_, fun hc4 => ?_⟩
      · skip
        have q3 := i32_lo x1
        have q4 : (-1 : Int32).toInt = -1 := rfl
        have q5 : (0 : Int32).toInt = 0 := rfl
        have hc3 : ¬ (((I (t + 30) (Int32.toNatClampNeg x3)) &&& (x1 ^^^ (-1)))).toInt = (0 : Int32).toInt := fun z => hc3 (Int32.toInt_inj.mp z)
        first | have hal := and_less (x := x1) (g := I (t + 30) (Int32.toNatClampNeg x3)) (by omega) (hL _ (by rw [tn_eq]; omega)) (by assumption) | skip
        have q6 : (1 : Int32).toInt = 1 := rfl
        have q7 := i32_add x3 1 (by omega) (by omega)
        exact ih x2 (x3 + 1) (by omega) (by omega) (by omega)
      · skip
        have q3 := i32_lo x1
        have q4 : (-1 : Int32).toInt = -1 := rfl
        have q5 : (0 : Int32).toInt = 0 := rfl
        have hc4 := Int32.toInt_inj.mpr hc4
        first | have hal := and_less (x := x1) (g := I (t + 30) (Int32.toNatClampNeg x3)) (by omega) (hL _ (by rw [tn_eq]; omega)) (by assumption) | skip
        refine ⟨vp_of (by omega) (by omega), ?_⟩
        refine hR _ _ _ hW (by assumption) ⟨by omega, by omega⟩ (fun v4  => ?_)
        first | have hal := and_less (x := x1) (g := I (t + 30) (Int32.toNatClampNeg x3)) (by omega) (hL _ (by rw [tn_eq]; omega)) (by assumption) | skip
        refine ⟨fun hc6 => ?_, fun hc7 => ?_⟩
        · skip
          have q6 : (1 : Int32).toInt = 1 := rfl
          have q7 := i32_lo v4
          have q8 := i32_addI 1 v4
          have q9 := i32_lo x2
          have hc6 := Int32.le_iff_toInt_le.mp hc6
          first | have hal := and_less (x := x1) (g := I (t + 30) (Int32.toNatClampNeg x3)) (by omega) (hL _ (by rw [tn_eq]; omega)) (by assumption) | skip
          have q10 := i32_add x3 1 (by omega) (by omega)
          exact ih x2 (x3 + 1) (by omega) (by omega) (by omega)
        · skip
          have q6 : (1 : Int32).toInt = 1 := rfl
          have q7 := i32_lo v4
          have q8 := i32_addI 1 v4
          have q9 := i32_lo x2
          have hc7 := mt Int32.le_iff_toInt_le.mpr hc7
          first | have hal := and_less (x := x1) (g := I (t + 30) (Int32.toNatClampNeg x3)) (by omega) (hL _ (by rw [tn_eq]; omega)) (by assumption) | skip
          have q10 := i32_add x3 1 (by omega) (by omega)
          exact ih (1 + v4) (x3 + 1) (by omega) (by omega) (by omega)
theorem sbX12_mostIn {G : jdG} {n : Nat} {Z : jdL} {J : jdJ} {d : Nat} {c : Int} {t : Nat} (ht : zModel Z t)  (hc : c ≤ 8) (hR : ∀ (I : jdI) (K : Int32 → jdI → jdJ → Prop) (x1 : Int32), WM c t I → (LG t I) → 0 ≤ x1.toInt ∧ x1.toInt < (d : Int) → (∀ (v : Int32), K v I J) → Cl G mX12_mostIn (n + 0) 0 0 [.ref (gb G + t), .int x1] Z I J (qi Z K)) (I : jdI) (K : Int32 → jdI → jdJ → Prop) (x1 : Int32) (hW : WM c t I) (hL : LG t I) (hd : 0 ≤ x1.toInt ∧ x1.toInt ≤ (d : Int)) (hK : ∀ (v : Int32), K v I J) : Cl G mX12_mostIn (n + 1) 0 0 [.ref (gb G + t), .int x1] Z I J (qi Z K) := by
  refine eX12_mostIn ht ?_
  have hwI := WM_f hW
  have q1 : (0 : Int32).toInt = 0 := rfl
  exact lX12_mostIn_4 ht  hc hW hL hK hR  (((70) - (0 : Int32).toInt).toNat + 1) 0 0 (by omega) (by omega) (by omega)
theorem srX12_mostIn {G : jdG} {Z : jdL} {J : jdJ} {c : Int} {t : Nat} (ht : zModel Z t)  (hc : c ≤ 8) : ∀ d : Nat, ∀ (n : Nat) (I : jdI) (K : Int32 → jdI → jdJ → Prop) (x1 : Int32), WM c t I → (LG t I) → 0 ≤ x1.toInt ∧ x1.toInt ≤ (d : Int) → (∀ (v : Int32), K v I J) → Cl G mX12_mostIn (n + 0 + d + 1) 0 0 [.ref (gb G + t), .int x1] Z I J (qi Z K) := by
  intro d
  induction d with
  | zero =>
    intro n
    exact sbX12_mostIn (n := n) (d := 0) ht hc (fun _ _ _ _ _ h _ => absurd h (by omega))
  | succ d ih =>
    intro n
    exact sbX12_mostIn (n := n + d + 1) (d := d + 1) ht hc (fun I K x1 hW hL h hK => by
      have e : n + d + 1 + 0 = n + 0 + d + 1 := by omega
      rw [e]
      exact ih n I K x1 hW hL ⟨h.1, by omega⟩ hK) |> (fun h => by
      have e : n + 0 + (d + 1) + 1 = n + d + 1 + 1 := by omega
      rw [e]
      exact h)
theorem sfX12_mostIn {G : jdG} {n : Nat} {Z : jdL} {J : jdJ} {K : Int32 → jdI → jdJ → Prop} {c : Int} {I : jdI} {t : Nat} {x1 : Int32} (ht : zModel Z t)  (hc : c ≤ 8) (hW : WM c t I) (hL : LG t I) (hd : 0 ≤ x1.toInt ∧ x1.toInt ≤ 255) (hK : ∀ (v : Int32), K v I J) : Cl G mX12_mostIn (n + 256) 0 0 [.ref (gb G + t), .int x1] Z I J (qi Z K) :=
  srX12_mostIn ht hc 255 n I K x1 hW hL hd hK
theorem sfX12_most {G : jdG} {n : Nat} {Z : jdL} {J : jdJ} {K : Int32 → jdI → jdJ → Prop}  {I : jdI} {t : Nat} {x1 : Int32} (ht : zModel Z t)  (hW : WM 7 t I)  (hK : ∀ (v : Int32) (I2 : jdI), WM 7 t I2 → Fr (fun a k => (a = t ∧ k = 30) ∨ a = t + 30 ∨ a = t + 17) I I2 → K v I2 J) : Cl G mX12_most (n + 257) 0 0 [.ref (gb G + t), .int x1] Z I J (qi Z K) := by
  refine eX12_most ht ?_
  have hwI := WM_f hW
  have q1 := i32_lo x1
  refine sfX12_isSet ht hW  (fun v2  hp1 => ?_)
  refine ⟨fun hc2 => ?_, fun hc3 => ?_⟩
  · skip
    have q2 := i32_lo v2
    have q3 : (0 : Int32).toInt = 0 := rfl
    have hc2 : ¬ (v2).toInt = (0 : Int32).toInt := fun z => hc2 (Int32.toInt_inj.mp z)
    refine sfX12_listAll ht (by decide) hW  (fun I3 hWI3 hFI3 hp4 => ?_)
    have hwI3 := WM_f hWI3
    have hLn := hp4.1
    refine sfX12_mostIn ht (by decide) hWI3 (by assumption) ⟨by omega, by omega⟩ (fun v6  => ?_)
    exact hK _ _ hWI3 (Fr.tr Fr.rf hFI3 (by intro a k h; omega))
  · skip
    have q2 := i32_lo v2
    have q3 : (0 : Int32).toInt = 0 := rfl
    have hc3 := Int32.toInt_inj.mpr hc3
    have q4 : (-2 : Int32).toInt = -2 := rfl
    refine sfX12_refuse ht (by decide) hW (by omega) (fun v8 I7 hWI7 hFI7 hp6 => ?_)
    have hwI7 := WM_f hWI7
    exact hK _ _ hWI7 (Fr.tr Fr.rf hFI7 (by intro a k h; omega))
theorem lX12_bestIn_8 {G : jdG} {n : Nat} {Z : jdL} {J : jdJ} {rc rs : Nat} {K : Int32 → jdI → jdJ → Prop}  {I : jdI} {t : Nat} {x1 : Int32} (ht : zModel Z t)  (hW : WM 7 t I) (hL : LG t I) (hx1 : 0 ≤ x1.toInt ∧ x1.toInt ≤ 255) (hK : ∀ (v : Int32), (v.toInt = 0 ∨ (v &&& (x1 ^^^ (-1))).toInt = 0) → K v I J) : ∀ m : Nat, ∀ (x2 : Int32) (x3 : Int32), (0 ≤ x3.toInt ∧ x3.toInt ≤ 70) → (70) - x3.toInt < (m : Int) → Jd G mX12_bestIn (jdFm G (qi Z K)) (n + 257) rc rs 8 [(0, .ref (gb G + t)), (1, .int x1), (2, .int x2), (3, .int x3)] [] Z I J := by
  intro m
  induction m with
  | zero =>
    intro x2 x3 hx3 hm
    have hwI := WM_f hW
    omega
  | succ m ih =>
    intro x2 x3 hx3 hm
    have hwI := WM_f hW
    refine rX12_bestIn_8 ht ?_
    refine ⟨fun hc1 => ?_, fun hc2 => ?_⟩
    · skip
      have q1 := i32_lo (I t 30)
      have q2 := i32_lo x3
      have hc1 := Int32.le_iff_toInt_le.mp hc1
      first | have hal := and_less (x := x1) (g := I (t + 30) (Int32.toNatClampNeg x3)) (by omega) (hL _ (by rw [tn_eq]; omega)) (by assumption) | skip
      exact hK _  (by first | exact Or.inl rfl | (right; assumption) | (right; exact (by assumption : _ = (0 : Int32).toInt)))
    · skip
      have q1 := i32_lo (I t 30)
      have q2 := i32_lo x3
      have hc2 := mt Int32.le_iff_toInt_le.mpr hc2
      first | have hal := and_less (x := x1) (g := I (t + 30) (Int32.toNatClampNeg x3)) (by omega) (hL _ (by rw [tn_eq]; omega)) (by assumption) | skip
      refine ⟨vp_of (by omega) (by omega), ?_⟩
      refine ⟨fun hc3 => ?_, fun hc4 => ?_⟩
      · skip
        have q3 := i32_lo x1
        have q4 : (-1 : Int32).toInt = -1 := rfl
        have q5 : (0 : Int32).toInt = 0 := rfl
        have hc3 : ¬ (((I (t + 30) (Int32.toNatClampNeg x3)) &&& (x1 ^^^ (-1)))).toInt = (0 : Int32).toInt := fun z => hc3 (Int32.toInt_inj.mp z)
        first | have hal := and_less (x := x1) (g := I (t + 30) (Int32.toNatClampNeg x3)) (by omega) (hL _ (by rw [tn_eq]; omega)) (by assumption) | skip
        have q6 : (1 : Int32).toInt = 1 := rfl
        have q7 := i32_add x3 1 (by omega) (by omega)
        exact ih x2 (x3 + 1) (by omega) (by omega)
      · skip
        have q3 := i32_lo x1
        have q4 : (-1 : Int32).toInt = -1 := rfl
        have q5 : (0 : Int32).toInt = 0 := rfl
        have hc4 := Int32.toInt_inj.mpr hc4
        first | have hal := and_less (x := x1) (g := I (t + 30) (Int32.toNatClampNeg x3)) (by omega) (hL _ (by rw [tn_eq]; omega)) (by assumption) | skip
        refine ⟨vp_of (by omega) (by omega), ?_⟩
        refine sfX12_mostIn ht (by decide) hW (by assumption) ⟨by omega, by omega⟩ (fun v4  => ?_)
        first | have hal := and_less (x := x1) (g := I (t + 30) (Int32.toNatClampNeg x3)) (by omega) (hL _ (by rw [tn_eq]; omega)) (by assumption) | skip
        refine ⟨fun hc6 => ?_, fun hc7 => ?_⟩
        · skip
          have q6 := i32_lo v4
          have q7 := i32_lo x2
          have q8 : (1 : Int32).toInt = 1 := rfl
          have q9 := i32_subI x2 1
          have hc6 : ¬ (v4).toInt = ((x2 - 1)).toInt := fun z => hc6 (Int32.toInt_inj.mp z)
          first | have hal := and_less (x := x1) (g := I (t + 30) (Int32.toNatClampNeg x3)) (by omega) (hL _ (by rw [tn_eq]; omega)) (by assumption) | skip
          have q10 := i32_add x3 1 (by omega) (by omega)
          exact ih x2 (x3 + 1) (by omega) (by omega)
        · skip
          have q6 := i32_lo v4
          have q7 := i32_lo x2
          have q8 : (1 : Int32).toInt = 1 := rfl
          have q9 := i32_subI x2 1
          have hc7 := Int32.toInt_inj.mpr hc7
          first | have hal := and_less (x := x1) (g := I (t + 30) (Int32.toNatClampNeg x3)) (by omega) (hL _ (by rw [tn_eq]; omega)) (by assumption) | skip
          refine ⟨vp_of (by omega) (by omega), ?_⟩
          exact hK _  (by first | exact Or.inl rfl | (right; assumption) | (right; exact (by assumption : _ = (0 : Int32).toInt)))
theorem sfX12_bestIn {G : jdG} {n : Nat} {Z : jdL} {J : jdJ} {K : Int32 → jdI → jdJ → Prop}  {I : jdI} {t : Nat} {x1 : Int32} (ht : zModel Z t)  (hW : WM 7 t I) (hL : LG t I) (hx1 : 0 ≤ x1.toInt ∧ x1.toInt ≤ 255) (hK : ∀ (v : Int32), (v.toInt = 0 ∨ (v &&& (x1 ^^^ (-1))).toInt = 0) → K v I J) : Cl G mX12_bestIn (n + 257) 0 0 [.ref (gb G + t), .int x1] Z I J (qi Z K) := by
  refine eX12_bestIn ht ?_
  have hwI := WM_f hW
  have q1 := i32_lo x1
  refine sfX12_mostIn ht (by decide) hW (by assumption) ⟨by omega, by omega⟩ (fun v2  => ?_)
  first | have hal := and_less (x := x1) (g := I (t + 30) (Int32.toNatClampNeg x3)) (by omega) (hL _ (by rw [tn_eq]; omega)) (by assumption) | skip
  have q2 : (0 : Int32).toInt = 0 := rfl
  exact lX12_bestIn_8 ht  hW hL hx1 hK  (((70) - (0 : Int32).toInt).toNat + 1) v2 0 (by omega) (by omega)
theorem lX12_costOf_4 {G : jdG} {n : Nat} {Z : jdL} {J : jdJ} {rc rs : Nat} {K : Int32 → jdI → jdJ → Prop}  {I : jdI} {t : Nat} {x1 : Int32} (ht : zModel Z t)  (hW : WM 7 t I)  (hK : ∀ (v : Int32), K v I J) : ∀ m : Nat, ∀ (x2 : Int32) (x3 : Int32), (0 ≤ x3.toInt ∧ x3.toInt ≤ 7) → (7) - x3.toInt < (m : Int) → Jd G mX12_costOf (jdFm G (qi Z K)) (n + 1) rc rs 4 [(0, .ref (gb G + t)), (1, .int x1), (2, .int x2), (3, .int x3)] [] Z I J := by
  intro m
  induction m with
  | zero =>
    intro x2 x3 hx3 hm
    have hwI := WM_f hW
    omega
  | succ m ih =>
    intro x2 x3 hx3 hm
    have hwI := WM_f hW
    refine rX12_costOf_4 ht ?_
    refine ⟨fun hc1 => ?_, fun hc2 => ?_⟩
    · skip
      have q1 := i32_lo (I t 10)
      have q2 := i32_lo x3
      have hc1 := Int32.le_iff_toInt_le.mp hc1
      exact hK _ 
    · skip
      have q1 := i32_lo (I t 10)
      have q2 := i32_lo x3
      have hc2 := mt Int32.le_iff_toInt_le.mpr hc2
      have q3 := i32_lo x1
      refine sfX12_has  trivial  (fun v2  hp3 => ?_)
      refine ⟨fun hc4 => ?_, fun hc5 => ?_⟩
      · skip
        have q4 := i32_lo v2
        have q5 : (0 : Int32).toInt = 0 := rfl
        have hc4 := Int32.toInt_inj.mpr hc4
        have q6 : (1 : Int32).toInt = 1 := rfl
        have q7 := i32_add x3 1 (by omega) (by omega)
        exact ih (x2 + 0) (x3 + 1) (by omega) (by omega)
      · skip
        have q4 := i32_lo v2
        have q5 : (0 : Int32).toInt = 0 := rfl
        have hc5 : ¬ (v2).toInt = (0 : Int32).toInt := fun z => hc5 (Int32.toInt_inj.mp z)
        refine ⟨vp_of (by omega) (by omega), ?_⟩
        have q6 : (1 : Int32).toInt = 1 := rfl
        have q7 := i32_add x3 1 (by omega) (by omega)
        exact ih (x2 + (I (t + 19) (Int32.toNatClampNeg x3))) (x3 + 1) (by omega) (by omega)
theorem sfX12_costOf {G : jdG} {n : Nat} {Z : jdL} {J : jdJ} {K : Int32 → jdI → jdJ → Prop}  {I : jdI} {t : Nat} {x1 : Int32} (ht : zModel Z t)  (hW : WM 7 t I)  (hK : ∀ (v : Int32), K v I J) : Cl G mX12_costOf (n + 1) 0 0 [.ref (gb G + t), .int x1] Z I J (qi Z K) := by
  refine eX12_costOf ht ?_
  have hwI := WM_f hW
  have q1 : (0 : Int32).toInt = 0 := rfl
  exact lX12_costOf_4 ht  hW  hK  (((7) - (0 : Int32).toInt).toNat + 1) 0 0 (by omega) (by omega)
theorem lX12_meetsOf_4 {G : jdG} {n : Nat} {Z : jdL} {J : jdJ} {rc rs : Nat} {K : Int32 → jdI → jdJ → Prop}  {I : jdI} {t : Nat} {x1 : Int32} (ht : zModel Z t)  (hW : WM 7 t I)  (hK : ∀ (v : Int32), K v I J) : ∀ m : Nat, ∀ (x2 : Int32) (x3 : Int32), (0 ≤ x3.toInt ∧ x3.toInt ≤ 7) → (7) - x3.toInt < (m : Int) → Jd G mX12_meetsOf (jdFm G (qi Z K)) (n + 1) rc rs 4 [(0, .ref (gb G + t)), (1, .int x1), (2, .int x2), (3, .int x3)] [] Z I J := by
  intro m
  induction m with
  | zero =>
    intro x2 x3 hx3 hm
    have hwI := WM_f hW
    omega
  | succ m ih =>
    intro x2 x3 hx3 hm
    have hwI := WM_f hW
    refine rX12_meetsOf_4 ht ?_
    refine ⟨fun hc1 => ?_, fun hc2 => ?_⟩
    · skip
      have q1 := i32_lo (I t 10)
      have q2 := i32_lo x3
      have hc1 := Int32.le_iff_toInt_le.mp hc1
      exact hK _ 
    · skip
      have q1 := i32_lo (I t 10)
      have q2 := i32_lo x3
      have hc2 := mt Int32.le_iff_toInt_le.mpr hc2
      have q3 := i32_lo x1
      refine sfX12_has  trivial  (fun v2  hp3 => ?_)
      refine ⟨fun hc4 => ?_, fun hc5 => ?_⟩
      · skip
        have q4 := i32_lo v2
        have q5 : (0 : Int32).toInt = 0 := rfl
        have hc4 := Int32.toInt_inj.mpr hc4
        have q6 : (1 : Int32).toInt = 1 := rfl
        have q7 := i32_add x3 1 (by omega) (by omega)
        exact ih (x2 + 0) (x3 + 1) (by omega) (by omega)
      · skip
        have q4 := i32_lo v2
        have q5 : (0 : Int32).toInt = 0 := rfl
        have hc5 : ¬ (v2).toInt = (0 : Int32).toInt := fun z => hc5 (Int32.toInt_inj.mp z)
        refine sfX12_strangersOf ht hW (by omega) (fun v4  => ?_)
        have q6 := i32_lo v4
        refine sfX12_bits  trivial  (fun v6  hp7 => ?_)
        have q7 : (1 : Int32).toInt = 1 := rfl
        have q8 := i32_add x3 1 (by omega) (by omega)
        exact ih (x2 + v6) (x3 + 1) (by omega) (by omega)
theorem sfX12_meetsOf {G : jdG} {n : Nat} {Z : jdL} {J : jdJ} {K : Int32 → jdI → jdJ → Prop}  {I : jdI} {t : Nat} {x1 : Int32} (ht : zModel Z t)  (hW : WM 7 t I)  (hK : ∀ (v : Int32), K v I J) : Cl G mX12_meetsOf (n + 1) 0 0 [.ref (gb G + t), .int x1] Z I J (qi Z K) := by
  refine eX12_meetsOf ht ?_
  have hwI := WM_f hW
  have q1 : (0 : Int32).toInt = 0 := rfl
  exact lX12_meetsOf_4 ht  hW  hK  (((7) - (0 : Int32).toInt).toNat + 1) 0 0 (by omega) (by omega)
theorem lX12_sentBy_62 {G : jdG} {n : Nat} {Z : jdL} {J : jdJ} {rc rs : Nat} {K : Int32 → jdI → jdJ → Prop}  {I0 : jdI} {t : Nat} {x1 : Int32} {x2 : Int32} {x3 : Int32} {x4 : Int32} (ht : zModel Z t)  (hx3 : 0 ≤ x3.toInt ∧ x3.toInt ≤ 255) (hK : ∀ (v : Int32) (I2 : jdI), WM 7 t I2 → Fr (fun a k => (a = t ∧ k = 30) ∨ a = t + 30) I0 I2 → (v.toInt = 0 ∨ (v &&& (x3 ^^^ (-1))).toInt = 0) → K v I2 J) : ∀ m : Nat, ∀ (I : jdI) (x5 : Int32) (x6 : Int32), WM 7 t I → Fr (fun a k => (a = t ∧ k = 30) ∨ a = t + 30) I0 I → (0 ≤ x6.toInt ∧ x6.toInt ≤ 70) → (x5.toInt = 0 ∨ (x5 &&& (x3 ^^^ (-1))).toInt = 0) → (70) - x6.toInt < (m : Int) → Jd G mX12_sentBy (jdFm G (qi Z K)) (n + 258) rc rs 62 [(0, .ref (gb G + t)), (1, .int x1), (2, .int x2), (3, .int x3), (4, .int x4), (5, .int x5), (6, .int x6)] [] Z I J := by
  intro m
  induction m with
  | zero =>
    intro I x5 x6 hW hF hx6 hg hm
    have hwI := WM_f hW
    omega
  | succ m ih =>
    intro I x5 x6 hW hF hx6 hg hm
    have hwI := WM_f hW
    refine rX12_sentBy_62 ht ?_
    refine ⟨fun hc1 => ?_, fun hc2 => ?_⟩
    · skip
      have q1 := i32_lo (I t 30)
      have q2 := i32_lo x6
      have hc1 := Int32.le_iff_toInt_le.mp hc1
      exact hK _ _ hW hF (by first | exact Or.inl rfl | assumption)
    · skip
      have q1 := i32_lo (I t 30)
      have q2 := i32_lo x6
      have hc2 := mt Int32.le_iff_toInt_le.mpr hc2
      refine ⟨vp_of (by omega) (by omega), ?_⟩
      refine ⟨fun hc3 => ?_, fun hc4 => ?_⟩
      · skip
        have q3 := i32_lo x3
        have q4 : (-1 : Int32).toInt = -1 := rfl
        have q5 : (0 : Int32).toInt = 0 := rfl
        have hc3 : ¬ (((I (t + 30) (Int32.toNatClampNeg x6)) &&& (x3 ^^^ (-1)))).toInt = (0 : Int32).toInt := fun z => hc3 (Int32.toInt_inj.mp z)
        have q6 : (1 : Int32).toInt = 1 := rfl
        have q7 := i32_add x6 1 (by omega) (by omega)
        exact ih _ x5 (x6 + 1) hW hF (by omega) (by first | exact Or.inl rfl | assumption | (right; assumption)) (by omega)
      · skip
        have q3 := i32_lo x3
        have q4 : (-1 : Int32).toInt = -1 := rfl
        have q5 : (0 : Int32).toInt = 0 := rfl
        have hc4 := Int32.toInt_inj.mpr hc4
        refine ⟨fun hc5 => ?_, fun hc6 => ?_⟩
        · skip
          have q6 := i32_lo x1
          have q7 : (2 : Int32).toInt = 2 := rfl
          have hc5 : ¬ (x1).toInt = (2 : Int32).toInt := fun z => hc5 (Int32.toInt_inj.mp z)
          refine ⟨vp_of (by omega) (by omega), ?_⟩
          refine sfX12_meetsOf ht hW  (fun v4  => ?_)
          refine sfX12_meetsOf ht hW  (fun v6  => ?_)
          refine ⟨fun hc9 => ?_, fun hc10 => ?_⟩
          · skip
            have q8 := i32_lo v6
            have q9 := i32_lo v4
            have hc9 := Int32.le_iff_toInt_le.mp hc9
            refine ⟨fun hc11 => ?_, fun hc12 => ?_⟩
            · skip
              have q10 := i32_lo x5
              have hc11 := Int32.toInt_inj.mpr hc11
              refine ⟨vp_of (by omega) (by omega), ?_⟩
              have q11 : (1 : Int32).toInt = 1 := rfl
              have q12 := i32_add x6 1 (by omega) (by omega)
              exact ih _ (I (t + 30) (Int32.toNatClampNeg x6)) (x6 + 1) hW hF (by omega) (by first | exact Or.inl rfl | assumption | (right; assumption)) (by omega)
            · skip
              have q10 := i32_lo x5
              have hc12 : ¬ (x5).toInt = (0 : Int32).toInt := fun z => hc12 (Int32.toInt_inj.mp z)
              have q11 : (1 : Int32).toInt = 1 := rfl
              have q12 := i32_add x6 1 (by omega) (by omega)
              exact ih _ x5 (x6 + 1) hW hF (by omega) (by first | exact Or.inl rfl | assumption | (right; assumption)) (by omega)
          · skip
            have q8 := i32_lo v6
            have q9 := i32_lo v4
            have hc10 := mt Int32.le_iff_toInt_le.mpr hc10
            refine ⟨fun hc13 => ?_, fun hc14 => ?_⟩
            · skip
              have q10 := i32_lo x5
              have hc13 := Int32.toInt_inj.mpr hc13
              refine ⟨vp_of (by omega) (by omega), ?_⟩
              have q11 : (1 : Int32).toInt = 1 := rfl
              have q12 := i32_add x6 1 (by omega) (by omega)
              exact ih _ (I (t + 30) (Int32.toNatClampNeg x6)) (x6 + 1) hW hF (by omega) (by first | exact Or.inl rfl | assumption | (right; assumption)) (by omega)
            · skip
              have q10 := i32_lo x5
              have hc14 : ¬ (x5).toInt = (0 : Int32).toInt := fun z => hc14 (Int32.toInt_inj.mp z)
              refine ⟨vp_of (by omega) (by omega), ?_⟩
              have q11 : (1 : Int32).toInt = 1 := rfl
              have q12 := i32_add x6 1 (by omega) (by omega)
              exact ih _ (I (t + 30) (Int32.toNatClampNeg x6)) (x6 + 1) hW hF (by omega) (by first | exact Or.inl rfl | assumption | (right; assumption)) (by omega)
        · skip
          have q6 := i32_lo x1
          have q7 : (2 : Int32).toInt = 2 := rfl
          have hc6 := Int32.toInt_inj.mpr hc6
          refine ⟨vp_of (by omega) (by omega), ?_⟩
          refine sfX12_costOf ht hW  (fun v12  => ?_)
          refine sfX12_costOf ht hW  (fun v14  => ?_)
          refine ⟨fun hc17 => ?_, fun hc18 => ?_⟩
          · skip
            have q8 := i32_lo v12
            have q9 := i32_lo v14
            have hc17 := Int32.le_iff_toInt_le.mp hc17
            refine ⟨fun hc19 => ?_, fun hc20 => ?_⟩
            · skip
              have q10 := i32_lo x5
              have hc19 := Int32.toInt_inj.mpr hc19
              refine ⟨vp_of (by omega) (by omega), ?_⟩
              have q11 : (1 : Int32).toInt = 1 := rfl
              have q12 := i32_add x6 1 (by omega) (by omega)
              exact ih _ (I (t + 30) (Int32.toNatClampNeg x6)) (x6 + 1) hW hF (by omega) (by first | exact Or.inl rfl | assumption | (right; assumption)) (by omega)
            · skip
              have q10 := i32_lo x5
              have hc20 : ¬ (x5).toInt = (0 : Int32).toInt := fun z => hc20 (Int32.toInt_inj.mp z)
              have q11 : (1 : Int32).toInt = 1 := rfl
              have q12 := i32_add x6 1 (by omega) (by omega)
              exact ih _ x5 (x6 + 1) hW hF (by omega) (by first | exact Or.inl rfl | assumption | (right; assumption)) (by omega)
          · skip
            have q8 := i32_lo v12
            have q9 := i32_lo v14
            have hc18 := mt Int32.le_iff_toInt_le.mpr hc18
            refine ⟨fun hc21 => ?_, fun hc22 => ?_⟩
            · skip
              have q10 := i32_lo x5
              have hc21 := Int32.toInt_inj.mpr hc21
              refine ⟨vp_of (by omega) (by omega), ?_⟩
              have q11 : (1 : Int32).toInt = 1 := rfl
              have q12 := i32_add x6 1 (by omega) (by omega)
              exact ih _ (I (t + 30) (Int32.toNatClampNeg x6)) (x6 + 1) hW hF (by omega) (by first | exact Or.inl rfl | assumption | (right; assumption)) (by omega)
            · skip
              have q10 := i32_lo x5
              have hc22 : ¬ (x5).toInt = (0 : Int32).toInt := fun z => hc22 (Int32.toInt_inj.mp z)
              refine ⟨vp_of (by omega) (by omega), ?_⟩
              have q11 : (1 : Int32).toInt = 1 := rfl
              have q12 := i32_add x6 1 (by omega) (by omega)
              exact ih _ (I (t + 30) (Int32.toNatClampNeg x6)) (x6 + 1) hW hF (by omega) (by first | exact Or.inl rfl | assumption | (right; assumption)) (by omega)
theorem sfX12_sentBy {G : jdG} {n : Nat} {Z : jdL} {J : jdJ} {K : Int32 → jdI → jdJ → Prop}  {I : jdI} {t : Nat} {x1 : Int32} {x2 : Int32} {x3 : Int32} {x4 : Int32} (ht : zModel Z t)  (hW : WM 7 t I) (hx3 : 0 ≤ x3.toInt ∧ x3.toInt ≤ 255) (hK : ∀ (v : Int32) (I2 : jdI), WM 7 t I2 → Fr (fun a k => (a = t ∧ k = 30) ∨ a = t + 30) I I2 → (v.toInt = 0 ∨ (v &&& (x3 ^^^ (-1))).toInt = 0) → K v I2 J) : Cl G mX12_sentBy (n + 258) 0 0 [.ref (gb G + t), .int x1, .int x2, .int x3, .int x4] Z I J (qi Z K) := by
  refine eX12_sentBy ht ?_
  have hwI := WM_f hW
  refine sfX12_listAll ht (by decide) hW  (fun I1 hWI1 hFI1 hp1 => ?_)
  have hwI1 := WM_f hWI1
  have hLn := hp1.1
  refine ⟨fun hc2 => ?_, fun hc3 => ?_⟩
  · skip
    have q1 := i32_lo x1
    have q2 : (3 : Int32).toInt = 3 := rfl
    have hc2 : ¬ (x1).toInt = (3 : Int32).toInt := fun z => hc2 (Int32.toInt_inj.mp z)
    refine ⟨fun hc4 => ?_, fun hc5 => ?_⟩
    · skip
      have q3 : (1 : Int32).toInt = 1 := rfl
      have hc4 := Int32.toInt_inj.mpr hc4
      have q4 := i32_lo x3
      refine sfX12_firstIn ht hWI1  (fun v4  hp6 => ?_)
      exact hK _ _ hWI1 (Fr.tr Fr.rf hFI1 (by intro a k h; omega)) (by first | exact Or.inl rfl | assumption)
    · skip
      have q3 : (1 : Int32).toInt = 1 := rfl
      have hc5 : ¬ (x1).toInt = (1 : Int32).toInt := fun z => hc5 (Int32.toInt_inj.mp z)
      refine ⟨fun hc7 => ?_, fun hc8 => ?_⟩
      · skip
        have hc7 : ¬ (x1).toInt = (3 : Int32).toInt := fun z => hc7 (Int32.toInt_inj.mp z)
        refine ⟨fun hc9 => ?_, fun hc10 => ?_⟩
        · skip
          have q4 : (2 : Int32).toInt = 2 := rfl
          have hc9 := Int32.toInt_inj.mpr hc9
          have q5 : (0 : Int32).toInt = 0 := rfl
          exact lX12_sentBy_62 ht  hx3 hK  (((70) - (0 : Int32).toInt).toNat + 1) _ 0 0 hWI1 (Fr.tr Fr.rf hFI1 (by intro a k h; omega)) (by omega) (by first | exact Or.inl rfl | assumption | (right; assumption)) (by omega)
        · skip
          have q4 : (2 : Int32).toInt = 2 := rfl
          have hc10 : ¬ (x1).toInt = (2 : Int32).toInt := fun z => hc10 (Int32.toInt_inj.mp z)
          refine ⟨fun hc11 => ?_, fun hc12 => ?_⟩
          · skip
            have q5 : (4 : Int32).toInt = 4 := rfl
            have hc11 := Int32.toInt_inj.mpr hc11
            have q6 : (0 : Int32).toInt = 0 := rfl
            exact lX12_sentBy_62 ht  hx3 hK  (((70) - (0 : Int32).toInt).toNat + 1) _ 0 0 hWI1 (Fr.tr Fr.rf hFI1 (by intro a k h; omega)) (by omega) (by first | exact Or.inl rfl | assumption | (right; assumption)) (by omega)
          · skip
            have q5 : (4 : Int32).toInt = 4 := rfl
            have hc12 : ¬ (x1).toInt = (4 : Int32).toInt := fun z => hc12 (Int32.toInt_inj.mp z)
            have q6 := i32_lo x3
            refine sfX12_bestIn ht hWI1 (by assumption) (by omega) (fun v6  hp13 => ?_)
            exact hK _ _ hWI1 (Fr.tr Fr.rf hFI1 (by intro a k h; omega)) (by first | exact Or.inl rfl | assumption)
      · skip
        have hc8 := Int32.toInt_inj.mpr hc8
        have q4 := i32_lo x3
        refine sfX12_firstIn ht hWI1  (fun v8  hp14 => ?_)
        exact hK _ _ hWI1 (Fr.tr Fr.rf hFI1 (by intro a k h; omega)) (by first | exact Or.inl rfl | assumption)
  · skip
    have q1 := i32_lo x1
    have q2 : (3 : Int32).toInt = 3 := rfl
    have hc3 := Int32.toInt_inj.mpr hc3
    refine ⟨fun hc15 => ?_, fun hc16 => ?_⟩
    · skip
      have q3 := i32_lo x4
      have q4 : (0 : Int32).toInt = 0 := rfl
      have hc15 := Int32.le_iff_toInt_le.mp hc15
      refine ⟨fun hc17 => ?_, fun hc18 => ?_⟩
      · skip
        have q5 : (1 : Int32).toInt = 1 := rfl
        have hc17 := Int32.toInt_inj.mpr hc17
        have q6 := i32_lo x3
        refine sfX12_firstIn ht hWI1  (fun v10  hp19 => ?_)
        exact hK _ _ hWI1 (Fr.tr Fr.rf hFI1 (by intro a k h; omega)) (by first | exact Or.inl rfl | assumption)
      · skip
        have q5 : (1 : Int32).toInt = 1 := rfl
        have hc18 : ¬ (x1).toInt = (1 : Int32).toInt := fun z => hc18 (Int32.toInt_inj.mp z)
        refine ⟨fun hc20 => ?_, fun hc21 => ?_⟩
        · skip
          have hc20 : ¬ (x1).toInt = (3 : Int32).toInt := fun z => hc20 (Int32.toInt_inj.mp z)
          refine ⟨fun hc22 => ?_, fun hc23 => ?_⟩
          · skip
            have q6 : (2 : Int32).toInt = 2 := rfl
            have hc22 := Int32.toInt_inj.mpr hc22
            exact lX12_sentBy_62 ht  hx3 hK  (((70) - (0 : Int32).toInt).toNat + 1) _ 0 0 hWI1 (Fr.tr Fr.rf hFI1 (by intro a k h; omega)) (by omega) (by first | exact Or.inl rfl | assumption | (right; assumption)) (by omega)
          · skip
            have q6 : (2 : Int32).toInt = 2 := rfl
            have hc23 : ¬ (x1).toInt = (2 : Int32).toInt := fun z => hc23 (Int32.toInt_inj.mp z)
            refine ⟨fun hc24 => ?_, fun hc25 => ?_⟩
            · skip
              have q7 : (4 : Int32).toInt = 4 := rfl
              have hc24 := Int32.toInt_inj.mpr hc24
              exact lX12_sentBy_62 ht  hx3 hK  (((70) - (0 : Int32).toInt).toNat + 1) _ 0 0 hWI1 (Fr.tr Fr.rf hFI1 (by intro a k h; omega)) (by omega) (by first | exact Or.inl rfl | assumption | (right; assumption)) (by omega)
            · skip
              have q7 : (4 : Int32).toInt = 4 := rfl
              have hc25 : ¬ (x1).toInt = (4 : Int32).toInt := fun z => hc25 (Int32.toInt_inj.mp z)
              have q8 := i32_lo x3
              refine sfX12_bestIn ht hWI1 (by assumption) (by omega) (fun v12  hp26 => ?_)
              exact hK _ _ hWI1 (Fr.tr Fr.rf hFI1 (by intro a k h; omega)) (by first | exact Or.inl rfl | assumption)
        · skip
          have hc21 := Int32.toInt_inj.mpr hc21
          have q6 := i32_lo x3
          refine sfX12_firstIn ht hWI1  (fun v14  hp27 => ?_)
          exact hK _ _ hWI1 (Fr.tr Fr.rf hFI1 (by intro a k h; omega)) (by first | exact Or.inl rfl | assumption)
    · skip
      have q3 := i32_lo x4
      have q4 : (0 : Int32).toInt = 0 := rfl
      have hc16 := mt Int32.le_iff_toInt_le.mpr hc16
      have q5 := i32_lo x3
      refine sfX12_bits  trivial  (fun v16  hp28 => ?_)
      refine ⟨fun hc29 => ?_, fun hc30 => ?_⟩
      · skip
        have q6 := i32_lo x2
        have q7 := i32_lo v16
        have hc29 := Int32.le_iff_toInt_le.mp hc29
        refine ⟨fun hc31 => ?_, fun hc32 => ?_⟩
        · skip
          have q8 : (1 : Int32).toInt = 1 := rfl
          have hc31 := Int32.toInt_inj.mpr hc31
          refine sfX12_firstIn ht hWI1  (fun v18  hp33 => ?_)
          exact hK _ _ hWI1 (Fr.tr Fr.rf hFI1 (by intro a k h; omega)) (by first | exact Or.inl rfl | assumption)
        · skip
          have q8 : (1 : Int32).toInt = 1 := rfl
          have hc32 : ¬ (x1).toInt = (1 : Int32).toInt := fun z => hc32 (Int32.toInt_inj.mp z)
          refine ⟨fun hc34 => ?_, fun hc35 => ?_⟩
          · skip
            have hc34 : ¬ (x1).toInt = (3 : Int32).toInt := fun z => hc34 (Int32.toInt_inj.mp z)
            refine ⟨fun hc36 => ?_, fun hc37 => ?_⟩
            · skip
              have q9 : (2 : Int32).toInt = 2 := rfl
              have hc36 := Int32.toInt_inj.mpr hc36
              exact lX12_sentBy_62 ht  hx3 hK  (((70) - (0 : Int32).toInt).toNat + 1) _ 0 0 hWI1 (Fr.tr Fr.rf hFI1 (by intro a k h; omega)) (by omega) (by first | exact Or.inl rfl | assumption | (right; assumption)) (by omega)
            · skip
              have q9 : (2 : Int32).toInt = 2 := rfl
              have hc37 : ¬ (x1).toInt = (2 : Int32).toInt := fun z => hc37 (Int32.toInt_inj.mp z)
              refine ⟨fun hc38 => ?_, fun hc39 => ?_⟩
              · skip
                have q10 : (4 : Int32).toInt = 4 := rfl
                have hc38 := Int32.toInt_inj.mpr hc38
                exact lX12_sentBy_62 ht  hx3 hK  (((70) - (0 : Int32).toInt).toNat + 1) _ 0 0 hWI1 (Fr.tr Fr.rf hFI1 (by intro a k h; omega)) (by omega) (by first | exact Or.inl rfl | assumption | (right; assumption)) (by omega)
              · skip
                have q10 : (4 : Int32).toInt = 4 := rfl
                have hc39 : ¬ (x1).toInt = (4 : Int32).toInt := fun z => hc39 (Int32.toInt_inj.mp z)
                refine sfX12_bestIn ht hWI1 (by assumption) (by omega) (fun v20  hp40 => ?_)
                exact hK _ _ hWI1 (Fr.tr Fr.rf hFI1 (by intro a k h; omega)) (by first | exact Or.inl rfl | assumption)
          · skip
            have hc35 := Int32.toInt_inj.mpr hc35
            refine sfX12_firstIn ht hWI1  (fun v22  hp41 => ?_)
            exact hK _ _ hWI1 (Fr.tr Fr.rf hFI1 (by intro a k h; omega)) (by first | exact Or.inl rfl | assumption)
      · skip
        have q6 := i32_lo x2
        have q7 := i32_lo v16
        have hc30 := mt Int32.le_iff_toInt_le.mpr hc30
        exact hK _ _ hWI1 (Fr.tr Fr.rf hFI1 (by intro a k h; omega)) (by first | exact Or.inl rfl | assumption)
theorem sfX12_says {G : jdG} {n : Nat} {Z : jdL} {J : jdJ} {K : Int32 → jdI → jdJ → Prop}  {I : jdI} {t : Nat} {x1 : Int32} {x2 : Int32} (ht : zModel Z t)  (hW : WM 7 t I)  (hK : ∀ (v : Int32) (I2 : jdI), WM 7 t I2 → Fr (fun a k => (a = t ∧ k = 30) ∨ a = t + 30 ∨ a = t + 17) I I2 → K v I2 J) : Cl G mX12_says (n + 259) 0 0 [.ref (gb G + t), .int x1, .int x2] Z I J (qi Z K) := by
  refine eX12_says ht ?_
  have hwI := WM_f hW
  have q1 := i32_lo x1
  have q2 : (Int32.toInt64 x1).toInt = (x1).toInt := Int32.toInt_toInt64 _
  have q3 : (0 : Int64).toInt = 0 := rfl
  have q4 : (7 : Int64).toInt = 7 := rfl
  refine sfX12_in  trivial  (fun v2  hp1 => ?_)
  refine ⟨fun hc2 => ?_, fun hc3 => ?_⟩
  · skip
    have q5 := i32_lo v2
    have q6 : (0 : Int32).toInt = 0 := rfl
    have hc2 := Int32.toInt_inj.mpr hc2
    have q7 : (-2 : Int32).toInt = -2 := rfl
    refine sfX12_refuse ht (by decide) hW (by omega) (fun v4 I3 hWI3 hFI3 hp4 => ?_)
    have hwI3 := WM_f hWI3
    exact hK _ _ hWI3 (Fr.tr Fr.rf hFI3 (by intro a k h; omega))
  · skip
    have q5 := i32_lo v2
    have q6 : (0 : Int32).toInt = 0 := rfl
    have hc3 : ¬ (v2).toInt = (0 : Int32).toInt := fun z => hc3 (Int32.toInt_inj.mp z)
    have q7 := i32_lo x2
    have q8 : (Int32.toInt64 x2).toInt = (x2).toInt := Int32.toInt_toInt64 _
    have q9 : (5 : Int64).toInt = 5 := rfl
    refine sfX12_in  trivial  (fun v6  hp5 => ?_)
    refine ⟨fun hc6 => ?_, fun hc7 => ?_⟩
    · skip
      have q10 := i32_lo v6
      have hc6 : ¬ (v6).toInt = (0 : Int32).toInt := fun z => hc6 (Int32.toInt_inj.mp z)
      refine ⟨vp_of (by omega) (by omega), ?_⟩
      refine ⟨fun hc8 => ?_, fun hc9 => ?_⟩
      · skip
        have q11 : (1 : Int32).toInt = 1 := rfl
        have hc8 := Int32.toInt_inj.mpr hc8
        have q12 : (-3 : Int32).toInt = -3 := rfl
        refine sfX12_refuse ht (by decide) hW (by omega) (fun v9 I8 hWI8 hFI8 hp10 => ?_)
        have hwI8 := WM_f hWI8
        exact hK _ _ hWI8 (Fr.tr Fr.rf hFI8 (by intro a k h; omega))
      · skip
        have q11 : (1 : Int32).toInt = 1 := rfl
        have hc9 : ¬ ((I (t + 1) (Int32.toNatClampNeg x1))).toInt = (1 : Int32).toInt := fun z => hc9 (Int32.toInt_inj.mp z)
        refine ⟨vp_of (by omega) (by omega), ?_⟩
        refine ⟨fun hc11 => ?_, fun hc12 => ?_⟩
        · skip
          have q12 : (2 : Int32).toInt = 2 := rfl
          have hc11 : ¬ ((I (t + 1) (Int32.toNatClampNeg x1))).toInt = (2 : Int32).toInt := fun z => hc11 (Int32.toInt_inj.mp z)
          refine ⟨vp_of (by omega) (by omega), ?_⟩
          refine ⟨fun hc13 => ?_, fun hc14 => ?_⟩
          · skip
            have hc13 : ¬ ((I (t + 1) (Int32.toNatClampNeg x1))).toInt = (0 : Int32).toInt := fun z => hc13 (Int32.toInt_inj.mp z)
            refine ⟨fun hc15 => ?_, fun hc16 => ?_⟩
            · skip
              have hc15 : ¬ (x2).toInt = (0 : Int32).toInt := fun z => hc15 (Int32.toInt_inj.mp z)
              refine ⟨vp_of (by omega) (by omega), ?_⟩
              refine ⟨vp_of (by omega) (by omega), ?_⟩
              refine sfX12_all ht (by decide) hW  (fun v15  hp17 => ?_)
              have q13 := i32_lo v15
              refine sfX12_sentBy ht hW (by omega) (fun v17 I16 hWI16 hFI16 hp18 => ?_)
              have hwI16 := WM_f hWI16
              exact hK _ _ hWI16 (Fr.tr Fr.rf hFI16 (by intro a k h; omega))
            · skip
              have hc16 := Int32.toInt_inj.mpr hc16
              refine ⟨vp_of (by omega) (by omega), ?_⟩
              exact hK _ _ hW Fr.rf
          · skip
            have hc14 := Int32.toInt_inj.mpr hc14
            have q13 : (-4 : Int32).toInt = -4 := rfl
            refine sfX12_refuse ht (by decide) hW (by omega) (fun v20 I19 hWI19 hFI19 hp19 => ?_)
            have hwI19 := WM_f hWI19
            exact hK _ _ hWI19 (Fr.tr Fr.rf hFI19 (by intro a k h; omega))
        · skip
          have q12 : (2 : Int32).toInt = 2 := rfl
          have hc12 := Int32.toInt_inj.mpr hc12
          refine ⟨vp_of (by omega) (by omega), ?_⟩
          refine sfX12_isUnder  trivial  (fun v23  => ?_)
          refine ⟨fun hc21 => ?_, fun hc22 => ?_⟩
          · skip
            have q13 := i32_lo v23
            have hc21 : ¬ (v23).toInt = (0 : Int32).toInt := fun z => hc21 (Int32.toInt_inj.mp z)
            refine ⟨vp_of (by omega) (by omega), ?_⟩
            refine ⟨fun hc23 => ?_, fun hc24 => ?_⟩
            · skip
              have hc23 : ¬ ((I (t + 1) (Int32.toNatClampNeg x1))).toInt = (0 : Int32).toInt := fun z => hc23 (Int32.toInt_inj.mp z)
              refine ⟨fun hc25 => ?_, fun hc26 => ?_⟩
              · skip
                have hc25 : ¬ (x2).toInt = (0 : Int32).toInt := fun z => hc25 (Int32.toInt_inj.mp z)
                refine ⟨vp_of (by omega) (by omega), ?_⟩
                refine ⟨vp_of (by omega) (by omega), ?_⟩
                refine sfX12_all ht (by decide) hW  (fun v28  hp27 => ?_)
                have q14 := i32_lo v28
                refine sfX12_sentBy ht hW (by omega) (fun v30 I29 hWI29 hFI29 hp28 => ?_)
                have hwI29 := WM_f hWI29
                exact hK _ _ hWI29 (Fr.tr Fr.rf hFI29 (by intro a k h; omega))
              · skip
                have hc26 := Int32.toInt_inj.mpr hc26
                refine ⟨vp_of (by omega) (by omega), ?_⟩
                exact hK _ _ hW Fr.rf
            · skip
              have hc24 := Int32.toInt_inj.mpr hc24
              have q14 : (-4 : Int32).toInt = -4 := rfl
              refine sfX12_refuse ht (by decide) hW (by omega) (fun v33 I32 hWI32 hFI32 hp29 => ?_)
              have hwI32 := WM_f hWI32
              exact hK _ _ hWI32 (Fr.tr Fr.rf hFI32 (by intro a k h; omega))
          · skip
            have q13 := i32_lo v23
            have hc22 := Int32.toInt_inj.mpr hc22
            have q14 : (-3 : Int32).toInt = -3 := rfl
            refine sfX12_refuse ht (by decide) hW (by omega) (fun v35 I34 hWI34 hFI34 hp30 => ?_)
            have hwI34 := WM_f hWI34
            exact hK _ _ hWI34 (Fr.tr Fr.rf hFI34 (by intro a k h; omega))
    · skip
      have q10 := i32_lo v6
      have hc7 := Int32.toInt_inj.mpr hc7
      have q11 : (-2 : Int32).toInt = -2 := rfl
      refine sfX12_refuse ht (by decide) hW (by omega) (fun v37 I36 hWI36 hFI36 hp31 => ?_)
      have hwI36 := WM_f hWI36
      exact hK _ _ hWI36 (Fr.tr Fr.rf hFI36 (by intro a k h; omega))
theorem sfX12_sends {G : jdG} {n : Nat} {Z : jdL} {J : jdJ} {K : Int32 → jdI → jdJ → Prop}  {I : jdI} {t : Nat} {x1 : Int32} {x2 : Int32} {x3 : Int32} (ht : zModel Z t)  (hW : WM 7 t I)  (hK : ∀ (v : Int32) (I2 : jdI), WM 7 t I2 → Fr (fun a k => (a = t ∧ k = 30) ∨ a = t + 30 ∨ a = t + 17) I I2 → K v I2 J) : Cl G mX12_sends (n + 259) 0 0 [.ref (gb G + t), .int x1, .int x2, .int x3] Z I J (qi Z K) := by
  refine eX12_sends ht ?_
  have hwI := WM_f hW
  have q1 := i32_lo x1
  have q2 : (Int32.toInt64 x1).toInt = (x1).toInt := Int32.toInt_toInt64 _
  have q3 : (0 : Int64).toInt = 0 := rfl
  have q4 : (7 : Int64).toInt = 7 := rfl
  refine sfX12_in  trivial  (fun v2  hp1 => ?_)
  refine ⟨fun hc2 => ?_, fun hc3 => ?_⟩
  · skip
    have q5 := i32_lo v2
    have q6 : (0 : Int32).toInt = 0 := rfl
    have hc2 := Int32.toInt_inj.mpr hc2
    have q7 : (-2 : Int32).toInt = -2 := rfl
    refine sfX12_refuse ht (by decide) hW (by omega) (fun v4 I3 hWI3 hFI3 hp4 => ?_)
    have hwI3 := WM_f hWI3
    exact hK _ _ hWI3 (Fr.tr Fr.rf hFI3 (by intro a k h; omega))
  · skip
    have q5 := i32_lo v2
    have q6 : (0 : Int32).toInt = 0 := rfl
    have hc3 : ¬ (v2).toInt = (0 : Int32).toInt := fun z => hc3 (Int32.toInt_inj.mp z)
    have q7 := i32_lo x2
    refine sfX12_isSet ht hW  (fun v6  hp5 => ?_)
    refine ⟨fun hc6 => ?_, fun hc7 => ?_⟩
    · skip
      have q8 := i32_lo v6
      have hc6 := Int32.toInt_inj.mpr hc6
      have q9 : (-2 : Int32).toInt = -2 := rfl
      refine sfX12_refuse ht (by decide) hW (by omega) (fun v8 I7 hWI7 hFI7 hp8 => ?_)
      have hwI7 := WM_f hWI7
      exact hK _ _ hWI7 (Fr.tr Fr.rf hFI7 (by intro a k h; omega))
    · skip
      have q8 := i32_lo v6
      have hc7 : ¬ (v6).toInt = (0 : Int32).toInt := fun z => hc7 (Int32.toInt_inj.mp z)
      have q9 := i32_lo x3
      have q10 : (Int32.toInt64 x3).toInt = (x3).toInt := Int32.toInt_toInt64 _
      refine sfX12_in  trivial  (fun v10  hp9 => ?_)
      refine ⟨fun hc10 => ?_, fun hc11 => ?_⟩
      · skip
        have q11 := i32_lo v10
        have hc10 : ¬ (v10).toInt = (0 : Int32).toInt := fun z => hc10 (Int32.toInt_inj.mp z)
        refine sfX12_noMan ht hW  (fun v12 I11 hWI11 hFI11 hp12 => ?_)
        have hwI11 := WM_f hWI11
        refine ⟨fun hc13 => ?_, fun hc14 => ?_⟩
        · skip
          have q12 := i32_lo v12
          have hc13 := Int32.toInt_inj.mpr hc13
          refine ⟨vp_of (by omega) (by omega), ?_⟩
          refine ⟨vp_of (by omega) (by omega), ?_⟩
          refine sfX12_sentBy ht hWI11 (by omega) (fun v16 I15 hWI15 hFI15 hp15 => ?_)
          have hwI15 := WM_f hWI15
          exact hK _ _ hWI15 (Fr.tr (Fr.tr Fr.rf hFI11 (by intro a k h; omega)) hFI15 (by intro a k h; omega))
        · skip
          have q12 := i32_lo v12
          have hc14 : ¬ (v12).toInt = (0 : Int32).toInt := fun z => hc14 (Int32.toInt_inj.mp z)
          exact hK _ _ hWI11 (Fr.tr Fr.rf hFI11 (by intro a k h; omega))
      · skip
        have q11 := i32_lo v10
        have hc11 := Int32.toInt_inj.mpr hc11
        have q12 : (-2 : Int32).toInt = -2 := rfl
        refine sfX12_refuse ht (by decide) hW (by omega) (fun v18 I17 hWI17 hFI17 hp16 => ?_)
        have hwI17 := WM_f hWI17
        exact hK _ _ hWI17 (Fr.tr Fr.rf hFI17 (by intro a k h; omega))
