def cr (f : Nat → Int) (h : Int) (lo : Nat) : Nat → Nat
  | 0 => 0
  | n + 1 => cr f h lo n + (if h < f n then 1 else if f n = h ∧ lo ≤ n then 1 else 0)
theorem cr_le (f : Nat → Int) (h : Int) (lo : Nat) : ∀ n, cr f h lo n ≤ n
  | 0 => Nat.le_refl _
  | n + 1 => by
    have h1 := cr_le f h lo n
    show cr f h lo n + _ ≤ _
    split
    · omega
    · split <;> omega
theorem cr_end (f : Nat → Int) (h : Int) (lo : Nat) : ∀ n, n ≤ lo → cr f (h + 1) 0 n ≤ cr f h lo n
  | 0, _ => Nat.le_refl _
  | n + 1, hn => by
    have h1 := cr_end f h lo n (by omega)
    show cr f (h + 1) 0 n + _ ≤ cr f h lo n + _
    split
    · rw [if_pos (by omega)]
      omega
    · split
      · rw [if_pos (by omega)]
        omega
      · omega
theorem cr_step (f : Nat → Int) (h : Int) (lo : Nat) : ∀ n, cr f h (lo + 1) n ≤ cr f h lo n
  | 0 => Nat.le_refl _
  | n + 1 => by
    have h1 := cr_step f h lo n
    show cr f h (lo + 1) n + _ ≤ cr f h lo n + _
    split
    · omega
    · split
      · rw [if_pos (by omega)]
        omega
      · omega
theorem cr_hit (f : Nat → Int) (h : Int) (lo : Nat) (hf : f lo = h) : ∀ n, lo < n → cr f h (lo + 1) n + 1 ≤ cr f h lo n
  | 0, hn => by omega
  | n + 1, hn => by
    by_cases e : lo = n
    · subst e
      have h1 := cr_step f h lo lo
      show cr f h (lo + 1) lo + (if h < f lo then 1 else if f lo = h ∧ lo + 1 ≤ lo then 1 else 0) + 1 ≤ cr f h lo lo + (if h < f lo then 1 else if f lo = h ∧ lo ≤ lo then 1 else 0)
      rw [if_neg (by omega), if_neg (by omega), if_neg (by omega), if_pos (by omega)]
      omega
    · have h1 := cr_hit f h lo hf n (by omega)
      show cr f h (lo + 1) n + _ + 1 ≤ cr f h lo n + _
      split
      · omega
      · split
        · rw [if_pos (by omega)]
          omega
        · omega
def crI (I : jdI) (t : Nat) (h lo : Int) : Int := (cr (fun p => (I (t + 18) p).toInt) h lo.toNat (I t 10).toInt.toNat : Nat)
theorem crI_le (I : jdI) (t : Nat) (h lo : Int) (h7 : (I t 10).toInt ≤ 7) : crI I t h lo ≤ 7 := by
  have h1 := cr_le (fun p => (I (t + 18) p).toInt) h lo.toNat (I t 10).toInt.toNat
  unfold crI
  omega
theorem crI_nn (I : jdI) (t : Nat) (h lo : Int) : 0 ≤ crI I t h lo := by
  unfold crI
  omega
theorem crI_end (I : jdI) (t : Nat) (x2 x3 : Int32) (h0 : 0 ≤ x2.toInt) (h1 : x2.toInt ≤ 100) (h2 : 0 ≤ x3.toInt) (h3 : (I t 10).toInt ≤ x3.toInt) : crI I t (x2 + 1).toInt (0 : Int32).toInt ≤ crI I t x2.toInt x3.toInt := by
  have q : (1 : Int32).toInt = 1 := rfl
  have q0 : (0 : Int32).toInt.toNat = 0 := rfl
  have h4 := cr_end (fun p => (I (t + 18) p).toInt) x2.toInt x3.toInt.toNat (I t 10).toInt.toNat (by omega)
  unfold crI
  rw [i32_add x2 1 (by omega) (by omega), q, q0]
  omega
theorem crI_step (I : jdI) (t : Nat) (x2 x3 : Int32) (h2 : 0 ≤ x3.toInt) (h3 : x3.toInt ≤ 100) : crI I t x2.toInt (x3 + 1).toInt ≤ crI I t x2.toInt x3.toInt := by
  have q : (1 : Int32).toInt = 1 := rfl
  have h4 := cr_step (fun p => (I (t + 18) p).toInt) x2.toInt x3.toInt.toNat (I t 10).toInt.toNat
  unfold crI
  rw [i32_add x3 1 (by omega) (by omega), q, show (x3.toInt + 1).toNat = x3.toInt.toNat + 1 by omega]
  omega
theorem crI_hit (I : jdI) (t : Nat) (x2 x3 : Int32) (h2 : 0 ≤ x3.toInt) (h3 : x3.toInt ≤ 100) (hn : x3.toInt < (I t 10).toInt) (he : (I (t + 18) (Int32.toNatClampNeg x3)).toInt = x2.toInt) : crI I t x2.toInt (x3 + 1).toInt + 1 ≤ crI I t x2.toInt x3.toInt := by
  have q : (1 : Int32).toInt = 1 := rfl
  have h4 := cr_hit (fun p => (I (t + 18) p).toInt) x2.toInt x3.toInt.toNat he (I t 10).toInt.toNat (by omega)
  unfold crI
  rw [i32_add x3 1 (by omega) (by omega), q, show (x3.toInt + 1).toNat = x3.toInt.toNat + 1 by omega]
  omega
def pcn : Nat → Nat → Nat
  | 0, _ => 0
  | f + 1, n => n % 2 + pcn f (n / 2)
def pc (x : Int32) : Int := (pcn 7 x.toInt.toNat : Nat)
theorem pc_nn (x : Int32) : 0 ≤ pc x := by
  unfold pc
  omega
theorem pc_z : pc 0 = 0 := rfl
theorem or_pc_all : ∀ x : Fin 128, ∀ f : Fin 7, 0 ≤ (Int32.ofNat x.val ||| (1 <<< (Int32.ofNat f.val &&& 31))).toInt ∧ (Int32.ofNat x.val ||| (1 <<< (Int32.ofNat f.val &&& 31))).toInt ≤ 127 ∧ pc (Int32.ofNat x.val ||| (1 <<< (Int32.ofNat f.val &&& 31))) ≤ pc (Int32.ofNat x.val) + 1 := by decide +kernel
theorem or_pc {x f : Int32} (h0 : 0 ≤ x.toInt) (h1 : x.toInt ≤ 127) (h2 : 0 ≤ f.toInt) (h3 : f.toInt ≤ 6) : 0 ≤ (x ||| (1 <<< (f &&& 31))).toInt ∧ (x ||| (1 <<< (f &&& 31))).toInt ≤ 127 ∧ pc (x ||| (1 <<< (f &&& 31))) ≤ pc x + 1 := by
  have e := or_pc_all ⟨x.toInt.toNat, by omega⟩ ⟨f.toInt.toNat, by omega⟩
  rw [← i32_ofNat h0, ← i32_ofNat h2] at e
  exact e
theorem or_127 {x f : Int32} (h0 : 0 ≤ x.toInt) (h1 : x.toInt ≤ 127) (h2 : 0 ≤ f.toInt) (h3 : f.toInt ≤ 6) : 0 ≤ (x ||| (1 <<< (f &&& 31))).toInt ∧ (x ||| (1 <<< (f &&& 31))).toInt ≤ 127 := ⟨(or_pc h0 h1 h2 h3).1, (or_pc h0 h1 h2 h3).2.1⟩
theorem pc_less_all : ∀ x : Fin 128, ∀ g : Fin 128, ¬ g.val = 0 → (Int32.ofNat g.val &&& (Int32.ofNat x.val ^^^ (-1))) = 0 → pc (Int32.ofNat x.val &&& (Int32.ofNat g.val ^^^ (-1))) + 1 ≤ pc (Int32.ofNat x.val) := by decide +kernel
theorem pc_less {x g : Int32} (h0 : 0 ≤ x.toInt) (h1 : x.toInt ≤ 127) (hg : ¬ g.toInt = (0 : Int32).toInt) (hs : (g &&& (x ^^^ (-1))).toInt = (0 : Int32).toInt) : 0 ≤ (x &&& (g ^^^ (-1))).toInt ∧ (x &&& (g ^^^ (-1))).toInt < x.toInt ∧ pc (x &&& (g ^^^ (-1))) + 1 ≤ pc x := by
  have q : (0 : Int32).toInt = 0 := rfl
  have h2 := and_less h0 (by omega) hs
  refine ⟨h2.1, h2.2, ?_⟩
  have h3 := and_sub h0 hs
  have h4 := i32_and g x h0
  rw [h3] at h4
  have e := pc_less_all ⟨x.toInt.toNat, by omega⟩ ⟨g.toInt.toNat, by omega⟩ (by show ¬ g.toInt.toNat = 0; omega)
  rw [← i32_ofNat h0, ← i32_ofNat h4.1] at e
  exact e (Int32.toInt_inj.mp hs)
theorem LG_fr {t : Nat} {I I2 : jdI} {p : Nat → Nat → Prop} (h : LG t I) (hF : Fr p I I2) (h1 : ¬ p t 30) (h2 : ∀ k, ¬ p (t + 30) k) : LG t I2 := by
  intro i hi
  rw [hF t 30 h1] at hi
  rw [hF (t + 30) i (h2 i)]
  exact h i hi
theorem LG_uI {t a k : Nat} {I : jdI} {v : Int32} (h : LG t I) (h1 : ¬ a = t) (h2 : ¬ a = t + 30) : LG t (uI I a k v) := by
  intro i hi
  rw [uI_ap, if_neg (by omega)] at hi
  rw [uI_ap, if_neg (by omega)]
  exact h i hi
theorem ix_all : ∀ x : Fin 8, ∀ y : Fin 128, 0 ≤ ((Int32.ofNat x.val <<< (7 &&& 31)) ||| Int32.ofNat y.val).toInt ∧ ((Int32.ofNat x.val <<< (7 &&& 31)) ||| Int32.ofNat y.val).toInt < 1024 := by decide +kernel
theorem ix_1024 {x y : Int32} (h0 : 0 ≤ x.toInt) (h1 : x.toInt ≤ 7) (h2 : 0 ≤ y.toInt) (h3 : y.toInt ≤ 127) : 0 ≤ ((x <<< (7 &&& 31)) ||| y).toInt ∧ ((x <<< (7 &&& 31)) ||| y).toInt < 1024 := by
  have e := ix_all ⟨x.toInt.toNat, by omega⟩ ⟨y.toInt.toNat, by omega⟩
  rw [← i32_ofNat h0, ← i32_ofNat h2] at e
  exact e
theorem lX12_mostOf_48 {G : jdG} {n : Nat} {Z : jdL} {J : jdJ} {rc rs : Nat} {K : Int32 → jdI → jdJ → Prop}  {I0 : jdI} {t : Nat} {x1 : Int32} {x2 : Int32} (ht : zModel Z t)   (hK : ∀ (v : Int32) (I2 : jdI), WM 7 t I2 → Fr (fun a k => (a = t ∧ k = 30) ∨ a = t + 30 ∨ a = t + 17) I0 I2 → K v I2 J) : ∀ m : Nat, ∀ (I : jdI) (x3 : Int32) (x4 : Int32), WM 7 t I → Fr (fun a k => (a = t ∧ k = 30) ∨ a = t + 30 ∨ a = t + 17) I0 I → (0 ≤ x4.toInt ∧ x4.toInt ≤ x2.toInt) → (0 ≤ x3.toInt ∧ x3.toInt ≤ 127) → (LG t I) → x2.toInt - x4.toInt < (m : Int) → Jd G mX12_mostOf (jdFm G (qi Z K)) (n + 258) rc rs 48 [(0, .ref (gb G + t)), (1, .int x1), (2, .int x2), (3, .int x3), (4, .int x4)] [] Z I J := by
  intro m
  induction m with
  | zero =>
    intro I x3 x4 hW hF hx4 hx3 hL hm
    have hwI := WM_f hW
    omega
  | succ m ih =>
    intro I x3 x4 hW hF hx4 hx3 hL hm
    have hwI := WM_f hW
    refine rX12_mostOf_48 ht ?_
    refine ⟨fun hc1 => ?_, fun hc2 => ?_⟩
    · skip
      have q1 := i32_lo x2
      have q2 := i32_lo x4
      have hc1 := Int32.le_iff_toInt_le.mp hc1
      have q3 := i32_lo x3
      refine sfX12_bestIn ht hW (by assumption) (by omega) (fun v2  hp3 => ?_)
      have hnd := i32_and' x3 (v2 ^^^ (-1)) (by omega)
      exact hK _ _ hW hF
    · skip
      have q1 := i32_lo x2
      have q2 := i32_lo x4
      have hc2 := mt Int32.le_iff_toInt_le.mpr hc2
      have q3 := i32_lo x3
      refine sfX12_bestIn ht hW (by assumption) (by omega) (fun v4  hp4 => ?_)
      have hnd := i32_and' x3 (v4 ^^^ (-1)) (by omega)
      have q4 : (1 : Int32).toInt = 1 := rfl
      have q5 := i32_add x4 1 (by omega) (by omega)
      exact ih _ (x3 &&& (v4 ^^^ (-1))) (x4 + 1) hW hF (by omega) (by omega) (by assumption) (by omega)
theorem sfX12_mostOf {G : jdG} {n : Nat} {Z : jdL} {J : jdJ} {K : Int32 → jdI → jdJ → Prop}  {I : jdI} {t : Nat} {x1 : Int32} {x2 : Int32} (ht : zModel Z t)  (hW : WM 7 t I)  (hK : ∀ (v : Int32) (I2 : jdI), WM 7 t I2 → Fr (fun a k => (a = t ∧ k = 30) ∨ a = t + 30 ∨ a = t + 17) I I2 → K v I2 J) : Cl G mX12_mostOf (n + 258) 0 0 [.ref (gb G + t), .int x1, .int x2] Z I J (qi Z K) := by
  refine eX12_mostOf ht ?_
  have hwI := WM_f hW
  have q1 := i32_lo x1
  refine sfX12_isSet ht hW  (fun v2  hp1 => ?_)
  refine ⟨fun hc2 => ?_, fun hc3 => ?_⟩
  · skip
    have q2 := i32_lo v2
    have q3 : (0 : Int32).toInt = 0 := rfl
    have hc2 : ¬ (v2).toInt = (0 : Int32).toInt := fun z => hc2 (Int32.toInt_inj.mp z)
    refine sfX12_listAll ht (by decide) hW  (fun I3 hWI3 hFI3 hp4 => ?_)
    have hwI3 := WM_f hWI3
    have hLn := hp4.1
    refine sfX12_mostIn ht (by decide) hWI3 (by assumption) ⟨by omega, by omega⟩ (fun v6  => ?_)
    have q4 := i32_lo x2
    have q5 : (Int32.toInt64 x2).toInt = (x2).toInt := Int32.toInt_toInt64 _
    have q6 : (0 : Int64).toInt = 0 := rfl
    have q7 := i32_lo v6
    have q8 : (1 : Int32).toInt = 1 := rfl
    have q9 := i32_subI v6 1
    have q10 : (Int32.toInt64 (v6 - 1)).toInt = ((v6 - 1)).toInt := Int32.toInt_toInt64 _
    refine sfX12_in  trivial  (fun v8  hp6 => ?_)
    refine ⟨fun hc7 => ?_, fun hc8 => ?_⟩
    · skip
      have q11 := i32_lo v8
      have hc7 : ¬ (v8).toInt = (0 : Int32).toInt := fun z => hc7 (Int32.toInt_inj.mp z)
      exact lX12_mostOf_48 ht   hK  ((x2.toInt - (0 : Int32).toInt).toNat + 1) _ x1 0 hWI3 (Fr.tr Fr.rf hFI3 (by intro a k h; omega)) (by omega) (by omega) (by assumption) (by omega)
    · skip
      have q11 := i32_lo v8
      have hc8 := Int32.toInt_inj.mpr hc8
      have q12 : (-5 : Int32).toInt = -5 := rfl
      refine sfX12_refuse ht (by decide) hWI3 (by omega) (fun v10 I9 hWI9 hFI9 hp9 => ?_)
      have hwI9 := WM_f hWI9
      exact hK _ _ hWI9 (Fr.tr (Fr.tr Fr.rf hFI3 (by intro a k h; omega)) hFI9 (by intro a k h; omega))
  · skip
    have q2 := i32_lo v2
    have q3 : (0 : Int32).toInt = 0 := rfl
    have hc3 := Int32.toInt_inj.mpr hc3
    have q4 : (-2 : Int32).toInt = -2 := rfl
    refine sfX12_refuse ht (by decide) hW (by omega) (fun v12 I11 hWI11 hFI11 hp10 => ?_)
    have hwI11 := WM_f hWI11
    exact hK _ _ hWI11 (Fr.tr Fr.rf hFI11 (by intro a k h; omega))
theorem lX12_findComing_12 {G : jdG} {n : Nat} {Z : jdL} {J : jdJ} {rc rs : Nat} {K : jdI → jdJ → Prop}  {I0 : jdI} {mo4 : Nat} {t : Nat} (ht : zModel Z t)   (hK : ∀ (I2 : jdI), WM 7 t I2 → Fr (fun a k => a = t + 31) I0 I2 → K I2 J) (hO4 : ∀ (I : jdI) (x1 : Int32) (x2 : Int32), WM 7 t I → Fr (fun a k => a = t + 31) I0 I → (0 ≤ x2.toInt ∧ x2.toInt ≤ 24) → (0 ≤ x1.toInt ∧ x1.toInt + crI I0 t x2.toInt (0 : Int32).toInt ≤ 7) → 24 - x2.toInt < (mo4 : Int) → Jd G mX12_findComing (jdFm G (qv Z K)) n rc rs 4 [(0, .ref (gb G + t)), (1, .int x1), (2, .int x2)] [] Z I J) : ∀ m : Nat, ∀ (I : jdI) (x1 : Int32) (x2 : Int32) (x3 : Int32), WM 7 t I → Fr (fun a k => a = t + 31) I0 I → (0 ≤ x2.toInt ∧ x2.toInt ≤ 23) → (0 ≤ x3.toInt ∧ x3.toInt ≤ 7) → (0 ≤ x1.toInt ∧ x1.toInt + crI I0 t x2.toInt x3.toInt ≤ 7) → 24 - x2.toInt ≤ (mo4 : Int) → 7 - x3.toInt < (m : Int) → Jd G mX12_findComing (jdFm G (qv Z K)) n rc rs 12 [(0, .ref (gb G + t)), (1, .int x1), (2, .int x2), (3, .int x3)] [] Z I J := by
  intro m
  induction m with
  | zero =>
    intro I x1 x2 x3 hW hF hx2 hx3 hx1 hmo4 hm
    have hwI := WM_f hW
    omega
  | succ m ih =>
    intro I x1 x2 x3 hW hF hx2 hx3 hx1 hmo4 hm
    have hwI := WM_f hW
    refine rX12_findComing_12 ht ?_
    have hpe := congrArg Int32.toInt (hF t 10 (by omega))
    have hho := hF (t + 18) (Int32.toNatClampNeg x3) (by omega)
    have hnn := crI_nn I0 t x2.toInt x3.toInt
    have hen : (I t 10).toInt ≤ x3.toInt → crI I0 t (x2 + 1).toInt (0 : Int32).toInt ≤ crI I0 t x2.toInt x3.toInt := fun h => crI_end I0 t x2 x3 (by omega) (by omega) (by omega) (by omega)
    have hs1 := crI_step I0 t x2 x3 (by omega) (by omega)
    have hs3 := crI_nn I0 t x2.toInt (x3 + 1).toInt
    have hs2 : ¬ (I t 10).toInt ≤ x3.toInt → (I (t + 18) (Int32.toNatClampNeg x3)).toInt = x2.toInt → crI I0 t x2.toInt (x3 + 1).toInt + 1 ≤ crI I0 t x2.toInt x3.toInt := fun h h2 => crI_hit I0 t x2 x3 (by omega) (by omega) (by omega) (by rw [← hho]; exact h2)
    refine ⟨fun hc1 => ?_, fun hc2 => ?_⟩
    · skip
      have q1 := i32_lo (I t 10)
      have q2 := i32_lo x3
      have hc1 := Int32.le_iff_toInt_le.mp hc1
      have q3 := i32_lo x1
      have q4 := i32_lo x2
      have q5 : (1 : Int32).toInt = 1 := rfl
      have q6 := i32_add x2 1 (by omega) (by omega)
      exact hO4 _ x1 (x2 + 1) hW hF (by omega) (by omega) (by omega)
    · skip
      have q1 := i32_lo (I t 10)
      have q2 := i32_lo x3
      have hc2 := mt Int32.le_iff_toInt_le.mpr hc2
      refine ⟨vp_of (by omega) (by omega), ?_⟩
      refine ⟨fun hc3 => ?_, fun hc4 => ?_⟩
      · skip
        have q3 := i32_lo x2
        have hc3 : ¬ ((I (t + 18) (Int32.toNatClampNeg x3))).toInt = (x2).toInt := fun z => hc3 (Int32.toInt_inj.mp z)
        have q4 := i32_lo x1
        have q5 : (1 : Int32).toInt = 1 := rfl
        have q6 := i32_add x3 1 (by omega) (by omega)
        exact ih _ x1 x2 (x3 + 1) hW hF (by omega) (by omega) (by omega) (by omega) (by omega)
      · skip
        have q3 := i32_lo x2
        have hc4 := Int32.toInt_inj.mpr hc4
        have q4 := i32_lo x1
        refine ⟨vp_of (by omega) (by omega), ?_⟩
        have q5 : (1 : Int32).toInt = 1 := rfl
        have q6 := i32_add x1 1 (by omega) (by omega)
        have q7 := i32_add x3 1 (by omega) (by omega)
        exact ih _ (x1 + 1) x2 (x3 + 1) (WM_uI hW (by first | exact okMo (by decide) (by decide) (by decide) (by decide) (by decide) | exact okMf (by decide) (by decide) (by decide) (by decide) (by decide) (by decide) (by decide) (by decide) | exact okM30 (by omega) | exact okM42 (by omega) | exact okM33 (by omega) | exact okM10 (by omega) | exact okM8 (by omega) | exact okM22 (by omega) | exact okM24 (by omega) | exact okM14 (by omega) | exact okMa31 (by omega) | exact okMa35 (by omega) | exact okMa36 (by omega) | exact okMa3 (by omega) | exact okMr (by omega) | (unfold okM; refine ⟨?_, ?_, ?_, ?_, ?_, ?_, ?_, ?_, ?_, ?_, ?_, ?_⟩ <;> intro h <;> omega))) (Fr_uI hF (by omega)) (by omega) (by omega) (by omega) (by omega) (by omega)
theorem lX12_findComing_4 {G : jdG} {n : Nat} {Z : jdL} {J : jdJ} {rc rs : Nat} {K : jdI → jdJ → Prop}  {I0 : jdI} {t : Nat} (ht : zModel Z t)   (hK : ∀ (I2 : jdI), WM 7 t I2 → Fr (fun a k => a = t + 31) I0 I2 → K I2 J) : ∀ m : Nat, ∀ (I : jdI) (x1 : Int32) (x2 : Int32), WM 7 t I → Fr (fun a k => a = t + 31) I0 I → (0 ≤ x2.toInt ∧ x2.toInt ≤ 24) → (0 ≤ x1.toInt ∧ x1.toInt + crI I0 t x2.toInt (0 : Int32).toInt ≤ 7) → 24 - x2.toInt < (m : Int) → Jd G mX12_findComing (jdFm G (qv Z K)) n rc rs 4 [(0, .ref (gb G + t)), (1, .int x1), (2, .int x2)] [] Z I J := by
  intro m
  induction m with
  | zero =>
    intro I x1 x2 hW hF hx2 hx1 hm
    have hwI := WM_f hW
    omega
  | succ m ih =>
    intro I x1 x2 hW hF hx2 hx1 hm
    have hwI := WM_f hW
    refine rX12_findComing_4 ht ?_
    refine ⟨fun hc1 => ?_, fun hc2 => ?_⟩
    · skip
      have q1 : (24 : Int32).toInt = 24 := rfl
      have q2 := i32_lo x2
      have hc1 := Int32.le_iff_toInt_le.mp hc1
      exact hK _ hW hF
    · skip
      have q1 : (24 : Int32).toInt = 24 := rfl
      have q2 := i32_lo x2
      have hc2 := mt Int32.le_iff_toInt_le.mpr hc2
      have q3 := i32_lo x1
      have q4 : (0 : Int32).toInt = 0 := rfl
      exact lX12_findComing_12 ht   hK ih ((7 - (0 : Int32).toInt).toNat + 1) _ x1 x2 0 hW hF (by omega) (by omega) (by omega) (by omega) (by omega)
theorem sfX12_findComing {G : jdG} {n : Nat} {Z : jdL} {J : jdJ} {K : jdI → jdJ → Prop}  {I : jdI} {t : Nat} (ht : zModel Z t)  (hW : WM 7 t I)  (hK : ∀ (I2 : jdI), WM 7 t I2 → Fr (fun a k => a = t + 31) I I2 → K I2 J) : Cl G mX12_findComing n 0 0 [.ref (gb G + t)] Z I J (qv Z K) := by
  refine eX12_findComing ht ?_
  have hwI := WM_f hW
  have hcr := crI_le I t (0 : Int32).toInt (0 : Int32).toInt (by omega)
  have q1 : (0 : Int32).toInt = 0 := rfl
  exact lX12_findComing_4 ht   hK  ((24 - (0 : Int32).toInt).toNat + 1) _ 0 0 hW Fr.rf (by omega) (by omega) (by omega)
theorem lX12_goesBy_100 {G : jdG} {n : Nat} {Z : jdL} {J : jdJ} {rc rs : Nat} {K : jdI → jdJ → Prop}  {I0 : jdI} {mo67 : Nat} {mo14 : Nat} {t : Nat} {x1 : Int32} {x2 : Int32} (ht : zModel Z t)   (hK : ∀ (I2 : jdI), WM 7 t I2 → Fr (fun a k => (a = t ∧ (k = 30 ∨ k = 33 ∨ k = 34)) ∨ (t + 30 ≤ a ∧ a ≤ t + 33)) I0 I2 → K I2 J) (hO67 : ∀ (I : jdI) (x3 : Int32) (x4 : Int32) (x5 : Int32) (x6 : Int32), WM 7 t I → Fr (fun a k => (a = t ∧ (k = 30 ∨ k = 33 ∨ k = 34)) ∨ (t + 30 ≤ a ∧ a ≤ t + 33)) I0 I → (0 ≤ x4.toInt ∧ x4.toInt ≤ 6) → (0 ≤ x3.toInt ∧ x3.toInt ≤ 127) → ((I t 33).toInt + pc x3 ≤ x4.toInt + 1) → (x6.toInt = 0 ∨ (x6 &&& (x3 ^^^ (-1))).toInt = 0) → (7) - x4.toInt ≤ (mo14 : Int) → x3.toInt < (mo67 : Int) → Jd G mX12_goesBy (jdFm G (qv Z K)) (n + 259) rc rs 67 [(0, .ref (gb G + t)), (1, .int x1), (2, .int x2), (3, .int x3), (4, .int x4), (5, .int x5), (6, .int x6)] [] Z I J) (hO14 : ∀ (I : jdI) (x3 : Int32) (x4 : Int32), WM 7 t I → Fr (fun a k => (a = t ∧ (k = 30 ∨ k = 33 ∨ k = 34)) ∨ (t + 30 ≤ a ∧ a ≤ t + 33)) I0 I → (0 ≤ x4.toInt ∧ x4.toInt ≤ 7) → (0 ≤ x3.toInt ∧ x3.toInt ≤ 127) → ((I t 33).toInt + pc x3 ≤ x4.toInt) → (7) - x4.toInt < (mo14 : Int) → Jd G mX12_goesBy (jdFm G (qv Z K)) (n + 259) rc rs 14 [(0, .ref (gb G + t)), (1, .int x1), (2, .int x2), (3, .int x3), (4, .int x4)] [] Z I J) : ∀ m : Nat, ∀ (I : jdI) (x3 : Int32) (x4 : Int32) (x5 : Int32) (x6 : Int32) (x7 : Int32), WM 7 t I → Fr (fun a k => (a = t ∧ (k = 30 ∨ k = 33 ∨ k = 34)) ∨ (t + 30 ≤ a ∧ a ≤ t + 33)) I0 I → (0 ≤ x7.toInt ∧ x7.toInt ≤ 7) → (0 ≤ x4.toInt ∧ x4.toInt ≤ 6) → (0 ≤ x3.toInt ∧ x3.toInt ≤ 127) → ((I t 33).toInt + pc x3 ≤ x4.toInt + 1) → (x3.toInt < (mo67 : Int)) → x3.toInt ≤ (mo67 : Int) → (7) - x4.toInt ≤ (mo14 : Int) → (7) - x7.toInt < (m : Int) → Jd G mX12_goesBy (jdFm G (qv Z K)) (n + 259) rc rs 100 [(0, .ref (gb G + t)), (1, .int x1), (2, .int x2), (3, .int x3), (4, .int x4), (5, .int x5), (6, .int x6), (7, .int x7)] [] Z I J := by
  intro m
  induction m with
  | zero =>
    intro I x3 x4 x5 x6 x7 hW hF hx7 hx4 hx3 hwe hxm hmo67 hmo14 hm
    have hwI := WM_f hW
    omega
  | succ m ih =>
    intro I x3 x4 x5 x6 x7 hW hF hx7 hx4 hx3 hwe hxm hmo67 hmo14 hm
    have hwI := WM_f hW
    refine rX12_goesBy_100 ht ?_
    refine ⟨fun hc1 => ?_, fun hc2 => ?_⟩
    · skip
      have q1 := i32_lo (I t 10)
      have q2 := i32_lo x7
      have hc1 := Int32.le_iff_toInt_le.mp hc1
      have q3 := i32_lo x3
      refine sfX12_sentBy ht hW (by omega) (fun v2 I1 hWI1 hFI1 hp3 => ?_)
      have hwI1 := WM_f hWI1
      first | have hk4 : (I1 t 10).toInt = (I t 10).toInt := (by rw [hFI1 t 10 (by omega)]) | skip
      first | have hk5 : (I1 t 33).toInt = (I t 33).toInt := (by rw [hFI1 t 33 (by omega)]) | skip
      have q4 := i32_lo x4
      exact hO67 _ x3 x4 x5 v2 hWI1 (Fr.tr hF hFI1 (by intro a k h; omega)) (by omega) (by omega) (by omega) (by assumption) (by omega) (by omega)
    · skip
      have q1 := i32_lo (I t 10)
      have q2 := i32_lo x7
      have hc2 := mt Int32.le_iff_toInt_le.mpr hc2
      have q3 := i32_lo x6
      refine sfX12_has  trivial  (fun v4  hp6 => ?_)
      refine ⟨fun hc7 => ?_, fun hc8 => ?_⟩
      · skip
        have q4 := i32_lo v4
        have q5 : (0 : Int32).toInt = 0 := rfl
        have hc7 := Int32.toInt_inj.mpr hc7
        refine ⟨vp_of (by omega) (by omega), ?_⟩
        refine ⟨vp_of (by omega) (by omega), ?_⟩
        have q6 := i32_lo x4
        have q7 : (1 : Int32).toInt = 1 := rfl
        have q8 := i32_add x7 1 (by omega) (by omega)
        have hr9 : (((uI I (t + 33) (Int32.toNatClampNeg x7) (I (t + 33) (Int32.toNatClampNeg x7)))) t 33).toInt = ((I t 33)).toInt := congrArg Int32.toInt (uI_ne (by omega) rfl)
        exact ih _ x3 x4 x5 x6 (x7 + 1) (WM_uI hW (by first | exact okMo (by decide) (by decide) (by decide) (by decide) (by decide) | exact okMf (by decide) (by decide) (by decide) (by decide) (by decide) (by decide) (by decide) (by decide) | exact okM30 (by omega) | exact okM42 (by omega) | exact okM33 (by omega) | exact okM10 (by omega) | exact okM8 (by omega) | exact okM22 (by omega) | exact okM24 (by omega) | exact okM14 (by omega) | exact okMa31 (by omega) | exact okMa35 (by omega) | exact okMa36 (by omega) | exact okMa3 (by omega) | exact okMr (by omega) | (unfold okM; refine ⟨?_, ?_, ?_, ?_, ?_, ?_, ?_, ?_, ?_, ?_, ?_, ?_⟩ <;> intro h <;> omega))) (Fr_uI hF (by omega)) (by omega) (by omega) (by omega) (by omega) (by omega) (by omega) (by omega) (by omega)
      · skip
        have q4 := i32_lo v4
        have q5 : (0 : Int32).toInt = 0 := rfl
        have hc8 : ¬ (v4).toInt = (0 : Int32).toInt := fun z => hc8 (Int32.toInt_inj.mp z)
        refine ⟨vp_of (by omega) (by omega), ?_⟩
        refine ⟨vp_of (by omega) (by omega), ?_⟩
        refine ⟨vp_of (by omega) (by omega), ?_⟩
        have q6 := i32_lo x4
        have q7 : (1 : Int32).toInt = 1 := rfl
        have q8 := i32_add x7 1 (by omega) (by omega)
        have hr10 : (((uI I (t + 33) (Int32.toNatClampNeg x7) ((I (t + 19) (Int32.toNatClampNeg x7)) * (x5 - (I (t + 18) (Int32.toNatClampNeg x7)))))) t 33).toInt = ((I t 33)).toInt := congrArg Int32.toInt (uI_ne (by omega) rfl)
        exact ih _ x3 x4 x5 x6 (x7 + 1) (WM_uI hW (by first | exact okMo (by decide) (by decide) (by decide) (by decide) (by decide) | exact okMf (by decide) (by decide) (by decide) (by decide) (by decide) (by decide) (by decide) (by decide) | exact okM30 (by omega) | exact okM42 (by omega) | exact okM33 (by omega) | exact okM10 (by omega) | exact okM8 (by omega) | exact okM22 (by omega) | exact okM24 (by omega) | exact okM14 (by omega) | exact okMa31 (by omega) | exact okMa35 (by omega) | exact okMa36 (by omega) | exact okMa3 (by omega) | exact okMr (by omega) | (unfold okM; refine ⟨?_, ?_, ?_, ?_, ?_, ?_, ?_, ?_, ?_, ?_, ?_, ?_⟩ <;> intro h <;> omega))) (Fr_uI hF (by omega)) (by omega) (by omega) (by omega) (by omega) (by omega) (by omega) (by omega) (by omega)
theorem lX12_goesBy_67 {G : jdG} {n : Nat} {Z : jdL} {J : jdJ} {rc rs : Nat} {K : jdI → jdJ → Prop}  {I0 : jdI} {mo14 : Nat} {t : Nat} {x1 : Int32} {x2 : Int32} (ht : zModel Z t)   (hK : ∀ (I2 : jdI), WM 7 t I2 → Fr (fun a k => (a = t ∧ (k = 30 ∨ k = 33 ∨ k = 34)) ∨ (t + 30 ≤ a ∧ a ≤ t + 33)) I0 I2 → K I2 J) (hO14 : ∀ (I : jdI) (x3 : Int32) (x4 : Int32), WM 7 t I → Fr (fun a k => (a = t ∧ (k = 30 ∨ k = 33 ∨ k = 34)) ∨ (t + 30 ≤ a ∧ a ≤ t + 33)) I0 I → (0 ≤ x4.toInt ∧ x4.toInt ≤ 7) → (0 ≤ x3.toInt ∧ x3.toInt ≤ 127) → ((I t 33).toInt + pc x3 ≤ x4.toInt) → (7) - x4.toInt < (mo14 : Int) → Jd G mX12_goesBy (jdFm G (qv Z K)) (n + 259) rc rs 14 [(0, .ref (gb G + t)), (1, .int x1), (2, .int x2), (3, .int x3), (4, .int x4)] [] Z I J) : ∀ m : Nat, ∀ (I : jdI) (x3 : Int32) (x4 : Int32) (x5 : Int32) (x6 : Int32), WM 7 t I → Fr (fun a k => (a = t ∧ (k = 30 ∨ k = 33 ∨ k = 34)) ∨ (t + 30 ≤ a ∧ a ≤ t + 33)) I0 I → (0 ≤ x4.toInt ∧ x4.toInt ≤ 6) → (0 ≤ x3.toInt ∧ x3.toInt ≤ 127) → ((I t 33).toInt + pc x3 ≤ x4.toInt + 1) → (x6.toInt = 0 ∨ (x6 &&& (x3 ^^^ (-1))).toInt = 0) → (7) - x4.toInt ≤ (mo14 : Int) → x3.toInt < (m : Int) → Jd G mX12_goesBy (jdFm G (qv Z K)) (n + 259) rc rs 67 [(0, .ref (gb G + t)), (1, .int x1), (2, .int x2), (3, .int x3), (4, .int x4), (5, .int x5), (6, .int x6)] [] Z I J := by
  intro m
  induction m with
  | zero =>
    intro I x3 x4 x5 x6 hW hF hx4 hx3 hwe hg hmo14 hm
    have hwI := WM_f hW
    omega
  | succ m ih =>
    intro I x3 x4 x5 x6 hW hF hx4 hx3 hwe hg hmo14 hm
    have hwI := WM_f hW
    refine rX12_goesBy_67 ht ?_
    have hsub : ¬ x6.toInt = (0 : Int32).toInt → 0 ≤ (x3 &&& (x6 ^^^ (-1))).toInt ∧ (x3 &&& (x6 ^^^ (-1))).toInt < x3.toInt ∧ pc (x3 &&& (x6 ^^^ (-1))) + 1 ≤ pc x3 := fun h => pc_less (by omega) (by omega) h (hg.resolve_left h)
    have hpn := pc_nn (x3 &&& (x6 ^^^ (-1)))
    refine ⟨fun hc1 => ?_, fun hc2 => ?_⟩
    · skip
      have q1 := i32_lo x6
      have q2 : (0 : Int32).toInt = 0 := rfl
      have hc1 := Int32.toInt_inj.mpr hc1
      have q3 := i32_lo x4
      have q4 : (1 : Int32).toInt = 1 := rfl
      have q5 := i32_add x4 1 (by omega) (by omega)
      have hpz := pc_z
      exact hO14 _ x3 (x4 + 1) hW hF (by omega) (by omega) (by omega) (by omega)
    · skip
      have q1 := i32_lo x6
      have q2 : (0 : Int32).toInt = 0 := rfl
      have hc2 : ¬ (x6).toInt = (0 : Int32).toInt := fun z => hc2 (Int32.toInt_inj.mp z)
      have q3 := i32_lo (I t 33)
      refine ⟨vp_of (by omega) (by omega), ?_⟩
      have q4 := i32_lo x4
      have q5 : (1 : Int32).toInt = 1 := rfl
      have q6 := i32_add (I t 33) 1 (by omega) (by omega)
      have hr3 : (((uI (uI I t 33 ((I t 33) + 1)) (t + 32) (Int32.toNatClampNeg (I t 33)) x6)) t 33).toInt = (((I t 33) + 1)).toInt := congrArg Int32.toInt (uI_ne (by omega) (uI_ss _ _ _ _))
      exact lX12_goesBy_100 ht   hK ih hO14 (((7) - (0 : Int32).toInt).toNat + 1) _ (x3 &&& (x6 ^^^ (-1))) x4 x5 x6 0 (WM_uI (WM_uI hW (by first | exact okMo (by decide) (by decide) (by decide) (by decide) (by decide) | exact okMf (by decide) (by decide) (by decide) (by decide) (by decide) (by decide) (by decide) (by decide) | exact okM30 (by omega) | exact okM42 (by omega) | exact okM33 (by omega) | exact okM10 (by omega) | exact okM8 (by omega) | exact okM22 (by omega) | exact okM24 (by omega) | exact okM14 (by omega) | exact okMa31 (by omega) | exact okMa35 (by omega) | exact okMa36 (by omega) | exact okMa3 (by omega) | exact okMr (by omega) | (unfold okM; refine ⟨?_, ?_, ?_, ?_, ?_, ?_, ?_, ?_, ?_, ?_, ?_, ?_⟩ <;> intro h <;> omega))) (by first | exact okMo (by decide) (by decide) (by decide) (by decide) (by decide) | exact okMf (by decide) (by decide) (by decide) (by decide) (by decide) (by decide) (by decide) (by decide) | exact okM30 (by omega) | exact okM42 (by omega) | exact okM33 (by omega) | exact okM10 (by omega) | exact okM8 (by omega) | exact okM22 (by omega) | exact okM24 (by omega) | exact okM14 (by omega) | exact okMa31 (by omega) | exact okMa35 (by omega) | exact okMa36 (by omega) | exact okMa3 (by omega) | exact okMr (by omega) | (unfold okM; refine ⟨?_, ?_, ?_, ?_, ?_, ?_, ?_, ?_, ?_, ?_, ?_, ?_⟩ <;> intro h <;> omega))) (Fr_uI (Fr_uI hF (by omega)) (by omega)) (by omega) (by omega) (by omega) (by omega) (by omega) (by omega) (by omega) (by omega)
theorem lX12_goesBy_195 {G : jdG} {n : Nat} {Z : jdL} {J : jdJ} {rc rs : Nat} {K : jdI → jdJ → Prop}  {I0 : jdI} {t : Nat} {x1 : Int32} {x2 : Int32} (ht : zModel Z t)   (hK : ∀ (I2 : jdI), WM 7 t I2 → Fr (fun a k => (a = t ∧ (k = 30 ∨ k = 33 ∨ k = 34)) ∨ (t + 30 ≤ a ∧ a ≤ t + 33)) I0 I2 → K I2 J) : ∀ m : Nat, ∀ (I : jdI) (x3 : Int32) (x4 : Int32), WM 7 t I → Fr (fun a k => (a = t ∧ (k = 30 ∨ k = 33 ∨ k = 34)) ∨ (t + 30 ≤ a ∧ a ≤ t + 33)) I0 I → (0 ≤ x4.toInt ∧ x4.toInt ≤ 7) → (7) - x4.toInt < (m : Int) → Jd G mX12_goesBy (jdFm G (qv Z K)) (n + 259) rc rs 195 [(0, .ref (gb G + t)), (1, .int x1), (2, .int x2), (3, .int x3), (4, .int x4)] [] Z I J := by
  intro m
  induction m with
  | zero =>
    intro I x3 x4 hW hF hx4 hm
    have hwI := WM_f hW
    omega
  | succ m ih =>
    intro I x3 x4 hW hF hx4 hm
    have hwI := WM_f hW
    refine rX12_goesBy_195 ht ?_
    refine ⟨fun hc1 => ?_, fun hc2 => ?_⟩
    · skip
      have q1 := i32_lo (I t 10)
      have q2 := i32_lo x4
      have hc1 := Int32.le_iff_toInt_le.mp hc1
      exact hK _ hW hF
    · skip
      have q1 := i32_lo (I t 10)
      have q2 := i32_lo x4
      have hc2 := mt Int32.le_iff_toInt_le.mpr hc2
      have q3 := i32_lo x3
      refine sfX12_has  trivial  (fun v2  hp3 => ?_)
      refine ⟨fun hc4 => ?_, fun hc5 => ?_⟩
      · skip
        have q4 := i32_lo v2
        have q5 : (0 : Int32).toInt = 0 := rfl
        have hc4 := Int32.toInt_inj.mpr hc4
        refine ⟨vp_of (by omega) (by omega), ?_⟩
        refine ⟨vp_of (by omega) (by omega), ?_⟩
        have q6 : (1 : Int32).toInt = 1 := rfl
        have q7 := i32_add x4 1 (by omega) (by omega)
        exact ih _ x3 (x4 + 1) (WM_uI hW (by first | exact okMo (by decide) (by decide) (by decide) (by decide) (by decide) | exact okMf (by decide) (by decide) (by decide) (by decide) (by decide) (by decide) (by decide) (by decide) | exact okM30 (by omega) | exact okM42 (by omega) | exact okM33 (by omega) | exact okM10 (by omega) | exact okM8 (by omega) | exact okM22 (by omega) | exact okM24 (by omega) | exact okM14 (by omega) | exact okMa31 (by omega) | exact okMa35 (by omega) | exact okMa36 (by omega) | exact okMa3 (by omega) | exact okMr (by omega) | (unfold okM; refine ⟨?_, ?_, ?_, ?_, ?_, ?_, ?_, ?_, ?_, ?_, ?_, ?_⟩ <;> intro h <;> omega))) (Fr_uI hF (by omega)) (by omega) (by omega)
      · skip
        have q4 := i32_lo v2
        have q5 : (0 : Int32).toInt = 0 := rfl
        have hc5 : ¬ (v2).toInt = (0 : Int32).toInt := fun z => hc5 (Int32.toInt_inj.mp z)
        refine ⟨vp_of (by omega) (by omega), ?_⟩
        refine ⟨vp_of (by omega) (by omega), ?_⟩
        refine ⟨vp_of (by omega) (by omega), ?_⟩
        have q6 : (1 : Int32).toInt = 1 := rfl
        have q7 := i32_add x4 1 (by omega) (by omega)
        exact ih _ x3 (x4 + 1) (WM_uI hW (by first | exact okMo (by decide) (by decide) (by decide) (by decide) (by decide) | exact okMf (by decide) (by decide) (by decide) (by decide) (by decide) (by decide) (by decide) (by decide) | exact okM30 (by omega) | exact okM42 (by omega) | exact okM33 (by omega) | exact okM10 (by omega) | exact okM8 (by omega) | exact okM22 (by omega) | exact okM24 (by omega) | exact okM14 (by omega) | exact okMa31 (by omega) | exact okMa35 (by omega) | exact okMa36 (by omega) | exact okMa3 (by omega) | exact okMr (by omega) | (unfold okM; refine ⟨?_, ?_, ?_, ?_, ?_, ?_, ?_, ?_, ?_, ?_, ?_, ?_⟩ <;> intro h <;> omega))) (Fr_uI hF (by omega)) (by omega) (by omega)
theorem lX12_goesBy_14 {G : jdG} {n : Nat} {Z : jdL} {J : jdJ} {rc rs : Nat} {K : jdI → jdJ → Prop}  {I0 : jdI} {t : Nat} {x1 : Int32} {x2 : Int32} (ht : zModel Z t)   (hK : ∀ (I2 : jdI), WM 7 t I2 → Fr (fun a k => (a = t ∧ (k = 30 ∨ k = 33 ∨ k = 34)) ∨ (t + 30 ≤ a ∧ a ≤ t + 33)) I0 I2 → K I2 J) : ∀ m : Nat, ∀ (I : jdI) (x3 : Int32) (x4 : Int32), WM 7 t I → Fr (fun a k => (a = t ∧ (k = 30 ∨ k = 33 ∨ k = 34)) ∨ (t + 30 ≤ a ∧ a ≤ t + 33)) I0 I → (0 ≤ x4.toInt ∧ x4.toInt ≤ 7) → (0 ≤ x3.toInt ∧ x3.toInt ≤ 127) → ((I t 33).toInt + pc x3 ≤ x4.toInt) → (7) - x4.toInt < (m : Int) → Jd G mX12_goesBy (jdFm G (qv Z K)) (n + 259) rc rs 14 [(0, .ref (gb G + t)), (1, .int x1), (2, .int x2), (3, .int x3), (4, .int x4)] [] Z I J := by
  intro m
  induction m with
  | zero =>
    intro I x3 x4 hW hF hx4 hx3 hwe hm
    have hwI := WM_f hW
    omega
  | succ m ih =>
    intro I x3 x4 hW hF hx4 hx3 hwe hm
    have hwI := WM_f hW
    refine rX12_goesBy_14 ht ?_
    have hor : ¬ (I t 10).toInt ≤ x4.toInt → 0 ≤ (x3 ||| (1 <<< ((I (t + 31) (Int32.toNatClampNeg x4)) &&& 31))).toInt ∧ (x3 ||| (1 <<< ((I (t + 31) (Int32.toNatClampNeg x4)) &&& 31))).toInt ≤ 127 ∧ pc (x3 ||| (1 <<< ((I (t + 31) (Int32.toNatClampNeg x4)) &&& 31))) ≤ pc x3 + 1 := fun h => by
      have hcm := WM_coming hW (k := Int32.toNatClampNeg x4) (by rw [tn_eq]; omega)
      exact or_pc (by omega) (by omega) (by omega) (by omega)
    have hcm : ¬ (I t 10).toInt ≤ x4.toInt → 0 ≤ (I (t + 31) (Int32.toNatClampNeg x4)).toInt ∧ (I (t + 31) (Int32.toNatClampNeg x4)).toInt ≤ 6 := fun h => WM_coming hW (by rw [tn_eq]; omega)
    refine ⟨fun hc1 => ?_, fun hc2 => ?_⟩
    · skip
      have q1 := i32_lo (I t 10)
      have q2 := i32_lo x4
      have hc1 := Int32.le_iff_toInt_le.mp hc1
      have q3 : (0 : Int32).toInt = 0 := rfl
      exact lX12_goesBy_195 ht   hK  (((7) - (0 : Int32).toInt).toNat + 1) _ x3 0 (WM_uI hW (by first | exact okMo (by decide) (by decide) (by decide) (by decide) (by decide) | exact okMf (by decide) (by decide) (by decide) (by decide) (by decide) (by decide) (by decide) (by decide) | exact okM30 (by omega) | exact okM42 (by omega) | exact okM33 (by omega) | exact okM10 (by omega) | exact okM8 (by omega) | exact okM22 (by omega) | exact okM24 (by omega) | exact okM14 (by omega) | exact okMa31 (by omega) | exact okMa35 (by omega) | exact okMa36 (by omega) | exact okMa3 (by omega) | exact okMr (by omega) | (unfold okM; refine ⟨?_, ?_, ?_, ?_, ?_, ?_, ?_, ?_, ?_, ?_, ?_, ?_⟩ <;> intro h <;> omega))) (Fr_uI hF (by omega)) (by omega) (by omega)
    · skip
      have q1 := i32_lo (I t 10)
      have q2 := i32_lo x4
      have hc2 := mt Int32.le_iff_toInt_le.mpr hc2
      refine ⟨vp_of (by omega) (by omega), ?_⟩
      refine ⟨vp_of (by omega) (by omega), ?_⟩
      refine ⟨vp_of (by omega) (by omega), ?_⟩
      have q3 := i32_lo x3
      have q4 : (1 : Int32).toInt = 1 := rfl
      have q5 : (31 : Int32).toInt = 31 := rfl
      refine sfX12_sentBy ht hW (by omega) (fun v5 I4 hWI4 hFI4 hp3 => ?_)
      have hwI4 := WM_f hWI4
      first | have hk4 : (I4 t 10).toInt = (I t 10).toInt := (by rw [hFI4 t 10 (by omega)]) | skip
      first | have hk5 : (I4 t 33).toInt = (I t 33).toInt := (by rw [hFI4 t 33 (by omega)]) | skip
      exact lX12_goesBy_67 ht   hK ih (((x3 ||| (1 <<< ((I (t + 31) (Int32.toNatClampNeg x4)) &&& 31))).toInt).toNat + 1) _ (x3 ||| (1 <<< ((I (t + 31) (Int32.toNatClampNeg x4)) &&& 31))) x4 (I (t + 18) (Int32.toNatClampNeg (I (t + 31) (Int32.toNatClampNeg x4)))) v5 hWI4 (Fr.tr hF hFI4 (by intro a k h; omega)) (by omega) (by omega) (by omega) (by assumption) (by omega) (by omega)
theorem sfX12_goesBy {G : jdG} {n : Nat} {Z : jdL} {J : jdJ} {K : jdI → jdJ → Prop}  {I : jdI} {t : Nat} {x1 : Int32} {x2 : Int32} (ht : zModel Z t)  (hW : WM 7 t I)  (hK : ∀ (I2 : jdI), WM 7 t I2 → Fr (fun a k => (a = t ∧ (k = 30 ∨ k = 33 ∨ k = 34)) ∨ (t + 30 ≤ a ∧ a ≤ t + 33)) I I2 → K I2 J) : Cl G mX12_goesBy (n + 259) 0 0 [.ref (gb G + t), .int x1, .int x2] Z I J (qv Z K) := by
  refine eX12_goesBy ht ?_
  have hwI := WM_f hW
  refine sfX12_findComing ht hW  (fun I1 hWI1 hFI1 => ?_)
  have hwI1 := WM_f hWI1
  first | have hk2 : (I1 t 10).toInt = (I t 10).toInt := (by rw [hFI1 t 10 (by omega)]) | skip
  first | have hk3 : (I1 t 33).toInt = (I t 33).toInt := (by rw [hFI1 t 33 (by omega)]) | skip
  have q1 : (0 : Int32).toInt = 0 := rfl
  have hr4 : (((uI I1 t 33 0)) t 33).toInt = ((0 : Int32)).toInt := congrArg Int32.toInt (uI_ss _ _ _ _)
  have hpz := pc_z
  exact lX12_goesBy_14 ht   hK  (((7) - (0 : Int32).toInt).toNat + 1) _ 0 0 (WM_uI hWI1 (by first | exact okMo (by decide) (by decide) (by decide) (by decide) (by decide) | exact okMf (by decide) (by decide) (by decide) (by decide) (by decide) (by decide) (by decide) (by decide) | exact okM30 (by omega) | exact okM42 (by omega) | exact okM33 (by omega) | exact okM10 (by omega) | exact okM8 (by omega) | exact okM22 (by omega) | exact okM24 (by omega) | exact okM14 (by omega) | exact okMa31 (by omega) | exact okMa35 (by omega) | exact okMa36 (by omega) | exact okMa3 (by omega) | exact okMr (by omega) | (unfold okM; refine ⟨?_, ?_, ?_, ?_, ?_, ?_, ?_, ?_, ?_, ?_, ?_, ?_⟩ <;> intro h <;> omega))) (Fr_uI (Fr.tr Fr.rf hFI1 (by intro a k h; omega)) (by omega)) (by omega) (by omega) (by omega) (by omega)
theorem lX12_waitedAll_4 {G : jdG} {n : Nat} {Z : jdL} {J : jdJ} {rc rs : Nat} {K : Int32 → jdI → jdJ → Prop}  {I : jdI} {t : Nat} (ht : zModel Z t)  (hW : WM 7 t I)  (hK : ∀ (v : Int32), K v I J) : ∀ m : Nat, ∀ (x1 : Int32) (x2 : Int32), (0 ≤ x2.toInt ∧ x2.toInt ≤ 7) → (7) - x2.toInt < (m : Int) → Jd G mX12_waitedAll (jdFm G (qi Z K)) n rc rs 4 [(0, .ref (gb G + t)), (1, .int x1), (2, .int x2)] [] Z I J := by
  intro m
  induction m with
  | zero =>
    intro x1 x2 hx2 hm
    have hwI := WM_f hW
    omega
  | succ m ih =>
    intro x1 x2 hx2 hm
    have hwI := WM_f hW
    refine rX12_waitedAll_4 ht ?_
    refine ⟨fun hc1 => ?_, fun hc2 => ?_⟩
    · skip
      have q1 := i32_lo (I t 10)
      have q2 := i32_lo x2
      have hc1 := Int32.le_iff_toInt_le.mp hc1
      exact hK _ 
    · skip
      have q1 := i32_lo (I t 10)
      have q2 := i32_lo x2
      have hc2 := mt Int32.le_iff_toInt_le.mpr hc2
      refine ⟨vp_of (by omega) (by omega), ?_⟩
      have q3 : (1 : Int32).toInt = 1 := rfl
      have q4 := i32_add x2 1 (by omega) (by omega)
      exact ih (x1 + (I (t + 33) (Int32.toNatClampNeg x2))) (x2 + 1) (by omega) (by omega)
theorem sfX12_waitedAll {G : jdG} {n : Nat} {Z : jdL} {J : jdJ} {K : Int32 → jdI → jdJ → Prop}  {I : jdI} {t : Nat} (ht : zModel Z t)  (hW : WM 7 t I)  (hK : ∀ (v : Int32), K v I J) : Cl G mX12_waitedAll n 0 0 [.ref (gb G + t)] Z I J (qi Z K) := by
  refine eX12_waitedAll ht ?_
  have hwI := WM_f hW
  have q1 : (0 : Int32).toInt = 0 := rfl
  exact lX12_waitedAll_4 ht  hW  hK  (((7) - (0 : Int32).toInt).toNat + 1) 0 0 (by omega) (by omega)
theorem sfX12_run {G : jdG} {n : Nat} {Z : jdL} {J : jdJ} {K : Int32 → jdI → jdJ → Prop}  {I : jdI} {t : Nat} {x1 : Int32} (ht : zModel Z t)  (hW : WM 7 t I)  (hK : ∀ (v : Int32) (I2 : jdI), WM 7 t I2 → Fr (fun a k => (a = t ∧ (k = 30 ∨ k = 33 ∨ k = 34)) ∨ (t + 30 ≤ a ∧ a ≤ t + 33) ∨ a = t + 17) I I2 → K v I2 J) : Cl G mX12_run (n + 260) 0 0 [.ref (gb G + t), .int x1] Z I J (qi Z K) := by
  refine eX12_run ht ?_
  have hwI := WM_f hW
  have q1 := i32_lo x1
  refine sfX12_noMan ht hW  (fun v2 I1 hWI1 hFI1 hp1 => ?_)
  have hwI1 := WM_f hWI1
  refine ⟨fun hc2 => ?_, fun hc3 => ?_⟩
  · skip
    have q2 := i32_lo v2
    have q3 : (0 : Int32).toInt = 0 := rfl
    have hc2 := Int32.toInt_inj.mpr hc2
    refine ⟨vp_of (by omega) (by omega), ?_⟩
    refine ⟨vp_of (by omega) (by omega), ?_⟩
    refine sfX12_goesBy ht hWI1  (fun I5 hWI5 hFI5 => ?_)
    have hwI5 := WM_f hWI5
    exact hK _ _ hWI5 (Fr.tr (Fr.tr Fr.rf hFI1 (by intro a k h; omega)) hFI5 (by intro a k h; omega))
  · skip
    have q2 := i32_lo v2
    have q3 : (0 : Int32).toInt = 0 := rfl
    have hc3 : ¬ (v2).toInt = (0 : Int32).toInt := fun z => hc3 (Int32.toInt_inj.mp z)
    exact hK _ _ hWI1 (Fr.tr Fr.rf hFI1 (by intro a k h; omega))
theorem sfX12_coach {G : jdG} {n : Nat} {Z : jdL} {J : jdJ} {K : Int32 → jdI → jdJ → Prop}  {I : jdI} {t : Nat} {x1 : Int32} {x2 : Int32} (ht : zModel Z t)  (hW : WM 7 t I)  (hK : ∀ (v : Int32) (I2 : jdI), WM 7 t I2 → Fr (fun a k => (a = t ∧ (k = 30 ∨ k = 33 ∨ k = 34)) ∨ (t + 30 ≤ a ∧ a ≤ t + 33) ∨ a = t + 17) I I2 → K v I2 J) : Cl G mX12_coach (n + 260) 0 0 [.ref (gb G + t), .int x1, .int x2] Z I J (qi Z K) := by
  refine eX12_coach ht ?_
  have hwI := WM_f hW
  have q1 := i32_lo x1
  refine sfX12_noMan ht hW  (fun v2 I1 hWI1 hFI1 hp1 => ?_)
  have hwI1 := WM_f hWI1
  refine ⟨fun hc2 => ?_, fun hc3 => ?_⟩
  · skip
    have q2 := i32_lo v2
    have q3 : (0 : Int32).toInt = 0 := rfl
    have hc2 := Int32.toInt_inj.mpr hc2
    refine ⟨vp_of (by omega) (by omega), ?_⟩
    refine ⟨vp_of (by omega) (by omega), ?_⟩
    refine sfX12_goesBy ht hWI1  (fun I5 hWI5 hFI5 => ?_)
    have hwI5 := WM_f hWI5
    have q4 := i32_lo x2
    have q5 : (Int32.toInt64 x2).toInt = (x2).toInt := Int32.toInt_toInt64 _
    have q6 : (0 : Int64).toInt = 0 := rfl
    have q7 := i32_lo (I5 t 33)
    have q8 : (1 : Int32).toInt = 1 := rfl
    have q9 := i32_sub (I5 t 33) 1 (by omega) (by omega)
    have q10 : (Int32.toInt64 ((I5 t 33) - 1)).toInt = (((I5 t 33) - 1)).toInt := Int32.toInt_toInt64 _
    refine sfX12_in  trivial  (fun v8  hp5 => ?_)
    refine ⟨fun hc6 => ?_, fun hc7 => ?_⟩
    · skip
      have q11 := i32_lo v8
      have hc6 := Int32.toInt_inj.mpr hc6
      have q12 : (-5 : Int32).toInt = -5 := rfl
      refine sfX12_refuse ht (by decide) hWI5 (by omega) (fun v10 I9 hWI9 hFI9 hp8 => ?_)
      have hwI9 := WM_f hWI9
      exact hK _ _ hWI9 (Fr.tr (Fr.tr (Fr.tr Fr.rf hFI1 (by intro a k h; omega)) hFI5 (by intro a k h; omega)) hFI9 (by intro a k h; omega))
    · skip
      have q11 := i32_lo v8
      have hc7 : ¬ (v8).toInt = (0 : Int32).toInt := fun z => hc7 (Int32.toInt_inj.mp z)
      refine ⟨vp_of (by omega) (by omega), ?_⟩
      exact hK _ _ hWI5 (Fr.tr (Fr.tr Fr.rf hFI1 (by intro a k h; omega)) hFI5 (by intro a k h; omega))
  · skip
    have q2 := i32_lo v2
    have q3 : (0 : Int32).toInt = 0 := rfl
    have hc3 : ¬ (v2).toInt = (0 : Int32).toInt := fun z => hc3 (Int32.toInt_inj.mp z)
    exact hK _ _ hWI1 (Fr.tr Fr.rf hFI1 (by intro a k h; omega))
theorem sfX12_left {G : jdG} {n : Nat} {Z : jdL} {J : jdJ} {K : Int32 → jdI → jdJ → Prop}  {I : jdI} {t : Nat} {x1 : Int32} (ht : zModel Z t)  (hW : WM 7 t I)  (hK : ∀ (v : Int32) (I2 : jdI), WM 7 t I2 → Fr (fun a k => (a = t ∧ (k = 30 ∨ k = 33 ∨ k = 34)) ∨ (t + 30 ≤ a ∧ a ≤ t + 33) ∨ a = t + 17) I I2 → K v I2 J) : Cl G mX12_left (n + 260) 0 0 [.ref (gb G + t), .int x1] Z I J (qi Z K) := by
  refine eX12_left ht ?_
  have hwI := WM_f hW
  have q1 := i32_lo x1
  refine sfX12_noMan ht hW  (fun v2 I1 hWI1 hFI1 hp1 => ?_)
  have hwI1 := WM_f hWI1
  refine ⟨fun hc2 => ?_, fun hc3 => ?_⟩
  · skip
    have q2 := i32_lo v2
    have q3 : (0 : Int32).toInt = 0 := rfl
    have hc2 := Int32.toInt_inj.mpr hc2
    refine ⟨vp_of (by omega) (by omega), ?_⟩
    refine ⟨vp_of (by omega) (by omega), ?_⟩
    refine sfX12_goesBy ht hWI1  (fun I5 hWI5 hFI5 => ?_)
    have hwI5 := WM_f hWI5
    exact hK _ _ hWI5 (Fr.tr (Fr.tr Fr.rf hFI1 (by intro a k h; omega)) hFI5 (by intro a k h; omega))
  · skip
    have q2 := i32_lo v2
    have q3 : (0 : Int32).toInt = 0 := rfl
    have hc3 : ¬ (v2).toInt = (0 : Int32).toInt := fun z => hc3 (Int32.toInt_inj.mp z)
    exact hK _ _ hWI1 (Fr.tr Fr.rf hFI1 (by intro a k h; omega))
theorem sfX12_waits {G : jdG} {n : Nat} {Z : jdL} {J : jdJ} {K : Int32 → jdI → jdJ → Prop}  {I : jdI} {t : Nat} {x1 : Int32} {x2 : Int32} (ht : zModel Z t)  (hW : WM 7 t I)  (hK : ∀ (v : Int32) (I2 : jdI), WM 7 t I2 → Fr (fun a k => (a = t ∧ (k = 30 ∨ k = 33 ∨ k = 34)) ∨ (t + 30 ≤ a ∧ a ≤ t + 33) ∨ a = t + 17) I I2 → K v I2 J) : Cl G mX12_waits (n + 260) 0 0 [.ref (gb G + t), .int x1, .int x2] Z I J (qi Z K) := by
  refine eX12_waits ht ?_
  have hwI := WM_f hW
  have q1 := i32_lo x1
  have q2 : (Int32.toInt64 x1).toInt = (x1).toInt := Int32.toInt_toInt64 _
  have q3 : (0 : Int64).toInt = 0 := rfl
  have q4 : (7 : Int64).toInt = 7 := rfl
  refine sfX12_in  trivial  (fun v2  hp1 => ?_)
  refine ⟨fun hc2 => ?_, fun hc3 => ?_⟩
  · skip
    have q5 := i32_lo v2
    have q6 : (0 : Int32).toInt = 0 := rfl
    have hc2 := Int32.toInt_inj.mpr hc2
    have q7 : (-2 : Int32).toInt = -2 := rfl
    refine sfX12_refuse ht (by decide) hW (by omega) (fun v4 I3 hWI3 hFI3 hp4 => ?_)
    have hwI3 := WM_f hWI3
    exact hK _ _ hWI3 (Fr.tr Fr.rf hFI3 (by intro a k h; omega))
  · skip
    have q5 := i32_lo v2
    have q6 : (0 : Int32).toInt = 0 := rfl
    have hc3 : ¬ (v2).toInt = (0 : Int32).toInt := fun z => hc3 (Int32.toInt_inj.mp z)
    refine ⟨fun hc5 => ?_, fun hc6 => ?_⟩
    · skip
      have q7 := i32_lo x2
      have q8 : (-1 : Int32).toInt = -1 := rfl
      have hc5 := Int32.toInt_inj.mpr hc5
      refine sfX12_noMan ht hW  (fun v6 I5 hWI5 hFI5 hp7 => ?_)
      have hwI5 := WM_f hWI5
      refine ⟨fun hc8 => ?_, fun hc9 => ?_⟩
      · skip
        have q9 := i32_lo v6
        have hc8 := Int32.toInt_inj.mpr hc8
        refine ⟨vp_of (by omega) (by omega), ?_⟩
        refine ⟨vp_of (by omega) (by omega), ?_⟩
        refine sfX12_goesBy ht hWI5  (fun I9 hWI9 hFI9 => ?_)
        have hwI9 := WM_f hWI9
        refine ⟨fun hc11 => ?_, fun hc12 => ?_⟩
        · skip
          have hc11 : ¬ (x2).toInt = ((-1) : Int32).toInt := fun z => hc11 (Int32.toInt_inj.mp z)
          refine ⟨vp_of (by omega) (by omega), ?_⟩
          exact hK _ _ hWI9 (Fr.tr (Fr.tr Fr.rf hFI5 (by intro a k h; omega)) hFI9 (by intro a k h; omega))
        · skip
          have hc12 := Int32.toInt_inj.mpr hc12
          refine sfX12_waitedAll ht hWI9  (fun v13  => ?_)
          exact hK _ _ hWI9 (Fr.tr (Fr.tr Fr.rf hFI5 (by intro a k h; omega)) hFI9 (by intro a k h; omega))
      · skip
        have q9 := i32_lo v6
        have hc9 : ¬ (v6).toInt = (0 : Int32).toInt := fun z => hc9 (Int32.toInt_inj.mp z)
        exact hK _ _ hWI5 (Fr.tr Fr.rf hFI5 (by intro a k h; omega))
    · skip
      have q7 := i32_lo x2
      have q8 : (-1 : Int32).toInt = -1 := rfl
      have hc6 : ¬ (x2).toInt = ((-1) : Int32).toInt := fun z => hc6 (Int32.toInt_inj.mp z)
      refine sfX12_isOne ht hW  (fun v15  hp14 => ?_)
      refine ⟨fun hc15 => ?_, fun hc16 => ?_⟩
      · skip
        have q9 := i32_lo v15
        have hc15 : ¬ (v15).toInt = (0 : Int32).toInt := fun z => hc15 (Int32.toInt_inj.mp z)
        refine sfX12_noMan ht hW  (fun v17 I16 hWI16 hFI16 hp17 => ?_)
        have hwI16 := WM_f hWI16
        refine ⟨fun hc18 => ?_, fun hc19 => ?_⟩
        · skip
          have q10 := i32_lo v17
          have hc18 := Int32.toInt_inj.mpr hc18
          refine ⟨vp_of (by omega) (by omega), ?_⟩
          refine ⟨vp_of (by omega) (by omega), ?_⟩
          refine sfX12_goesBy ht hWI16  (fun I20 hWI20 hFI20 => ?_)
          have hwI20 := WM_f hWI20
          refine ⟨fun hc21 => ?_, fun hc22 => ?_⟩
          · skip
            have hc21 : ¬ (x2).toInt = ((-1) : Int32).toInt := fun z => hc21 (Int32.toInt_inj.mp z)
            refine ⟨vp_of (by omega) (by omega), ?_⟩
            exact hK _ _ hWI20 (Fr.tr (Fr.tr Fr.rf hFI16 (by intro a k h; omega)) hFI20 (by intro a k h; omega))
          · skip
            have hc22 := Int32.toInt_inj.mpr hc22
            refine sfX12_waitedAll ht hWI20  (fun v24  => ?_)
            exact hK _ _ hWI20 (Fr.tr (Fr.tr Fr.rf hFI16 (by intro a k h; omega)) hFI20 (by intro a k h; omega))
        · skip
          have q10 := i32_lo v17
          have hc19 : ¬ (v17).toInt = (0 : Int32).toInt := fun z => hc19 (Int32.toInt_inj.mp z)
          exact hK _ _ hWI16 (Fr.tr Fr.rf hFI16 (by intro a k h; omega))
      · skip
        have q9 := i32_lo v15
        have hc16 := Int32.toInt_inj.mpr hc16
        have q10 : (-2 : Int32).toInt = -2 := rfl
        refine sfX12_refuse ht (by decide) hW (by omega) (fun v26 I25 hWI25 hFI25 hp24 => ?_)
        have hwI25 := WM_f hWI25
        exact hK _ _ hWI25 (Fr.tr Fr.rf hFI25 (by intro a k h; omega))
theorem lX12_isApart_2 {G : jdG} {n : Nat} {Z : jdL} {J : jdJ} {rc rs : Nat} {K : Int32 → jdI → jdJ → Prop}  {I : jdI} {u0 : Nat} {n0 : Nat} {x1 : Int32} {x2 : Int32} (hu0 : Z.1 u0 = some (0, n0))  (hW : True) (hx1 : 0 ≤ x1.toInt ∧ x1.toInt ≤ (n0 : Int)) (hK : ∀ (v : Int32), K v I J) : ∀ m : Nat, ∀ (x3 : Int32), (0 ≤ x3.toInt ∧ x3.toInt ≤ x1.toInt) → (x1.toInt) - x3.toInt < (m : Int) → Jd G mX12_isApart (jdFm G (qi Z K)) (n + 1) rc rs 2 [(0, .ref (gb G + u0)), (1, .int x1), (2, .int x2), (3, .int x3)] [] Z I J := by
  intro m
  induction m with
  | zero =>
    intro x3 hx3 hm

    omega
  | succ m ih =>
    intro x3 hx3 hm
    refine rX12_isApart_2 hu0 ?_
    refine ⟨fun hc1 => ?_, fun hc2 => ?_⟩
    · skip
      have q1 := i32_lo x1
      have q2 := i32_lo x3
      have hc1 := Int32.le_iff_toInt_le.mp hc1
      exact hK _ 
    · skip
      have q1 := i32_lo x1
      have q2 := i32_lo x3
      have hc2 := mt Int32.le_iff_toInt_le.mpr hc2
      refine ⟨vp_of (by omega) (by omega), ?_⟩
      have q3 := i32_lo x2
      refine sfX12_bits  trivial  (fun v3  hp3 => ?_)
      refine ⟨fun hc4 => ?_, fun hc5 => ?_⟩
      · skip
        have q4 := i32_lo v3
        have q5 : (1 : Int32).toInt = 1 := rfl
        have hc4 := Int32.le_iff_toInt_le.mp hc4
        have q6 := i32_add x3 1 (by omega) (by omega)
        exact ih (x3 + 1) (by omega) (by omega)
      · skip
        have q4 := i32_lo v3
        have q5 : (1 : Int32).toInt = 1 := rfl
        have hc5 := mt Int32.le_iff_toInt_le.mpr hc5
        exact hK _ 
theorem sfX12_isApart {G : jdG} {n : Nat} {Z : jdL} {J : jdJ} {K : Int32 → jdI → jdJ → Prop}  {I : jdI} {u0 : Nat} {n0 : Nat} {x1 : Int32} {x2 : Int32} (hu0 : Z.1 u0 = some (0, n0))  (hW : True) (hx1 : 0 ≤ x1.toInt ∧ x1.toInt ≤ (n0 : Int)) (hK : ∀ (v : Int32), K v I J) : Cl G mX12_isApart (n + 1) 0 0 [.ref (gb G + u0), .int x1, .int x2] Z I J (qi Z K) := by
  refine eX12_isApart hu0 ?_
  have q1 : (0 : Int32).toInt = 0 := rfl
  exact lX12_isApart_2 hu0  hW hx1 hK  (((x1.toInt) - (0 : Int32).toInt).toNat + 1) 0 (by omega) (by omega)
theorem lX12_seekEver_14 {G : jdG} {n : Nat} {Z : jdL} {J : jdJ} {rc rs : Nat} {K : jdI → jdJ → Prop}  {I0 : jdI} {t : Nat} {x1 : Int32} {u2 : Nat} {n2 : Nat} {x3 : Int32} (ht : zModel Z t) (hu2 : Z.1 u2 = some (0, n2))  (hu : u2 < t ∨ t + 37 < u2) (hn : n2 = 40) (hK : ∀ (I2 : jdI), WM 7 t I2 → Fr (fun a k => (a = t ∧ (k = 37 ∨ k = 38)) ∨ a = u2) I0 I2 → K I2 J) {d : Nat} (hR : ∀ (I : jdI) (K : jdI → jdJ → Prop) (x1 : Int32) (x3 : Int32), WM 7 t I → (0 ≤ x3.toInt ∧ x3.toInt ≤ x1.toInt ∧ x1.toInt ≤ (I t 30).toInt ∧ (I t 30).toInt ≤ 35) → (u2 < t ∨ t + 37 < u2) → (n2 = 40) → 0 ≤ (I t 30).toInt - x1.toInt ∧ (I t 30).toInt - x1.toInt < (d : Int) → (∀ (I2 : jdI), WM 7 t I2 → Fr (fun a k => (a = t ∧ (k = 37 ∨ k = 38)) ∨ a = u2) I I2 → K I2 J) → Cl G mX12_seekEver (n + 1) 0 0 [.ref (gb G + t), .int x1, .ref (gb G + u2), .int x3] Z I J (qv Z K)) : ∀ m : Nat, ∀ (I : jdI) (x4 : Int32) (x5 : Int32), WM 7 t I → Fr (fun a k => (a = t ∧ (k = 37 ∨ k = 38)) ∨ a = u2) I0 I → (0 ≤ x5.toInt ∧ x5.toInt ≤ 70) → (0 ≤ x3.toInt ∧ x3.toInt ≤ 35) → (70) - x5.toInt < (m : Int) → Jd G mX12_seekEver (jdFm G (qv Z K)) (n + 2) rc rs 14 [(0, .ref (gb G + t)), (1, .int x1), (2, .ref (gb G + u2)), (3, .int x3), (4, .int x4), (5, .int x5)] [] Z I J := by
  intro m
  induction m with
  | zero =>
    intro I x4 x5 hW hF hx5 hx3 hm
    have hwI := WM_f hW
    omega
  | succ m ih =>
    intro I x4 x5 hW hF hx5 hx3 hm
    have hwI := WM_f hW
    refine rX12_seekEver_14 ht hu2 ?_
    refine ⟨fun hc1 => ?_, fun hc2 => ?_⟩
    · skip
      have q1 := i32_lo (I t 30)
      have q2 := i32_lo x5
      have hc1 := Int32.le_iff_toInt_le.mp hc1
      refine ⟨fun hc3 => ?_, fun hc4 => ?_⟩
      · skip
        have q3 := i32_lo x4
        have q4 : (0 : Int32).toInt = 0 := rfl
        have hc3 := Int32.toInt_inj.mpr hc3
        exact hK _ hW hF
      · skip
        have q3 := i32_lo x4
        have q4 : (0 : Int32).toInt = 0 := rfl
        have hc4 : ¬ (x4).toInt = (0 : Int32).toInt := fun z => hc4 (Int32.toInt_inj.mp z)
        refine ⟨fun hc5 => ?_, fun hc6 => ?_⟩
        · skip
          have q5 := i32_lo x3
          have q6 := i32_lo (I t 37)
          have hc5 := Int32.le_iff_toInt_le.mp hc5
          refine ⟨fun hc7 => ?_, fun hc8 => ?_⟩
          · skip
            have q7 := i32_lo (I t 38)
            have q8 : (-1 : Int32).toInt = -1 := rfl
            have hc7 := Int32.toInt_inj.mpr hc7
            exact hK _ (WM_uI (WM_uI hW (by first | exact okMo (by decide) (by decide) (by decide) (by decide) (by decide) | exact okMf (by decide) (by decide) (by decide) (by decide) (by decide) (by decide) (by decide) (by decide) | exact okM30 (by omega) | exact okM42 (by omega) | exact okM33 (by omega) | exact okM10 (by omega) | exact okM8 (by omega) | exact okM22 (by omega) | exact okM24 (by omega) | exact okM14 (by omega) | exact okMa31 (by omega) | exact okMa35 (by omega) | exact okMa36 (by omega) | exact okMa3 (by omega) | exact okMr (by omega) | (unfold okM; refine ⟨?_, ?_, ?_, ?_, ?_, ?_, ?_, ?_, ?_, ?_, ?_, ?_⟩ <;> intro h <;> omega))) (by first | exact okMo (by decide) (by decide) (by decide) (by decide) (by decide) | exact okMf (by decide) (by decide) (by decide) (by decide) (by decide) (by decide) (by decide) (by decide) | exact okM30 (by omega) | exact okM42 (by omega) | exact okM33 (by omega) | exact okM10 (by omega) | exact okM8 (by omega) | exact okM22 (by omega) | exact okM24 (by omega) | exact okM14 (by omega) | exact okMa31 (by omega) | exact okMa35 (by omega) | exact okMa36 (by omega) | exact okMa3 (by omega) | exact okMr (by omega) | (unfold okM; refine ⟨?_, ?_, ?_, ?_, ?_, ?_, ?_, ?_, ?_, ?_, ?_, ?_⟩ <;> intro h <;> omega))) (Fr_uI (Fr_uI hF (by omega)) (by omega))
          · skip
            have q7 := i32_lo (I t 38)
            have q8 : (-1 : Int32).toInt = -1 := rfl
            have hc8 : ¬ ((I t 38)).toInt = ((-1) : Int32).toInt := fun z => hc8 (Int32.toInt_inj.mp z)
            refine ⟨fun hc9 => ?_, fun hc10 => ?_⟩
            · skip
              have hc9 := Int32.le_iff_toInt_le.mp hc9
              exact hK _ (WM_uI (WM_uI hW (by first | exact okMo (by decide) (by decide) (by decide) (by decide) (by decide) | exact okMf (by decide) (by decide) (by decide) (by decide) (by decide) (by decide) (by decide) (by decide) | exact okM30 (by omega) | exact okM42 (by omega) | exact okM33 (by omega) | exact okM10 (by omega) | exact okM8 (by omega) | exact okM22 (by omega) | exact okM24 (by omega) | exact okM14 (by omega) | exact okMa31 (by omega) | exact okMa35 (by omega) | exact okMa36 (by omega) | exact okMa3 (by omega) | exact okMr (by omega) | (unfold okM; refine ⟨?_, ?_, ?_, ?_, ?_, ?_, ?_, ?_, ?_, ?_, ?_, ?_⟩ <;> intro h <;> omega))) (by first | exact okMo (by decide) (by decide) (by decide) (by decide) (by decide) | exact okMf (by decide) (by decide) (by decide) (by decide) (by decide) (by decide) (by decide) (by decide) | exact okM30 (by omega) | exact okM42 (by omega) | exact okM33 (by omega) | exact okM10 (by omega) | exact okM8 (by omega) | exact okM22 (by omega) | exact okM24 (by omega) | exact okM14 (by omega) | exact okMa31 (by omega) | exact okMa35 (by omega) | exact okMa36 (by omega) | exact okMa3 (by omega) | exact okMr (by omega) | (unfold okM; refine ⟨?_, ?_, ?_, ?_, ?_, ?_, ?_, ?_, ?_, ?_, ?_, ?_⟩ <;> intro h <;> omega))) (Fr_uI (Fr_uI hF (by omega)) (by omega))
            · skip
              have hc10 := mt Int32.le_iff_toInt_le.mpr hc10
              exact hK _ (WM_uI (WM_uI hW (by first | exact okMo (by decide) (by decide) (by decide) (by decide) (by decide) | exact okMf (by decide) (by decide) (by decide) (by decide) (by decide) (by decide) (by decide) (by decide) | exact okM30 (by omega) | exact okM42 (by omega) | exact okM33 (by omega) | exact okM10 (by omega) | exact okM8 (by omega) | exact okM22 (by omega) | exact okM24 (by omega) | exact okM14 (by omega) | exact okMa31 (by omega) | exact okMa35 (by omega) | exact okMa36 (by omega) | exact okMa3 (by omega) | exact okMr (by omega) | (unfold okM; refine ⟨?_, ?_, ?_, ?_, ?_, ?_, ?_, ?_, ?_, ?_, ?_, ?_⟩ <;> intro h <;> omega))) (by first | exact okMo (by decide) (by decide) (by decide) (by decide) (by decide) | exact okMf (by decide) (by decide) (by decide) (by decide) (by decide) (by decide) (by decide) (by decide) | exact okM30 (by omega) | exact okM42 (by omega) | exact okM33 (by omega) | exact okM10 (by omega) | exact okM8 (by omega) | exact okM22 (by omega) | exact okM24 (by omega) | exact okM14 (by omega) | exact okMa31 (by omega) | exact okMa35 (by omega) | exact okMa36 (by omega) | exact okMa3 (by omega) | exact okMr (by omega) | (unfold okM; refine ⟨?_, ?_, ?_, ?_, ?_, ?_, ?_, ?_, ?_, ?_, ?_, ?_⟩ <;> intro h <;> omega))) (Fr_uI (Fr_uI hF (by omega)) (by omega))
        · skip
          have q5 := i32_lo x3
          have q6 := i32_lo (I t 37)
          have hc6 := mt Int32.le_iff_toInt_le.mpr hc6
          refine ⟨fun hc11 => ?_, fun hc12 => ?_⟩
          · skip
            have q7 := i32_lo (I t 38)
            have q8 : (-1 : Int32).toInt = -1 := rfl
            have hc11 := Int32.toInt_inj.mpr hc11
            exact hK _ (WM_uI (WM_uI hW (by first | exact okMo (by decide) (by decide) (by decide) (by decide) (by decide) | exact okMf (by decide) (by decide) (by decide) (by decide) (by decide) (by decide) (by decide) (by decide) | exact okM30 (by omega) | exact okM42 (by omega) | exact okM33 (by omega) | exact okM10 (by omega) | exact okM8 (by omega) | exact okM22 (by omega) | exact okM24 (by omega) | exact okM14 (by omega) | exact okMa31 (by omega) | exact okMa35 (by omega) | exact okMa36 (by omega) | exact okMa3 (by omega) | exact okMr (by omega) | (unfold okM; refine ⟨?_, ?_, ?_, ?_, ?_, ?_, ?_, ?_, ?_, ?_, ?_, ?_⟩ <;> intro h <;> omega))) (by first | exact okMo (by decide) (by decide) (by decide) (by decide) (by decide) | exact okMf (by decide) (by decide) (by decide) (by decide) (by decide) (by decide) (by decide) (by decide) | exact okM30 (by omega) | exact okM42 (by omega) | exact okM33 (by omega) | exact okM10 (by omega) | exact okM8 (by omega) | exact okM22 (by omega) | exact okM24 (by omega) | exact okM14 (by omega) | exact okMa31 (by omega) | exact okMa35 (by omega) | exact okMa36 (by omega) | exact okMa3 (by omega) | exact okMr (by omega) | (unfold okM; refine ⟨?_, ?_, ?_, ?_, ?_, ?_, ?_, ?_, ?_, ?_, ?_, ?_⟩ <;> intro h <;> omega))) (Fr_uI (Fr_uI hF (by omega)) (by omega))
          · skip
            have q7 := i32_lo (I t 38)
            have q8 : (-1 : Int32).toInt = -1 := rfl
            have hc12 : ¬ ((I t 38)).toInt = ((-1) : Int32).toInt := fun z => hc12 (Int32.toInt_inj.mp z)
            refine ⟨fun hc13 => ?_, fun hc14 => ?_⟩
            · skip
              have hc13 := Int32.le_iff_toInt_le.mp hc13
              exact hK _ (WM_uI (WM_uI hW (by first | exact okMo (by decide) (by decide) (by decide) (by decide) (by decide) | exact okMf (by decide) (by decide) (by decide) (by decide) (by decide) (by decide) (by decide) (by decide) | exact okM30 (by omega) | exact okM42 (by omega) | exact okM33 (by omega) | exact okM10 (by omega) | exact okM8 (by omega) | exact okM22 (by omega) | exact okM24 (by omega) | exact okM14 (by omega) | exact okMa31 (by omega) | exact okMa35 (by omega) | exact okMa36 (by omega) | exact okMa3 (by omega) | exact okMr (by omega) | (unfold okM; refine ⟨?_, ?_, ?_, ?_, ?_, ?_, ?_, ?_, ?_, ?_, ?_, ?_⟩ <;> intro h <;> omega))) (by first | exact okMo (by decide) (by decide) (by decide) (by decide) (by decide) | exact okMf (by decide) (by decide) (by decide) (by decide) (by decide) (by decide) (by decide) (by decide) | exact okM30 (by omega) | exact okM42 (by omega) | exact okM33 (by omega) | exact okM10 (by omega) | exact okM8 (by omega) | exact okM22 (by omega) | exact okM24 (by omega) | exact okM14 (by omega) | exact okMa31 (by omega) | exact okMa35 (by omega) | exact okMa36 (by omega) | exact okMa3 (by omega) | exact okMr (by omega) | (unfold okM; refine ⟨?_, ?_, ?_, ?_, ?_, ?_, ?_, ?_, ?_, ?_, ?_, ?_⟩ <;> intro h <;> omega))) (Fr_uI (Fr_uI hF (by omega)) (by omega))
            · skip
              have hc14 := mt Int32.le_iff_toInt_le.mpr hc14
              exact hK _ (WM_uI (WM_uI hW (by first | exact okMo (by decide) (by decide) (by decide) (by decide) (by decide) | exact okMf (by decide) (by decide) (by decide) (by decide) (by decide) (by decide) (by decide) (by decide) | exact okM30 (by omega) | exact okM42 (by omega) | exact okM33 (by omega) | exact okM10 (by omega) | exact okM8 (by omega) | exact okM22 (by omega) | exact okM24 (by omega) | exact okM14 (by omega) | exact okMa31 (by omega) | exact okMa35 (by omega) | exact okMa36 (by omega) | exact okMa3 (by omega) | exact okMr (by omega) | (unfold okM; refine ⟨?_, ?_, ?_, ?_, ?_, ?_, ?_, ?_, ?_, ?_, ?_, ?_⟩ <;> intro h <;> omega))) (by first | exact okMo (by decide) (by decide) (by decide) (by decide) (by decide) | exact okMf (by decide) (by decide) (by decide) (by decide) (by decide) (by decide) (by decide) (by decide) | exact okM30 (by omega) | exact okM42 (by omega) | exact okM33 (by omega) | exact okM10 (by omega) | exact okM8 (by omega) | exact okM22 (by omega) | exact okM24 (by omega) | exact okM14 (by omega) | exact okMa31 (by omega) | exact okMa35 (by omega) | exact okMa36 (by omega) | exact okMa3 (by omega) | exact okMr (by omega) | (unfold okM; refine ⟨?_, ?_, ?_, ?_, ?_, ?_, ?_, ?_, ?_, ?_, ?_, ?_⟩ <;> intro h <;> omega))) (Fr_uI (Fr_uI hF (by omega)) (by omega))
    · skip
      have q1 := i32_lo (I t 30)
      have q2 := i32_lo x5
      have hc2 := mt Int32.le_iff_toInt_le.mpr hc2
      refine ⟨fun hc15 => ?_, fun hc16 => ?_⟩
      · skip
        have q3 := i32_lo x4
        have q4 : (0 : Int32).toInt = 0 := rfl
        have hc15 := Int32.toInt_inj.mpr hc15
        refine ⟨fun hc17 => ?_, fun hc18 => ?_⟩
        · skip
          have hc17 := Int32.toInt_inj.mpr hc17
          exact hK _ hW hF
        · skip
          have hc18 : ¬ (x4).toInt = (0 : Int32).toInt := fun z => hc18 (Int32.toInt_inj.mp z)
          refine ⟨fun hc19 => ?_, fun hc20 => ?_⟩
          · skip
            have q5 := i32_lo x3
            have q6 := i32_lo (I t 37)
            have hc19 := Int32.le_iff_toInt_le.mp hc19
            refine ⟨fun hc21 => ?_, fun hc22 => ?_⟩
            · skip
              have q7 := i32_lo (I t 38)
              have q8 : (-1 : Int32).toInt = -1 := rfl
              have hc21 := Int32.toInt_inj.mpr hc21
              exact hK _ (WM_uI (WM_uI hW (by first | exact okMo (by decide) (by decide) (by decide) (by decide) (by decide) | exact okMf (by decide) (by decide) (by decide) (by decide) (by decide) (by decide) (by decide) (by decide) | exact okM30 (by omega) | exact okM42 (by omega) | exact okM33 (by omega) | exact okM10 (by omega) | exact okM8 (by omega) | exact okM22 (by omega) | exact okM24 (by omega) | exact okM14 (by omega) | exact okMa31 (by omega) | exact okMa35 (by omega) | exact okMa36 (by omega) | exact okMa3 (by omega) | exact okMr (by omega) | (unfold okM; refine ⟨?_, ?_, ?_, ?_, ?_, ?_, ?_, ?_, ?_, ?_, ?_, ?_⟩ <;> intro h <;> omega))) (by first | exact okMo (by decide) (by decide) (by decide) (by decide) (by decide) | exact okMf (by decide) (by decide) (by decide) (by decide) (by decide) (by decide) (by decide) (by decide) | exact okM30 (by omega) | exact okM42 (by omega) | exact okM33 (by omega) | exact okM10 (by omega) | exact okM8 (by omega) | exact okM22 (by omega) | exact okM24 (by omega) | exact okM14 (by omega) | exact okMa31 (by omega) | exact okMa35 (by omega) | exact okMa36 (by omega) | exact okMa3 (by omega) | exact okMr (by omega) | (unfold okM; refine ⟨?_, ?_, ?_, ?_, ?_, ?_, ?_, ?_, ?_, ?_, ?_, ?_⟩ <;> intro h <;> omega))) (Fr_uI (Fr_uI hF (by omega)) (by omega))
            · skip
              have q7 := i32_lo (I t 38)
              have q8 : (-1 : Int32).toInt = -1 := rfl
              have hc22 : ¬ ((I t 38)).toInt = ((-1) : Int32).toInt := fun z => hc22 (Int32.toInt_inj.mp z)
              refine ⟨fun hc23 => ?_, fun hc24 => ?_⟩
              · skip
                have hc23 := Int32.le_iff_toInt_le.mp hc23
                exact hK _ (WM_uI (WM_uI hW (by first | exact okMo (by decide) (by decide) (by decide) (by decide) (by decide) | exact okMf (by decide) (by decide) (by decide) (by decide) (by decide) (by decide) (by decide) (by decide) | exact okM30 (by omega) | exact okM42 (by omega) | exact okM33 (by omega) | exact okM10 (by omega) | exact okM8 (by omega) | exact okM22 (by omega) | exact okM24 (by omega) | exact okM14 (by omega) | exact okMa31 (by omega) | exact okMa35 (by omega) | exact okMa36 (by omega) | exact okMa3 (by omega) | exact okMr (by omega) | (unfold okM; refine ⟨?_, ?_, ?_, ?_, ?_, ?_, ?_, ?_, ?_, ?_, ?_, ?_⟩ <;> intro h <;> omega))) (by first | exact okMo (by decide) (by decide) (by decide) (by decide) (by decide) | exact okMf (by decide) (by decide) (by decide) (by decide) (by decide) (by decide) (by decide) (by decide) | exact okM30 (by omega) | exact okM42 (by omega) | exact okM33 (by omega) | exact okM10 (by omega) | exact okM8 (by omega) | exact okM22 (by omega) | exact okM24 (by omega) | exact okM14 (by omega) | exact okMa31 (by omega) | exact okMa35 (by omega) | exact okMa36 (by omega) | exact okMa3 (by omega) | exact okMr (by omega) | (unfold okM; refine ⟨?_, ?_, ?_, ?_, ?_, ?_, ?_, ?_, ?_, ?_, ?_, ?_⟩ <;> intro h <;> omega))) (Fr_uI (Fr_uI hF (by omega)) (by omega))
              · skip
                have hc24 := mt Int32.le_iff_toInt_le.mpr hc24
                exact hK _ (WM_uI (WM_uI hW (by first | exact okMo (by decide) (by decide) (by decide) (by decide) (by decide) | exact okMf (by decide) (by decide) (by decide) (by decide) (by decide) (by decide) (by decide) (by decide) | exact okM30 (by omega) | exact okM42 (by omega) | exact okM33 (by omega) | exact okM10 (by omega) | exact okM8 (by omega) | exact okM22 (by omega) | exact okM24 (by omega) | exact okM14 (by omega) | exact okMa31 (by omega) | exact okMa35 (by omega) | exact okMa36 (by omega) | exact okMa3 (by omega) | exact okMr (by omega) | (unfold okM; refine ⟨?_, ?_, ?_, ?_, ?_, ?_, ?_, ?_, ?_, ?_, ?_, ?_⟩ <;> intro h <;> omega))) (by first | exact okMo (by decide) (by decide) (by decide) (by decide) (by decide) | exact okMf (by decide) (by decide) (by decide) (by decide) (by decide) (by decide) (by decide) (by decide) | exact okM30 (by omega) | exact okM42 (by omega) | exact okM33 (by omega) | exact okM10 (by omega) | exact okM8 (by omega) | exact okM22 (by omega) | exact okM24 (by omega) | exact okM14 (by omega) | exact okMa31 (by omega) | exact okMa35 (by omega) | exact okMa36 (by omega) | exact okMa3 (by omega) | exact okMr (by omega) | (unfold okM; refine ⟨?_, ?_, ?_, ?_, ?_, ?_, ?_, ?_, ?_, ?_, ?_, ?_⟩ <;> intro h <;> omega))) (Fr_uI (Fr_uI hF (by omega)) (by omega))
          · skip
            have q5 := i32_lo x3
            have q6 := i32_lo (I t 37)
            have hc20 := mt Int32.le_iff_toInt_le.mpr hc20
            refine ⟨fun hc25 => ?_, fun hc26 => ?_⟩
            · skip
              have q7 := i32_lo (I t 38)
              have q8 : (-1 : Int32).toInt = -1 := rfl
              have hc25 := Int32.toInt_inj.mpr hc25
              exact hK _ (WM_uI (WM_uI hW (by first | exact okMo (by decide) (by decide) (by decide) (by decide) (by decide) | exact okMf (by decide) (by decide) (by decide) (by decide) (by decide) (by decide) (by decide) (by decide) | exact okM30 (by omega) | exact okM42 (by omega) | exact okM33 (by omega) | exact okM10 (by omega) | exact okM8 (by omega) | exact okM22 (by omega) | exact okM24 (by omega) | exact okM14 (by omega) | exact okMa31 (by omega) | exact okMa35 (by omega) | exact okMa36 (by omega) | exact okMa3 (by omega) | exact okMr (by omega) | (unfold okM; refine ⟨?_, ?_, ?_, ?_, ?_, ?_, ?_, ?_, ?_, ?_, ?_, ?_⟩ <;> intro h <;> omega))) (by first | exact okMo (by decide) (by decide) (by decide) (by decide) (by decide) | exact okMf (by decide) (by decide) (by decide) (by decide) (by decide) (by decide) (by decide) (by decide) | exact okM30 (by omega) | exact okM42 (by omega) | exact okM33 (by omega) | exact okM10 (by omega) | exact okM8 (by omega) | exact okM22 (by omega) | exact okM24 (by omega) | exact okM14 (by omega) | exact okMa31 (by omega) | exact okMa35 (by omega) | exact okMa36 (by omega) | exact okMa3 (by omega) | exact okMr (by omega) | (unfold okM; refine ⟨?_, ?_, ?_, ?_, ?_, ?_, ?_, ?_, ?_, ?_, ?_, ?_⟩ <;> intro h <;> omega))) (Fr_uI (Fr_uI hF (by omega)) (by omega))
            · skip
              have q7 := i32_lo (I t 38)
              have q8 : (-1 : Int32).toInt = -1 := rfl
              have hc26 : ¬ ((I t 38)).toInt = ((-1) : Int32).toInt := fun z => hc26 (Int32.toInt_inj.mp z)
              refine ⟨fun hc27 => ?_, fun hc28 => ?_⟩
              · skip
                have hc27 := Int32.le_iff_toInt_le.mp hc27
                exact hK _ (WM_uI (WM_uI hW (by first | exact okMo (by decide) (by decide) (by decide) (by decide) (by decide) | exact okMf (by decide) (by decide) (by decide) (by decide) (by decide) (by decide) (by decide) (by decide) | exact okM30 (by omega) | exact okM42 (by omega) | exact okM33 (by omega) | exact okM10 (by omega) | exact okM8 (by omega) | exact okM22 (by omega) | exact okM24 (by omega) | exact okM14 (by omega) | exact okMa31 (by omega) | exact okMa35 (by omega) | exact okMa36 (by omega) | exact okMa3 (by omega) | exact okMr (by omega) | (unfold okM; refine ⟨?_, ?_, ?_, ?_, ?_, ?_, ?_, ?_, ?_, ?_, ?_, ?_⟩ <;> intro h <;> omega))) (by first | exact okMo (by decide) (by decide) (by decide) (by decide) (by decide) | exact okMf (by decide) (by decide) (by decide) (by decide) (by decide) (by decide) (by decide) (by decide) | exact okM30 (by omega) | exact okM42 (by omega) | exact okM33 (by omega) | exact okM10 (by omega) | exact okM8 (by omega) | exact okM22 (by omega) | exact okM24 (by omega) | exact okM14 (by omega) | exact okMa31 (by omega) | exact okMa35 (by omega) | exact okMa36 (by omega) | exact okMa3 (by omega) | exact okMr (by omega) | (unfold okM; refine ⟨?_, ?_, ?_, ?_, ?_, ?_, ?_, ?_, ?_, ?_, ?_, ?_⟩ <;> intro h <;> omega))) (Fr_uI (Fr_uI hF (by omega)) (by omega))
              · skip
                have hc28 := mt Int32.le_iff_toInt_le.mpr hc28
                exact hK _ (WM_uI (WM_uI hW (by first | exact okMo (by decide) (by decide) (by decide) (by decide) (by decide) | exact okMf (by decide) (by decide) (by decide) (by decide) (by decide) (by decide) (by decide) (by decide) | exact okM30 (by omega) | exact okM42 (by omega) | exact okM33 (by omega) | exact okM10 (by omega) | exact okM8 (by omega) | exact okM22 (by omega) | exact okM24 (by omega) | exact okM14 (by omega) | exact okMa31 (by omega) | exact okMa35 (by omega) | exact okMa36 (by omega) | exact okMa3 (by omega) | exact okMr (by omega) | (unfold okM; refine ⟨?_, ?_, ?_, ?_, ?_, ?_, ?_, ?_, ?_, ?_, ?_, ?_⟩ <;> intro h <;> omega))) (by first | exact okMo (by decide) (by decide) (by decide) (by decide) (by decide) | exact okMf (by decide) (by decide) (by decide) (by decide) (by decide) (by decide) (by decide) (by decide) | exact okM30 (by omega) | exact okM42 (by omega) | exact okM33 (by omega) | exact okM10 (by omega) | exact okM8 (by omega) | exact okM22 (by omega) | exact okM24 (by omega) | exact okM14 (by omega) | exact okMa31 (by omega) | exact okMa35 (by omega) | exact okMa36 (by omega) | exact okMa3 (by omega) | exact okMr (by omega) | (unfold okM; refine ⟨?_, ?_, ?_, ?_, ?_, ?_, ?_, ?_, ?_, ?_, ?_, ?_⟩ <;> intro h <;> omega))) (Fr_uI (Fr_uI hF (by omega)) (by omega))
      · skip
        have q3 := i32_lo x4
        have q4 : (0 : Int32).toInt = 0 := rfl
        have hc16 : ¬ (x4).toInt = (0 : Int32).toInt := fun z => hc16 (Int32.toInt_inj.mp z)
        refine ⟨vp_of (by omega) (by omega), ?_⟩
        have q5 := i32_lo x3
        refine sfX12_isApart hu2 trivial (by omega) (fun v3  => ?_)
        refine ⟨fun hc30 => ?_, fun hc31 => ?_⟩
        · skip
          have q6 := i32_lo v3
          have hc30 : ¬ (v3).toInt = (0 : Int32).toInt := fun z => hc30 (Int32.toInt_inj.mp z)
          have q7 : (1 : Int32).toInt = 1 := rfl
          have q8 := i32_add x5 1 (by omega) (by omega)
          exact ih _ 0 (x5 + 1) hW hF (by omega) (by omega) (by omega)
        · skip
          have q6 := i32_lo v3
          have hc31 := Int32.toInt_inj.mpr hc31
          have q7 : (1 : Int32).toInt = 1 := rfl
          have q8 := i32_add x5 1 (by omega) (by omega)
          exact ih _ 1 (x5 + 1) hW hF (by omega) (by omega) (by omega)
theorem sbX12_seekEver {G : jdG} {n : Nat} {Z : jdL} {J : jdJ} {d : Nat}  {t : Nat} {u2 : Nat} {n2 : Nat} (ht : zModel Z t) (hu2 : Z.1 u2 = some (0, n2))  (hR : ∀ (I : jdI) (K : jdI → jdJ → Prop) (x1 : Int32) (x3 : Int32), WM 7 t I → (0 ≤ x3.toInt ∧ x3.toInt ≤ x1.toInt ∧ x1.toInt ≤ (I t 30).toInt ∧ (I t 30).toInt ≤ 35) → (u2 < t ∨ t + 37 < u2) → (n2 = 40) → 0 ≤ (I t 30).toInt - x1.toInt ∧ (I t 30).toInt - x1.toInt < (d : Int) → (∀ (I2 : jdI), WM 7 t I2 → Fr (fun a k => (a = t ∧ (k = 37 ∨ k = 38)) ∨ a = u2) I I2 → K I2 J) → Cl G mX12_seekEver (n + 1) 0 0 [.ref (gb G + t), .int x1, .ref (gb G + u2), .int x3] Z I J (qv Z K)) (I : jdI) (K : jdI → jdJ → Prop) (x1 : Int32) (x3 : Int32) (hW : WM 7 t I) (hx : 0 ≤ x3.toInt ∧ x3.toInt ≤ x1.toInt ∧ x1.toInt ≤ (I t 30).toInt ∧ (I t 30).toInt ≤ 35) (hu : u2 < t ∨ t + 37 < u2) (hn : n2 = 40) (hd : 0 ≤ (I t 30).toInt - x1.toInt ∧ (I t 30).toInt - x1.toInt ≤ (d : Int)) (hK : ∀ (I2 : jdI), WM 7 t I2 → Fr (fun a k => (a = t ∧ (k = 37 ∨ k = 38)) ∨ a = u2) I I2 → K I2 J) : Cl G mX12_seekEver (n + 2) 0 0 [.ref (gb G + t), .int x1, .ref (gb G + u2), .int x3] Z I J (qv Z K) := by
  refine eX12_seekEver ht hu2 ?_
  have hwI := WM_f hW
  refine ⟨fun hc1 => ?_, fun hc2 => ?_⟩
  · skip
    have q1 := i32_lo x1
    have q2 := i32_lo (I t 30)
    have hc1 : ¬ (x1).toInt = ((I t 30)).toInt := fun z => hc1 (Int32.toInt_inj.mp z)
    refine ⟨vp_of (by omega) (by omega), ?_⟩
    have q3 := i32_lo x3
    refine sfX12_isApart hu2 trivial (by omega) (fun v3  => ?_)
    refine ⟨fun hc4 => ?_, fun hc5 => ?_⟩
    · skip
      have q4 := i32_lo v3
      have q5 : (0 : Int32).toInt = 0 := rfl
      have hc4 := Int32.toInt_inj.mpr hc4
      have q6 : (1 : Int32).toInt = 1 := rfl
      have q7 := i32_add x1 1 (by omega) (by omega)
      refine hR _ _ _ _ hW (by omega) (by omega) (by omega) ⟨by omega, by omega⟩ (fun I4 hWI4 hFI4 => ?_)
      have hwI4 := WM_f hWI4
      first | have hk7 : (I4 t 30).toInt = (I t 30).toInt := (by rw [hFI4 t 30 (by omega)]) | skip
      exact hK _ hWI4 (Fr.tr Fr.rf hFI4 (by intro a k h; omega))
    · skip
      have q4 := i32_lo v3
      have q5 : (0 : Int32).toInt = 0 := rfl
      have hc5 : ¬ (v3).toInt = (0 : Int32).toInt := fun z => hc5 (Int32.toInt_inj.mp z)
      refine ⟨vp_of (by omega) (by omega), ?_⟩
      refine ⟨vp_of (by omega) (by omega), ?_⟩
      have q6 : (1 : Int32).toInt = 1 := rfl
      have q7 := i32_add x1 1 (by omega) (by omega)
      have q8 := i32_add x3 1 (by omega) (by omega)
      have hr9 : (((uI I u2 (Int32.toNatClampNeg x3) (I (t + 30) (Int32.toNatClampNeg x1)))) t 30).toInt = ((I) t 30).toInt := by rw [uI_n _ _ _ (show t ≠ u2 by omega)]
      refine hR _ _ _ _ (WM_uI hW (by first | exact okMo (by decide) (by decide) (by decide) (by decide) (by decide) | exact okMf (by decide) (by decide) (by decide) (by decide) (by decide) (by decide) (by decide) (by decide) | exact okM30 (by omega) | exact okM42 (by omega) | exact okM33 (by omega) | exact okM10 (by omega) | exact okM8 (by omega) | exact okM22 (by omega) | exact okM24 (by omega) | exact okM14 (by omega) | exact okMa31 (by omega) | exact okMa35 (by omega) | exact okMa36 (by omega) | exact okMa3 (by omega) | exact okMr (by omega) | (unfold okM; refine ⟨?_, ?_, ?_, ?_, ?_, ?_, ?_, ?_, ?_, ?_, ?_, ?_⟩ <;> intro h <;> omega))) (by omega) (by omega) (by omega) ⟨by omega, by omega⟩ (fun I8 hWI8 hFI8 => ?_)
      have hwI8 := WM_f hWI8
      first | have hk10 : (I8 t 30).toInt = ((uI I u2 (Int32.toNatClampNeg x3) (I (t + 30) (Int32.toNatClampNeg x1))) t 30).toInt := (by rw [hFI8 t 30 (by omega)]) | skip
      refine hR _ _ _ _ hWI8 (by omega) (by omega) (by omega) ⟨by omega, by omega⟩ (fun I10 hWI10 hFI10 => ?_)
      have hwI10 := WM_f hWI10
      first | have hk12 : (I10 t 30).toInt = (I8 t 30).toInt := (by rw [hFI10 t 30 (by omega)]) | skip
      exact hK _ hWI10 (Fr.tr (Fr.tr (Fr_uI Fr.rf (by omega)) hFI8 (by intro a k h; omega)) hFI10 (by intro a k h; omega))
  · skip
    have q1 := i32_lo x1
    have q2 := i32_lo (I t 30)
    have hc2 := Int32.toInt_inj.mpr hc2
    have q3 : (0 : Int32).toInt = 0 := rfl
    exact lX12_seekEver_14 ht hu2  hu hn hK hR  (((70) - (0 : Int32).toInt).toNat + 1) _ 1 0 hW Fr.rf (by omega) (by omega) (by omega)
theorem srX12_seekEver {G : jdG} {Z : jdL} {J : jdJ}  {t : Nat} {u2 : Nat} {n2 : Nat} (ht : zModel Z t) (hu2 : Z.1 u2 = some (0, n2))  : ∀ d : Nat, ∀ (n : Nat) (I : jdI) (K : jdI → jdJ → Prop) (x1 : Int32) (x3 : Int32), WM 7 t I → (0 ≤ x3.toInt ∧ x3.toInt ≤ x1.toInt ∧ x1.toInt ≤ (I t 30).toInt ∧ (I t 30).toInt ≤ 35) → (u2 < t ∨ t + 37 < u2) → (n2 = 40) → 0 ≤ (I t 30).toInt - x1.toInt ∧ (I t 30).toInt - x1.toInt ≤ (d : Int) → (∀ (I2 : jdI), WM 7 t I2 → Fr (fun a k => (a = t ∧ (k = 37 ∨ k = 38)) ∨ a = u2) I I2 → K I2 J) → Cl G mX12_seekEver (n + 1 + d + 1) 0 0 [.ref (gb G + t), .int x1, .ref (gb G + u2), .int x3] Z I J (qv Z K) := by
  intro d
  induction d with
  | zero =>
    intro n
    exact sbX12_seekEver (n := n) (d := 0) ht hu2 (fun _ _ _ _ _ _ _ _ h _ => absurd h (by omega))
  | succ d ih =>
    intro n
    exact sbX12_seekEver (n := n + d + 1) (d := d + 1) ht hu2 (fun I K x1 x3 hW hx hu hn h hK => by
      have e : n + d + 1 + 1 = n + 1 + d + 1 := by omega
      rw [e]
      exact ih n I K x1 x3 hW hx hu hn ⟨h.1, by omega⟩ hK) |> (fun h => by
      have e : n + 1 + (d + 1) + 1 = n + d + 1 + 2 := by omega
      rw [e]
      exact h)
theorem sfX12_seekEver {G : jdG} {n : Nat} {Z : jdL} {J : jdJ} {K : jdI → jdJ → Prop}  {I : jdI} {t : Nat} {x1 : Int32} {u2 : Nat} {n2 : Nat} {x3 : Int32} (ht : zModel Z t) (hu2 : Z.1 u2 = some (0, n2))  (hW : WM 7 t I) (hx : 0 ≤ x3.toInt ∧ x3.toInt ≤ x1.toInt ∧ x1.toInt ≤ (I t 30).toInt ∧ (I t 30).toInt ≤ 35) (hu : u2 < t ∨ t + 37 < u2) (hn : n2 = 40) (hd : 0 ≤ (I t 30).toInt - x1.toInt ∧ (I t 30).toInt - x1.toInt ≤ 35) (hK : ∀ (I2 : jdI), WM 7 t I2 → Fr (fun a k => (a = t ∧ (k = 37 ∨ k = 38)) ∨ a = u2) I I2 → K I2 J) : Cl G mX12_seekEver (n + 37) 0 0 [.ref (gb G + t), .int x1, .ref (gb G + u2), .int x3] Z I J (qv Z K) :=
  srX12_seekEver ht hu2 35 n I K x1 x3 hW hx hu hn hd hK
theorem lX12_leastFrom_171 {G : jdG} {n : Nat} {Z : jdL} {J : jdJ} {rc rs : Nat} {K : Int32 → jdI → jdJ → Prop}  {I0 : jdI} {mo142 : Nat} {t : Nat} {x1 : Int32} {x2 : Int32} (ht : zModel Z t)  (hx1 : 0 ≤ x1.toInt ∧ x1.toInt ≤ 7) (hx2 : 0 ≤ x2.toInt ∧ x2.toInt ≤ 127) (hK : ∀ (v : Int32) (I2 : jdI), WM 7 t I2 → Fr (fun a k => a = t + 34) I0 I2 → K v I2 J) {d : Nat} (hR : ∀ (I : jdI) (K : Int32 → jdI → jdJ → Prop) (x1 : Int32) (x2 : Int32), WM 7 t I → (0 ≤ x1.toInt ∧ x1.toInt ≤ 7) → (0 ≤ x2.toInt ∧ x2.toInt ≤ 127) → (x1.toInt ≤ (I t 10).toInt) → (LG t I) → 0 ≤ (7 - x1.toInt) * 128 + x2.toInt ∧ (7 - x1.toInt) * 128 + x2.toInt < (d : Int) → (∀ (v : Int32) (I2 : jdI), WM 7 t I2 → Fr (fun a k => a = t + 34) I I2 → K v I2 J) → Cl G mX12_leastFrom (n + 0) 0 0 [.ref (gb G + t), .int x1, .int x2] Z I J (qi Z K)) (hO142 : ∀ (I : jdI) (x3 : Int32) (x4 : Int32) (x5 : Int32) (x6 : Int32), WM 7 t I → Fr (fun a k => a = t + 34) I0 I → (0 ≤ x6.toInt ∧ x6.toInt ≤ 70) → (x1.toInt ≤ (I t 10).toInt) → (LG t I) → (0 ≤ (7 - x1.toInt) * 128 + x2.toInt ∧ (7 - x1.toInt) * 128 + x2.toInt ≤ (d : Int)) → (0 ≤ x3.toInt ∧ x3.toInt < 1024) → 70 - x6.toInt < (mo142 : Int) → Jd G mX12_leastFrom (jdFm G (qi Z K)) (n + 1) rc rs 142 [(0, .ref (gb G + t)), (1, .int x1), (2, .int x2), (3, .int x3), (4, .int x4), (5, .int x5), (6, .int x6)] [] Z I J) : ∀ m : Nat, ∀ (I : jdI) (x3 : Int32) (x4 : Int32) (x5 : Int32) (x6 : Int32) (x7 : Int32) (x8 : Int32), WM 7 t I → Fr (fun a k => a = t + 34) I0 I → (0 ≤ x8.toInt ∧ x8.toInt ≤ 7) → (0 ≤ x6.toInt ∧ x6.toInt < 70) → (x1.toInt ≤ (I t 10).toInt) → (LG t I) → (0 ≤ (7 - x1.toInt) * 128 + x2.toInt ∧ (7 - x1.toInt) * 128 + x2.toInt ≤ (d : Int)) → (0 ≤ x3.toInt ∧ x3.toInt < 1024) → (0 ≤ (x2 &&& ((I (t + 30) (Int32.toNatClampNeg x6)) ^^^ (-1))).toInt ∧ (x2 &&& ((I (t + 30) (Int32.toNatClampNeg x6)) ^^^ (-1))).toInt < x2.toInt) → 70 - x6.toInt ≤ (mo142 : Int) → 7 - x8.toInt < (m : Int) → Jd G mX12_leastFrom (jdFm G (qi Z K)) (n + 1) rc rs 171 [(0, .ref (gb G + t)), (1, .int x1), (2, .int x2), (3, .int x3), (4, .int x4), (5, .int x5), (6, .int x6), (7, .int x7), (8, .int x8)] [] Z I J := by
  intro m
  induction m with
  | zero =>
    intro I x3 x4 x5 x6 x7 x8 hW hF hx8 hx6 hp hL hd hx3 hal hmo142 hm
    have hwI := WM_f hW
    omega
  | succ m ih =>
    intro I x3 x4 x5 x6 x7 x8 hW hF hx8 hx6 hp hL hd hx3 hal hmo142 hm
    have hwI := WM_f hW
    refine rX12_leastFrom_171 ht ?_
    refine ⟨fun hc1 => ?_, fun hc2 => ?_⟩
    · skip
      have q1 := i32_lo (I t 10)
      have q2 := i32_lo x8
      have hc1 := Int32.le_iff_toInt_le.mp hc1
      first | have hcq := WM_coming hWI3 (k := Int32.toNatClampNeg (x1 - 1)) (by rw [tn_eq, i32_sub x1 1 (by show _ ≤ _ - (1 : Int); omega) (by show _ - (1 : Int) ≤ _; omega)]; show (_ - (1 : Int)).toNat < _; omega) | skip
      first | have hcp := WM_coming hW (k := Int32.toNatClampNeg (x1 - 1)) (by rw [tn_eq, i32_sub x1 1 (by show _ ≤ _ - (1 : Int); omega) (by show _ - (1 : Int) ≤ _; omega)]; show (_ - (1 : Int)).toNat < _; omega) | skip
      first | have hcm := WM_coming hW (k := Int32.toNatClampNeg x1) (by rw [tn_eq]; omega) | skip
      first | have hor := or_127 (x := x2) (f := I (t + 31) (Int32.toNatClampNeg x1)) (by omega) (by omega) (by omega) (by omega) | skip
      first | have hal := and_less (x := x2) (g := I (t + 30) (Int32.toNatClampNeg x6)) (by omega) (hL _ (by rw [tn_eq]; omega)) (by assumption) | skip
      have q3 := i32_lo x6
      refine ⟨vp_of (by omega) (by omega), ?_⟩
      have q4 := i32_lo x1
      have q5 := i32_lo x2
      have q6 : (-1 : Int32).toInt = -1 := rfl
      refine hR _ _ _ _ hW (by omega) (by omega) (by omega) (by assumption) ⟨by omega, by omega⟩ (fun v3 I2 hWI2 hFI2 => ?_)
      have hwI2 := WM_f hWI2
      first | have hk4 : (I2 t 10).toInt = (I t 10).toInt := (by rw [hFI2 t 10 (by omega)]) | skip
      first | have hk5 : (I2 t 30).toInt = (I t 30).toInt := (by rw [hFI2 t 30 (by omega)]) | skip
      have hLn := LG_fr hL hFI2 (by omega) (by intro k; omega)
      first | have hcq := WM_coming hWI3 (k := Int32.toNatClampNeg (x1 - 1)) (by rw [tn_eq, i32_sub x1 1 (by show _ ≤ _ - (1 : Int); omega) (by show _ - (1 : Int) ≤ _; omega)]; show (_ - (1 : Int)).toNat < _; omega) | skip
      first | have hcp := WM_coming hW (k := Int32.toNatClampNeg (x1 - 1)) (by rw [tn_eq, i32_sub x1 1 (by show _ ≤ _ - (1 : Int); omega) (by show _ - (1 : Int) ≤ _; omega)]; show (_ - (1 : Int)).toNat < _; omega) | skip
      first | have hcm := WM_coming hW (k := Int32.toNatClampNeg x1) (by rw [tn_eq]; omega) | skip
      first | have hor := or_127 (x := x2) (f := I (t + 31) (Int32.toNatClampNeg x1)) (by omega) (by omega) (by omega) (by omega) | skip
      first | have hal := and_less (x := x2) (g := I (t + 30) (Int32.toNatClampNeg x6)) (by omega) (hL _ (by rw [tn_eq]; omega)) (by assumption) | skip
      refine ⟨fun hc6 => ?_, fun hc7 => ?_⟩
      · skip
        have q7 := i32_lo x4
        have q8 := i32_lo x7
        have q9 := i32_lo v3
        have q10 := i32_addI x7 v3
        have hc6 := Int32.le_iff_toInt_le.mp hc6
        first | have hcq := WM_coming hWI3 (k := Int32.toNatClampNeg (x1 - 1)) (by rw [tn_eq, i32_sub x1 1 (by show _ ≤ _ - (1 : Int); omega) (by show _ - (1 : Int) ≤ _; omega)]; show (_ - (1 : Int)).toNat < _; omega) | skip
        first | have hcp := WM_coming hW (k := Int32.toNatClampNeg (x1 - 1)) (by rw [tn_eq, i32_sub x1 1 (by show _ ≤ _ - (1 : Int); omega) (by show _ - (1 : Int) ≤ _; omega)]; show (_ - (1 : Int)).toNat < _; omega) | skip
        first | have hcm := WM_coming hW (k := Int32.toNatClampNeg x1) (by rw [tn_eq]; omega) | skip
        first | have hor := or_127 (x := x2) (f := I (t + 31) (Int32.toNatClampNeg x1)) (by omega) (by omega) (by omega) (by omega) | skip
        first | have hal := and_less (x := x2) (g := I (t + 30) (Int32.toNatClampNeg x6)) (by omega) (hL _ (by rw [tn_eq]; omega)) (by assumption) | skip
        have q11 : (1 : Int32).toInt = 1 := rfl
        have q12 := i32_add x6 1 (by omega) (by omega)
        exact hO142 _ x3 x4 x5 (x6 + 1) hWI2 (Fr.tr hF hFI2 (by intro a k h; omega)) (by omega) (by omega) (by assumption) (by omega) (by omega) (by omega)
      · skip
        have q7 := i32_lo x4
        have q8 := i32_lo x7
        have q9 := i32_lo v3
        have q10 := i32_addI x7 v3
        have hc7 := mt Int32.le_iff_toInt_le.mpr hc7
        first | have hcq := WM_coming hWI3 (k := Int32.toNatClampNeg (x1 - 1)) (by rw [tn_eq, i32_sub x1 1 (by show _ ≤ _ - (1 : Int); omega) (by show _ - (1 : Int) ≤ _; omega)]; show (_ - (1 : Int)).toNat < _; omega) | skip
        first | have hcp := WM_coming hW (k := Int32.toNatClampNeg (x1 - 1)) (by rw [tn_eq, i32_sub x1 1 (by show _ ≤ _ - (1 : Int); omega) (by show _ - (1 : Int) ≤ _; omega)]; show (_ - (1 : Int)).toNat < _; omega) | skip
        first | have hcm := WM_coming hW (k := Int32.toNatClampNeg x1) (by rw [tn_eq]; omega) | skip
        first | have hor := or_127 (x := x2) (f := I (t + 31) (Int32.toNatClampNeg x1)) (by omega) (by omega) (by omega) (by omega) | skip
        first | have hal := and_less (x := x2) (g := I (t + 30) (Int32.toNatClampNeg x6)) (by omega) (hL _ (by rw [tn_eq]; omega)) (by assumption) | skip
        have q11 : (1 : Int32).toInt = 1 := rfl
        have q12 := i32_add x6 1 (by omega) (by omega)
        exact hO142 _ x3 (x7 + v3) x5 (x6 + 1) hWI2 (Fr.tr hF hFI2 (by intro a k h; omega)) (by omega) (by omega) (by assumption) (by omega) (by omega) (by omega)
    · skip
      have q1 := i32_lo (I t 10)
      have q2 := i32_lo x8
      have hc2 := mt Int32.le_iff_toInt_le.mpr hc2
      first | have hcq := WM_coming hWI3 (k := Int32.toNatClampNeg (x1 - 1)) (by rw [tn_eq, i32_sub x1 1 (by show _ ≤ _ - (1 : Int); omega) (by show _ - (1 : Int) ≤ _; omega)]; show (_ - (1 : Int)).toNat < _; omega) | skip
      first | have hcp := WM_coming hW (k := Int32.toNatClampNeg (x1 - 1)) (by rw [tn_eq, i32_sub x1 1 (by show _ ≤ _ - (1 : Int); omega) (by show _ - (1 : Int) ≤ _; omega)]; show (_ - (1 : Int)).toNat < _; omega) | skip
      first | have hcm := WM_coming hW (k := Int32.toNatClampNeg x1) (by rw [tn_eq]; omega) | skip
      first | have hor := or_127 (x := x2) (f := I (t + 31) (Int32.toNatClampNeg x1)) (by omega) (by omega) (by omega) (by omega) | skip
      first | have hal := and_less (x := x2) (g := I (t + 30) (Int32.toNatClampNeg x6)) (by omega) (hL _ (by rw [tn_eq]; omega)) (by assumption) | skip
      have q3 := i32_lo x6
      refine ⟨vp_of (by omega) (by omega), ?_⟩
      refine sfX12_has  trivial  (fun v6  hp8 => ?_)
      first | have hcq := WM_coming hWI3 (k := Int32.toNatClampNeg (x1 - 1)) (by rw [tn_eq, i32_sub x1 1 (by show _ ≤ _ - (1 : Int); omega) (by show _ - (1 : Int) ≤ _; omega)]; show (_ - (1 : Int)).toNat < _; omega) | skip
      first | have hcp := WM_coming hW (k := Int32.toNatClampNeg (x1 - 1)) (by rw [tn_eq, i32_sub x1 1 (by show _ ≤ _ - (1 : Int); omega) (by show _ - (1 : Int) ≤ _; omega)]; show (_ - (1 : Int)).toNat < _; omega) | skip
      first | have hcm := WM_coming hW (k := Int32.toNatClampNeg x1) (by rw [tn_eq]; omega) | skip
      first | have hor := or_127 (x := x2) (f := I (t + 31) (Int32.toNatClampNeg x1)) (by omega) (by omega) (by omega) (by omega) | skip
      first | have hal := and_less (x := x2) (g := I (t + 30) (Int32.toNatClampNeg x6)) (by omega) (hL _ (by rw [tn_eq]; omega)) (by assumption) | skip
      refine ⟨fun hc9 => ?_, fun hc10 => ?_⟩
      · skip
        have q4 := i32_lo v6
        have q5 : (0 : Int32).toInt = 0 := rfl
        have hc9 := Int32.toInt_inj.mpr hc9
        first | have hcq := WM_coming hWI3 (k := Int32.toNatClampNeg (x1 - 1)) (by rw [tn_eq, i32_sub x1 1 (by show _ ≤ _ - (1 : Int); omega) (by show _ - (1 : Int) ≤ _; omega)]; show (_ - (1 : Int)).toNat < _; omega) | skip
        first | have hcp := WM_coming hW (k := Int32.toNatClampNeg (x1 - 1)) (by rw [tn_eq, i32_sub x1 1 (by show _ ≤ _ - (1 : Int); omega) (by show _ - (1 : Int) ≤ _; omega)]; show (_ - (1 : Int)).toNat < _; omega) | skip
        first | have hcm := WM_coming hW (k := Int32.toNatClampNeg x1) (by rw [tn_eq]; omega) | skip
        first | have hor := or_127 (x := x2) (f := I (t + 31) (Int32.toNatClampNeg x1)) (by omega) (by omega) (by omega) (by omega) | skip
        first | have hal := and_less (x := x2) (g := I (t + 30) (Int32.toNatClampNeg x6)) (by omega) (hL _ (by rw [tn_eq]; omega)) (by assumption) | skip
        have q6 : (1 : Int32).toInt = 1 := rfl
        have q7 := i32_add x8 1 (by omega) (by omega)
        exact ih _ x3 x4 x5 x6 (x7 + 0) (x8 + 1) hW hF (by omega) (by omega) (by omega) (by assumption) (by omega) (by omega) (by assumption) (by omega) (by omega)
      · skip
        have q4 := i32_lo v6
        have q5 : (0 : Int32).toInt = 0 := rfl
        have hc10 : ¬ (v6).toInt = (0 : Int32).toInt := fun z => hc10 (Int32.toInt_inj.mp z)
        first | have hcq := WM_coming hWI3 (k := Int32.toNatClampNeg (x1 - 1)) (by rw [tn_eq, i32_sub x1 1 (by show _ ≤ _ - (1 : Int); omega) (by show _ - (1 : Int) ≤ _; omega)]; show (_ - (1 : Int)).toNat < _; omega) | skip
        first | have hcp := WM_coming hW (k := Int32.toNatClampNeg (x1 - 1)) (by rw [tn_eq, i32_sub x1 1 (by show _ ≤ _ - (1 : Int); omega) (by show _ - (1 : Int) ≤ _; omega)]; show (_ - (1 : Int)).toNat < _; omega) | skip
        first | have hcm := WM_coming hW (k := Int32.toNatClampNeg x1) (by rw [tn_eq]; omega) | skip
        first | have hor := or_127 (x := x2) (f := I (t + 31) (Int32.toNatClampNeg x1)) (by omega) (by omega) (by omega) (by omega) | skip
        first | have hal := and_less (x := x2) (g := I (t + 30) (Int32.toNatClampNeg x6)) (by omega) (hL _ (by rw [tn_eq]; omega)) (by assumption) | skip
        refine ⟨vp_of (by omega) (by omega), ?_⟩
        refine ⟨vp_of (by omega) (by omega), ?_⟩
        have q6 : (1 : Int32).toInt = 1 := rfl
        have q7 := i32_add x8 1 (by omega) (by omega)
        exact ih _ x3 x4 x5 x6 (x7 + ((10 * (I (t + 19) (Int32.toNatClampNeg x8))) * (x5 - (I (t + 18) (Int32.toNatClampNeg x8))))) (x8 + 1) hW hF (by omega) (by omega) (by omega) (by assumption) (by omega) (by omega) (by assumption) (by omega) (by omega)
theorem lX12_leastFrom_142 {G : jdG} {n : Nat} {Z : jdL} {J : jdJ} {rc rs : Nat} {K : Int32 → jdI → jdJ → Prop}  {I0 : jdI} {t : Nat} {x1 : Int32} {x2 : Int32} (ht : zModel Z t)  (hx1 : 0 ≤ x1.toInt ∧ x1.toInt ≤ 7) (hx2 : 0 ≤ x2.toInt ∧ x2.toInt ≤ 127) (hK : ∀ (v : Int32) (I2 : jdI), WM 7 t I2 → Fr (fun a k => a = t + 34) I0 I2 → K v I2 J) {d : Nat} (hR : ∀ (I : jdI) (K : Int32 → jdI → jdJ → Prop) (x1 : Int32) (x2 : Int32), WM 7 t I → (0 ≤ x1.toInt ∧ x1.toInt ≤ 7) → (0 ≤ x2.toInt ∧ x2.toInt ≤ 127) → (x1.toInt ≤ (I t 10).toInt) → (LG t I) → 0 ≤ (7 - x1.toInt) * 128 + x2.toInt ∧ (7 - x1.toInt) * 128 + x2.toInt < (d : Int) → (∀ (v : Int32) (I2 : jdI), WM 7 t I2 → Fr (fun a k => a = t + 34) I I2 → K v I2 J) → Cl G mX12_leastFrom (n + 0) 0 0 [.ref (gb G + t), .int x1, .int x2] Z I J (qi Z K)) : ∀ m : Nat, ∀ (I : jdI) (x3 : Int32) (x4 : Int32) (x5 : Int32) (x6 : Int32), WM 7 t I → Fr (fun a k => a = t + 34) I0 I → (0 ≤ x6.toInt ∧ x6.toInt ≤ 70) → (x1.toInt ≤ (I t 10).toInt) → (LG t I) → (0 ≤ (7 - x1.toInt) * 128 + x2.toInt ∧ (7 - x1.toInt) * 128 + x2.toInt ≤ (d : Int)) → (0 ≤ x3.toInt ∧ x3.toInt < 1024) → 70 - x6.toInt < (m : Int) → Jd G mX12_leastFrom (jdFm G (qi Z K)) (n + 1) rc rs 142 [(0, .ref (gb G + t)), (1, .int x1), (2, .int x2), (3, .int x3), (4, .int x4), (5, .int x5), (6, .int x6)] [] Z I J := by
  intro m
  induction m with
  | zero =>
    intro I x3 x4 x5 x6 hW hF hx6 hp hL hd hx3 hm
    have hwI := WM_f hW
    omega
  | succ m ih =>
    intro I x3 x4 x5 x6 hW hF hx6 hp hL hd hx3 hm
    have hwI := WM_f hW
    refine rX12_leastFrom_142 ht ?_
    refine ⟨fun hc1 => ?_, fun hc2 => ?_⟩
    · skip
      have q1 := i32_lo (I t 30)
      have q2 := i32_lo x6
      have hc1 := Int32.le_iff_toInt_le.mp hc1
      first | have hcq := WM_coming hWI3 (k := Int32.toNatClampNeg (x1 - 1)) (by rw [tn_eq, i32_sub x1 1 (by show _ ≤ _ - (1 : Int); omega) (by show _ - (1 : Int) ≤ _; omega)]; show (_ - (1 : Int)).toNat < _; omega) | skip
      first | have hcp := WM_coming hW (k := Int32.toNatClampNeg (x1 - 1)) (by rw [tn_eq, i32_sub x1 1 (by show _ ≤ _ - (1 : Int); omega) (by show _ - (1 : Int) ≤ _; omega)]; show (_ - (1 : Int)).toNat < _; omega) | skip
      first | have hcm := WM_coming hW (k := Int32.toNatClampNeg x1) (by rw [tn_eq]; omega) | skip
      first | have hor := or_127 (x := x2) (f := I (t + 31) (Int32.toNatClampNeg x1)) (by omega) (by omega) (by omega) (by omega) | skip
      first | have hal := and_less (x := x2) (g := I (t + 30) (Int32.toNatClampNeg x6)) (by omega) (hL _ (by rw [tn_eq]; omega)) (by assumption) | skip
      have q3 := i32_lo x3
      refine ⟨vp_of (by omega) (by omega), ?_⟩
      exact hK _ _ (WM_uI hW (by first | exact okMo (by decide) (by decide) (by decide) (by decide) (by decide) | exact okMf (by decide) (by decide) (by decide) (by decide) (by decide) (by decide) (by decide) (by decide) | exact okM30 (by omega) | exact okM42 (by omega) | exact okM33 (by omega) | exact okM10 (by omega) | exact okM8 (by omega) | exact okM22 (by omega) | exact okM24 (by omega) | exact okM14 (by omega) | exact okMa31 (by omega) | exact okMa35 (by omega) | exact okMa36 (by omega) | exact okMa3 (by omega) | exact okMr (by omega) | (unfold okM; refine ⟨?_, ?_, ?_, ?_, ?_, ?_, ?_, ?_, ?_, ?_, ?_, ?_⟩ <;> intro h <;> omega))) (Fr_uI hF (by omega))
    · skip
      have q1 := i32_lo (I t 30)
      have q2 := i32_lo x6
      have hc2 := mt Int32.le_iff_toInt_le.mpr hc2
      first | have hcq := WM_coming hWI3 (k := Int32.toNatClampNeg (x1 - 1)) (by rw [tn_eq, i32_sub x1 1 (by show _ ≤ _ - (1 : Int); omega) (by show _ - (1 : Int) ≤ _; omega)]; show (_ - (1 : Int)).toNat < _; omega) | skip
      first | have hcp := WM_coming hW (k := Int32.toNatClampNeg (x1 - 1)) (by rw [tn_eq, i32_sub x1 1 (by show _ ≤ _ - (1 : Int); omega) (by show _ - (1 : Int) ≤ _; omega)]; show (_ - (1 : Int)).toNat < _; omega) | skip
      first | have hcm := WM_coming hW (k := Int32.toNatClampNeg x1) (by rw [tn_eq]; omega) | skip
      first | have hor := or_127 (x := x2) (f := I (t + 31) (Int32.toNatClampNeg x1)) (by omega) (by omega) (by omega) (by omega) | skip
      first | have hal := and_less (x := x2) (g := I (t + 30) (Int32.toNatClampNeg x6)) (by omega) (hL _ (by rw [tn_eq]; omega)) (by assumption) | skip
      refine ⟨vp_of (by omega) (by omega), ?_⟩
      refine ⟨fun hc3 => ?_, fun hc4 => ?_⟩
      · skip
        have q3 := i32_lo x2
        have q4 : (-1 : Int32).toInt = -1 := rfl
        have q5 : (0 : Int32).toInt = 0 := rfl
        have hc3 : ¬ (((I (t + 30) (Int32.toNatClampNeg x6)) &&& (x2 ^^^ (-1)))).toInt = (0 : Int32).toInt := fun z => hc3 (Int32.toInt_inj.mp z)
        first | have hcq := WM_coming hWI3 (k := Int32.toNatClampNeg (x1 - 1)) (by rw [tn_eq, i32_sub x1 1 (by show _ ≤ _ - (1 : Int); omega) (by show _ - (1 : Int) ≤ _; omega)]; show (_ - (1 : Int)).toNat < _; omega) | skip
        first | have hcp := WM_coming hW (k := Int32.toNatClampNeg (x1 - 1)) (by rw [tn_eq, i32_sub x1 1 (by show _ ≤ _ - (1 : Int); omega) (by show _ - (1 : Int) ≤ _; omega)]; show (_ - (1 : Int)).toNat < _; omega) | skip
        first | have hcm := WM_coming hW (k := Int32.toNatClampNeg x1) (by rw [tn_eq]; omega) | skip
        first | have hor := or_127 (x := x2) (f := I (t + 31) (Int32.toNatClampNeg x1)) (by omega) (by omega) (by omega) (by omega) | skip
        first | have hal := and_less (x := x2) (g := I (t + 30) (Int32.toNatClampNeg x6)) (by omega) (hL _ (by rw [tn_eq]; omega)) (by assumption) | skip
        have q6 : (1 : Int32).toInt = 1 := rfl
        have q7 := i32_add x6 1 (by omega) (by omega)
        exact ih _ x3 x4 x5 (x6 + 1) hW hF (by omega) (by omega) (by assumption) (by omega) (by omega) (by omega)
      · skip
        have q3 := i32_lo x2
        have q4 : (-1 : Int32).toInt = -1 := rfl
        have q5 : (0 : Int32).toInt = 0 := rfl
        have hc4 := Int32.toInt_inj.mpr hc4
        first | have hcq := WM_coming hWI3 (k := Int32.toNatClampNeg (x1 - 1)) (by rw [tn_eq, i32_sub x1 1 (by show _ ≤ _ - (1 : Int); omega) (by show _ - (1 : Int) ≤ _; omega)]; show (_ - (1 : Int)).toNat < _; omega) | skip
        first | have hcp := WM_coming hW (k := Int32.toNatClampNeg (x1 - 1)) (by rw [tn_eq, i32_sub x1 1 (by show _ ≤ _ - (1 : Int); omega) (by show _ - (1 : Int) ≤ _; omega)]; show (_ - (1 : Int)).toNat < _; omega) | skip
        first | have hcm := WM_coming hW (k := Int32.toNatClampNeg x1) (by rw [tn_eq]; omega) | skip
        first | have hor := or_127 (x := x2) (f := I (t + 31) (Int32.toNatClampNeg x1)) (by omega) (by omega) (by omega) (by omega) | skip
        first | have hal := and_less (x := x2) (g := I (t + 30) (Int32.toNatClampNeg x6)) (by omega) (hL _ (by rw [tn_eq]; omega)) (by assumption) | skip
        exact lX12_leastFrom_171 ht  hx1 hx2 hK hR ih ((7 - (0 : Int32).toInt).toNat + 1) _ x3 x4 x5 x6 (-1) 0 hW hF (by omega) (by omega) (by omega) (by assumption) (by omega) (by omega) (by assumption) (by omega) (by omega)
theorem lX12_leastFrom_37 {G : jdG} {n : Nat} {Z : jdL} {J : jdJ} {rc rs : Nat} {K : Int32 → jdI → jdJ → Prop}  {I0 : jdI} {t : Nat} {x1 : Int32} {x2 : Int32} (ht : zModel Z t)  (hx1 : 0 ≤ x1.toInt ∧ x1.toInt ≤ 7) (hx2 : 0 ≤ x2.toInt ∧ x2.toInt ≤ 127) (hK : ∀ (v : Int32) (I2 : jdI), WM 7 t I2 → Fr (fun a k => a = t + 34) I0 I2 → K v I2 J) {d : Nat} (hR : ∀ (I : jdI) (K : Int32 → jdI → jdJ → Prop) (x1 : Int32) (x2 : Int32), WM 7 t I → (0 ≤ x1.toInt ∧ x1.toInt ≤ 7) → (0 ≤ x2.toInt ∧ x2.toInt ≤ 127) → (x1.toInt ≤ (I t 10).toInt) → (LG t I) → 0 ≤ (7 - x1.toInt) * 128 + x2.toInt ∧ (7 - x1.toInt) * 128 + x2.toInt < (d : Int) → (∀ (v : Int32) (I2 : jdI), WM 7 t I2 → Fr (fun a k => a = t + 34) I I2 → K v I2 J) → Cl G mX12_leastFrom (n + 0) 0 0 [.ref (gb G + t), .int x1, .int x2] Z I J (qi Z K)) : ∀ m : Nat, ∀ (I : jdI) (x3 : Int32) (x4 : Int32) (x5 : Int32), WM 7 t I → Fr (fun a k => a = t + 34) I0 I → (0 ≤ x5.toInt ∧ x5.toInt ≤ 7) → (x1.toInt ≤ (I t 10).toInt) → (LG t I) → (0 ≤ (7 - x1.toInt) * 128 + x2.toInt ∧ (7 - x1.toInt) * 128 + x2.toInt ≤ (d : Int)) → (0 ≤ x3.toInt ∧ x3.toInt < 1024) → (7) - x5.toInt < (m : Int) → Jd G mX12_leastFrom (jdFm G (qi Z K)) (n + 1) rc rs 37 [(0, .ref (gb G + t)), (1, .int x1), (2, .int x2), (3, .int x3), (4, .int x4), (5, .int x5)] [] Z I J := by
  intro m
  induction m with
  | zero =>
    intro I x3 x4 x5 hW hF hx5 hp hL hd hx3 hm
    have hwI := WM_f hW
    omega
  | succ m ih =>
    intro I x3 x4 x5 hW hF hx5 hp hL hd hx3 hm
    have hwI := WM_f hW
    refine rX12_leastFrom_37 ht ?_
    refine ⟨fun hc1 => ?_, fun hc2 => ?_⟩
    · skip
      have q1 := i32_lo (I t 10)
      have q2 := i32_lo x5
      have hc1 := Int32.le_iff_toInt_le.mp hc1
      first | have hcq := WM_coming hWI3 (k := Int32.toNatClampNeg (x1 - 1)) (by rw [tn_eq, i32_sub x1 1 (by show _ ≤ _ - (1 : Int); omega) (by show _ - (1 : Int) ≤ _; omega)]; show (_ - (1 : Int)).toNat < _; omega) | skip
      first | have hcp := WM_coming hW (k := Int32.toNatClampNeg (x1 - 1)) (by rw [tn_eq, i32_sub x1 1 (by show _ ≤ _ - (1 : Int); omega) (by show _ - (1 : Int) ≤ _; omega)]; show (_ - (1 : Int)).toNat < _; omega) | skip
      first | have hcm := WM_coming hW (k := Int32.toNatClampNeg x1) (by rw [tn_eq]; omega) | skip
      first | have hor := or_127 (x := x2) (f := I (t + 31) (Int32.toNatClampNeg x1)) (by omega) (by omega) (by omega) (by omega) | skip
      first | have hal := and_less (x := x2) (g := I (t + 30) (Int32.toNatClampNeg x6)) (by omega) (hL _ (by rw [tn_eq]; omega)) (by assumption) | skip
      refine ⟨fun hc3 => ?_, fun hc4 => ?_⟩
      · skip
        have q3 := i32_lo x1
        have q4 : (0 : Int32).toInt = 0 := rfl
        have hc3 : ¬ (x1).toInt = (0 : Int32).toInt := fun z => hc3 (Int32.toInt_inj.mp z)
        first | have hcq := WM_coming hWI3 (k := Int32.toNatClampNeg (x1 - 1)) (by rw [tn_eq, i32_sub x1 1 (by show _ ≤ _ - (1 : Int); omega) (by show _ - (1 : Int) ≤ _; omega)]; show (_ - (1 : Int)).toNat < _; omega) | skip
        first | have hcp := WM_coming hW (k := Int32.toNatClampNeg (x1 - 1)) (by rw [tn_eq, i32_sub x1 1 (by show _ ≤ _ - (1 : Int); omega) (by show _ - (1 : Int) ≤ _; omega)]; show (_ - (1 : Int)).toNat < _; omega) | skip
        first | have hcm := WM_coming hW (k := Int32.toNatClampNeg x1) (by rw [tn_eq]; omega) | skip
        first | have hor := or_127 (x := x2) (f := I (t + 31) (Int32.toNatClampNeg x1)) (by omega) (by omega) (by omega) (by omega) | skip
        first | have hal := and_less (x := x2) (g := I (t + 30) (Int32.toNatClampNeg x6)) (by omega) (hL _ (by rw [tn_eq]; omega)) (by assumption) | skip
        have q5 : (1 : Int32).toInt = 1 := rfl
        have q6 := i32_sub x1 1 (by omega) (by omega)
        refine ⟨vp_of (by omega) (by omega), ?_⟩
        refine ⟨vp_of (by omega) (by omega), ?_⟩
        exact lX12_leastFrom_142 ht  hx1 hx2 hK hR  ((70 - (0 : Int32).toInt).toNat + 1) _ x3 (x4 + 9) (I (t + 18) (Int32.toNatClampNeg (I (t + 31) (Int32.toNatClampNeg (x1 - 1))))) 0 hW hF (by omega) (by omega) (by assumption) (by omega) (by omega) (by omega)
      · skip
        have q3 := i32_lo x1
        have q4 : (0 : Int32).toInt = 0 := rfl
        have hc4 := Int32.toInt_inj.mpr hc4
        first | have hcq := WM_coming hWI3 (k := Int32.toNatClampNeg (x1 - 1)) (by rw [tn_eq, i32_sub x1 1 (by show _ ≤ _ - (1 : Int); omega) (by show _ - (1 : Int) ≤ _; omega)]; show (_ - (1 : Int)).toNat < _; omega) | skip
        first | have hcp := WM_coming hW (k := Int32.toNatClampNeg (x1 - 1)) (by rw [tn_eq, i32_sub x1 1 (by show _ ≤ _ - (1 : Int); omega) (by show _ - (1 : Int) ≤ _; omega)]; show (_ - (1 : Int)).toNat < _; omega) | skip
        first | have hcm := WM_coming hW (k := Int32.toNatClampNeg x1) (by rw [tn_eq]; omega) | skip
        first | have hor := or_127 (x := x2) (f := I (t + 31) (Int32.toNatClampNeg x1)) (by omega) (by omega) (by omega) (by omega) | skip
        first | have hal := and_less (x := x2) (g := I (t + 30) (Int32.toNatClampNeg x6)) (by omega) (hL _ (by rw [tn_eq]; omega)) (by assumption) | skip
        exact lX12_leastFrom_142 ht  hx1 hx2 hK hR  ((70 - (0 : Int32).toInt).toNat + 1) _ x3 (x4 + 9) 0 0 hW hF (by omega) (by omega) (by assumption) (by omega) (by omega) (by omega)
    · skip
      have q1 := i32_lo (I t 10)
      have q2 := i32_lo x5
      have hc2 := mt Int32.le_iff_toInt_le.mpr hc2
      first | have hcq := WM_coming hWI3 (k := Int32.toNatClampNeg (x1 - 1)) (by rw [tn_eq, i32_sub x1 1 (by show _ ≤ _ - (1 : Int); omega) (by show _ - (1 : Int) ≤ _; omega)]; show (_ - (1 : Int)).toNat < _; omega) | skip
      first | have hcp := WM_coming hW (k := Int32.toNatClampNeg (x1 - 1)) (by rw [tn_eq, i32_sub x1 1 (by show _ ≤ _ - (1 : Int); omega) (by show _ - (1 : Int) ≤ _; omega)]; show (_ - (1 : Int)).toNat < _; omega) | skip
      first | have hcm := WM_coming hW (k := Int32.toNatClampNeg x1) (by rw [tn_eq]; omega) | skip
      first | have hor := or_127 (x := x2) (f := I (t + 31) (Int32.toNatClampNeg x1)) (by omega) (by omega) (by omega) (by omega) | skip
      first | have hal := and_less (x := x2) (g := I (t + 30) (Int32.toNatClampNeg x6)) (by omega) (hL _ (by rw [tn_eq]; omega)) (by assumption) | skip
      have q3 := i32_lo x2
      refine sfX12_has  trivial  (fun v4  hp5 => ?_)
      first | have hcq := WM_coming hWI3 (k := Int32.toNatClampNeg (x1 - 1)) (by rw [tn_eq, i32_sub x1 1 (by show _ ≤ _ - (1 : Int); omega) (by show _ - (1 : Int) ≤ _; omega)]; show (_ - (1 : Int)).toNat < _; omega) | skip
      first | have hcp := WM_coming hW (k := Int32.toNatClampNeg (x1 - 1)) (by rw [tn_eq, i32_sub x1 1 (by show _ ≤ _ - (1 : Int); omega) (by show _ - (1 : Int) ≤ _; omega)]; show (_ - (1 : Int)).toNat < _; omega) | skip
      first | have hcm := WM_coming hW (k := Int32.toNatClampNeg x1) (by rw [tn_eq]; omega) | skip
      first | have hor := or_127 (x := x2) (f := I (t + 31) (Int32.toNatClampNeg x1)) (by omega) (by omega) (by omega) (by omega) | skip
      first | have hal := and_less (x := x2) (g := I (t + 30) (Int32.toNatClampNeg x6)) (by omega) (hL _ (by rw [tn_eq]; omega)) (by assumption) | skip
      refine ⟨fun hc6 => ?_, fun hc7 => ?_⟩
      · skip
        have q4 := i32_lo v4
        have q5 : (0 : Int32).toInt = 0 := rfl
        have hc6 := Int32.toInt_inj.mpr hc6
        first | have hcq := WM_coming hWI3 (k := Int32.toNatClampNeg (x1 - 1)) (by rw [tn_eq, i32_sub x1 1 (by show _ ≤ _ - (1 : Int); omega) (by show _ - (1 : Int) ≤ _; omega)]; show (_ - (1 : Int)).toNat < _; omega) | skip
        first | have hcp := WM_coming hW (k := Int32.toNatClampNeg (x1 - 1)) (by rw [tn_eq, i32_sub x1 1 (by show _ ≤ _ - (1 : Int); omega) (by show _ - (1 : Int) ≤ _; omega)]; show (_ - (1 : Int)).toNat < _; omega) | skip
        first | have hcm := WM_coming hW (k := Int32.toNatClampNeg x1) (by rw [tn_eq]; omega) | skip
        first | have hor := or_127 (x := x2) (f := I (t + 31) (Int32.toNatClampNeg x1)) (by omega) (by omega) (by omega) (by omega) | skip
        first | have hal := and_less (x := x2) (g := I (t + 30) (Int32.toNatClampNeg x6)) (by omega) (hL _ (by rw [tn_eq]; omega)) (by assumption) | skip
        have q6 : (1 : Int32).toInt = 1 := rfl
        have q7 := i32_add x5 1 (by omega) (by omega)
        exact ih _ x3 (x4 + 0) (x5 + 1) hW hF (by omega) (by omega) (by assumption) (by omega) (by omega) (by omega)
      · skip
        have q4 := i32_lo v4
        have q5 : (0 : Int32).toInt = 0 := rfl
        have hc7 : ¬ (v4).toInt = (0 : Int32).toInt := fun z => hc7 (Int32.toInt_inj.mp z)
        first | have hcq := WM_coming hWI3 (k := Int32.toNatClampNeg (x1 - 1)) (by rw [tn_eq, i32_sub x1 1 (by show _ ≤ _ - (1 : Int); omega) (by show _ - (1 : Int) ≤ _; omega)]; show (_ - (1 : Int)).toNat < _; omega) | skip
        first | have hcp := WM_coming hW (k := Int32.toNatClampNeg (x1 - 1)) (by rw [tn_eq, i32_sub x1 1 (by show _ ≤ _ - (1 : Int); omega) (by show _ - (1 : Int) ≤ _; omega)]; show (_ - (1 : Int)).toNat < _; omega) | skip
        first | have hcm := WM_coming hW (k := Int32.toNatClampNeg x1) (by rw [tn_eq]; omega) | skip
        first | have hor := or_127 (x := x2) (f := I (t + 31) (Int32.toNatClampNeg x1)) (by omega) (by omega) (by omega) (by omega) | skip
        first | have hal := and_less (x := x2) (g := I (t + 30) (Int32.toNatClampNeg x6)) (by omega) (hL _ (by rw [tn_eq]; omega)) (by assumption) | skip
        refine ⟨vp_of (by omega) (by omega), ?_⟩
        refine ⟨vp_of (by omega) (by omega), ?_⟩
        have q6 : (1 : Int32).toInt = 1 := rfl
        have q7 := i32_add x5 1 (by omega) (by omega)
        exact ih _ x3 (x4 + ((10 * (I (t + 19) (Int32.toNatClampNeg x5))) * (24 - (I (t + 18) (Int32.toNatClampNeg x5))))) (x5 + 1) hW hF (by omega) (by omega) (by assumption) (by omega) (by omega) (by omega)
theorem sbX12_leastFrom {G : jdG} {n : Nat} {Z : jdL} {J : jdJ} {d : Nat}  {t : Nat} (ht : zModel Z t)  (hR : ∀ (I : jdI) (K : Int32 → jdI → jdJ → Prop) (x1 : Int32) (x2 : Int32), WM 7 t I → (0 ≤ x1.toInt ∧ x1.toInt ≤ 7) → (0 ≤ x2.toInt ∧ x2.toInt ≤ 127) → (x1.toInt ≤ (I t 10).toInt) → (LG t I) → 0 ≤ (7 - x1.toInt) * 128 + x2.toInt ∧ (7 - x1.toInt) * 128 + x2.toInt < (d : Int) → (∀ (v : Int32) (I2 : jdI), WM 7 t I2 → Fr (fun a k => a = t + 34) I I2 → K v I2 J) → Cl G mX12_leastFrom (n + 0) 0 0 [.ref (gb G + t), .int x1, .int x2] Z I J (qi Z K)) (I : jdI) (K : Int32 → jdI → jdJ → Prop) (x1 : Int32) (x2 : Int32) (hW : WM 7 t I) (hx1 : 0 ≤ x1.toInt ∧ x1.toInt ≤ 7) (hx2 : 0 ≤ x2.toInt ∧ x2.toInt ≤ 127) (hp : x1.toInt ≤ (I t 10).toInt) (hL : LG t I) (hd : 0 ≤ (7 - x1.toInt) * 128 + x2.toInt ∧ (7 - x1.toInt) * 128 + x2.toInt ≤ (d : Int)) (hK : ∀ (v : Int32) (I2 : jdI), WM 7 t I2 → Fr (fun a k => a = t + 34) I I2 → K v I2 J) : Cl G mX12_leastFrom (n + 1) 0 0 [.ref (gb G + t), .int x1, .int x2] Z I J (qi Z K) := by
  refine eX12_leastFrom ht ?_
  have hwI := WM_f hW
  have hix := ix_1024 hx1.1 hx1.2 hx2.1 hx2.2
  refine ⟨vp_of hix.1 hix.2, ?_⟩
  refine ⟨fun hc1 => ?_, fun hc2 => ?_⟩
  · skip
    have q1 : (0 : Int32).toInt = 0 := rfl
    have hc1 := Int32.lt_iff_toInt_lt.mp hc1
    first | have hcq := WM_coming hWI3 (k := Int32.toNatClampNeg (x1 - 1)) (by rw [tn_eq, i32_sub x1 1 (by show _ ≤ _ - (1 : Int); omega) (by show _ - (1 : Int) ≤ _; omega)]; show (_ - (1 : Int)).toNat < _; omega) | skip
    first | have hcp := WM_coming hW (k := Int32.toNatClampNeg (x1 - 1)) (by rw [tn_eq, i32_sub x1 1 (by show _ ≤ _ - (1 : Int); omega) (by show _ - (1 : Int) ≤ _; omega)]; show (_ - (1 : Int)).toNat < _; omega) | skip
    first | have hcm := WM_coming hW (k := Int32.toNatClampNeg x1) (by rw [tn_eq]; omega) | skip
    first | have hor := or_127 (x := x2) (f := I (t + 31) (Int32.toNatClampNeg x1)) (by omega) (by omega) (by omega) (by omega) | skip
    first | have hal := and_less (x := x2) (g := I (t + 30) (Int32.toNatClampNeg x6)) (by omega) (hL _ (by rw [tn_eq]; omega)) (by assumption) | skip
    refine ⟨fun hc3 => ?_, fun hc4 => ?_⟩
    · skip
      have q2 := i32_lo x1
      have q3 := i32_lo (I t 10)
      have hc3 : ¬ (x1).toInt = ((I t 10)).toInt := fun z => hc3 (Int32.toInt_inj.mp z)
      first | have hcq := WM_coming hWI3 (k := Int32.toNatClampNeg (x1 - 1)) (by rw [tn_eq, i32_sub x1 1 (by show _ ≤ _ - (1 : Int); omega) (by show _ - (1 : Int) ≤ _; omega)]; show (_ - (1 : Int)).toNat < _; omega) | skip
      first | have hcp := WM_coming hW (k := Int32.toNatClampNeg (x1 - 1)) (by rw [tn_eq, i32_sub x1 1 (by show _ ≤ _ - (1 : Int); omega) (by show _ - (1 : Int) ≤ _; omega)]; show (_ - (1 : Int)).toNat < _; omega) | skip
      first | have hcm := WM_coming hW (k := Int32.toNatClampNeg x1) (by rw [tn_eq]; omega) | skip
      first | have hor := or_127 (x := x2) (f := I (t + 31) (Int32.toNatClampNeg x1)) (by omega) (by omega) (by omega) (by omega) | skip
      first | have hal := and_less (x := x2) (g := I (t + 30) (Int32.toNatClampNeg x6)) (by omega) (hL _ (by rw [tn_eq]; omega)) (by assumption) | skip
      refine ⟨vp_of (by omega) (by omega), ?_⟩
      have q4 : (1 : Int32).toInt = 1 := rfl
      have q5 := i32_add x1 1 (by omega) (by omega)
      have q6 := i32_lo x2
      have q7 : (31 : Int32).toInt = 31 := rfl
      refine hR _ _ _ _ hW (by omega) (by omega) (by omega) (by assumption) ⟨by omega, by omega⟩ (fun v4 I3 hWI3 hFI3 => ?_)
      have hwI3 := WM_f hWI3
      first | have hk6 : (I3 t 10).toInt = (I t 10).toInt := (by rw [hFI3 t 10 (by omega)]) | skip
      first | have hk7 : (I3 t 30).toInt = (I t 30).toInt := (by rw [hFI3 t 30 (by omega)]) | skip
      have hLn := LG_fr hL hFI3 (by omega) (by intro k; omega)
      first | have hcq := WM_coming hWI3 (k := Int32.toNatClampNeg (x1 - 1)) (by rw [tn_eq, i32_sub x1 1 (by show _ ≤ _ - (1 : Int); omega) (by show _ - (1 : Int) ≤ _; omega)]; show (_ - (1 : Int)).toNat < _; omega) | skip
      first | have hcp := WM_coming hW (k := Int32.toNatClampNeg (x1 - 1)) (by rw [tn_eq, i32_sub x1 1 (by show _ ≤ _ - (1 : Int); omega) (by show _ - (1 : Int) ≤ _; omega)]; show (_ - (1 : Int)).toNat < _; omega) | skip
      first | have hcm := WM_coming hW (k := Int32.toNatClampNeg x1) (by rw [tn_eq]; omega) | skip
      first | have hor := or_127 (x := x2) (f := I (t + 31) (Int32.toNatClampNeg x1)) (by omega) (by omega) (by omega) (by omega) | skip
      first | have hal := and_less (x := x2) (g := I (t + 30) (Int32.toNatClampNeg x6)) (by omega) (hL _ (by rw [tn_eq]; omega)) (by assumption) | skip
      refine ⟨fun hc8 => ?_, fun hc9 => ?_⟩
      · skip
        have hc8 : ¬ (x1).toInt = (0 : Int32).toInt := fun z => hc8 (Int32.toInt_inj.mp z)
        first | have hcq := WM_coming hWI3 (k := Int32.toNatClampNeg (x1 - 1)) (by rw [tn_eq, i32_sub x1 1 (by show _ ≤ _ - (1 : Int); omega) (by show _ - (1 : Int) ≤ _; omega)]; show (_ - (1 : Int)).toNat < _; omega) | skip
        first | have hcp := WM_coming hW (k := Int32.toNatClampNeg (x1 - 1)) (by rw [tn_eq, i32_sub x1 1 (by show _ ≤ _ - (1 : Int); omega) (by show _ - (1 : Int) ≤ _; omega)]; show (_ - (1 : Int)).toNat < _; omega) | skip
        first | have hcm := WM_coming hW (k := Int32.toNatClampNeg x1) (by rw [tn_eq]; omega) | skip
        first | have hor := or_127 (x := x2) (f := I (t + 31) (Int32.toNatClampNeg x1)) (by omega) (by omega) (by omega) (by omega) | skip
        first | have hal := and_less (x := x2) (g := I (t + 30) (Int32.toNatClampNeg x6)) (by omega) (hL _ (by rw [tn_eq]; omega)) (by assumption) | skip
        have q8 := i32_sub x1 1 (by omega) (by omega)
        refine ⟨vp_of (by omega) (by omega), ?_⟩
        refine ⟨vp_of (by omega) (by omega), ?_⟩
        exact lX12_leastFrom_142 ht  hx1 hx2 hK hR  ((70 - (0 : Int32).toInt).toNat + 1) _ ((x1 <<< (7 &&& 31)) ||| x2) v4 (I3 (t + 18) (Int32.toNatClampNeg (I3 (t + 31) (Int32.toNatClampNeg (x1 - 1))))) 0 hWI3 (Fr.tr Fr.rf hFI3 (by intro a k h; omega)) (by omega) (by omega) (by assumption) (by omega) (by omega) (by omega)
      · skip
        have hc9 := Int32.toInt_inj.mpr hc9
        first | have hcq := WM_coming hWI3 (k := Int32.toNatClampNeg (x1 - 1)) (by rw [tn_eq, i32_sub x1 1 (by show _ ≤ _ - (1 : Int); omega) (by show _ - (1 : Int) ≤ _; omega)]; show (_ - (1 : Int)).toNat < _; omega) | skip
        first | have hcp := WM_coming hW (k := Int32.toNatClampNeg (x1 - 1)) (by rw [tn_eq, i32_sub x1 1 (by show _ ≤ _ - (1 : Int); omega) (by show _ - (1 : Int) ≤ _; omega)]; show (_ - (1 : Int)).toNat < _; omega) | skip
        first | have hcm := WM_coming hW (k := Int32.toNatClampNeg x1) (by rw [tn_eq]; omega) | skip
        first | have hor := or_127 (x := x2) (f := I (t + 31) (Int32.toNatClampNeg x1)) (by omega) (by omega) (by omega) (by omega) | skip
        first | have hal := and_less (x := x2) (g := I (t + 30) (Int32.toNatClampNeg x6)) (by omega) (hL _ (by rw [tn_eq]; omega)) (by assumption) | skip
        exact lX12_leastFrom_142 ht  hx1 hx2 hK hR  ((70 - (0 : Int32).toInt).toNat + 1) _ ((x1 <<< (7 &&& 31)) ||| x2) v4 0 0 hWI3 (Fr.tr Fr.rf hFI3 (by intro a k h; omega)) (by omega) (by omega) (by assumption) (by omega) (by omega) (by omega)
    · skip
      have q2 := i32_lo x1
      have q3 := i32_lo (I t 10)
      have hc4 := Int32.toInt_inj.mpr hc4
      first | have hcq := WM_coming hWI3 (k := Int32.toNatClampNeg (x1 - 1)) (by rw [tn_eq, i32_sub x1 1 (by show _ ≤ _ - (1 : Int); omega) (by show _ - (1 : Int) ≤ _; omega)]; show (_ - (1 : Int)).toNat < _; omega) | skip
      first | have hcp := WM_coming hW (k := Int32.toNatClampNeg (x1 - 1)) (by rw [tn_eq, i32_sub x1 1 (by show _ ≤ _ - (1 : Int); omega) (by show _ - (1 : Int) ≤ _; omega)]; show (_ - (1 : Int)).toNat < _; omega) | skip
      first | have hcm := WM_coming hW (k := Int32.toNatClampNeg x1) (by rw [tn_eq]; omega) | skip
      first | have hor := or_127 (x := x2) (f := I (t + 31) (Int32.toNatClampNeg x1)) (by omega) (by omega) (by omega) (by omega) | skip
      first | have hal := and_less (x := x2) (g := I (t + 30) (Int32.toNatClampNeg x6)) (by omega) (hL _ (by rw [tn_eq]; omega)) (by assumption) | skip
      exact lX12_leastFrom_37 ht  hx1 hx2 hK hR  (((7) - (0 : Int32).toInt).toNat + 1) _ ((x1 <<< (7 &&& 31)) ||| x2) 0 0 hW Fr.rf (by omega) (by omega) (by assumption) (by omega) (by omega) (by omega)
  · skip
    have q1 : (0 : Int32).toInt = 0 := rfl
    have hc2 := mt Int32.lt_iff_toInt_lt.mpr hc2
    first | have hcq := WM_coming hWI3 (k := Int32.toNatClampNeg (x1 - 1)) (by rw [tn_eq, i32_sub x1 1 (by show _ ≤ _ - (1 : Int); omega) (by show _ - (1 : Int) ≤ _; omega)]; show (_ - (1 : Int)).toNat < _; omega) | skip
    first | have hcp := WM_coming hW (k := Int32.toNatClampNeg (x1 - 1)) (by rw [tn_eq, i32_sub x1 1 (by show _ ≤ _ - (1 : Int); omega) (by show _ - (1 : Int) ≤ _; omega)]; show (_ - (1 : Int)).toNat < _; omega) | skip
    first | have hcm := WM_coming hW (k := Int32.toNatClampNeg x1) (by rw [tn_eq]; omega) | skip
    first | have hor := or_127 (x := x2) (f := I (t + 31) (Int32.toNatClampNeg x1)) (by omega) (by omega) (by omega) (by omega) | skip
    first | have hal := and_less (x := x2) (g := I (t + 30) (Int32.toNatClampNeg x6)) (by omega) (hL _ (by rw [tn_eq]; omega)) (by assumption) | skip
    refine ⟨vp_of hix.1 hix.2, ?_⟩
    exact hK _ _ hW Fr.rf
theorem srX12_leastFrom {G : jdG} {Z : jdL} {J : jdJ}  {t : Nat} (ht : zModel Z t)  : ∀ d : Nat, ∀ (n : Nat) (I : jdI) (K : Int32 → jdI → jdJ → Prop) (x1 : Int32) (x2 : Int32), WM 7 t I → (0 ≤ x1.toInt ∧ x1.toInt ≤ 7) → (0 ≤ x2.toInt ∧ x2.toInt ≤ 127) → (x1.toInt ≤ (I t 10).toInt) → (LG t I) → 0 ≤ (7 - x1.toInt) * 128 + x2.toInt ∧ (7 - x1.toInt) * 128 + x2.toInt ≤ (d : Int) → (∀ (v : Int32) (I2 : jdI), WM 7 t I2 → Fr (fun a k => a = t + 34) I I2 → K v I2 J) → Cl G mX12_leastFrom (n + 0 + d + 1) 0 0 [.ref (gb G + t), .int x1, .int x2] Z I J (qi Z K) := by
  intro d
  induction d with
  | zero =>
    intro n
    exact sbX12_leastFrom (n := n) (d := 0) ht (fun _ _ _ _ _ _ _ _ _ h _ => absurd h (by omega))
  | succ d ih =>
    intro n
    exact sbX12_leastFrom (n := n + d + 1) (d := d + 1) ht (fun I K x1 x2 hW hx1 hx2 hp hL h hK => by
      have e : n + d + 1 + 0 = n + 0 + d + 1 := by omega
      rw [e]
      exact ih n I K x1 x2 hW hx1 hx2 hp hL ⟨h.1, by omega⟩ hK) |> (fun h => by
      have e : n + 0 + (d + 1) + 1 = n + d + 1 + 1 := by omega
      rw [e]
      exact h)
theorem sfX12_leastFrom {G : jdG} {n : Nat} {Z : jdL} {J : jdJ} {K : Int32 → jdI → jdJ → Prop}  {I : jdI} {t : Nat} {x1 : Int32} {x2 : Int32} (ht : zModel Z t)  (hW : WM 7 t I) (hx1 : 0 ≤ x1.toInt ∧ x1.toInt ≤ 7) (hx2 : 0 ≤ x2.toInt ∧ x2.toInt ≤ 127) (hp : x1.toInt ≤ (I t 10).toInt) (hL : LG t I) (hd : 0 ≤ (7 - x1.toInt) * 128 + x2.toInt ∧ (7 - x1.toInt) * 128 + x2.toInt ≤ 896) (hK : ∀ (v : Int32) (I2 : jdI), WM 7 t I2 → Fr (fun a k => a = t + 34) I I2 → K v I2 J) : Cl G mX12_leastFrom (n + 897) 0 0 [.ref (gb G + t), .int x1, .int x2] Z I J (qi Z K) :=
  srX12_leastFrom ht 896 n I K x1 x2 hW hx1 hx2 hp hL hd hK
theorem lX12_least_27 {G : jdG} {n : Nat} {Z : jdL} {J : jdJ} {rc rs : Nat} {K : Int32 → jdI → jdJ → Prop}  {I0 : jdI} {t : Nat} {x1 : Int32} (ht : zModel Z t)   (hK : ∀ (v : Int32) (I2 : jdI), WM 7 t I2 → Fr (fun a k => (a = t ∧ k = 30) ∨ a = t + 17 ∨ a = t + 30 ∨ a = t + 31 ∨ a = t + 34) I0 I2 → K v I2 J) : ∀ m : Nat, ∀ (I : jdI) (x2 : Int32), WM 7 t I → Fr (fun a k => (a = t ∧ k = 30) ∨ a = t + 17 ∨ a = t + 30 ∨ a = t + 31 ∨ a = t + 34) I0 I → (0 ≤ x2.toInt ∧ x2.toInt ≤ 1024) → (LG t I) → (1024) - x2.toInt < (m : Int) → Jd G mX12_least (jdFm G (qi Z K)) (n + 898) rc rs 27 [(0, .ref (gb G + t)), (1, .int x1), (2, .int x2)] [] Z I J := by
  intro m
  induction m with
  | zero =>
    intro I x2 hW hF hx2 hL hm
    have hwI := WM_f hW
    omega
  | succ m ih =>
    intro I x2 hW hF hx2 hL hm
    have hwI := WM_f hW
    refine rX12_least_27 ht ?_
    refine ⟨fun hc1 => ?_, fun hc2 => ?_⟩
    · skip
      have q1 : (1024 : Int32).toInt = 1024 := rfl
      have q2 := i32_lo x2
      have hc1 := Int32.le_iff_toInt_le.mp hc1
      have q3 : (0 : Int32).toInt = 0 := rfl
      refine sfX12_leastFrom ht hW (by omega) (by omega) (by omega) (by assumption) ⟨by omega, by omega⟩ (fun v2 I1 hWI1 hFI1 => ?_)
      have hwI1 := WM_f hWI1
      refine ⟨fun hc4 => ?_, fun hc5 => ?_⟩
      · skip
        have q4 := i32_lo x1
        have hc4 : ¬ (x1).toInt = (0 : Int32).toInt := fun z => hc4 (Int32.toInt_inj.mp z)
        exact hK _ _ hWI1 (Fr.tr hF hFI1 (by intro a k h; omega))
      · skip
        have q4 := i32_lo x1
        have hc5 := Int32.toInt_inj.mpr hc5
        exact hK _ _ hWI1 (Fr.tr hF hFI1 (by intro a k h; omega))
    · skip
      have q1 : (1024 : Int32).toInt = 1024 := rfl
      have q2 := i32_lo x2
      have hc2 := mt Int32.le_iff_toInt_le.mpr hc2
      refine ⟨vp_of (by omega) (by omega), ?_⟩
      have q3 : (1 : Int32).toInt = 1 := rfl
      have q4 := i32_add x2 1 (by omega) (by omega)
      exact ih _ (x2 + 1) (WM_uI hW (by first | exact okMo (by decide) (by decide) (by decide) (by decide) (by decide) | exact okMf (by decide) (by decide) (by decide) (by decide) (by decide) (by decide) (by decide) (by decide) | exact okM30 (by omega) | exact okM42 (by omega) | exact okM33 (by omega) | exact okM10 (by omega) | exact okM8 (by omega) | exact okM22 (by omega) | exact okM24 (by omega) | exact okM14 (by omega) | exact okMa31 (by omega) | exact okMa35 (by omega) | exact okMa36 (by omega) | exact okMa3 (by omega) | exact okMr (by omega) | (unfold okM; refine ⟨?_, ?_, ?_, ?_, ?_, ?_, ?_, ?_, ?_, ?_, ?_, ?_⟩ <;> intro h <;> omega))) (Fr_uI hF (by omega)) (by omega) (by first | assumption | exact LG_uI hL (by omega) (by omega)) (by omega)
theorem sfX12_least {G : jdG} {n : Nat} {Z : jdL} {J : jdJ} {K : Int32 → jdI → jdJ → Prop}  {I : jdI} {t : Nat} {x1 : Int32} (ht : zModel Z t)  (hW : WM 7 t I)  (hK : ∀ (v : Int32) (I2 : jdI), WM 7 t I2 → Fr (fun a k => (a = t ∧ k = 30) ∨ a = t + 17 ∨ a = t + 30 ∨ a = t + 31 ∨ a = t + 34) I I2 → K v I2 J) : Cl G mX12_least (n + 898) 0 0 [.ref (gb G + t), .int x1] Z I J (qi Z K) := by
  refine eX12_least ht ?_
  have hwI := WM_f hW
  have q1 := i32_lo x1
  have q2 : (Int32.toInt64 x1).toInt = (x1).toInt := Int32.toInt_toInt64 _
  have q3 : (0 : Int64).toInt = 0 := rfl
  have q4 : (1 : Int64).toInt = 1 := rfl
  refine sfX12_in  trivial  (fun v2  hp1 => ?_)
  refine ⟨fun hc2 => ?_, fun hc3 => ?_⟩
  · skip
    have q5 := i32_lo v2
    have q6 : (0 : Int32).toInt = 0 := rfl
    have hc2 : ¬ (v2).toInt = (0 : Int32).toInt := fun z => hc2 (Int32.toInt_inj.mp z)
    refine sfX12_findComing ht hW  (fun I3 hWI3 hFI3 => ?_)
    have hwI3 := WM_f hWI3
    refine sfX12_listAll ht (by decide) hWI3  (fun I5 hWI5 hFI5 hp5 => ?_)
    have hwI5 := WM_f hWI5
    have hLn := hp5.1
    exact lX12_least_27 ht   hK  (((1024) - (0 : Int32).toInt).toNat + 1) _ 0 hWI5 (Fr.tr (Fr.tr Fr.rf hFI3 (by intro a k h; omega)) hFI5 (by intro a k h; omega)) (by omega) (by first | assumption | exact LG_uI hL (by omega) (by omega)) (by omega)
  · skip
    have q5 := i32_lo v2
    have q6 : (0 : Int32).toInt = 0 := rfl
    have hc3 := Int32.toInt_inj.mpr hc3
    have q7 : (-2 : Int32).toInt = -2 := rfl
    refine sfX12_refuse ht (by decide) hW (by omega) (fun v8 I7 hWI7 hFI7 hp6 => ?_)
    have hwI7 := WM_f hWI7
    exact hK _ _ hWI7 (Fr.tr Fr.rf hFI7 (by intro a k h; omega))
theorem lX12_head_6 {G : jdG} {n : Nat} {Z : jdL} {J : jdJ} {rc rs : Nat} {K : Int32 → jdI → jdJ → Prop}  {I0 : jdI} {t : Nat} (ht : zModel Z t)   (hK : ∀ (v : Int32) (I2 : jdI), WM 7 t I2 → Fr (fun a k => (a = t ∧ (k = 30 ∨ k = 33 ∨ k = 34)) ∨ (t + 30 ≤ a ∧ a ≤ t + 33) ∨ a = t + 17) I0 I2 → K v I2 J) : ∀ m : Nat, ∀ (I : jdI) (x1 : Int32) (x2 : Int32) (x3 : Int32), WM 7 t I → Fr (fun a k => (a = t ∧ (k = 30 ∨ k = 33 ∨ k = 34)) ∨ (t + 30 ≤ a ∧ a ≤ t + 33) ∨ a = t + 17) I0 I → (0 ≤ x3.toInt ∧ x3.toInt ≤ 8) → (8) - x3.toInt < (m : Int) → Jd G mX12_head (jdFm G (qi Z K)) (n + 260) rc rs 6 [(0, .ref (gb G + t)), (1, .int x1), (2, .int x2), (3, .int x3)] [] Z I J := by
  intro m
  induction m with
  | zero =>
    intro I x1 x2 x3 hW hF hx3 hm
    have hwI := WM_f hW
    omega
  | succ m ih =>
    intro I x1 x2 x3 hW hF hx3 hm
    have hwI := WM_f hW
    refine rX12_head_6 ht ?_
    refine ⟨fun hc1 => ?_, fun hc2 => ?_⟩
    · skip
      have q1 : (8 : Int32).toInt = 8 := rfl
      have q2 := i32_lo x3
      have hc1 := Int32.le_iff_toInt_le.mp hc1
      refine ⟨fun hc3 => ?_, fun hc4 => ?_⟩
      · skip
        have q3 := i32_lo x1
        have q4 : (-1 : Int32).toInt = -1 := rfl
        have hc3 : ¬ (x1).toInt = ((-1) : Int32).toInt := fun z => hc3 (Int32.toInt_inj.mp z)
        exact hK _ _ hW hF
      · skip
        have q3 := i32_lo x1
        have q4 : (-1 : Int32).toInt = -1 := rfl
        have hc4 := Int32.toInt_inj.mpr hc4
        have q5 : (-5 : Int32).toInt = -5 := rfl
        refine sfX12_refuse ht (by decide) hW (by omega) (fun v2 I1 hWI1 hFI1 hp5 => ?_)
        have hwI1 := WM_f hWI1
        exact hK _ _ hWI1 (Fr.tr hF hFI1 (by intro a k h; omega))
    · skip
      have q1 : (8 : Int32).toInt = 8 := rfl
      have q2 := i32_lo x3
      have hc2 := mt Int32.le_iff_toInt_le.mpr hc2
      refine ⟨vp_of (by omega) (by omega), ?_⟩
      refine ⟨fun hc6 => ?_, fun hc7 => ?_⟩
      · skip
        have q3 : (2 : Int32).toInt = 2 := rfl
        have hc6 : ¬ ((I (t + 1) (Int32.toNatClampNeg x3))).toInt = (2 : Int32).toInt := fun z => hc6 (Int32.toInt_inj.mp z)
        have q4 : (1 : Int32).toInt = 1 := rfl
        have q5 := i32_add x3 1 (by omega) (by omega)
        exact ih _ x1 x2 (x3 + 1) hW hF (by omega) (by omega)
      · skip
        have q3 : (2 : Int32).toInt = 2 := rfl
        have hc7 := Int32.toInt_inj.mpr hc7
        refine ⟨vp_of (by omega) (by omega), ?_⟩
        refine ⟨vp_of (by omega) (by omega), ?_⟩
        refine sfX12_goesBy ht hW  (fun I6 hWI6 hFI6 => ?_)
        have hwI6 := WM_f hWI6
        refine sfX12_waitedAll ht hWI6  (fun v9  => ?_)
        refine ⟨fun hc10 => ?_, fun hc11 => ?_⟩
        · skip
          have q4 := i32_lo x1
          have q5 : (-1 : Int32).toInt = -1 := rfl
          have hc10 := Int32.toInt_inj.mpr hc10
          have q6 : (1 : Int32).toInt = 1 := rfl
          have q7 := i32_add x3 1 (by omega) (by omega)
          exact ih _ x3 v9 (x3 + 1) hWI6 (Fr.tr hF hFI6 (by intro a k h; omega)) (by omega) (by omega)
        · skip
          have q4 := i32_lo x1
          have q5 : (-1 : Int32).toInt = -1 := rfl
          have hc11 : ¬ (x1).toInt = ((-1) : Int32).toInt := fun z => hc11 (Int32.toInt_inj.mp z)
          refine ⟨fun hc12 => ?_, fun hc13 => ?_⟩
          · skip
            have q6 := i32_lo x2
            have q7 := i32_lo v9
            have hc12 := Int32.le_iff_toInt_le.mp hc12
            have q8 : (1 : Int32).toInt = 1 := rfl
            have q9 := i32_add x3 1 (by omega) (by omega)
            exact ih _ x1 x2 (x3 + 1) hWI6 (Fr.tr hF hFI6 (by intro a k h; omega)) (by omega) (by omega)
          · skip
            have q6 := i32_lo x2
            have q7 := i32_lo v9
            have hc13 := mt Int32.le_iff_toInt_le.mpr hc13
            have q8 : (1 : Int32).toInt = 1 := rfl
            have q9 := i32_add x3 1 (by omega) (by omega)
            exact ih _ x3 v9 (x3 + 1) hWI6 (Fr.tr hF hFI6 (by intro a k h; omega)) (by omega) (by omega)
theorem sfX12_head {G : jdG} {n : Nat} {Z : jdL} {J : jdJ} {K : Int32 → jdI → jdJ → Prop}  {I : jdI} {t : Nat} (ht : zModel Z t)  (hW : WM 7 t I)  (hK : ∀ (v : Int32) (I2 : jdI), WM 7 t I2 → Fr (fun a k => (a = t ∧ (k = 30 ∨ k = 33 ∨ k = 34)) ∨ (t + 30 ≤ a ∧ a ≤ t + 33) ∨ a = t + 17) I I2 → K v I2 J) : Cl G mX12_head (n + 260) 0 0 [.ref (gb G + t)] Z I J (qi Z K) := by
  refine eX12_head ht ?_
  have hwI := WM_f hW
  have q1 : (0 : Int32).toInt = 0 := rfl
  exact lX12_head_6 ht   hK  (((8) - (0 : Int32).toInt).toNat + 1) _ (-1) 0 0 hW Fr.rf (by omega) (by omega)
theorem lX12_dayOf_8 {G : jdG} {n : Nat} {Z : jdL} {J : jdJ} {rc rs : Nat} {K : Int32 → jdI → jdJ → Prop}  {I0 : jdI} {t : Nat} {x1 : Int32} {x2 : Int32} (ht : zModel Z t)   (hK : ∀ (v : Int32) (I2 : jdI), WM 7 t I2 → Fr (fun a k => (a = t ∧ (k = 30 ∨ k = 33 ∨ k = 34)) ∨ (t + 30 ≤ a ∧ a ≤ t + 33) ∨ (t + 21 ≤ a ∧ a ≤ t + 28)) I0 I2 → K v I2 J) : ∀ m : Nat, ∀ (I : jdI) (x3 : Int32), WM 7 t I → Fr (fun a k => (a = t ∧ (k = 30 ∨ k = 33 ∨ k = 34)) ∨ (t + 30 ≤ a ∧ a ≤ t + 33) ∨ (t + 21 ≤ a ∧ a ≤ t + 28)) I0 I → (0 ≤ x3.toInt ∧ x3.toInt ≤ 7) → (7) - x3.toInt < (m : Int) → Jd G mX12_dayOf (jdFm G (qi Z K)) (n + 260) rc rs 8 [(0, .ref (gb G + t)), (1, .int x1), (2, .int x2), (3, .int x3)] [] Z I J := by
  intro m
  induction m with
  | zero =>
    intro I x3 hW hF hx3 hm
    have hwI := WM_f hW
    omega
  | succ m ih =>
    intro I x3 hW hF hx3 hm
    have hwI := WM_f hW
    refine rX12_dayOf_8 ht ?_
    refine ⟨fun hc1 => ?_, fun hc2 => ?_⟩
    · skip
      have q1 := i32_lo (I t 33)
      have q2 := i32_lo x3
      have hc1 := Int32.le_iff_toInt_le.mp hc1
      exact hK _ _ hW hF
    · skip
      have q1 := i32_lo (I t 33)
      have q2 := i32_lo x3
      have hc2 := mt Int32.le_iff_toInt_le.mpr hc2
      refine ⟨vp_of (by omega) (by omega), ?_⟩
      refine sfX12_meets ht hW  (fun v3 I2 hWI2 hFI2 => ?_)
      have hwI2 := WM_f hWI2
      have q3 : (1 : Int32).toInt = 1 := rfl
      have q4 := i32_add x3 1 (by omega) (by omega)
      exact ih _ (x3 + 1) hWI2 (Fr.tr hF hFI2 (by intro a k h; omega)) (by omega) (by omega)
theorem sfX12_dayOf {G : jdG} {n : Nat} {Z : jdL} {J : jdJ} {K : Int32 → jdI → jdJ → Prop}  {I : jdI} {t : Nat} {x1 : Int32} {x2 : Int32} (ht : zModel Z t)  (hW : WM 7 t I)  (hK : ∀ (v : Int32) (I2 : jdI), WM 7 t I2 → Fr (fun a k => (a = t ∧ (k = 30 ∨ k = 33 ∨ k = 34)) ∨ (t + 30 ≤ a ∧ a ≤ t + 33) ∨ (t + 21 ≤ a ∧ a ≤ t + 28)) I I2 → K v I2 J) : Cl G mX12_dayOf (n + 260) 0 0 [.ref (gb G + t), .int x1, .int x2] Z I J (qi Z K) := by
  refine eX12_dayOf ht ?_
  have hwI := WM_f hW
  refine sfX12_goesBy ht hW  (fun I1 hWI1 hFI1 => ?_)
  have hwI1 := WM_f hWI1
  have q1 : (0 : Int32).toInt = 0 := rfl
  exact lX12_dayOf_8 ht   hK  (((7) - (0 : Int32).toInt).toNat + 1) _ 0 hWI1 (Fr.tr Fr.rf hFI1 (by intro a k h; omega)) (by omega) (by omega)
theorem lX12_pairsOf_15 {G : jdG} {n : Nat} {Z : jdL} {J : jdJ} {rc rs : Nat} {K : Int32 → jdI → jdJ → Prop}  {I : jdI} {mo4 : Nat} {t : Nat} {x1 : Int32} (ht : zModel Z t)  (hW : WM 7 t I)  (hK : ∀ (v : Int32), K v I J) (hO4 : ∀ (x2 : Int32) (x3 : Int32), (0 ≤ x3.toInt ∧ x3.toInt ≤ 7) → (7) - x3.toInt < (mo4 : Int) → Jd G mX12_pairsOf (jdFm G (qi Z K)) (n + 1) rc rs 4 [(0, .ref (gb G + t)), (1, .int x1), (2, .int x2), (3, .int x3)] [] Z I J) : ∀ m : Nat, ∀ (x2 : Int32) (x3 : Int32) (x4 : Int32), (0 ≤ x4.toInt ∧ x4.toInt ≤ 7) → (0 ≤ x3.toInt ∧ x3.toInt ≤ 6) → (7) - x3.toInt ≤ (mo4 : Int) → (7) - x4.toInt < (m : Int) → Jd G mX12_pairsOf (jdFm G (qi Z K)) (n + 1) rc rs 15 [(0, .ref (gb G + t)), (1, .int x1), (2, .int x2), (3, .int x3), (4, .int x4)] [] Z I J := by
  intro m
  induction m with
  | zero =>
    intro x2 x3 x4 hx4 hx3 hmo4 hm
    have hwI := WM_f hW
    omega
  | succ m ih =>
    intro x2 x3 x4 hx4 hx3 hmo4 hm
    have hwI := WM_f hW
    refine rX12_pairsOf_15 ht ?_
    refine ⟨fun hc1 => ?_, fun hc2 => ?_⟩
    · skip
      have q1 := i32_lo x3
      have q2 := i32_lo x4
      have hc1 := Int32.le_iff_toInt_le.mp hc1
      have q3 : (1 : Int32).toInt = 1 := rfl
      have q4 := i32_add x3 1 (by omega) (by omega)
      exact hO4 x2 (x3 + 1) (by omega) (by omega)
    · skip
      have q1 := i32_lo x3
      have q2 := i32_lo x4
      have hc2 := mt Int32.le_iff_toInt_le.mpr hc2
      have q3 := i32_lo x1
      refine sfX12_has  trivial  (fun v2  hp3 => ?_)
      refine ⟨fun hc4 => ?_, fun hc5 => ?_⟩
      · skip
        have q4 := i32_lo v2
        have q5 : (0 : Int32).toInt = 0 := rfl
        have hc4 := Int32.toInt_inj.mpr hc4
        have q6 : (1 : Int32).toInt = 1 := rfl
        have q7 := i32_add x4 1 (by omega) (by omega)
        exact ih (x2 + 0) x3 (x4 + 1) (by omega) (by omega) (by omega) (by omega)
      · skip
        have q4 := i32_lo v2
        have q5 : (0 : Int32).toInt = 0 := rfl
        have hc5 : ¬ (v2).toInt = (0 : Int32).toInt := fun z => hc5 (Int32.toInt_inj.mp z)
        refine sfX12_has  trivial  (fun v4  hp6 => ?_)
        refine ⟨fun hc7 => ?_, fun hc8 => ?_⟩
        · skip
          have q6 := i32_lo v4
          have hc7 := Int32.toInt_inj.mpr hc7
          have q7 : (1 : Int32).toInt = 1 := rfl
          have q8 := i32_add x4 1 (by omega) (by omega)
          exact ih (x2 + 0) x3 (x4 + 1) (by omega) (by omega) (by omega) (by omega)
        · skip
          have q6 := i32_lo v4
          have hc8 : ¬ (v4).toInt = (0 : Int32).toInt := fun z => hc8 (Int32.toInt_inj.mp z)
          refine ⟨vp_of (by omega) (by omega), ?_⟩
          refine ⟨vp_of (by omega) (by omega), ?_⟩
          refine ⟨fun hc9 => ?_, fun hc10 => ?_⟩
          · skip
            have q7 : (-1 : Int32).toInt = -1 := rfl
            have hc9 : ¬ ((I (t + 21 + (Int32.toNatClampNeg x3)) (Int32.toNatClampNeg x4))).toInt = ((-1) : Int32).toInt := fun z => hc9 (Int32.toInt_inj.mp z)
            have q8 : (1 : Int32).toInt = 1 := rfl
            have q9 := i32_add x4 1 (by omega) (by omega)
            exact ih (x2 + 0) x3 (x4 + 1) (by omega) (by omega) (by omega) (by omega)
          · skip
            have q7 : (-1 : Int32).toInt = -1 := rfl
            have hc10 := Int32.toInt_inj.mpr hc10
            have q8 : (1 : Int32).toInt = 1 := rfl
            have q9 := i32_add x4 1 (by omega) (by omega)
            exact ih (x2 + 1) x3 (x4 + 1) (by omega) (by omega) (by omega) (by omega)
theorem lX12_pairsOf_4 {G : jdG} {n : Nat} {Z : jdL} {J : jdJ} {rc rs : Nat} {K : Int32 → jdI → jdJ → Prop}  {I : jdI} {t : Nat} {x1 : Int32} (ht : zModel Z t)  (hW : WM 7 t I)  (hK : ∀ (v : Int32), K v I J) : ∀ m : Nat, ∀ (x2 : Int32) (x3 : Int32), (0 ≤ x3.toInt ∧ x3.toInt ≤ 7) → (7) - x3.toInt < (m : Int) → Jd G mX12_pairsOf (jdFm G (qi Z K)) (n + 1) rc rs 4 [(0, .ref (gb G + t)), (1, .int x1), (2, .int x2), (3, .int x3)] [] Z I J := by
  intro m
  induction m with
  | zero =>
    intro x2 x3 hx3 hm
    have hwI := WM_f hW
    omega
  | succ m ih =>
    intro x2 x3 hx3 hm
    have hwI := WM_f hW
    refine rX12_pairsOf_4 ht ?_
    refine ⟨fun hc1 => ?_, fun hc2 => ?_⟩
    · skip
      have q1 := i32_lo (I t 10)
      have q2 := i32_lo x3
      have hc1 := Int32.le_iff_toInt_le.mp hc1
      exact hK _ 
    · skip
      have q1 := i32_lo (I t 10)
      have q2 := i32_lo x3
      have hc2 := mt Int32.le_iff_toInt_le.mpr hc2
      have q3 : (0 : Int32).toInt = 0 := rfl
      exact lX12_pairsOf_15 ht  hW  hK ih (((7) - (0 : Int32).toInt).toNat + 1) x2 x3 0 (by omega) (by omega) (by omega) (by omega)
theorem sfX12_pairsOf {G : jdG} {n : Nat} {Z : jdL} {J : jdJ} {K : Int32 → jdI → jdJ → Prop}  {I : jdI} {t : Nat} {x1 : Int32} (ht : zModel Z t)  (hW : WM 7 t I)  (hK : ∀ (v : Int32), K v I J) : Cl G mX12_pairsOf (n + 1) 0 0 [.ref (gb G + t), .int x1] Z I J (qi Z K) := by
  refine eX12_pairsOf ht ?_
  have hwI := WM_f hW
  have q1 : (0 : Int32).toInt = 0 := rfl
  exact lX12_pairsOf_4 ht  hW  hK  (((7) - (0 : Int32).toInt).toNat + 1) 0 0 (by omega) (by omega)
theorem sfX12_noDay {G : jdG} {n : Nat} {Z : jdL} {J : jdJ} {K : Int32 → jdI → jdJ → Prop}  {I : jdI} {t : Nat} {x1 : Int32} {x2 : Int32} (ht : zModel Z t)  (hW : WM 7 t I)  (hK : ∀ (v : Int32) (I2 : jdI), WM 7 t I2 → Fr (fun a k => a = t + 17) I I2 → ((v.toInt = 0 ∧ (0 ≤ x1.toInt ∧ x1.toInt ≤ 7) ∧ 0 ≤ x2.toInt ∧ x2.toInt ≤ 7) ∨ ¬ v.toInt = 0) → K v I2 J) : Cl G mX12_noDay (n + 2) 0 0 [.ref (gb G + t), .int x1, .int x2] Z I J (qi Z K) := by
  refine eX12_noDay ht ?_
  have hwI := WM_f hW
  have q1 := i32_lo x1
  have q2 : (Int32.toInt64 x1).toInt = (x1).toInt := Int32.toInt_toInt64 _
  have q3 : (0 : Int64).toInt = 0 := rfl
  have q4 : (7 : Int64).toInt = 7 := rfl
  refine sfX12_in  trivial  (fun v2  hp1 => ?_)
  refine ⟨fun hc2 => ?_, fun hc3 => ?_⟩
  · skip
    have q5 := i32_lo v2
    have q6 : (0 : Int32).toInt = 0 := rfl
    have hc2 := Int32.toInt_inj.mpr hc2
    have q7 : (-2 : Int32).toInt = -2 := rfl
    refine sfX12_refuse ht (by decide) hW (by omega) (fun v4 I3 hWI3 hFI3 hp4 => ?_)
    have hwI3 := WM_f hWI3
    have q8 := i32_lo v4
    exact hK _ _ hWI3 (Fr.tr Fr.rf hFI3 (by intro a k h; omega)) (by omega)
  · skip
    have q5 := i32_lo v2
    have q6 : (0 : Int32).toInt = 0 := rfl
    have hc3 : ¬ (v2).toInt = (0 : Int32).toInt := fun z => hc3 (Int32.toInt_inj.mp z)
    have q7 := i32_lo x2
    have q8 : (Int32.toInt64 x2).toInt = (x2).toInt := Int32.toInt_toInt64 _
    refine sfX12_in  trivial  (fun v6  hp5 => ?_)
    refine ⟨fun hc6 => ?_, fun hc7 => ?_⟩
    · skip
      have q9 := i32_lo v6
      have hc6 : ¬ (v6).toInt = (0 : Int32).toInt := fun z => hc6 (Int32.toInt_inj.mp z)
      refine sfX12_noRow ht hW  (fun v8 I7 hWI7 hFI7 hp8 => ?_)
      have hwI7 := WM_f hWI7
      refine ⟨fun hc9 => ?_, fun hc10 => ?_⟩
      · skip
        have q10 := i32_lo v8
        have hc9 := Int32.toInt_inj.mpr hc9
        refine ⟨vp_of (by omega) (by omega), ?_⟩
        refine ⟨fun hc11 => ?_, fun hc12 => ?_⟩
        · skip
          have hc11 := Int32.le_iff_toInt_le.mp hc11
          exact hK _ _ hWI7 (Fr.tr Fr.rf hFI7 (by intro a k h; omega)) (by omega)
        · skip
          have hc12 := mt Int32.le_iff_toInt_le.mpr hc12
          have q11 : (-2 : Int32).toInt = -2 := rfl
          refine sfX12_refuse ht (by decide) hWI7 (by omega) (fun v11 I10 hWI10 hFI10 hp13 => ?_)
          have hwI10 := WM_f hWI10
          have q12 := i32_lo v11
          exact hK _ _ hWI10 (Fr.tr (Fr.tr Fr.rf hFI7 (by intro a k h; omega)) hFI10 (by intro a k h; omega)) (by omega)
      · skip
        have q10 := i32_lo v8
        have hc10 : ¬ (v8).toInt = (0 : Int32).toInt := fun z => hc10 (Int32.toInt_inj.mp z)
        exact hK _ _ hWI7 (Fr.tr Fr.rf hFI7 (by intro a k h; omega)) (by omega)
    · skip
      have q9 := i32_lo v6
      have hc7 := Int32.toInt_inj.mpr hc7
      have q10 : (-2 : Int32).toInt = -2 := rfl
      refine sfX12_refuse ht (by decide) hW (by omega) (fun v13 I12 hWI12 hFI12 hp14 => ?_)
      have hwI12 := WM_f hWI12
      have q11 := i32_lo v13
      exact hK _ _ hWI12 (Fr.tr Fr.rf hFI12 (by intro a k h; omega)) (by omega)
theorem lX12_wrongCoach_7 {G : jdG} {n : Nat} {Z : jdL} {J : jdJ} {rc rs : Nat} {K : Int32 → jdI → jdJ → Prop}  {I0 : jdI} {t : Nat} {u1 : Nat} {n1 : Nat} {x2 : Int32} (ht : zModel Z t) (hu1 : Z.1 u1 = some (1, n1))  (hx2 : 0 ≤ x2.toInt ∧ x2.toInt ≤ 7) (hn : n1 = 40) (hK : ∀ (v : Int32) (I2 : jdI), WM 7 t I2 → Fr (fun a k => a = t ∧ k = 44) I0 I2 → K v I2 J) : ∀ m : Nat, ∀ (I : jdI) (x3 : Int32), WM 7 t I → Fr (fun a k => a = t ∧ k = 44) I0 I → (0 ≤ x3.toInt ∧ x3.toInt ≤ x2.toInt) → (x2.toInt) - x3.toInt < (m : Int) → Jd G mX12_wrongCoach (jdFm G (qi Z K)) (n + 2) rc rs 7 [(0, .ref (gb G + t)), (1, .ref (gb G + u1)), (2, .int x2), (3, .int x3)] [] Z I J := by
  intro m
  induction m with
  | zero =>
    intro I x3 hW hF hx3 hm
    have hwI := WM_f hW
    omega
  | succ m ih =>
    intro I x3 hW hF hx3 hm
    have hwI := WM_f hW
    refine rX12_wrongCoach_7 ht hu1 ?_
    refine ⟨fun hc1 => ?_, fun hc2 => ?_⟩
    · skip
      have q1 := i32_lo x2
      have q2 := i32_lo x3
      have hc1 := Int32.le_iff_toInt_le.mp hc1
      exact hK _ _ hW hF
    · skip
      have q1 := i32_lo x2
      have q2 := i32_lo x3
      have hc2 := mt Int32.le_iff_toInt_le.mpr hc2
      refine ⟨vp_of (by omega) (by omega), ?_⟩
      refine sfX12_all ht (by decide) hW  (fun v3  hp3 => ?_)
      have q3 : (0 : Int64).toInt = 0 := rfl
      have q4 := i32_lo v3
      have q5 : (Int32.toInt64 v3).toInt = (v3).toInt := Int32.toInt_toInt64 _
      refine sfX12_in  trivial  (fun v5  hp4 => ?_)
      refine ⟨fun hc5 => ?_, fun hc6 => ?_⟩
      · skip
        have q6 := i32_lo v5
        have q7 : (0 : Int32).toInt = 0 := rfl
        have hc5 := Int32.toInt_inj.mpr hc5
        exact hK _ _ hW hF
      · skip
        have q6 := i32_lo v5
        have q7 : (0 : Int32).toInt = 0 := rfl
        have hc6 : ¬ (v5).toInt = (0 : Int32).toInt := fun z => hc6 (Int32.toInt_inj.mp z)
        refine ⟨vp_of (by omega) (by omega), ?_⟩
        refine sfX12_isGroupNow ht hW  (fun v8  hp7 => ?_)
        refine ⟨fun hc8 => ?_, fun hc9 => ?_⟩
        · skip
          have q8 := i32_lo v8
          have hc8 := Int32.toInt_inj.mpr hc8
          exact hK _ _ hW hF
        · skip
          have q8 := i32_lo v8
          have hc9 : ¬ (v8).toInt = (0 : Int32).toInt := fun z => hc9 (Int32.toInt_inj.mp z)
          refine ⟨vp_of (by omega) (by omega), ?_⟩
          refine ⟨fun hc10 => ?_, fun hc11 => ?_⟩
          · skip
            refine ⟨vp_of (by omega) (by omega), ?_⟩
            have q9 : (1 : Int32).toInt = 1 := rfl
            have q10 := i32_add x3 1 (by omega) (by omega)
            exact ih _ (x3 + 1) (WM_uI hW (by first | exact okMo (by decide) (by decide) (by decide) (by decide) (by decide) | exact okMf (by decide) (by decide) (by decide) (by decide) (by decide) (by decide) (by decide) (by decide) | exact okM30 (by omega) | exact okM42 (by omega) | exact okM33 (by omega) | exact okM10 (by omega) | exact okM8 (by omega) | exact okM22 (by omega) | exact okM24 (by omega) | exact okM14 (by omega) | exact okMa31 (by omega) | exact okMa35 (by omega) | exact okMa36 (by omega) | exact okMa3 (by omega) | exact okMr (by omega) | (unfold okM; refine ⟨?_, ?_, ?_, ?_, ?_, ?_, ?_, ?_, ?_, ?_, ?_, ?_⟩ <;> intro h <;> omega))) (Fr_uI hF (by omega)) (by omega) (by omega)
          · skip
            exact hK _ _ hW hF
theorem sfX12_wrongCoach {G : jdG} {n : Nat} {Z : jdL} {J : jdJ} {K : Int32 → jdI → jdJ → Prop}  {I : jdI} {t : Nat} {u1 : Nat} {n1 : Nat} {x2 : Int32} (ht : zModel Z t) (hu1 : Z.1 u1 = some (1, n1))  (hW : WM 7 t I) (hx2 : 0 ≤ x2.toInt ∧ x2.toInt ≤ 7) (hn : n1 = 40) (hK : ∀ (v : Int32) (I2 : jdI), WM 7 t I2 → Fr (fun a k => a = t ∧ k = 44) I I2 → K v I2 J) : Cl G mX12_wrongCoach (n + 2) 0 0 [.ref (gb G + t), .ref (gb G + u1), .int x2] Z I J (qi Z K) := by
  refine eX12_wrongCoach ht hu1 ?_
  have hwI := WM_f hW
  have q1 : (0 : Int32).toInt = 0 := rfl
  exact lX12_wrongCoach_7 ht hu1  hx2 hn hK  (((x2.toInt) - (0 : Int32).toInt).toNat + 1) _ 0 (WM_uI hW (by first | exact okMo (by decide) (by decide) (by decide) (by decide) (by decide) | exact okMf (by decide) (by decide) (by decide) (by decide) (by decide) (by decide) (by decide) (by decide) | exact okM30 (by omega) | exact okM42 (by omega) | exact okM33 (by omega) | exact okM10 (by omega) | exact okM8 (by omega) | exact okM22 (by omega) | exact okM24 (by omega) | exact okM14 (by omega) | exact okMa31 (by omega) | exact okMa35 (by omega) | exact okMa36 (by omega) | exact okMa3 (by omega) | exact okMr (by omega) | (unfold okM; refine ⟨?_, ?_, ?_, ?_, ?_, ?_, ?_, ?_, ?_, ?_, ?_, ?_⟩ <;> intro h <;> omega))) (Fr_uI Fr.rf (by omega)) (by omega) (by omega)
theorem sfX12_judge {G : jdG} {n : Nat} {Z : jdL} {J : jdJ} {K : Int32 → jdI → jdJ → Prop}  {I : jdI} {t : Nat} {x1 : Int32} {x2 : Int32} (ht : zModel Z t)  (hW : WM 7 t I)  (hK : ∀ (v : Int32) (I2 : jdI), WM 7 t I2 → Fr (fun a k => (a = t ∧ k = 44) ∨ a = t + 17) I I2 → K v I2 J) : Cl G mX12_judge (n + 3) 0 0 [.ref (gb G + t), .int x1, .int x2] Z I J (qi Z K) := by
  refine eX12_judge ht ?_
  have hwI := WM_f hW
  have q1 := i32_lo x1
  have q2 := i32_lo x2
  refine sfX12_noDay ht hW  (fun v2 I1 hWI1 hFI1 hp1 => ?_)
  have hwI1 := WM_f hWI1
  refine ⟨fun hc2 => ?_, fun hc3 => ?_⟩
  · skip
    have q3 := i32_lo v2
    have q4 : (0 : Int32).toInt = 0 := rfl
    have hc2 := Int32.toInt_inj.mpr hc2
    refine ⟨vp_of (by omega) (by omega), ?_⟩
    refine sfX12_wrongCoach ht (zModel_rowsA ht (by rw [tn_eq]; omega)) hWI1 (by omega) rfl (fun v5 I4 hWI4 hFI4 => ?_)
    have hwI4 := WM_f hWI4
    exact hK _ _ hWI4 (Fr.tr (Fr.tr Fr.rf hFI1 (by intro a k h; omega)) hFI4 (by intro a k h; omega))
  · skip
    have q3 := i32_lo v2
    have q4 : (0 : Int32).toInt = 0 := rfl
    have hc3 : ¬ (v2).toInt = (0 : Int32).toInt := fun z => hc3 (Int32.toInt_inj.mp z)
    exact hK _ _ hWI1 (Fr.tr Fr.rf hFI1 (by intro a k h; omega))
theorem lX12_status_107 {G : jdG} {n : Nat} {Z : jdL} {J : jdJ} {rc rs : Nat} {K : Int32 → jdI → jdJ → Prop}  {I : jdI} {t : Nat} {x1 : Int32} (ht : zModel Z t)  (hW : WM 7 t I)  (hK : ∀ (v : Int32), K v I J) : ∀ m : Nat, ∀ (x2 : Int32) (x3 : Int32), (0 ≤ x3.toInt ∧ x3.toInt ≤ 8) → (8) - x3.toInt < (m : Int) → Jd G mX12_status (jdFm G (qi Z K)) (n + 2) rc rs 107 [(0, .ref (gb G + t)), (1, .int x1), (2, .int x2), (3, .int x3)] [] Z I J := by
  intro m
  induction m with
  | zero =>
    intro x2 x3 hx3 hm
    have hwI := WM_f hW
    omega
  | succ m ih =>
    intro x2 x3 hx3 hm
    have hwI := WM_f hW
    refine rX12_status_107 ht ?_
    refine ⟨fun hc1 => ?_, fun hc2 => ?_⟩
    · skip
      have q1 : (8 : Int32).toInt = 8 := rfl
      have q2 := i32_lo x3
      have hc1 := Int32.le_iff_toInt_le.mp hc1
      exact hK _ 
    · skip
      have q1 : (8 : Int32).toInt = 8 := rfl
      have q2 := i32_lo x3
      have hc2 := mt Int32.le_iff_toInt_le.mpr hc2
      refine ⟨vp_of (by omega) (by omega), ?_⟩
      refine ⟨fun hc3 => ?_, fun hc4 => ?_⟩
      · skip
        have q3 : (0 : Int32).toInt = 0 := rfl
        have hc3 := Int32.toInt_inj.mpr hc3
        have q4 : (1 : Int32).toInt = 1 := rfl
        have q5 := i32_add x3 1 (by omega) (by omega)
        exact ih (x2 + 0) (x3 + 1) (by omega) (by omega)
      · skip
        have q3 : (0 : Int32).toInt = 0 := rfl
        have hc4 : ¬ ((I (t + 1) (Int32.toNatClampNeg x3))).toInt = (0 : Int32).toInt := fun z => hc4 (Int32.toInt_inj.mp z)
        have q4 : (1 : Int32).toInt = 1 := rfl
        have q5 := i32_add x3 1 (by omega) (by omega)
        exact ih (x2 + 1) (x3 + 1) (by omega) (by omega)
theorem sfX12_status {G : jdG} {n : Nat} {Z : jdL} {J : jdJ} {K : Int32 → jdI → jdJ → Prop}  {I : jdI} {t : Nat} {x1 : Int32} (ht : zModel Z t)  (hW : WM 7 t I)  (hK : ∀ (v : Int32), K v I J) : Cl G mX12_status (n + 2) 0 0 [.ref (gb G + t), .int x1] Z I J (qi Z K) := by
  refine eX12_status ht ?_
  have hwI := WM_f hW
  refine ⟨fun hc1 => ?_, fun hc2 => ?_, fun hc3 => ?_, fun hc4 => ?_, fun hc5 => ?_, fun hc6 => ?_, fun hc7 => ?_, fun hc8 => ?_, fun hc9 => ?_, fun hc10 => ?_, fun hc11 => ?_⟩
  · skip
    have q1 := i32_lo x1
    have q2 : (Int32.toInt64 x1).toInt = (x1).toInt := Int32.toInt_toInt64 _
    have q3 : (12 : Int64).toInt = 12 := rfl
    have q4 : (16 : Int64).toInt = 16 := rfl
    refine sfX12_in  trivial  (fun v2  hp12 => ?_)
    refine ⟨fun hc13 => ?_, fun hc14 => ?_⟩
    · skip
      have q5 := i32_lo v2
      have q6 : (0 : Int32).toInt = 0 := rfl
      have hc13 := Int32.toInt_inj.mpr hc13
      exact hK _ 
    · skip
      have q5 := i32_lo v2
      have q6 : (0 : Int32).toInt = 0 := rfl
      have hc14 : ¬ (v2).toInt = (0 : Int32).toInt := fun z => hc14 (Int32.toInt_inj.mp z)
      have q7 : (10 : Int32).toInt = 10 := rfl
      have q8 := i32_sub x1 10 (by omega) (by omega)
      refine ⟨vp_of (by omega) (by omega), ?_⟩
      exact hK _ 
  · skip
    exact hK _ 
  · skip
    exact hK _ 
  · skip
    exact hK _ 
  · skip
    refine sfX12_all ht (by decide) hW  (fun v5  hp15 => ?_)
    refine sfX12_pairsOf ht hW  (fun v7  => ?_)
    exact hK _ 
  · skip
    exact hK _ 
  · skip
    exact hK _ 
  · skip
    exact hK _ 
  · skip
    exact hK _ 
  · skip
    exact hK _ 
  · skip
    have q1 : (0 : Int32).toInt = 0 := rfl
    exact lX12_status_107 ht  hW  hK  (((8) - (0 : Int32).toInt).toNat + 1) 0 0 (by omega) (by omega)
