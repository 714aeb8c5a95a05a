/-! ever and feast on both sides -/
theorem pX12_isApart_2 {G : jdG} {n rc rs : Nat} {Z : jdL} {J : jdJ} {K : Int32 → jdI → jdJ → Prop} {I : jdI} {u0 n0 : Nat} {x1 x2 : Int32} {A : List Int32} (hu0 : Z.1 u0 = some (0, n0)) (hx1 : x1.toInt = (A.length : Int)) (hn : A.length ≤ n0) (h9 : n0 ≤ 1000) (hA : LiS I u0 A) (hK : ∀ v : Int32, ((v.toInt = 1 ∧ apA apM A x2 = true) ∨ (v.toInt = 0 ∧ ¬ apA apM A x2 = true)) → K v I J) : ∀ f : Nat, ∀ x3 : Int32, 0 ≤ x3.toInt → x3.toInt + (f : Int) = (A.length : Int) → (apA apM A x2 = true ↔ apA apM (A.drop x3.toInt.toNat) x2 = true) → Jd G mX12_isApart (jdFm G (qi Z K)) (n + 1) rc rs 2 [(0, .ref (gb G + u0)), (1, .int x1), (2, .int x2), (3, .int x3)] [] Z I J := by
  have q1 : (1 : Int32).toInt = 1 := rfl
  intro f
  induction f with
  | zero =>
    intro x3 h3 hf hr
    rw [drop_end (show A.length ≤ x3.toInt.toNat by omega)] at hr
    exact rX12_isApart_2 hu0 ⟨fun _ => hK 1 (Or.inl ⟨rfl, hr.mpr rfl⟩), fun h => absurd (Int32.le_iff_toInt_le.mpr (by omega)) h⟩
  | succ f ih =>
    intro x3 h3 hf hr
    have e3 := i32_add x3 1 (by omega) (by omega)
    have n3 := tn_eq x3
    have en : x3.toInt.toNat + 1 = (x3 + 1).toInt.toNat := by omega
    rw [LiS_drop hA (k := x3.toInt.toNat) (by omega), en] at hr
    have cs : apA apM (I u0 x3.toInt.toNat :: A.drop (x3 + 1).toInt.toNat) x2 = (apM (I u0 x3.toInt.toNat) x2 && apA apM (A.drop (x3 + 1).toInt.toNat) x2) := rfl
    rw [cs] at hr
    refine rX12_isApart_2 hu0 ⟨fun h => by have := Int32.le_iff_toInt_le.mp h; omega, fun _ => ⟨vp_of (by omega) (by omega), ?_⟩⟩
    refine sfX12_bits trivial (fun v3 hb => ?_)
    rw [n3] at hb
    have vb : v3.toInt = (cd (I u0 x3.toInt.toNat &&& x2) : Int) := by rw [hb]; exact bs_cd _ 8 (Nat.le_refl _)
    refine ⟨fun hc => ?_, fun hc => ?_⟩
    · have hc := Int32.le_iff_toInt_le.mp hc
      have ap : apM (I u0 x3.toInt.toNat) x2 = true := decide_eq_true (by omega)
      rw [ap, Bool.true_and] at hr
      exact ih (x3 + 1) (by omega) (by omega) hr
    · have hc := mt Int32.le_iff_toInt_le.mpr hc
      have ap : apM (I u0 x3.toInt.toNat) x2 = false := decide_eq_false (by omega)
      rw [ap, Bool.false_and] at hr
      exact hK 0 (Or.inr ⟨rfl, fun z => by have := hr.mp z; cases this⟩)
theorem pX12_isApart {G : jdG} {n : Nat} {Z : jdL} {J : jdJ} {K : Int32 → jdI → jdJ → Prop} {I : jdI} {u0 n0 : Nat} {x1 x2 : Int32} {A : List Int32} (hu0 : Z.1 u0 = some (0, n0)) (hx1 : x1.toInt = (A.length : Int)) (hn : A.length ≤ n0) (h9 : n0 ≤ 1000) (hA : LiS I u0 A) (hK : ∀ v : Int32, ((v.toInt = 1 ∧ apA apM A x2 = true) ∨ (v.toInt = 0 ∧ ¬ apA apM A x2 = true)) → K v I J) : Cl G mX12_isApart (n + 1) 0 0 [.ref (gb G + u0), .int x1, .int x2] Z I J (qi Z K) :=
  eX12_isApart hu0 (pX12_isApart_2 hu0 hx1 hn h9 hA hK A.length 0 (by decide) (by show (0 : Int) + _ = _; omega) Iff.rfl)
def fnZ (A : List Int32) (z : Int × Int) : Int × Int := (if z.1 < (A.length : Int) then (A.length : Int) else z.1, if z.2 = -1 then (A.length : Int) else if z.2 ≤ (A.length : Int) then z.2 else (A.length : Int))
theorem sk_fin {J : jdJ} {K : jdI → jdJ → Prop} {I : jdI} {t : Nat} {x3 x4 : Int32} {A : List Int32} {c : Prop} (hW : WM 7 t I) (h3 : x3.toInt = (A.length : Int)) (h4 : (x4.toInt = 0 ∧ ¬ c) ∨ (¬ x4.toInt = 0 ∧ c)) (hK : ∀ I2 : jdI, WM 7 t I2 → Fr (fun a k => a = t ∧ (k = 37 ∨ k = 38)) I I2 → (¬ c → ((I2 t 37).toInt, (I2 t 38).toInt) = ((I t 37).toInt, (I t 38).toInt)) → (c → ((I2 t 37).toInt, (I2 t 38).toInt) = fnZ A ((I t 37).toInt, (I t 38).toInt)) → K I2 J) : (x4 = 0 → K I J) ∧ (¬ x4 = 0 → ((x3 ≤ (I t 37) → (((I t 38) = (-1) → K (uI (uI I t 37 (I t 37)) t 38 x3) J) ∧ (¬ (I t 38) = (-1) → (((I t 38) ≤ x3 → K (uI (uI I t 37 (I t 37)) t 38 (I t 38)) J) ∧ (¬ (I t 38) ≤ x3 → K (uI (uI I t 37 (I t 37)) t 38 x3) J))))) ∧ (¬ x3 ≤ (I t 37) → (((I t 38) = (-1) → K (uI (uI I t 37 x3) t 38 x3) J) ∧ (¬ (I t 38) = (-1) → (((I t 38) ≤ x3 → K (uI (uI I t 37 x3) t 38 (I t 38)) J) ∧ (¬ (I t 38) ≤ x3 → K (uI (uI I t 37 x3) t 38 x3) J))))))) := by
  have q0 : (0 : Int32).toInt = 0 := rfl
  have qm : (-1 : Int32).toInt = -1 := rfl
  have lf : ∀ a b : Int32, ¬ x4 = 0 → (a.toInt, b.toInt) = fnZ A ((I t 37).toInt, (I t 38).toInt) → K (uI (uI I t 37 a) t 38 b) J := fun a b hx hv => by
    have hc : c := by
      rcases h4 with h | h
      · exact absurd (Int32.toInt_inj.mp (h.1.trans q0.symm)) hx
      · exact h.2
    have w1 : WM 7 t (uI I t 37 a) := WM_uI hW (by unfold okM; refine ⟨?_, ?_, ?_, ?_, ?_, ?_, ?_, ?_, ?_, ?_, ?_, ?_⟩ <;> intro h <;> omega)
    have w2 : WM 7 t (uI (uI I t 37 a) t 38 b) := WM_uI w1 (by unfold okM; refine ⟨?_, ?_, ?_, ?_, ?_, ?_, ?_, ?_, ?_, ?_, ?_, ?_⟩ <;> intro h <;> omega)
    refine hK _ w2 (Fr_uI (Fr_uI Fr.rf (by omega)) (by omega)) (fun z => absurd hc z) (fun _ => ?_)
    rw [uI_ap (uI I t 37 a) t 38 b t 37, if_neg (by omega), uI_ap I t 37 a t 37, if_pos ⟨rfl, rfl⟩, uI_ap (uI I t 37 a) t 38 b t 38, if_pos ⟨rfl, rfl⟩]
    exact hv
  have m1 : I t 38 = -1 ↔ (I t 38).toInt = -1 := ⟨fun e => by rw [e]; rfl, fun e => Int32.toInt_inj.mp (e.trans qm.symm)⟩
  refine ⟨fun hx => ?_, fun hx => ⟨fun c1 => ⟨fun c2 => ?_, fun c2 => ⟨fun c3 => ?_, fun c3 => ?_⟩⟩, fun c1 => ⟨fun c2 => ?_, fun c2 => ⟨fun c3 => ?_, fun c3 => ?_⟩⟩⟩⟩
  · have nc : ¬ c := by
      rcases h4 with h | h
      · exact h.2
      · exact absurd (by rw [hx]; rfl) h.1
    exact hK I hW Fr.rf (fun _ => rfl) (fun z => absurd z nc)
  · have c1 := Int32.le_iff_toInt_le.mp c1
    have c2 := m1.mp c2
    refine lf _ _ hx ?_
    unfold fnZ
    rw [if_neg (by show ¬ (I t 37).toInt < _; omega), if_pos c2, h3]
  · have c1 := Int32.le_iff_toInt_le.mp c1
    have c2 := mt m1.mpr c2
    have c3 := Int32.le_iff_toInt_le.mp c3
    refine lf _ _ hx ?_
    unfold fnZ
    rw [if_neg (by show ¬ (I t 37).toInt < _; omega), if_neg c2, if_pos (by show (I t 38).toInt ≤ _; omega)]
  · have c1 := Int32.le_iff_toInt_le.mp c1
    have c2 := mt m1.mpr c2
    have c3 := mt Int32.le_iff_toInt_le.mpr c3
    refine lf _ _ hx ?_
    unfold fnZ
    rw [if_neg (by show ¬ (I t 37).toInt < _; omega), if_neg c2, if_neg (by show ¬ (I t 38).toInt ≤ _; omega), h3]
  · have c1 := mt Int32.le_iff_toInt_le.mpr c1
    have c2 := m1.mp c2
    refine lf _ _ hx ?_
    unfold fnZ
    rw [if_pos (by show (I t 37).toInt < _; omega), if_pos c2, h3]
  · have c1 := mt Int32.le_iff_toInt_le.mpr c1
    have c2 := mt m1.mpr c2
    have c3 := Int32.le_iff_toInt_le.mp c3
    refine lf _ _ hx ?_
    unfold fnZ
    rw [if_pos (by show (I t 37).toInt < _; omega), if_neg c2, if_pos (by show (I t 38).toInt ≤ _; omega), h3]
  · have c1 := mt Int32.le_iff_toInt_le.mpr c1
    have c2 := mt m1.mpr c2
    have c3 := mt Int32.le_iff_toInt_le.mpr c3
    refine lf _ _ hx ?_
    unfold fnZ
    rw [if_pos (by show (I t 37).toInt < _; omega), if_neg c2, if_neg (by show ¬ (I t 38).toInt ≤ _; omega), h3]
theorem pX12_seekEver_14 {G : jdG} {n rc rs : Nat} {Z : jdL} {J : jdJ} {K : jdI → jdJ → Prop} {I : jdI} {t u2 n2 : Nat} {x1 x3 : Int32} {L A : List Int32} (ht : zModel Z t) (hu2 : Z.1 u2 = some (0, n2)) (hn2 : n2 = 40) (hW : WM 7 t I) (h35 : L.length ≤ 35) (hA35 : A.length ≤ 35) (h30 : (I t 30).toInt = (L.length : Int)) (hL : LiS I (t + 30) L) (hA : LiS I u2 A) (h3 : x3.toInt = (A.length : Int)) (hK : ∀ I2 : jdI, WM 7 t I2 → Fr (fun a k => a = t ∧ (k = 37 ∨ k = 38)) I I2 → ((I2 t 37).toInt, (I2 t 38).toInt) = seek apM L [] A ((I t 37).toInt, (I t 38).toInt) → K I2 J) : ∀ f : Nat, ∀ x4 x5 : Int32, 0 ≤ x5.toInt → x5.toInt + (f : Int) = (L.length : Int) → ((x4.toInt = 0 ∧ ¬ L.all (fun h => !(apA apM A h)) = true) ∨ (¬ x4.toInt = 0 ∧ (L.all (fun h => !(apA apM A h)) = true ↔ (L.drop x5.toInt.toNat).all (fun h => !(apA apM A h)) = true))) → Jd G mX12_seekEver (jdFm G (qv Z K)) (n + 2) rc rs 14 [(0, .ref (gb G + t)), (1, .int x1), (2, .ref (gb G + u2)), (3, .int x3), (4, .int x4), (5, .int x5)] [] Z I J := by
  have q0 : (0 : Int32).toInt = 0 := rfl
  have q1 : (1 : Int32).toInt = 1 := rfl
  have hK2 : ∀ I2 : jdI, WM 7 t I2 → Fr (fun a k => a = t ∧ (k = 37 ∨ k = 38)) I I2 → (¬ L.all (fun h => !(apA apM A h)) = true → ((I2 t 37).toInt, (I2 t 38).toInt) = ((I t 37).toInt, (I t 38).toInt)) → (L.all (fun h => !(apA apM A h)) = true → ((I2 t 37).toInt, (I2 t 38).toInt) = fnZ A ((I t 37).toInt, (I t 38).toInt)) → K I2 J := fun I2 a1 a2 a3 a4 => hK I2 a1 a2 (by
    rw [seek_nil]
    by_cases c : L.all (fun h => !(apA apM A h)) = true
    · rw [if_pos c]
      exact a4 c
    · rw [if_neg c]
      exact a3 c)
  intro f
  induction f with
  | zero =>
    intro x4 x5 h5 hf h4
    rw [drop_end (show L.length ≤ x5.toInt.toNat by omega)] at h4
    refine rX12_seekEver_14 ht hu2 ⟨fun _ => sk_fin hW h3 ?_ hK2, fun h => absurd (Int32.le_iff_toInt_le.mpr (by omega)) h⟩
    rcases h4 with h4 | h4
    · exact Or.inl h4
    · exact Or.inr ⟨h4.1, h4.2.mpr rfl⟩
  | succ f ih =>
    intro x4 x5 h5 hf h4
    have e5 := i32_add x5 1 (by omega) (by omega)
    have n5 := tn_eq x5
    have en : x5.toInt.toNat + 1 = (x5 + 1).toInt.toNat := by omega
    rw [LiS_drop hL (k := x5.toInt.toNat) (by omega), en] at h4
    have cs : (I (t + 30) x5.toInt.toNat :: L.drop (x5 + 1).toInt.toNat).all (fun h => !(apA apM A h)) = (!(apA apM A (I (t + 30) x5.toInt.toNat)) && (L.drop (x5 + 1).toInt.toNat).all (fun h => !(apA apM A h))) := rfl
    rw [cs] at h4
    refine rX12_seekEver_14 ht hu2 ⟨fun h => by have := Int32.le_iff_toInt_le.mp h; omega, fun _ => ⟨fun hx => ?_, fun hx => ⟨vp_of (by omega) (by omega), ?_⟩⟩⟩
    · have hx0 : x4.toInt = 0 := by rw [hx]; rfl
      rcases h4 with h4 | h4
      · exact sk_fin hW h3 (Or.inl h4) hK2
      · exact absurd hx0 h4.1
    · have hx0 : ¬ x4.toInt = 0 := fun z => hx (Int32.toInt_inj.mp (z.trans q0.symm))
      have h4 : L.all (fun h => !(apA apM A h)) = true ↔ (!(apA apM A (I (t + 30) x5.toInt.toNat)) && (L.drop (x5 + 1).toInt.toNat).all (fun h => !(apA apM A h))) = true := by
        rcases h4 with h4 | h4
        · exact absurd h4.1 hx0
        · exact h4.2
      rw [n5]
      refine pX12_isApart hu2 h3 (by omega) (by omega) hA (fun v hv => ⟨fun c => ?_, fun c => ?_⟩)
      · have c := i1 c
        rcases hv with hv | hv
        · rw [hv.2, Bool.not_true, Bool.false_and] at h4
          exact ih 0 (x5 + 1) (by omega) (by omega) (Or.inl ⟨rfl, fun z => by have := h4.mp z; cases this⟩)
        · exact absurd hv.1 c
      · have c := i0 c
        rcases hv with hv | hv
        · omega
        · rw [Bool.eq_false_iff.mpr hv.2, Bool.not_false, Bool.true_and] at h4
          exact ih 1 (x5 + 1) (by omega) (by omega) (Or.inr ⟨by decide, h4⟩)
theorem pX12_seekEver {G : jdG} {Z : jdL} {J : jdJ} {t u2 n2 : Nat} {L : List Int32} (ht : zModel Z t) (hu2 : Z.1 u2 = some (0, n2)) (hn2 : n2 = 40) (hu : u2 < t ∨ t + 37 < u2) (h35 : L.length ≤ 35) : ∀ d : Nat, ∀ (n : Nat) (I : jdI) (K : jdI → jdJ → Prop) (x1 x3 : Int32) (A : List Int32), WM 7 t I → (I t 30).toInt = (L.length : Int) → LiS I (t + 30) L → LiS I u2 A → x3.toInt = (A.length : Int) → 0 ≤ x1.toInt → x1.toInt + (d : Int) = (L.length : Int) → (A.length : Int) ≤ x1.toInt → (∀ I2 : jdI, WM 7 t I2 → Fr (fun a k => (a = t ∧ (k = 37 ∨ k = 38)) ∨ a = u2) I I2 → (∀ k, k < A.length → I2 u2 k = I u2 k) → ((I2 t 37).toInt, (I2 t 38).toInt) = seek apM L (L.drop x1.toInt.toNat) A ((I t 37).toInt, (I t 38).toInt) → K I2 J) → Cl G mX12_seekEver (n + d + 2 + 1) 0 0 [.ref (gb G + t), .int x1, .ref (gb G + u2), .int x3] Z I J (qv Z K) := by
  have q1 : (1 : Int32).toInt = 1 := rfl
  intro d
  induction d with
  | zero =>
    intro n I K x1 x3 A hW h30 hL hA h3 h1 hd hAx hK
    refine eX12_seekEver ht hu2 ⟨fun hne => absurd (Int32.toInt_inj.mp (by omega)) hne, fun _ => ?_⟩
    refine pX12_seekEver_14 (n := n + 1) (L := L) (A := A) ht hu2 hn2 hW h35 (by omega) h30 hL hA h3 (fun I2 hW2 hF2 hz => hK I2 hW2 (Fr.tr Fr.rf hF2 (by intro a k h; omega)) (fun k hk => hF2 _ _ (by omega)) (by rw [drop_end (show L.length ≤ x1.toInt.toNat by omega)]; exact hz)) L.length 1 0 (by decide) (by show (0 : Int) + _ = _; omega) (Or.inr ⟨by decide, Iff.rfl⟩)
  | succ d ih =>
    intro n I K x1 x3 A hW h30 hL hA h3 h1 hd hAx hK
    have e1 := i32_add x1 1 (by omega) (by omega)
    have e3 := i32_add x3 1 (by omega) (by omega)
    have n1 := tn_eq x1
    have n3 := tn_eq x3
    have en : x1.toInt.toNat + 1 = (x1 + 1).toInt.toNat := by omega
    have e3n : Int32.toNatClampNeg x3 = A.length := by omega
    rw [LiS_drop hL (k := x1.toInt.toNat) (by omega), en] at hK
    refine eX12_seekEver ht hu2 ⟨fun hne => ⟨vp_of (by omega) (by omega), ?_⟩, fun he => by rw [he] at hd; omega⟩
    rw [n1, e3n]
    refine pX12_isApart hu2 h3 (by omega) (by omega) hA (fun v hv => ⟨fun c => ?_, fun c => ⟨vp_of (by omega) (by omega), vp_of (by omega) (by omega), ?_⟩⟩)
    · have c := i0 c
      have na : ¬ apA apM A (I (t + 30) x1.toInt.toNat) = true := by
        rcases hv with hv | hv
        · omega
        · exact hv.2
      exact ih n I K (x1 + 1) x3 A hW h30 hL hA h3 (by omega) (by omega) (by omega) (fun I2 hW2 hF2 hk hz => hK I2 hW2 hF2 hk (by rw [seek_cons, if_neg na]; exact hz))
    · have c := i1 c
      have ya : apA apM A (I (t + 30) x1.toInt.toNat) = true := by
        rcases hv with hv | hv
        · exact hv.2
        · exact absurd hv.1 c
      have f0 : Fr (fun a k => a = u2) I (uI I u2 A.length (I (t + 30) x1.toInt.toNat)) := Fr_uI Fr.rf rfl
      have w0 : WM 7 t (uI I u2 A.length (I (t + 30) x1.toInt.toNat)) := WM_fr hW f0 (by intro a k h1 h2 h3; omega)
      have k0 : ∀ k, k < A.length → (uI I u2 A.length (I (t + 30) x1.toInt.toNat)) u2 k = I u2 k := fun k hk => by rw [uI_ap, if_neg (by omega)]
      refine ih n _ _ (x1 + 1) (x3 + 1) (A ++ [I (t + 30) x1.toInt.toNat]) w0 (by rw [f0 t 30 (by omega)]; exact h30) (LiS_fr hL f0 (fun k => by omega)) (LiS_push hA rfl) (by rw [List.length_append, List.length_singleton]; omega) (by omega) (by omega) (by rw [List.length_append, List.length_singleton]; omega) (fun I8 hW8 hF8 hk8 hz8 => ?_)
      have hA8 : LiS I8 u2 A := fun k hk => by
        rw [hk8 k (by rw [List.length_append, List.length_singleton]; omega), k0 k hk]
        exact hA k hk
      refine ih n I8 K (x1 + 1) x3 A hW8 (by rw [hF8 t 30 (by omega), f0 t 30 (by omega)]; exact h30) (LiS_fr (LiS_fr hL f0 (fun k => by omega)) hF8 (fun k => by omega)) hA8 h3 (by omega) (by omega) (by omega) (fun I9 hW9 hF9 hk9 hz9 => ?_)
      refine hK I9 hW9 (Fr.tr (Fr.tr (Fr.tr Fr.rf f0 (by intro a k h; omega)) hF8 (by intro a k h; omega)) hF9 (by intro a k h; omega)) (fun k hk => by rw [hk9 k hk, hk8 k (by rw [List.length_append, List.length_singleton]; omega), k0 k hk]) ?_
      rw [seek_cons, if_pos ya, hz9, hz8, f0 t 37 (by omega), f0 t 38 (by omega)]
/-! coaches for two -/
def c1N (rel : Nat → Nat → Bool) (i : Nat) : Nat → Nat → Nat
  | _, 0 => 0
  | p, k + 1 => (if rel p i = true then 1 else 0) + c1N rel i (p + 1) k
def r1N (rel : Nat → Nat → Bool) (q : Nat) : Nat → Nat → Nat
  | _, 0 => 0
  | p, k + 1 => (if rel q p = true then 1 else 0) + r1N rel q (p + 1) k
theorem c1N_end (rel : Nat → Nat → Bool) (i : Nat) : ∀ k p, c1N rel i p (k + 1) = c1N rel i p k + (if rel (p + k) i = true then 1 else 0)
  | 0, p => by
    show (if rel p i = true then 1 else 0) + 0 = 0 + (if rel (p + 0) i = true then 1 else 0)
    rw [Nat.add_zero, Nat.add_zero, Nat.zero_add]
  | k + 1, p => by
    have ih := c1N_end rel i k (p + 1)
    show (if rel p i = true then 1 else 0) + c1N rel i (p + 1) (k + 1) = (if rel p i = true then 1 else 0) + c1N rel i (p + 1) k + (if rel (p + (k + 1)) i = true then 1 else 0)
    rw [ih, show p + 1 + k = p + (k + 1) by omega]
    omega
theorem r1N_end (rel : Nat → Nat → Bool) (q : Nat) : ∀ k p, r1N rel q p (k + 1) = r1N rel q p k + (if rel q (p + k) = true then 1 else 0)
  | 0, p => by
    show (if rel q p = true then 1 else 0) + 0 = 0 + (if rel q (p + 0) = true then 1 else 0)
    rw [Nat.add_zero, Nat.add_zero, Nat.zero_add]
  | k + 1, p => by
    have ih := r1N_end rel q k (p + 1)
    show (if rel q p = true then 1 else 0) + r1N rel q (p + 1) (k + 1) = (if rel q p = true then 1 else 0) + r1N rel q (p + 1) k + (if rel q (p + (k + 1)) = true then 1 else 0)
    rw [ih, show p + 1 + k = p + (k + 1) by omega]
    omega
theorem okN_1 {rel : Nat → Nat → Bool} {i p : Nat} (hi : i < p) (hp : p < 8) : okN rel ((1 : Int32) <<< (Int32.ofNat i &&& 31)) p p = rel p i := by
  unfold okN
  have e : (∀ q, q < p → bt ((1 : Int32) <<< (Int32.ofNat i &&& 31)) q = true → rel p q = true) ↔ rel p i = true := by
    constructor
    · intro h
      exact h i hi (by rw [bt_1a ⟨i, by omega⟩ ⟨i, by omega⟩]; exact decide_eq_true rfl)
    · intro h q hq hb
      rw [bt_1a ⟨i, by omega⟩ ⟨q, by omega⟩] at hb
      have e : q = i := of_decide_eq_true hb
      rw [e]
      exact h
  cases c : rel p i with
  | true => exact decide_eq_true (e.mpr c)
  | false => exact decide_eq_false (fun z => by rw [e.mp z] at c; cases c)
theorem DL_1 {rel : Nat → Nat → Bool} {i : Nat} : ∀ k p, i < p → p + k ≤ 8 → (DL rel k p 1 ((1 : Int32) <<< (Int32.ofNat i &&& 31))).length = c1N rel i p k
  | 0, p, _, _ => by rw [DL_k0]; rfl
  | k + 1, p, hi, hk => by
    have ih := DL_1 (rel := rel) (i := i) k (p + 1) (by omega) (by omega)
    show _ = (if rel p i = true then 1 else 0) + c1N rel i (p + 1) k
    have o := okN_1 (rel := rel) hi (show p < 8 by omega)
    by_cases c : rel p i = true
    · rw [DL_y (by rw [o]; exact c), DL_m0, List.length_append, ih, if_pos c]
      rfl
    · rw [DL_n (by rw [o]; exact c), ih, if_neg c, Nat.zero_add]
theorem DL_2 {rel : Nat → Nat → Bool} {k p : Nat} (hk : p + k + 1 ≤ 8) : (DL rel (k + 1) p 2 0).length = c1N rel p (p + 1) k + (DL rel k (p + 1) 2 0).length := by
  have o : okN rel 0 p p = true := decide_eq_true (fun q hq hb => by rw [bt_ze q (by omega)] at hb; cases hb)
  rw [DL_y o, List.length_append, Int32.zero_or, DL_1 k (p + 1) (by omega) (by omega)]
theorem DL_2e {rel : Nat → Nat → Bool} : ∀ k p, p + k + 1 ≤ 8 → (DL rel (k + 1) p 2 0).length = (DL rel k p 2 0).length + r1N rel (p + k) p k
  | 0, p, hk => by rw [DL_2 (by omega)]; rfl
  | k + 1, p, hk => by
    have ih := DL_2e (rel := rel) k (p + 1) (by omega)
    rw [DL_2 (k := k + 1) (p := p) (by omega), ih, DL_2 (k := k) (p := p) (by omega), c1N_end]
    show _ = _ + ((if rel (p + (k + 1)) p = true then 1 else 0) + r1N rel (p + (k + 1)) (p + 1) k)
    rw [show p + 1 + k = p + (k + 1) by omega]
    omega
theorem nI_r {rel : Nat → Nat → Bool} {q : Nat} : ∀ k, nI' (fun p q => rel q p) q k = r1N rel q 0 k
  | 0 => rfl
  | k + 1 => by
    rw [r1N_end, Nat.zero_add, ← nI_r k]
    rfl
theorem DL_2n {rel : Nat → Nat → Bool} : ∀ k, k ≤ 8 → (DL rel k 0 2 0).length = nO (fun p q => rel q p) k
  | 0, _ => by rw [DL_k0]; rfl
  | k + 1, hk => by
    rw [DL_2e k 0 (by omega), DL_2n k (by omega), Nat.zero_add]
    show _ = nO (fun p q => rel q p) k + nI' (fun p q => rel q p) k k
    rw [nI_r]
def cpW (w : Tw) : Nat := nO (fun p q => relW w q p) w.1.toNat
theorem pX12_pairsOf_l {G : jdG} {n rc rs : Nat} {Z : jdL} {J : jdJ} {K : Int32 → jdI → jdJ → Prop} {I : jdI} {t : Nat} {w : Tw} (ht : zModel Z t) (hw : RM I t w) (hb : 0 ≤ w.1 ∧ w.1 ≤ 7) (hK : ∀ v : Int32, v.toInt = (cpW w : Int) → K v I J) : ∀ m : Nat,
    (∀ x2 x3 : Int32, 0 ≤ x3.toInt → x3.toInt ≤ w.1 → x2.toInt = (nO (fun p q => relW w q p) x3.toInt.toNat : Int) → x2.toInt ≤ 7 * x3.toInt → (8 - x3.toInt) * 10 < (m : Int) → Jd G mX12_pairsOf (jdFm G (qi Z K)) (n + 1) rc rs 4 [(0, .ref (gb G + t)), (1, .int (evW w)), (2, .int x2), (3, .int x3)] [] Z I J) ∧
    (∀ x2 x3 x4 : Int32, 0 ≤ x3.toInt → x3.toInt < w.1 → 0 ≤ x4.toInt → x4.toInt ≤ x3.toInt → x2.toInt = (nO (fun p q => relW w q p) x3.toInt.toNat + nI' (fun p q => relW w q p) x3.toInt.toNat x4.toInt.toNat : Nat) → x2.toInt ≤ 7 * x3.toInt + x4.toInt → (8 - x3.toInt) * 10 - x4.toInt - 1 < (m : Int) → Jd G mX12_pairsOf (jdFm G (qi Z K)) (n + 1) rc rs 15 [(0, .ref (gb G + t)), (1, .int (evW w)), (2, .int x2), (3, .int x3), (4, .int x4)] [] Z I J) := by
  have h10 := hw.1
  have q1 : (1 : Int32).toInt = 1 := rfl
  have q0 : (0 : Int32).toInt = 0 := rfl
  have ev : ∀ x : Int32, 0 ≤ x.toInt → x.toInt < w.1 → ¬ ((evW w >>> (x &&& 31)) &&& 1) = 0 := fun x h0 h1 => by
    refine (bt_iff (evW w) h0).mp ?_
    have q : (Int32.ofInt w.1).toInt = w.1 := Int32.toInt_ofInt_of_le (by omega) (by omega)
    unfold evW
    rw [bt_ev (by omega) (by omega), q]
    exact decide_eq_true (by omega)
  intro m
  induction m with
  | zero =>
    refine ⟨fun x2 x3 h1 h2 h3 h4 hm => ?_, fun x2 x3 x4 h1 h2 h3 h4 h5 h6 hm => ?_⟩ <;> omega
  | succ m ih =>
    refine ⟨fun x2 x3 h1 h2 h3 h4 hm => ?_, fun x2 x3 x4 h1 h2 h3 h4 h5 h6 hm => ?_⟩
    · refine rX12_pairsOf_4 ht ⟨fun hc => ?_, fun hc => ?_⟩
      · have hc := Int32.le_iff_toInt_le.mp hc
        refine hK x2 ?_
        rw [h3]
        unfold cpW
        rw [show x3.toInt.toNat = w.1.toNat by omega]
      · have hc := mt Int32.le_iff_toInt_le.mpr hc
        exact ih.2 x2 x3 0 h1 (by omega) (by decide) (by omega) (by rw [h3]; rfl) (by omega) (by omega)
    · have e3 := i32_add x3 1 (by omega) (by omega)
      have e4 := i32_add x4 1 (by omega) (by omega)
      have e2 := i32_add x2 1 (by omega) (by omega)
      have n3 := tn_eq x3
      have n4 := tn_eq x4
      refine rX12_pairsOf_15 ht ⟨fun hc => ?_, fun hc => ?_⟩
      · have hc := Int32.le_iff_toInt_le.mp hc
        exact ih.1 x2 (x3 + 1) (by omega) (by omega) (by rw [h5, show x4.toInt.toNat = x3.toInt.toNat by omega, show (x3 + 1).toInt.toNat = x3.toInt.toNat + 1 by omega]; rfl) (by omega) (by omega)
      · have hc := mt Int32.le_iff_toInt_le.mpr hc
        have en : (x4 + 1).toInt.toNat = x4.toInt.toNat + 1 := by omega
        have et : Int32.toNatClampNeg x3 = x3.toInt.toNat := by omega
        have ef : Int32.toNatClampNeg x4 = x4.toInt.toNat := by omega
        have k9 := hw.2.2.2.2 x3.toInt.toNat x4.toInt.toNat (by omega) (by omega) (by omega)
        refine eX12_has ⟨fun z => absurd z (ev x3 h1 h2), fun _ => ⟨fun z => absurd z (by decide), fun _ => ?_⟩⟩
        refine eX12_has ⟨fun z => absurd z (ev x4 h3 (by omega)), fun _ => ⟨fun z => absurd z (by decide), fun _ => ⟨vp_of (by omega) (by omega), vp_of (by omega) (by omega), fun hv => ?_, fun hv => ?_⟩⟩⟩
        · rw [et, ef, k9] at hv
          have hn : ¬ relW w x3.toInt.toNat x4.toInt.toNat = true := fun z => hv (of_decide_eq_true z)
          rw [Int32.add_zero]
          refine ih.2 x2 x3 (x4 + 1) h1 h2 (by omega) (by omega) ?_ (by omega) (by omega)
          rw [h5, en]
          show _ = ((nO _ _ + (nI' (fun p q => relW w q p) x3.toInt.toNat x4.toInt.toNat + (if relW w x3.toInt.toNat x4.toInt.toNat = true then 1 else 0)) : Nat) : Int)
          rw [if_neg hn, Nat.add_zero]
        · rw [et, ef, k9] at hv
          have hy : relW w x3.toInt.toNat x4.toInt.toNat = true := decide_eq_true hv
          refine ih.2 (x2 + 1) x3 (x4 + 1) h1 h2 (by omega) (by omega) ?_ (by omega) (by omega)
          rw [en]
          show _ = ((nO _ _ + (nI' (fun p q => relW w q p) x3.toInt.toNat x4.toInt.toNat + (if relW w x3.toInt.toNat x4.toInt.toNat = true then 1 else 0)) : Nat) : Int)
          rw [if_pos hy]
          omega
theorem pX12_pairsOf {G : jdG} {n : Nat} {Z : jdL} {J : jdJ} {K : Int32 → jdI → jdJ → Prop} {I : jdI} {t : Nat} {w : Tw} (ht : zModel Z t) (hw : RM I t w) (hb : 0 ≤ w.1 ∧ w.1 ≤ 7) (hK : ∀ v : Int32, v.toInt = (cpW w : Int) → K v I J) : Cl G mX12_pairsOf (n + 1) 0 0 [.ref (gb G + t), .int (evW w)] Z I J (qi Z K) :=
  eX12_pairsOf ht ((pX12_pairsOf_l ht hw hb hK 81).1 0 0 (by decide) (by show (0 : Int) ≤ _; omega) rfl (by decide) (by decide))
def evS (w : Tw) : Int × Int := if w.2.2.2.1 = 2 then ((cpW w : Int), (cpW w : Int)) else seek apM (LW w) (LW w) [] (0, -1)
theorem ev_long {w : Tw} (hb : (0 ≤ w.1 ∧ w.1 ≤ 7) ∧ 2 ≤ w.2.2.2.1 ∧ w.2.2.2.1 ≤ 4) (hsy : SYM w) : oLong w = (evS w).1 ∧ oSoon w = (evS w).2 := by
  unfold oLong oSoon evS
  by_cases c : w.2.2.2.1 = 2
  · rw [if_pos c, if_pos c, if_pos c]
    have e : (LW w).length = cpW w := by
      unfold LW cpW
      rw [show w.2.2.2.1.toNat = 2 by omega]
      exact DL_2n _ (by omega)
    rw [e]
    exact ⟨rfl, rfl⟩
  · rw [if_neg c, if_neg c, if_neg c]
    have g := GP_W hb hsy c
    have l8 := lmx_8 hb hsy c (o := paW w)
    have c24 := cdN_24 (paW w) 24
    have l3 : lmx ((LW w).map (pmW w)) (paW w) * 3 ≤ lmx ((LW w).map (pmW w)) (paW w) * eaN w := Nat.mul_le_mul_left _ l8.1
    have l35 := LW_35 hb
    exact ⟨(seek_1 g).symm, (seek_2 g (by omega) (by omega) (by decide)).symm⟩
theorem pqX12_findEver {G : jdG} {n : Nat} {Z : jdL} {I : jdI} {J : jdJ} {Q : jdQ} {x : Nat} {w : Tw} (hx : zModel Z x) (hW : WM 7 x I) (hw : RM I x w) (hl : x + 38 ≤ Z.2.2) (hQ : ∀ (Z2 : jdL) (I2 : jdI), (Z2 = Z ∨ Z2 = nZ Z (0, 40)) → WM 7 x I2 → Fr (fun a k => (a = x ∧ 20 ≤ k) ∨ a = x + 17 ∨ (x + 29 ≤ a ∧ a ≤ x + 37) ∨ Z.2.2 ≤ a) I I2 → ((I2 x 37).toInt, (I2 x 38).toInt) = evS w → Q none Z2 I2 J) : Cl G mX12_findEver (n + 40) 1 40 [.ref (gb G + x)] Z I J Q := by
  have hb := RM_b hW hw
  have w1 : WM 7 x (uI I x 37 0) := WM_uI hW (by unfold okM; refine ⟨?_, ?_, ?_, ?_, ?_, ?_, ?_, ?_, ?_, ?_, ?_, ?_⟩ <;> intro h <;> omega)
  have w2 : WM 7 x (uI (uI I x 37 0) x 38 (-1)) := WM_uI w1 (by unfold okM; refine ⟨?_, ?_, ?_, ?_, ?_, ?_, ?_, ?_, ?_, ?_, ?_, ?_⟩ <;> intro h <;> omega)
  have f9 : Fr (fun a k => a = x ∧ (k = 37 ∨ k = 38)) I (uI (uI I x 37 0) x 38 (-1)) := Fr_uI (Fr_uI Fr.rf (by omega)) (by omega)
  have z37 : ((uI (uI I x 37 0) x 38 (-1)) x 37).toInt = 0 := by rw [uI_ap, if_neg (by omega), uI_ap, if_pos ⟨rfl, rfl⟩]; rfl
  have z38 : ((uI (uI I x 37 0) x 38 (-1)) x 38).toInt = -1 := by rw [uI_ap, if_pos ⟨rfl, rfl⟩]; rfl
  have h14 : I x 14 = 2 ↔ w.2.2.2.1 = 2 := by
    have h := hw.2.2.1
    have q2 : (2 : Int32).toInt = 2 := rfl
    exact ⟨fun e => by rw [e] at h; omega, fun e => Int32.toInt_inj.mp (by rw [q2]; omega)⟩
  refine eX12_findEver hx ?_
  generalize (uI (uI I x 37 0) x 38 (-1)) = I0 at w2 f9 z37 z38 ⊢
  have r0 := RM_fr hw (by omega) f9 (by omega) (by omega) (by omega) (by intro a k h1 h2 h3; omega)
  refine ⟨fun hc => ?_, fun hc => ?_⟩
  · have h2 : ¬ w.2.2.2.1 = 2 := fun e => hc (h14.mpr e)
    refine pX12_listAll hx w2 (GM_RM r0 (by omega) (by omega)) (by omega) (by omega) (fun I1 hW1 hF1 hc1 hL1 => ?_)
    have hz : zModel (nZ Z (0, 40)) x := zModel_tr hx (fun a h1 h2 => by rw [nZ_ap, if_neg (by omega)]) (fun a k h1 h2 _ => by rw [nZ_ap2, if_neg (by omega)])
    have f3 : Fr (fun a _ => a = Z.2.2) I1 (zI I1 Z.2.2) := Fr_zI Fr.rf (fun _ => rfl)
    have w3 : WM 7 x (zI I1 Z.2.2) := WM_fr hW1 f3 (by intro a k h1 h2 h3; omega)
    refine ⟨0, 0, Nat.le_refl _, Nat.le_refl _, hz, ?_⟩
    have l35 := LW_35 hb
    have q0 : (0 : Int32).toInt = 0 := rfl
    rw [show n + 39 = (n + 36 - (LW w).length) + (LW w).length + 2 + 1 by omega]
    refine pX12_seekEver (L := LW w) (n2 := 40) hz (by rw [nZ_ap, if_pos rfl]) rfl (by omega) l35 (LW w).length (n + 36 - (LW w).length) _ _ 0 0 [] w3 (by rw [f3 x 30 (by omega)]; exact hc1) (LiS_fr hL1 f3 (fun k => by omega)) (LiS_nil _ _) rfl (by decide) (by rw [q0]; omega) (by decide) (fun I4 hW4 hF4 _ hz4 => ?_)
    refine hQ _ _ (Or.inr rfl) hW4 (Fr.tr (Fr.tr (Fr.tr (Fr.tr Fr.rf f9 (by intro a k h; omega)) hF1 (by intro a k h; omega)) f3 (by intro a k h; omega)) hF4 (by intro a k h; omega)) ?_
    rw [hz4, f3 x 37 (by omega), f3 x 38 (by omega), hF1 x 37 (by omega), hF1 x 38 (by omega), z37, z38]
    unfold evS
    rw [if_neg h2]
    rfl
  · have h2 := h14.mp hc
    refine eX12_all hx ?_
    rw [evM r0]
    refine pX12_pairsOf hx r0 hb.1 (fun v9 hv9 => ?_)
    have w8 : WM 7 x (uI I0 x 37 v9) := WM_uI w2 (by unfold okM; refine ⟨?_, ?_, ?_, ?_, ?_, ?_, ?_, ?_, ?_, ?_, ?_, ?_⟩ <;> intro h <;> omega)
    have w9 : WM 7 x (uI (uI I0 x 37 v9) x 38 v9) := WM_uI w8 (by unfold okM; refine ⟨?_, ?_, ?_, ?_, ?_, ?_, ?_, ?_, ?_, ?_, ?_, ?_⟩ <;> intro h <;> omega)
    refine hQ _ _ (Or.inl rfl) w9 (Fr_uI (Fr_uI (Fr.tr Fr.rf f9 (by intro a k h; omega)) (by omega)) (by omega)) ?_
    rw [uI_ap (uI I0 x 37 v9) x 38 v9 x 37, if_neg (by omega), uI_ap I0 x 37 v9 x 37, if_pos ⟨rfl, rfl⟩, uI_ap (uI I0 x 37 v9) x 38 v9 x 38, if_pos ⟨rfl, rfl⟩, hv9]
    unfold evS
    rw [if_pos h2]
def oEver (w : Tw) (x : Int32) : Int := if x.toInt = 0 then (evS w).1 else if x.toInt = 1 then (evS w).2 else -2
theorem pqX12_ever {G : jdG} {n : Nat} {Z : jdL} {I : jdI} {J : jdJ} {Q : jdQ} {t : Nat} {s : Sd} {x1 : Int32} (hM : MI Z I t) (hs : TM I t s) (hQ : ∀ (v : Int32) (Z2 : jdL) (I2 : jdI) (J2 : jdJ), ST t 21 20 Z I J Z2 I2 J2 → v.toInt = oEver s.1 x1 → Q (some (.int v)) Z2 I2 J2) : Cl G mX12_ever (n + 41) 1 40 [.ref (gb G + t), .int x1] Z I J Q := by
  have e3 : (Int32.toInt64 x1).toInt = x1.toInt := Int32.toInt_toInt64 _
  have z0 : (0 : Int64).toInt = 0 := rfl
  have z1 : (1 : Int64).toInt = 1 := rfl
  have q0 : (0 : Int32).toInt = 0 := rfl
  refine eX12_ever hM.1 ?_
  refine sfX12_in trivial (fun v hp => ⟨fun hc => ?_, fun hc => ?_⟩)
  · have hc := i1 hc
    refine ⟨1, 40, 0, 0, Nat.le_refl _, Nat.le_refl _, ?_⟩
    refine pqX12_findEver hM.1 hM.2.1 hs.1 hM.2.2.1 (fun Z3 I3 hz hW3 hF3 hv => ?_)
    have hS3 := ST_ev (ST.rf (x := 21) (y := 20) (J := J) hM) hz hW3 hF3
    have v1 : (I3 t 37).toInt = (evS s.1).1 := congrArg Prod.fst hv
    have v2 : (I3 t 38).toInt = (evS s.1).2 := congrArg Prod.snd hv
    refine ⟨rfl, hS3.1.1, fun h => hQ _ _ _ _ hS3 ?_, fun h => hQ _ _ _ _ hS3 ?_⟩
    · have h : ¬ x1.toInt = 0 := fun z => h (Int32.toInt_inj.mp (z.trans q0.symm))
      unfold oEver
      rw [if_neg h, if_pos (by omega)]
      exact v2
    · have h : x1.toInt = 0 := by rw [h]; rfl
      unfold oEver
      rw [if_pos h]
      exact v1
  · have hc := i0 hc
    refine sfX12_refuse hM.1 (by decide) hM.2.1 (by decide) (fun v5 I4 hW4 hF4 hp4 => hQ _ _ _ _ (ST_t (ST.rf hM) hW4 hF4 (by intro a k h; omega)) ?_)
    unfold oEver
    rw [if_neg (by omega), if_neg (by omega)]
    exact hp4
theorem pX11_ever {G : jdG} {n : Nat} {Z : jdL} {J : jdJ} {K : Int32 → jdI → jdJ → Prop} {I : jdI} {s : Sd} {x1 : Int32} (hX : zX Z) (hW : WX I) (hs : TX I 1 s) (hk : OKT s.1) (hK : ∀ (v : Int32) (I2 : jdI), WX I2 → Fr (fun a k => (13 ≤ a ∧ a ≤ 24) ∨ a = 28) I I2 → v.toInt = oEver s.1 x1 → K v I2 J) : Cl G mX11_ever (n + 81) 0 0 [.ref (gb G + 0), .int x1] Z I J (qi Z K) := by
  have hb := RX_b hW hs.1
  have hsy := OKT_sy hk
  have q0 : (0 : Int32).toInt = 0 := rfl
  have q1 : (1 : Int32).toInt = 1 := rfl
  have ev := ev_long hb hsy
  refine eX11_ever hX ⟨fun h0 => ?_, fun h0 => ⟨fun h1 => ?_, fun h1 => ?_⟩⟩
  · refine pX8_load (zX_o3 hX) (zX_o0 hX) (Or.inl rfl) hW hs.1 hsy (fun I1 hW1 hF1 hT1 _ => ⟨fun z => absurd h0 z, fun _ => ?_⟩)
    refine pX8_longest (zX_o3 hX) hW1 hb hsy hT1 (fun v I2 hW2 hF2 hv => hK v I2 hW2 (Fr.tr (Fr.tr Fr.rf hF1 (by intro a k h; omega)) hF2 (by intro a k h; omega)) ?_)
    unfold oEver
    rw [if_pos (by rw [h0]; rfl), hv]
    exact ev.1
  · refine pX8_load (zX_o3 hX) (zX_o0 hX) (Or.inl rfl) hW hs.1 hsy (fun I1 hW1 hF1 hT1 _ => ⟨fun _ => ?_, fun z => absurd z h0⟩)
    refine pX8_soonest (zX_o3 hX) hW1 hb hsy hT1 (fun v I2 hW2 hF2 hv => hK v I2 hW2 (Fr.tr (Fr.tr Fr.rf hF1 (by intro a k h; omega)) hF2 (by intro a k h; omega)) ?_)
    unfold oEver
    rw [if_neg (fun z => h0 (Int32.toInt_inj.mp (z.trans q0.symm))), if_pos (by rw [h1]; rfl), hv]
    exact ev.2
  · have n0 : ¬ x1.toInt = 0 := fun z => h0 (Int32.toInt_inj.mp (z.trans q0.symm))
    have n1 : ¬ x1.toInt = 1 := fun z => h1 (Int32.toInt_inj.mp (z.trans q1.symm))
    exact rfX hX hW (by unfold oEver; rw [if_neg n0, if_neg n1]; rfl) (by intro a k h; omega) hK
def oFeast (w : Tw) (x : Int32) : Int := oSet w x ((Int32.ofInt (evS w).1 - Int32.ofInt (evS (acqT w x)).1).toInt)
theorem pX11_feast {G : jdG} {n : Nat} {Z : jdL} {J : jdJ} {K : Int32 → jdI → jdJ → Prop} {I : jdI} {s : Sd} {x1 : Int32} (hX : zX Z) (hW : WX I) (hs : TX I 1 s) (hk : OKT s.1) (hK : ∀ (v : Int32) (I2 : jdI), WX I2 → Fr (fun a k => (13 ≤ a ∧ a ≤ 24) ∨ a = 28) I I2 → v.toInt = oFeast s.1 x1 → K v I2 J) : Cl G mX11_feast (n + 81) 0 0 [.ref (gb G + 0), .int x1] Z I J (qi Z K) := by
  have hb := RX_b hW hs.1
  have hsy := OKT_sy hk
  have ev := ev_long hb hsy
  have ev2 := ev_long (w := acqT s.1 x1) hb (SYM_acq hsy)
  refine eX11_feast hX (pX_set (f := (Int32.ofInt (evS s.1).1 - Int32.ofInt (evS (acqT s.1 x1)).1).toInt) hX hW hs.1 hk hK (fun I2 h0 h1 hW2 hF2 hT2 _ => ?_))
  refine pX8_longest (zX_o3 hX) hW2 hb hsy hT2 (fun v6 I5 hW5 hF5 hv6 => ?_)
  refine pX8_acquaint (zX_o3 hX) hW5 hsy hb (TL_k hT2 hF5 (by intro a k h; omega)) (fun I7 hW7 hF7 hT7 _ => ?_)
  refine pX8_longest (w := acqT s.1 x1) (zX_o3 hX) hW7 hb (SYM_acq hsy) hT7 (fun v10 I9 hW9 hF9 hv10 => hK _ I9 hW9 (Fr.tr (Fr.tr (Fr.tr hF2 hF5 (by intro a k h; omega)) hF7 (by intro a k h; omega)) hF9 (by intro a k h; omega)) ?_)
  unfold oFeast
  rw [oSet_y h0 h1, ← ev.1, ← ev2.1, ← hv6, ← hv10, ofI, ofI]
theorem pqX12_feast {G : jdG} {n : Nat} {Z : jdL} {I : jdI} {J : jdJ} {Q : jdQ} {t : Nat} {s : Sd} {x1 : Int32} {sA sV : Nat → Nat} (hG : gOK G sA sV) (hM : MI Z I t) (hs : TM I t s) (hQ : ∀ (v : Int32) (Z2 : jdL) (I2 : jdI) (J2 : jdJ), ST t 21 20 Z I J Z2 I2 J2 → v.toInt = oFeast s.1 x1 → Q (some (.int v)) Z2 I2 J2) : Cl G mX12_feast (n + 41) 40 2026 [.ref (gb G + t), .int x1] Z I J Q := by
  have hb := RM_b hM.2.1 hs.1
  have hMs := hM.2.2.1
  refine eX12_feast hM.1 ?_
  refine pX12_isSet hM.1 hM.2.1 hs.1.1 (fun v hp => ⟨fun hc => ?_, fun hc => ?_⟩)
  · have hc := i1 hc
    refine ⟨1, 40, 39, 1986, Nat.le_refl _, Nat.le_refl _, ?_⟩
    refine pqX12_findEver hM.1 hM.2.1 hs.1 hM.2.2.1 (fun Z3 I3 hz hW3 hF3 hv3 => ?_)
    have hS3 := ST_ev (ST.rf (x := 21) (y := 20) (J := J) hM) hz hW3 hF3
    have hfc := fC_le Z3 t
    have r3 := RM_fr hs.1 (by omega) hF3 (by omega) (by omega) (by omega) (by intro a k h1 h2 h3; omega)
    refine ⟨rfl, hS3.1.1, fC Z3 t, fS Z3 t, 1, 40, by omega, by omega, ?_⟩
    refine qX12_fresh hG hS3.1 (fun u Z4 I4 J4 hS hu c0 c2 c3 hU hF4 hC4 => ⟨u, rfl, hS.1.1, c0, ?_⟩)
    have hS4 := ST.tr hS3 hS
    have ru := RM_cm r3 (by omega) hC4
    refine pX12_meets c0 hU ru (fun v6 I5 hW5 hF5 hR5 _ => ?_)
    have hS5 := ST_u hS4 hu (WM_mono hW5 (by decide)) hF5 (by intro a k h; omega)
    refine ⟨1, 40, 0, 0, Nat.le_refl _, Nat.le_refl _, ?_⟩
    refine pqX12_findEver (w := acqT s.1 x1) c0 hW5 hR5 c3 (fun Z7 I7 hz7 hW7 hF7 hv7 => ?_)
    have hS7 := ST_evu hS5 hu hz7 hW7 hF7
    have hu7 : zModel Z7 u := by
      rcases hz7 with rfl | rfl
      · exact c0
      · exact ((MI_nZ hS5.1).2.2.2.2.2.1 u (by rw [nZ_ap2, if_neg (by have := hS5.1.2.2.1; omega)]; exact hu)).1
    refine ⟨rfl, hS7.1.1, hu7, hQ _ _ _ _ hS7 ?_⟩
    have e7 : I7 t 37 = I3 t 37 := by rw [hF7 t 37 (by omega), hF5 t 37 (by omega), hF4 t 37 (by omega)]
    have v1 : (I3 t 37).toInt = (evS s.1).1 := congrArg Prod.fst hv3
    have v2 : (I7 u 37).toInt = (evS (acqT s.1 x1)).1 := congrArg Prod.fst hv7
    unfold oFeast
    rw [oSet_y (by omega) (by omega), ← v1, ← v2, ofI, ofI, e7]
  · have hc := i0 hc
    refine sfX12_refuse hM.1 (by decide) hM.2.1 (by decide) (fun v5 I4 hW4 hF4 hp4 => hQ _ _ _ _ (ST_t (ST.rf hM) hW4 hF4 (by intro a k h; omega)) ?_)
    unfold oFeast oSet
    rw [if_neg (by omega)]
    exact hp4
