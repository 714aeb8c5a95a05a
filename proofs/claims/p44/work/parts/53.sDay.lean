def ckI (o : Option (Nat × Nat)) : Int := if o = some (3 + 10, 0) then 1 else if o = some (1 + 10, 0) then 2 else if o = some (9 + 10, 0) then 3 else if o = some (6 + 10, 0) then 4 else if o = some (0 + 10, 0) then 5 else 6
theorem ckI_r (o : Option (Nat × Nat)) : 1 ≤ ckI o ∧ ckI o ≤ 6 := by
  unfold ckI
  split
  · omega
  · split
    · omega
    · split
      · omega
      · split
        · omega
        · split <;> omega
/-- the kind of the coachman on shelf i, 0 where there is none -/
def mk (Z : jdL) (i : Nat) : Int := match Z.2.1 (29 + 2 * i) 3 with
  | none => 0
  | some w => ckI (Z.1 w)
theorem mk_none {Z : jdL} {i : Nat} (h : Z.2.1 (29 + 2 * i) 3 = none) : mk Z i = 0 := by
  unfold mk
  rw [h]
theorem mk_some {Z : jdL} {i w : Nat} (h : Z.2.1 (29 + 2 * i) 3 = some w) : mk Z i = ckI (Z.1 w) := by
  unfold mk
  rw [h]
theorem i32_x7 (x y : Int32) (h0 : 0 ≤ x.toInt) (h1 : x.toInt ≤ 127) (h2 : 0 ≤ y.toInt) (h3 : y.toInt ≤ 127) : 0 ≤ (x ^^^ y).toInt ∧ (x ^^^ y).toInt < 128 :=
  i32_xor x y 7 (by decide) h0 (by omega) h2 (by omega)
theorem sh_7 {v : Int32} (h2 : 0 ≤ v.toInt) (h3 : v.toInt ≤ 6) : 1 ≤ ((1 : Int32) <<< (v &&& 31)).toInt ∧ ((1 : Int32) <<< (v &&& 31)).toInt ≤ 64 := by
  have h := (ev_of (x := v) h2 (by omega)).1
  have h4 : (2 : Int) ^ v.toInt.toNat = ((2 ^ v.toInt.toNat : Nat) : Int) := by simp
  have h5 : 2 ^ v.toInt.toNat ≤ 2 ^ 6 := Nat.pow_le_pow_right (by omega) (by omega)
  have h6 : 0 < 2 ^ v.toInt.toNat := Nat.pow_pos (by omega)
  omega
theorem vp_x7 {x v : Int32} (h0 : 0 ≤ x.toInt) (h1 : x.toInt ≤ 127) (h2 : 0 ≤ v.toInt) (h3 : v.toInt ≤ 6) : vp_in (x ^^^ (1 <<< (v &&& 31))) 128 := by
  have h := sh_7 h2 h3
  have h4 := i32_x7 x ((1 : Int32) <<< (v &&& 31)) h0 h1 (by omega) (by omega)
  exact vp_of h4.1 h4.2
theorem vp_xg7 {x g : Int32} (h0 : 0 ≤ x.toInt) (h1 : x.toInt ≤ 127) (hg : (g &&& x).toInt = g.toInt) : vp_in (x ^^^ g) 128 := by
  have h := i32_and g x h0
  have h2 := i32_x7 x g h0 h1 (by omega) (by omega)
  exact vp_of h2.1 h2.2
theorem sfX2_number {G : jdG} {n : Nat} {Z : jdL} {J : jdJ} {K : Int32 → jdI → jdJ → Prop} {I : jdI} {t : Nat} (ht : zMan Z t) (_hW : WX I) (hK : ∀ v : Int32, K v I J) : Cl G mX2_number n 0 0 [.ref (gb G + t)] Z I J (qi Z K) := v_number ht (hK _)

theorem sfX6_isRow {G : jdG} {n : Nat} {Z : jdL} {J : jdJ} {K : Int32 → jdI → jdJ → Prop}  {I : jdI} {t : Nat} (ht : zShelf Z t) (hts : 29 ≤ t ∧ t ≤ 43 ∧ t % 2 = 1) (hW : WX I)  (hK : ∀ (v : Int32), ((v.toInt = 1 ∧ ¬ (I t 1).toInt = -1) ∨ (v.toInt = 0 ∧ (I t 1).toInt = -1)) → K v I J) : Cl G mX6_isRow n 0 0 [.ref (gb G + t)] Z I J (qi Z K) := by
  refine eX6_isRow ht ?_
  have hwI := WX_f hW
  have hptI := WX_shelf hW hts
  refine ⟨fun hc1 => ?_, fun hc2 => ?_⟩
  · skip
    have q1 := i32_lo (I t 1)
    have q2 : (-1 : Int32).toInt = -1 := rfl
    have hc1 := Int32.toInt_inj.mpr hc1
    have q3 : (0 : Int32).toInt = 0 := rfl
    exact hK _  (by omega)
  · skip
    have q1 := i32_lo (I t 1)
    have q2 : (-1 : Int32).toInt = -1 := rfl
    have hc2 : ¬ ((I t 1)).toInt = ((-1) : Int32).toInt := fun z => hc2 (Int32.toInt_inj.mp z)
    have q3 : (1 : Int32).toInt = 1 := rfl
    exact hK _  (by omega)
theorem sfX6_cut {G : jdG} {n : Nat} {Z : jdL} {J : jdJ} {K : Int64 → jdI → jdJ → Prop}  {I : jdI} {t : Nat} {y1 : Int64} (ht : zShelf Z t) (hts : 29 ≤ t ∧ t ≤ 43 ∧ t % 2 = 1) (hW : WX I)  (hK : ∀ (v : Int64), (0 ≤ (I t 1).toInt ∧ (I t 1).toInt ≤ 4 → v = cutf (I t 1).toInt y1) → K v I J) : Cl G mX6_cut n 0 0 [.ref (gb G + t), .long y1] Z I J (ql Z K) := by
  refine eX6_cut ht ?_
  have hwI := WX_f hW
  have hptI := WX_shelf hW hts
  refine ⟨fun hc1 => ?_, fun hc2 => ?_, fun hc3 => ?_, fun hc4 => ?_, fun hc5 => ?_, fun hc6 => ?_⟩
  · skip
    exact hK _  (fun hq => (by first | (exfalso; omega) | (unfold cutf; (repeat first | rw [if_pos (by omega)] | rw [if_neg (by omega)]))))
  · skip
    exact hK _  (fun hq => (by first | (exfalso; omega) | (unfold cutf; (repeat first | rw [if_pos (by omega)] | rw [if_neg (by omega)]))))
  · skip
    exact hK _  (fun hq => (by first | (exfalso; omega) | (unfold cutf; (repeat first | rw [if_pos (by omega)] | rw [if_neg (by omega)]))))
  · skip
    exact hK _  (fun hq => (by first | (exfalso; omega) | (unfold cutf; (repeat first | rw [if_pos (by omega)] | rw [if_neg (by omega)]))))
  · skip
    exact hK _  (fun hq => (by first | (exfalso; omega) | (unfold cutf; (repeat first | rw [if_pos (by omega)] | rw [if_neg (by omega)]))))
  · skip
    refine ⟨fun hc7 => ?_, fun hc8 => ?_⟩
    · skip
      have q1 : (0 : Int64).toInt = 0 := rfl
      have q2 := lg_f y1 0
      have q3 : (0 : Int32).toInt = 0 := rfl
      have hc7 := Int32.toInt_inj.mpr hc7
      exact hK _  (fun hq => (by first | (exfalso; omega) | (unfold cutf; (repeat first | rw [if_pos (by omega)] | rw [if_neg (by omega)]))))
    · skip
      have q1 : (0 : Int64).toInt = 0 := rfl
      have q2 := lg_f y1 0
      have q3 : (0 : Int32).toInt = 0 := rfl
      have hc8 : ¬ ((lg_cmp y1 0)).toInt = (0 : Int32).toInt := fun z => hc8 (Int32.toInt_inj.mp z)
      exact hK _  (fun hq => (by first | (exfalso; omega) | (unfold cutf; (repeat first | rw [if_pos (by omega)] | rw [if_neg (by omega)]))))
theorem sfX6_put {G : jdG} {n : Nat} {Z : jdL} {J : jdJ} {K : jdI → jdJ → Prop}  {I : jdI} {t : Nat} {x1 : Int32} {y2 : Int64} (ht : zShelf Z t) (hts : 29 ≤ t ∧ t ≤ 43 ∧ t % 2 = 1) (hW : WX I)  (hK : ∀ (J2 : jdJ), ((0 ≤ x1.toInt ∧ x1.toInt < (I t 2).toInt ∧ 0 ≤ (I t 1).toInt ∧ (I t 1).toInt ≤ 4 → J2 = uJ J (t + 1) (Int32.toNatClampNeg x1) (cutf (I t 1).toInt y2))) → K I J2) : Cl G mX6_put (n + 1) 0 0 [.ref (gb G + t), .int x1, .long y2] Z I J (qv Z K) := by
  refine eX6_put ht ?_
  have hwI := WX_f hW
  have hptI := WX_shelf hW hts
  refine ⟨fun hc1 => ?_, fun hc2 => ?_⟩
  · skip
    have q1 := i32_lo x1
    have q2 : (0 : Int32).toInt = 0 := rfl
    have hc1 := Int32.lt_iff_toInt_lt.mp hc1
    exact hK _  (fun hq => by first | (exfalso; omega) | rw [hcut ⟨by omega, by omega⟩])
  · skip
    have q1 := i32_lo x1
    have q2 : (0 : Int32).toInt = 0 := rfl
    have hc2 := mt Int32.lt_iff_toInt_lt.mpr hc2
    refine ⟨fun hc3 => ?_, fun hc4 => ?_⟩
    · skip
      have q3 := i32_lo (I t 2)
      have hc3 := Int32.le_iff_toInt_le.mp hc3
      exact hK _  (fun hq => by first | (exfalso; omega) | rw [hcut ⟨by omega, by omega⟩])
    · skip
      have q3 := i32_lo (I t 2)
      have hc4 := mt Int32.le_iff_toInt_le.mpr hc4
      refine sfX6_cut ht hts hW  (fun v2  hp5 => ?_)
      have hcut := hp5
      refine ⟨vp_of (by omega) (by omega), ?_⟩
      exact hK _  (fun hq => by first | (exfalso; omega) | rw [hcut ⟨by omega, by omega⟩])
theorem sfX0_worth {G : jdG} {n : Nat} {Z : jdL} {J : jdJ} {K : Int32 → jdI → jdJ → Prop}  {I : jdI} {t : Nat} {x2 : Int32} {x3 : Int32} (ht : Z.1 t = some (0 + 10, 0)) (hu1 : zTies Z 13)  (hW : WX I)  (hK : ∀ (v : Int32) (I2 : jdI), WX I2 → Fr (fun a k => 13 ≤ a ∧ a ≤ 19) I I2 → K v I2 J) : Cl G mX0_worth (n + 2) 0 0 [.ref (gb G + t), .ref (gb G + 13), .int x2, .int x3] Z I J (qi Z K) := by
  refine eX0_worth ht hu1 ?_
  have hwI := WX_f hW
  refine sfX8_mostFrom hu1 hW  (fun v2 I1 hWI1 hFI1 => ?_)
  have hwI1 := WX_f hWI1
  exact hK _ _ hWI1 (Fr.tr Fr.rf hFI1 (by intro a k h; omega))
theorem sfX1_worth {G : jdG} {n : Nat} {Z : jdL} {J : jdJ} {K : Int32 → jdI → jdJ → Prop}  {I : jdI} {t : Nat} {x2 : Int32} {x3 : Int32} (ht : Z.1 t = some (1 + 10, 0)) (hu1 : zTies Z 13)  (hW : WX I)  (hK : ∀ (v : Int32) (I2 : jdI), WX I2 → Fr (fun a k => 13 ≤ a ∧ a ≤ 19) I I2 → K v I2 J) : Cl G mX1_worth (n + 1) 0 0 [.ref (gb G + t), .ref (gb G + 13), .int x2, .int x3] Z I J (qi Z K) := by
  refine eX1_worth ht hu1 ?_
  have hwI := WX_f hW
  refine sfX8_costTogether hu1 hW  (fun v2  => ?_)
  exact hK _ _ hW Fr.rf
theorem sfX7_worth {G : jdG} {n : Nat} {Z : jdL} {J : jdJ} {K : Int32 → jdI → jdJ → Prop}  {I : jdI} {t : Nat} {x2 : Int32} {x3 : Int32} (ht : Z.1 t = some (6 + 10, 0)) (hu1 : zTies Z 13)  (hW : WX I)  (hK : ∀ (v : Int32) (I2 : jdI), WX I2 → Fr (fun a k => 13 ≤ a ∧ a ≤ 19) I I2 → K v I2 J) : Cl G mX7_worth (n + 2) 0 0 [.ref (gb G + t), .ref (gb G + 13), .int x2, .int x3] Z I J (qi Z K) := by
  refine eX7_worth ht hu1 ?_
  have hwI := WX_f hW
  refine sfX8_strangersTogether hu1 hW  (fun v2  => ?_)
  exact hK _ _ hW Fr.rf
theorem sf_vworth {G : jdG} {n : Nat} {Z : jdL} {J : jdJ} {K : Int32 → jdI → jdJ → Prop} {I : jdI} {w : Nat} {x1 x2 : Int32} (hT : zTies Z 13) (hW : WX I) (hK : ∀ (v : Int32) (I2 : jdI), WX I2 → Fr (fun a _ => 13 ≤ a ∧ a ≤ 19) I I2 → K v I2 J) : ∀ q ∈ a_worth, Z.1 w = some (q.1 + 10, 0) → Cl G q.2 (n + 2) 0 0 [.ref (gb G + w), .ref (gb G + 13), .int x1, .int x2] Z I J (qi Z K) := by
  intro q hq hz
  simp only [a_worth, List.mem_cons, List.not_mem_nil, or_false] at hq
  rcases hq with rfl | rfl | rfl
  · exact sfX0_worth (n := n) hz hT hW hK
  · exact sfX1_worth (n := n + 1) hz hT hW hK
  · exact sfX7_worth (n := n) hz hT hW hK
theorem lX1_pick_9 {G : jdG} {n : Nat} {Z : jdL} {J : jdJ} {rc rs : Nat} {K : Int32 → jdI → jdJ → Prop}  {I0 : jdI} {t : Nat} {x2 : Int32} {x3 : Int32} (ht : zCho Z t) (hu1 : zTies Z 13)   (hK : ∀ (v : Int32) (I2 : jdI), WX I2 → Fr (fun a k => 13 ≤ a ∧ a ≤ 19) I0 I2 → K v I2 J) : ∀ m : Nat, ∀ (I : jdI) (x4 : Int32) (x5 : Int32) (x6 : Int32), WX I → Fr (fun a k => 13 ≤ a ∧ a ≤ 19) I0 I → (0 ≤ x6.toInt ∧ x6.toInt ≤ 70) → (70) - x6.toInt < (m : Int) → Jd G mX1_pick (jdFm G (qi Z K)) (n + 3) rc rs 9 [(0, .ref (gb G + t)), (1, .ref (gb G + 13)), (2, .int x2), (3, .int x3), (4, .int x4), (5, .int x5), (6, .int x6)] [] Z I J := by
  intro m
  induction m with
  | zero =>
    intro I x4 x5 x6 hW hF hx6 hm
    have hwI := WX_f hW
    omega
  | succ m ih =>
    intro I x4 x5 x6 hW hF hx6 hm
    have hwI := WX_f hW
    refine rX1_pick_9 ht hu1 ?_
    refine ⟨fun hc1 => ?_, fun hc2 => ?_⟩
    · skip
      have q1 := i32_lo (I 13 8)
      have q2 := i32_lo x6
      have hc1 := Int32.le_iff_toInt_le.mp hc1
      exact hK _ _ hW hF
    · skip
      have q1 := i32_lo (I 13 8)
      have q2 := i32_lo x6
      have hc2 := mt Int32.le_iff_toInt_le.mpr hc2
      refine ⟨vp_of (by omega) (by omega), ?_⟩
      refine ⟨fun hc3 => ?_, fun hc4 => ?_⟩
      · skip
        have q3 := i32_lo x2
        have hc3 : ¬ (((I (13 + 3) (Int32.toNatClampNeg x6)) &&& x2)).toInt = ((I (13 + 3) (Int32.toNatClampNeg x6))).toInt := fun z => hc3 (Int32.toInt_inj.mp z)
        have q4 : (1 : Int32).toInt = 1 := rfl
        have q5 := i32_add x6 1 (by omega) (by omega)
        exact ih _ x4 x5 (x6 + 1) hW hF (by omega) (by omega)
      · skip
        have q3 := i32_lo x2
        have hc4 := Int32.toInt_inj.mpr hc4
        refine sf_vworth hu1 hW (fun v3 I2 hWI2 hFI2 => ?_)
        have hwI2 := WX_f hWI2
        refine ⟨fun hc6 => ?_, fun hc7 => ?_⟩
        · skip
          have q4 := i32_lo x4
          have q5 : (0 : Int32).toInt = 0 := rfl
          have hc6 := Int32.toInt_inj.mpr hc6
          have q6 : (1 : Int32).toInt = 1 := rfl
          have q7 := i32_add x6 1 (by omega) (by omega)
          exact ih _ (I (13 + 3) (Int32.toNatClampNeg x6)) v3 (x6 + 1) hWI2 (Fr.tr hF hFI2 (by intro a k h; omega)) (by omega) (by omega)
        · skip
          have q4 := i32_lo x4
          have q5 : (0 : Int32).toInt = 0 := rfl
          have hc7 : ¬ (x4).toInt = (0 : Int32).toInt := fun z => hc7 (Int32.toInt_inj.mp z)
          refine ⟨fun hc8 => ?_, fun hc9 => ?_⟩
          · skip
            have q6 := i32_lo v3
            have q7 := i32_lo x5
            have hc8 := Int32.le_iff_toInt_le.mp hc8
            have q8 : (1 : Int32).toInt = 1 := rfl
            have q9 := i32_add x6 1 (by omega) (by omega)
            exact ih _ x4 x5 (x6 + 1) hWI2 (Fr.tr hF hFI2 (by intro a k h; omega)) (by omega) (by omega)
          · skip
            have q6 := i32_lo v3
            have q7 := i32_lo x5
            have hc9 := mt Int32.le_iff_toInt_le.mpr hc9
            have q8 : (1 : Int32).toInt = 1 := rfl
            have q9 := i32_add x6 1 (by omega) (by omega)
            exact ih _ (I (13 + 3) (Int32.toNatClampNeg x6)) v3 (x6 + 1) hWI2 (Fr.tr hF hFI2 (by intro a k h; omega)) (by omega) (by omega)
theorem sfX1_pick {G : jdG} {n : Nat} {Z : jdL} {J : jdJ} {K : Int32 → jdI → jdJ → Prop}  {I : jdI} {t : Nat} {x2 : Int32} {x3 : Int32} (ht : zCho Z t) (hu1 : zTies Z 13)  (hW : WX I)  (hK : ∀ (v : Int32) (I2 : jdI), WX I2 → Fr (fun a k => 13 ≤ a ∧ a ≤ 19) I I2 → K v I2 J) : Cl G mX1_pick (n + 3) 0 0 [.ref (gb G + t), .ref (gb G + 13), .int x2, .int x3] Z I J (qi Z K) := by
  refine eX1_pick ht hu1 ?_
  have hwI := WX_f hW
  have q1 : (0 : Int32).toInt = 0 := rfl
  exact lX1_pick_9 ht hu1   hK  (((70) - (0 : Int32).toInt).toNat + 1) _ 0 0 0 hW Fr.rf (by omega) (by omega)
theorem sfX4_pick {G : jdG} {n : Nat} {Z : jdL} {J : jdJ} {K : Int32 → jdI → jdJ → Prop}  {I : jdI} {t : Nat} {x2 : Int32} {x3 : Int32} (ht : Z.1 t = some (3 + 10, 0)) (hu1 : zTies Z 13)  (hW : WX I)  (hK : ∀ (v : Int32) (I2 : jdI), WX I2 → Fr (fun a k => 13 ≤ a ∧ a ≤ 19) I I2 → K v I2 J) : Cl G mX4_pick (n + 1) 0 0 [.ref (gb G + t), .ref (gb G + 13), .int x2, .int x3] Z I J (qi Z K) := by
  refine eX4_pick ht hu1 ?_
  have hwI := WX_f hW
  refine sfX8_firstIn hu1 hW  (fun v2  => ?_)
  exact hK _ _ hW Fr.rf
theorem sfX10_pick {G : jdG} {n : Nat} {Z : jdL} {J : jdJ} {K : Int32 → jdI → jdJ → Prop}  {I : jdI} {t : Nat} {x2 : Int32} {x3 : Int32} (ht : Z.1 t = some (9 + 10, 0)) (hu1 : zTies Z 13)  (hW : WX I)  (hK : ∀ (v : Int32) (I2 : jdI), WX I2 → Fr (fun a k => 13 ≤ a ∧ a ≤ 19) I I2 → K v I2 J) : Cl G mX10_pick (n + 1) 0 0 [.ref (gb G + t), .ref (gb G + 13), .int x2, .int x3] Z I J (qi Z K) := by
  refine eX10_pick ht hu1 ?_
  have hwI := WX_f hW
  refine ⟨fun hc1 => ?_, fun hc2 => ?_⟩
  · skip
    have q1 := i32_lo x3
    have q2 : (0 : Int32).toInt = 0 := rfl
    have hc1 := Int32.toInt_inj.mpr hc1
    refine sfX8_firstIn hu1 hW  (fun v2  => ?_)
    exact hK _ _ hW Fr.rf
  · skip
    have q1 := i32_lo x3
    have q2 : (0 : Int32).toInt = 0 := rfl
    have hc2 : ¬ (x3).toInt = (0 : Int32).toInt := fun z => hc2 (Int32.toInt_inj.mp z)
    refine sfJ6_bitCount_0f7a4  hW  (fun v4  hp4 => ?_)
    refine sfX2_number ⟨9, by omega, ht⟩ hW  (fun v6  => ?_)
    refine ⟨fun hc6 => ?_, fun hc7 => ?_⟩
    · skip
      have q3 := i32_lo v4
      have q4 := i32_lo v6
      have hc6 := Int32.lt_iff_toInt_lt.mp hc6
      exact hK _ _ hW Fr.rf
    · skip
      have q3 := i32_lo v4
      have q4 := i32_lo v6
      have hc7 := mt Int32.lt_iff_toInt_lt.mpr hc7
      refine sfX8_firstIn hu1 hW  (fun v8  => ?_)
      exact hK _ _ hW Fr.rf
theorem sf_vpick {G : jdG} {n : Nat} {Z : jdL} {J : jdJ} {K : Int32 → jdI → jdJ → Prop} {I : jdI} {w : Nat} {x1 x2 : Int32} (hT : zTies Z 13) (hW : WX I) (hK : ∀ (v : Int32) (I2 : jdI), WX I2 → Fr (fun a _ => 13 ≤ a ∧ a ≤ 19) I I2 → K v I2 J) : ∀ q ∈ a_pick, Z.1 w = some (q.1 + 10, 0) → Cl G q.2 (n + 3) 0 0 [.ref (gb G + w), .ref (gb G + 13), .int x1, .int x2] Z I J (qi Z K) := by
  intro q hq hz
  simp only [a_pick, List.mem_cons, List.not_mem_nil, or_false] at hq
  rcases hq with rfl | rfl | rfl | rfl | rfl
  · exact sfX1_pick (n := n) ⟨0, by omega, hz⟩ hT hW hK
  · exact sfX1_pick (n := n) ⟨1, by omega, hz⟩ hT hW hK
  · exact sfX4_pick (n := n + 2) hz hT hW hK
  · exact sfX1_pick (n := n) ⟨6, by omega, hz⟩ hT hW hK
  · exact sfX10_pick (n := n + 2) hz hT hW hK
theorem sf_vkind {G : jdG} {n : Nat} {Z : jdL} {J : jdJ} {K : Int32 → jdI → jdJ → Prop} {I : jdI} {w : Nat} {sA sV : Nat → Nat} (_hG : gOK G sA sV) (_hW : WX I) (hK : ∀ v : Int32, v.toInt = ckI (Z.1 w) → K v I J) : ∀ q ∈ a_kind, Z.1 w = some (q.1 + 10, 0) → Cl G q.2 n 0 0 [.ref (gb G + w)] Z I J (qi Z K) := by
  intro q hq hz
  simp only [a_kind, List.mem_cons, List.not_mem_nil, or_false] at hq
  rcases hq with rfl | rfl | rfl | rfl | rfl
  · exact eX0_kind hz (hK _ (by rw [hz]; rfl))
  · exact eX1_kind hz (hK _ (by rw [hz]; rfl))
  · exact eX4_kind hz (hK _ (by rw [hz]; rfl))
  · exact eX7_kind hz (hK _ (by rw [hz]; rfl))
  · exact eX10_kind hz (hK _ (by rw [hz]; rfl))
theorem sf_visOf {G : jdG} {n : Nat} {Z : jdL} {J : jdJ} {K : Int32 → jdI → jdJ → Prop} {I : jdI} {w : Nat} {x1 : Int32} {sA sV : Nat → Nat} (hG : gOK G sA sV) (_hW : WX I) (hK : ∀ v : Int32, K v I J) : ∀ q ∈ a_isOf, Z.1 w = some (q.1 + 10, 0) → Cl G q.2 (n + 1) 0 0 [.ref (gb G + w), .int x1] Z I J (qi Z K) := by
  intro q hq hz
  simp only [a_isOf, List.mem_cons, List.not_mem_nil, or_false] at hq
  rcases hq with rfl | rfl | rfl | rfl | rfl
  · exact v_isOf_0 hG hz (hK _)
  · exact v_isOf_1 hG hz (hK _)
  · exact v_isOf_3 hG hz (hK _)
  · exact v_isOf_6 hG hz (hK _)
  · exact v_isOf_9 hG hz (hK _)
theorem sf_vnumber {G : jdG} {n : Nat} {Z : jdL} {J : jdJ} {K : Int32 → jdI → jdJ → Prop} {I : jdI} {w : Nat}  (hm : zMan Z w) (hW : WX I) (hK : ∀ v : Int32, K v I J) : ∀ q ∈ a_number, Z.1 w = some (q.1 + 10, 0) → Cl G q.2 n 0 0 [.ref (gb G + w)] Z I J (qi Z K) := by
  intro q hq hz
  simp only [a_number, List.mem_cons, List.not_mem_nil, or_false] at hq
  rcases hq with rfl | rfl | rfl | rfl | rfl
  · exact sfX2_number hm hW hK
  · exact sfX2_number hm hW hK
  · exact sfX2_number hm hW hK
  · exact sfX2_number hm hW hK
  · exact sfX2_number hm hW hK
theorem lX3_sendAll_3 {G : jdG} {n : Nat} {Z : jdL} {J : jdJ} {rc rs : Nat} {K : jdI → jdJ → Prop}  {I0 : jdI} {u2 : Nat} {x3 : Int32} {x4 : Int32} (ht : zDay Z 20) (hu1 : zTies Z 13) (hu2m : zMan Z u2)  (hK : ∀ (I2 : jdI), WX I2 → Fr (fun a k => 13 ≤ a ∧ a ≤ 24) I0 I2 → K I2 J) : ∀ m : Nat, ∀ (I : jdI) (x5 : Int32), WX I → Fr (fun a k => 13 ≤ a ∧ a ≤ 24) I0 I → (0 ≤ x5.toInt ∧ x5.toInt ≤ 7) → (7) - x5.toInt < (m : Int) → Jd G mX3_sendAll (jdFm G (qv Z K)) (n + 4) rc rs 3 [(0, .ref (gb G + 20)), (1, .ref (gb G + 13)), (2, .ref (gb G + u2)), (3, .int x3), (4, .int x4), (5, .int x5)] [] Z I J := by
  intro m
  induction m with
  | zero =>
    intro I x5 hW hF hx5 hm
    have hwI := WX_f hW
    omega
  | succ m ih =>
    intro I x5 hW hF hx5 hm
    have hwI := WX_f hW
    refine rX3_sendAll_3 ht hu1 ?_
    refine ⟨fun hc1 => ?_, fun hc2 => ?_⟩
    · skip
      have q1 : (7 : Int32).toInt = 7 := rfl
      have q2 := i32_lo x5
      have hc1 := Int32.le_iff_toInt_le.mp hc1
      exact hK _ hW hF
    · skip
      have q1 : (7 : Int32).toInt = 7 := rfl
      have q2 := i32_lo x5
      have hc2 := mt Int32.le_iff_toInt_le.mpr hc2
      refine ⟨fun hc3 => ?_, fun hc4 => ?_⟩
      · skip
        have q3 := i32_lo (I 20 4)
        have hc3 := Int32.le_iff_toInt_le.mp hc3
        exact hK _ hW hF
      · skip
        have q3 := i32_lo (I 20 4)
        have hc4 := mt Int32.le_iff_toInt_le.mpr hc4
        refine ⟨hu2m, ?_⟩
        refine sf_vpick hu1 hW (fun v2 I1 hWI1 hFI1 => ?_)
        have hwI1 := WX_f hWI1
        first | have hk6 : (I1 20 4).toInt = (I 20 4).toInt := (by rw [hFI1 20 4 (by omega)]) | skip
        refine ⟨fun hc7 => ?_, fun hc8 => ?_⟩
        · skip
          have q4 := i32_lo v2
          have q5 : (0 : Int32).toInt = 0 := rfl
          have hc7 : ¬ (v2).toInt = (0 : Int32).toInt := fun z => hc7 (Int32.toInt_inj.mp z)
          have q6 := i32_lo (I1 20 4)
          refine ⟨vp_of (by omega) (by omega), ?_⟩
          refine ⟨vp_of (by omega) (by omega), ?_⟩
          have q7 : (1 : Int32).toInt = 1 := rfl
          have q8 := i32_add x5 1 (by omega) (by omega)
          have q9 := i32_add (I1 20 4) 1 (by omega) (by omega)
          exact ih _ (x5 + 1) (WX_uI (WX_uI (WX_uI (WX_uI hWI1 (by first | exact okXo (by decide) | (unfold okX; refine ⟨?_, ?_, ?_, ?_, ?_, ?_, ?_, ?_, ?_, ?_⟩ <;> intro h <;> omega))) (by first | exact okXo (by decide) | (unfold okX; refine ⟨?_, ?_, ?_, ?_, ?_, ?_, ?_, ?_, ?_, ?_⟩ <;> intro h <;> omega))) (by first | exact okXo (by decide) | (unfold okX; refine ⟨?_, ?_, ?_, ?_, ?_, ?_, ?_, ?_, ?_, ?_⟩ <;> intro h <;> omega))) (by first | exact okXo (by decide) | (unfold okX; refine ⟨?_, ?_, ?_, ?_, ?_, ?_, ?_, ?_, ?_, ?_⟩ <;> intro h <;> omega))) (Fr_uI (Fr_uI (Fr_uI (Fr_uI (Fr.tr hF hFI1 (by intro a k h; omega)) (by omega)) (by omega)) (by omega)) (by omega)) (by omega) (by omega)
        · skip
          have q4 := i32_lo v2
          have q5 : (0 : Int32).toInt = 0 := rfl
          have hc8 := Int32.toInt_inj.mpr hc8
          exact hK _ hWI1 (Fr.tr hF hFI1 (by intro a k h; omega))
theorem sfX3_sendAll {G : jdG} {n : Nat} {Z : jdL} {J : jdJ} {K : jdI → jdJ → Prop}  {I : jdI} {u2 : Nat} {x3 : Int32} {x4 : Int32} (ht : zDay Z 20) (hu1 : zTies Z 13) (hu2m : zMan Z u2) (hW : WX I)  (hK : ∀ (I2 : jdI), WX I2 → Fr (fun a k => 13 ≤ a ∧ a ≤ 24) I I2 → K I2 J) : Cl G mX3_sendAll (n + 4) 0 0 [.ref (gb G + 20), .ref (gb G + 13), .ref (gb G + u2), .int x3, .int x4] Z I J (qv Z K) := by
  refine eX3_sendAll ht hu1 ?_
  have hwI := WX_f hW
  have q1 : (0 : Int32).toInt = 0 := rfl
  exact lX3_sendAll_3 ht hu1 hu2m  hK  (((7) - (0 : Int32).toInt).toNat + 1) _ 0 hW Fr.rf (by omega) (by omega)
theorem lX3_pass_29 {G : jdG} {n : Nat} {Z : jdL} {J : jdJ} {rc rs : Nat} {K : jdI → jdJ → Prop}  {I0 : jdI} {mo19 : Nat} {u1 : Nat} {u3 : Nat} (ht : zDay Z 20) (hu1 : zTown Z u1) (hu2 : zTies Z 13) (hu1s : (u1 = 1 ∨ u1 = 5 ∨ u1 = 9)) (hu3m : zMan Z u3)  (hK : ∀ (I2 : jdI), WX I2 → Fr (fun a k => 13 ≤ a ∧ a ≤ 24) I0 I2 → K I2 J) (hO19 : ∀ (I : jdI) (x4 : Int32) (x5 : Int32), WX I → Fr (fun a k => 13 ≤ a ∧ a ≤ 24) I0 I → (0 ≤ x5.toInt ∧ x5.toInt ≤ 24) → (24) - x5.toInt < (mo19 : Int) → Jd G mX3_pass (jdFm G (qv Z K)) (n + 5) rc rs 19 [(0, .ref (gb G + 20)), (1, .ref (gb G + u1)), (2, .ref (gb G + 13)), (3, .ref (gb G + u3)), (4, .int x4), (5, .int x5)] [] Z I J) : ∀ m : Nat, ∀ (I : jdI) (x4 : Int32) (x5 : Int32) (x6 : Int32), WX I → Fr (fun a k => 13 ≤ a ∧ a ≤ 24) I0 I → (0 ≤ x6.toInt ∧ x6.toInt ≤ 7) → (0 ≤ x5.toInt ∧ x5.toInt < 24) → (24) - x5.toInt ≤ (mo19 : Int) → (7) - x6.toInt < (m : Int) → Jd G mX3_pass (jdFm G (qv Z K)) (n + 5) rc rs 29 [(0, .ref (gb G + 20)), (1, .ref (gb G + u1)), (2, .ref (gb G + 13)), (3, .ref (gb G + u3)), (4, .int x4), (5, .int x5), (6, .int x6)] [] Z I J := by
  intro m
  induction m with
  | zero =>
    intro I x4 x5 x6 hW hF hx6 hx5 hmo19 hm
    have hwI := WX_f hW
    have hpu1I := WX_town hW hu1s
    omega
  | succ m ih =>
    intro I x4 x5 x6 hW hF hx6 hx5 hmo19 hm
    have hwI := WX_f hW
    have hpu1I := WX_town hW hu1s
    refine rX3_pass_29 ht hu1 hu2 ?_
    refine ⟨fun hc1 => ?_, fun hc2 => ?_⟩
    · skip
      have q1 := i32_lo (I u1 3)
      have q2 := i32_lo x6
      have hc1 := Int32.le_iff_toInt_le.mp hc1
      have q3 := i32_lo x5
      have q4 : (1 : Int32).toInt = 1 := rfl
      have q5 := i32_add x5 1 (by omega) (by omega)
      exact hO19 _ x4 (x5 + 1) hW hF (by omega) (by omega)
    · skip
      have q1 := i32_lo (I u1 3)
      have q2 := i32_lo x6
      have hc2 := mt Int32.le_iff_toInt_le.mpr hc2
      refine ⟨vp_of (by omega) (by omega), ?_⟩
      refine ⟨fun hc3 => ?_, fun hc4 => ?_⟩
      · skip
        have q3 := i32_lo x5
        have hc3 : ¬ ((I (u1 + 1) (Int32.toNatClampNeg x6))).toInt = (x5).toInt := fun z => hc3 (Int32.toInt_inj.mp z)
        have q4 : (1 : Int32).toInt = 1 := rfl
        have q5 := i32_add x6 1 (by omega) (by omega)
        exact ih _ x4 x5 (x6 + 1) hW hF (by omega) (by omega) (by omega) (by omega)
      · skip
        have q3 := i32_lo x5
        have hc4 := Int32.toInt_inj.mpr hc4
        refine sfX3_sendAll ht hu2 hu3m (WX_uI hW (by first | exact okXo (by decide) | (unfold okX; refine ⟨?_, ?_, ?_, ?_, ?_, ?_, ?_, ?_, ?_, ?_⟩ <;> intro h <;> omega)))  (fun I2 hWI2 hFI2 => ?_)
        have hwI2 := WX_f hWI2
        have hpu1I2 := WX_town hWI2 hu1s
        have q4 : (1 : Int32).toInt = 1 := rfl
        have q5 := i32_add x6 1 (by omega) (by omega)
        exact ih _ (x4 + (-1)) x5 (x6 + 1) hWI2 (Fr.tr (Fr_uI hF (by omega)) hFI2 (by intro a k h; omega)) (by omega) (by omega) (by omega) (by omega)
theorem lX3_pass_19 {G : jdG} {n : Nat} {Z : jdL} {J : jdJ} {rc rs : Nat} {K : jdI → jdJ → Prop}  {I0 : jdI} {u1 : Nat} {u3 : Nat} (ht : zDay Z 20) (hu1 : zTown Z u1) (hu2 : zTies Z 13) (hu1s : (u1 = 1 ∨ u1 = 5 ∨ u1 = 9)) (hu3m : zMan Z u3)  (hK : ∀ (I2 : jdI), WX I2 → Fr (fun a k => 13 ≤ a ∧ a ≤ 24) I0 I2 → K I2 J) : ∀ m : Nat, ∀ (I : jdI) (x4 : Int32) (x5 : Int32), WX I → Fr (fun a k => 13 ≤ a ∧ a ≤ 24) I0 I → (0 ≤ x5.toInt ∧ x5.toInt ≤ 24) → (24) - x5.toInt < (m : Int) → Jd G mX3_pass (jdFm G (qv Z K)) (n + 5) rc rs 19 [(0, .ref (gb G + 20)), (1, .ref (gb G + u1)), (2, .ref (gb G + 13)), (3, .ref (gb G + u3)), (4, .int x4), (5, .int x5)] [] Z I J := by
  intro m
  induction m with
  | zero =>
    intro I x4 x5 hW hF hx5 hm
    have hwI := WX_f hW
    have hpu1I := WX_town hW hu1s
    omega
  | succ m ih =>
    intro I x4 x5 hW hF hx5 hm
    have hwI := WX_f hW
    have hpu1I := WX_town hW hu1s
    refine rX3_pass_19 ht hu1 hu2 ?_
    refine ⟨fun hc1 => ?_, fun hc2 => ?_⟩
    · skip
      have q1 : (24 : Int32).toInt = 24 := rfl
      have q2 := i32_lo x5
      have hc1 := Int32.le_iff_toInt_le.mp hc1
      exact hK _ hW hF
    · skip
      have q1 : (24 : Int32).toInt = 24 := rfl
      have q2 := i32_lo x5
      have hc2 := mt Int32.le_iff_toInt_le.mpr hc2
      have q3 : (0 : Int32).toInt = 0 := rfl
      exact lX3_pass_29 ht hu1 hu2 hu1s hu3m  hK ih (((7) - (0 : Int32).toInt).toNat + 1) _ x4 x5 0 hW hF (by omega) (by omega) (by omega) (by omega)
theorem sfX3_pass {G : jdG} {n : Nat} {Z : jdL} {J : jdJ} {K : jdI → jdJ → Prop}  {I : jdI} {u1 : Nat} {u3 : Nat} (ht : zDay Z 20) (hu1 : zTown Z u1) (hu2 : zTies Z 13) (hu1s : (u1 = 1 ∨ u1 = 5 ∨ u1 = 9)) (hu3m : zMan Z u3) (hW : WX I)  (hK : ∀ (I2 : jdI), WX I2 → Fr (fun a k => 13 ≤ a ∧ a ≤ 24) I I2 → K I2 J) : Cl G mX3_pass (n + 5) 0 0 [.ref (gb G + 20), .ref (gb G + u1), .ref (gb G + 13), .ref (gb G + u3)] Z I J (qv Z K) := by
  refine eX3_pass ht hu1 hu2 ?_
  have hwI := WX_f hW
  have hpu1I := WX_town hW hu1s
  have q1 : (0 : Int32).toInt = 0 := rfl
  exact lX3_pass_19 ht hu1 hu2 hu1s hu3m  hK  (((24) - (0 : Int32).toInt).toNat + 1) _ ((uI (uI I 20 4 0) 20 5 0) u1 3) 0 (WX_uI (WX_uI hW (by first | exact okXo (by decide) | (unfold okX; refine ⟨?_, ?_, ?_, ?_, ?_, ?_, ?_, ?_, ?_, ?_⟩ <;> intro h <;> omega))) (by first | exact okXo (by decide) | (unfold okX; refine ⟨?_, ?_, ?_, ?_, ?_, ?_, ?_, ?_, ?_, ?_⟩ <;> intro h <;> omega))) (Fr_uI (Fr_uI Fr.rf (by omega)) (by omega)) (by omega) (by omega)
theorem sfX3_coachAt {G : jdG} {n : Nat} {Z : jdL} {J : jdJ} {K : Int32 → jdI → jdJ → Prop}  {I : jdI} {x1 : Int32} (ht : zDay Z 20)  (hW : WX I)  (hK : ∀ (v : Int32), K v I J) : Cl G mX3_coachAt n 0 0 [.ref (gb G + 20), .int x1] Z I J (qi Z K) := by
  refine eX3_coachAt ht ?_
  have hwI := WX_f hW
  refine ⟨fun hc1 => ?_, fun hc2 => ?_⟩
  · skip
    have q1 := i32_lo x1
    have q2 : (0 : Int32).toInt = 0 := rfl
    have hc1 := Int32.lt_iff_toInt_lt.mp hc1
    exact hK _ 
  · skip
    have q1 := i32_lo x1
    have q2 : (0 : Int32).toInt = 0 := rfl
    have hc2 := mt Int32.lt_iff_toInt_lt.mpr hc2
    refine ⟨fun hc3 => ?_, fun hc4 => ?_⟩
    · skip
      have q3 := i32_lo (I 20 4)
      have hc3 := Int32.le_iff_toInt_le.mp hc3
      exact hK _ 
    · skip
      have q3 := i32_lo (I 20 4)
      have hc4 := mt Int32.le_iff_toInt_le.mpr hc4
      refine ⟨vp_of (by omega) (by omega), ?_⟩
      exact hK _ 
theorem lX3_waitingOf_6 {G : jdG} {n : Nat} {Z : jdL} {J : jdJ} {rc rs : Nat} {K : Int32 → jdI → jdJ → Prop}  {I : jdI} {u1 : Nat} {x2 : Int32} (ht : zDay Z 20) (hu1 : zTown Z u1) (hu1s : (u1 = 1 ∨ u1 = 5 ∨ u1 = 9)) (hW : WX I) (hx2 : 0 ≤ x2.toInt ∧ x2.toInt ≤ 6) (hK : ∀ (v : Int32), K v I J) : ∀ m : Nat, ∀ (x3 : Int32) (x4 : Int32), (0 ≤ x4.toInt ∧ x4.toInt ≤ 7) → (0 ≤ x2.toInt ∧ x2.toInt ≤ 6) → (7) - x4.toInt < (m : Int) → Jd G mX3_waitingOf (jdFm G (qi Z K)) n rc rs 6 [(0, .ref (gb G + 20)), (1, .ref (gb G + u1)), (2, .int x2), (3, .int x3), (4, .int x4)] [] Z I J := by
  intro m
  induction m with
  | zero =>
    intro x3 x4 hx4 hx2 hm
    have hwI := WX_f hW
    have hpu1I := WX_town hW hu1s
    omega
  | succ m ih =>
    intro x3 x4 hx4 hx2 hm
    have hwI := WX_f hW
    have hpu1I := WX_town hW hu1s
    refine rX3_waitingOf_6 ht hu1 ?_
    refine ⟨fun hc1 => ?_, fun hc2 => ?_⟩
    · skip
      have q1 := i32_lo (I 20 4)
      have q2 := i32_lo x4
      have hc1 := Int32.le_iff_toInt_le.mp hc1
      have q3 := i32_lo x2
      refine ⟨vp_of (by omega) (by omega), ?_⟩
      refine ⟨vp_of (by omega) (by omega), ?_⟩
      exact hK _ 
    · skip
      have q1 := i32_lo (I 20 4)
      have q2 := i32_lo x4
      have hc2 := mt Int32.le_iff_toInt_le.mpr hc2
      refine ⟨vp_of (by omega) (by omega), ?_⟩
      refine ⟨fun hc3 => ?_, fun hc4 => ?_⟩
      · skip
        have q3 := i32_lo x2
        have q4 : (31 : Int32).toInt = 31 := rfl
        have q5 : (1 : Int32).toInt = 1 := rfl
        have q6 : (0 : Int32).toInt = 0 := rfl
        have hc3 := Int32.toInt_inj.mpr hc3
        have q7 := i32_add x4 1 (by omega) (by omega)
        exact ih x3 (x4 + 1) (by omega) (by omega) (by omega)
      · skip
        have q3 := i32_lo x2
        have q4 : (31 : Int32).toInt = 31 := rfl
        have q5 : (1 : Int32).toInt = 1 := rfl
        have q6 : (0 : Int32).toInt = 0 := rfl
        have hc4 : ¬ ((((I (20 + 1) (Int32.toNatClampNeg x4)) >>> (x2 &&& 31)) &&& 1)).toInt = (0 : Int32).toInt := fun z => hc4 (Int32.toInt_inj.mp z)
        refine ⟨vp_of (by omega) (by omega), ?_⟩
        have q7 := i32_add x4 1 (by omega) (by omega)
        exact ih (I (20 + 2) (Int32.toNatClampNeg x4)) (x4 + 1) (by omega) (by omega) (by omega)
theorem sfX3_waitingOf {G : jdG} {n : Nat} {Z : jdL} {J : jdJ} {K : Int32 → jdI → jdJ → Prop}  {I : jdI} {u1 : Nat} {x2 : Int32} (ht : zDay Z 20) (hu1 : zTown Z u1) (hu1s : (u1 = 1 ∨ u1 = 5 ∨ u1 = 9)) (hW : WX I) (hx2 : 0 ≤ x2.toInt ∧ x2.toInt ≤ 6) (hK : ∀ (v : Int32), K v I J) : Cl G mX3_waitingOf n 0 0 [.ref (gb G + 20), .ref (gb G + u1), .int x2] Z I J (qi Z K) := by
  refine eX3_waitingOf ht hu1 ?_
  have hwI := WX_f hW
  have hpu1I := WX_town hW hu1s
  have q1 : (0 : Int32).toInt = 0 := rfl
  exact lX3_waitingOf_6 ht hu1 hu1s hW hx2 hK  (((7) - (0 : Int32).toInt).toNat + 1) 24 0 (by omega) (by omega) (by omega)
theorem lX3_waitingOfAll_4 {G : jdG} {n : Nat} {Z : jdL} {J : jdJ} {rc rs : Nat} {K : Int32 → jdI → jdJ → Prop}  {I : jdI} {u1 : Nat} (ht : zDay Z 20) (hu1 : zTown Z u1) (hu1s : (u1 = 1 ∨ u1 = 5 ∨ u1 = 9)) (hW : WX I)  (hK : ∀ (v : Int32), K v I J) : ∀ m : Nat, ∀ (x2 : Int32) (x3 : Int32), (0 ≤ x3.toInt ∧ x3.toInt ≤ 7) → (7) - x3.toInt < (m : Int) → Jd G mX3_waitingOfAll (jdFm G (qi Z K)) (n + 1) rc rs 4 [(0, .ref (gb G + 20)), (1, .ref (gb G + u1)), (2, .int x2), (3, .int x3)] [] Z I J := by
  intro m
  induction m with
  | zero =>
    intro x2 x3 hx3 hm
    have hwI := WX_f hW
    have hpu1I := WX_town hW hu1s
    omega
  | succ m ih =>
    intro x2 x3 hx3 hm
    have hwI := WX_f hW
    have hpu1I := WX_town hW hu1s
    refine rX3_waitingOfAll_4 ht hu1 ?_
    refine ⟨fun hc1 => ?_, fun hc2 => ?_⟩
    · skip
      have q1 := i32_lo (I u1 3)
      have q2 := i32_lo x3
      have hc1 := Int32.le_iff_toInt_le.mp hc1
      exact hK _ 
    · skip
      have q1 := i32_lo (I u1 3)
      have q2 := i32_lo x3
      have hc2 := mt Int32.le_iff_toInt_le.mpr hc2
      refine sfX3_waitingOf ht hu1 hu1s hW (by omega) (fun v2  => ?_)
      have q3 : (1 : Int32).toInt = 1 := rfl
      have q4 := i32_add x3 1 (by omega) (by omega)
      exact ih (x2 + v2) (x3 + 1) (by omega) (by omega)
theorem sfX3_waitingOfAll {G : jdG} {n : Nat} {Z : jdL} {J : jdJ} {K : Int32 → jdI → jdJ → Prop}  {I : jdI} {u1 : Nat} (ht : zDay Z 20) (hu1 : zTown Z u1) (hu1s : (u1 = 1 ∨ u1 = 5 ∨ u1 = 9)) (hW : WX I)  (hK : ∀ (v : Int32), K v I J) : Cl G mX3_waitingOfAll (n + 1) 0 0 [.ref (gb G + 20), .ref (gb G + u1)] Z I J (qi Z K) := by
  refine eX3_waitingOfAll ht hu1 ?_
  have hwI := WX_f hW
  have hpu1I := WX_town hW hu1s
  have q1 : (0 : Int32).toInt = 0 := rfl
  exact lX3_waitingOfAll_4 ht hu1 hu1s hW  hK  (((7) - (0 : Int32).toInt).toNat + 1) 0 0 (by omega) (by omega)
theorem lX3_waitingTogether_42 {G : jdG} {n : Nat} {Z : jdL} {J : jdJ} {rc rs : Nat} {K : Int32 → jdI → jdJ → Prop}  {I : jdI} {u0 : Nat} {x1 : Int32} (hu0 : zTown Z u0) (hu0s : (u0 = 1 ∨ u0 = 5 ∨ u0 = 9)) (hW : WX I)  (hK : ∀ (v : Int32), K v I J) : ∀ m : Nat, ∀ (x2 : Int32) (x3 : Int32) (x4 : Int32), (0 ≤ x4.toInt ∧ x4.toInt ≤ 7) → (7) - x4.toInt < (m : Int) → Jd G mX3_waitingTogether (jdFm G (qi Z K)) (n + 1) rc rs 42 [(0, .ref (gb G + u0)), (1, .int x1), (2, .int x2), (3, .int x3), (4, .int x4)] [] Z I J := by
  intro m
  induction m with
  | zero =>
    intro x2 x3 x4 hx4 hm
    have hwI := WX_f hW
    have hpu0I := WX_town hW hu0s
    omega
  | succ m ih =>
    intro x2 x3 x4 hx4 hm
    have hwI := WX_f hW
    have hpu0I := WX_town hW hu0s
    refine rX3_waitingTogether_42 hu0 ?_
    refine ⟨fun hc1 => ?_, fun hc2 => ?_⟩
    · skip
      have q1 := i32_lo (I u0 3)
      have q2 := i32_lo x4
      have hc1 := Int32.le_iff_toInt_le.mp hc1
      exact hK _ 
    · skip
      have q1 := i32_lo (I u0 3)
      have q2 := i32_lo x4
      have hc2 := mt Int32.le_iff_toInt_le.mpr hc2
      refine ⟨fun hc3 => ?_, fun hc4 => ?_⟩
      · skip
        have q3 := i32_lo x1
        have q4 : (31 : Int32).toInt = 31 := rfl
        have q5 : (1 : Int32).toInt = 1 := rfl
        have q6 : (0 : Int32).toInt = 0 := rfl
        have hc3 := Int32.toInt_inj.mpr hc3
        have q7 := i32_add x4 1 (by omega) (by omega)
        exact ih x2 x3 (x4 + 1) (by omega) (by omega)
      · skip
        have q3 := i32_lo x1
        have q4 : (31 : Int32).toInt = 31 := rfl
        have q5 : (1 : Int32).toInt = 1 := rfl
        have q6 : (0 : Int32).toInt = 0 := rfl
        have hc4 : ¬ (((x1 >>> (x4 &&& 31)) &&& 1)).toInt = (0 : Int32).toInt := fun z => hc4 (Int32.toInt_inj.mp z)
        refine ⟨vp_of (by omega) (by omega), ?_⟩
        refine ⟨vp_of (by omega) (by omega), ?_⟩
        have q7 := i32_add x4 1 (by omega) (by omega)
        exact ih x2 (x3 + ((I (u0 + 2) (Int32.toNatClampNeg x4)) * (x2 - (I (u0 + 1) (Int32.toNatClampNeg x4))))) (x4 + 1) (by omega) (by omega)
theorem lX3_waitingTogether_4 {G : jdG} {n : Nat} {Z : jdL} {J : jdJ} {rc rs : Nat} {K : Int32 → jdI → jdJ → Prop}  {I : jdI} {u0 : Nat} {x1 : Int32} (hu0 : zTown Z u0) (hu0s : (u0 = 1 ∨ u0 = 5 ∨ u0 = 9)) (hW : WX I)  (hK : ∀ (v : Int32), K v I J) : ∀ m : Nat, ∀ (x2 : Int32) (x3 : Int32), (0 ≤ x3.toInt ∧ x3.toInt ≤ 7) → (7) - x3.toInt < (m : Int) → Jd G mX3_waitingTogether (jdFm G (qi Z K)) (n + 1) rc rs 4 [(0, .ref (gb G + u0)), (1, .int x1), (2, .int x2), (3, .int x3)] [] Z I J := by
  intro m
  induction m with
  | zero =>
    intro x2 x3 hx3 hm
    have hwI := WX_f hW
    have hpu0I := WX_town hW hu0s
    omega
  | succ m ih =>
    intro x2 x3 hx3 hm
    have hwI := WX_f hW
    have hpu0I := WX_town hW hu0s
    refine rX3_waitingTogether_4 hu0 ?_
    refine ⟨fun hc1 => ?_, fun hc2 => ?_⟩
    · skip
      have q1 := i32_lo (I u0 3)
      have q2 := i32_lo x3
      have hc1 := Int32.le_iff_toInt_le.mp hc1
      have q3 : (0 : Int32).toInt = 0 := rfl
      exact lX3_waitingTogether_42 hu0 hu0s hW  hK  (((7) - (0 : Int32).toInt).toNat + 1) x2 0 0 (by omega) (by omega)
    · skip
      have q1 := i32_lo (I u0 3)
      have q2 := i32_lo x3
      have hc2 := mt Int32.le_iff_toInt_le.mpr hc2
      refine ⟨fun hc3 => ?_, fun hc4 => ?_⟩
      · skip
        have q3 := i32_lo x1
        have q4 : (31 : Int32).toInt = 31 := rfl
        have q5 : (1 : Int32).toInt = 1 := rfl
        have q6 : (0 : Int32).toInt = 0 := rfl
        have hc3 := Int32.toInt_inj.mpr hc3
        have q7 := i32_add x3 1 (by omega) (by omega)
        exact ih x2 (x3 + 1) (by omega) (by omega)
      · skip
        have q3 := i32_lo x1
        have q4 : (31 : Int32).toInt = 31 := rfl
        have q5 : (1 : Int32).toInt = 1 := rfl
        have q6 : (0 : Int32).toInt = 0 := rfl
        have hc4 : ¬ (((x1 >>> (x3 &&& 31)) &&& 1)).toInt = (0 : Int32).toInt := fun z => hc4 (Int32.toInt_inj.mp z)
        refine ⟨vp_of (by omega) (by omega), ?_⟩
        have q7 := i32_add x3 1 (by omega) (by omega)
        exact ih (if x2 < (I (u0 + 1) (Int32.toNatClampNeg x3)) then (I (u0 + 1) (Int32.toNatClampNeg x3)) else x2) (x3 + 1) (by omega) (by omega)
theorem sfX3_waitingTogether {G : jdG} {n : Nat} {Z : jdL} {J : jdJ} {K : Int32 → jdI → jdJ → Prop}  {I : jdI} {u0 : Nat} {x1 : Int32} (hu0 : zTown Z u0) (hu0s : (u0 = 1 ∨ u0 = 5 ∨ u0 = 9)) (hW : WX I)  (hK : ∀ (v : Int32), K v I J) : Cl G mX3_waitingTogether (n + 1) 0 0 [.ref (gb G + u0), .int x1] Z I J (qi Z K) := by
  refine eX3_waitingTogether hu0 ?_
  have hwI := WX_f hW
  have hpu0I := WX_town hW hu0s
  have q1 : (0 : Int32).toInt = 0 := rfl
  exact lX3_waitingTogether_4 hu0 hu0s hW  hK  (((7) - (0 : Int32).toInt).toNat + 1) 0 0 (by omega) (by omega)
theorem lX3_cheapest_64 {G : jdG} {n : Nat} {Z : jdL} {J : jdJ} {rc rs : Nat} {K : Int32 → jdI → jdJ → Prop}  {I : jdI} {u1 : Nat} {x3 : Int32} (ht : zDay Z 20) (hu1 : zTown Z u1) (hu2 : zTies Z 13) (hu1s : (u1 = 1 ∨ u1 = 5 ∨ u1 = 9)) (hW : WX I) (hx3 : 0 ≤ x3.toInt ∧ x3.toInt ≤ 127) (hK : ∀ (v : Int32), K v I J) : ∀ m : Nat, ∀ (x4 : Int32) (x5 : Int32) (x6 : Int32) (x7 : Int32), (0 ≤ x7.toInt ∧ x7.toInt ≤ 70) → (0 ≤ x3.toInt ∧ x3.toInt ≤ 127) → (70) - x7.toInt < (m : Int) → Jd G mX3_cheapest (jdFm G (qi Z K)) (n + 1) rc rs 64 [(0, .ref (gb G + 20)), (1, .ref (gb G + u1)), (2, .ref (gb G + 13)), (3, .int x3), (4, .int x4), (5, .int x5), (6, .int x6), (7, .int x7)] [] Z I J := by
  intro m
  induction m with
  | zero =>
    intro x4 x5 x6 x7 hx7 hx3 hm
    have hwI := WX_f hW
    have hpu1I := WX_town hW hu1s
    omega
  | succ m ih =>
    intro x4 x5 x6 x7 hx7 hx3 hm
    have hwI := WX_f hW
    have hpu1I := WX_town hW hu1s
    refine rX3_cheapest_64 ht hu1 hu2 ?_
    refine ⟨fun hc1 => ?_, fun hc2 => ?_⟩
    · skip
      have q1 := i32_lo (I 13 8)
      have q2 := i32_lo x7
      have hc1 := Int32.le_iff_toInt_le.mp hc1
      exact hK _ 
    · skip
      have q1 := i32_lo (I 13 8)
      have q2 := i32_lo x7
      have hc2 := mt Int32.le_iff_toInt_le.mpr hc2
      refine ⟨vp_of (by omega) (by omega), ?_⟩
      refine ⟨fun hc3 => ?_, fun hc4 => ?_⟩
      · skip
        have q3 := i32_lo x4
        have q4 : (31 : Int32).toInt = 31 := rfl
        have q5 : (1 : Int32).toInt = 1 := rfl
        have q6 : (0 : Int32).toInt = 0 := rfl
        have hc3 := Int32.toInt_inj.mpr hc3
        have q7 := i32_add x7 1 (by omega) (by omega)
        exact ih x4 x5 x6 (x7 + 1) (by omega) (by omega) (by omega)
      · skip
        have q3 := i32_lo x4
        have q4 : (31 : Int32).toInt = 31 := rfl
        have q5 : (1 : Int32).toInt = 1 := rfl
        have q6 : (0 : Int32).toInt = 0 := rfl
        have hc4 : ¬ ((((I (13 + 3) (Int32.toNatClampNeg x7)) >>> (x4 &&& 31)) &&& 1)).toInt = (0 : Int32).toInt := fun z => hc4 (Int32.toInt_inj.mp z)
        refine ⟨fun hc5 => ?_, fun hc6 => ?_⟩
        · skip
          have q7 := i32_lo x3
          have hc5 : ¬ (((I (13 + 3) (Int32.toNatClampNeg x7)) &&& x3)).toInt = ((I (13 + 3) (Int32.toNatClampNeg x7))).toInt := fun z => hc5 (Int32.toInt_inj.mp z)
          have q8 := i32_add x7 1 (by omega) (by omega)
          exact ih x4 x5 x6 (x7 + 1) (by omega) (by omega) (by omega)
        · skip
          have q7 := i32_lo x3
          have hc6 := Int32.toInt_inj.mpr hc6
          refine ⟨vp_xg7 (by omega) (by omega) (by assumption), ?_⟩
          refine ⟨vp_of (by omega) (by omega), ?_⟩
          have q8 := i32_add x7 1 (by omega) (by omega)
          exact ih x4 x5 (if ((I (20 + 3) (Int32.toNatClampNeg (x3 ^^^ (I (13 + 3) (Int32.toNatClampNeg x7))))) + (I (20 + 4) (Int32.toNatClampNeg x7))) < x6 then ((I (20 + 3) (Int32.toNatClampNeg (x3 ^^^ (I (13 + 3) (Int32.toNatClampNeg x7))))) + (I (20 + 4) (Int32.toNatClampNeg x7))) else x6) (x7 + 1) (by omega) (by omega) (by omega)
theorem sfX3_cheapest {G : jdG} {n : Nat} {Z : jdL} {J : jdJ} {K : Int32 → jdI → jdJ → Prop}  {I : jdI} {u1 : Nat} {x3 : Int32} (ht : zDay Z 20) (hu1 : zTown Z u1) (hu2 : zTies Z 13) (hu1s : (u1 = 1 ∨ u1 = 5 ∨ u1 = 9)) (hW : WX I) (hx3 : 0 ≤ x3.toInt ∧ x3.toInt ≤ 127) (hK : ∀ (v : Int32), K v I J) : Cl G mX3_cheapest (n + 1) 0 0 [.ref (gb G + 20), .ref (gb G + u1), .ref (gb G + 13), .int x3] Z I J (qi Z K) := by
  refine eX3_cheapest ht hu1 hu2 ?_
  have hwI := WX_f hW
  have hpu1I := WX_town hW hu1s
  refine sfJ6_bitCount_0f7a4  hW  (fun v2  hp1 => ?_)
  refine ⟨fun hc2 => ?_, fun hc3 => ?_⟩
  · skip
    have q1 := i32_lo v2
    have q2 := i32_lo (I u1 3)
    have hc2 := Int32.lt_iff_toInt_lt.mp hc2
    refine ⟨vp_of (by omega) (by omega), ?_⟩
    refine ⟨vp_of (by omega) (by omega), ?_⟩
    refine ⟨vp_x7 (by omega) (by omega) (by omega) (by omega), ?_⟩
    have q3 : (0 : Int32).toInt = 0 := rfl
    exact lX3_cheapest_64 ht hu1 hu2 hu1s hW hx3 hK  (((70) - (0 : Int32).toInt).toNat + 1) v2 ((16 * (I (u1 + 2) (Int32.toNatClampNeg v2))) * (24 - (I (u1 + 1) (Int32.toNatClampNeg v2)))) ((I (20 + 3) (Int32.toNatClampNeg (x3 ^^^ (1 <<< (v2 &&& 31))))) + ((16 * (I (u1 + 2) (Int32.toNatClampNeg v2))) * (24 - (I (u1 + 1) (Int32.toNatClampNeg v2))))) 0 (by omega) (by omega) (by omega)
  · skip
    have q1 := i32_lo v2
    have q2 := i32_lo (I u1 3)
    have hc3 := mt Int32.lt_iff_toInt_lt.mpr hc3
    exact hK _ 
theorem lX3_findLeast_46 {G : jdG} {n : Nat} {Z : jdL} {J : jdJ} {rc rs : Nat} {K : jdI → jdJ → Prop}  {I0 : jdI} {u1 : Nat} (ht : zDay Z 20) (hu1 : zTown Z u1) (hu2 : zTies Z 13) (hu1s : (u1 = 1 ∨ u1 = 5 ∨ u1 = 9))  (hK : ∀ (I2 : jdI), WX I2 → Fr (fun a k => 20 ≤ a ∧ a ≤ 24) I0 I2 → K I2 J) : ∀ m : Nat, ∀ (I : jdI) (x3 : Int32), WX I → Fr (fun a k => 20 ≤ a ∧ a ≤ 24) I0 I → (0 ≤ x3.toInt ∧ x3.toInt ≤ 128) → (128) - x3.toInt < (m : Int) → Jd G mX3_findLeast (jdFm G (qv Z K)) (n + 2) rc rs 46 [(0, .ref (gb G + 20)), (1, .ref (gb G + u1)), (2, .ref (gb G + 13)), (3, .int x3)] [] Z I J := by
  intro m
  induction m with
  | zero =>
    intro I x3 hW hF hx3 hm
    have hwI := WX_f hW
    have hpu1I := WX_town hW hu1s
    omega
  | succ m ih =>
    intro I x3 hW hF hx3 hm
    have hwI := WX_f hW
    have hpu1I := WX_town hW hu1s
    refine rX3_findLeast_46 ht hu1 hu2 ?_
    refine sfX9_everybody hu1 hu1s hW  (fun v2  hp1 => ?_)
    refine ⟨fun hc2 => ?_, fun hc3 => ?_⟩
    · skip
      have q1 := i32_lo v2
      have q2 := i32_lo x3
      have hc2 := Int32.lt_iff_toInt_lt.mp hc2
      refine sfX9_everybody hu1 hu1s hW  (fun v4  hp4 => ?_)
      have q3 := i32_lo v4
      refine ⟨vp_of (by omega) (by omega), ?_⟩
      exact hK _ (WX_uI hW (by first | exact okXo (by decide) | (unfold okX; refine ⟨?_, ?_, ?_, ?_, ?_, ?_, ?_, ?_, ?_, ?_⟩ <;> intro h <;> omega))) (Fr_uI hF (by omega))
    · skip
      have q1 := i32_lo v2
      have q2 := i32_lo x3
      have hc3 := mt Int32.lt_iff_toInt_lt.mpr hc3
      refine sfX3_cheapest ht hu1 hu2 hu1s hW (by omega) (fun v7  => ?_)
      refine ⟨vp_of (by omega) (by omega), ?_⟩
      have q3 : (1 : Int32).toInt = 1 := rfl
      have q4 := i32_add x3 1 (by omega) (by omega)
      exact ih _ (x3 + 1) (WX_uI hW (by first | exact okXo (by decide) | (unfold okX; refine ⟨?_, ?_, ?_, ?_, ?_, ?_, ?_, ?_, ?_, ?_⟩ <;> intro h <;> omega))) (Fr_uI hF (by omega)) (by omega) (by omega)
theorem lX3_findLeast_2 {G : jdG} {n : Nat} {Z : jdL} {J : jdJ} {rc rs : Nat} {K : jdI → jdJ → Prop}  {I0 : jdI} {u1 : Nat} (ht : zDay Z 20) (hu1 : zTown Z u1) (hu2 : zTies Z 13) (hu1s : (u1 = 1 ∨ u1 = 5 ∨ u1 = 9))  (hK : ∀ (I2 : jdI), WX I2 → Fr (fun a k => 20 ≤ a ∧ a ≤ 24) I0 I2 → K I2 J) : ∀ m : Nat, ∀ (I : jdI) (x3 : Int32), WX I → Fr (fun a k => 20 ≤ a ∧ a ≤ 24) I0 I → (0 ≤ x3.toInt ∧ x3.toInt ≤ 70) → (70) - x3.toInt < (m : Int) → Jd G mX3_findLeast (jdFm G (qv Z K)) (n + 2) rc rs 2 [(0, .ref (gb G + 20)), (1, .ref (gb G + u1)), (2, .ref (gb G + 13)), (3, .int x3)] [] Z I J := by
  intro m
  induction m with
  | zero =>
    intro I x3 hW hF hx3 hm
    have hwI := WX_f hW
    have hpu1I := WX_town hW hu1s
    omega
  | succ m ih =>
    intro I x3 hW hF hx3 hm
    have hwI := WX_f hW
    have hpu1I := WX_town hW hu1s
    refine rX3_findLeast_2 ht hu1 hu2 ?_
    refine ⟨fun hc1 => ?_, fun hc2 => ?_⟩
    · skip
      have q1 := i32_lo (I 13 8)
      have q2 := i32_lo x3
      have hc1 := Int32.le_iff_toInt_le.mp hc1
      have q3 : (1 : Int32).toInt = 1 := rfl
      exact lX3_findLeast_46 ht hu1 hu2 hu1s  hK  (((128) - (1 : Int32).toInt).toNat + 1) _ 1 (WX_uI hW (by first | exact okXo (by decide) | (unfold okX; refine ⟨?_, ?_, ?_, ?_, ?_, ?_, ?_, ?_, ?_, ?_⟩ <;> intro h <;> omega))) (Fr_uI hF (by omega)) (by omega) (by omega)
    · skip
      have q1 := i32_lo (I 13 8)
      have q2 := i32_lo x3
      have hc2 := mt Int32.le_iff_toInt_le.mpr hc2
      refine ⟨vp_of (by omega) (by omega), ?_⟩
      refine sfX3_waitingTogether hu1 hu1s hW  (fun v3  => ?_)
      refine ⟨vp_of (by omega) (by omega), ?_⟩
      have q3 : (1 : Int32).toInt = 1 := rfl
      have q4 := i32_add x3 1 (by omega) (by omega)
      exact ih _ (x3 + 1) (WX_uI hW (by first | exact okXo (by decide) | (unfold okX; refine ⟨?_, ?_, ?_, ?_, ?_, ?_, ?_, ?_, ?_, ?_⟩ <;> intro h <;> omega))) (Fr_uI hF (by omega)) (by omega) (by omega)
theorem sfX3_findLeast {G : jdG} {n : Nat} {Z : jdL} {J : jdJ} {K : jdI → jdJ → Prop}  {I : jdI} {u1 : Nat} (ht : zDay Z 20) (hu1 : zTown Z u1) (hu2 : zTies Z 13) (hu1s : (u1 = 1 ∨ u1 = 5 ∨ u1 = 9)) (hW : WX I)  (hK : ∀ (I2 : jdI), WX I2 → Fr (fun a k => 20 ≤ a ∧ a ≤ 24) I I2 → K I2 J) : Cl G mX3_findLeast (n + 2) 0 0 [.ref (gb G + 20), .ref (gb G + u1), .ref (gb G + 13)] Z I J (qv Z K) := by
  refine eX3_findLeast ht hu1 hu2 ?_
  have hwI := WX_f hW
  have hpu1I := WX_town hW hu1s
  have q1 : (0 : Int32).toInt = 0 := rfl
  exact lX3_findLeast_2 ht hu1 hu2 hu1s  hK  (((70) - (0 : Int32).toInt).toNat + 1) _ 0 hW Fr.rf (by omega) (by omega)
theorem sfX3_leastWaiting {G : jdG} {n : Nat} {Z : jdL} {J : jdJ} {K : Int32 → jdI → jdJ → Prop}  {I : jdI}  (ht : zDay Z 20)  (hW : WX I)  (hK : ∀ (v : Int32), K v I J) : Cl G mX3_leastWaiting n 0 0 [.ref (gb G + 20)] Z I J (qi Z K) := by
  refine eX3_leastWaiting ht ?_
  have hwI := WX_f hW
  exact hK _ 
theorem sfX3_leastCoaches {G : jdG} {n : Nat} {Z : jdL} {J : jdJ} {K : Int32 → jdI → jdJ → Prop}  {I : jdI}  (ht : zDay Z 20)  (hW : WX I)  (hK : ∀ (v : Int32), K v I J) : Cl G mX3_leastCoaches (n + 1) 0 0 [.ref (gb G + 20)] Z I J (qi Z K) := by
  refine eX3_leastCoaches ht ?_
  have hwI := WX_f hW
  refine sfX3_leastWaiting ht hW  (fun v2  => ?_)
  exact hK _ 
theorem narrow_b {v : Int32} (h : v.toInt = 0 ∨ v.toInt = 1) : narrow .boolean (.int v) = .int v := by
  rcases h with h | h
  · have e : v = 0 := Int32.toInt_inj.mp h
    rw [e]
    decide
  · have e : v = 1 := Int32.toInt_inj.mp h
    rw [e]
    decide
def sl (i : Nat) : Int32 := Int32.ofNat (sLen.getD (i % 7) 0)
def sc (i k : Nat) : Int32 := (sByt.getD (i % 7) []).getD k 0
theorem sl_all : ∀ j : Fin 7, (3 ≤ (Int32.ofNat (sLen.getD j.val 0)).toInt ∧ (Int32.ofNat (sLen.getD j.val 0)).toInt ≤ 7) ∧ (Int32.ofNat (sLen.getD j.val 0) >>> ((0 : Int32) &&& 31)) = Int32.ofNat (sLen.getD j.val 0) ∧ (Int32.ofNat (sLen.getD j.val 0)).toInt = (sLen.getD j.val 0 : Nat) := by decide +kernel
theorem sl_r (i : Nat) : 3 ≤ (sl i).toInt ∧ (sl i).toInt ≤ 7 := (sl_all ⟨i % 7, Nat.mod_lt _ (by omega)⟩).1
theorem sl_e (i : Nat) : (Int32.ofNat (sLen.getD (i % 7) 0) >>> ((0 : Int32) &&& 31)) = sl i := (sl_all ⟨i % 7, Nat.mod_lt _ (by omega)⟩).2.1
theorem sl_n (i : Nat) : (sl i).toInt = (sLen.getD (i % 7) 0 : Nat) := (sl_all ⟨i % 7, Nat.mod_lt _ (by omega)⟩).2.2
theorem sc_all : ∀ j : Fin 7, ∀ k : Fin 8, ((((((sByt.getD j.val []).getD k.val 0) &&& 255).toUInt32 % 65536).toInt32) = (sByt.getD j.val []).getD k.val 0) ∧ (match narrow .char (.int ((sByt.getD j.val []).getD k.val 0)) with | .int w => w == (sByt.getD j.val []).getD k.val 0 | _ => false) = true := by decide +kernel
theorem sc_c (i k : Nat) (hk : k < 8) : ((((((sByt.getD (i % 7) []).getD k 0) &&& 255).toUInt32 % 65536).toInt32) = sc i k) ∧ narrow .char (.int (sc i k)) = .int (sc i k) := by
  have h := sc_all ⟨i % 7, Nat.mod_lt _ (by omega)⟩ ⟨k, hk⟩
  refine ⟨h.1, ?_⟩
  have h2 := h.2
  show narrow .char (.int ((sByt.getD (i % 7) []).getD k 0)) = .int ((sByt.getD (i % 7) []).getD k 0)
  revert h2
  generalize (sByt.getD (i % 7) []).getD k 0 = w
  intro h2
  split at h2
  · rename_i w2 e
    rw [e, eq_of_beq h2]
  · cases h2
theorem sfJ0_length_8abf5 {G : jdG} {n : Nat} {Z : jdL} {J : jdJ} {K : Int32 → jdI → jdJ → Prop} {I : jdI} {sA sV : Nat → Nat} {i : Nat} (hG : gOK G sA sV) (hi : i < 14) (hK : ∀ v : Int32, v = sl i → K v I J) : Cl G mJ0_length_8abf5 (n + 1) 0 0 [.ref (sA i)] Z I J (qi Z K) :=
  v_J0_length hG hi (hK _ (sl_e i))
theorem sfJ0_charAt_5068e {G : jdG} {n : Nat} {Z : jdL} {J : jdJ} {K : Int32 → jdI → jdJ → Prop} {I : jdI} {sA sV : Nat → Nat} {i : Nat} {x : Int32} (hG : gOK G sA sV) (hi : i < 14) (hx : 0 ≤ x.toInt ∧ x.toInt < (sl i).toInt) (hK : ∀ v : Int32, v = sc i x.toNatClampNeg → K v I J) : Cl G mJ0_charAt_5068e (n + 3) 0 0 [.ref (sA i), .int x] Z I J (qi Z K) := by
  have h1 := sl_r i
  have h2 := sl_n i
  have h3 := sc_c i x.toNatClampNeg (by rw [tn_eq]; omega)
  exact v_J0_charAt hG hi (vp_of hx.1 (by omega)) (Int32.lt_iff_toInt_lt.mpr hx.2) h3.1 h3.2 (hK _ rfl)
theorem sfX5_isFull {G : jdG} {n : Nat} {Z : jdL} {J : jdJ} {K : Int32 → jdI → jdJ → Prop}  {I : jdI}  (ht : zScribe Z 25)  (hW : WX I)  (hK : ∀ (v : Int32), ((v.toInt = 0 ∧ (I 25 1).toInt < 250) ∨ (v.toInt = 1 ∧ (I 25 1).toInt = 250)) → K v I J) : Cl G mX5_isFull n 0 0 [.ref (gb G + 25)] Z I J (qi Z K) := by
  refine eX5_isFull ht ?_
  have hwI := WX_f hW
  refine ⟨fun hc1 => ?_, fun hc2 => ?_⟩
  · skip
    have q1 := i32_lo (I 25 1)
    have q2 : (250 : Int32).toInt = 250 := rfl
    have hc1 := Int32.lt_iff_toInt_lt.mp hc1
    have q3 : (0 : Int32).toInt = 0 := rfl
    exact hK _  (by omega)
  · skip
    have q1 := i32_lo (I 25 1)
    have q2 : (250 : Int32).toInt = 250 := rfl
    have hc2 := mt Int32.lt_iff_toInt_lt.mpr hc2
    have q3 : (1 : Int32).toInt = 1 := rfl
    exact hK _  (by omega)
theorem sfX5_clear {G : jdG} {n : Nat} {Z : jdL} {J : jdJ} {K : jdI → jdJ → Prop}  {I : jdI}  (ht : zScribe Z 25)  (hW : WX I)  (hK : ∀ (I2 : jdI), WX I2 → Fr (fun a k => a = 25) I I2 → ((I2 25 1).toInt = 0) → K I2 J) : Cl G mX5_clear n 0 0 [.ref (gb G + 25)] Z I J (qv Z K) := by
  refine eX5_clear ht ?_
  have hwI := WX_f hW
  have q1 : (0 : Int32).toInt = 0 := rfl
  have hr1 : (((uI I 25 1 0)) 25 1).toInt = ((0 : Int32)).toInt := congrArg Int32.toInt (uI_ss _ _ _ _)
  exact hK _ (WX_uI hW (by first | exact okXo (by decide) | (unfold okX; refine ⟨?_, ?_, ?_, ?_, ?_, ?_, ?_, ?_, ?_, ?_⟩ <;> intro h <;> omega))) (Fr_uI Fr.rf (by omega)) (by omega)
