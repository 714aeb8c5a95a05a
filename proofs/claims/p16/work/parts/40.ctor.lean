def sA (Z : jdL) (t k : Nat) (ty : Nat × Nat) : jdL := uP (nZ Z ty) t k (some Z.2.2)
/-- an outer array of N rows of type ty: N + 1 cells, then the field k of t -/
def mZ (Z : jdL) (kd N : Nat) (ty : Nat × Nat) : jdL := ((fun a => if a = Z.2.2 then some (kd, N) else if Z.2.2 < a ∧ a ≤ Z.2.2 + N then some ty else Z.1 a), (fun a => if a = Z.2.2 then (fun i => if i < N then some (Z.2.2 + 1 + i) else none) else if Z.2.2 < a ∧ a ≤ Z.2.2 + N then (fun _ => none) else Z.2.1 a), Z.2.2 + 1 + N)
def mzI (I : jdI) (b N : Nat) : jdI := fun a => if b < a ∧ a ≤ b + N then (fun _ => 0) else I a
def mzJ (J : jdJ) (b N : Nat) : jdJ := fun a => if b < a ∧ a ≤ b + N then (fun _ => 0) else J a
theorem nZ_T {Z : jdL} {t : Nat} {x ty : Nat × Nat} (h : Z.1 t = some x) (hlt : t < Z.2.2) : (nZ Z ty).1 t = some x := by
  show (if t = Z.2.2 then some ty else Z.1 t) = some x
  rw [if_neg (by omega)]
  exact h
theorem nZ_lt {Z : jdL} {t : Nat} {ty : Nat × Nat} (hlt : t < Z.2.2) : t < (nZ Z ty).2.2 := Nat.lt_succ_of_lt hlt
theorem mZ_T {Z : jdL} {t kd N : Nat} {x ty : Nat × Nat} (h : Z.1 t = some x) (hlt : t < Z.2.2) : (mZ Z kd N ty).1 t = some x := by
  show (if t = Z.2.2 then some (kd, N) else if Z.2.2 < t ∧ t ≤ Z.2.2 + N then some ty else Z.1 t) = some x
  rw [if_neg (by omega), if_neg (by omega)]
  exact h
theorem mZ_lt {Z : jdL} {t kd N : Nat} {ty : Nat × Nat} (hlt : t < Z.2.2) : t < (mZ Z kd N ty).2.2 := by
  show t < Z.2.2 + 1 + N
  omega
section CT
variable {G : jdG} {M : jdM} {F : jdF} {n rc rs pc : Nat} {lv : List (Nat × Value)} {st : List Value} {Z : jdL} {I : jdI} {J : jdJ}
theorem jd_aast {id len r ci N : Nat} {T : u_T} {i : Int32} (hT : Z.1 id = some (4, len)) (hTr : Z.1 r = some (5 + 10, 0)) (hin : vp_in i len) (hdg : decode M.2.1 pc = .ok (.aastore, 1)) (kk : Jd G M F n rc rs (pc + 1) lv st (uP Z id i.toNatClampNeg (some r)) I J) : Jd G M F n rc rs pc lv (.ref (gb G + r) :: .int i :: .ref (gb G + id) :: st) Z I J := by
  intro p e R s m args below meth c H locs cells slots ls hC hR hL hl h1 h2
  have hK := hC.2.2.2.2.2.2.2.2.1.1
  have hat := hR.2.2 id _ hT
  rw [jdc_r _ _ _ _ _ _ _ (by omega) (by omega)] at hat
  have hlt : i.toNatClampNeg < len := vp_lt hin
  have h0 : ¬ i < 0 := fun q => hin (Or.inl q)
  have hv := hR.2.2 r _ hTr
  rw [jdc_o] at hv
  obtain ⟨r', hr', cellV, g1, g2, g3, -⟩ := hv
  have hcls := (hK.1 5 (RX6, TX6, 4) rfl).2
  obtain ⟨kA, comp, k1, k2, k3, -⟩ := (hK.2 4 _ rfl).2
  have hcomp : comp = G.2.1.1 5 := Option.some.inj (k3.symm.trans hcls.1)
  subst hcomp
  obtain ⟨kC, hkC, -⟩ := hcls.2
  refine W.aast hC.1 hC.2.1 hat (fun q h => by cases h) (fun h => by cases h) k1 k2 rfl hkC ⟨h0, by show _ < (arrV _ _ _).slots.size; rw [arrV_size]; exact hlt⟩ g1 (fun q h => by rw [g3] at h; cases h) (by rw [g2]; exact hkC) (by rw [g2]; exact va_assign hcls) rfl rfl hdg fun H1 e1 z oq => ?_
  refine kk p e R s m args below meth c H1 _ cells slots ls hC (jdR_set hR hT z oq rfl rfl (fun j u hj => jdc_uP u hj) ?_) (jd_locs hL) hl h1 h2
  rw [jdc_r _ _ _ _ _ _ _ (by omega) (by omega)]
  show H1[gb G + id]? = some (vp_cell _ _)
  rw [e1, vp_cell_q, vp_cell_q, arrV_store]
  congr 2
  funext q
  by_cases hq : q = i.toNatClampNeg
  · subst hq
    simp [updV, uP, va_up, va_rf]
  · simp [updV, uP, va_up, hq]
end CT
def kTownZ (Z : jdL) (t : Nat) : jdL := (sA (sA (sA Z t 0 (0, 7)) t 1 (0, 7)) t 2 (0, 49))
def kTownI (I : jdI) (t : Nat) : jdI := (uI (uI (zI (zI (zI I (t + 1)) (t + 2)) (t + 3)) t 4 3) t 6 1)
def kTownJ (J : jdJ) (t : Nat) : jdJ := J
set_option maxRecDepth 8000 in
set_option maxHeartbeats 4000000 in
theorem v_X9_init {G : jdG} {n : Nat} {T : Nat → Option (Nat × Nat)} {P : Nat → Nat → Option Nat} {t : Nat} {I : jdI} {J : jdJ} {Q : jdQ} (hT0 : T t = some (8 + 10, 0)) (h : Q none (kTownZ (T, P, t + 1) t) (kTownI I t) (kTownJ J t)) : Cl G mX9_init (n + 1) 3 63 [.ref (gb G + t)] (T, P, t + 1) I J Q := by
  refine Cl.of (by decide +kernel) (Nat.le_of_ble_eq_true rfl) ?_
  have hT : ((T, P, t + 1) : jdL).1 t = some (8 + 10, 0) := hT0
  have hlt : t < ((T, P, t + 1) : jdL).2.2 := Nat.lt_succ_self t
  refine jd_aload_n (pc := 0) 0 dX9_init_0 rfl rfl ?_
  refine jd_objInit (pc := 1) oX9_3 (Nat.le_of_ble_eq_true rfl) dX9_init_1 ?_
  refine jd_aload_n (pc := 4) 0 dX9_init_4 rfl rfl ?_
  refine jd_bipush (pc := 5) (v := 7) dX9_init_5 (by decide) ?_
  refine jd_newI (pc := 7) (rc2 := 2) (rs2 := 56) (len := 7) w_aI (by decide) (by decide) (by decide) (by decide) (by decide) dX9_init_7 ?_
  have hT := nZ_T (ty := (0, 7)) hT hlt
  have hlt := nZ_lt (ty := (0, 7)) hlt
  refine jd_putFR (pc := 9) (ci := 8) (k := 0) rfl pX9_9 hT rfl rfl rfl dX9_init_9 ?_
  refine jd_aload_n (pc := 12) 0 dX9_init_12 rfl rfl ?_
  refine jd_bipush (pc := 13) (v := 7) dX9_init_13 (by decide) ?_
  refine jd_newI (pc := 15) (rc2 := 1) (rs2 := 49) (len := 7) w_aI (by decide) (by decide) (by decide) (by decide) (by decide) dX9_init_15 ?_
  have hT := nZ_T (ty := (0, 7)) hT hlt
  have hlt := nZ_lt (ty := (0, 7)) hlt
  refine jd_putFR (pc := 17) (ci := 8) (k := 1) rfl pX9_15 hT rfl rfl rfl dX9_init_17 ?_
  refine jd_aload_n (pc := 20) 0 dX9_init_20 rfl rfl ?_
  refine jd_bipush (pc := 21) (v := 49) dX9_init_21 (by decide) ?_
  refine jd_newI (pc := 23) (rc2 := 0) (rs2 := 0) (len := 49) w_aI (by decide) (by decide) (by decide) (by decide) (by decide) dX9_init_23 ?_
  have hT := nZ_T (ty := (0, 49)) hT hlt
  have hlt := nZ_lt (ty := (0, 49)) hlt
  refine jd_putFR (pc := 25) (ci := 8) (k := 2) rfl pX9_18 hT rfl rfl rfl dX9_init_25 ?_
  refine jd_aload_n (pc := 28) 0 dX9_init_28 rfl rfl ?_
  refine jd_iconst (pc := 29) (v := 3) dX9_init_29 (by decide) ?_
  refine jd_putI (pc := 30) (ci := 8) (k := 4) pX9_21 hT rfl rfl rfl dX9_init_30 ?_
  refine jd_aload_n (pc := 33) 0 dX9_init_33 rfl rfl ?_
  refine jd_iconst (pc := 34) (v := 1) dX9_init_34 (by decide) ?_
  refine jd_putI (pc := 35) (ci := 8) (k := 6) pX9_25 hT rfl rfl rfl dX9_init_35 ?_
  exact jd_vret (pc := 38) rfl dX9_init_38 h
def kTiesZ (Z : jdL) (t : Nat) : jdL := (sA (sA (sA (sA (sA (sA Z t 0 (0, 8)) t 1 (0, 8)) t 2 (0, 70)) t 3 (0, 70)) t 4 (0, 256)) t 5 (0, 28))
def kTiesI (I : jdI) (t : Nat) : jdI := (zI (zI (zI (zI (zI (zI I (t + 1)) (t + 2)) (t + 3)) (t + 4)) (t + 5)) (t + 6))
def kTiesJ (J : jdJ) (t : Nat) : jdJ := J
set_option maxRecDepth 8000 in
set_option maxHeartbeats 4000000 in
theorem v_X8_init {G : jdG} {n : Nat} {T : Nat → Option (Nat × Nat)} {P : Nat → Nat → Option Nat} {t : Nat} {I : jdI} {J : jdJ} {Q : jdQ} (hT0 : T t = some (7 + 10, 0)) (h : Q none (kTiesZ (T, P, t + 1) t) (kTiesI I t) (kTiesJ J t)) : Cl G mX8_init (n + 1) 6 440 [.ref (gb G + t)] (T, P, t + 1) I J Q := by
  refine Cl.of (by decide +kernel) (Nat.le_of_ble_eq_true rfl) ?_
  have hT : ((T, P, t + 1) : jdL).1 t = some (7 + 10, 0) := hT0
  have hlt : t < ((T, P, t + 1) : jdL).2.2 := Nat.lt_succ_self t
  refine jd_aload_n (pc := 0) 0 dX8_init_0 rfl rfl ?_
  refine jd_objInit (pc := 1) oX8_5 (Nat.le_of_ble_eq_true rfl) dX8_init_1 ?_
  refine jd_aload_n (pc := 4) 0 dX8_init_4 rfl rfl ?_
  refine jd_bipush (pc := 5) (v := 8) dX8_init_5 (by decide) ?_
  refine jd_newI (pc := 7) (rc2 := 5) (rs2 := 432) (len := 8) w_aI (by decide) (by decide) (by decide) (by decide) (by decide) dX8_init_7 ?_
  have hT := nZ_T (ty := (0, 8)) hT hlt
  have hlt := nZ_lt (ty := (0, 8)) hlt
  refine jd_putFR (pc := 9) (ci := 7) (k := 0) rfl pX8_11 hT rfl rfl rfl dX8_init_9 ?_
  refine jd_aload_n (pc := 12) 0 dX8_init_12 rfl rfl ?_
  refine jd_bipush (pc := 13) (v := 8) dX8_init_13 (by decide) ?_
  refine jd_newI (pc := 15) (rc2 := 4) (rs2 := 424) (len := 8) w_aI (by decide) (by decide) (by decide) (by decide) (by decide) dX8_init_15 ?_
  have hT := nZ_T (ty := (0, 8)) hT hlt
  have hlt := nZ_lt (ty := (0, 8)) hlt
  refine jd_putFR (pc := 17) (ci := 7) (k := 1) rfl pX8_15 hT rfl rfl rfl dX8_init_17 ?_
  refine jd_aload_n (pc := 20) 0 dX8_init_20 rfl rfl ?_
  refine jd_bipush (pc := 21) (v := 70) dX8_init_21 (by decide) ?_
  refine jd_newI (pc := 23) (rc2 := 3) (rs2 := 354) (len := 70) w_aI (by decide) (by decide) (by decide) (by decide) (by decide) dX8_init_23 ?_
  have hT := nZ_T (ty := (0, 70)) hT hlt
  have hlt := nZ_lt (ty := (0, 70)) hlt
  refine jd_putFR (pc := 25) (ci := 7) (k := 2) rfl pX8_18 hT rfl rfl rfl dX8_init_25 ?_
  refine jd_aload_n (pc := 28) 0 dX8_init_28 rfl rfl ?_
  refine jd_bipush (pc := 29) (v := 70) dX8_init_29 (by decide) ?_
  refine jd_newI (pc := 31) (rc2 := 2) (rs2 := 284) (len := 70) w_aI (by decide) (by decide) (by decide) (by decide) (by decide) dX8_init_31 ?_
  have hT := nZ_T (ty := (0, 70)) hT hlt
  have hlt := nZ_lt (ty := (0, 70)) hlt
  refine jd_putFR (pc := 33) (ci := 7) (k := 3) rfl pX8_21 hT rfl rfl rfl dX8_init_33 ?_
  refine jd_aload_n (pc := 36) 0 dX8_init_36 rfl rfl ?_
  refine jd_sipush (pc := 37) (v := 256) dX8_init_37 (by decide) ?_
  refine jd_newI (pc := 40) (rc2 := 1) (rs2 := 28) (len := 256) w_aI (by decide) (by decide) (by decide) (by decide) (by decide) dX8_init_40 ?_
  have hT := nZ_T (ty := (0, 256)) hT hlt
  have hlt := nZ_lt (ty := (0, 256)) hlt
  refine jd_putFR (pc := 42) (ci := 7) (k := 4) rfl pX8_24 hT rfl rfl rfl dX8_init_42 ?_
  refine jd_aload_n (pc := 45) 0 dX8_init_45 rfl rfl ?_
  refine jd_bipush (pc := 46) (v := 28) dX8_init_46 (by decide) ?_
  refine jd_newI (pc := 48) (rc2 := 0) (rs2 := 0) (len := 28) w_aI (by decide) (by decide) (by decide) (by decide) (by decide) dX8_init_48 ?_
  have hT := nZ_T (ty := (0, 28)) hT hlt
  have hlt := nZ_lt (ty := (0, 28)) hlt
  refine jd_putFR (pc := 50) (ci := 7) (k := 5) rfl pX8_27 hT rfl rfl rfl dX8_init_50 ?_
  exact jd_vret (pc := 53) rfl dX8_init_53 h
def kDayZ (Z : jdL) (t : Nat) : jdL := (sA (sA (sA (sA Z t 0 (0, 7)) t 1 (0, 7)) t 2 (0, 128)) t 3 (0, 70))
def kDayI (I : jdI) (t : Nat) : jdI := (zI (zI (zI (zI I (t + 1)) (t + 2)) (t + 3)) (t + 4))
def kDayJ (J : jdJ) (t : Nat) : jdJ := J
set_option maxRecDepth 8000 in
set_option maxHeartbeats 4000000 in
theorem v_X3_init {G : jdG} {n : Nat} {T : Nat → Option (Nat × Nat)} {P : Nat → Nat → Option Nat} {t : Nat} {I : jdI} {J : jdJ} {Q : jdQ} (hT0 : T t = some (2 + 10, 0)) (h : Q none (kDayZ (T, P, t + 1) t) (kDayI I t) (kDayJ J t)) : Cl G mX3_init (n + 1) 4 212 [.ref (gb G + t)] (T, P, t + 1) I J Q := by
  refine Cl.of (by decide +kernel) (Nat.le_of_ble_eq_true rfl) ?_
  have hT : ((T, P, t + 1) : jdL).1 t = some (2 + 10, 0) := hT0
  have hlt : t < ((T, P, t + 1) : jdL).2.2 := Nat.lt_succ_self t
  refine jd_aload_n (pc := 0) 0 dX3_init_0 rfl rfl ?_
  refine jd_objInit (pc := 1) oX3_3 (Nat.le_of_ble_eq_true rfl) dX3_init_1 ?_
  refine jd_aload_n (pc := 4) 0 dX3_init_4 rfl rfl ?_
  refine jd_bipush (pc := 5) (v := 7) dX3_init_5 (by decide) ?_
  refine jd_newI (pc := 7) (rc2 := 3) (rs2 := 205) (len := 7) w_aI (by decide) (by decide) (by decide) (by decide) (by decide) dX3_init_7 ?_
  have hT := nZ_T (ty := (0, 7)) hT hlt
  have hlt := nZ_lt (ty := (0, 7)) hlt
  refine jd_putFR (pc := 9) (ci := 2) (k := 0) rfl pX3_9 hT rfl rfl rfl dX3_init_9 ?_
  refine jd_aload_n (pc := 12) 0 dX3_init_12 rfl rfl ?_
  refine jd_bipush (pc := 13) (v := 7) dX3_init_13 (by decide) ?_
  refine jd_newI (pc := 15) (rc2 := 2) (rs2 := 198) (len := 7) w_aI (by decide) (by decide) (by decide) (by decide) (by decide) dX3_init_15 ?_
  have hT := nZ_T (ty := (0, 7)) hT hlt
  have hlt := nZ_lt (ty := (0, 7)) hlt
  refine jd_putFR (pc := 17) (ci := 2) (k := 1) rfl pX3_15 hT rfl rfl rfl dX3_init_17 ?_
  refine jd_aload_n (pc := 20) 0 dX3_init_20 rfl rfl ?_
  refine jd_sipush (pc := 21) (v := 128) dX3_init_21 (by decide) ?_
  refine jd_newI (pc := 24) (rc2 := 1) (rs2 := 70) (len := 128) w_aI (by decide) (by decide) (by decide) (by decide) (by decide) dX3_init_24 ?_
  have hT := nZ_T (ty := (0, 128)) hT hlt
  have hlt := nZ_lt (ty := (0, 128)) hlt
  refine jd_putFR (pc := 26) (ci := 2) (k := 2) rfl pX3_18 hT rfl rfl rfl dX3_init_26 ?_
  refine jd_aload_n (pc := 29) 0 dX3_init_29 rfl rfl ?_
  refine jd_bipush (pc := 30) (v := 70) dX3_init_30 (by decide) ?_
  refine jd_newI (pc := 32) (rc2 := 0) (rs2 := 0) (len := 70) w_aI (by decide) (by decide) (by decide) (by decide) (by decide) dX3_init_32 ?_
  have hT := nZ_T (ty := (0, 70)) hT hlt
  have hlt := nZ_lt (ty := (0, 70)) hlt
  refine jd_putFR (pc := 34) (ci := 2) (k := 3) rfl pX3_23 hT rfl rfl rfl dX3_init_34 ?_
  exact jd_vret (pc := 37) rfl dX3_init_37 h
def kScribeZ (Z : jdL) (t : Nat) : jdL := (sA Z t 0 (0, 250))
def kScribeI (I : jdI) (t : Nat) : jdI := (zI I (t + 1))
def kScribeJ (J : jdJ) (t : Nat) : jdJ := J
set_option maxRecDepth 8000 in
set_option maxHeartbeats 4000000 in
theorem v_X5_init {G : jdG} {n : Nat} {T : Nat → Option (Nat × Nat)} {P : Nat → Nat → Option Nat} {t : Nat} {I : jdI} {J : jdJ} {Q : jdQ} (hT0 : T t = some (4 + 10, 0)) (h : Q none (kScribeZ (T, P, t + 1) t) (kScribeI I t) (kScribeJ J t)) : Cl G mX5_init (n + 1) 1 250 [.ref (gb G + t)] (T, P, t + 1) I J Q := by
  refine Cl.of (by decide +kernel) (Nat.le_of_ble_eq_true rfl) ?_
  have hT : ((T, P, t + 1) : jdL).1 t = some (4 + 10, 0) := hT0
  have hlt : t < ((T, P, t + 1) : jdL).2.2 := Nat.lt_succ_self t
  refine jd_aload_n (pc := 0) 0 dX5_init_0 rfl rfl ?_
  refine jd_objInit (pc := 1) oX5_3 (Nat.le_of_ble_eq_true rfl) dX5_init_1 ?_
  refine jd_aload_n (pc := 4) 0 dX5_init_4 rfl rfl ?_
  refine jd_sipush (pc := 5) (v := 250) dX5_init_5 (by decide) ?_
  refine jd_newI (pc := 8) (rc2 := 0) (rs2 := 0) (len := 250) w_aI (by decide) (by decide) (by decide) (by decide) (by decide) dX5_init_8 ?_
  have hT := nZ_T (ty := (0, 250)) hT hlt
  have hlt := nZ_lt (ty := (0, 250)) hlt
  refine jd_putFR (pc := 10) (ci := 4) (k := 0) rfl pX5_11 hT rfl rfl rfl dX5_init_10 ?_
  exact jd_vret (pc := 13) rfl dX5_init_13 h
def kShelfZ (Z : jdL) (t : Nat) : jdL := (sA Z t 0 (1, 40))
def kShelfI (I : jdI) (t : Nat) : jdI := (uI I t 1 (-1))
def kShelfJ (J : jdJ) (t : Nat) : jdJ := (zJ J (t + 1))
set_option maxRecDepth 8000 in
set_option maxHeartbeats 4000000 in
theorem v_X6_init {G : jdG} {n : Nat} {T : Nat → Option (Nat × Nat)} {P : Nat → Nat → Option Nat} {t : Nat} {I : jdI} {J : jdJ} {Q : jdQ} (hT0 : T t = some (5 + 10, 0)) (h : Q none (kShelfZ (T, P, t + 1) t) (kShelfI I t) (kShelfJ J t)) : Cl G mX6_init (n + 1) 1 40 [.ref (gb G + t)] (T, P, t + 1) I J Q := by
  refine Cl.of (by decide +kernel) (Nat.le_of_ble_eq_true rfl) ?_
  have hT : ((T, P, t + 1) : jdL).1 t = some (5 + 10, 0) := hT0
  have hlt : t < ((T, P, t + 1) : jdL).2.2 := Nat.lt_succ_self t
  refine jd_aload_n (pc := 0) 0 dX6_init_0 rfl rfl ?_
  refine jd_objInit (pc := 1) oX6_3 (Nat.le_of_ble_eq_true rfl) dX6_init_1 ?_
  refine jd_aload_n (pc := 4) 0 dX6_init_4 rfl rfl ?_
  refine jd_bipush (pc := 5) (v := 40) dX6_init_5 (by decide) ?_
  refine jd_newJ (pc := 7) (rc2 := 0) (rs2 := 0) (len := 40) w_aJ (by decide) (by decide) (by decide) (by decide) (by decide) dX6_init_7 ?_
  have hT := nZ_T (ty := (1, 40)) hT hlt
  have hlt := nZ_lt (ty := (1, 40)) hlt
  refine jd_putFR (pc := 9) (ci := 5) (k := 0) rfl pX6_9 hT rfl rfl rfl dX6_init_9 ?_
  refine jd_aload_n (pc := 12) 0 dX6_init_12 rfl rfl ?_
  refine jd_iconst (pc := 13) (v := (-1)) dX6_init_13 (by decide) ?_
  refine jd_putI (pc := 14) (ci := 5) (k := 1) pX6_15 hT rfl rfl rfl dX6_init_14 ?_
  exact jd_vret (pc := 17) rfl dX6_init_17 h
