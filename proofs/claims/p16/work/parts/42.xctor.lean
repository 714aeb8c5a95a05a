theorem v_X2_init_0 {G : jdG} {n : Nat} {Z : jdL} {I : jdI} {J : jdJ} {Q : jdQ} {t : Nat} {x : Int32} (hT : Z.1 t = some (0 + 10, 0)) (h : Q none Z (uI I t 0 x) J) : Cl G mX2_init (n + 1) 0 0 [.ref (gb G + t), .int x] Z I J Q := by
  refine Cl.of (by decide +kernel) (Nat.le_of_ble_eq_true rfl) ?_
  refine jd_aload_n (pc := 0) 0 dX2_init_0 rfl rfl ?_
  refine jd_objInit (pc := 1) oX2_1 (Nat.le_of_ble_eq_true rfl) dX2_init_1 ?_
  refine jd_aload_n (pc := 4) 0 dX2_init_4 rfl rfl ?_
  refine jd_iload_n (pc := 5) 1 dX2_init_5 rfl rfl ?_
  refine jd_putFI (pc := 6) (ci := 0) (k := 0) rfl pX2_7_0 hT rfl rfl rfl dX2_init_6 ?_
  exact jd_vret (pc := 9) rfl dX2_init_9 h
theorem v_X2_init_1 {G : jdG} {n : Nat} {Z : jdL} {I : jdI} {J : jdJ} {Q : jdQ} {t : Nat} {x : Int32} (hT : Z.1 t = some (1 + 10, 0)) (h : Q none Z (uI I t 0 x) J) : Cl G mX2_init (n + 1) 0 0 [.ref (gb G + t), .int x] Z I J Q := by
  refine Cl.of (by decide +kernel) (Nat.le_of_ble_eq_true rfl) ?_
  refine jd_aload_n (pc := 0) 0 dX2_init_0 rfl rfl ?_
  refine jd_objInit (pc := 1) oX2_1 (Nat.le_of_ble_eq_true rfl) dX2_init_1 ?_
  refine jd_aload_n (pc := 4) 0 dX2_init_4 rfl rfl ?_
  refine jd_iload_n (pc := 5) 1 dX2_init_5 rfl rfl ?_
  refine jd_putFI (pc := 6) (ci := 1) (k := 0) rfl pX2_7_1 hT rfl rfl rfl dX2_init_6 ?_
  exact jd_vret (pc := 9) rfl dX2_init_9 h
theorem v_X2_init_3 {G : jdG} {n : Nat} {Z : jdL} {I : jdI} {J : jdJ} {Q : jdQ} {t : Nat} {x : Int32} (hT : Z.1 t = some (3 + 10, 0)) (h : Q none Z (uI I t 0 x) J) : Cl G mX2_init (n + 1) 0 0 [.ref (gb G + t), .int x] Z I J Q := by
  refine Cl.of (by decide +kernel) (Nat.le_of_ble_eq_true rfl) ?_
  refine jd_aload_n (pc := 0) 0 dX2_init_0 rfl rfl ?_
  refine jd_objInit (pc := 1) oX2_1 (Nat.le_of_ble_eq_true rfl) dX2_init_1 ?_
  refine jd_aload_n (pc := 4) 0 dX2_init_4 rfl rfl ?_
  refine jd_iload_n (pc := 5) 1 dX2_init_5 rfl rfl ?_
  refine jd_putFI (pc := 6) (ci := 3) (k := 0) rfl pX2_7_3 hT rfl rfl rfl dX2_init_6 ?_
  exact jd_vret (pc := 9) rfl dX2_init_9 h
theorem v_X2_init_6 {G : jdG} {n : Nat} {Z : jdL} {I : jdI} {J : jdJ} {Q : jdQ} {t : Nat} {x : Int32} (hT : Z.1 t = some (6 + 10, 0)) (h : Q none Z (uI I t 0 x) J) : Cl G mX2_init (n + 1) 0 0 [.ref (gb G + t), .int x] Z I J Q := by
  refine Cl.of (by decide +kernel) (Nat.le_of_ble_eq_true rfl) ?_
  refine jd_aload_n (pc := 0) 0 dX2_init_0 rfl rfl ?_
  refine jd_objInit (pc := 1) oX2_1 (Nat.le_of_ble_eq_true rfl) dX2_init_1 ?_
  refine jd_aload_n (pc := 4) 0 dX2_init_4 rfl rfl ?_
  refine jd_iload_n (pc := 5) 1 dX2_init_5 rfl rfl ?_
  refine jd_putFI (pc := 6) (ci := 6) (k := 0) rfl pX2_7_6 hT rfl rfl rfl dX2_init_6 ?_
  exact jd_vret (pc := 9) rfl dX2_init_9 h
theorem v_X2_init_9 {G : jdG} {n : Nat} {Z : jdL} {I : jdI} {J : jdJ} {Q : jdQ} {t : Nat} {x : Int32} (hT : Z.1 t = some (9 + 10, 0)) (h : Q none Z (uI I t 0 x) J) : Cl G mX2_init (n + 1) 0 0 [.ref (gb G + t), .int x] Z I J Q := by
  refine Cl.of (by decide +kernel) (Nat.le_of_ble_eq_true rfl) ?_
  refine jd_aload_n (pc := 0) 0 dX2_init_0 rfl rfl ?_
  refine jd_objInit (pc := 1) oX2_1 (Nat.le_of_ble_eq_true rfl) dX2_init_1 ?_
  refine jd_aload_n (pc := 4) 0 dX2_init_4 rfl rfl ?_
  refine jd_iload_n (pc := 5) 1 dX2_init_5 rfl rfl ?_
  refine jd_putFI (pc := 6) (ci := 9) (k := 0) rfl pX2_7_9 hT rfl rfl rfl dX2_init_6 ?_
  exact jd_vret (pc := 9) rfl dX2_init_9 h
theorem v_X1_init_0 {G : jdG} {n : Nat} {Z : jdL} {I : jdI} {J : jdJ} {Q : jdQ} {t : Nat} {x : Int32} (hT : Z.1 t = some (0 + 10, 0)) (h : Q none Z (uI I t 0 x) J) : Cl G mX1_init (n + 2) 0 0 [.ref (gb G + t), .int x] Z I J Q := by
  refine Cl.of (by decide +kernel) (Nat.le_of_ble_eq_true rfl) ?_
  refine jd_aload_n (pc := 0) 0 dX1_init_0 rfl rfl ?_
  refine jd_iload_n (pc := 1) 1 dX1_init_1 rfl rfl ?_
  refine jd_callI (pc := 2) (M2 := mX2_init) (id := t) (mc := 0) (ms := 0) (rc2 := 0) (rs2 := 0) (av := [.int x]) kX2_init sX2_init lX1_1 rfl rfl (Nat.le_of_ble_eq_true rfl) (Nat.le_refl _) (Nat.le_refl _) dX1_init_2 (v_X2_init_0 hT ?_)
  exact jd_vret (pc := 5) rfl dX1_init_5 h
theorem v_X1_init_1 {G : jdG} {n : Nat} {Z : jdL} {I : jdI} {J : jdJ} {Q : jdQ} {t : Nat} {x : Int32} (hT : Z.1 t = some (1 + 10, 0)) (h : Q none Z (uI I t 0 x) J) : Cl G mX1_init (n + 2) 0 0 [.ref (gb G + t), .int x] Z I J Q := by
  refine Cl.of (by decide +kernel) (Nat.le_of_ble_eq_true rfl) ?_
  refine jd_aload_n (pc := 0) 0 dX1_init_0 rfl rfl ?_
  refine jd_iload_n (pc := 1) 1 dX1_init_1 rfl rfl ?_
  refine jd_callI (pc := 2) (M2 := mX2_init) (id := t) (mc := 0) (ms := 0) (rc2 := 0) (rs2 := 0) (av := [.int x]) kX2_init sX2_init lX1_1 rfl rfl (Nat.le_of_ble_eq_true rfl) (Nat.le_refl _) (Nat.le_refl _) dX1_init_2 (v_X2_init_1 hT ?_)
  exact jd_vret (pc := 5) rfl dX1_init_5 h
theorem v_X1_init_6 {G : jdG} {n : Nat} {Z : jdL} {I : jdI} {J : jdJ} {Q : jdQ} {t : Nat} {x : Int32} (hT : Z.1 t = some (6 + 10, 0)) (h : Q none Z (uI I t 0 x) J) : Cl G mX1_init (n + 2) 0 0 [.ref (gb G + t), .int x] Z I J Q := by
  refine Cl.of (by decide +kernel) (Nat.le_of_ble_eq_true rfl) ?_
  refine jd_aload_n (pc := 0) 0 dX1_init_0 rfl rfl ?_
  refine jd_iload_n (pc := 1) 1 dX1_init_1 rfl rfl ?_
  refine jd_callI (pc := 2) (M2 := mX2_init) (id := t) (mc := 0) (ms := 0) (rc2 := 0) (rs2 := 0) (av := [.int x]) kX2_init sX2_init lX1_1 rfl rfl (Nat.le_of_ble_eq_true rfl) (Nat.le_refl _) (Nat.le_refl _) dX1_init_2 (v_X2_init_6 hT ?_)
  exact jd_vret (pc := 5) rfl dX1_init_5 h
theorem v_X4_init_3 {G : jdG} {n : Nat} {Z : jdL} {I : jdI} {J : jdJ} {Q : jdQ} {t : Nat} {x : Int32} (hT : Z.1 t = some (3 + 10, 0)) (h : Q none Z (uI I t 0 x) J) : Cl G mX4_init (n + 2) 0 0 [.ref (gb G + t), .int x] Z I J Q := by
  refine Cl.of (by decide +kernel) (Nat.le_of_ble_eq_true rfl) ?_
  refine jd_aload_n (pc := 0) 0 dX4_init_0 rfl rfl ?_
  refine jd_iload_n (pc := 1) 1 dX4_init_1 rfl rfl ?_
  refine jd_callI (pc := 2) (M2 := mX2_init) (id := t) (mc := 0) (ms := 0) (rc2 := 0) (rs2 := 0) (av := [.int x]) kX2_init sX2_init lX4_1 rfl rfl (Nat.le_of_ble_eq_true rfl) (Nat.le_refl _) (Nat.le_refl _) dX4_init_2 (v_X2_init_3 hT ?_)
  exact jd_vret (pc := 5) rfl dX4_init_5 h
theorem v_X4_init_9 {G : jdG} {n : Nat} {Z : jdL} {I : jdI} {J : jdJ} {Q : jdQ} {t : Nat} {x : Int32} (hT : Z.1 t = some (9 + 10, 0)) (h : Q none Z (uI I t 0 x) J) : Cl G mX4_init (n + 2) 0 0 [.ref (gb G + t), .int x] Z I J Q := by
  refine Cl.of (by decide +kernel) (Nat.le_of_ble_eq_true rfl) ?_
  refine jd_aload_n (pc := 0) 0 dX4_init_0 rfl rfl ?_
  refine jd_iload_n (pc := 1) 1 dX4_init_1 rfl rfl ?_
  refine jd_callI (pc := 2) (M2 := mX2_init) (id := t) (mc := 0) (ms := 0) (rc2 := 0) (rs2 := 0) (av := [.int x]) kX2_init sX2_init lX4_1 rfl rfl (Nat.le_of_ble_eq_true rfl) (Nat.le_refl _) (Nat.le_refl _) dX4_init_2 (v_X2_init_9 hT ?_)
  exact jd_vret (pc := 5) rfl dX4_init_5 h
theorem v_X0_init_0 {G : jdG} {n : Nat} {Z : jdL} {I : jdI} {J : jdJ} {Q : jdQ} {t : Nat} {x : Int32} (hT : Z.1 t = some (0 + 10, 0)) (h : Q none Z (uI I t 0 x) J) : Cl G mX0_init (n + 3) 0 0 [.ref (gb G + t), .int x] Z I J Q := by
  refine Cl.of (by decide +kernel) (Nat.le_of_ble_eq_true rfl) ?_
  refine jd_aload_n (pc := 0) 0 dX0_init_0 rfl rfl ?_
  refine jd_iload_n (pc := 1) 1 dX0_init_1 rfl rfl ?_
  refine jd_callI (pc := 2) (M2 := mX1_init) (id := t) (mc := 0) (ms := 0) (rc2 := 0) (rs2 := 0) (av := [.int x]) kX1_init sX1_init lX0_1 rfl rfl (Nat.le_of_ble_eq_true rfl) (Nat.le_refl _) (Nat.le_refl _) dX0_init_2 (v_X1_init_0 hT ?_)
  exact jd_vret (pc := 5) rfl dX0_init_5 h
theorem v_X7_init_6 {G : jdG} {n : Nat} {Z : jdL} {I : jdI} {J : jdJ} {Q : jdQ} {t : Nat} {x : Int32} (hT : Z.1 t = some (6 + 10, 0)) (h : Q none Z (uI I t 0 x) J) : Cl G mX7_init (n + 3) 0 0 [.ref (gb G + t), .int x] Z I J Q := by
  refine Cl.of (by decide +kernel) (Nat.le_of_ble_eq_true rfl) ?_
  refine jd_aload_n (pc := 0) 0 dX7_init_0 rfl rfl ?_
  refine jd_iload_n (pc := 1) 1 dX7_init_1 rfl rfl ?_
  refine jd_callI (pc := 2) (M2 := mX1_init) (id := t) (mc := 0) (ms := 0) (rc2 := 0) (rs2 := 0) (av := [.int x]) kX1_init sX1_init lX7_1 rfl rfl (Nat.le_of_ble_eq_true rfl) (Nat.le_refl _) (Nat.le_refl _) dX7_init_2 (v_X1_init_6 hT ?_)
  exact jd_vret (pc := 5) rfl dX7_init_5 h
theorem v_X10_init_9 {G : jdG} {n : Nat} {Z : jdL} {I : jdI} {J : jdJ} {Q : jdQ} {t : Nat} {x : Int32} (hT : Z.1 t = some (9 + 10, 0)) (h : Q none Z (uI I t 0 x) J) : Cl G mX10_init (n + 3) 0 0 [.ref (gb G + t), .int x] Z I J Q := by
  refine Cl.of (by decide +kernel) (Nat.le_of_ble_eq_true rfl) ?_
  refine jd_aload_n (pc := 0) 0 dX10_init_0 rfl rfl ?_
  refine jd_iload_n (pc := 1) 1 dX10_init_1 rfl rfl ?_
  refine jd_callI (pc := 2) (M2 := mX4_init) (id := t) (mc := 0) (ms := 0) (rc2 := 0) (rs2 := 0) (av := [.int x]) kX4_init sX4_init lX10_1 rfl rfl (Nat.le_of_ble_eq_true rfl) (Nat.le_refl _) (Nat.le_refl _) dX10_init_2 (v_X4_init_9 hT ?_)
  exact jd_vret (pc := 5) rfl dX10_init_5 h
theorem w_X9_init {G : jdG} {n : Nat} {Z : jdL} {t : Nat} {I : jdI} {J : jdJ} {Q : jdQ} (hz : Z.2.2 = t + 1) (hT0 : Z.1 t = some (8 + 10, 0)) (h : Q none (kTownZ Z t) (kTownI I t) (kTownJ J t)) : Cl G mX9_init (n + 1) 3 63 [.ref (gb G + t)] Z I J Q := by
  obtain ⟨T, P, nx⟩ := Z
  have hz : nx = t + 1 := hz
  subst hz
  exact v_X9_init hT0 h
theorem w_X8_init {G : jdG} {n : Nat} {Z : jdL} {t : Nat} {I : jdI} {J : jdJ} {Q : jdQ} (hz : Z.2.2 = t + 1) (hT0 : Z.1 t = some (7 + 10, 0)) (h : Q none (kTiesZ Z t) (kTiesI I t) (kTiesJ J t)) : Cl G mX8_init (n + 1) 6 440 [.ref (gb G + t)] Z I J Q := by
  obtain ⟨T, P, nx⟩ := Z
  have hz : nx = t + 1 := hz
  subst hz
  exact v_X8_init hT0 h
theorem w_X3_init {G : jdG} {n : Nat} {Z : jdL} {t : Nat} {I : jdI} {J : jdJ} {Q : jdQ} (hz : Z.2.2 = t + 1) (hT0 : Z.1 t = some (2 + 10, 0)) (h : Q none (kDayZ Z t) (kDayI I t) (kDayJ J t)) : Cl G mX3_init (n + 1) 4 212 [.ref (gb G + t)] Z I J Q := by
  obtain ⟨T, P, nx⟩ := Z
  have hz : nx = t + 1 := hz
  subst hz
  exact v_X3_init hT0 h
theorem w_X5_init {G : jdG} {n : Nat} {Z : jdL} {t : Nat} {I : jdI} {J : jdJ} {Q : jdQ} (hz : Z.2.2 = t + 1) (hT0 : Z.1 t = some (4 + 10, 0)) (h : Q none (kScribeZ Z t) (kScribeI I t) (kScribeJ J t)) : Cl G mX5_init (n + 1) 1 250 [.ref (gb G + t)] Z I J Q := by
  obtain ⟨T, P, nx⟩ := Z
  have hz : nx = t + 1 := hz
  subst hz
  exact v_X5_init hT0 h
theorem w_X6_init {G : jdG} {n : Nat} {Z : jdL} {t : Nat} {I : jdI} {J : jdJ} {Q : jdQ} (hz : Z.2.2 = t + 1) (hT0 : Z.1 t = some (5 + 10, 0)) (h : Q none (kShelfZ Z t) (kShelfI I t) (kShelfJ J t)) : Cl G mX6_init (n + 1) 1 40 [.ref (gb G + t)] Z I J Q := by
  obtain ⟨T, P, nx⟩ := Z
  have hz : nx = t + 1 := hz
  subst hz
  exact v_X6_init hT0 h
theorem w_X12_init {G : jdG} {n : Nat} {Z : jdL} {t : Nat} {I : jdI} {J : jdJ} {Q : jdQ} {sA sV : Nat → Nat} (hG : gOK G sA sV) (hz : Z.2.2 = t + 1) (hT0 : Z.1 t = some (11 + 10, 0)) (h : Q none (kModelZ Z t) (kModelI I t) (kModelJ J t)) : Cl G mX12_init (n + 1) 37 1901 [.ref (gb G + t)] Z I J Q := by
  obtain ⟨T, P, nx⟩ := Z
  have hz : nx = t + 1 := hz
  subst hz
  exact v_X12_init hG hT0 h
section NE
variable {G : jdG} {M : jdM} {F : jdF} {n rc rs pc : Nat} {lv : List (Nat × Value)} {st : List Value} {Z : jdL} {I : jdI} {J : jdJ}
theorem jd_newE {ci index N rc2 rs2 b : Nat} (hz : Z.2.2 = b) (hf : jdNw ci M.1.cls index N) (hb1 : 1 + rc2 ≤ rc) (hb2 : N + rs2 ≤ rs) (hdg : decode M.2.1 pc = .ok (.new index, 3)) (kk : Jd G M F n rc2 rs2 (pc + 3) lv (.ref (gb G + b) :: st) (nZ Z (ci + 10, 0)) (zI I b) J) : Jd G M F n rc rs pc lv st Z I J := by
  subst hz
  exact jd_new hf hb1 hb2 hdg kk
theorem jd_newIE {rc2 rs2 len b : Nat} {x : Int32} (hz : Z.2.2 = b) (hw : Cond.arrayClass .int ∈ jdW) (hx : ¬ x < 0) (hx2 : x.toNatClampNeg = len) (hlen : len * 4 ≤ 536870912) (hb1 : 1 + rc2 ≤ rc) (hb2 : len + rs2 ≤ rs) (hdg : decode M.2.1 pc = .ok (.newarray .int, 2)) (kk : Jd G M F n rc2 rs2 (pc + 2) lv (.ref (gb G + b) :: st) (nZ Z (0, len)) (zI I b) J) : Jd G M F n rc rs pc lv (.int x :: st) Z I J := by
  subst hz
  exact jd_newI hw hx hx2 hlen hb1 hb2 hdg kk
theorem jd_anewE {rc2 rs2 len index b : Nat} {x : Int32} (hz : Z.2.2 = b) (hw : Cond.classLink M.1.cls index RX6 ∈ jdW) (hX : ∀ U, G.2.2.2.2 U → va_AO RX6 U) (hx : ¬ x < 0) (hx2 : x.toNatClampNeg = len) (hlen : len * 4 ≤ 536870912) (hb1 : 1 + rc2 ≤ rc) (hb2 : len + rs2 ≤ rs) (hdg : decode M.2.1 pc = .ok (.anewarray index, 3)) (kk : Jd G M F n rc2 rs2 (pc + 3) lv (.ref (gb G + b) :: st) (nZ Z (4, len)) I J) : Jd G M F n rc rs pc lv (.int x :: st) Z I J := by
  subst hz
  exact jd_anew hw hX hx hx2 hlen hb1 hb2 hdg kk
end NE
def kXZ (Z : jdL) : jdL := (uP (kShelfZ (nZ (uP (kShelfZ (nZ (uP (kShelfZ (nZ (uP (kShelfZ (nZ (uP (kShelfZ (nZ (uP (kShelfZ (nZ (uP (kShelfZ (nZ (uP (kShelfZ (nZ (uP (nZ (uP (nZ (uP (kScribeZ (nZ (uP (kDayZ (nZ (uP (kTiesZ (nZ (uP (kTownZ (nZ (uP (kTownZ (nZ (uP (kTownZ (nZ Z (8 + 10, 0)) 1) 0 0 (some 1)) (8 + 10, 0)) 5) 0 1 (some 5)) (8 + 10, 0)) 9) 0 2 (some 9)) (7 + 10, 0)) 13) 0 3 (some 13)) (2 + 10, 0)) 20) 0 4 (some 20)) (4 + 10, 0)) 25) 0 5 (some 25)) (4, 8)) 0 6 (some 27)) (0, 7)) 0 7 (some 28)) (5 + 10, 0)) 29) 27 0 (some 29)) (5 + 10, 0)) 31) 27 1 (some 31)) (5 + 10, 0)) 33) 27 2 (some 33)) (5 + 10, 0)) 35) 27 3 (some 35)) (5 + 10, 0)) 37) 27 4 (some 37)) (5 + 10, 0)) 39) 27 5 (some 39)) (5 + 10, 0)) 41) 27 6 (some 41)) (5 + 10, 0)) 43) 27 7 (some 43))
def kXI (I : jdI) : jdI := (kShelfI (zI (kShelfI (zI (kShelfI (zI (kShelfI (zI (kShelfI (zI (kShelfI (zI (kShelfI (zI (kShelfI (zI (zI (kScribeI (zI (kDayI (zI (kTiesI (zI (kTownI (zI (kTownI (zI (kTownI (zI I 1) 1) 5) 5) 9) 9) 13) 13) 20) 20) 25) 25) 28) 29) 29) 31) 31) 33) 33) 35) 35) 37) 37) 39) 39) 41) 41) 43) 43)
def kXJ (J : jdJ) : jdJ := (kShelfJ (kShelfJ (kShelfJ (kShelfJ (kShelfJ (kShelfJ (kShelfJ (kShelfJ (kScribeJ (kDayJ (kTiesJ (kTownJ (kTownJ (kTownJ J 1) 5) 9) 13) 20) 25) 29) 31) 33) 35) 37) 39) 41) 43)
set_option maxRecDepth 20000 in
set_option maxHeartbeats 8000000 in
theorem v_X11_init {G : jdG} {n : Nat} {T : Nat → Option (Nat × Nat)} {P : Nat → Nat → Option Nat} {I : jdI} {J : jdJ} {Q : jdQ} {sA sV : Nat → Nat} (hG : gOK G sA sV) (hT : T 0 = some (10 + 10, 0)) (h : Q none (kXZ (T, P, 1)) (kXI I) (kXJ J)) : Cl G mX11_init (n + 2) 44 1512 [.ref (gb G + 0)] (T, P, 1) I J Q := by
  refine Cl.of (by decide +kernel) (Nat.le_of_ble_eq_true rfl) ?_
  refine jd_aload_n (pc := 0) 0 dX11_init_0 rfl rfl ?_
  refine jd_objInit (pc := 1) oX11_1 (Nat.le_of_ble_eq_true rfl) dX11_init_1 ?_
  refine jd_aload_n (pc := 4) 0 dX11_init_4 rfl rfl ?_
  refine jd_newE (pc := 5) (b := 1) (rc2 := 43) (rs2 := 1502) (ci := 8) (N := 10) rfl nX11_7 (by decide) (by decide) dX11_init_5 ?_
  refine jd_dup (pc := 8) dX11_init_8 rfl ?_
  refine jd_callIN (pc := 9) (M2 := mX9_init) (id := 1) (mc := 3) (ms := 63) (rc2 := 40) (rs2 := 1439) (av := []) kX9_init sX9_init (fun U hU => (gOK_nest hG U hU).1) rfl rfl (Nat.le_of_ble_eq_true rfl) (by decide) (by decide) dX11_init_9 (w_X9_init (t := 1) rfl rfl ?_)
  refine jd_putFR (pc := 12) (ci := 10) (k := 0) (r := 1) rfl pX11_10 hT rfl rfl rfl dX11_init_12 ?_
  refine jd_aload_n (pc := 15) 0 dX11_init_15 rfl rfl ?_
  refine jd_newE (pc := 16) (b := 5) (rc2 := 39) (rs2 := 1429) (ci := 8) (N := 10) rfl nX11_7 (by decide) (by decide) dX11_init_16 ?_
  refine jd_dup (pc := 19) dX11_init_19 rfl ?_
  refine jd_callIN (pc := 20) (M2 := mX9_init) (id := 5) (mc := 3) (ms := 63) (rc2 := 36) (rs2 := 1366) (av := []) kX9_init sX9_init (fun U hU => (gOK_nest hG U hU).1) rfl rfl (Nat.le_of_ble_eq_true rfl) (by decide) (by decide) dX11_init_20 (w_X9_init (t := 5) rfl rfl ?_)
  refine jd_putFR (pc := 23) (ci := 10) (k := 1) (r := 5) rfl pX11_16 hT rfl rfl rfl dX11_init_23 ?_
  refine jd_aload_n (pc := 26) 0 dX11_init_26 rfl rfl ?_
  refine jd_newE (pc := 27) (b := 9) (rc2 := 35) (rs2 := 1356) (ci := 8) (N := 10) rfl nX11_7 (by decide) (by decide) dX11_init_27 ?_
  refine jd_dup (pc := 30) dX11_init_30 rfl ?_
  refine jd_callIN (pc := 31) (M2 := mX9_init) (id := 9) (mc := 3) (ms := 63) (rc2 := 32) (rs2 := 1293) (av := []) kX9_init sX9_init (fun U hU => (gOK_nest hG U hU).1) rfl rfl (Nat.le_of_ble_eq_true rfl) (by decide) (by decide) dX11_init_31 (w_X9_init (t := 9) rfl rfl ?_)
  refine jd_putFR (pc := 34) (ci := 10) (k := 2) (r := 9) rfl pX11_19 hT rfl rfl rfl dX11_init_34 ?_
  refine jd_aload_n (pc := 37) 0 dX11_init_37 rfl rfl ?_
  refine jd_newE (pc := 38) (b := 13) (rc2 := 31) (rs2 := 1282) (ci := 7) (N := 11) rfl nX11_22 (by decide) (by decide) dX11_init_38 ?_
  refine jd_dup (pc := 41) dX11_init_41 rfl ?_
  refine jd_callIN (pc := 42) (M2 := mX8_init) (id := 13) (mc := 6) (ms := 440) (rc2 := 25) (rs2 := 842) (av := []) kX8_init sX8_init (fun U hU => (gOK_nest hG U hU).2.1) rfl rfl (Nat.le_of_ble_eq_true rfl) (by decide) (by decide) dX11_init_42 (w_X8_init (t := 13) rfl rfl ?_)
  refine jd_putFR (pc := 45) (ci := 10) (k := 3) (r := 13) rfl pX11_25 hT rfl rfl rfl dX11_init_45 ?_
  refine jd_aload_n (pc := 48) 0 dX11_init_48 rfl rfl ?_
  refine jd_newE (pc := 49) (b := 20) (rc2 := 24) (rs2 := 835) (ci := 2) (N := 7) rfl nX11_29 (by decide) (by decide) dX11_init_49 ?_
  refine jd_dup (pc := 52) dX11_init_52 rfl ?_
  refine jd_callIN (pc := 53) (M2 := mX3_init) (id := 20) (mc := 4) (ms := 212) (rc2 := 20) (rs2 := 623) (av := []) kX3_init sX3_init (fun U hU => (gOK_nest hG U hU).2.2.1) rfl rfl (Nat.le_of_ble_eq_true rfl) (by decide) (by decide) dX11_init_53 (w_X3_init (t := 20) rfl rfl ?_)
  refine jd_putFR (pc := 56) (ci := 10) (k := 4) (r := 20) rfl pX11_32 hT rfl rfl rfl dX11_init_56 ?_
  refine jd_aload_n (pc := 59) 0 dX11_init_59 rfl rfl ?_
  refine jd_newE (pc := 60) (b := 25) (rc2 := 19) (rs2 := 617) (ci := 4) (N := 6) rfl nX11_36 (by decide) (by decide) dX11_init_60 ?_
  refine jd_dup (pc := 63) dX11_init_63 rfl ?_
  refine jd_callIN (pc := 64) (M2 := mX5_init) (id := 25) (mc := 1) (ms := 250) (rc2 := 18) (rs2 := 367) (av := []) kX5_init sX5_init (fun U hU => (gOK_nest hG U hU).2.2.2.1) rfl rfl (Nat.le_of_ble_eq_true rfl) (by decide) (by decide) dX11_init_64 (w_X5_init (t := 25) rfl rfl ?_)
  refine jd_putFR (pc := 67) (ci := 10) (k := 5) (r := 25) rfl pX11_39 hT rfl rfl rfl dX11_init_67 ?_
  refine jd_aload_n (pc := 70) 0 dX11_init_70 rfl rfl ?_
  refine jd_bipush (pc := 71) (v := 8) dX11_init_71 (by decide) ?_
  refine jd_anewE (pc := 73) (b := 27) (rc2 := 17) (rs2 := 359) (len := 8) rfl hX11_43 (fun U hU => gOK_ao hG U hU) (by decide) (by decide) (by decide) (by decide) (by decide) dX11_init_73 ?_
  refine jd_putFR (pc := 76) (ci := 10) (k := 6) (r := 27) rfl pX11_45 hT rfl rfl rfl dX11_init_76 ?_
  refine jd_aload_n (pc := 79) 0 dX11_init_79 rfl rfl ?_
  refine jd_bipush (pc := 80) (v := 7) dX11_init_80 (by decide) ?_
  refine jd_newIE (pc := 82) (b := 28) (rc2 := 16) (rs2 := 352) (len := 7) rfl w_aI (by decide) (by decide) (by decide) (by decide) (by decide) dX11_init_82 ?_
  refine jd_putFR (pc := 84) (ci := 10) (k := 7) (r := 28) rfl pX11_49 hT rfl rfl rfl dX11_init_84 ?_
  refine jd_iconst (pc := 87) (v := 0) dX11_init_87 (by decide) ?_
  refine jd_istore_n (pc := 88) [(1, .int 0), (0, .ref (gb G + 0))] dX11_init_88 rfl (by decide) rfl ?_
  refine jd_iload_n (pc := 89) 0 dX11_init_89 rfl rfl ?_
  refine jd_bipush (pc := 90) (v := 8) dX11_init_90 (by decide) ?_
  refine jd_icmp_ge (pc := 92) 114 dX11_init_92 (by decide) (fun hc => absurd hc (by decide)) (fun _ => ?_)
  refine jd_aload_n (pc := 95) 1 dX11_init_95 rfl rfl ?_
  refine jd_getR (pc := 96) (ci := 10) (k := 6) (r := 27) gX11_45 hT rfl rfl dX11_init_96 ?_
  refine jd_iload_n (pc := 99) 0 dX11_init_99 rfl rfl ?_
  refine jd_newE (pc := 100) (b := 29) (rc2 := 15) (rs2 := 348) (ci := 5) (N := 4) rfl nX11_43 (by decide) (by decide) dX11_init_100 ?_
  refine jd_dup (pc := 103) dX11_init_103 rfl ?_
  refine jd_callIN (pc := 104) (M2 := mX6_init) (id := 29) (mc := 1) (ms := 40) (rc2 := 14) (rs2 := 308) (av := []) kX6_init sX6_init (fun U hU => (gOK_nest hG U hU).2.2.2.2) rfl rfl (Nat.le_of_ble_eq_true rfl) (by decide) (by decide) dX11_init_104 (w_X6_init (t := 29) rfl rfl ?_)
  refine jd_aast (pc := 107) (id := 27) (len := 8) (r := 29) (ci := 5) (N := 4) (T := TX6) rfl rfl (by unfold vp_in; decide) dX11_init_107 ?_
  refine jd_iinc (pc := 108) (v := 1) 0 [(1, .int 1), (0, .ref (gb G + 0))] dX11_init_108 rfl (by decide) (by decide) rfl ?_
  refine jd_goto (pc := 111) 89 dX11_init_111 (by decide) ?_
  refine jd_iload_n (pc := 89) 0 dX11_init_89 rfl rfl ?_
  refine jd_bipush (pc := 90) (v := 8) dX11_init_90 (by decide) ?_
  refine jd_icmp_ge (pc := 92) 114 dX11_init_92 (by decide) (fun hc => absurd hc (by decide)) (fun _ => ?_)
  refine jd_aload_n (pc := 95) 1 dX11_init_95 rfl rfl ?_
  refine jd_getR (pc := 96) (ci := 10) (k := 6) (r := 27) gX11_45 hT rfl rfl dX11_init_96 ?_
  refine jd_iload_n (pc := 99) 0 dX11_init_99 rfl rfl ?_
  refine jd_newE (pc := 100) (b := 31) (rc2 := 13) (rs2 := 304) (ci := 5) (N := 4) rfl nX11_43 (by decide) (by decide) dX11_init_100 ?_
  refine jd_dup (pc := 103) dX11_init_103 rfl ?_
  refine jd_callIN (pc := 104) (M2 := mX6_init) (id := 31) (mc := 1) (ms := 40) (rc2 := 12) (rs2 := 264) (av := []) kX6_init sX6_init (fun U hU => (gOK_nest hG U hU).2.2.2.2) rfl rfl (Nat.le_of_ble_eq_true rfl) (by decide) (by decide) dX11_init_104 (w_X6_init (t := 31) rfl rfl ?_)
  refine jd_aast (pc := 107) (id := 27) (len := 8) (r := 31) (ci := 5) (N := 4) (T := TX6) rfl rfl (by unfold vp_in; decide) dX11_init_107 ?_
  refine jd_iinc (pc := 108) (v := 2) 0 [(1, .int 2), (0, .ref (gb G + 0))] dX11_init_108 rfl (by decide) (by decide) rfl ?_
  refine jd_goto (pc := 111) 89 dX11_init_111 (by decide) ?_
  refine jd_iload_n (pc := 89) 0 dX11_init_89 rfl rfl ?_
  refine jd_bipush (pc := 90) (v := 8) dX11_init_90 (by decide) ?_
  refine jd_icmp_ge (pc := 92) 114 dX11_init_92 (by decide) (fun hc => absurd hc (by decide)) (fun _ => ?_)
  refine jd_aload_n (pc := 95) 1 dX11_init_95 rfl rfl ?_
  refine jd_getR (pc := 96) (ci := 10) (k := 6) (r := 27) gX11_45 hT rfl rfl dX11_init_96 ?_
  refine jd_iload_n (pc := 99) 0 dX11_init_99 rfl rfl ?_
  refine jd_newE (pc := 100) (b := 33) (rc2 := 11) (rs2 := 260) (ci := 5) (N := 4) rfl nX11_43 (by decide) (by decide) dX11_init_100 ?_
  refine jd_dup (pc := 103) dX11_init_103 rfl ?_
  refine jd_callIN (pc := 104) (M2 := mX6_init) (id := 33) (mc := 1) (ms := 40) (rc2 := 10) (rs2 := 220) (av := []) kX6_init sX6_init (fun U hU => (gOK_nest hG U hU).2.2.2.2) rfl rfl (Nat.le_of_ble_eq_true rfl) (by decide) (by decide) dX11_init_104 (w_X6_init (t := 33) rfl rfl ?_)
  refine jd_aast (pc := 107) (id := 27) (len := 8) (r := 33) (ci := 5) (N := 4) (T := TX6) rfl rfl (by unfold vp_in; decide) dX11_init_107 ?_
  refine jd_iinc (pc := 108) (v := 3) 0 [(1, .int 3), (0, .ref (gb G + 0))] dX11_init_108 rfl (by decide) (by decide) rfl ?_
  refine jd_goto (pc := 111) 89 dX11_init_111 (by decide) ?_
  refine jd_iload_n (pc := 89) 0 dX11_init_89 rfl rfl ?_
  refine jd_bipush (pc := 90) (v := 8) dX11_init_90 (by decide) ?_
  refine jd_icmp_ge (pc := 92) 114 dX11_init_92 (by decide) (fun hc => absurd hc (by decide)) (fun _ => ?_)
  refine jd_aload_n (pc := 95) 1 dX11_init_95 rfl rfl ?_
  refine jd_getR (pc := 96) (ci := 10) (k := 6) (r := 27) gX11_45 hT rfl rfl dX11_init_96 ?_
  refine jd_iload_n (pc := 99) 0 dX11_init_99 rfl rfl ?_
  refine jd_newE (pc := 100) (b := 35) (rc2 := 9) (rs2 := 216) (ci := 5) (N := 4) rfl nX11_43 (by decide) (by decide) dX11_init_100 ?_
  refine jd_dup (pc := 103) dX11_init_103 rfl ?_
  refine jd_callIN (pc := 104) (M2 := mX6_init) (id := 35) (mc := 1) (ms := 40) (rc2 := 8) (rs2 := 176) (av := []) kX6_init sX6_init (fun U hU => (gOK_nest hG U hU).2.2.2.2) rfl rfl (Nat.le_of_ble_eq_true rfl) (by decide) (by decide) dX11_init_104 (w_X6_init (t := 35) rfl rfl ?_)
  refine jd_aast (pc := 107) (id := 27) (len := 8) (r := 35) (ci := 5) (N := 4) (T := TX6) rfl rfl (by unfold vp_in; decide) dX11_init_107 ?_
  refine jd_iinc (pc := 108) (v := 4) 0 [(1, .int 4), (0, .ref (gb G + 0))] dX11_init_108 rfl (by decide) (by decide) rfl ?_
  refine jd_goto (pc := 111) 89 dX11_init_111 (by decide) ?_
  refine jd_iload_n (pc := 89) 0 dX11_init_89 rfl rfl ?_
  refine jd_bipush (pc := 90) (v := 8) dX11_init_90 (by decide) ?_
  refine jd_icmp_ge (pc := 92) 114 dX11_init_92 (by decide) (fun hc => absurd hc (by decide)) (fun _ => ?_)
  refine jd_aload_n (pc := 95) 1 dX11_init_95 rfl rfl ?_
  refine jd_getR (pc := 96) (ci := 10) (k := 6) (r := 27) gX11_45 hT rfl rfl dX11_init_96 ?_
  refine jd_iload_n (pc := 99) 0 dX11_init_99 rfl rfl ?_
  refine jd_newE (pc := 100) (b := 37) (rc2 := 7) (rs2 := 172) (ci := 5) (N := 4) rfl nX11_43 (by decide) (by decide) dX11_init_100 ?_
  refine jd_dup (pc := 103) dX11_init_103 rfl ?_
  refine jd_callIN (pc := 104) (M2 := mX6_init) (id := 37) (mc := 1) (ms := 40) (rc2 := 6) (rs2 := 132) (av := []) kX6_init sX6_init (fun U hU => (gOK_nest hG U hU).2.2.2.2) rfl rfl (Nat.le_of_ble_eq_true rfl) (by decide) (by decide) dX11_init_104 (w_X6_init (t := 37) rfl rfl ?_)
  refine jd_aast (pc := 107) (id := 27) (len := 8) (r := 37) (ci := 5) (N := 4) (T := TX6) rfl rfl (by unfold vp_in; decide) dX11_init_107 ?_
  refine jd_iinc (pc := 108) (v := 5) 0 [(1, .int 5), (0, .ref (gb G + 0))] dX11_init_108 rfl (by decide) (by decide) rfl ?_
  refine jd_goto (pc := 111) 89 dX11_init_111 (by decide) ?_
  refine jd_iload_n (pc := 89) 0 dX11_init_89 rfl rfl ?_
  refine jd_bipush (pc := 90) (v := 8) dX11_init_90 (by decide) ?_
  refine jd_icmp_ge (pc := 92) 114 dX11_init_92 (by decide) (fun hc => absurd hc (by decide)) (fun _ => ?_)
  refine jd_aload_n (pc := 95) 1 dX11_init_95 rfl rfl ?_
  refine jd_getR (pc := 96) (ci := 10) (k := 6) (r := 27) gX11_45 hT rfl rfl dX11_init_96 ?_
  refine jd_iload_n (pc := 99) 0 dX11_init_99 rfl rfl ?_
  refine jd_newE (pc := 100) (b := 39) (rc2 := 5) (rs2 := 128) (ci := 5) (N := 4) rfl nX11_43 (by decide) (by decide) dX11_init_100 ?_
  refine jd_dup (pc := 103) dX11_init_103 rfl ?_
  refine jd_callIN (pc := 104) (M2 := mX6_init) (id := 39) (mc := 1) (ms := 40) (rc2 := 4) (rs2 := 88) (av := []) kX6_init sX6_init (fun U hU => (gOK_nest hG U hU).2.2.2.2) rfl rfl (Nat.le_of_ble_eq_true rfl) (by decide) (by decide) dX11_init_104 (w_X6_init (t := 39) rfl rfl ?_)
  refine jd_aast (pc := 107) (id := 27) (len := 8) (r := 39) (ci := 5) (N := 4) (T := TX6) rfl rfl (by unfold vp_in; decide) dX11_init_107 ?_
  refine jd_iinc (pc := 108) (v := 6) 0 [(1, .int 6), (0, .ref (gb G + 0))] dX11_init_108 rfl (by decide) (by decide) rfl ?_
  refine jd_goto (pc := 111) 89 dX11_init_111 (by decide) ?_
  refine jd_iload_n (pc := 89) 0 dX11_init_89 rfl rfl ?_
  refine jd_bipush (pc := 90) (v := 8) dX11_init_90 (by decide) ?_
  refine jd_icmp_ge (pc := 92) 114 dX11_init_92 (by decide) (fun hc => absurd hc (by decide)) (fun _ => ?_)
  refine jd_aload_n (pc := 95) 1 dX11_init_95 rfl rfl ?_
  refine jd_getR (pc := 96) (ci := 10) (k := 6) (r := 27) gX11_45 hT rfl rfl dX11_init_96 ?_
  refine jd_iload_n (pc := 99) 0 dX11_init_99 rfl rfl ?_
  refine jd_newE (pc := 100) (b := 41) (rc2 := 3) (rs2 := 84) (ci := 5) (N := 4) rfl nX11_43 (by decide) (by decide) dX11_init_100 ?_
  refine jd_dup (pc := 103) dX11_init_103 rfl ?_
  refine jd_callIN (pc := 104) (M2 := mX6_init) (id := 41) (mc := 1) (ms := 40) (rc2 := 2) (rs2 := 44) (av := []) kX6_init sX6_init (fun U hU => (gOK_nest hG U hU).2.2.2.2) rfl rfl (Nat.le_of_ble_eq_true rfl) (by decide) (by decide) dX11_init_104 (w_X6_init (t := 41) rfl rfl ?_)
  refine jd_aast (pc := 107) (id := 27) (len := 8) (r := 41) (ci := 5) (N := 4) (T := TX6) rfl rfl (by unfold vp_in; decide) dX11_init_107 ?_
  refine jd_iinc (pc := 108) (v := 7) 0 [(1, .int 7), (0, .ref (gb G + 0))] dX11_init_108 rfl (by decide) (by decide) rfl ?_
  refine jd_goto (pc := 111) 89 dX11_init_111 (by decide) ?_
  refine jd_iload_n (pc := 89) 0 dX11_init_89 rfl rfl ?_
  refine jd_bipush (pc := 90) (v := 8) dX11_init_90 (by decide) ?_
  refine jd_icmp_ge (pc := 92) 114 dX11_init_92 (by decide) (fun hc => absurd hc (by decide)) (fun _ => ?_)
  refine jd_aload_n (pc := 95) 1 dX11_init_95 rfl rfl ?_
  refine jd_getR (pc := 96) (ci := 10) (k := 6) (r := 27) gX11_45 hT rfl rfl dX11_init_96 ?_
  refine jd_iload_n (pc := 99) 0 dX11_init_99 rfl rfl ?_
  refine jd_newE (pc := 100) (b := 43) (rc2 := 1) (rs2 := 40) (ci := 5) (N := 4) rfl nX11_43 (by decide) (by decide) dX11_init_100 ?_
  refine jd_dup (pc := 103) dX11_init_103 rfl ?_
  refine jd_callIN (pc := 104) (M2 := mX6_init) (id := 43) (mc := 1) (ms := 40) (rc2 := 0) (rs2 := 0) (av := []) kX6_init sX6_init (fun U hU => (gOK_nest hG U hU).2.2.2.2) rfl rfl (Nat.le_of_ble_eq_true rfl) (by decide) (by decide) dX11_init_104 (w_X6_init (t := 43) rfl rfl ?_)
  refine jd_aast (pc := 107) (id := 27) (len := 8) (r := 43) (ci := 5) (N := 4) (T := TX6) rfl rfl (by unfold vp_in; decide) dX11_init_107 ?_
  refine jd_iinc (pc := 108) (v := 8) 0 [(1, .int 8), (0, .ref (gb G + 0))] dX11_init_108 rfl (by decide) (by decide) rfl ?_
  refine jd_goto (pc := 111) 89 dX11_init_111 (by decide) ?_
  refine jd_iload_n (pc := 89) 0 dX11_init_89 rfl rfl ?_
  refine jd_bipush (pc := 90) (v := 8) dX11_init_90 (by decide) ?_
  refine jd_icmp_ge (pc := 92) 114 dX11_init_92 (by decide) (fun _ => ?_) (fun hc => absurd (show (8 : Int32) ≤ 8 by decide) hc)
  exact jd_vret (pc := 114) rfl dX11_init_114 h
