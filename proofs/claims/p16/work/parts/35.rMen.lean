set_option maxRecDepth 4000 in
theorem rX0_kind_0 {G : jdG} {n rc rs : Nat} {Z : jdL} {I : jdI} {J : jdJ} {K : Int32 → jdI → jdJ → Prop} {t : Nat} (ht : Z.1 t = some (0 + 10, 0)) (h : K 5 I J) : Jd G mX0_kind (jdFm G (qi Z K)) n rc rs 0 [(0, .ref (gb G + t))] [] Z I J := by
  refine jd_iconst (pc := 0) (v := 5) dX0_kind_0 (by decide) ?_
  exact jd_iretK (pc := 1) rfl rfl dX0_kind_1 h
theorem eX0_kind {G : jdG} {n : Nat} {Z : jdL} {I : jdI} {J : jdJ} {K : Int32 → jdI → jdJ → Prop} {t : Nat} (ht : Z.1 t = some (0 + 10, 0)) (h : K 5 I J) : Cl G mX0_kind (n) 0 0 [.ref (gb G + t)] Z I J (qi Z K) :=
  Cl.of (by decide +kernel) (Nat.le_of_ble_eq_true rfl) (rX0_kind_0 ht h)
set_option maxRecDepth 4000 in
theorem rX0_worth_0 {G : jdG} {n rc rs : Nat} {Z : jdL} {I : jdI} {J : jdJ} {K : Int32 → jdI → jdJ → Prop} {t : Nat} {u1 : Nat} {x2 : Int32} {x3 : Int32} (ht : Z.1 t = some (0 + 10, 0)) (hu1 : zTies Z u1) (h : Cl G mX8_mostFrom n 0 0 [.ref (gb G + u1), .int (x2 &&& (x3 ^^^ (-1)))] Z I J (qi Z (fun v2 I1 J1 => K v2 I1 J1))) : Jd G mX0_worth (jdFm G (qi Z K)) (n + 1) rc rs 0 [(0, .ref (gb G + t)), (1, .ref (gb G + u1)), (2, .int x2), (3, .int x3)] [] Z I J := by
  refine jd_aload_n (pc := 0) 1 dX0_worth_0 rfl rfl ?_
  refine jd_iload_n (pc := 1) 2 dX0_worth_1 rfl rfl ?_
  refine jd_iload_n (pc := 2) 3 dX0_worth_2 rfl rfl ?_
  refine jd_iconst (pc := 3) (v := (-1)) dX0_worth_3 (by decide) ?_
  refine jd_ixor (pc := 4) dX0_worth_4 ?_
  refine jd_iand (pc := 5) dX0_worth_5 ?_
  refine jd_callVi (pc := 6) (M2 := mX8_mostFrom) (id := u1) (ci := 7) (T := TX8) (N := 11) (av := [.int (x2 &&& (x3 ^^^ (-1)))]) kX8_mostFrom sX8_mostFrom rfl hu1.1 lX0_7 rfl rfl (Nat.le_of_ble_eq_true rfl) dX0_worth_6 h ?_
  intro v2 I1 J1 h
  exact jd_iretK (pc := 9) rfl rfl dX0_worth_9 h
theorem eX0_worth {G : jdG} {n : Nat} {Z : jdL} {I : jdI} {J : jdJ} {K : Int32 → jdI → jdJ → Prop} {t : Nat} {u1 : Nat} {x2 : Int32} {x3 : Int32} (ht : Z.1 t = some (0 + 10, 0)) (hu1 : zTies Z u1) (h : Cl G mX8_mostFrom n 0 0 [.ref (gb G + u1), .int (x2 &&& (x3 ^^^ (-1)))] Z I J (qi Z (fun v2 I1 J1 => K v2 I1 J1))) : Cl G mX0_worth (n + 1) 0 0 [.ref (gb G + t), .ref (gb G + u1), .int x2, .int x3] Z I J (qi Z K) :=
  Cl.of (by decide +kernel) (Nat.le_of_ble_eq_true rfl) (rX0_worth_0 ht hu1 h)
set_option maxRecDepth 4000 in
theorem rX1_kind_0 {G : jdG} {n rc rs : Nat} {Z : jdL} {I : jdI} {J : jdJ} {K : Int32 → jdI → jdJ → Prop} {t : Nat} (ht : Z.1 t = some (1 + 10, 0)) (h : K 2 I J) : Jd G mX1_kind (jdFm G (qi Z K)) n rc rs 0 [(0, .ref (gb G + t))] [] Z I J := by
  refine jd_iconst (pc := 0) (v := 2) dX1_kind_0 (by decide) ?_
  exact jd_iretK (pc := 1) rfl rfl dX1_kind_1 h
theorem eX1_kind {G : jdG} {n : Nat} {Z : jdL} {I : jdI} {J : jdJ} {K : Int32 → jdI → jdJ → Prop} {t : Nat} (ht : Z.1 t = some (1 + 10, 0)) (h : K 2 I J) : Cl G mX1_kind (n) 0 0 [.ref (gb G + t)] Z I J (qi Z K) :=
  Cl.of (by decide +kernel) (Nat.le_of_ble_eq_true rfl) (rX1_kind_0 ht h)
set_option maxRecDepth 4000 in
theorem rX1_worth_0 {G : jdG} {n rc rs : Nat} {Z : jdL} {I : jdI} {J : jdJ} {K : Int32 → jdI → jdJ → Prop} {t : Nat} {u1 : Nat} {x2 : Int32} {x3 : Int32} (ht : Z.1 t = some (1 + 10, 0)) (hu1 : zTies Z u1) (h : Cl G mX8_costTogether n 0 0 [.ref (gb G + u1), .int x3] Z I J (qi Z (fun v2 I1 J1 => K v2 I1 J1))) : Jd G mX1_worth (jdFm G (qi Z K)) (n + 1) rc rs 0 [(0, .ref (gb G + t)), (1, .ref (gb G + u1)), (2, .int x2), (3, .int x3)] [] Z I J := by
  refine jd_aload_n (pc := 0) 1 dX1_worth_0 rfl rfl ?_
  refine jd_iload_n (pc := 1) 3 dX1_worth_1 rfl rfl ?_
  refine jd_callVi (pc := 2) (M2 := mX8_costTogether) (id := u1) (ci := 7) (T := TX8) (N := 11) (av := [.int x3]) kX8_costTogether sX8_costTogether rfl hu1.1 lX1_7 rfl rfl (Nat.le_of_ble_eq_true rfl) dX1_worth_2 h ?_
  intro v2 I1 J1 h
  exact jd_iretK (pc := 5) rfl rfl dX1_worth_5 h
theorem eX1_worth {G : jdG} {n : Nat} {Z : jdL} {I : jdI} {J : jdJ} {K : Int32 → jdI → jdJ → Prop} {t : Nat} {u1 : Nat} {x2 : Int32} {x3 : Int32} (ht : Z.1 t = some (1 + 10, 0)) (hu1 : zTies Z u1) (h : Cl G mX8_costTogether n 0 0 [.ref (gb G + u1), .int x3] Z I J (qi Z (fun v2 I1 J1 => K v2 I1 J1))) : Cl G mX1_worth (n + 1) 0 0 [.ref (gb G + t), .ref (gb G + u1), .int x2, .int x3] Z I J (qi Z K) :=
  Cl.of (by decide +kernel) (Nat.le_of_ble_eq_true rfl) (rX1_worth_0 ht hu1 h)
set_option maxRecDepth 4000 in
theorem rX1_pick_0 {G : jdG} {n rc rs : Nat} {Z : jdL} {I : jdI} {J : jdJ} {K : Int32 → jdI → jdJ → Prop} {t : Nat} {u1 : Nat} {x2 : Int32} {x3 : Int32} (ht : zCho Z t) (hu1 : zTies Z u1) (h : Jd G mX1_pick (jdFm G (qi Z K)) (n + 1) rc rs 9 [(0, .ref (gb G + t)), (1, .ref (gb G + u1)), (2, .int x2), (3, .int x3), (4, .int 0), (5, .int 0), (6, .int 0)] [] Z I J) : Jd G mX1_pick (jdFm G (qi Z K)) (n + 1) rc rs 0 [(0, .ref (gb G + t)), (1, .ref (gb G + u1)), (2, .int x2), (3, .int x3)] [] Z I J := by
  refine jd_iconst (pc := 0) (v := 0) dX1_pick_0 (by decide) ?_
  refine jd_istore (pc := 1) [(4, .int 0), (0, .ref (gb G + t)), (1, .ref (gb G + u1)), (2, .int x2), (3, .int x3)] dX1_pick_1 (by decide) rfl ?_
  refine jd_iconst (pc := 3) (v := 0) dX1_pick_3 (by decide) ?_
  refine jd_istore (pc := 4) [(5, .int 0), (4, .int 0), (0, .ref (gb G + t)), (1, .ref (gb G + u1)), (2, .int x2), (3, .int x3)] dX1_pick_4 (by decide) rfl ?_
  refine jd_iconst (pc := 6) (v := 0) dX1_pick_6 (by decide) ?_
  refine jd_istore (pc := 7) [(6, .int 0), (5, .int 0), (4, .int 0), (0, .ref (gb G + t)), (1, .ref (gb G + u1)), (2, .int x2), (3, .int x3)] dX1_pick_7 (by decide) rfl ?_
  exact jd_lv (lv2 := [(0, .ref (gb G + t)), (1, .ref (gb G + u1)), (2, .int x2), (3, .int x3), (4, .int 0), (5, .int 0), (6, .int 0)]) [3, 4, 5, 6, 2, 1, 0] rfl h
set_option maxRecDepth 4000 in
theorem rX1_pick_9 {G : jdG} {n rc rs : Nat} {Z : jdL} {I : jdI} {J : jdJ} {K : Int32 → jdI → jdJ → Prop} {u1 : Nat} {t : Nat} {x2 : Int32} {x3 : Int32} {x4 : Int32} {x5 : Int32} {x6 : Int32} (ht : zCho Z t) (hu1 : zTies Z u1) (h : (((I u1 8) ≤ x6 → K x4 I J) ∧ (¬ (I u1 8) ≤ x6 → (vp_in x6 70 ∧ ((¬ ((I (u1 + 3) (Int32.toNatClampNeg x6)) &&& x2) = (I (u1 + 3) (Int32.toNatClampNeg x6)) → Jd G mX1_pick (jdFm G (qi Z K)) (n + 1) rc rs 9 [(0, .ref (gb G + t)), (1, .ref (gb G + u1)), (2, .int x2), (3, .int x3), (4, .int x4), (5, .int x5), (6, .int (x6 + 1))] [] Z I J) ∧ (((I (u1 + 3) (Int32.toNatClampNeg x6)) &&& x2) = (I (u1 + 3) (Int32.toNatClampNeg x6)) → (∀ q ∈ a_worth, (Z).1 t = some (q.1 + 10, 0) → Cl G q.2 n 0 0 [.ref (gb G + t), .ref (gb G + u1), .int x2, .int (I (u1 + 3) (Int32.toNatClampNeg x6))] Z I J (qi Z (fun v3 I2 J2 => ((x4 = 0 → Jd G mX1_pick (jdFm G (qi Z K)) (n + 1) rc rs 9 [(0, .ref (gb G + t)), (1, .ref (gb G + u1)), (2, .int x2), (3, .int x3), (4, .int (I (u1 + 3) (Int32.toNatClampNeg x6))), (5, .int v3), (6, .int (x6 + 1))] [] Z I2 J2) ∧ (¬ x4 = 0 → ((v3 ≤ x5 → Jd G mX1_pick (jdFm G (qi Z K)) (n + 1) rc rs 9 [(0, .ref (gb G + t)), (1, .ref (gb G + u1)), (2, .int x2), (3, .int x3), (4, .int x4), (5, .int x5), (6, .int (x6 + 1))] [] Z I2 J2) ∧ (¬ v3 ≤ x5 → Jd G mX1_pick (jdFm G (qi Z K)) (n + 1) rc rs 9 [(0, .ref (gb G + t)), (1, .ref (gb G + u1)), (2, .int x2), (3, .int x3), (4, .int (I (u1 + 3) (Int32.toNatClampNeg x6))), (5, .int v3), (6, .int (x6 + 1))] [] Z I2 J2))))))))))))) : Jd G mX1_pick (jdFm G (qi Z K)) (n + 1) rc rs 9 [(0, .ref (gb G + t)), (1, .ref (gb G + u1)), (2, .int x2), (3, .int x3), (4, .int x4), (5, .int x5), (6, .int x6)] [] Z I J := by
  refine jd_iload (pc := 9) 6 dX1_pick_9 rfl ?_
  refine jd_aload_n (pc := 11) 1 dX1_pick_11 rfl rfl ?_
  refine jd_getI (pc := 12) (ci := 7) (k := 8) gX1_13 hu1.1 rfl dX1_pick_12 ?_
  refine jd_icmp_ge (pc := 15) 72 dX1_pick_15 (by decide) (fun hc => ?_) (fun hc => ?_)
  · have h := h.1 hc
    refine jd_iload (pc := 72) 4 dX1_pick_72 rfl ?_
    exact jd_iretK (pc := 74) rfl rfl dX1_pick_74 h
  · have h := h.2 hc
    refine jd_aload_n (pc := 18) 1 dX1_pick_18 rfl rfl ?_
    refine jd_getR (pc := 19) (ci := 7) (k := 2) (r := (u1 + 3)) gX1_17 hu1.1 rfl (zTies_p2 hu1) dX1_pick_19 ?_
    refine jd_iload (pc := 22) 6 dX1_pick_22 rfl ?_
    obtain ⟨hv1, h⟩ := h
    refine jd_iald (pc := 24) (len := 70) (zTies_a2 hu1) hv1 dX1_pick_24 ?_
    refine jd_istore (pc := 25) [(7, .int (I (u1 + 3) (Int32.toNatClampNeg x6))), (0, .ref (gb G + t)), (1, .ref (gb G + u1)), (2, .int x2), (3, .int x3), (4, .int x4), (5, .int x5), (6, .int x6)] dX1_pick_25 (by decide) rfl ?_
    refine jd_iload (pc := 27) 0 dX1_pick_27 rfl ?_
    refine jd_iload_n (pc := 29) 3 dX1_pick_29 rfl rfl ?_
    refine jd_iand (pc := 30) dX1_pick_30 ?_
    refine jd_iload (pc := 31) 0 dX1_pick_31 rfl ?_
    refine jd_icmp_ne (pc := 33) 66 dX1_pick_33 (by decide) (fun hc => ?_) (fun hc => ?_)
    · have h := h.1 hc
      refine jd_iinc (pc := 66) (v := (x6 + 1)) 7 [(6, .int (x6 + 1)), (7, .int (I (u1 + 3) (Int32.toNatClampNeg x6))), (0, .ref (gb G + t)), (1, .ref (gb G + u1)), (2, .int x2), (3, .int x3), (4, .int x4), (5, .int x5)] dX1_pick_66 rfl rfl (by decide) rfl ?_
      refine jd_goto (pc := 69) 9 dX1_pick_69 (by decide) ?_
      exact jd_lv (lv2 := [(0, .ref (gb G + t)), (1, .ref (gb G + u1)), (2, .int x2), (3, .int x3), (4, .int x4), (5, .int x5), (6, .int (x6 + 1))]) [2, 3, 4, 5, 6, 7, 0] rfl h
    · have h := h.2 hc
      refine jd_aload_n (pc := 36) 1 dX1_pick_36 rfl rfl ?_
      refine jd_aload_n (pc := 37) 2 dX1_pick_37 rfl rfl ?_
      refine jd_iload_n (pc := 38) 3 dX1_pick_38 rfl rfl ?_
      refine jd_iload (pc := 39) 0 dX1_pick_39 rfl ?_
      refine jd_vworth (pc := 41) (id := t) (av := [.ref (gb G + u1), .int x2, .int (I (u1 + 3) (Int32.toNatClampNeg x6))]) ht lX1_21 rfl rfl (Nat.le_of_ble_eq_true rfl) dX1_pick_41 h ?_
      intro v3 I2 J2 h
      refine jd_istore (pc := 44) [(8, .int v3), (7, .int (I (u1 + 3) (Int32.toNatClampNeg x6))), (0, .ref (gb G + t)), (1, .ref (gb G + u1)), (2, .int x2), (3, .int x3), (4, .int x4), (5, .int x5), (6, .int x6)] dX1_pick_44 (by decide) rfl ?_
      refine jd_iload (pc := 46) 6 dX1_pick_46 rfl ?_
      refine jd_if_eq (pc := 48) 58 dX1_pick_48 (by decide) (fun hc => ?_) (fun hc => ?_)
      · have h := h.1 hc
        refine jd_iload (pc := 58) 1 dX1_pick_58 rfl ?_
        refine jd_istore (pc := 60) [(4, .int (I (u1 + 3) (Int32.toNatClampNeg x6))), (8, .int v3), (7, .int (I (u1 + 3) (Int32.toNatClampNeg x6))), (0, .ref (gb G + t)), (1, .ref (gb G + u1)), (2, .int x2), (3, .int x3), (5, .int x5), (6, .int x6)] dX1_pick_60 (by decide) rfl ?_
        refine jd_iload (pc := 62) 1 dX1_pick_62 rfl ?_
        refine jd_istore (pc := 64) [(5, .int v3), (4, .int (I (u1 + 3) (Int32.toNatClampNeg x6))), (8, .int v3), (7, .int (I (u1 + 3) (Int32.toNatClampNeg x6))), (0, .ref (gb G + t)), (1, .ref (gb G + u1)), (2, .int x2), (3, .int x3), (6, .int x6)] dX1_pick_64 (by decide) rfl ?_
        refine jd_iinc (pc := 66) (v := (x6 + 1)) 8 [(6, .int (x6 + 1)), (5, .int v3), (4, .int (I (u1 + 3) (Int32.toNatClampNeg x6))), (8, .int v3), (7, .int (I (u1 + 3) (Int32.toNatClampNeg x6))), (0, .ref (gb G + t)), (1, .ref (gb G + u1)), (2, .int x2), (3, .int x3)] dX1_pick_66 rfl rfl (by decide) rfl ?_
        refine jd_goto (pc := 69) 9 dX1_pick_69 (by decide) ?_
        exact jd_lv (lv2 := [(0, .ref (gb G + t)), (1, .ref (gb G + u1)), (2, .int x2), (3, .int x3), (4, .int (I (u1 + 3) (Int32.toNatClampNeg x6))), (5, .int v3), (6, .int (x6 + 1))]) [5, 6, 7, 8, 2, 1, 0] rfl h
      · have h := h.2 hc
        refine jd_iload (pc := 51) 0 dX1_pick_51 rfl ?_
        refine jd_iload (pc := 53) 7 dX1_pick_53 rfl ?_
        refine jd_icmp_le (pc := 55) 66 dX1_pick_55 (by decide) (fun hc => ?_) (fun hc => ?_)
        · have h := h.1 hc
          refine jd_iinc (pc := 66) (v := (x6 + 1)) 8 [(6, .int (x6 + 1)), (8, .int v3), (7, .int (I (u1 + 3) (Int32.toNatClampNeg x6))), (0, .ref (gb G + t)), (1, .ref (gb G + u1)), (2, .int x2), (3, .int x3), (4, .int x4), (5, .int x5)] dX1_pick_66 rfl rfl (by decide) rfl ?_
          refine jd_goto (pc := 69) 9 dX1_pick_69 (by decide) ?_
          exact jd_lv (lv2 := [(0, .ref (gb G + t)), (1, .ref (gb G + u1)), (2, .int x2), (3, .int x3), (4, .int x4), (5, .int x5), (6, .int (x6 + 1))]) [3, 4, 5, 6, 7, 8, 0] rfl h
        · have h := h.2 hc
          refine jd_iload (pc := 58) 1 dX1_pick_58 rfl ?_
          refine jd_istore (pc := 60) [(4, .int (I (u1 + 3) (Int32.toNatClampNeg x6))), (8, .int v3), (7, .int (I (u1 + 3) (Int32.toNatClampNeg x6))), (0, .ref (gb G + t)), (1, .ref (gb G + u1)), (2, .int x2), (3, .int x3), (5, .int x5), (6, .int x6)] dX1_pick_60 (by decide) rfl ?_
          refine jd_iload (pc := 62) 1 dX1_pick_62 rfl ?_
          refine jd_istore (pc := 64) [(5, .int v3), (4, .int (I (u1 + 3) (Int32.toNatClampNeg x6))), (8, .int v3), (7, .int (I (u1 + 3) (Int32.toNatClampNeg x6))), (0, .ref (gb G + t)), (1, .ref (gb G + u1)), (2, .int x2), (3, .int x3), (6, .int x6)] dX1_pick_64 (by decide) rfl ?_
          refine jd_iinc (pc := 66) (v := (x6 + 1)) 8 [(6, .int (x6 + 1)), (5, .int v3), (4, .int (I (u1 + 3) (Int32.toNatClampNeg x6))), (8, .int v3), (7, .int (I (u1 + 3) (Int32.toNatClampNeg x6))), (0, .ref (gb G + t)), (1, .ref (gb G + u1)), (2, .int x2), (3, .int x3)] dX1_pick_66 rfl rfl (by decide) rfl ?_
          refine jd_goto (pc := 69) 9 dX1_pick_69 (by decide) ?_
          exact jd_lv (lv2 := [(0, .ref (gb G + t)), (1, .ref (gb G + u1)), (2, .int x2), (3, .int x3), (4, .int (I (u1 + 3) (Int32.toNatClampNeg x6))), (5, .int v3), (6, .int (x6 + 1))]) [5, 6, 7, 8, 2, 1, 0] rfl h
theorem eX1_pick {G : jdG} {n : Nat} {Z : jdL} {I : jdI} {J : jdJ} {K : Int32 → jdI → jdJ → Prop} {t : Nat} {u1 : Nat} {x2 : Int32} {x3 : Int32} (ht : zCho Z t) (hu1 : zTies Z u1) (h : Jd G mX1_pick (jdFm G (qi Z K)) (n + 1) 0 0 9 [(0, .ref (gb G + t)), (1, .ref (gb G + u1)), (2, .int x2), (3, .int x3), (4, .int 0), (5, .int 0), (6, .int 0)] [] Z I J) : Cl G mX1_pick (n + 1) 0 0 [.ref (gb G + t), .ref (gb G + u1), .int x2, .int x3] Z I J (qi Z K) :=
  Cl.of (by decide +kernel) (Nat.le_of_ble_eq_true rfl) (rX1_pick_0 ht hu1 h)
set_option maxRecDepth 4000 in
theorem rX4_kind_0 {G : jdG} {n rc rs : Nat} {Z : jdL} {I : jdI} {J : jdJ} {K : Int32 → jdI → jdJ → Prop} {t : Nat} (ht : Z.1 t = some (3 + 10, 0)) (h : K 1 I J) : Jd G mX4_kind (jdFm G (qi Z K)) n rc rs 0 [(0, .ref (gb G + t))] [] Z I J := by
  refine jd_iconst (pc := 0) (v := 1) dX4_kind_0 (by decide) ?_
  exact jd_iretK (pc := 1) rfl rfl dX4_kind_1 h
theorem eX4_kind {G : jdG} {n : Nat} {Z : jdL} {I : jdI} {J : jdJ} {K : Int32 → jdI → jdJ → Prop} {t : Nat} (ht : Z.1 t = some (3 + 10, 0)) (h : K 1 I J) : Cl G mX4_kind (n) 0 0 [.ref (gb G + t)] Z I J (qi Z K) :=
  Cl.of (by decide +kernel) (Nat.le_of_ble_eq_true rfl) (rX4_kind_0 ht h)
set_option maxRecDepth 4000 in
theorem rX4_pick_0 {G : jdG} {n rc rs : Nat} {Z : jdL} {I : jdI} {J : jdJ} {K : Int32 → jdI → jdJ → Prop} {t : Nat} {u1 : Nat} {x2 : Int32} {x3 : Int32} (ht : Z.1 t = some (3 + 10, 0)) (hu1 : zTies Z u1) (h : Cl G mX8_firstIn n 0 0 [.ref (gb G + u1), .int x2] Z I J (qi Z (fun v2 I1 J1 => K v2 I1 J1))) : Jd G mX4_pick (jdFm G (qi Z K)) (n + 1) rc rs 0 [(0, .ref (gb G + t)), (1, .ref (gb G + u1)), (2, .int x2), (3, .int x3)] [] Z I J := by
  refine jd_aload_n (pc := 0) 1 dX4_pick_0 rfl rfl ?_
  refine jd_iload_n (pc := 1) 2 dX4_pick_1 rfl rfl ?_
  refine jd_callVi (pc := 2) (M2 := mX8_firstIn) (id := u1) (ci := 7) (T := TX8) (N := 11) (av := [.int x2]) kX8_firstIn sX8_firstIn rfl hu1.1 lX4_7 rfl rfl (Nat.le_of_ble_eq_true rfl) dX4_pick_2 h ?_
  intro v2 I1 J1 h
  exact jd_iretK (pc := 5) rfl rfl dX4_pick_5 h
theorem eX4_pick {G : jdG} {n : Nat} {Z : jdL} {I : jdI} {J : jdJ} {K : Int32 → jdI → jdJ → Prop} {t : Nat} {u1 : Nat} {x2 : Int32} {x3 : Int32} (ht : Z.1 t = some (3 + 10, 0)) (hu1 : zTies Z u1) (h : Cl G mX8_firstIn n 0 0 [.ref (gb G + u1), .int x2] Z I J (qi Z (fun v2 I1 J1 => K v2 I1 J1))) : Cl G mX4_pick (n + 1) 0 0 [.ref (gb G + t), .ref (gb G + u1), .int x2, .int x3] Z I J (qi Z K) :=
  Cl.of (by decide +kernel) (Nat.le_of_ble_eq_true rfl) (rX4_pick_0 ht hu1 h)
set_option maxRecDepth 4000 in
theorem rX7_kind_0 {G : jdG} {n rc rs : Nat} {Z : jdL} {I : jdI} {J : jdJ} {K : Int32 → jdI → jdJ → Prop} {t : Nat} (ht : Z.1 t = some (6 + 10, 0)) (h : K 4 I J) : Jd G mX7_kind (jdFm G (qi Z K)) n rc rs 0 [(0, .ref (gb G + t))] [] Z I J := by
  refine jd_iconst (pc := 0) (v := 4) dX7_kind_0 (by decide) ?_
  exact jd_iretK (pc := 1) rfl rfl dX7_kind_1 h
theorem eX7_kind {G : jdG} {n : Nat} {Z : jdL} {I : jdI} {J : jdJ} {K : Int32 → jdI → jdJ → Prop} {t : Nat} (ht : Z.1 t = some (6 + 10, 0)) (h : K 4 I J) : Cl G mX7_kind (n) 0 0 [.ref (gb G + t)] Z I J (qi Z K) :=
  Cl.of (by decide +kernel) (Nat.le_of_ble_eq_true rfl) (rX7_kind_0 ht h)
set_option maxRecDepth 4000 in
theorem rX7_worth_0 {G : jdG} {n rc rs : Nat} {Z : jdL} {I : jdI} {J : jdJ} {K : Int32 → jdI → jdJ → Prop} {t : Nat} {u1 : Nat} {x2 : Int32} {x3 : Int32} (ht : Z.1 t = some (6 + 10, 0)) (hu1 : zTies Z u1) (h : Cl G mX8_strangersTogether n 0 0 [.ref (gb G + u1), .int x3] Z I J (qi Z (fun v2 I1 J1 => K (-v2) I1 J1))) : Jd G mX7_worth (jdFm G (qi Z K)) (n + 1) rc rs 0 [(0, .ref (gb G + t)), (1, .ref (gb G + u1)), (2, .int x2), (3, .int x3)] [] Z I J := by
  refine jd_aload_n (pc := 0) 1 dX7_worth_0 rfl rfl ?_
  refine jd_iload_n (pc := 1) 3 dX7_worth_1 rfl rfl ?_
  refine jd_callVi (pc := 2) (M2 := mX8_strangersTogether) (id := u1) (ci := 7) (T := TX8) (N := 11) (av := [.int x3]) kX8_strangersTogether sX8_strangersTogether rfl hu1.1 lX7_7 rfl rfl (Nat.le_of_ble_eq_true rfl) dX7_worth_2 h ?_
  intro v2 I1 J1 h
  refine jd_ineg (pc := 5) dX7_worth_5 ?_
  exact jd_iretK (pc := 6) rfl rfl dX7_worth_6 h
theorem eX7_worth {G : jdG} {n : Nat} {Z : jdL} {I : jdI} {J : jdJ} {K : Int32 → jdI → jdJ → Prop} {t : Nat} {u1 : Nat} {x2 : Int32} {x3 : Int32} (ht : Z.1 t = some (6 + 10, 0)) (hu1 : zTies Z u1) (h : Cl G mX8_strangersTogether n 0 0 [.ref (gb G + u1), .int x3] Z I J (qi Z (fun v2 I1 J1 => K (-v2) I1 J1))) : Cl G mX7_worth (n + 1) 0 0 [.ref (gb G + t), .ref (gb G + u1), .int x2, .int x3] Z I J (qi Z K) :=
  Cl.of (by decide +kernel) (Nat.le_of_ble_eq_true rfl) (rX7_worth_0 ht hu1 h)
set_option maxRecDepth 4000 in
theorem rX10_kind_0 {G : jdG} {n rc rs : Nat} {Z : jdL} {I : jdI} {J : jdJ} {K : Int32 → jdI → jdJ → Prop} {t : Nat} (ht : Z.1 t = some (9 + 10, 0)) (h : K 3 I J) : Jd G mX10_kind (jdFm G (qi Z K)) n rc rs 0 [(0, .ref (gb G + t))] [] Z I J := by
  refine jd_iconst (pc := 0) (v := 3) dX10_kind_0 (by decide) ?_
  exact jd_iretK (pc := 1) rfl rfl dX10_kind_1 h
theorem eX10_kind {G : jdG} {n : Nat} {Z : jdL} {I : jdI} {J : jdJ} {K : Int32 → jdI → jdJ → Prop} {t : Nat} (ht : Z.1 t = some (9 + 10, 0)) (h : K 3 I J) : Cl G mX10_kind (n) 0 0 [.ref (gb G + t)] Z I J (qi Z K) :=
  Cl.of (by decide +kernel) (Nat.le_of_ble_eq_true rfl) (rX10_kind_0 ht h)
set_option maxRecDepth 4000 in
theorem rX10_pick_0 {G : jdG} {n rc rs : Nat} {Z : jdL} {I : jdI} {J : jdJ} {K : Int32 → jdI → jdJ → Prop} {t : Nat} {u1 : Nat} {x2 : Int32} {x3 : Int32} (ht : Z.1 t = some (9 + 10, 0)) (hu1 : zTies Z u1) (h : ((x3 = 0 → Cl G mX8_firstIn n 0 0 [.ref (gb G + u1), .int x2] Z I J (qi Z (fun v2 I1 J1 => K v2 I1 J1))) ∧ (¬ x3 = 0 → Cl G mJ6_bitCount_0f7a4 n 0 0 [.int x2] Z I J (qi Z (fun v4 I3 J3 => Cl G mX2_number n 0 0 [.ref (gb G + t)] Z I3 J3 (qi Z (fun v6 I5 J5 => ((v4 < v6 → K 0 I5 J5) ∧ (¬ v4 < v6 → Cl G mX8_firstIn n 0 0 [.ref (gb G + u1), .int x2] Z I5 J5 (qi Z (fun v8 I7 J7 => K v8 I7 J7))))))))))) : Jd G mX10_pick (jdFm G (qi Z K)) (n + 1) rc rs 0 [(0, .ref (gb G + t)), (1, .ref (gb G + u1)), (2, .int x2), (3, .int x3)] [] Z I J := by
  refine jd_iload_n (pc := 0) 3 dX10_pick_0 rfl rfl ?_
  refine jd_if_eq (pc := 1) 15 dX10_pick_1 (by decide) (fun hc => ?_) (fun hc => ?_)
  · have h := h.1 hc
    refine jd_iconst (pc := 15) (v := 1) dX10_pick_15 (by decide) ?_
    refine jd_goto (pc := 16) 20 dX10_pick_16 (by decide) ?_
    refine jd_istore (pc := 20) [(4, .int 1), (0, .ref (gb G + t)), (1, .ref (gb G + u1)), (2, .int x2), (3, .int x3)] dX10_pick_20 (by decide) rfl ?_
    refine jd_iload (pc := 22) 0 dX10_pick_22 rfl ?_
    refine jd_if_eq (pc := 24) 35 dX10_pick_24 (by decide) (fun hc => absurd hc (by decide)) (fun _ => ?_)
    refine jd_aload_n (pc := 27) 2 dX10_pick_27 rfl rfl ?_
    refine jd_iload_n (pc := 28) 3 dX10_pick_28 rfl rfl ?_
    refine jd_callVi (pc := 29) (M2 := mX8_firstIn) (id := u1) (ci := 7) (T := TX8) (N := 11) (av := [.int x2]) kX8_firstIn sX8_firstIn rfl hu1.1 lX10_19 rfl rfl (Nat.le_of_ble_eq_true rfl) dX10_pick_29 h ?_
    intro v2 I1 J1 h
    refine jd_goto (pc := 32) 36 dX10_pick_32 (by decide) ?_
    exact jd_iretK (pc := 36) rfl rfl dX10_pick_36 h
  · have h := h.2 hc
    refine jd_iload_n (pc := 4) 2 dX10_pick_4 rfl rfl ?_
    refine jd_callSi (pc := 5) (M2 := mJ6_bitCount_0f7a4) (av := [.int x2]) kJ6_bitCount_0f7a4 sJ6_bitCount_0f7a4 lX10_7 rfl rfl (Nat.le_of_ble_eq_true rfl) dX10_pick_5 h ?_
    intro v4 I3 J3 h
    refine jd_aload_n (pc := 8) 0 dX10_pick_8 rfl rfl ?_
    refine jd_callUi (pc := 9) (M2 := mX2_number) (x := ⟨RX10, "number", "()I"⟩) (owner := RX2) (C := RX10) (id := t) (ci := 9) (T := TX10) (N := 1) (av := []) kX2_number wsn_number ⟨by decide +kernel, by decide +kernel, rfl⟩ (Or.inl ⟨wsn_number.1, _, _, _, kX2_number.1⟩) rfl ht lX10_13 rfl rfl (Nat.le_of_ble_eq_true rfl) dX10_pick_9 h ?_
    intro v6 I5 J5 h
    refine jd_icmp_lt (pc := 12) 19 dX10_pick_12 (by decide) (fun hc => ?_) (fun hc => ?_)
    · have h := h.1 hc
      refine jd_iconst (pc := 19) (v := 0) dX10_pick_19 (by decide) ?_
      refine jd_istore (pc := 20) [(4, .int 0), (0, .ref (gb G + t)), (1, .ref (gb G + u1)), (2, .int x2), (3, .int x3)] dX10_pick_20 (by decide) rfl ?_
      refine jd_iload (pc := 22) 0 dX10_pick_22 rfl ?_
      refine jd_if_eq (pc := 24) 35 dX10_pick_24 (by decide) (fun _ => ?_) (fun hc => absurd (show (0 : Int32) = 0 by decide) hc)
      refine jd_iconst (pc := 35) (v := 0) dX10_pick_35 (by decide) ?_
      exact jd_iretK (pc := 36) rfl rfl dX10_pick_36 h
    · have h := h.2 hc
      refine jd_iconst (pc := 15) (v := 1) dX10_pick_15 (by decide) ?_
      refine jd_goto (pc := 16) 20 dX10_pick_16 (by decide) ?_
      refine jd_istore (pc := 20) [(4, .int 1), (0, .ref (gb G + t)), (1, .ref (gb G + u1)), (2, .int x2), (3, .int x3)] dX10_pick_20 (by decide) rfl ?_
      refine jd_iload (pc := 22) 0 dX10_pick_22 rfl ?_
      refine jd_if_eq (pc := 24) 35 dX10_pick_24 (by decide) (fun hc => absurd hc (by decide)) (fun _ => ?_)
      refine jd_aload_n (pc := 27) 2 dX10_pick_27 rfl rfl ?_
      refine jd_iload_n (pc := 28) 3 dX10_pick_28 rfl rfl ?_
      refine jd_callVi (pc := 29) (M2 := mX8_firstIn) (id := u1) (ci := 7) (T := TX8) (N := 11) (av := [.int x2]) kX8_firstIn sX8_firstIn rfl hu1.1 lX10_19 rfl rfl (Nat.le_of_ble_eq_true rfl) dX10_pick_29 h ?_
      intro v8 I7 J7 h
      refine jd_goto (pc := 32) 36 dX10_pick_32 (by decide) ?_
      exact jd_iretK (pc := 36) rfl rfl dX10_pick_36 h
theorem eX10_pick {G : jdG} {n : Nat} {Z : jdL} {I : jdI} {J : jdJ} {K : Int32 → jdI → jdJ → Prop} {t : Nat} {u1 : Nat} {x2 : Int32} {x3 : Int32} (ht : Z.1 t = some (9 + 10, 0)) (hu1 : zTies Z u1) (h : ((x3 = 0 → Cl G mX8_firstIn n 0 0 [.ref (gb G + u1), .int x2] Z I J (qi Z (fun v2 I1 J1 => K v2 I1 J1))) ∧ (¬ x3 = 0 → Cl G mJ6_bitCount_0f7a4 n 0 0 [.int x2] Z I J (qi Z (fun v4 I3 J3 => Cl G mX2_number n 0 0 [.ref (gb G + t)] Z I3 J3 (qi Z (fun v6 I5 J5 => ((v4 < v6 → K 0 I5 J5) ∧ (¬ v4 < v6 → Cl G mX8_firstIn n 0 0 [.ref (gb G + u1), .int x2] Z I5 J5 (qi Z (fun v8 I7 J7 => K v8 I7 J7))))))))))) : Cl G mX10_pick (n + 1) 0 0 [.ref (gb G + t), .ref (gb G + u1), .int x2, .int x3] Z I J (qi Z K) :=
  Cl.of (by decide +kernel) (Nat.le_of_ble_eq_true rfl) (rX10_pick_0 ht hu1 h)
set_option maxRecDepth 4000 in
theorem rJ6_bitCount_0f7a4_0 {G : jdG} {n rc rs : Nat} {Z : jdL} {I : jdI} {J : jdJ} {K : Int32 → jdI → jdJ → Prop} {x0 : Int32}  (h : K ((((((((x0 - ((Int32.toUInt32 x0 >>> (Int32.toUInt32 1 &&& Int32.toUInt32 31)).toInt32 &&& 1431655765)) &&& 858993459) + ((Int32.toUInt32 (x0 - ((Int32.toUInt32 x0 >>> (Int32.toUInt32 1 &&& Int32.toUInt32 31)).toInt32 &&& 1431655765)) >>> (Int32.toUInt32 2 &&& Int32.toUInt32 31)).toInt32 &&& 858993459)) + (Int32.toUInt32 (((x0 - ((Int32.toUInt32 x0 >>> (Int32.toUInt32 1 &&& Int32.toUInt32 31)).toInt32 &&& 1431655765)) &&& 858993459) + ((Int32.toUInt32 (x0 - ((Int32.toUInt32 x0 >>> (Int32.toUInt32 1 &&& Int32.toUInt32 31)).toInt32 &&& 1431655765)) >>> (Int32.toUInt32 2 &&& Int32.toUInt32 31)).toInt32 &&& 858993459)) >>> (Int32.toUInt32 4 &&& Int32.toUInt32 31)).toInt32) &&& 252645135) + (Int32.toUInt32 (((((x0 - ((Int32.toUInt32 x0 >>> (Int32.toUInt32 1 &&& Int32.toUInt32 31)).toInt32 &&& 1431655765)) &&& 858993459) + ((Int32.toUInt32 (x0 - ((Int32.toUInt32 x0 >>> (Int32.toUInt32 1 &&& Int32.toUInt32 31)).toInt32 &&& 1431655765)) >>> (Int32.toUInt32 2 &&& Int32.toUInt32 31)).toInt32 &&& 858993459)) + (Int32.toUInt32 (((x0 - ((Int32.toUInt32 x0 >>> (Int32.toUInt32 1 &&& Int32.toUInt32 31)).toInt32 &&& 1431655765)) &&& 858993459) + ((Int32.toUInt32 (x0 - ((Int32.toUInt32 x0 >>> (Int32.toUInt32 1 &&& Int32.toUInt32 31)).toInt32 &&& 1431655765)) >>> (Int32.toUInt32 2 &&& Int32.toUInt32 31)).toInt32 &&& 858993459)) >>> (Int32.toUInt32 4 &&& Int32.toUInt32 31)).toInt32) &&& 252645135) >>> (Int32.toUInt32 8 &&& Int32.toUInt32 31)).toInt32) + (Int32.toUInt32 ((((((x0 - ((Int32.toUInt32 x0 >>> (Int32.toUInt32 1 &&& Int32.toUInt32 31)).toInt32 &&& 1431655765)) &&& 858993459) + ((Int32.toUInt32 (x0 - ((Int32.toUInt32 x0 >>> (Int32.toUInt32 1 &&& Int32.toUInt32 31)).toInt32 &&& 1431655765)) >>> (Int32.toUInt32 2 &&& Int32.toUInt32 31)).toInt32 &&& 858993459)) + (Int32.toUInt32 (((x0 - ((Int32.toUInt32 x0 >>> (Int32.toUInt32 1 &&& Int32.toUInt32 31)).toInt32 &&& 1431655765)) &&& 858993459) + ((Int32.toUInt32 (x0 - ((Int32.toUInt32 x0 >>> (Int32.toUInt32 1 &&& Int32.toUInt32 31)).toInt32 &&& 1431655765)) >>> (Int32.toUInt32 2 &&& Int32.toUInt32 31)).toInt32 &&& 858993459)) >>> (Int32.toUInt32 4 &&& Int32.toUInt32 31)).toInt32) &&& 252645135) + (Int32.toUInt32 (((((x0 - ((Int32.toUInt32 x0 >>> (Int32.toUInt32 1 &&& Int32.toUInt32 31)).toInt32 &&& 1431655765)) &&& 858993459) + ((Int32.toUInt32 (x0 - ((Int32.toUInt32 x0 >>> (Int32.toUInt32 1 &&& Int32.toUInt32 31)).toInt32 &&& 1431655765)) >>> (Int32.toUInt32 2 &&& Int32.toUInt32 31)).toInt32 &&& 858993459)) + (Int32.toUInt32 (((x0 - ((Int32.toUInt32 x0 >>> (Int32.toUInt32 1 &&& Int32.toUInt32 31)).toInt32 &&& 1431655765)) &&& 858993459) + ((Int32.toUInt32 (x0 - ((Int32.toUInt32 x0 >>> (Int32.toUInt32 1 &&& Int32.toUInt32 31)).toInt32 &&& 1431655765)) >>> (Int32.toUInt32 2 &&& Int32.toUInt32 31)).toInt32 &&& 858993459)) >>> (Int32.toUInt32 4 &&& Int32.toUInt32 31)).toInt32) &&& 252645135) >>> (Int32.toUInt32 8 &&& Int32.toUInt32 31)).toInt32) >>> (Int32.toUInt32 16 &&& Int32.toUInt32 31)).toInt32) &&& 63) I J) : Jd G mJ6_bitCount_0f7a4 (jdFm G (qi Z K)) n rc rs 0 [(0, .int x0)] [] Z I J := by
  refine jd_iload_n (pc := 0) 0 dJ6_bitCount_0f7a4_0 rfl rfl ?_
  refine jd_iload_n (pc := 1) 0 dJ6_bitCount_0f7a4_1 rfl rfl ?_
  refine jd_iconst (pc := 2) (v := 1) dJ6_bitCount_0f7a4_2 (by decide) ?_
  refine jd_iushr (pc := 3) dJ6_bitCount_0f7a4_3 ?_
  refine jd_ldcw (pc := 4) (v := 1431655765) qJ6_265 dJ6_bitCount_0f7a4_4 ?_
  refine jd_iand (pc := 7) dJ6_bitCount_0f7a4_7 ?_
  refine jd_isub (pc := 8) dJ6_bitCount_0f7a4_8 ?_
  refine jd_istore_n (pc := 9) [(0, .int (x0 - ((Int32.toUInt32 x0 >>> (Int32.toUInt32 1 &&& Int32.toUInt32 31)).toInt32 &&& 1431655765)))] dJ6_bitCount_0f7a4_9 rfl (by decide) rfl ?_
  refine jd_iload_n (pc := 10) 0 dJ6_bitCount_0f7a4_10 rfl rfl ?_
  refine jd_ldcw (pc := 11) (v := 858993459) qJ6_266 dJ6_bitCount_0f7a4_11 ?_
  refine jd_iand (pc := 14) dJ6_bitCount_0f7a4_14 ?_
  refine jd_iload_n (pc := 15) 0 dJ6_bitCount_0f7a4_15 rfl rfl ?_
  refine jd_iconst (pc := 16) (v := 2) dJ6_bitCount_0f7a4_16 (by decide) ?_
  refine jd_iushr (pc := 17) dJ6_bitCount_0f7a4_17 ?_
  refine jd_ldcw (pc := 18) (v := 858993459) qJ6_266 dJ6_bitCount_0f7a4_18 ?_
  refine jd_iand (pc := 21) dJ6_bitCount_0f7a4_21 ?_
  refine jd_iadd (pc := 22) dJ6_bitCount_0f7a4_22 ?_
  refine jd_istore_n (pc := 23) [(0, .int (((x0 - ((Int32.toUInt32 x0 >>> (Int32.toUInt32 1 &&& Int32.toUInt32 31)).toInt32 &&& 1431655765)) &&& 858993459) + ((Int32.toUInt32 (x0 - ((Int32.toUInt32 x0 >>> (Int32.toUInt32 1 &&& Int32.toUInt32 31)).toInt32 &&& 1431655765)) >>> (Int32.toUInt32 2 &&& Int32.toUInt32 31)).toInt32 &&& 858993459)))] dJ6_bitCount_0f7a4_23 rfl (by decide) rfl ?_
  refine jd_iload_n (pc := 24) 0 dJ6_bitCount_0f7a4_24 rfl rfl ?_
  refine jd_iload_n (pc := 25) 0 dJ6_bitCount_0f7a4_25 rfl rfl ?_
  refine jd_iconst (pc := 26) (v := 4) dJ6_bitCount_0f7a4_26 (by decide) ?_
  refine jd_iushr (pc := 27) dJ6_bitCount_0f7a4_27 ?_
  refine jd_iadd (pc := 28) dJ6_bitCount_0f7a4_28 ?_
  refine jd_ldcw (pc := 29) (v := 252645135) qJ6_267 dJ6_bitCount_0f7a4_29 ?_
  refine jd_iand (pc := 32) dJ6_bitCount_0f7a4_32 ?_
  refine jd_istore_n (pc := 33) [(0, .int (((((x0 - ((Int32.toUInt32 x0 >>> (Int32.toUInt32 1 &&& Int32.toUInt32 31)).toInt32 &&& 1431655765)) &&& 858993459) + ((Int32.toUInt32 (x0 - ((Int32.toUInt32 x0 >>> (Int32.toUInt32 1 &&& Int32.toUInt32 31)).toInt32 &&& 1431655765)) >>> (Int32.toUInt32 2 &&& Int32.toUInt32 31)).toInt32 &&& 858993459)) + (Int32.toUInt32 (((x0 - ((Int32.toUInt32 x0 >>> (Int32.toUInt32 1 &&& Int32.toUInt32 31)).toInt32 &&& 1431655765)) &&& 858993459) + ((Int32.toUInt32 (x0 - ((Int32.toUInt32 x0 >>> (Int32.toUInt32 1 &&& Int32.toUInt32 31)).toInt32 &&& 1431655765)) >>> (Int32.toUInt32 2 &&& Int32.toUInt32 31)).toInt32 &&& 858993459)) >>> (Int32.toUInt32 4 &&& Int32.toUInt32 31)).toInt32) &&& 252645135))] dJ6_bitCount_0f7a4_33 rfl (by decide) rfl ?_
  refine jd_iload_n (pc := 34) 0 dJ6_bitCount_0f7a4_34 rfl rfl ?_
  refine jd_iload_n (pc := 35) 0 dJ6_bitCount_0f7a4_35 rfl rfl ?_
  refine jd_bipush (pc := 36) (v := 8) dJ6_bitCount_0f7a4_36 (by decide) ?_
  refine jd_iushr (pc := 38) dJ6_bitCount_0f7a4_38 ?_
  refine jd_iadd (pc := 39) dJ6_bitCount_0f7a4_39 ?_
  refine jd_istore_n (pc := 40) [(0, .int ((((((x0 - ((Int32.toUInt32 x0 >>> (Int32.toUInt32 1 &&& Int32.toUInt32 31)).toInt32 &&& 1431655765)) &&& 858993459) + ((Int32.toUInt32 (x0 - ((Int32.toUInt32 x0 >>> (Int32.toUInt32 1 &&& Int32.toUInt32 31)).toInt32 &&& 1431655765)) >>> (Int32.toUInt32 2 &&& Int32.toUInt32 31)).toInt32 &&& 858993459)) + (Int32.toUInt32 (((x0 - ((Int32.toUInt32 x0 >>> (Int32.toUInt32 1 &&& Int32.toUInt32 31)).toInt32 &&& 1431655765)) &&& 858993459) + ((Int32.toUInt32 (x0 - ((Int32.toUInt32 x0 >>> (Int32.toUInt32 1 &&& Int32.toUInt32 31)).toInt32 &&& 1431655765)) >>> (Int32.toUInt32 2 &&& Int32.toUInt32 31)).toInt32 &&& 858993459)) >>> (Int32.toUInt32 4 &&& Int32.toUInt32 31)).toInt32) &&& 252645135) + (Int32.toUInt32 (((((x0 - ((Int32.toUInt32 x0 >>> (Int32.toUInt32 1 &&& Int32.toUInt32 31)).toInt32 &&& 1431655765)) &&& 858993459) + ((Int32.toUInt32 (x0 - ((Int32.toUInt32 x0 >>> (Int32.toUInt32 1 &&& Int32.toUInt32 31)).toInt32 &&& 1431655765)) >>> (Int32.toUInt32 2 &&& Int32.toUInt32 31)).toInt32 &&& 858993459)) + (Int32.toUInt32 (((x0 - ((Int32.toUInt32 x0 >>> (Int32.toUInt32 1 &&& Int32.toUInt32 31)).toInt32 &&& 1431655765)) &&& 858993459) + ((Int32.toUInt32 (x0 - ((Int32.toUInt32 x0 >>> (Int32.toUInt32 1 &&& Int32.toUInt32 31)).toInt32 &&& 1431655765)) >>> (Int32.toUInt32 2 &&& Int32.toUInt32 31)).toInt32 &&& 858993459)) >>> (Int32.toUInt32 4 &&& Int32.toUInt32 31)).toInt32) &&& 252645135) >>> (Int32.toUInt32 8 &&& Int32.toUInt32 31)).toInt32))] dJ6_bitCount_0f7a4_40 rfl (by decide) rfl ?_
  refine jd_iload_n (pc := 41) 0 dJ6_bitCount_0f7a4_41 rfl rfl ?_
  refine jd_iload_n (pc := 42) 0 dJ6_bitCount_0f7a4_42 rfl rfl ?_
  refine jd_bipush (pc := 43) (v := 16) dJ6_bitCount_0f7a4_43 (by decide) ?_
  refine jd_iushr (pc := 45) dJ6_bitCount_0f7a4_45 ?_
  refine jd_iadd (pc := 46) dJ6_bitCount_0f7a4_46 ?_
  refine jd_istore_n (pc := 47) [(0, .int (((((((x0 - ((Int32.toUInt32 x0 >>> (Int32.toUInt32 1 &&& Int32.toUInt32 31)).toInt32 &&& 1431655765)) &&& 858993459) + ((Int32.toUInt32 (x0 - ((Int32.toUInt32 x0 >>> (Int32.toUInt32 1 &&& Int32.toUInt32 31)).toInt32 &&& 1431655765)) >>> (Int32.toUInt32 2 &&& Int32.toUInt32 31)).toInt32 &&& 858993459)) + (Int32.toUInt32 (((x0 - ((Int32.toUInt32 x0 >>> (Int32.toUInt32 1 &&& Int32.toUInt32 31)).toInt32 &&& 1431655765)) &&& 858993459) + ((Int32.toUInt32 (x0 - ((Int32.toUInt32 x0 >>> (Int32.toUInt32 1 &&& Int32.toUInt32 31)).toInt32 &&& 1431655765)) >>> (Int32.toUInt32 2 &&& Int32.toUInt32 31)).toInt32 &&& 858993459)) >>> (Int32.toUInt32 4 &&& Int32.toUInt32 31)).toInt32) &&& 252645135) + (Int32.toUInt32 (((((x0 - ((Int32.toUInt32 x0 >>> (Int32.toUInt32 1 &&& Int32.toUInt32 31)).toInt32 &&& 1431655765)) &&& 858993459) + ((Int32.toUInt32 (x0 - ((Int32.toUInt32 x0 >>> (Int32.toUInt32 1 &&& Int32.toUInt32 31)).toInt32 &&& 1431655765)) >>> (Int32.toUInt32 2 &&& Int32.toUInt32 31)).toInt32 &&& 858993459)) + (Int32.toUInt32 (((x0 - ((Int32.toUInt32 x0 >>> (Int32.toUInt32 1 &&& Int32.toUInt32 31)).toInt32 &&& 1431655765)) &&& 858993459) + ((Int32.toUInt32 (x0 - ((Int32.toUInt32 x0 >>> (Int32.toUInt32 1 &&& Int32.toUInt32 31)).toInt32 &&& 1431655765)) >>> (Int32.toUInt32 2 &&& Int32.toUInt32 31)).toInt32 &&& 858993459)) >>> (Int32.toUInt32 4 &&& Int32.toUInt32 31)).toInt32) &&& 252645135) >>> (Int32.toUInt32 8 &&& Int32.toUInt32 31)).toInt32) + (Int32.toUInt32 ((((((x0 - ((Int32.toUInt32 x0 >>> (Int32.toUInt32 1 &&& Int32.toUInt32 31)).toInt32 &&& 1431655765)) &&& 858993459) + ((Int32.toUInt32 (x0 - ((Int32.toUInt32 x0 >>> (Int32.toUInt32 1 &&& Int32.toUInt32 31)).toInt32 &&& 1431655765)) >>> (Int32.toUInt32 2 &&& Int32.toUInt32 31)).toInt32 &&& 858993459)) + (Int32.toUInt32 (((x0 - ((Int32.toUInt32 x0 >>> (Int32.toUInt32 1 &&& Int32.toUInt32 31)).toInt32 &&& 1431655765)) &&& 858993459) + ((Int32.toUInt32 (x0 - ((Int32.toUInt32 x0 >>> (Int32.toUInt32 1 &&& Int32.toUInt32 31)).toInt32 &&& 1431655765)) >>> (Int32.toUInt32 2 &&& Int32.toUInt32 31)).toInt32 &&& 858993459)) >>> (Int32.toUInt32 4 &&& Int32.toUInt32 31)).toInt32) &&& 252645135) + (Int32.toUInt32 (((((x0 - ((Int32.toUInt32 x0 >>> (Int32.toUInt32 1 &&& Int32.toUInt32 31)).toInt32 &&& 1431655765)) &&& 858993459) + ((Int32.toUInt32 (x0 - ((Int32.toUInt32 x0 >>> (Int32.toUInt32 1 &&& Int32.toUInt32 31)).toInt32 &&& 1431655765)) >>> (Int32.toUInt32 2 &&& Int32.toUInt32 31)).toInt32 &&& 858993459)) + (Int32.toUInt32 (((x0 - ((Int32.toUInt32 x0 >>> (Int32.toUInt32 1 &&& Int32.toUInt32 31)).toInt32 &&& 1431655765)) &&& 858993459) + ((Int32.toUInt32 (x0 - ((Int32.toUInt32 x0 >>> (Int32.toUInt32 1 &&& Int32.toUInt32 31)).toInt32 &&& 1431655765)) >>> (Int32.toUInt32 2 &&& Int32.toUInt32 31)).toInt32 &&& 858993459)) >>> (Int32.toUInt32 4 &&& Int32.toUInt32 31)).toInt32) &&& 252645135) >>> (Int32.toUInt32 8 &&& Int32.toUInt32 31)).toInt32) >>> (Int32.toUInt32 16 &&& Int32.toUInt32 31)).toInt32))] dJ6_bitCount_0f7a4_47 rfl (by decide) rfl ?_
  refine jd_iload_n (pc := 48) 0 dJ6_bitCount_0f7a4_48 rfl rfl ?_
  refine jd_bipush (pc := 49) (v := 63) dJ6_bitCount_0f7a4_49 (by decide) ?_
  refine jd_iand (pc := 51) dJ6_bitCount_0f7a4_51 ?_
  exact jd_iretK (pc := 52) rfl rfl dJ6_bitCount_0f7a4_52 h
theorem eJ6_bitCount_0f7a4 {G : jdG} {n : Nat} {Z : jdL} {I : jdI} {J : jdJ} {K : Int32 → jdI → jdJ → Prop} {x0 : Int32}  (h : K ((((((((x0 - ((Int32.toUInt32 x0 >>> (Int32.toUInt32 1 &&& Int32.toUInt32 31)).toInt32 &&& 1431655765)) &&& 858993459) + ((Int32.toUInt32 (x0 - ((Int32.toUInt32 x0 >>> (Int32.toUInt32 1 &&& Int32.toUInt32 31)).toInt32 &&& 1431655765)) >>> (Int32.toUInt32 2 &&& Int32.toUInt32 31)).toInt32 &&& 858993459)) + (Int32.toUInt32 (((x0 - ((Int32.toUInt32 x0 >>> (Int32.toUInt32 1 &&& Int32.toUInt32 31)).toInt32 &&& 1431655765)) &&& 858993459) + ((Int32.toUInt32 (x0 - ((Int32.toUInt32 x0 >>> (Int32.toUInt32 1 &&& Int32.toUInt32 31)).toInt32 &&& 1431655765)) >>> (Int32.toUInt32 2 &&& Int32.toUInt32 31)).toInt32 &&& 858993459)) >>> (Int32.toUInt32 4 &&& Int32.toUInt32 31)).toInt32) &&& 252645135) + (Int32.toUInt32 (((((x0 - ((Int32.toUInt32 x0 >>> (Int32.toUInt32 1 &&& Int32.toUInt32 31)).toInt32 &&& 1431655765)) &&& 858993459) + ((Int32.toUInt32 (x0 - ((Int32.toUInt32 x0 >>> (Int32.toUInt32 1 &&& Int32.toUInt32 31)).toInt32 &&& 1431655765)) >>> (Int32.toUInt32 2 &&& Int32.toUInt32 31)).toInt32 &&& 858993459)) + (Int32.toUInt32 (((x0 - ((Int32.toUInt32 x0 >>> (Int32.toUInt32 1 &&& Int32.toUInt32 31)).toInt32 &&& 1431655765)) &&& 858993459) + ((Int32.toUInt32 (x0 - ((Int32.toUInt32 x0 >>> (Int32.toUInt32 1 &&& Int32.toUInt32 31)).toInt32 &&& 1431655765)) >>> (Int32.toUInt32 2 &&& Int32.toUInt32 31)).toInt32 &&& 858993459)) >>> (Int32.toUInt32 4 &&& Int32.toUInt32 31)).toInt32) &&& 252645135) >>> (Int32.toUInt32 8 &&& Int32.toUInt32 31)).toInt32) + (Int32.toUInt32 ((((((x0 - ((Int32.toUInt32 x0 >>> (Int32.toUInt32 1 &&& Int32.toUInt32 31)).toInt32 &&& 1431655765)) &&& 858993459) + ((Int32.toUInt32 (x0 - ((Int32.toUInt32 x0 >>> (Int32.toUInt32 1 &&& Int32.toUInt32 31)).toInt32 &&& 1431655765)) >>> (Int32.toUInt32 2 &&& Int32.toUInt32 31)).toInt32 &&& 858993459)) + (Int32.toUInt32 (((x0 - ((Int32.toUInt32 x0 >>> (Int32.toUInt32 1 &&& Int32.toUInt32 31)).toInt32 &&& 1431655765)) &&& 858993459) + ((Int32.toUInt32 (x0 - ((Int32.toUInt32 x0 >>> (Int32.toUInt32 1 &&& Int32.toUInt32 31)).toInt32 &&& 1431655765)) >>> (Int32.toUInt32 2 &&& Int32.toUInt32 31)).toInt32 &&& 858993459)) >>> (Int32.toUInt32 4 &&& Int32.toUInt32 31)).toInt32) &&& 252645135) + (Int32.toUInt32 (((((x0 - ((Int32.toUInt32 x0 >>> (Int32.toUInt32 1 &&& Int32.toUInt32 31)).toInt32 &&& 1431655765)) &&& 858993459) + ((Int32.toUInt32 (x0 - ((Int32.toUInt32 x0 >>> (Int32.toUInt32 1 &&& Int32.toUInt32 31)).toInt32 &&& 1431655765)) >>> (Int32.toUInt32 2 &&& Int32.toUInt32 31)).toInt32 &&& 858993459)) + (Int32.toUInt32 (((x0 - ((Int32.toUInt32 x0 >>> (Int32.toUInt32 1 &&& Int32.toUInt32 31)).toInt32 &&& 1431655765)) &&& 858993459) + ((Int32.toUInt32 (x0 - ((Int32.toUInt32 x0 >>> (Int32.toUInt32 1 &&& Int32.toUInt32 31)).toInt32 &&& 1431655765)) >>> (Int32.toUInt32 2 &&& Int32.toUInt32 31)).toInt32 &&& 858993459)) >>> (Int32.toUInt32 4 &&& Int32.toUInt32 31)).toInt32) &&& 252645135) >>> (Int32.toUInt32 8 &&& Int32.toUInt32 31)).toInt32) >>> (Int32.toUInt32 16 &&& Int32.toUInt32 31)).toInt32) &&& 63) I J) : Cl G mJ6_bitCount_0f7a4 (n) 0 0 [.int x0] Z I J (qi Z K) :=
  Cl.of (by decide +kernel) (Nat.le_of_ble_eq_true rfl) (rJ6_bitCount_0f7a4_0  h)
