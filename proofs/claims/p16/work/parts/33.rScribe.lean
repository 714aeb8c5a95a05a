set_option maxRecDepth 4000 in
theorem rX5_isFull_0 {G : jdG} {n rc rs : Nat} {Z : jdL} {I : jdI} {J : jdJ} {K : Int32 → jdI → jdJ → Prop} {t : Nat} (ht : zScribe Z t) (h : (((I t 1) < 250 → K 0 I J) ∧ (¬ (I t 1) < 250 → K 1 I J))) : Jd G mX5_isFull (jdFm G (qi Z K)) n rc rs 0 [(0, .ref (gb G + t))] [] Z I J := by
  refine jd_aload_n (pc := 0) 0 dX5_isFull_0 rfl rfl ?_
  refine jd_getI (pc := 1) (ci := 4) (k := 1) gX5_15 ht.1 rfl dX5_isFull_1 ?_
  refine jd_sipush (pc := 4) (v := 250) dX5_isFull_4 (by decide) ?_
  refine jd_icmp_lt (pc := 7) 14 dX5_isFull_7 (by decide) (fun hc => ?_) (fun hc => ?_)
  · have h := h.1 hc
    refine jd_iconst (pc := 14) (v := 0) dX5_isFull_14 (by decide) ?_
    exact jd_iretK (pc := 15) (ty := .boolean) rfl (by decide) dX5_isFull_15 h
  · have h := h.2 hc
    refine jd_iconst (pc := 10) (v := 1) dX5_isFull_10 (by decide) ?_
    refine jd_goto (pc := 11) 15 dX5_isFull_11 (by decide) ?_
    exact jd_iretK (pc := 15) (ty := .boolean) rfl (by decide) dX5_isFull_15 h
theorem eX5_isFull {G : jdG} {n : Nat} {Z : jdL} {I : jdI} {J : jdJ} {K : Int32 → jdI → jdJ → Prop} {t : Nat} (ht : zScribe Z t) (h : (((I t 1) < 250 → K 0 I J) ∧ (¬ (I t 1) < 250 → K 1 I J))) : Cl G mX5_isFull (n) 0 0 [.ref (gb G + t)] Z I J (qi Z K) :=
  Cl.of (by decide +kernel) (Nat.le_of_ble_eq_true rfl) (rX5_isFull_0 ht h)
set_option maxRecDepth 4000 in
theorem rX5_append_0 {G : jdG} {n rc rs : Nat} {Z : jdL} {I : jdI} {J : jdJ} {K : jdI → jdJ → Prop} {t : Nat} {x1 : Int32} (ht : zScribe Z t) (h : ((250 ≤ (I t 1) → K I J) ∧ (¬ 250 ≤ (I t 1) → (vp_in (I t 1) 250 ∧ K (uI (uI I (t + 1) (Int32.toNatClampNeg (I t 1)) x1) t 1 ((I t 1) + 1)) J)))) : Jd G mX5_append (jdFm G (qv Z K)) n rc rs 0 [(0, .ref (gb G + t)), (1, .int x1)] [] Z I J := by
  refine jd_aload_n (pc := 0) 0 dX5_append_0 rfl rfl ?_
  refine jd_getI (pc := 1) (ci := 4) (k := 1) gX5_15 ht.1 rfl dX5_append_1 ?_
  refine jd_sipush (pc := 4) (v := 250) dX5_append_4 (by decide) ?_
  refine jd_icmp_ge (pc := 7) 30 dX5_append_7 (by decide) (fun hc => ?_) (fun hc => ?_)
  · have h := h.1 hc
    exact jd_vretK (pc := 30) rfl dX5_append_30 h
  · have h := h.2 hc
    refine jd_aload_n (pc := 10) 0 dX5_append_10 rfl rfl ?_
    refine jd_getR (pc := 11) (ci := 4) (k := 0) (r := (t + 1)) gX5_11 ht.1 rfl (zScribe_p0 ht) dX5_append_11 ?_
    refine jd_aload_n (pc := 14) 0 dX5_append_14 rfl rfl ?_
    refine jd_getI (pc := 15) (ci := 4) (k := 1) gX5_15 ht.1 rfl dX5_append_15 ?_
    refine jd_iload_n (pc := 18) 1 dX5_append_18 rfl rfl ?_
    obtain ⟨hv1, h⟩ := h
    refine jd_iast (pc := 19) (len := 250) (zScribe_a0 ht) hv1 dX5_append_19 ?_
    refine jd_aload_n (pc := 20) 0 dX5_append_20 rfl rfl ?_
    refine jd_dup (pc := 21) dX5_append_21 rfl ?_
    refine jd_getIe (pc := 22) (ci := 4) (k := 1) (e := (I t 1)) (uI_ne (by omega) rfl) gX5_15 ht.1 rfl dX5_append_22 ?_
    refine jd_iconst (pc := 25) (v := 1) dX5_append_25 (by decide) ?_
    refine jd_iadd (pc := 26) dX5_append_26 ?_
    refine jd_putI (pc := 27) (ci := 4) (k := 1) pX5_15 ht.1 rfl rfl rfl dX5_append_27 ?_
    exact jd_vretK (pc := 30) rfl dX5_append_30 h
theorem eX5_append {G : jdG} {n : Nat} {Z : jdL} {I : jdI} {J : jdJ} {K : jdI → jdJ → Prop} {t : Nat} {x1 : Int32} (ht : zScribe Z t) (h : ((250 ≤ (I t 1) → K I J) ∧ (¬ 250 ≤ (I t 1) → (vp_in (I t 1) 250 ∧ K (uI (uI I (t + 1) (Int32.toNatClampNeg (I t 1)) x1) t 1 ((I t 1) + 1)) J)))) : Cl G mX5_append (n) 0 0 [.ref (gb G + t), .int x1] Z I J (qv Z K) :=
  Cl.of (by decide +kernel) (Nat.le_of_ble_eq_true rfl) (rX5_append_0 ht h)
set_option maxRecDepth 4000 in
theorem rX5_clear_0 {G : jdG} {n rc rs : Nat} {Z : jdL} {I : jdI} {J : jdJ} {K : jdI → jdJ → Prop} {t : Nat} (ht : zScribe Z t) (h : K (uI I t 1 0) J) : Jd G mX5_clear (jdFm G (qv Z K)) n rc rs 0 [(0, .ref (gb G + t))] [] Z I J := by
  refine jd_aload_n (pc := 0) 0 dX5_clear_0 rfl rfl ?_
  refine jd_iconst (pc := 1) (v := 0) dX5_clear_1 (by decide) ?_
  refine jd_putI (pc := 2) (ci := 4) (k := 1) pX5_15 ht.1 rfl rfl rfl dX5_clear_2 ?_
  exact jd_vretK (pc := 5) rfl dX5_clear_5 h
theorem eX5_clear {G : jdG} {n : Nat} {Z : jdL} {I : jdI} {J : jdJ} {K : jdI → jdJ → Prop} {t : Nat} (ht : zScribe Z t) (h : K (uI I t 1 0) J) : Cl G mX5_clear (n) 0 0 [.ref (gb G + t)] Z I J (qv Z K) :=
  Cl.of (by decide +kernel) (Nat.le_of_ble_eq_true rfl) (rX5_clear_0 ht h)
set_option maxRecDepth 4000 in
theorem rX5_read_0 {G : jdG} {n rc rs : Nat} {Z : jdL} {I : jdI} {J : jdJ} {K : Int32 → jdI → jdJ → Prop} {t : Nat} {u1 : Nat} (ht : zScribe Z t) (hu1 : zTown Z u1) (h : Cl G mX5_advance n 0 0 [.ref (gb G + t)] Z (uI I t 4 0) J (qv Z (fun I1 J1 => Jd G mX5_read (jdFm G (qi Z K)) (n + 1) rc rs 11 [(0, .ref (gb G + t)), (1, .ref (gb G + u1)), (2, .int 1)] [] Z I1 J1))) : Jd G mX5_read (jdFm G (qi Z K)) (n + 1) rc rs 0 [(0, .ref (gb G + t)), (1, .ref (gb G + u1))] [] Z I J := by
  refine jd_aload_n (pc := 0) 0 dX5_read_0 rfl rfl ?_
  refine jd_iconst (pc := 1) (v := 0) dX5_read_1 (by decide) ?_
  refine jd_putI (pc := 2) (ci := 4) (k := 4) pX5_19 ht.1 rfl rfl rfl dX5_read_2 ?_
  refine jd_aload_n (pc := 5) 0 dX5_read_5 rfl rfl ?_
  refine jd_callVv (pc := 6) (M2 := mX5_advance) (id := t) (ci := 4) (T := TX5) (N := 6) (av := []) kX5_advance sX5_advance rfl ht.1 lX5_22 rfl rfl (Nat.le_of_ble_eq_true rfl) dX5_read_6 h ?_
  intro I1 J1 h
  refine jd_iconst (pc := 9) (v := 1) dX5_read_9 (by decide) ?_
  refine jd_istore_n (pc := 10) [(2, .int 1), (0, .ref (gb G + t)), (1, .ref (gb G + u1))] dX5_read_10 rfl (by decide) rfl ?_
  exact jd_lv (lv2 := [(0, .ref (gb G + t)), (1, .ref (gb G + u1)), (2, .int 1)]) [1, 2, 0] rfl h
set_option maxRecDepth 4000 in
theorem rX5_read_11 {G : jdG} {n rc rs : Nat} {Z : jdL} {I : jdI} {J : jdJ} {K : Int32 → jdI → jdJ → Prop} {u1 : Nat} {t : Nat} {x2 : Int32} (ht : zScribe Z t) (hu1 : zTown Z u1) (h : ((250 < x2 → K (-1) I J) ∧ (¬ 250 < x2 → Cl G mX5_readStatement n 0 0 [.ref (gb G + t), .ref (gb G + u1)] Z I J (qi Z (fun v2 I1 J1 => ((¬ v2 = 0 → ((¬ (I1 t 2) = 0 → (((I1 t 2) = 3 → Cl G mX5_advance n 0 0 [.ref (gb G + t)] Z I1 J1 (qv Z (fun I3 J3 => Jd G mX5_read (jdFm G (qi Z K)) (n + 1) rc rs 11 [(0, .ref (gb G + t)), (1, .ref (gb G + u1)), (2, .int (x2 + 1))] [] Z I3 J3))) ∧ (¬ (I1 t 2) = 3 → Cl G mX5_fail n 0 0 [.ref (gb G + t)] Z I1 J1 (qi Z (fun v6 I5 J5 => K (-1) I5 J5))))) ∧ ((I1 t 2) = 0 → K x2 I1 J1))) ∧ (v2 = 0 → K (-1) I1 J1))))))) : Jd G mX5_read (jdFm G (qi Z K)) (n + 1) rc rs 11 [(0, .ref (gb G + t)), (1, .ref (gb G + u1)), (2, .int x2)] [] Z I J := by
  refine jd_iload_n (pc := 11) 2 dX5_read_11 rfl rfl ?_
  refine jd_sipush (pc := 12) (v := 250) dX5_read_12 (by decide) ?_
  refine jd_icmp_gt (pc := 15) 62 dX5_read_15 (by decide) (fun hc => ?_) (fun hc => ?_)
  · have h := h.1 hc
    refine jd_iconst (pc := 62) (v := (-1)) dX5_read_62 (by decide) ?_
    exact jd_iretK (pc := 63) rfl rfl dX5_read_63 h
  · have h := h.2 hc
    refine jd_aload_n (pc := 18) 0 dX5_read_18 rfl rfl ?_
    refine jd_aload_n (pc := 19) 1 dX5_read_19 rfl rfl ?_
    refine jd_callVi (pc := 20) (M2 := mX5_readStatement) (id := t) (ci := 4) (T := TX5) (N := 6) (av := [.ref (gb G + u1)]) kX5_readStatement sX5_readStatement rfl ht.1 lX5_25 rfl rfl (Nat.le_of_ble_eq_true rfl) dX5_read_20 h ?_
    intro v2 I1 J1 h
    refine jd_if_ne (pc := 23) 28 dX5_read_23 (by decide) (fun hc => ?_) (fun hc => ?_)
    · have h := h.1 hc
      refine jd_aload_n (pc := 28) 0 dX5_read_28 rfl rfl ?_
      refine jd_getI (pc := 29) (ci := 4) (k := 2) gX5_29 ht.1 rfl dX5_read_29 ?_
      refine jd_if_ne (pc := 32) 37 dX5_read_32 (by decide) (fun hc => ?_) (fun hc => ?_)
      · have h := h.1 hc
        refine jd_aload_n (pc := 37) 0 dX5_read_37 rfl rfl ?_
        refine jd_getI (pc := 38) (ci := 4) (k := 2) gX5_29 ht.1 rfl dX5_read_38 ?_
        refine jd_iconst (pc := 41) (v := 3) dX5_read_41 (by decide) ?_
        refine jd_icmp_eq (pc := 42) 52 dX5_read_42 (by decide) (fun hc => ?_) (fun hc => ?_)
        · have h := h.1 hc
          refine jd_aload_n (pc := 52) 0 dX5_read_52 rfl rfl ?_
          refine jd_callVv (pc := 53) (M2 := mX5_advance) (id := t) (ci := 4) (T := TX5) (N := 6) (av := []) kX5_advance sX5_advance rfl ht.1 lX5_22 rfl rfl (Nat.le_of_ble_eq_true rfl) dX5_read_53 h ?_
          intro I3 J3 h
          refine jd_iinc (pc := 56) (v := (x2 + 1)) 2 [(2, .int (x2 + 1)), (0, .ref (gb G + t)), (1, .ref (gb G + u1))] dX5_read_56 rfl rfl (by decide) rfl ?_
          refine jd_goto (pc := 59) 11 dX5_read_59 (by decide) ?_
          exact jd_lv (lv2 := [(0, .ref (gb G + t)), (1, .ref (gb G + u1)), (2, .int (x2 + 1))]) [1, 2, 0] rfl h
        · have h := h.2 hc
          refine jd_aload_n (pc := 45) 0 dX5_read_45 rfl rfl ?_
          refine jd_callVi (pc := 46) (M2 := mX5_fail) (id := t) (ci := 4) (T := TX5) (N := 6) (av := []) kX5_fail sX5_fail rfl ht.1 lX5_32 rfl rfl (Nat.le_of_ble_eq_true rfl) dX5_read_46 h ?_
          intro v6 I5 J5 h
          refine jd_pop (pc := 49) dX5_read_49 rfl ?_
          refine jd_iconst (pc := 50) (v := (-1)) dX5_read_50 (by decide) ?_
          exact jd_iretK (pc := 51) rfl rfl dX5_read_51 h
      · have h := h.2 hc
        refine jd_iload_n (pc := 35) 2 dX5_read_35 rfl rfl ?_
        exact jd_iretK (pc := 36) rfl rfl dX5_read_36 h
    · have h := h.2 hc
      refine jd_iconst (pc := 26) (v := (-1)) dX5_read_26 (by decide) ?_
      exact jd_iretK (pc := 27) rfl rfl dX5_read_27 h
theorem eX5_read {G : jdG} {n : Nat} {Z : jdL} {I : jdI} {J : jdJ} {K : Int32 → jdI → jdJ → Prop} {t : Nat} {u1 : Nat} (ht : zScribe Z t) (hu1 : zTown Z u1) (h : Cl G mX5_advance n 0 0 [.ref (gb G + t)] Z (uI I t 4 0) J (qv Z (fun I1 J1 => Jd G mX5_read (jdFm G (qi Z K)) (n + 1) 0 0 11 [(0, .ref (gb G + t)), (1, .ref (gb G + u1)), (2, .int 1)] [] Z I1 J1))) : Cl G mX5_read (n + 1) 0 0 [.ref (gb G + t), .ref (gb G + u1)] Z I J (qi Z K) :=
  Cl.of (by decide +kernel) (Nat.le_of_ble_eq_true rfl) (rX5_read_0 ht hu1 h)
set_option maxRecDepth 4000 in
theorem rX5_fail_0 {G : jdG} {n rc rs : Nat} {Z : jdL} {I : jdI} {J : jdJ} {K : Int32 → jdI → jdJ → Prop} {t : Nat} (ht : zScribe Z t) (h : K 0 (uI I t 5 (I t 3)) J) : Jd G mX5_fail (jdFm G (qi Z K)) n rc rs 0 [(0, .ref (gb G + t))] [] Z I J := by
  refine jd_aload_n (pc := 0) 0 dX5_fail_0 rfl rfl ?_
  refine jd_aload_n (pc := 1) 0 dX5_fail_1 rfl rfl ?_
  refine jd_getI (pc := 2) (ci := 4) (k := 3) gX5_36 ht.1 rfl dX5_fail_2 ?_
  refine jd_putI (pc := 5) (ci := 4) (k := 5) pX5_39 ht.1 rfl rfl rfl dX5_fail_5 ?_
  refine jd_iconst (pc := 8) (v := 0) dX5_fail_8 (by decide) ?_
  exact jd_iretK (pc := 9) (ty := .boolean) rfl (by decide) dX5_fail_9 h
theorem eX5_fail {G : jdG} {n : Nat} {Z : jdL} {I : jdI} {J : jdJ} {K : Int32 → jdI → jdJ → Prop} {t : Nat} (ht : zScribe Z t) (h : K 0 (uI I t 5 (I t 3)) J) : Cl G mX5_fail (n) 0 0 [.ref (gb G + t)] Z I J (qi Z K) :=
  Cl.of (by decide +kernel) (Nat.le_of_ble_eq_true rfl) (rX5_fail_0 ht h)
set_option maxRecDepth 4000 in
theorem rX5_advance_0 {G : jdG} {n rc rs : Nat} {Z : jdL} {I : jdI} {J : jdJ} {K : jdI → jdJ → Prop} {t : Nat} (ht : zScribe Z t) (h : Jd G mX5_advance (jdFm G (qv Z K)) (n + 1) rc rs 8 [(0, .ref (gb G + t))] [] Z (uI I t 3 (I t 4)) J) : Jd G mX5_advance (jdFm G (qv Z K)) (n + 1) rc rs 0 [(0, .ref (gb G + t))] [] Z I J := by
  refine jd_aload_n (pc := 0) 0 dX5_advance_0 rfl rfl ?_
  refine jd_aload_n (pc := 1) 0 dX5_advance_1 rfl rfl ?_
  refine jd_getI (pc := 2) (ci := 4) (k := 4) gX5_19 ht.1 rfl dX5_advance_2 ?_
  refine jd_putI (pc := 5) (ci := 4) (k := 3) pX5_36 ht.1 rfl rfl rfl dX5_advance_5 ?_
  exact jd_lv (lv2 := [(0, .ref (gb G + t))]) [0] rfl h
set_option maxRecDepth 4000 in
theorem rX5_advance_8 {G : jdG} {n rc rs : Nat} {Z : jdL} {I : jdI} {J : jdJ} {K : jdI → jdJ → Prop} {t : Nat} (ht : zScribe Z t) (h : (((I t 1) ≤ (I t 3) → (((I t 1) ≤ (I t 3) → Jd G mX5_advance (jdFm G (qv Z K)) (n + 1) rc rs 101 [(0, .ref (gb G + t))] [] Z (uI (uI I t 2 0) t 4 (I t 1)) J) ∧ (¬ (I t 1) ≤ (I t 3) → (vp_in (I t 3) 250 ∧ Cl G mX5_tokenOf n 0 0 [.int (I (t + 1) (Int32.toNatClampNeg (I t 3)))] Z I J (qi Z (fun v3 I2 J2 => ((¬ v3 = 0 → Jd G mX5_advance (jdFm G (qv Z K)) (n + 1) rc rs 101 [(0, .ref (gb G + t))] [] Z (uI (uI I2 t 2 v3) t 4 ((I2 t 3) + 1)) J2) ∧ (v3 = 0 → Jd G mX5_advance (jdFm G (qv Z K)) (n + 1) rc rs 101 [(0, .ref (gb G + t))] [] Z (uI (uI I2 t 2 v3) t 4 (I2 t 1)) J2)))))))) ∧ (¬ (I t 1) ≤ (I t 3) → (vp_in (I t 3) 250 ∧ ((¬ (I (t + 1) (Int32.toNatClampNeg (I t 3))) = 32 → (((I t 1) ≤ (I t 3) → Jd G mX5_advance (jdFm G (qv Z K)) (n + 1) rc rs 101 [(0, .ref (gb G + t))] [] Z (uI (uI I t 2 0) t 4 (I t 1)) J) ∧ (¬ (I t 1) ≤ (I t 3) → (vp_in (I t 3) 250 ∧ Cl G mX5_tokenOf n 0 0 [.int (I (t + 1) (Int32.toNatClampNeg (I t 3)))] Z I J (qi Z (fun v7 I6 J6 => ((¬ v7 = 0 → Jd G mX5_advance (jdFm G (qv Z K)) (n + 1) rc rs 101 [(0, .ref (gb G + t))] [] Z (uI (uI I6 t 2 v7) t 4 ((I6 t 3) + 1)) J6) ∧ (v7 = 0 → Jd G mX5_advance (jdFm G (qv Z K)) (n + 1) rc rs 101 [(0, .ref (gb G + t))] [] Z (uI (uI I6 t 2 v7) t 4 (I6 t 1)) J6)))))))) ∧ ((I (t + 1) (Int32.toNatClampNeg (I t 3))) = 32 → Jd G mX5_advance (jdFm G (qv Z K)) (n + 1) rc rs 8 [(0, .ref (gb G + t))] [] Z (uI I t 3 ((I t 3) + 1)) J)))))) : Jd G mX5_advance (jdFm G (qv Z K)) (n + 1) rc rs 8 [(0, .ref (gb G + t))] [] Z I J := by
  refine jd_aload_n (pc := 8) 0 dX5_advance_8 rfl rfl ?_
  refine jd_getI (pc := 9) (ci := 4) (k := 3) gX5_36 ht.1 rfl dX5_advance_9 ?_
  refine jd_aload_n (pc := 12) 0 dX5_advance_12 rfl rfl ?_
  refine jd_getI (pc := 13) (ci := 4) (k := 1) gX5_15 ht.1 rfl dX5_advance_13 ?_
  refine jd_icmp_ge (pc := 16) 46 dX5_advance_16 (by decide) (fun hc => ?_) (fun hc => ?_)
  · have h := h.1 hc
    refine jd_aload_n (pc := 46) 0 dX5_advance_46 rfl rfl ?_
    refine jd_aload_n (pc := 47) 0 dX5_advance_47 rfl rfl ?_
    refine jd_getI (pc := 48) (ci := 4) (k := 3) gX5_36 ht.1 rfl dX5_advance_48 ?_
    refine jd_aload_n (pc := 51) 0 dX5_advance_51 rfl rfl ?_
    refine jd_getI (pc := 52) (ci := 4) (k := 1) gX5_15 ht.1 rfl dX5_advance_52 ?_
    refine jd_icmp_ge (pc := 55) 73 dX5_advance_55 (by decide) (fun hc => ?_) (fun hc => ?_)
    · have h := h.1 hc
      refine jd_iconst (pc := 73) (v := 0) dX5_advance_73 (by decide) ?_
      refine jd_putI (pc := 74) (ci := 4) (k := 2) pX5_29 ht.1 rfl rfl rfl dX5_advance_74 ?_
      refine jd_aload_n (pc := 77) 0 dX5_advance_77 rfl rfl ?_
      refine jd_aload_n (pc := 78) 0 dX5_advance_78 rfl rfl ?_
      refine jd_getIe (pc := 79) (ci := 4) (k := 2) (e := 0) (uI_ss _ _ _ _) gX5_29 ht.1 rfl dX5_advance_79 ?_
      refine jd_if_ne (pc := 82) 92 dX5_advance_82 (by decide) (fun hc => absurd (show (0 : Int32) = 0 by decide) hc) (fun _ => ?_)
      refine jd_aload_n (pc := 85) 0 dX5_advance_85 rfl rfl ?_
      refine jd_getIe (pc := 86) (ci := 4) (k := 1) (e := (I t 1)) (uI_sk (by decide) rfl) gX5_15 ht.1 rfl dX5_advance_86 ?_
      refine jd_goto (pc := 89) 98 dX5_advance_89 (by decide) ?_
      refine jd_putI (pc := 98) (ci := 4) (k := 4) pX5_19 ht.1 rfl rfl rfl dX5_advance_98 ?_
      exact jd_lv (lv2 := [(0, .ref (gb G + t))]) [0] rfl h
    · have h := h.2 hc
      refine jd_aload_n (pc := 58) 0 dX5_advance_58 rfl rfl ?_
      refine jd_getR (pc := 59) (ci := 4) (k := 0) (r := (t + 1)) gX5_11 ht.1 rfl (zScribe_p0 ht) dX5_advance_59 ?_
      refine jd_aload_n (pc := 62) 0 dX5_advance_62 rfl rfl ?_
      refine jd_getI (pc := 63) (ci := 4) (k := 3) gX5_36 ht.1 rfl dX5_advance_63 ?_
      obtain ⟨hv1, h⟩ := h
      refine jd_iald (pc := 66) (len := 250) (zScribe_a0 ht) hv1 dX5_advance_66 ?_
      refine jd_callSi (pc := 67) (M2 := mX5_tokenOf) (av := [.int (I (t + 1) (Int32.toNatClampNeg (I t 3)))]) kX5_tokenOf sX5_tokenOf lX5_42 rfl rfl (Nat.le_of_ble_eq_true rfl) dX5_advance_67 h ?_
      intro v3 I2 J2 h
      refine jd_goto (pc := 70) 74 dX5_advance_70 (by decide) ?_
      refine jd_putI (pc := 74) (ci := 4) (k := 2) pX5_29 ht.1 rfl rfl rfl dX5_advance_74 ?_
      refine jd_aload_n (pc := 77) 0 dX5_advance_77 rfl rfl ?_
      refine jd_aload_n (pc := 78) 0 dX5_advance_78 rfl rfl ?_
      refine jd_getIe (pc := 79) (ci := 4) (k := 2) (e := v3) (uI_ss _ _ _ _) gX5_29 ht.1 rfl dX5_advance_79 ?_
      refine jd_if_ne (pc := 82) 92 dX5_advance_82 (by decide) (fun hc => ?_) (fun hc => ?_)
      · have h := h.1 hc
        refine jd_aload_n (pc := 92) 0 dX5_advance_92 rfl rfl ?_
        refine jd_getIe (pc := 93) (ci := 4) (k := 3) (e := (I2 t 3)) (uI_sk (by decide) rfl) gX5_36 ht.1 rfl dX5_advance_93 ?_
        refine jd_iconst (pc := 96) (v := 1) dX5_advance_96 (by decide) ?_
        refine jd_iadd (pc := 97) dX5_advance_97 ?_
        refine jd_putI (pc := 98) (ci := 4) (k := 4) pX5_19 ht.1 rfl rfl rfl dX5_advance_98 ?_
        exact jd_lv (lv2 := [(0, .ref (gb G + t))]) [0] rfl h
      · have h := h.2 hc
        refine jd_aload_n (pc := 85) 0 dX5_advance_85 rfl rfl ?_
        refine jd_getIe (pc := 86) (ci := 4) (k := 1) (e := (I2 t 1)) (uI_sk (by decide) rfl) gX5_15 ht.1 rfl dX5_advance_86 ?_
        refine jd_goto (pc := 89) 98 dX5_advance_89 (by decide) ?_
        refine jd_putI (pc := 98) (ci := 4) (k := 4) pX5_19 ht.1 rfl rfl rfl dX5_advance_98 ?_
        exact jd_lv (lv2 := [(0, .ref (gb G + t))]) [0] rfl h
  · have h := h.2 hc
    refine jd_aload_n (pc := 19) 0 dX5_advance_19 rfl rfl ?_
    refine jd_getR (pc := 20) (ci := 4) (k := 0) (r := (t + 1)) gX5_11 ht.1 rfl (zScribe_p0 ht) dX5_advance_20 ?_
    refine jd_aload_n (pc := 23) 0 dX5_advance_23 rfl rfl ?_
    refine jd_getI (pc := 24) (ci := 4) (k := 3) gX5_36 ht.1 rfl dX5_advance_24 ?_
    obtain ⟨hv4, h⟩ := h
    refine jd_iald (pc := 27) (len := 250) (zScribe_a0 ht) hv4 dX5_advance_27 ?_
    refine jd_bipush (pc := 28) (v := 32) dX5_advance_28 (by decide) ?_
    refine jd_icmp_ne (pc := 30) 46 dX5_advance_30 (by decide) (fun hc => ?_) (fun hc => ?_)
    · have h := h.1 hc
      refine jd_aload_n (pc := 46) 0 dX5_advance_46 rfl rfl ?_
      refine jd_aload_n (pc := 47) 0 dX5_advance_47 rfl rfl ?_
      refine jd_getI (pc := 48) (ci := 4) (k := 3) gX5_36 ht.1 rfl dX5_advance_48 ?_
      refine jd_aload_n (pc := 51) 0 dX5_advance_51 rfl rfl ?_
      refine jd_getI (pc := 52) (ci := 4) (k := 1) gX5_15 ht.1 rfl dX5_advance_52 ?_
      refine jd_icmp_ge (pc := 55) 73 dX5_advance_55 (by decide) (fun hc => ?_) (fun hc => ?_)
      · have h := h.1 hc
        refine jd_iconst (pc := 73) (v := 0) dX5_advance_73 (by decide) ?_
        refine jd_putI (pc := 74) (ci := 4) (k := 2) pX5_29 ht.1 rfl rfl rfl dX5_advance_74 ?_
        refine jd_aload_n (pc := 77) 0 dX5_advance_77 rfl rfl ?_
        refine jd_aload_n (pc := 78) 0 dX5_advance_78 rfl rfl ?_
        refine jd_getIe (pc := 79) (ci := 4) (k := 2) (e := 0) (uI_ss _ _ _ _) gX5_29 ht.1 rfl dX5_advance_79 ?_
        refine jd_if_ne (pc := 82) 92 dX5_advance_82 (by decide) (fun hc => absurd (show (0 : Int32) = 0 by decide) hc) (fun _ => ?_)
        refine jd_aload_n (pc := 85) 0 dX5_advance_85 rfl rfl ?_
        refine jd_getIe (pc := 86) (ci := 4) (k := 1) (e := (I t 1)) (uI_sk (by decide) rfl) gX5_15 ht.1 rfl dX5_advance_86 ?_
        refine jd_goto (pc := 89) 98 dX5_advance_89 (by decide) ?_
        refine jd_putI (pc := 98) (ci := 4) (k := 4) pX5_19 ht.1 rfl rfl rfl dX5_advance_98 ?_
        exact jd_lv (lv2 := [(0, .ref (gb G + t))]) [0] rfl h
      · have h := h.2 hc
        refine jd_aload_n (pc := 58) 0 dX5_advance_58 rfl rfl ?_
        refine jd_getR (pc := 59) (ci := 4) (k := 0) (r := (t + 1)) gX5_11 ht.1 rfl (zScribe_p0 ht) dX5_advance_59 ?_
        refine jd_aload_n (pc := 62) 0 dX5_advance_62 rfl rfl ?_
        refine jd_getI (pc := 63) (ci := 4) (k := 3) gX5_36 ht.1 rfl dX5_advance_63 ?_
        obtain ⟨hv5, h⟩ := h
        refine jd_iald (pc := 66) (len := 250) (zScribe_a0 ht) hv5 dX5_advance_66 ?_
        refine jd_callSi (pc := 67) (M2 := mX5_tokenOf) (av := [.int (I (t + 1) (Int32.toNatClampNeg (I t 3)))]) kX5_tokenOf sX5_tokenOf lX5_42 rfl rfl (Nat.le_of_ble_eq_true rfl) dX5_advance_67 h ?_
        intro v7 I6 J6 h
        refine jd_goto (pc := 70) 74 dX5_advance_70 (by decide) ?_
        refine jd_putI (pc := 74) (ci := 4) (k := 2) pX5_29 ht.1 rfl rfl rfl dX5_advance_74 ?_
        refine jd_aload_n (pc := 77) 0 dX5_advance_77 rfl rfl ?_
        refine jd_aload_n (pc := 78) 0 dX5_advance_78 rfl rfl ?_
        refine jd_getIe (pc := 79) (ci := 4) (k := 2) (e := v7) (uI_ss _ _ _ _) gX5_29 ht.1 rfl dX5_advance_79 ?_
        refine jd_if_ne (pc := 82) 92 dX5_advance_82 (by decide) (fun hc => ?_) (fun hc => ?_)
        · have h := h.1 hc
          refine jd_aload_n (pc := 92) 0 dX5_advance_92 rfl rfl ?_
          refine jd_getIe (pc := 93) (ci := 4) (k := 3) (e := (I6 t 3)) (uI_sk (by decide) rfl) gX5_36 ht.1 rfl dX5_advance_93 ?_
          refine jd_iconst (pc := 96) (v := 1) dX5_advance_96 (by decide) ?_
          refine jd_iadd (pc := 97) dX5_advance_97 ?_
          refine jd_putI (pc := 98) (ci := 4) (k := 4) pX5_19 ht.1 rfl rfl rfl dX5_advance_98 ?_
          exact jd_lv (lv2 := [(0, .ref (gb G + t))]) [0] rfl h
        · have h := h.2 hc
          refine jd_aload_n (pc := 85) 0 dX5_advance_85 rfl rfl ?_
          refine jd_getIe (pc := 86) (ci := 4) (k := 1) (e := (I6 t 1)) (uI_sk (by decide) rfl) gX5_15 ht.1 rfl dX5_advance_86 ?_
          refine jd_goto (pc := 89) 98 dX5_advance_89 (by decide) ?_
          refine jd_putI (pc := 98) (ci := 4) (k := 4) pX5_19 ht.1 rfl rfl rfl dX5_advance_98 ?_
          exact jd_lv (lv2 := [(0, .ref (gb G + t))]) [0] rfl h
    · have h := h.2 hc
      refine jd_aload_n (pc := 33) 0 dX5_advance_33 rfl rfl ?_
      refine jd_dup (pc := 34) dX5_advance_34 rfl ?_
      refine jd_getI (pc := 35) (ci := 4) (k := 3) gX5_36 ht.1 rfl dX5_advance_35 ?_
      refine jd_iconst (pc := 38) (v := 1) dX5_advance_38 (by decide) ?_
      refine jd_iadd (pc := 39) dX5_advance_39 ?_
      refine jd_putI (pc := 40) (ci := 4) (k := 3) pX5_36 ht.1 rfl rfl rfl dX5_advance_40 ?_
      refine jd_goto (pc := 43) 8 dX5_advance_43 (by decide) ?_
      exact jd_lv (lv2 := [(0, .ref (gb G + t))]) [0] rfl h
set_option maxRecDepth 4000 in
theorem rX5_advance_101 {G : jdG} {n rc rs : Nat} {Z : jdL} {I : jdI} {J : jdJ} {K : jdI → jdJ → Prop} {t : Nat} (ht : zScribe Z t) (h : (((I t 2) = 1 → (((I t 1) ≤ (I t 4) → K I J) ∧ (¬ (I t 1) ≤ (I t 4) → (vp_in (I t 4) 250 ∧ Cl G mX5_tokenOf n 0 0 [.int (I (t + 1) (Int32.toNatClampNeg (I t 4)))] Z I J (qi Z (fun v3 I2 J2 => ((¬ v3 = (I2 t 2) → K I2 J2) ∧ (v3 = (I2 t 2) → Jd G mX5_advance (jdFm G (qv Z K)) (n + 1) rc rs 101 [(0, .ref (gb G + t))] [] Z (uI I2 t 4 ((I2 t 4) + 1)) J2)))))))) ∧ (¬ (I t 2) = 1 → ((¬ (I t 2) = 2 → K I J) ∧ ((I t 2) = 2 → (((I t 1) ≤ (I t 4) → K I J) ∧ (¬ (I t 1) ≤ (I t 4) → (vp_in (I t 4) 250 ∧ Cl G mX5_tokenOf n 0 0 [.int (I (t + 1) (Int32.toNatClampNeg (I t 4)))] Z I J (qi Z (fun v6 I5 J5 => ((¬ v6 = (I5 t 2) → K I5 J5) ∧ (v6 = (I5 t 2) → Jd G mX5_advance (jdFm G (qv Z K)) (n + 1) rc rs 101 [(0, .ref (gb G + t))] [] Z (uI I5 t 4 ((I5 t 4) + 1)) J5)))))))))))) : Jd G mX5_advance (jdFm G (qv Z K)) (n + 1) rc rs 101 [(0, .ref (gb G + t))] [] Z I J := by
  refine jd_aload_n (pc := 101) 0 dX5_advance_101 rfl rfl ?_
  refine jd_getI (pc := 102) (ci := 4) (k := 2) gX5_29 ht.1 rfl dX5_advance_102 ?_
  refine jd_iconst (pc := 105) (v := 1) dX5_advance_105 (by decide) ?_
  refine jd_icmp_eq (pc := 106) 117 dX5_advance_106 (by decide) (fun hc => ?_) (fun hc => ?_)
  · have h := h.1 hc
    refine jd_aload_n (pc := 117) 0 dX5_advance_117 rfl rfl ?_
    refine jd_getI (pc := 118) (ci := 4) (k := 4) gX5_19 ht.1 rfl dX5_advance_118 ?_
    refine jd_aload_n (pc := 121) 0 dX5_advance_121 rfl rfl ?_
    refine jd_getI (pc := 122) (ci := 4) (k := 1) gX5_15 ht.1 rfl dX5_advance_122 ?_
    refine jd_icmp_ge (pc := 125) 160 dX5_advance_125 (by decide) (fun hc => ?_) (fun hc => ?_)
    · have h := h.1 hc
      exact jd_vretK (pc := 160) rfl dX5_advance_160 h
    · have h := h.2 hc
      refine jd_aload_n (pc := 128) 0 dX5_advance_128 rfl rfl ?_
      refine jd_getR (pc := 129) (ci := 4) (k := 0) (r := (t + 1)) gX5_11 ht.1 rfl (zScribe_p0 ht) dX5_advance_129 ?_
      refine jd_aload_n (pc := 132) 0 dX5_advance_132 rfl rfl ?_
      refine jd_getI (pc := 133) (ci := 4) (k := 4) gX5_19 ht.1 rfl dX5_advance_133 ?_
      obtain ⟨hv1, h⟩ := h
      refine jd_iald (pc := 136) (len := 250) (zScribe_a0 ht) hv1 dX5_advance_136 ?_
      refine jd_callSi (pc := 137) (M2 := mX5_tokenOf) (av := [.int (I (t + 1) (Int32.toNatClampNeg (I t 4)))]) kX5_tokenOf sX5_tokenOf lX5_42 rfl rfl (Nat.le_of_ble_eq_true rfl) dX5_advance_137 h ?_
      intro v3 I2 J2 h
      refine jd_aload_n (pc := 140) 0 dX5_advance_140 rfl rfl ?_
      refine jd_getI (pc := 141) (ci := 4) (k := 2) gX5_29 ht.1 rfl dX5_advance_141 ?_
      refine jd_icmp_ne (pc := 144) 160 dX5_advance_144 (by decide) (fun hc => ?_) (fun hc => ?_)
      · have h := h.1 hc
        exact jd_vretK (pc := 160) rfl dX5_advance_160 h
      · have h := h.2 hc
        refine jd_aload_n (pc := 147) 0 dX5_advance_147 rfl rfl ?_
        refine jd_dup (pc := 148) dX5_advance_148 rfl ?_
        refine jd_getI (pc := 149) (ci := 4) (k := 4) gX5_19 ht.1 rfl dX5_advance_149 ?_
        refine jd_iconst (pc := 152) (v := 1) dX5_advance_152 (by decide) ?_
        refine jd_iadd (pc := 153) dX5_advance_153 ?_
        refine jd_putI (pc := 154) (ci := 4) (k := 4) pX5_19 ht.1 rfl rfl rfl dX5_advance_154 ?_
        refine jd_goto (pc := 157) 101 dX5_advance_157 (by decide) ?_
        exact jd_lv (lv2 := [(0, .ref (gb G + t))]) [0] rfl h
  · have h := h.2 hc
    refine jd_aload_n (pc := 109) 0 dX5_advance_109 rfl rfl ?_
    refine jd_getI (pc := 110) (ci := 4) (k := 2) gX5_29 ht.1 rfl dX5_advance_110 ?_
    refine jd_iconst (pc := 113) (v := 2) dX5_advance_113 (by decide) ?_
    refine jd_icmp_ne (pc := 114) 160 dX5_advance_114 (by decide) (fun hc => ?_) (fun hc => ?_)
    · have h := h.1 hc
      exact jd_vretK (pc := 160) rfl dX5_advance_160 h
    · have h := h.2 hc
      refine jd_aload_n (pc := 117) 0 dX5_advance_117 rfl rfl ?_
      refine jd_getI (pc := 118) (ci := 4) (k := 4) gX5_19 ht.1 rfl dX5_advance_118 ?_
      refine jd_aload_n (pc := 121) 0 dX5_advance_121 rfl rfl ?_
      refine jd_getI (pc := 122) (ci := 4) (k := 1) gX5_15 ht.1 rfl dX5_advance_122 ?_
      refine jd_icmp_ge (pc := 125) 160 dX5_advance_125 (by decide) (fun hc => ?_) (fun hc => ?_)
      · have h := h.1 hc
        exact jd_vretK (pc := 160) rfl dX5_advance_160 h
      · have h := h.2 hc
        refine jd_aload_n (pc := 128) 0 dX5_advance_128 rfl rfl ?_
        refine jd_getR (pc := 129) (ci := 4) (k := 0) (r := (t + 1)) gX5_11 ht.1 rfl (zScribe_p0 ht) dX5_advance_129 ?_
        refine jd_aload_n (pc := 132) 0 dX5_advance_132 rfl rfl ?_
        refine jd_getI (pc := 133) (ci := 4) (k := 4) gX5_19 ht.1 rfl dX5_advance_133 ?_
        obtain ⟨hv4, h⟩ := h
        refine jd_iald (pc := 136) (len := 250) (zScribe_a0 ht) hv4 dX5_advance_136 ?_
        refine jd_callSi (pc := 137) (M2 := mX5_tokenOf) (av := [.int (I (t + 1) (Int32.toNatClampNeg (I t 4)))]) kX5_tokenOf sX5_tokenOf lX5_42 rfl rfl (Nat.le_of_ble_eq_true rfl) dX5_advance_137 h ?_
        intro v6 I5 J5 h
        refine jd_aload_n (pc := 140) 0 dX5_advance_140 rfl rfl ?_
        refine jd_getI (pc := 141) (ci := 4) (k := 2) gX5_29 ht.1 rfl dX5_advance_141 ?_
        refine jd_icmp_ne (pc := 144) 160 dX5_advance_144 (by decide) (fun hc => ?_) (fun hc => ?_)
        · have h := h.1 hc
          exact jd_vretK (pc := 160) rfl dX5_advance_160 h
        · have h := h.2 hc
          refine jd_aload_n (pc := 147) 0 dX5_advance_147 rfl rfl ?_
          refine jd_dup (pc := 148) dX5_advance_148 rfl ?_
          refine jd_getI (pc := 149) (ci := 4) (k := 4) gX5_19 ht.1 rfl dX5_advance_149 ?_
          refine jd_iconst (pc := 152) (v := 1) dX5_advance_152 (by decide) ?_
          refine jd_iadd (pc := 153) dX5_advance_153 ?_
          refine jd_putI (pc := 154) (ci := 4) (k := 4) pX5_19 ht.1 rfl rfl rfl dX5_advance_154 ?_
          refine jd_goto (pc := 157) 101 dX5_advance_157 (by decide) ?_
          exact jd_lv (lv2 := [(0, .ref (gb G + t))]) [0] rfl h
theorem eX5_advance {G : jdG} {n : Nat} {Z : jdL} {I : jdI} {J : jdJ} {K : jdI → jdJ → Prop} {t : Nat} (ht : zScribe Z t) (h : Jd G mX5_advance (jdFm G (qv Z K)) (n + 1) 0 0 8 [(0, .ref (gb G + t))] [] Z (uI I t 3 (I t 4)) J) : Cl G mX5_advance (n + 1) 0 0 [.ref (gb G + t)] Z I J (qv Z K) :=
  Cl.of (by decide +kernel) (Nat.le_of_ble_eq_true rfl) (rX5_advance_0 ht h)
set_option maxRecDepth 4000 in
theorem rX5_tokenOf_0 {G : jdG} {n rc rs : Nat} {Z : jdL} {I : jdI} {J : jdJ} {K : Int32 → jdI → jdJ → Prop} {x0 : Int32}  (h : ((x0 < 97 → ((x0 < 48 → ((¬ x0 = 59 → K 4 I J) ∧ (x0 = 59 → K 3 I J))) ∧ (¬ x0 < 48 → ((57 < x0 → ((¬ x0 = 59 → K 4 I J) ∧ (x0 = 59 → K 3 I J))) ∧ (¬ 57 < x0 → K 2 I J))))) ∧ (¬ x0 < 97 → ((122 < x0 → ((x0 < 48 → ((¬ x0 = 59 → K 4 I J) ∧ (x0 = 59 → K 3 I J))) ∧ (¬ x0 < 48 → ((57 < x0 → ((¬ x0 = 59 → K 4 I J) ∧ (x0 = 59 → K 3 I J))) ∧ (¬ 57 < x0 → K 2 I J))))) ∧ (¬ 122 < x0 → K 1 I J))))) : Jd G mX5_tokenOf (jdFm G (qi Z K)) n rc rs 0 [(0, .int x0)] [] Z I J := by
  refine jd_iload_n (pc := 0) 0 dX5_tokenOf_0 rfl rfl ?_
  refine jd_bipush (pc := 1) (v := 97) dX5_tokenOf_1 (by decide) ?_
  refine jd_icmp_lt (pc := 3) 14 dX5_tokenOf_3 (by decide) (fun hc => ?_) (fun hc => ?_)
  · have h := h.1 hc
    refine jd_iload_n (pc := 14) 0 dX5_tokenOf_14 rfl rfl ?_
    refine jd_bipush (pc := 15) (v := 48) dX5_tokenOf_15 (by decide) ?_
    refine jd_icmp_lt (pc := 17) 28 dX5_tokenOf_17 (by decide) (fun hc => ?_) (fun hc => ?_)
    · have h := h.1 hc
      refine jd_iload_n (pc := 28) 0 dX5_tokenOf_28 rfl rfl ?_
      refine jd_bipush (pc := 29) (v := 59) dX5_tokenOf_29 (by decide) ?_
      refine jd_icmp_ne (pc := 31) 38 dX5_tokenOf_31 (by decide) (fun hc => ?_) (fun hc => ?_)
      · have h := h.1 hc
        refine jd_iconst (pc := 38) (v := 4) dX5_tokenOf_38 (by decide) ?_
        exact jd_iretK (pc := 39) rfl rfl dX5_tokenOf_39 h
      · have h := h.2 hc
        refine jd_iconst (pc := 34) (v := 3) dX5_tokenOf_34 (by decide) ?_
        refine jd_goto (pc := 35) 39 dX5_tokenOf_35 (by decide) ?_
        exact jd_iretK (pc := 39) rfl rfl dX5_tokenOf_39 h
    · have h := h.2 hc
      refine jd_iload_n (pc := 20) 0 dX5_tokenOf_20 rfl rfl ?_
      refine jd_bipush (pc := 21) (v := 57) dX5_tokenOf_21 (by decide) ?_
      refine jd_icmp_gt (pc := 23) 28 dX5_tokenOf_23 (by decide) (fun hc => ?_) (fun hc => ?_)
      · have h := h.1 hc
        refine jd_iload_n (pc := 28) 0 dX5_tokenOf_28 rfl rfl ?_
        refine jd_bipush (pc := 29) (v := 59) dX5_tokenOf_29 (by decide) ?_
        refine jd_icmp_ne (pc := 31) 38 dX5_tokenOf_31 (by decide) (fun hc => ?_) (fun hc => ?_)
        · have h := h.1 hc
          refine jd_iconst (pc := 38) (v := 4) dX5_tokenOf_38 (by decide) ?_
          exact jd_iretK (pc := 39) rfl rfl dX5_tokenOf_39 h
        · have h := h.2 hc
          refine jd_iconst (pc := 34) (v := 3) dX5_tokenOf_34 (by decide) ?_
          refine jd_goto (pc := 35) 39 dX5_tokenOf_35 (by decide) ?_
          exact jd_iretK (pc := 39) rfl rfl dX5_tokenOf_39 h
      · have h := h.2 hc
        refine jd_iconst (pc := 26) (v := 2) dX5_tokenOf_26 (by decide) ?_
        exact jd_iretK (pc := 27) rfl rfl dX5_tokenOf_27 h
  · have h := h.2 hc
    refine jd_iload_n (pc := 6) 0 dX5_tokenOf_6 rfl rfl ?_
    refine jd_bipush (pc := 7) (v := 122) dX5_tokenOf_7 (by decide) ?_
    refine jd_icmp_gt (pc := 9) 14 dX5_tokenOf_9 (by decide) (fun hc => ?_) (fun hc => ?_)
    · have h := h.1 hc
      refine jd_iload_n (pc := 14) 0 dX5_tokenOf_14 rfl rfl ?_
      refine jd_bipush (pc := 15) (v := 48) dX5_tokenOf_15 (by decide) ?_
      refine jd_icmp_lt (pc := 17) 28 dX5_tokenOf_17 (by decide) (fun hc => ?_) (fun hc => ?_)
      · have h := h.1 hc
        refine jd_iload_n (pc := 28) 0 dX5_tokenOf_28 rfl rfl ?_
        refine jd_bipush (pc := 29) (v := 59) dX5_tokenOf_29 (by decide) ?_
        refine jd_icmp_ne (pc := 31) 38 dX5_tokenOf_31 (by decide) (fun hc => ?_) (fun hc => ?_)
        · have h := h.1 hc
          refine jd_iconst (pc := 38) (v := 4) dX5_tokenOf_38 (by decide) ?_
          exact jd_iretK (pc := 39) rfl rfl dX5_tokenOf_39 h
        · have h := h.2 hc
          refine jd_iconst (pc := 34) (v := 3) dX5_tokenOf_34 (by decide) ?_
          refine jd_goto (pc := 35) 39 dX5_tokenOf_35 (by decide) ?_
          exact jd_iretK (pc := 39) rfl rfl dX5_tokenOf_39 h
      · have h := h.2 hc
        refine jd_iload_n (pc := 20) 0 dX5_tokenOf_20 rfl rfl ?_
        refine jd_bipush (pc := 21) (v := 57) dX5_tokenOf_21 (by decide) ?_
        refine jd_icmp_gt (pc := 23) 28 dX5_tokenOf_23 (by decide) (fun hc => ?_) (fun hc => ?_)
        · have h := h.1 hc
          refine jd_iload_n (pc := 28) 0 dX5_tokenOf_28 rfl rfl ?_
          refine jd_bipush (pc := 29) (v := 59) dX5_tokenOf_29 (by decide) ?_
          refine jd_icmp_ne (pc := 31) 38 dX5_tokenOf_31 (by decide) (fun hc => ?_) (fun hc => ?_)
          · have h := h.1 hc
            refine jd_iconst (pc := 38) (v := 4) dX5_tokenOf_38 (by decide) ?_
            exact jd_iretK (pc := 39) rfl rfl dX5_tokenOf_39 h
          · have h := h.2 hc
            refine jd_iconst (pc := 34) (v := 3) dX5_tokenOf_34 (by decide) ?_
            refine jd_goto (pc := 35) 39 dX5_tokenOf_35 (by decide) ?_
            exact jd_iretK (pc := 39) rfl rfl dX5_tokenOf_39 h
        · have h := h.2 hc
          refine jd_iconst (pc := 26) (v := 2) dX5_tokenOf_26 (by decide) ?_
          exact jd_iretK (pc := 27) rfl rfl dX5_tokenOf_27 h
    · have h := h.2 hc
      refine jd_iconst (pc := 12) (v := 1) dX5_tokenOf_12 (by decide) ?_
      exact jd_iretK (pc := 13) rfl rfl dX5_tokenOf_13 h
theorem eX5_tokenOf {G : jdG} {n : Nat} {Z : jdL} {I : jdI} {J : jdJ} {K : Int32 → jdI → jdJ → Prop} {x0 : Int32}  (h : ((x0 < 97 → ((x0 < 48 → ((¬ x0 = 59 → K 4 I J) ∧ (x0 = 59 → K 3 I J))) ∧ (¬ x0 < 48 → ((57 < x0 → ((¬ x0 = 59 → K 4 I J) ∧ (x0 = 59 → K 3 I J))) ∧ (¬ 57 < x0 → K 2 I J))))) ∧ (¬ x0 < 97 → ((122 < x0 → ((x0 < 48 → ((¬ x0 = 59 → K 4 I J) ∧ (x0 = 59 → K 3 I J))) ∧ (¬ x0 < 48 → ((57 < x0 → ((¬ x0 = 59 → K 4 I J) ∧ (x0 = 59 → K 3 I J))) ∧ (¬ 57 < x0 → K 2 I J))))) ∧ (¬ 122 < x0 → K 1 I J))))) : Cl G mX5_tokenOf (n) 0 0 [.int x0] Z I J (qi Z K) :=
  Cl.of (by decide +kernel) (Nat.le_of_ble_eq_true rfl) (rX5_tokenOf_0  h)
set_option maxRecDepth 4000 in
theorem rX5_isWord_0 {G : jdG} {n rc rs : Nat} {Z : jdL} {I : jdI} {J : jdJ} {K : Int32 → jdI → jdJ → Prop} {sA : Nat → Nat} {sV : Nat → Nat} {t : Nat} {u1 : Nat} (hG : gOK G sA sV) (ht : zScribe Z t) (hsi : u1 < 14) (h : ((¬ (I t 2) = 1 → K 0 I J) ∧ ((I t 2) = 1 → Cl G mJ0_length_8abf5 n 0 0 [.ref (sA u1)] Z I J (qi Z (fun v2 I1 J1 => ((((I t 4) - (I t 3)) = v2 → Jd G mX5_isWord (jdFm G (qi Z K)) (n + 1) rc rs 28 [(0, .ref (gb G + t)), (1, .ref (sA u1)), (2, .int 0)] [] Z I1 J1) ∧ (¬ ((I t 4) - (I t 3)) = v2 → K 0 I1 J1))))))) : Jd G mX5_isWord (jdFm G (qi Z K)) (n + 1) rc rs 0 [(0, .ref (gb G + t)), (1, .ref (sA u1))] [] Z I J := by
  refine jd_aload_n (pc := 0) 0 dX5_isWord_0 rfl rfl ?_
  refine jd_getI (pc := 1) (ci := 4) (k := 2) gX5_29 ht.1 rfl dX5_isWord_1 ?_
  refine jd_iconst (pc := 4) (v := 1) dX5_isWord_4 (by decide) ?_
  refine jd_icmp_ne (pc := 5) 24 dX5_isWord_5 (by decide) (fun hc => ?_) (fun hc => ?_)
  · have h := h.1 hc
    refine jd_iconst (pc := 24) (v := 0) dX5_isWord_24 (by decide) ?_
    exact jd_iretK (pc := 25) (ty := .boolean) rfl (by decide) dX5_isWord_25 h
  · have h := h.2 hc
    refine jd_aload_n (pc := 8) 0 dX5_isWord_8 rfl rfl ?_
    refine jd_getI (pc := 9) (ci := 4) (k := 4) gX5_19 ht.1 rfl dX5_isWord_9 ?_
    refine jd_aload_n (pc := 12) 0 dX5_isWord_12 rfl rfl ?_
    refine jd_getI (pc := 13) (ci := 4) (k := 3) gX5_36 ht.1 rfl dX5_isWord_13 ?_
    refine jd_isub (pc := 16) dX5_isWord_16 ?_
    refine jd_aload_n (pc := 17) 1 dX5_isWord_17 rfl rfl ?_
    refine jd_callStr (pc := 18) (M2 := mJ0_length_8abf5) (av := []) hG hsi kJ0_length_8abf5 sJ0_length_8abf5 rfl lX5_46 rfl rfl (Nat.le_of_ble_eq_true rfl) dX5_isWord_18 h ?_
    intro v2 I1 J1 h
    refine jd_icmp_eq (pc := 21) 26 dX5_isWord_21 (by decide) (fun hc => ?_) (fun hc => ?_)
    · have h := h.1 hc
      refine jd_iconst (pc := 26) (v := 0) dX5_isWord_26 (by decide) ?_
      refine jd_istore_n (pc := 27) [(2, .int 0), (0, .ref (gb G + t)), (1, .ref (sA u1))] dX5_isWord_27 rfl (by decide) rfl ?_
      exact jd_lv (lv2 := [(0, .ref (gb G + t)), (1, .ref (sA u1)), (2, .int 0)]) [1, 2, 0] rfl h
    · have h := h.2 hc
      refine jd_iconst (pc := 24) (v := 0) dX5_isWord_24 (by decide) ?_
      exact jd_iretK (pc := 25) (ty := .boolean) rfl (by decide) dX5_isWord_25 h
set_option maxRecDepth 4000 in
theorem rX5_isWord_28 {G : jdG} {n rc rs : Nat} {Z : jdL} {I : jdI} {J : jdJ} {K : Int32 → jdI → jdJ → Prop} {sA : Nat → Nat} {sV : Nat → Nat} {u1 : Nat} {t : Nat} {x2 : Int32} (hG : gOK G sA sV) (ht : zScribe Z t) (hsi : u1 < 14) (h : Cl G mJ0_length_8abf5 n 0 0 [.ref (sA u1)] Z I J (qi Z (fun v2 I1 J1 => ((v2 ≤ x2 → K 1 I1 J1) ∧ (¬ v2 ≤ x2 → (((I1 t 1) ≤ ((I1 t 3) + x2) → K 1 I1 J1) ∧ (¬ (I1 t 1) ≤ ((I1 t 3) + x2) → (vp_in ((I1 t 3) + x2) 250 ∧ Cl G mJ0_charAt_5068e n 0 0 [.ref (sA u1), .int x2] Z I1 J1 (qi Z (fun v5 I4 J4 => (((I1 (t + 1) (Int32.toNatClampNeg ((I1 t 3) + x2))) = v5 → Jd G mX5_isWord (jdFm G (qi Z K)) (n + 1) rc rs 28 [(0, .ref (gb G + t)), (1, .ref (sA u1)), (2, .int (x2 + 1))] [] Z I4 J4) ∧ (¬ (I1 (t + 1) (Int32.toNatClampNeg ((I1 t 3) + x2))) = v5 → K 0 I4 J4)))))))))))) : Jd G mX5_isWord (jdFm G (qi Z K)) (n + 1) rc rs 28 [(0, .ref (gb G + t)), (1, .ref (sA u1)), (2, .int x2)] [] Z I J := by
  refine jd_iload_n (pc := 28) 2 dX5_isWord_28 rfl rfl ?_
  refine jd_aload_n (pc := 29) 1 dX5_isWord_29 rfl rfl ?_
  refine jd_callStr (pc := 30) (M2 := mJ0_length_8abf5) (av := []) hG hsi kJ0_length_8abf5 sJ0_length_8abf5 rfl lX5_46 rfl rfl (Nat.le_of_ble_eq_true rfl) dX5_isWord_30 h ?_
  intro v2 I1 J1 h
  refine jd_icmp_ge (pc := 33) 76 dX5_isWord_33 (by decide) (fun hc => ?_) (fun hc => ?_)
  · have h := h.1 hc
    refine jd_iconst (pc := 76) (v := 1) dX5_isWord_76 (by decide) ?_
    exact jd_iretK (pc := 77) (ty := .boolean) rfl (by decide) dX5_isWord_77 h
  · have h := h.2 hc
    refine jd_aload_n (pc := 36) 0 dX5_isWord_36 rfl rfl ?_
    refine jd_getI (pc := 37) (ci := 4) (k := 3) gX5_36 ht.1 rfl dX5_isWord_37 ?_
    refine jd_iload_n (pc := 40) 2 dX5_isWord_40 rfl rfl ?_
    refine jd_iadd (pc := 41) dX5_isWord_41 ?_
    refine jd_aload_n (pc := 42) 0 dX5_isWord_42 rfl rfl ?_
    refine jd_getI (pc := 43) (ci := 4) (k := 1) gX5_15 ht.1 rfl dX5_isWord_43 ?_
    refine jd_icmp_ge (pc := 46) 76 dX5_isWord_46 (by decide) (fun hc => ?_) (fun hc => ?_)
    · have h := h.1 hc
      refine jd_iconst (pc := 76) (v := 1) dX5_isWord_76 (by decide) ?_
      exact jd_iretK (pc := 77) (ty := .boolean) rfl (by decide) dX5_isWord_77 h
    · have h := h.2 hc
      refine jd_aload_n (pc := 49) 0 dX5_isWord_49 rfl rfl ?_
      refine jd_getR (pc := 50) (ci := 4) (k := 0) (r := (t + 1)) gX5_11 ht.1 rfl (zScribe_p0 ht) dX5_isWord_50 ?_
      refine jd_aload_n (pc := 53) 0 dX5_isWord_53 rfl rfl ?_
      refine jd_getI (pc := 54) (ci := 4) (k := 3) gX5_36 ht.1 rfl dX5_isWord_54 ?_
      refine jd_iload_n (pc := 57) 2 dX5_isWord_57 rfl rfl ?_
      refine jd_iadd (pc := 58) dX5_isWord_58 ?_
      obtain ⟨hv3, h⟩ := h
      refine jd_iald (pc := 59) (len := 250) (zScribe_a0 ht) hv3 dX5_isWord_59 ?_
      refine jd_aload_n (pc := 60) 1 dX5_isWord_60 rfl rfl ?_
      refine jd_iload_n (pc := 61) 2 dX5_isWord_61 rfl rfl ?_
      refine jd_callStr (pc := 62) (M2 := mJ0_charAt_5068e) (av := [.int x2]) hG hsi kJ0_charAt_5068e sJ0_charAt_5068e rfl lX5_52 rfl rfl (Nat.le_of_ble_eq_true rfl) dX5_isWord_62 h ?_
      intro v5 I4 J4 h
      refine jd_icmp_eq (pc := 65) 70 dX5_isWord_65 (by decide) (fun hc => ?_) (fun hc => ?_)
      · have h := h.1 hc
        refine jd_iinc (pc := 70) (v := (x2 + 1)) 2 [(2, .int (x2 + 1)), (0, .ref (gb G + t)), (1, .ref (sA u1))] dX5_isWord_70 rfl rfl (by decide) rfl ?_
        refine jd_goto (pc := 73) 28 dX5_isWord_73 (by decide) ?_
        exact jd_lv (lv2 := [(0, .ref (gb G + t)), (1, .ref (sA u1)), (2, .int (x2 + 1))]) [1, 2, 0] rfl h
      · have h := h.2 hc
        refine jd_iconst (pc := 68) (v := 0) dX5_isWord_68 (by decide) ?_
        exact jd_iretK (pc := 69) (ty := .boolean) rfl (by decide) dX5_isWord_69 h
theorem eX5_isWord {G : jdG} {n : Nat} {Z : jdL} {I : jdI} {J : jdJ} {K : Int32 → jdI → jdJ → Prop} {sA : Nat → Nat} {sV : Nat → Nat} {t : Nat} {u1 : Nat} (hG : gOK G sA sV) (ht : zScribe Z t) (hsi : u1 < 14) (h : ((¬ (I t 2) = 1 → K 0 I J) ∧ ((I t 2) = 1 → Cl G mJ0_length_8abf5 n 0 0 [.ref (sA u1)] Z I J (qi Z (fun v2 I1 J1 => ((((I t 4) - (I t 3)) = v2 → Jd G mX5_isWord (jdFm G (qi Z K)) (n + 1) 0 0 28 [(0, .ref (gb G + t)), (1, .ref (sA u1)), (2, .int 0)] [] Z I1 J1) ∧ (¬ ((I t 4) - (I t 3)) = v2 → K 0 I1 J1))))))) : Cl G mX5_isWord (n + 1) 0 0 [.ref (gb G + t), .ref (sA u1)] Z I J (qi Z K) :=
  Cl.of (by decide +kernel) (Nat.le_of_ble_eq_true rfl) (rX5_isWord_0 hG ht hsi h)
set_option maxRecDepth 4000 in
theorem rX5_readNumber_0 {G : jdG} {n rc rs : Nat} {Z : jdL} {I : jdI} {J : jdJ} {K : Int32 → jdI → jdJ → Prop} {t : Nat} {x1 : Int32} {x2 : Int32} {x3 : Int32} (ht : zScribe Z t) (h : ((¬ (I t 2) = 2 → Cl G mX5_fail n 0 0 [.ref (gb G + t)] Z I J (qi Z (fun v2 I1 J1 => K (-1) I1 J1))) ∧ ((I t 2) = 2 → ((2 < ((I t 4) - (I t 3)) → Cl G mX5_fail n 0 0 [.ref (gb G + t)] Z I J (qi Z (fun v4 I3 J3 => K (-1) I3 J3))) ∧ (¬ 2 < ((I t 4) - (I t 3)) → (((I t 4) ≤ (I t 1) → Jd G mX5_readNumber (jdFm G (qi Z K)) (n + 1) rc rs 48 [(0, .ref (gb G + t)), (1, .int x1), (2, .int x2), (3, .int x3), (4, .int 0), (5, .int (I t 3))] [] Z I J) ∧ (¬ (I t 4) ≤ (I t 1) → Cl G mX5_fail n 0 0 [.ref (gb G + t)] Z I J (qi Z (fun v6 I5 J5 => K (-1) I5 J5))))))))) : Jd G mX5_readNumber (jdFm G (qi Z K)) (n + 1) rc rs 0 [(0, .ref (gb G + t)), (1, .int x1), (2, .int x2), (3, .int x3)] [] Z I J := by
  refine jd_aload_n (pc := 0) 0 dX5_readNumber_0 rfl rfl ?_
  refine jd_getI (pc := 1) (ci := 4) (k := 2) gX5_29 ht.1 rfl dX5_readNumber_1 ?_
  refine jd_iconst (pc := 4) (v := 2) dX5_readNumber_4 (by decide) ?_
  refine jd_icmp_ne (pc := 5) 32 dX5_readNumber_5 (by decide) (fun hc => ?_) (fun hc => ?_)
  · have h := h.1 hc
    refine jd_aload_n (pc := 32) 0 dX5_readNumber_32 rfl rfl ?_
    refine jd_callVi (pc := 33) (M2 := mX5_fail) (id := t) (ci := 4) (T := TX5) (N := 6) (av := []) kX5_fail sX5_fail rfl ht.1 lX5_32 rfl rfl (Nat.le_of_ble_eq_true rfl) dX5_readNumber_33 h ?_
    intro v2 I1 J1 h
    refine jd_pop (pc := 36) dX5_readNumber_36 rfl ?_
    refine jd_iconst (pc := 37) (v := (-1)) dX5_readNumber_37 (by decide) ?_
    exact jd_iretK (pc := 38) rfl rfl dX5_readNumber_38 h
  · have h := h.2 hc
    refine jd_aload_n (pc := 8) 0 dX5_readNumber_8 rfl rfl ?_
    refine jd_getI (pc := 9) (ci := 4) (k := 4) gX5_19 ht.1 rfl dX5_readNumber_9 ?_
    refine jd_aload_n (pc := 12) 0 dX5_readNumber_12 rfl rfl ?_
    refine jd_getI (pc := 13) (ci := 4) (k := 3) gX5_36 ht.1 rfl dX5_readNumber_13 ?_
    refine jd_isub (pc := 16) dX5_readNumber_16 ?_
    refine jd_iconst (pc := 17) (v := 2) dX5_readNumber_17 (by decide) ?_
    refine jd_icmp_gt (pc := 18) 32 dX5_readNumber_18 (by decide) (fun hc => ?_) (fun hc => ?_)
    · have h := h.1 hc
      refine jd_aload_n (pc := 32) 0 dX5_readNumber_32 rfl rfl ?_
      refine jd_callVi (pc := 33) (M2 := mX5_fail) (id := t) (ci := 4) (T := TX5) (N := 6) (av := []) kX5_fail sX5_fail rfl ht.1 lX5_32 rfl rfl (Nat.le_of_ble_eq_true rfl) dX5_readNumber_33 h ?_
      intro v4 I3 J3 h
      refine jd_pop (pc := 36) dX5_readNumber_36 rfl ?_
      refine jd_iconst (pc := 37) (v := (-1)) dX5_readNumber_37 (by decide) ?_
      exact jd_iretK (pc := 38) rfl rfl dX5_readNumber_38 h
    · have h := h.2 hc
      refine jd_aload_n (pc := 21) 0 dX5_readNumber_21 rfl rfl ?_
      refine jd_getI (pc := 22) (ci := 4) (k := 4) gX5_19 ht.1 rfl dX5_readNumber_22 ?_
      refine jd_aload_n (pc := 25) 0 dX5_readNumber_25 rfl rfl ?_
      refine jd_getI (pc := 26) (ci := 4) (k := 1) gX5_15 ht.1 rfl dX5_readNumber_26 ?_
      refine jd_icmp_le (pc := 29) 39 dX5_readNumber_29 (by decide) (fun hc => ?_) (fun hc => ?_)
      · have h := h.1 hc
        refine jd_iconst (pc := 39) (v := 0) dX5_readNumber_39 (by decide) ?_
        refine jd_istore (pc := 40) [(4, .int 0), (0, .ref (gb G + t)), (1, .int x1), (2, .int x2), (3, .int x3)] dX5_readNumber_40 (by decide) rfl ?_
        refine jd_aload_n (pc := 42) 1 dX5_readNumber_42 rfl rfl ?_
        refine jd_getI (pc := 43) (ci := 4) (k := 3) gX5_36 ht.1 rfl dX5_readNumber_43 ?_
        refine jd_istore (pc := 46) [(5, .int (I t 3)), (4, .int 0), (0, .ref (gb G + t)), (1, .int x1), (2, .int x2), (3, .int x3)] dX5_readNumber_46 (by decide) rfl ?_
        exact jd_lv (lv2 := [(0, .ref (gb G + t)), (1, .int x1), (2, .int x2), (3, .int x3), (4, .int 0), (5, .int (I t 3))]) [2, 3, 4, 5, 1, 0] rfl h
      · have h := h.2 hc
        refine jd_aload_n (pc := 32) 0 dX5_readNumber_32 rfl rfl ?_
        refine jd_callVi (pc := 33) (M2 := mX5_fail) (id := t) (ci := 4) (T := TX5) (N := 6) (av := []) kX5_fail sX5_fail rfl ht.1 lX5_32 rfl rfl (Nat.le_of_ble_eq_true rfl) dX5_readNumber_33 h ?_
        intro v6 I5 J5 h
        refine jd_pop (pc := 36) dX5_readNumber_36 rfl ?_
        refine jd_iconst (pc := 37) (v := (-1)) dX5_readNumber_37 (by decide) ?_
        exact jd_iretK (pc := 38) rfl rfl dX5_readNumber_38 h
set_option maxRecDepth 4000 in
theorem rX5_readNumber_48 {G : jdG} {n rc rs : Nat} {Z : jdL} {I : jdI} {J : jdJ} {K : Int32 → jdI → jdJ → Prop} {t : Nat} {x1 : Int32} {x2 : Int32} {x3 : Int32} {x4 : Int32} {x5 : Int32} (ht : zScribe Z t) (h : (((I t 4) ≤ x5 → ((x4 < x1 → Cl G mX5_fail n 0 0 [.ref (gb G + t)] Z I J (qi Z (fun v2 I1 J1 => K (-1) I1 J1))) ∧ (¬ x4 < x1 → ((x2 < x4 → Cl G mX5_fail n 0 0 [.ref (gb G + t)] Z I J (qi Z (fun v4 I3 J3 => K (-1) I3 J3))) ∧ (¬ x2 < x4 → ((x3 = 0 → Cl G mX5_advance n 0 0 [.ref (gb G + t)] Z I J (qv Z (fun I5 J5 => K x4 I5 J5))) ∧ (¬ x3 = 0 → ((((x3 >>> (x4 &&& 31)) &&& 1) = 0 → Cl G mX5_advance n 0 0 [.ref (gb G + t)] Z I J (qv Z (fun I7 J7 => K x4 I7 J7))) ∧ (¬ ((x3 >>> (x4 &&& 31)) &&& 1) = 0 → Cl G mX5_fail n 0 0 [.ref (gb G + t)] Z I J (qi Z (fun v10 I9 J9 => K (-1) I9 J9))))))))))) ∧ (¬ (I t 4) ≤ x5 → (vp_in x5 250 ∧ Jd G mX5_readNumber (jdFm G (qi Z K)) (n + 1) rc rs 48 [(0, .ref (gb G + t)), (1, .int x1), (2, .int x2), (3, .int x3), (4, .int (((10 * x4) + (I (t + 1) (Int32.toNatClampNeg x5))) - 48)), (5, .int (x5 + 1))] [] Z I J)))) : Jd G mX5_readNumber (jdFm G (qi Z K)) (n + 1) rc rs 48 [(0, .ref (gb G + t)), (1, .int x1), (2, .int x2), (3, .int x3), (4, .int x4), (5, .int x5)] [] Z I J := by
  refine jd_iload (pc := 48) 5 dX5_readNumber_48 rfl ?_
  refine jd_aload_n (pc := 50) 0 dX5_readNumber_50 rfl rfl ?_
  refine jd_getI (pc := 51) (ci := 4) (k := 4) gX5_19 ht.1 rfl dX5_readNumber_51 ?_
  refine jd_icmp_ge (pc := 54) 81 dX5_readNumber_54 (by decide) (fun hc => ?_) (fun hc => ?_)
  · have h := h.1 hc
    refine jd_iload (pc := 81) 4 dX5_readNumber_81 rfl ?_
    refine jd_iload_n (pc := 83) 1 dX5_readNumber_83 rfl rfl ?_
    refine jd_icmp_lt (pc := 84) 106 dX5_readNumber_84 (by decide) (fun hc => ?_) (fun hc => ?_)
    · have h := h.1 hc
      refine jd_aload_n (pc := 106) 0 dX5_readNumber_106 rfl rfl ?_
      refine jd_callVi (pc := 107) (M2 := mX5_fail) (id := t) (ci := 4) (T := TX5) (N := 6) (av := []) kX5_fail sX5_fail rfl ht.1 lX5_32 rfl rfl (Nat.le_of_ble_eq_true rfl) dX5_readNumber_107 h ?_
      intro v2 I1 J1 h
      refine jd_pop (pc := 110) dX5_readNumber_110 rfl ?_
      refine jd_iconst (pc := 111) (v := (-1)) dX5_readNumber_111 (by decide) ?_
      exact jd_iretK (pc := 112) rfl rfl dX5_readNumber_112 h
    · have h := h.2 hc
      refine jd_iload (pc := 87) 4 dX5_readNumber_87 rfl ?_
      refine jd_iload_n (pc := 89) 2 dX5_readNumber_89 rfl rfl ?_
      refine jd_icmp_gt (pc := 90) 106 dX5_readNumber_90 (by decide) (fun hc => ?_) (fun hc => ?_)
      · have h := h.1 hc
        refine jd_aload_n (pc := 106) 0 dX5_readNumber_106 rfl rfl ?_
        refine jd_callVi (pc := 107) (M2 := mX5_fail) (id := t) (ci := 4) (T := TX5) (N := 6) (av := []) kX5_fail sX5_fail rfl ht.1 lX5_32 rfl rfl (Nat.le_of_ble_eq_true rfl) dX5_readNumber_107 h ?_
        intro v4 I3 J3 h
        refine jd_pop (pc := 110) dX5_readNumber_110 rfl ?_
        refine jd_iconst (pc := 111) (v := (-1)) dX5_readNumber_111 (by decide) ?_
        exact jd_iretK (pc := 112) rfl rfl dX5_readNumber_112 h
      · have h := h.2 hc
        refine jd_iload_n (pc := 93) 3 dX5_readNumber_93 rfl rfl ?_
        refine jd_if_eq (pc := 94) 113 dX5_readNumber_94 (by decide) (fun hc => ?_) (fun hc => ?_)
        · have h := h.1 hc
          refine jd_aload_n (pc := 113) 0 dX5_readNumber_113 rfl rfl ?_
          refine jd_callVv (pc := 114) (M2 := mX5_advance) (id := t) (ci := 4) (T := TX5) (N := 6) (av := []) kX5_advance sX5_advance rfl ht.1 lX5_22 rfl rfl (Nat.le_of_ble_eq_true rfl) dX5_readNumber_114 h ?_
          intro I5 J5 h
          refine jd_iload (pc := 117) 4 dX5_readNumber_117 rfl ?_
          exact jd_iretK (pc := 119) rfl rfl dX5_readNumber_119 h
        · have h := h.2 hc
          refine jd_iload_n (pc := 97) 3 dX5_readNumber_97 rfl rfl ?_
          refine jd_iload (pc := 98) 4 dX5_readNumber_98 rfl ?_
          refine jd_ishr (pc := 100) dX5_readNumber_100 ?_
          refine jd_iconst (pc := 101) (v := 1) dX5_readNumber_101 (by decide) ?_
          refine jd_iand (pc := 102) dX5_readNumber_102 ?_
          refine jd_if_eq (pc := 103) 113 dX5_readNumber_103 (by decide) (fun hc => ?_) (fun hc => ?_)
          · have h := h.1 hc
            refine jd_aload_n (pc := 113) 0 dX5_readNumber_113 rfl rfl ?_
            refine jd_callVv (pc := 114) (M2 := mX5_advance) (id := t) (ci := 4) (T := TX5) (N := 6) (av := []) kX5_advance sX5_advance rfl ht.1 lX5_22 rfl rfl (Nat.le_of_ble_eq_true rfl) dX5_readNumber_114 h ?_
            intro I7 J7 h
            refine jd_iload (pc := 117) 4 dX5_readNumber_117 rfl ?_
            exact jd_iretK (pc := 119) rfl rfl dX5_readNumber_119 h
          · have h := h.2 hc
            refine jd_aload_n (pc := 106) 0 dX5_readNumber_106 rfl rfl ?_
            refine jd_callVi (pc := 107) (M2 := mX5_fail) (id := t) (ci := 4) (T := TX5) (N := 6) (av := []) kX5_fail sX5_fail rfl ht.1 lX5_32 rfl rfl (Nat.le_of_ble_eq_true rfl) dX5_readNumber_107 h ?_
            intro v10 I9 J9 h
            refine jd_pop (pc := 110) dX5_readNumber_110 rfl ?_
            refine jd_iconst (pc := 111) (v := (-1)) dX5_readNumber_111 (by decide) ?_
            exact jd_iretK (pc := 112) rfl rfl dX5_readNumber_112 h
  · have h := h.2 hc
    refine jd_bipush (pc := 57) (v := 10) dX5_readNumber_57 (by decide) ?_
    refine jd_iload (pc := 59) 4 dX5_readNumber_59 rfl ?_
    refine jd_imul (pc := 61) dX5_readNumber_61 ?_
    refine jd_aload_n (pc := 62) 0 dX5_readNumber_62 rfl rfl ?_
    refine jd_getR (pc := 63) (ci := 4) (k := 0) (r := (t + 1)) gX5_11 ht.1 rfl (zScribe_p0 ht) dX5_readNumber_63 ?_
    refine jd_iload (pc := 66) 5 dX5_readNumber_66 rfl ?_
    obtain ⟨hv11, h⟩ := h
    refine jd_iald (pc := 68) (len := 250) (zScribe_a0 ht) hv11 dX5_readNumber_68 ?_
    refine jd_iadd (pc := 69) dX5_readNumber_69 ?_
    refine jd_bipush (pc := 70) (v := 48) dX5_readNumber_70 (by decide) ?_
    refine jd_isub (pc := 72) dX5_readNumber_72 ?_
    refine jd_istore (pc := 73) [(4, .int (((10 * x4) + (I (t + 1) (Int32.toNatClampNeg x5))) - 48)), (0, .ref (gb G + t)), (1, .int x1), (2, .int x2), (3, .int x3), (5, .int x5)] dX5_readNumber_73 (by decide) rfl ?_
    refine jd_iinc (pc := 75) (v := (x5 + 1)) 5 [(5, .int (x5 + 1)), (4, .int (((10 * x4) + (I (t + 1) (Int32.toNatClampNeg x5))) - 48)), (0, .ref (gb G + t)), (1, .int x1), (2, .int x2), (3, .int x3)] dX5_readNumber_75 rfl rfl (by decide) rfl ?_
    refine jd_goto (pc := 78) 48 dX5_readNumber_78 (by decide) ?_
    exact jd_lv (lv2 := [(0, .ref (gb G + t)), (1, .int x1), (2, .int x2), (3, .int x3), (4, .int (((10 * x4) + (I (t + 1) (Int32.toNatClampNeg x5))) - 48)), (5, .int (x5 + 1))]) [2, 3, 4, 5, 1, 0] rfl h
theorem eX5_readNumber {G : jdG} {n : Nat} {Z : jdL} {I : jdI} {J : jdJ} {K : Int32 → jdI → jdJ → Prop} {t : Nat} {x1 : Int32} {x2 : Int32} {x3 : Int32} (ht : zScribe Z t) (h : ((¬ (I t 2) = 2 → Cl G mX5_fail n 0 0 [.ref (gb G + t)] Z I J (qi Z (fun v2 I1 J1 => K (-1) I1 J1))) ∧ ((I t 2) = 2 → ((2 < ((I t 4) - (I t 3)) → Cl G mX5_fail n 0 0 [.ref (gb G + t)] Z I J (qi Z (fun v4 I3 J3 => K (-1) I3 J3))) ∧ (¬ 2 < ((I t 4) - (I t 3)) → (((I t 4) ≤ (I t 1) → Jd G mX5_readNumber (jdFm G (qi Z K)) (n + 1) 0 0 48 [(0, .ref (gb G + t)), (1, .int x1), (2, .int x2), (3, .int x3), (4, .int 0), (5, .int (I t 3))] [] Z I J) ∧ (¬ (I t 4) ≤ (I t 1) → Cl G mX5_fail n 0 0 [.ref (gb G + t)] Z I J (qi Z (fun v6 I5 J5 => K (-1) I5 J5))))))))) : Cl G mX5_readNumber (n + 1) 0 0 [.ref (gb G + t), .int x1, .int x2, .int x3] Z I J (qi Z K) :=
  Cl.of (by decide +kernel) (Nat.le_of_ble_eq_true rfl) (rX5_readNumber_0 ht h)
set_option maxRecDepth 4000 in
theorem rX5_readStatement_0 {G : jdG} {n rc rs : Nat} {Z : jdL} {I : jdI} {J : jdJ} {K : Int32 → jdI → jdJ → Prop} {sA : Nat → Nat} {sV : Nat → Nat} {t : Nat} {u1 : Nat} (hG : gOK G sA sV) (ht : zScribe Z t) (hu1 : zTown Z u1) (h : Cl G mX5_isWord n 0 0 [.ref (gb G + t), .ref (sA 0)] Z I J (qi Z (fun v2 I1 J1 => ((v2 = 0 → Cl G mX5_isWord n 0 0 [.ref (gb G + t), .ref (sA 1)] Z I1 J1 (qi Z (fun v4 I3 J3 => ((v4 = 0 → Cl G mX5_isWord n 0 0 [.ref (gb G + t), .ref (sA 3)] Z I3 J3 (qi Z (fun v6 I5 J5 => ((v6 = 0 → Cl G mX5_isWord n 0 0 [.ref (gb G + t), .ref (sA 4)] Z I5 J5 (qi Z (fun v8 I7 J7 => ((v8 = 0 → Cl G mX5_isWord n 0 0 [.ref (gb G + t), .ref (sA 5)] Z I7 J7 (qi Z (fun v10 I9 J9 => ((v10 = 0 → Cl G mX5_isWord n 0 0 [.ref (gb G + t), .ref (sA 6)] Z I9 J9 (qi Z (fun v12 I11 J11 => ((v12 = 0 → Cl G mX5_fail n 0 0 [.ref (gb G + t)] Z I11 J11 (qi Z (fun v14 I13 J13 => (narrow .boolean (.int v14) = .int v14 ∧ K v14 I13 J13)))) ∧ (¬ v12 = 0 → Cl G mX5_readMet n 0 0 [.ref (gb G + t), .ref (gb G + u1)] Z I11 J11 (qi Z (fun v16 I15 J15 => (narrow .boolean (.int v16) = .int v16 ∧ K v16 I15 J15)))))))) ∧ (¬ v10 = 0 → Cl G mX5_readMemory n 0 0 [.ref (gb G + t), .ref (gb G + u1)] Z I9 J9 (qi Z (fun v18 I17 J17 => (narrow .boolean (.int v18) = .int v18 ∧ K v18 I17 J17)))))))) ∧ (¬ v8 = 0 → Cl G mX5_readSeats n 0 0 [.ref (gb G + t), .ref (gb G + u1)] Z I7 J7 (qi Z (fun v20 I19 J19 => (narrow .boolean (.int v20) = .int v20 ∧ K v20 I19 J19)))))))) ∧ (¬ v6 = 0 → Cl G mX5_readPair n 0 0 [.ref (gb G + t), .ref (gb G + u1), .int 0] Z I5 J5 (qi Z (fun v22 I21 J21 => (narrow .boolean (.int v22) = .int v22 ∧ K v22 I21 J21)))))))) ∧ (¬ v4 = 0 → Cl G mX5_readPair n 0 0 [.ref (gb G + t), .ref (gb G + u1), .int 1] Z I3 J3 (qi Z (fun v24 I23 J23 => (narrow .boolean (.int v24) = .int v24 ∧ K v24 I23 J23)))))))) ∧ (¬ v2 = 0 → Cl G mX5_readPerson n 0 0 [.ref (gb G + t), .ref (gb G + u1)] Z I1 J1 (qi Z (fun v26 I25 J25 => (narrow .boolean (.int v26) = .int v26 ∧ K v26 I25 J25)))))))) : Jd G mX5_readStatement (jdFm G (qi Z K)) (n + 1) rc rs 0 [(0, .ref (gb G + t)), (1, .ref (gb G + u1))] [] Z I J := by
  refine jd_aload_n (pc := 0) 0 dX5_readStatement_0 rfl rfl ?_
  refine jd_ldcS (pc := 1) (tx := "person") (fun U hU => (gOK_str hG U hU).1) dX5_readStatement_1 ?_
  refine jd_callVi (pc := 3) (M2 := mX5_isWord) (id := t) (ci := 4) (T := TX5) (N := 6) (av := [.ref (sA 0)]) kX5_isWord sX5_isWord rfl ht.1 lX5_58 rfl rfl (Nat.le_of_ble_eq_true rfl) dX5_readStatement_3 h ?_
  intro v2 I1 J1 h
  refine jd_if_eq (pc := 6) 15 dX5_readStatement_6 (by decide) (fun hc => ?_) (fun hc => ?_)
  · have h := h.1 hc
    refine jd_aload_n (pc := 15) 0 dX5_readStatement_15 rfl rfl ?_
    refine jd_ldcS (pc := 16) (tx := "know") (fun U hU => (gOK_str hG U hU).2.1) dX5_readStatement_16 ?_
    refine jd_callVi (pc := 18) (M2 := mX5_isWord) (id := t) (ci := 4) (T := TX5) (N := 6) (av := [.ref (sA 1)]) kX5_isWord sX5_isWord rfl ht.1 lX5_58 rfl rfl (Nat.le_of_ble_eq_true rfl) dX5_readStatement_18 h ?_
    intro v4 I3 J3 h
    refine jd_if_eq (pc := 21) 31 dX5_readStatement_21 (by decide) (fun hc => ?_) (fun hc => ?_)
    · have h := h.1 hc
      refine jd_aload_n (pc := 31) 0 dX5_readStatement_31 rfl rfl ?_
      refine jd_ldcS (pc := 32) (tx := "strange") (fun U hU => (gOK_str hG U hU).2.2.2.1) dX5_readStatement_32 ?_
      refine jd_callVi (pc := 34) (M2 := mX5_isWord) (id := t) (ci := 4) (T := TX5) (N := 6) (av := [.ref (sA 3)]) kX5_isWord sX5_isWord rfl ht.1 lX5_58 rfl rfl (Nat.le_of_ble_eq_true rfl) dX5_readStatement_34 h ?_
      intro v6 I5 J5 h
      refine jd_if_eq (pc := 37) 47 dX5_readStatement_37 (by decide) (fun hc => ?_) (fun hc => ?_)
      · have h := h.1 hc
        refine jd_aload_n (pc := 47) 0 dX5_readStatement_47 rfl rfl ?_
        refine jd_ldcS (pc := 48) (tx := "seats") (fun U hU => (gOK_str hG U hU).2.2.2.2.1) dX5_readStatement_48 ?_
        refine jd_callVi (pc := 50) (M2 := mX5_isWord) (id := t) (ci := 4) (T := TX5) (N := 6) (av := [.ref (sA 4)]) kX5_isWord sX5_isWord rfl ht.1 lX5_58 rfl rfl (Nat.le_of_ble_eq_true rfl) dX5_readStatement_50 h ?_
        intro v8 I7 J7 h
        refine jd_if_eq (pc := 53) 62 dX5_readStatement_53 (by decide) (fun hc => ?_) (fun hc => ?_)
        · have h := h.1 hc
          refine jd_aload_n (pc := 62) 0 dX5_readStatement_62 rfl rfl ?_
          refine jd_ldcS (pc := 63) (tx := "memory") (fun U hU => (gOK_str hG U hU).2.2.2.2.2.1) dX5_readStatement_63 ?_
          refine jd_callVi (pc := 65) (M2 := mX5_isWord) (id := t) (ci := 4) (T := TX5) (N := 6) (av := [.ref (sA 5)]) kX5_isWord sX5_isWord rfl ht.1 lX5_58 rfl rfl (Nat.le_of_ble_eq_true rfl) dX5_readStatement_65 h ?_
          intro v10 I9 J9 h
          refine jd_if_eq (pc := 68) 77 dX5_readStatement_68 (by decide) (fun hc => ?_) (fun hc => ?_)
          · have h := h.1 hc
            refine jd_aload_n (pc := 77) 0 dX5_readStatement_77 rfl rfl ?_
            refine jd_ldcS (pc := 78) (tx := "met") (fun U hU => (gOK_str hG U hU).2.2.2.2.2.2.1) dX5_readStatement_78 ?_
            refine jd_callVi (pc := 80) (M2 := mX5_isWord) (id := t) (ci := 4) (T := TX5) (N := 6) (av := [.ref (sA 6)]) kX5_isWord sX5_isWord rfl ht.1 lX5_58 rfl rfl (Nat.le_of_ble_eq_true rfl) dX5_readStatement_80 h ?_
            intro v12 I11 J11 h
            refine jd_if_eq (pc := 83) 94 dX5_readStatement_83 (by decide) (fun hc => ?_) (fun hc => ?_)
            · have h := h.1 hc
              refine jd_aload_n (pc := 94) 0 dX5_readStatement_94 rfl rfl ?_
              refine jd_callVi (pc := 95) (M2 := mX5_fail) (id := t) (ci := 4) (T := TX5) (N := 6) (av := []) kX5_fail sX5_fail rfl ht.1 lX5_32 rfl rfl (Nat.le_of_ble_eq_true rfl) dX5_readStatement_95 h ?_
              intro v14 I13 J13 h
              exact jd_iretK (pc := 98) (ty := .boolean) rfl h.1 dX5_readStatement_98 h.2
            · have h := h.2 hc
              refine jd_aload_n (pc := 86) 0 dX5_readStatement_86 rfl rfl ?_
              refine jd_aload_n (pc := 87) 1 dX5_readStatement_87 rfl rfl ?_
              refine jd_callVi (pc := 88) (M2 := mX5_readMet) (id := t) (ci := 4) (T := TX5) (N := 6) (av := [.ref (gb G + u1)]) kX5_readMet sX5_readMet rfl ht.1 lX5_85 rfl rfl (Nat.le_of_ble_eq_true rfl) dX5_readStatement_88 h ?_
              intro v16 I15 J15 h
              refine jd_goto (pc := 91) 98 dX5_readStatement_91 (by decide) ?_
              exact jd_iretK (pc := 98) (ty := .boolean) rfl h.1 dX5_readStatement_98 h.2
          · have h := h.2 hc
            refine jd_aload_n (pc := 71) 0 dX5_readStatement_71 rfl rfl ?_
            refine jd_aload_n (pc := 72) 1 dX5_readStatement_72 rfl rfl ?_
            refine jd_callVi (pc := 73) (M2 := mX5_readMemory) (id := t) (ci := 4) (T := TX5) (N := 6) (av := [.ref (gb G + u1)]) kX5_readMemory sX5_readMemory rfl ht.1 lX5_80 rfl rfl (Nat.le_of_ble_eq_true rfl) dX5_readStatement_73 h ?_
            intro v18 I17 J17 h
            exact jd_iretK (pc := 76) (ty := .boolean) rfl h.1 dX5_readStatement_76 h.2
        · have h := h.2 hc
          refine jd_aload_n (pc := 56) 0 dX5_readStatement_56 rfl rfl ?_
          refine jd_aload_n (pc := 57) 1 dX5_readStatement_57 rfl rfl ?_
          refine jd_callVi (pc := 58) (M2 := mX5_readSeats) (id := t) (ci := 4) (T := TX5) (N := 6) (av := [.ref (gb G + u1)]) kX5_readSeats sX5_readSeats rfl ht.1 lX5_75 rfl rfl (Nat.le_of_ble_eq_true rfl) dX5_readStatement_58 h ?_
          intro v20 I19 J19 h
          exact jd_iretK (pc := 61) (ty := .boolean) rfl h.1 dX5_readStatement_61 h.2
      · have h := h.2 hc
        refine jd_aload_n (pc := 40) 0 dX5_readStatement_40 rfl rfl ?_
        refine jd_aload_n (pc := 41) 1 dX5_readStatement_41 rfl rfl ?_
        refine jd_iconst (pc := 42) (v := 0) dX5_readStatement_42 (by decide) ?_
        refine jd_callVi (pc := 43) (M2 := mX5_readPair) (id := t) (ci := 4) (T := TX5) (N := 6) (av := [.ref (gb G + u1), .int 0]) kX5_readPair sX5_readPair rfl ht.1 lX5_67 rfl rfl (Nat.le_of_ble_eq_true rfl) dX5_readStatement_43 h ?_
        intro v22 I21 J21 h
        exact jd_iretK (pc := 46) (ty := .boolean) rfl h.1 dX5_readStatement_46 h.2
    · have h := h.2 hc
      refine jd_aload_n (pc := 24) 0 dX5_readStatement_24 rfl rfl ?_
      refine jd_aload_n (pc := 25) 1 dX5_readStatement_25 rfl rfl ?_
      refine jd_iconst (pc := 26) (v := 1) dX5_readStatement_26 (by decide) ?_
      refine jd_callVi (pc := 27) (M2 := mX5_readPair) (id := t) (ci := 4) (T := TX5) (N := 6) (av := [.ref (gb G + u1), .int 1]) kX5_readPair sX5_readPair rfl ht.1 lX5_67 rfl rfl (Nat.le_of_ble_eq_true rfl) dX5_readStatement_27 h ?_
      intro v24 I23 J23 h
      exact jd_iretK (pc := 30) (ty := .boolean) rfl h.1 dX5_readStatement_30 h.2
  · have h := h.2 hc
    refine jd_aload_n (pc := 9) 0 dX5_readStatement_9 rfl rfl ?_
    refine jd_aload_n (pc := 10) 1 dX5_readStatement_10 rfl rfl ?_
    refine jd_callVi (pc := 11) (M2 := mX5_readPerson) (id := t) (ci := 4) (T := TX5) (N := 6) (av := [.ref (gb G + u1)]) kX5_readPerson sX5_readPerson rfl ht.1 lX5_62 rfl rfl (Nat.le_of_ble_eq_true rfl) dX5_readStatement_11 h ?_
    intro v26 I25 J25 h
    exact jd_iretK (pc := 14) (ty := .boolean) rfl h.1 dX5_readStatement_14 h.2
theorem eX5_readStatement {G : jdG} {n : Nat} {Z : jdL} {I : jdI} {J : jdJ} {K : Int32 → jdI → jdJ → Prop} {sA : Nat → Nat} {sV : Nat → Nat} {t : Nat} {u1 : Nat} (hG : gOK G sA sV) (ht : zScribe Z t) (hu1 : zTown Z u1) (h : Cl G mX5_isWord n 0 0 [.ref (gb G + t), .ref (sA 0)] Z I J (qi Z (fun v2 I1 J1 => ((v2 = 0 → Cl G mX5_isWord n 0 0 [.ref (gb G + t), .ref (sA 1)] Z I1 J1 (qi Z (fun v4 I3 J3 => ((v4 = 0 → Cl G mX5_isWord n 0 0 [.ref (gb G + t), .ref (sA 3)] Z I3 J3 (qi Z (fun v6 I5 J5 => ((v6 = 0 → Cl G mX5_isWord n 0 0 [.ref (gb G + t), .ref (sA 4)] Z I5 J5 (qi Z (fun v8 I7 J7 => ((v8 = 0 → Cl G mX5_isWord n 0 0 [.ref (gb G + t), .ref (sA 5)] Z I7 J7 (qi Z (fun v10 I9 J9 => ((v10 = 0 → Cl G mX5_isWord n 0 0 [.ref (gb G + t), .ref (sA 6)] Z I9 J9 (qi Z (fun v12 I11 J11 => ((v12 = 0 → Cl G mX5_fail n 0 0 [.ref (gb G + t)] Z I11 J11 (qi Z (fun v14 I13 J13 => (narrow .boolean (.int v14) = .int v14 ∧ K v14 I13 J13)))) ∧ (¬ v12 = 0 → Cl G mX5_readMet n 0 0 [.ref (gb G + t), .ref (gb G + u1)] Z I11 J11 (qi Z (fun v16 I15 J15 => (narrow .boolean (.int v16) = .int v16 ∧ K v16 I15 J15)))))))) ∧ (¬ v10 = 0 → Cl G mX5_readMemory n 0 0 [.ref (gb G + t), .ref (gb G + u1)] Z I9 J9 (qi Z (fun v18 I17 J17 => (narrow .boolean (.int v18) = .int v18 ∧ K v18 I17 J17)))))))) ∧ (¬ v8 = 0 → Cl G mX5_readSeats n 0 0 [.ref (gb G + t), .ref (gb G + u1)] Z I7 J7 (qi Z (fun v20 I19 J19 => (narrow .boolean (.int v20) = .int v20 ∧ K v20 I19 J19)))))))) ∧ (¬ v6 = 0 → Cl G mX5_readPair n 0 0 [.ref (gb G + t), .ref (gb G + u1), .int 0] Z I5 J5 (qi Z (fun v22 I21 J21 => (narrow .boolean (.int v22) = .int v22 ∧ K v22 I21 J21)))))))) ∧ (¬ v4 = 0 → Cl G mX5_readPair n 0 0 [.ref (gb G + t), .ref (gb G + u1), .int 1] Z I3 J3 (qi Z (fun v24 I23 J23 => (narrow .boolean (.int v24) = .int v24 ∧ K v24 I23 J23)))))))) ∧ (¬ v2 = 0 → Cl G mX5_readPerson n 0 0 [.ref (gb G + t), .ref (gb G + u1)] Z I1 J1 (qi Z (fun v26 I25 J25 => (narrow .boolean (.int v26) = .int v26 ∧ K v26 I25 J25)))))))) : Cl G mX5_readStatement (n + 1) 0 0 [.ref (gb G + t), .ref (gb G + u1)] Z I J (qi Z K) :=
  Cl.of (by decide +kernel) (Nat.le_of_ble_eq_true rfl) (rX5_readStatement_0 hG ht hu1 h)
set_option maxRecDepth 4000 in
theorem rX5_readPerson_0 {G : jdG} {n rc rs : Nat} {Z : jdL} {I : jdI} {J : jdJ} {K : Int32 → jdI → jdJ → Prop} {t : Nat} {u1 : Nat} (ht : zScribe Z t) (hu1 : zTown Z u1) (h : (((I u1 3) < 7 → Cl G mX5_advance n 0 0 [.ref (gb G + t)] Z I J (qv Z (fun I1 J1 => Cl G mX5_readNumber n 0 0 [.ref (gb G + t), .int 0, .int 23, .int 0] Z I1 J1 (qi Z (fun v4 I3 J3 => ((¬ v4 = (-1) → Cl G mX5_readNumber n 0 0 [.ref (gb G + t), .int 0, .int 9, .int 0] Z I3 J3 (qi Z (fun v6 I5 J5 => ((¬ v6 = (-1) → Cl G mX9_add n 0 0 [.ref (gb G + u1), .int v4, .int v6] Z I5 J5 (qi Z (fun v8 I7 J7 => K 1 I7 J7))) ∧ (v6 = (-1) → K 0 I5 J5))))) ∧ (v4 = (-1) → K 0 I3 J3))))))) ∧ (¬ (I u1 3) < 7 → Cl G mX5_fail n 0 0 [.ref (gb G + t)] Z I J (qi Z (fun v10 I9 J9 => (narrow .boolean (.int v10) = .int v10 ∧ K v10 I9 J9)))))) : Jd G mX5_readPerson (jdFm G (qi Z K)) (n + 1) rc rs 0 [(0, .ref (gb G + t)), (1, .ref (gb G + u1))] [] Z I J := by
  refine jd_aload_n (pc := 0) 1 dX5_readPerson_0 rfl rfl ?_
  refine jd_getI (pc := 1) (ci := 8) (k := 3) gX5_88 hu1.1 rfl dX5_readPerson_1 ?_
  refine jd_bipush (pc := 4) (v := 7) dX5_readPerson_4 (by decide) ?_
  refine jd_icmp_lt (pc := 6) 14 dX5_readPerson_6 (by decide) (fun hc => ?_) (fun hc => ?_)
  · have h := h.1 hc
    refine jd_aload_n (pc := 14) 0 dX5_readPerson_14 rfl rfl ?_
    refine jd_callVv (pc := 15) (M2 := mX5_advance) (id := t) (ci := 4) (T := TX5) (N := 6) (av := []) kX5_advance sX5_advance rfl ht.1 lX5_22 rfl rfl (Nat.le_of_ble_eq_true rfl) dX5_readPerson_15 h ?_
    intro I1 J1 h
    refine jd_aload_n (pc := 18) 0 dX5_readPerson_18 rfl rfl ?_
    refine jd_iconst (pc := 19) (v := 0) dX5_readPerson_19 (by decide) ?_
    refine jd_bipush (pc := 20) (v := 23) dX5_readPerson_20 (by decide) ?_
    refine jd_iconst (pc := 22) (v := 0) dX5_readPerson_22 (by decide) ?_
    refine jd_callVi (pc := 23) (M2 := mX5_readNumber) (id := t) (ci := 4) (T := TX5) (N := 6) (av := [.int 0, .int 23, .int 0]) kX5_readNumber sX5_readNumber rfl ht.1 lX5_93 rfl rfl (Nat.le_of_ble_eq_true rfl) dX5_readPerson_23 h ?_
    intro v4 I3 J3 h
    refine jd_istore_n (pc := 26) [(2, .int v4), (0, .ref (gb G + t)), (1, .ref (gb G + u1))] dX5_readPerson_26 rfl (by decide) rfl ?_
    refine jd_iload_n (pc := 27) 0 dX5_readPerson_27 rfl rfl ?_
    refine jd_iconst (pc := 28) (v := (-1)) dX5_readPerson_28 (by decide) ?_
    refine jd_icmp_ne (pc := 29) 34 dX5_readPerson_29 (by decide) (fun hc => ?_) (fun hc => ?_)
    · have h := h.1 hc
      refine jd_aload_n (pc := 34) 1 dX5_readPerson_34 rfl rfl ?_
      refine jd_iconst (pc := 35) (v := 0) dX5_readPerson_35 (by decide) ?_
      refine jd_bipush (pc := 36) (v := 9) dX5_readPerson_36 (by decide) ?_
      refine jd_iconst (pc := 38) (v := 0) dX5_readPerson_38 (by decide) ?_
      refine jd_callVi (pc := 39) (M2 := mX5_readNumber) (id := t) (ci := 4) (T := TX5) (N := 6) (av := [.int 0, .int 9, .int 0]) kX5_readNumber sX5_readNumber rfl ht.1 lX5_93 rfl rfl (Nat.le_of_ble_eq_true rfl) dX5_readPerson_39 h ?_
      intro v6 I5 J5 h
      refine jd_istore_n (pc := 42) [(3, .int v6), (2, .int v4), (0, .ref (gb G + t)), (1, .ref (gb G + u1))] dX5_readPerson_42 rfl (by decide) rfl ?_
      refine jd_iload_n (pc := 43) 0 dX5_readPerson_43 rfl rfl ?_
      refine jd_iconst (pc := 44) (v := (-1)) dX5_readPerson_44 (by decide) ?_
      refine jd_icmp_ne (pc := 45) 50 dX5_readPerson_45 (by decide) (fun hc => ?_) (fun hc => ?_)
      · have h := h.1 hc
        refine jd_aload_n (pc := 50) 3 dX5_readPerson_50 rfl rfl ?_
        refine jd_iload_n (pc := 51) 1 dX5_readPerson_51 rfl rfl ?_
        refine jd_iload_n (pc := 52) 0 dX5_readPerson_52 rfl rfl ?_
        refine jd_callVi (pc := 53) (M2 := mX9_add) (id := u1) (ci := 8) (T := TX9) (N := 10) (av := [.int v4, .int v6]) kX9_add sX9_add rfl hu1.1 lX5_97 rfl rfl (Nat.le_of_ble_eq_true rfl) dX5_readPerson_53 h ?_
        intro v8 I7 J7 h
        refine jd_pop (pc := 56) dX5_readPerson_56 rfl ?_
        refine jd_iconst (pc := 57) (v := 1) dX5_readPerson_57 (by decide) ?_
        exact jd_iretK (pc := 58) (ty := .boolean) rfl (by decide) dX5_readPerson_58 h
      · have h := h.2 hc
        refine jd_iconst (pc := 48) (v := 0) dX5_readPerson_48 (by decide) ?_
        exact jd_iretK (pc := 49) (ty := .boolean) rfl (by decide) dX5_readPerson_49 h
    · have h := h.2 hc
      refine jd_iconst (pc := 32) (v := 0) dX5_readPerson_32 (by decide) ?_
      exact jd_iretK (pc := 33) (ty := .boolean) rfl (by decide) dX5_readPerson_33 h
  · have h := h.2 hc
    refine jd_aload_n (pc := 9) 0 dX5_readPerson_9 rfl rfl ?_
    refine jd_callVi (pc := 10) (M2 := mX5_fail) (id := t) (ci := 4) (T := TX5) (N := 6) (av := []) kX5_fail sX5_fail rfl ht.1 lX5_32 rfl rfl (Nat.le_of_ble_eq_true rfl) dX5_readPerson_10 h ?_
    intro v10 I9 J9 h
    exact jd_iretK (pc := 13) (ty := .boolean) rfl h.1 dX5_readPerson_13 h.2
theorem eX5_readPerson {G : jdG} {n : Nat} {Z : jdL} {I : jdI} {J : jdJ} {K : Int32 → jdI → jdJ → Prop} {t : Nat} {u1 : Nat} (ht : zScribe Z t) (hu1 : zTown Z u1) (h : (((I u1 3) < 7 → Cl G mX5_advance n 0 0 [.ref (gb G + t)] Z I J (qv Z (fun I1 J1 => Cl G mX5_readNumber n 0 0 [.ref (gb G + t), .int 0, .int 23, .int 0] Z I1 J1 (qi Z (fun v4 I3 J3 => ((¬ v4 = (-1) → Cl G mX5_readNumber n 0 0 [.ref (gb G + t), .int 0, .int 9, .int 0] Z I3 J3 (qi Z (fun v6 I5 J5 => ((¬ v6 = (-1) → Cl G mX9_add n 0 0 [.ref (gb G + u1), .int v4, .int v6] Z I5 J5 (qi Z (fun v8 I7 J7 => K 1 I7 J7))) ∧ (v6 = (-1) → K 0 I5 J5))))) ∧ (v4 = (-1) → K 0 I3 J3))))))) ∧ (¬ (I u1 3) < 7 → Cl G mX5_fail n 0 0 [.ref (gb G + t)] Z I J (qi Z (fun v10 I9 J9 => (narrow .boolean (.int v10) = .int v10 ∧ K v10 I9 J9)))))) : Cl G mX5_readPerson (n + 1) 0 0 [.ref (gb G + t), .ref (gb G + u1)] Z I J (qi Z K) :=
  Cl.of (by decide +kernel) (Nat.le_of_ble_eq_true rfl) (rX5_readPerson_0 ht hu1 h)
set_option maxRecDepth 4000 in
theorem rX5_readPair_0 {G : jdG} {n rc rs : Nat} {Z : jdL} {I : jdI} {J : jdJ} {K : Int32 → jdI → jdJ → Prop} {sA : Nat → Nat} {sV : Nat → Nat} {t : Nat} {u1 : Nat} {x2 : Int32} (hG : gOK G sA sV) (ht : zScribe Z t) (hu1 : zTown Z u1) (h : Cl G mX5_advance n 0 0 [.ref (gb G + t)] Z I J (qv Z (fun I1 J1 => Cl G mX5_readNumber n 0 0 [.ref (gb G + t), .int 0, .int ((I1 u1 3) - 1), .int 0] Z I1 J1 (qi Z (fun v4 I3 J3 => ((¬ v4 = (-1) → Cl G mX5_readNumber n 0 0 [.ref (gb G + t), .int 0, .int ((I3 u1 3) - 1), .int (1 <<< (v4 &&& 31))] Z I3 J3 (qi Z (fun v6 I5 J5 => ((¬ v6 = (-1) → ((x2 = 0 → ((x2 = 0 → Cl G mX9_tie n 0 0 [.ref (gb G + u1), .int v4, .int v6, .int (-1)] Z I5 J5 (qv Z (fun I7 J7 => K 1 I7 J7))) ∧ (¬ x2 = 0 → Cl G mX5_isWord n 0 0 [.ref (gb G + t), .ref (sA 2)] Z I5 J5 (qi Z (fun v10 I9 J9 => ((v10 = 0 → Cl G mX9_tie n 0 0 [.ref (gb G + u1), .int v4, .int v6, .int (-1)] Z I9 J9 (qv Z (fun I11 J11 => K 1 I11 J11))) ∧ (¬ v10 = 0 → Cl G mX5_advance n 0 0 [.ref (gb G + t)] Z I9 J9 (qv Z (fun I13 J13 => Cl G mX5_readNumber n 0 0 [.ref (gb G + t), .int 0, .int 99, .int 0] Z I13 J13 (qi Z (fun v16 I15 J15 => ((¬ v16 = (-1) → Cl G mX9_tie n 0 0 [.ref (gb G + u1), .int v4, .int v6, .int v16] Z I15 J15 (qv Z (fun I17 J17 => K 1 I17 J17))) ∧ (v16 = (-1) → K 0 I15 J15))))))))))))) ∧ (¬ x2 = 0 → ((x2 = 0 → Cl G mX9_tie n 0 0 [.ref (gb G + u1), .int v4, .int v6, .int 0] Z I5 J5 (qv Z (fun I19 J19 => K 1 I19 J19))) ∧ (¬ x2 = 0 → Cl G mX5_isWord n 0 0 [.ref (gb G + t), .ref (sA 2)] Z I5 J5 (qi Z (fun v22 I21 J21 => ((v22 = 0 → Cl G mX9_tie n 0 0 [.ref (gb G + u1), .int v4, .int v6, .int 0] Z I21 J21 (qv Z (fun I23 J23 => K 1 I23 J23))) ∧ (¬ v22 = 0 → Cl G mX5_advance n 0 0 [.ref (gb G + t)] Z I21 J21 (qv Z (fun I25 J25 => Cl G mX5_readNumber n 0 0 [.ref (gb G + t), .int 0, .int 99, .int 0] Z I25 J25 (qi Z (fun v28 I27 J27 => ((¬ v28 = (-1) → Cl G mX9_tie n 0 0 [.ref (gb G + u1), .int v4, .int v6, .int v28] Z I27 J27 (qv Z (fun I29 J29 => K 1 I29 J29))) ∧ (v28 = (-1) → K 0 I27 J27))))))))))))))) ∧ (v6 = (-1) → K 0 I5 J5))))) ∧ (v4 = (-1) → K 0 I3 J3))))))) : Jd G mX5_readPair (jdFm G (qi Z K)) (n + 1) rc rs 0 [(0, .ref (gb G + t)), (1, .ref (gb G + u1)), (2, .int x2)] [] Z I J := by
  refine jd_aload_n (pc := 0) 0 dX5_readPair_0 rfl rfl ?_
  refine jd_callVv (pc := 1) (M2 := mX5_advance) (id := t) (ci := 4) (T := TX5) (N := 6) (av := []) kX5_advance sX5_advance rfl ht.1 lX5_22 rfl rfl (Nat.le_of_ble_eq_true rfl) dX5_readPair_1 h ?_
  intro I1 J1 h
  refine jd_aload_n (pc := 4) 0 dX5_readPair_4 rfl rfl ?_
  refine jd_iconst (pc := 5) (v := 0) dX5_readPair_5 (by decide) ?_
  refine jd_aload_n (pc := 6) 1 dX5_readPair_6 rfl rfl ?_
  refine jd_getI (pc := 7) (ci := 8) (k := 3) gX5_88 hu1.1 rfl dX5_readPair_7 ?_
  refine jd_iconst (pc := 10) (v := 1) dX5_readPair_10 (by decide) ?_
  refine jd_isub (pc := 11) dX5_readPair_11 ?_
  refine jd_iconst (pc := 12) (v := 0) dX5_readPair_12 (by decide) ?_
  refine jd_callVi (pc := 13) (M2 := mX5_readNumber) (id := t) (ci := 4) (T := TX5) (N := 6) (av := [.int 0, .int ((I1 u1 3) - 1), .int 0]) kX5_readNumber sX5_readNumber rfl ht.1 lX5_93 rfl rfl (Nat.le_of_ble_eq_true rfl) dX5_readPair_13 h ?_
  intro v4 I3 J3 h
  refine jd_istore_n (pc := 16) [(3, .int v4), (0, .ref (gb G + t)), (1, .ref (gb G + u1)), (2, .int x2)] dX5_readPair_16 rfl (by decide) rfl ?_
  refine jd_iload_n (pc := 17) 0 dX5_readPair_17 rfl rfl ?_
  refine jd_iconst (pc := 18) (v := (-1)) dX5_readPair_18 (by decide) ?_
  refine jd_icmp_ne (pc := 19) 24 dX5_readPair_19 (by decide) (fun hc => ?_) (fun hc => ?_)
  · have h := h.1 hc
    refine jd_aload_n (pc := 24) 1 dX5_readPair_24 rfl rfl ?_
    refine jd_iconst (pc := 25) (v := 0) dX5_readPair_25 (by decide) ?_
    refine jd_aload_n (pc := 26) 2 dX5_readPair_26 rfl rfl ?_
    refine jd_getI (pc := 27) (ci := 8) (k := 3) gX5_88 hu1.1 rfl dX5_readPair_27 ?_
    refine jd_iconst (pc := 30) (v := 1) dX5_readPair_30 (by decide) ?_
    refine jd_isub (pc := 31) dX5_readPair_31 ?_
    refine jd_iconst (pc := 32) (v := 1) dX5_readPair_32 (by decide) ?_
    refine jd_iload_n (pc := 33) 0 dX5_readPair_33 rfl rfl ?_
    refine jd_ishl (pc := 34) dX5_readPair_34 ?_
    refine jd_callVi (pc := 35) (M2 := mX5_readNumber) (id := t) (ci := 4) (T := TX5) (N := 6) (av := [.int 0, .int ((I3 u1 3) - 1), .int (1 <<< (v4 &&& 31))]) kX5_readNumber sX5_readNumber rfl ht.1 lX5_93 rfl rfl (Nat.le_of_ble_eq_true rfl) dX5_readPair_35 h ?_
    intro v6 I5 J5 h
    refine jd_istore (pc := 38) [(4, .int v6), (3, .int v4), (0, .ref (gb G + t)), (1, .ref (gb G + u1)), (2, .int x2)] dX5_readPair_38 (by decide) rfl ?_
    refine jd_iload (pc := 40) 0 dX5_readPair_40 rfl ?_
    refine jd_iconst (pc := 42) (v := (-1)) dX5_readPair_42 (by decide) ?_
    refine jd_icmp_ne (pc := 43) 48 dX5_readPair_43 (by decide) (fun hc => ?_) (fun hc => ?_)
    · have h := h.1 hc
      refine jd_iload_n (pc := 48) 4 dX5_readPair_48 rfl rfl ?_
      refine jd_if_eq (pc := 49) 56 dX5_readPair_49 (by decide) (fun hc => ?_) (fun hc => ?_)
      · have h := h.1 hc
        refine jd_iconst (pc := 56) (v := (-1)) dX5_readPair_56 (by decide) ?_
        refine jd_istore (pc := 57) [(5, .int (-1)), (4, .int v6), (3, .int v4), (0, .ref (gb G + t)), (1, .ref (gb G + u1)), (2, .int x2)] dX5_readPair_57 (by decide) rfl ?_
        refine jd_iload_n (pc := 59) 5 dX5_readPair_59 rfl rfl ?_
        refine jd_if_eq (pc := 60) 94 dX5_readPair_60 (by decide) (fun hc => ?_) (fun hc => ?_)
        · have h := h.1 hc
          refine jd_aload_n (pc := 94) 4 dX5_readPair_94 rfl rfl ?_
          refine jd_iload_n (pc := 95) 2 dX5_readPair_95 rfl rfl ?_
          refine jd_iload (pc := 96) 1 dX5_readPair_96 rfl ?_
          refine jd_iload (pc := 98) 0 dX5_readPair_98 rfl ?_
          refine jd_callVv (pc := 100) (M2 := mX9_tie) (id := u1) (ci := 8) (T := TX9) (N := 10) (av := [.int v4, .int v6, .int (-1)]) kX9_tie sX9_tie rfl hu1.1 lX5_103 rfl rfl (Nat.le_of_ble_eq_true rfl) dX5_readPair_100 h ?_
          intro I7 J7 h
          refine jd_iconst (pc := 103) (v := 1) dX5_readPair_103 (by decide) ?_
          exact jd_iretK (pc := 104) (ty := .boolean) rfl (by decide) dX5_readPair_104 h
        · have h := h.2 hc
          refine jd_aload_n (pc := 63) 3 dX5_readPair_63 rfl rfl ?_
          refine jd_ldcS (pc := 64) (tx := "since") (fun U hU => (gOK_str hG U hU).2.2.1) dX5_readPair_64 ?_
          refine jd_callVi (pc := 66) (M2 := mX5_isWord) (id := t) (ci := 4) (T := TX5) (N := 6) (av := [.ref (sA 2)]) kX5_isWord sX5_isWord rfl ht.1 lX5_58 rfl rfl (Nat.le_of_ble_eq_true rfl) dX5_readPair_66 h ?_
          intro v10 I9 J9 h
          refine jd_if_eq (pc := 69) 94 dX5_readPair_69 (by decide) (fun hc => ?_) (fun hc => ?_)
          · have h := h.1 hc
            refine jd_aload_n (pc := 94) 4 dX5_readPair_94 rfl rfl ?_
            refine jd_iload_n (pc := 95) 2 dX5_readPair_95 rfl rfl ?_
            refine jd_iload (pc := 96) 1 dX5_readPair_96 rfl ?_
            refine jd_iload (pc := 98) 0 dX5_readPair_98 rfl ?_
            refine jd_callVv (pc := 100) (M2 := mX9_tie) (id := u1) (ci := 8) (T := TX9) (N := 10) (av := [.int v4, .int v6, .int (-1)]) kX9_tie sX9_tie rfl hu1.1 lX5_103 rfl rfl (Nat.le_of_ble_eq_true rfl) dX5_readPair_100 h ?_
            intro I11 J11 h
            refine jd_iconst (pc := 103) (v := 1) dX5_readPair_103 (by decide) ?_
            exact jd_iretK (pc := 104) (ty := .boolean) rfl (by decide) dX5_readPair_104 h
          · have h := h.2 hc
            refine jd_aload_n (pc := 72) 3 dX5_readPair_72 rfl rfl ?_
            refine jd_callVv (pc := 73) (M2 := mX5_advance) (id := t) (ci := 4) (T := TX5) (N := 6) (av := []) kX5_advance sX5_advance rfl ht.1 lX5_22 rfl rfl (Nat.le_of_ble_eq_true rfl) dX5_readPair_73 h ?_
            intro I13 J13 h
            refine jd_aload_n (pc := 76) 3 dX5_readPair_76 rfl rfl ?_
            refine jd_iconst (pc := 77) (v := 0) dX5_readPair_77 (by decide) ?_
            refine jd_bipush (pc := 78) (v := 99) dX5_readPair_78 (by decide) ?_
            refine jd_iconst (pc := 80) (v := 0) dX5_readPair_80 (by decide) ?_
            refine jd_callVi (pc := 81) (M2 := mX5_readNumber) (id := t) (ci := 4) (T := TX5) (N := 6) (av := [.int 0, .int 99, .int 0]) kX5_readNumber sX5_readNumber rfl ht.1 lX5_93 rfl rfl (Nat.le_of_ble_eq_true rfl) dX5_readPair_81 h ?_
            intro v16 I15 J15 h
            refine jd_istore (pc := 84) [(5, .int v16), (4, .int v6), (3, .int v4), (0, .ref (gb G + t)), (1, .ref (gb G + u1)), (2, .int x2)] dX5_readPair_84 (by decide) rfl ?_
            refine jd_iload (pc := 86) 0 dX5_readPair_86 rfl ?_
            refine jd_iconst (pc := 88) (v := (-1)) dX5_readPair_88 (by decide) ?_
            refine jd_icmp_ne (pc := 89) 94 dX5_readPair_89 (by decide) (fun hc => ?_) (fun hc => ?_)
            · have h := h.1 hc
              refine jd_aload_n (pc := 94) 4 dX5_readPair_94 rfl rfl ?_
              refine jd_iload_n (pc := 95) 2 dX5_readPair_95 rfl rfl ?_
              refine jd_iload (pc := 96) 1 dX5_readPair_96 rfl ?_
              refine jd_iload (pc := 98) 0 dX5_readPair_98 rfl ?_
              refine jd_callVv (pc := 100) (M2 := mX9_tie) (id := u1) (ci := 8) (T := TX9) (N := 10) (av := [.int v4, .int v6, .int v16]) kX9_tie sX9_tie rfl hu1.1 lX5_103 rfl rfl (Nat.le_of_ble_eq_true rfl) dX5_readPair_100 h ?_
              intro I17 J17 h
              refine jd_iconst (pc := 103) (v := 1) dX5_readPair_103 (by decide) ?_
              exact jd_iretK (pc := 104) (ty := .boolean) rfl (by decide) dX5_readPair_104 h
            · have h := h.2 hc
              refine jd_iconst (pc := 92) (v := 0) dX5_readPair_92 (by decide) ?_
              exact jd_iretK (pc := 93) (ty := .boolean) rfl (by decide) dX5_readPair_93 h
      · have h := h.2 hc
        refine jd_iconst (pc := 52) (v := 0) dX5_readPair_52 (by decide) ?_
        refine jd_goto (pc := 53) 57 dX5_readPair_53 (by decide) ?_
        refine jd_istore (pc := 57) [(5, .int 0), (4, .int v6), (3, .int v4), (0, .ref (gb G + t)), (1, .ref (gb G + u1)), (2, .int x2)] dX5_readPair_57 (by decide) rfl ?_
        refine jd_iload_n (pc := 59) 5 dX5_readPair_59 rfl rfl ?_
        refine jd_if_eq (pc := 60) 94 dX5_readPair_60 (by decide) (fun hc => ?_) (fun hc => ?_)
        · have h := h.1 hc
          refine jd_aload_n (pc := 94) 4 dX5_readPair_94 rfl rfl ?_
          refine jd_iload_n (pc := 95) 2 dX5_readPair_95 rfl rfl ?_
          refine jd_iload (pc := 96) 1 dX5_readPair_96 rfl ?_
          refine jd_iload (pc := 98) 0 dX5_readPair_98 rfl ?_
          refine jd_callVv (pc := 100) (M2 := mX9_tie) (id := u1) (ci := 8) (T := TX9) (N := 10) (av := [.int v4, .int v6, .int 0]) kX9_tie sX9_tie rfl hu1.1 lX5_103 rfl rfl (Nat.le_of_ble_eq_true rfl) dX5_readPair_100 h ?_
          intro I19 J19 h
          refine jd_iconst (pc := 103) (v := 1) dX5_readPair_103 (by decide) ?_
          exact jd_iretK (pc := 104) (ty := .boolean) rfl (by decide) dX5_readPair_104 h
        · have h := h.2 hc
          refine jd_aload_n (pc := 63) 3 dX5_readPair_63 rfl rfl ?_
          refine jd_ldcS (pc := 64) (tx := "since") (fun U hU => (gOK_str hG U hU).2.2.1) dX5_readPair_64 ?_
          refine jd_callVi (pc := 66) (M2 := mX5_isWord) (id := t) (ci := 4) (T := TX5) (N := 6) (av := [.ref (sA 2)]) kX5_isWord sX5_isWord rfl ht.1 lX5_58 rfl rfl (Nat.le_of_ble_eq_true rfl) dX5_readPair_66 h ?_
          intro v22 I21 J21 h
          refine jd_if_eq (pc := 69) 94 dX5_readPair_69 (by decide) (fun hc => ?_) (fun hc => ?_)
          · have h := h.1 hc
            refine jd_aload_n (pc := 94) 4 dX5_readPair_94 rfl rfl ?_
            refine jd_iload_n (pc := 95) 2 dX5_readPair_95 rfl rfl ?_
            refine jd_iload (pc := 96) 1 dX5_readPair_96 rfl ?_
            refine jd_iload (pc := 98) 0 dX5_readPair_98 rfl ?_
            refine jd_callVv (pc := 100) (M2 := mX9_tie) (id := u1) (ci := 8) (T := TX9) (N := 10) (av := [.int v4, .int v6, .int 0]) kX9_tie sX9_tie rfl hu1.1 lX5_103 rfl rfl (Nat.le_of_ble_eq_true rfl) dX5_readPair_100 h ?_
            intro I23 J23 h
            refine jd_iconst (pc := 103) (v := 1) dX5_readPair_103 (by decide) ?_
            exact jd_iretK (pc := 104) (ty := .boolean) rfl (by decide) dX5_readPair_104 h
          · have h := h.2 hc
            refine jd_aload_n (pc := 72) 3 dX5_readPair_72 rfl rfl ?_
            refine jd_callVv (pc := 73) (M2 := mX5_advance) (id := t) (ci := 4) (T := TX5) (N := 6) (av := []) kX5_advance sX5_advance rfl ht.1 lX5_22 rfl rfl (Nat.le_of_ble_eq_true rfl) dX5_readPair_73 h ?_
            intro I25 J25 h
            refine jd_aload_n (pc := 76) 3 dX5_readPair_76 rfl rfl ?_
            refine jd_iconst (pc := 77) (v := 0) dX5_readPair_77 (by decide) ?_
            refine jd_bipush (pc := 78) (v := 99) dX5_readPair_78 (by decide) ?_
            refine jd_iconst (pc := 80) (v := 0) dX5_readPair_80 (by decide) ?_
            refine jd_callVi (pc := 81) (M2 := mX5_readNumber) (id := t) (ci := 4) (T := TX5) (N := 6) (av := [.int 0, .int 99, .int 0]) kX5_readNumber sX5_readNumber rfl ht.1 lX5_93 rfl rfl (Nat.le_of_ble_eq_true rfl) dX5_readPair_81 h ?_
            intro v28 I27 J27 h
            refine jd_istore (pc := 84) [(5, .int v28), (4, .int v6), (3, .int v4), (0, .ref (gb G + t)), (1, .ref (gb G + u1)), (2, .int x2)] dX5_readPair_84 (by decide) rfl ?_
            refine jd_iload (pc := 86) 0 dX5_readPair_86 rfl ?_
            refine jd_iconst (pc := 88) (v := (-1)) dX5_readPair_88 (by decide) ?_
            refine jd_icmp_ne (pc := 89) 94 dX5_readPair_89 (by decide) (fun hc => ?_) (fun hc => ?_)
            · have h := h.1 hc
              refine jd_aload_n (pc := 94) 4 dX5_readPair_94 rfl rfl ?_
              refine jd_iload_n (pc := 95) 2 dX5_readPair_95 rfl rfl ?_
              refine jd_iload (pc := 96) 1 dX5_readPair_96 rfl ?_
              refine jd_iload (pc := 98) 0 dX5_readPair_98 rfl ?_
              refine jd_callVv (pc := 100) (M2 := mX9_tie) (id := u1) (ci := 8) (T := TX9) (N := 10) (av := [.int v4, .int v6, .int v28]) kX9_tie sX9_tie rfl hu1.1 lX5_103 rfl rfl (Nat.le_of_ble_eq_true rfl) dX5_readPair_100 h ?_
              intro I29 J29 h
              refine jd_iconst (pc := 103) (v := 1) dX5_readPair_103 (by decide) ?_
              exact jd_iretK (pc := 104) (ty := .boolean) rfl (by decide) dX5_readPair_104 h
            · have h := h.2 hc
              refine jd_iconst (pc := 92) (v := 0) dX5_readPair_92 (by decide) ?_
              exact jd_iretK (pc := 93) (ty := .boolean) rfl (by decide) dX5_readPair_93 h
    · have h := h.2 hc
      refine jd_iconst (pc := 46) (v := 0) dX5_readPair_46 (by decide) ?_
      exact jd_iretK (pc := 47) (ty := .boolean) rfl (by decide) dX5_readPair_47 h
  · have h := h.2 hc
    refine jd_iconst (pc := 22) (v := 0) dX5_readPair_22 (by decide) ?_
    exact jd_iretK (pc := 23) (ty := .boolean) rfl (by decide) dX5_readPair_23 h
theorem eX5_readPair {G : jdG} {n : Nat} {Z : jdL} {I : jdI} {J : jdJ} {K : Int32 → jdI → jdJ → Prop} {sA : Nat → Nat} {sV : Nat → Nat} {t : Nat} {u1 : Nat} {x2 : Int32} (hG : gOK G sA sV) (ht : zScribe Z t) (hu1 : zTown Z u1) (h : Cl G mX5_advance n 0 0 [.ref (gb G + t)] Z I J (qv Z (fun I1 J1 => Cl G mX5_readNumber n 0 0 [.ref (gb G + t), .int 0, .int ((I1 u1 3) - 1), .int 0] Z I1 J1 (qi Z (fun v4 I3 J3 => ((¬ v4 = (-1) → Cl G mX5_readNumber n 0 0 [.ref (gb G + t), .int 0, .int ((I3 u1 3) - 1), .int (1 <<< (v4 &&& 31))] Z I3 J3 (qi Z (fun v6 I5 J5 => ((¬ v6 = (-1) → ((x2 = 0 → ((x2 = 0 → Cl G mX9_tie n 0 0 [.ref (gb G + u1), .int v4, .int v6, .int (-1)] Z I5 J5 (qv Z (fun I7 J7 => K 1 I7 J7))) ∧ (¬ x2 = 0 → Cl G mX5_isWord n 0 0 [.ref (gb G + t), .ref (sA 2)] Z I5 J5 (qi Z (fun v10 I9 J9 => ((v10 = 0 → Cl G mX9_tie n 0 0 [.ref (gb G + u1), .int v4, .int v6, .int (-1)] Z I9 J9 (qv Z (fun I11 J11 => K 1 I11 J11))) ∧ (¬ v10 = 0 → Cl G mX5_advance n 0 0 [.ref (gb G + t)] Z I9 J9 (qv Z (fun I13 J13 => Cl G mX5_readNumber n 0 0 [.ref (gb G + t), .int 0, .int 99, .int 0] Z I13 J13 (qi Z (fun v16 I15 J15 => ((¬ v16 = (-1) → Cl G mX9_tie n 0 0 [.ref (gb G + u1), .int v4, .int v6, .int v16] Z I15 J15 (qv Z (fun I17 J17 => K 1 I17 J17))) ∧ (v16 = (-1) → K 0 I15 J15))))))))))))) ∧ (¬ x2 = 0 → ((x2 = 0 → Cl G mX9_tie n 0 0 [.ref (gb G + u1), .int v4, .int v6, .int 0] Z I5 J5 (qv Z (fun I19 J19 => K 1 I19 J19))) ∧ (¬ x2 = 0 → Cl G mX5_isWord n 0 0 [.ref (gb G + t), .ref (sA 2)] Z I5 J5 (qi Z (fun v22 I21 J21 => ((v22 = 0 → Cl G mX9_tie n 0 0 [.ref (gb G + u1), .int v4, .int v6, .int 0] Z I21 J21 (qv Z (fun I23 J23 => K 1 I23 J23))) ∧ (¬ v22 = 0 → Cl G mX5_advance n 0 0 [.ref (gb G + t)] Z I21 J21 (qv Z (fun I25 J25 => Cl G mX5_readNumber n 0 0 [.ref (gb G + t), .int 0, .int 99, .int 0] Z I25 J25 (qi Z (fun v28 I27 J27 => ((¬ v28 = (-1) → Cl G mX9_tie n 0 0 [.ref (gb G + u1), .int v4, .int v6, .int v28] Z I27 J27 (qv Z (fun I29 J29 => K 1 I29 J29))) ∧ (v28 = (-1) → K 0 I27 J27))))))))))))))) ∧ (v6 = (-1) → K 0 I5 J5))))) ∧ (v4 = (-1) → K 0 I3 J3))))))) : Cl G mX5_readPair (n + 1) 0 0 [.ref (gb G + t), .ref (gb G + u1), .int x2] Z I J (qi Z K) :=
  Cl.of (by decide +kernel) (Nat.le_of_ble_eq_true rfl) (rX5_readPair_0 hG ht hu1 h)
set_option maxRecDepth 4000 in
theorem rX5_readSeats_0 {G : jdG} {n rc rs : Nat} {Z : jdL} {I : jdI} {J : jdJ} {K : Int32 → jdI → jdJ → Prop} {t : Nat} {u1 : Nat} (ht : zScribe Z t) (hu1 : zTown Z u1) (h : Cl G mX5_advance n 0 0 [.ref (gb G + t)] Z I J (qv Z (fun I1 J1 => Cl G mX5_readNumber n 0 0 [.ref (gb G + t), .int 2, .int 4, .int 0] Z I1 J1 (qi Z (fun v4 I3 J3 => ((¬ v4 = (-1) → K 1 (uI I3 u1 4 v4) J3) ∧ (v4 = (-1) → K 0 I3 J3))))))) : Jd G mX5_readSeats (jdFm G (qi Z K)) (n + 1) rc rs 0 [(0, .ref (gb G + t)), (1, .ref (gb G + u1))] [] Z I J := by
  refine jd_aload_n (pc := 0) 0 dX5_readSeats_0 rfl rfl ?_
  refine jd_callVv (pc := 1) (M2 := mX5_advance) (id := t) (ci := 4) (T := TX5) (N := 6) (av := []) kX5_advance sX5_advance rfl ht.1 lX5_22 rfl rfl (Nat.le_of_ble_eq_true rfl) dX5_readSeats_1 h ?_
  intro I1 J1 h
  refine jd_aload_n (pc := 4) 0 dX5_readSeats_4 rfl rfl ?_
  refine jd_iconst (pc := 5) (v := 2) dX5_readSeats_5 (by decide) ?_
  refine jd_iconst (pc := 6) (v := 4) dX5_readSeats_6 (by decide) ?_
  refine jd_iconst (pc := 7) (v := 0) dX5_readSeats_7 (by decide) ?_
  refine jd_callVi (pc := 8) (M2 := mX5_readNumber) (id := t) (ci := 4) (T := TX5) (N := 6) (av := [.int 2, .int 4, .int 0]) kX5_readNumber sX5_readNumber rfl ht.1 lX5_93 rfl rfl (Nat.le_of_ble_eq_true rfl) dX5_readSeats_8 h ?_
  intro v4 I3 J3 h
  refine jd_istore_n (pc := 11) [(2, .int v4), (0, .ref (gb G + t)), (1, .ref (gb G + u1))] dX5_readSeats_11 rfl (by decide) rfl ?_
  refine jd_iload_n (pc := 12) 0 dX5_readSeats_12 rfl rfl ?_
  refine jd_iconst (pc := 13) (v := (-1)) dX5_readSeats_13 (by decide) ?_
  refine jd_icmp_ne (pc := 14) 19 dX5_readSeats_14 (by decide) (fun hc => ?_) (fun hc => ?_)
  · have h := h.1 hc
    refine jd_aload_n (pc := 19) 2 dX5_readSeats_19 rfl rfl ?_
    refine jd_iload_n (pc := 20) 0 dX5_readSeats_20 rfl rfl ?_
    refine jd_putI (pc := 21) (ci := 8) (k := 4) pX5_107 hu1.1 rfl rfl rfl dX5_readSeats_21 ?_
    refine jd_iconst (pc := 24) (v := 1) dX5_readSeats_24 (by decide) ?_
    exact jd_iretK (pc := 25) (ty := .boolean) rfl (by decide) dX5_readSeats_25 h
  · have h := h.2 hc
    refine jd_iconst (pc := 17) (v := 0) dX5_readSeats_17 (by decide) ?_
    exact jd_iretK (pc := 18) (ty := .boolean) rfl (by decide) dX5_readSeats_18 h
theorem eX5_readSeats {G : jdG} {n : Nat} {Z : jdL} {I : jdI} {J : jdJ} {K : Int32 → jdI → jdJ → Prop} {t : Nat} {u1 : Nat} (ht : zScribe Z t) (hu1 : zTown Z u1) (h : Cl G mX5_advance n 0 0 [.ref (gb G + t)] Z I J (qv Z (fun I1 J1 => Cl G mX5_readNumber n 0 0 [.ref (gb G + t), .int 2, .int 4, .int 0] Z I1 J1 (qi Z (fun v4 I3 J3 => ((¬ v4 = (-1) → K 1 (uI I3 u1 4 v4) J3) ∧ (v4 = (-1) → K 0 I3 J3))))))) : Cl G mX5_readSeats (n + 1) 0 0 [.ref (gb G + t), .ref (gb G + u1)] Z I J (qi Z K) :=
  Cl.of (by decide +kernel) (Nat.le_of_ble_eq_true rfl) (rX5_readSeats_0 ht hu1 h)
set_option maxRecDepth 4000 in
theorem rX5_readMemory_0 {G : jdG} {n rc rs : Nat} {Z : jdL} {I : jdI} {J : jdJ} {K : Int32 → jdI → jdJ → Prop} {t : Nat} {u1 : Nat} (ht : zScribe Z t) (hu1 : zTown Z u1) (h : Cl G mX5_advance n 0 0 [.ref (gb G + t)] Z I J (qv Z (fun I1 J1 => Cl G mX5_readNumber n 0 0 [.ref (gb G + t), .int 0, .int 99, .int 0] Z I1 J1 (qi Z (fun v4 I3 J3 => ((¬ v4 = (-1) → K 1 (uI I3 u1 5 v4) J3) ∧ (v4 = (-1) → K 0 I3 J3))))))) : Jd G mX5_readMemory (jdFm G (qi Z K)) (n + 1) rc rs 0 [(0, .ref (gb G + t)), (1, .ref (gb G + u1))] [] Z I J := by
  refine jd_aload_n (pc := 0) 0 dX5_readMemory_0 rfl rfl ?_
  refine jd_callVv (pc := 1) (M2 := mX5_advance) (id := t) (ci := 4) (T := TX5) (N := 6) (av := []) kX5_advance sX5_advance rfl ht.1 lX5_22 rfl rfl (Nat.le_of_ble_eq_true rfl) dX5_readMemory_1 h ?_
  intro I1 J1 h
  refine jd_aload_n (pc := 4) 0 dX5_readMemory_4 rfl rfl ?_
  refine jd_iconst (pc := 5) (v := 0) dX5_readMemory_5 (by decide) ?_
  refine jd_bipush (pc := 6) (v := 99) dX5_readMemory_6 (by decide) ?_
  refine jd_iconst (pc := 8) (v := 0) dX5_readMemory_8 (by decide) ?_
  refine jd_callVi (pc := 9) (M2 := mX5_readNumber) (id := t) (ci := 4) (T := TX5) (N := 6) (av := [.int 0, .int 99, .int 0]) kX5_readNumber sX5_readNumber rfl ht.1 lX5_93 rfl rfl (Nat.le_of_ble_eq_true rfl) dX5_readMemory_9 h ?_
  intro v4 I3 J3 h
  refine jd_istore_n (pc := 12) [(2, .int v4), (0, .ref (gb G + t)), (1, .ref (gb G + u1))] dX5_readMemory_12 rfl (by decide) rfl ?_
  refine jd_iload_n (pc := 13) 0 dX5_readMemory_13 rfl rfl ?_
  refine jd_iconst (pc := 14) (v := (-1)) dX5_readMemory_14 (by decide) ?_
  refine jd_icmp_ne (pc := 15) 20 dX5_readMemory_15 (by decide) (fun hc => ?_) (fun hc => ?_)
  · have h := h.1 hc
    refine jd_aload_n (pc := 20) 2 dX5_readMemory_20 rfl rfl ?_
    refine jd_iload_n (pc := 21) 0 dX5_readMemory_21 rfl rfl ?_
    refine jd_putI (pc := 22) (ci := 8) (k := 5) pX5_109 hu1.1 rfl rfl rfl dX5_readMemory_22 ?_
    refine jd_iconst (pc := 25) (v := 1) dX5_readMemory_25 (by decide) ?_
    exact jd_iretK (pc := 26) (ty := .boolean) rfl (by decide) dX5_readMemory_26 h
  · have h := h.2 hc
    refine jd_iconst (pc := 18) (v := 0) dX5_readMemory_18 (by decide) ?_
    exact jd_iretK (pc := 19) (ty := .boolean) rfl (by decide) dX5_readMemory_19 h
theorem eX5_readMemory {G : jdG} {n : Nat} {Z : jdL} {I : jdI} {J : jdJ} {K : Int32 → jdI → jdJ → Prop} {t : Nat} {u1 : Nat} (ht : zScribe Z t) (hu1 : zTown Z u1) (h : Cl G mX5_advance n 0 0 [.ref (gb G + t)] Z I J (qv Z (fun I1 J1 => Cl G mX5_readNumber n 0 0 [.ref (gb G + t), .int 0, .int 99, .int 0] Z I1 J1 (qi Z (fun v4 I3 J3 => ((¬ v4 = (-1) → K 1 (uI I3 u1 5 v4) J3) ∧ (v4 = (-1) → K 0 I3 J3))))))) : Cl G mX5_readMemory (n + 1) 0 0 [.ref (gb G + t), .ref (gb G + u1)] Z I J (qi Z K) :=
  Cl.of (by decide +kernel) (Nat.le_of_ble_eq_true rfl) (rX5_readMemory_0 ht hu1 h)
set_option maxRecDepth 4000 in
theorem rX5_readMet_0 {G : jdG} {n rc rs : Nat} {Z : jdL} {I : jdI} {J : jdJ} {K : Int32 → jdI → jdJ → Prop} {t : Nat} {u1 : Nat} (ht : zScribe Z t) (hu1 : zTown Z u1) (h : Cl G mX5_advance n 0 0 [.ref (gb G + t)] Z I J (qv Z (fun I1 J1 => Jd G mX5_readMet (jdFm G (qi Z K)) (n + 1) rc rs 8 [(0, .ref (gb G + t)), (1, .ref (gb G + u1)), (2, .int 0), (3, .int 0)] [] Z I1 J1))) : Jd G mX5_readMet (jdFm G (qi Z K)) (n + 1) rc rs 0 [(0, .ref (gb G + t)), (1, .ref (gb G + u1))] [] Z I J := by
  refine jd_aload_n (pc := 0) 0 dX5_readMet_0 rfl rfl ?_
  refine jd_callVv (pc := 1) (M2 := mX5_advance) (id := t) (ci := 4) (T := TX5) (N := 6) (av := []) kX5_advance sX5_advance rfl ht.1 lX5_22 rfl rfl (Nat.le_of_ble_eq_true rfl) dX5_readMet_1 h ?_
  intro I1 J1 h
  refine jd_iconst (pc := 4) (v := 0) dX5_readMet_4 (by decide) ?_
  refine jd_istore_n (pc := 5) [(2, .int 0), (0, .ref (gb G + t)), (1, .ref (gb G + u1))] dX5_readMet_5 rfl (by decide) rfl ?_
  refine jd_iconst (pc := 6) (v := 0) dX5_readMet_6 (by decide) ?_
  refine jd_istore_n (pc := 7) [(3, .int 0), (2, .int 0), (0, .ref (gb G + t)), (1, .ref (gb G + u1))] dX5_readMet_7 rfl (by decide) rfl ?_
  exact jd_lv (lv2 := [(0, .ref (gb G + t)), (1, .ref (gb G + u1)), (2, .int 0), (3, .int 0)]) [2, 3, 1, 0] rfl h
set_option maxRecDepth 4000 in
theorem rX5_readMet_8 {G : jdG} {n rc rs : Nat} {Z : jdL} {I : jdI} {J : jdJ} {K : Int32 → jdI → jdJ → Prop} {u1 : Nat} {t : Nat} {x2 : Int32} {x3 : Int32} (ht : zScribe Z t) (hu1 : zTown Z u1) (h : ((7 < x3 → Cl G mX9_acquaint n 0 0 [.ref (gb G + u1), .int x2] Z I J (qi Z (fun v2 I1 J1 => K 1 I1 J1))) ∧ (¬ 7 < x3 → ((x3 = 0 → Cl G mX5_readNumber n 0 0 [.ref (gb G + t), .int 0, .int ((I u1 3) - 1), .int x2] Z I J (qi Z (fun v4 I3 J3 => ((¬ v4 = (-1) → Jd G mX5_readMet (jdFm G (qi Z K)) (n + 1) rc rs 8 [(0, .ref (gb G + t)), (1, .ref (gb G + u1)), (2, .int (x2 ||| (1 <<< (v4 &&& 31)))), (3, .int (x3 + 1))] [] Z I3 J3) ∧ (v4 = (-1) → K 0 I3 J3))))) ∧ (¬ x3 = 0 → ((¬ (I t 2) = 2 → Cl G mX9_acquaint n 0 0 [.ref (gb G + u1), .int x2] Z I J (qi Z (fun v6 I5 J5 => K 1 I5 J5))) ∧ ((I t 2) = 2 → Cl G mX5_readNumber n 0 0 [.ref (gb G + t), .int 0, .int ((I u1 3) - 1), .int x2] Z I J (qi Z (fun v8 I7 J7 => ((¬ v8 = (-1) → Jd G mX5_readMet (jdFm G (qi Z K)) (n + 1) rc rs 8 [(0, .ref (gb G + t)), (1, .ref (gb G + u1)), (2, .int (x2 ||| (1 <<< (v8 &&& 31)))), (3, .int (x3 + 1))] [] Z I7 J7) ∧ (v8 = (-1) → K 0 I7 J7))))))))))) : Jd G mX5_readMet (jdFm G (qi Z K)) (n + 1) rc rs 8 [(0, .ref (gb G + t)), (1, .ref (gb G + u1)), (2, .int x2), (3, .int x3)] [] Z I J := by
  refine jd_iload_n (pc := 8) 3 dX5_readMet_8 rfl rfl ?_
  refine jd_bipush (pc := 9) (v := 7) dX5_readMet_9 (by decide) ?_
  refine jd_icmp_gt (pc := 11) 61 dX5_readMet_11 (by decide) (fun hc => ?_) (fun hc => ?_)
  · have h := h.1 hc
    refine jd_aload_n (pc := 61) 1 dX5_readMet_61 rfl rfl ?_
    refine jd_iload_n (pc := 62) 2 dX5_readMet_62 rfl rfl ?_
    refine jd_callVi (pc := 63) (M2 := mX9_acquaint) (id := u1) (ci := 8) (T := TX9) (N := 10) (av := [.int x2]) kX9_acquaint sX9_acquaint rfl hu1.1 lX5_111 rfl rfl (Nat.le_of_ble_eq_true rfl) dX5_readMet_63 h ?_
    intro v2 I1 J1 h
    refine jd_pop (pc := 66) dX5_readMet_66 rfl ?_
    refine jd_iconst (pc := 67) (v := 1) dX5_readMet_67 (by decide) ?_
    exact jd_iretK (pc := 68) (ty := .boolean) rfl (by decide) dX5_readMet_68 h
  · have h := h.2 hc
    refine jd_iload_n (pc := 14) 3 dX5_readMet_14 rfl rfl ?_
    refine jd_if_eq (pc := 15) 26 dX5_readMet_15 (by decide) (fun hc => ?_) (fun hc => ?_)
    · have h := h.1 hc
      refine jd_aload_n (pc := 26) 0 dX5_readMet_26 rfl rfl ?_
      refine jd_iconst (pc := 27) (v := 0) dX5_readMet_27 (by decide) ?_
      refine jd_aload_n (pc := 28) 1 dX5_readMet_28 rfl rfl ?_
      refine jd_getI (pc := 29) (ci := 8) (k := 3) gX5_88 hu1.1 rfl dX5_readMet_29 ?_
      refine jd_iconst (pc := 32) (v := 1) dX5_readMet_32 (by decide) ?_
      refine jd_isub (pc := 33) dX5_readMet_33 ?_
      refine jd_iload_n (pc := 34) 2 dX5_readMet_34 rfl rfl ?_
      refine jd_callVi (pc := 35) (M2 := mX5_readNumber) (id := t) (ci := 4) (T := TX5) (N := 6) (av := [.int 0, .int ((I u1 3) - 1), .int x2]) kX5_readNumber sX5_readNumber rfl ht.1 lX5_93 rfl rfl (Nat.le_of_ble_eq_true rfl) dX5_readMet_35 h ?_
      intro v4 I3 J3 h
      refine jd_istore (pc := 38) [(4, .int v4), (0, .ref (gb G + t)), (1, .ref (gb G + u1)), (2, .int x2), (3, .int x3)] dX5_readMet_38 (by decide) rfl ?_
      refine jd_iload (pc := 40) 0 dX5_readMet_40 rfl ?_
      refine jd_iconst (pc := 42) (v := (-1)) dX5_readMet_42 (by decide) ?_
      refine jd_icmp_ne (pc := 43) 48 dX5_readMet_43 (by decide) (fun hc => ?_) (fun hc => ?_)
      · have h := h.1 hc
        refine jd_iload_n (pc := 48) 3 dX5_readMet_48 rfl rfl ?_
        refine jd_iconst (pc := 49) (v := 1) dX5_readMet_49 (by decide) ?_
        refine jd_iload (pc := 50) 0 dX5_readMet_50 rfl ?_
        refine jd_ishl (pc := 52) dX5_readMet_52 ?_
        refine jd_ior (pc := 53) dX5_readMet_53 ?_
        refine jd_istore_n (pc := 54) [(2, .int (x2 ||| (1 <<< (v4 &&& 31)))), (4, .int v4), (0, .ref (gb G + t)), (1, .ref (gb G + u1)), (3, .int x3)] dX5_readMet_54 rfl (by decide) rfl ?_
        refine jd_iinc (pc := 55) (v := (x3 + 1)) 4 [(3, .int (x3 + 1)), (2, .int (x2 ||| (1 <<< (v4 &&& 31)))), (4, .int v4), (0, .ref (gb G + t)), (1, .ref (gb G + u1))] dX5_readMet_55 rfl rfl (by decide) rfl ?_
        refine jd_goto (pc := 58) 8 dX5_readMet_58 (by decide) ?_
        exact jd_lv (lv2 := [(0, .ref (gb G + t)), (1, .ref (gb G + u1)), (2, .int (x2 ||| (1 <<< (v4 &&& 31)))), (3, .int (x3 + 1))]) [3, 4, 1, 0] rfl h
      · have h := h.2 hc
        refine jd_iconst (pc := 46) (v := 0) dX5_readMet_46 (by decide) ?_
        exact jd_iretK (pc := 47) (ty := .boolean) rfl (by decide) dX5_readMet_47 h
    · have h := h.2 hc
      refine jd_aload_n (pc := 18) 0 dX5_readMet_18 rfl rfl ?_
      refine jd_getI (pc := 19) (ci := 4) (k := 2) gX5_29 ht.1 rfl dX5_readMet_19 ?_
      refine jd_iconst (pc := 22) (v := 2) dX5_readMet_22 (by decide) ?_
      refine jd_icmp_ne (pc := 23) 61 dX5_readMet_23 (by decide) (fun hc => ?_) (fun hc => ?_)
      · have h := h.1 hc
        refine jd_aload_n (pc := 61) 1 dX5_readMet_61 rfl rfl ?_
        refine jd_iload_n (pc := 62) 2 dX5_readMet_62 rfl rfl ?_
        refine jd_callVi (pc := 63) (M2 := mX9_acquaint) (id := u1) (ci := 8) (T := TX9) (N := 10) (av := [.int x2]) kX9_acquaint sX9_acquaint rfl hu1.1 lX5_111 rfl rfl (Nat.le_of_ble_eq_true rfl) dX5_readMet_63 h ?_
        intro v6 I5 J5 h
        refine jd_pop (pc := 66) dX5_readMet_66 rfl ?_
        refine jd_iconst (pc := 67) (v := 1) dX5_readMet_67 (by decide) ?_
        exact jd_iretK (pc := 68) (ty := .boolean) rfl (by decide) dX5_readMet_68 h
      · have h := h.2 hc
        refine jd_aload_n (pc := 26) 0 dX5_readMet_26 rfl rfl ?_
        refine jd_iconst (pc := 27) (v := 0) dX5_readMet_27 (by decide) ?_
        refine jd_aload_n (pc := 28) 1 dX5_readMet_28 rfl rfl ?_
        refine jd_getI (pc := 29) (ci := 8) (k := 3) gX5_88 hu1.1 rfl dX5_readMet_29 ?_
        refine jd_iconst (pc := 32) (v := 1) dX5_readMet_32 (by decide) ?_
        refine jd_isub (pc := 33) dX5_readMet_33 ?_
        refine jd_iload_n (pc := 34) 2 dX5_readMet_34 rfl rfl ?_
        refine jd_callVi (pc := 35) (M2 := mX5_readNumber) (id := t) (ci := 4) (T := TX5) (N := 6) (av := [.int 0, .int ((I u1 3) - 1), .int x2]) kX5_readNumber sX5_readNumber rfl ht.1 lX5_93 rfl rfl (Nat.le_of_ble_eq_true rfl) dX5_readMet_35 h ?_
        intro v8 I7 J7 h
        refine jd_istore (pc := 38) [(4, .int v8), (0, .ref (gb G + t)), (1, .ref (gb G + u1)), (2, .int x2), (3, .int x3)] dX5_readMet_38 (by decide) rfl ?_
        refine jd_iload (pc := 40) 0 dX5_readMet_40 rfl ?_
        refine jd_iconst (pc := 42) (v := (-1)) dX5_readMet_42 (by decide) ?_
        refine jd_icmp_ne (pc := 43) 48 dX5_readMet_43 (by decide) (fun hc => ?_) (fun hc => ?_)
        · have h := h.1 hc
          refine jd_iload_n (pc := 48) 3 dX5_readMet_48 rfl rfl ?_
          refine jd_iconst (pc := 49) (v := 1) dX5_readMet_49 (by decide) ?_
          refine jd_iload (pc := 50) 0 dX5_readMet_50 rfl ?_
          refine jd_ishl (pc := 52) dX5_readMet_52 ?_
          refine jd_ior (pc := 53) dX5_readMet_53 ?_
          refine jd_istore_n (pc := 54) [(2, .int (x2 ||| (1 <<< (v8 &&& 31)))), (4, .int v8), (0, .ref (gb G + t)), (1, .ref (gb G + u1)), (3, .int x3)] dX5_readMet_54 rfl (by decide) rfl ?_
          refine jd_iinc (pc := 55) (v := (x3 + 1)) 4 [(3, .int (x3 + 1)), (2, .int (x2 ||| (1 <<< (v8 &&& 31)))), (4, .int v8), (0, .ref (gb G + t)), (1, .ref (gb G + u1))] dX5_readMet_55 rfl rfl (by decide) rfl ?_
          refine jd_goto (pc := 58) 8 dX5_readMet_58 (by decide) ?_
          exact jd_lv (lv2 := [(0, .ref (gb G + t)), (1, .ref (gb G + u1)), (2, .int (x2 ||| (1 <<< (v8 &&& 31)))), (3, .int (x3 + 1))]) [3, 4, 1, 0] rfl h
        · have h := h.2 hc
          refine jd_iconst (pc := 46) (v := 0) dX5_readMet_46 (by decide) ?_
          exact jd_iretK (pc := 47) (ty := .boolean) rfl (by decide) dX5_readMet_47 h
theorem eX5_readMet {G : jdG} {n : Nat} {Z : jdL} {I : jdI} {J : jdJ} {K : Int32 → jdI → jdJ → Prop} {t : Nat} {u1 : Nat} (ht : zScribe Z t) (hu1 : zTown Z u1) (h : Cl G mX5_advance n 0 0 [.ref (gb G + t)] Z I J (qv Z (fun I1 J1 => Jd G mX5_readMet (jdFm G (qi Z K)) (n + 1) 0 0 8 [(0, .ref (gb G + t)), (1, .ref (gb G + u1)), (2, .int 0), (3, .int 0)] [] Z I1 J1))) : Cl G mX5_readMet (n + 1) 0 0 [.ref (gb G + t), .ref (gb G + u1)] Z I J (qi Z K) :=
  Cl.of (by decide +kernel) (Nat.le_of_ble_eq_true rfl) (rX5_readMet_0 ht hu1 h)
