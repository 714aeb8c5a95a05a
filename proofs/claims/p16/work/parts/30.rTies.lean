set_option maxRecDepth 4000 in
theorem rX8_load_0 {G : jdG} {n rc rs : Nat} {Z : jdL} {I : jdI} {J : jdJ} {K : jdI → jdJ → Prop} {t : Nat} {u1 : Nat} (ht : zTies Z t) (hu1 : zTown Z u1) (h : Jd G mX8_load (jdFm G (qv Z K)) (n + 1) rc rs 18 [(0, .ref (gb G + t)), (1, .ref (gb G + u1)), (2, .int 0)] [] Z (uI (uI I t 6 (I u1 3)) t 7 ((uI I t 6 (I u1 3)) u1 4)) J) : Jd G mX8_load (jdFm G (qv Z K)) (n + 1) rc rs 0 [(0, .ref (gb G + t)), (1, .ref (gb G + u1))] [] Z I J := by
  refine jd_aload_n (pc := 0) 0 dX8_load_0 rfl rfl ?_
  refine jd_aload_n (pc := 1) 1 dX8_load_1 rfl rfl ?_
  refine jd_getI (pc := 2) (ci := 8) (k := 3) gX8_30 hu1.1 rfl dX8_load_2 ?_
  refine jd_putI (pc := 5) (ci := 7) (k := 6) pX8_36 ht.1 rfl rfl rfl dX8_load_5 ?_
  refine jd_aload_n (pc := 8) 0 dX8_load_8 rfl rfl ?_
  refine jd_aload_n (pc := 9) 1 dX8_load_9 rfl rfl ?_
  refine jd_getI (pc := 10) (ci := 8) (k := 4) gX8_37 hu1.1 rfl dX8_load_10 ?_
  refine jd_putI (pc := 13) (ci := 7) (k := 7) pX8_40 ht.1 rfl rfl rfl dX8_load_13 ?_
  refine jd_iconst (pc := 16) (v := 0) dX8_load_16 (by decide) ?_
  refine jd_istore_n (pc := 17) [(2, .int 0), (0, .ref (gb G + t)), (1, .ref (gb G + u1))] dX8_load_17 rfl (by decide) rfl ?_
  exact jd_lv (lv2 := [(0, .ref (gb G + t)), (1, .ref (gb G + u1)), (2, .int 0)]) [1, 2, 0] rfl h
set_option maxRecDepth 4000 in
theorem rX8_load_18 {G : jdG} {n rc rs : Nat} {Z : jdL} {I : jdI} {J : jdJ} {K : jdI → jdJ → Prop} {u1 : Nat} {t : Nat} {x2 : Int32} (ht : zTies Z t) (hu1 : zTown Z u1) (h : (((I t 6) ≤ x2 → Cl G mX8_list n 0 0 [.ref (gb G + t)] Z I J (qv Z (fun I1 J1 => K I1 J1))) ∧ (¬ (I t 6) ≤ x2 → Cl G mX9_strangersTo n 0 0 [.ref (gb G + u1), .int x2] Z I J (qi Z (fun v4 I3 J3 => (vp_in x2 8 ∧ (vp_in x2 7 ∧ (vp_in x2 8 ∧ Jd G mX8_load (jdFm G (qv Z K)) (n + 1) rc rs 18 [(0, .ref (gb G + t)), (1, .ref (gb G + u1)), (2, .int (x2 + 1))] [] Z (uI (uI I3 (t + 1) (Int32.toNatClampNeg x2) v4) (t + 2) (Int32.toNatClampNeg x2) ((uI I3 (t + 1) (Int32.toNatClampNeg x2) v4) (u1 + 2) (Int32.toNatClampNeg x2))) J3)))))))) : Jd G mX8_load (jdFm G (qv Z K)) (n + 1) rc rs 18 [(0, .ref (gb G + t)), (1, .ref (gb G + u1)), (2, .int x2)] [] Z I J := by
  refine jd_iload_n (pc := 18) 2 dX8_load_18 rfl rfl ?_
  refine jd_aload_n (pc := 19) 0 dX8_load_19 rfl rfl ?_
  refine jd_getI (pc := 20) (ci := 7) (k := 6) gX8_36 ht.1 rfl dX8_load_20 ?_
  refine jd_icmp_ge (pc := 23) 55 dX8_load_23 (by decide) (fun hc => ?_) (fun hc => ?_)
  · have h := h.1 hc
    refine jd_aload_n (pc := 55) 0 dX8_load_55 rfl rfl ?_
    refine jd_callVv (pc := 56) (M2 := mX8_list) (id := t) (ci := 7) (T := TX8) (N := 11) (av := []) kX8_list sX8_list rfl ht.1 lX8_46 rfl rfl (Nat.le_of_ble_eq_true rfl) dX8_load_56 h ?_
    intro I1 J1 h
    exact jd_vretK (pc := 59) rfl dX8_load_59 h
  · have h := h.2 hc
    refine jd_aload_n (pc := 26) 0 dX8_load_26 rfl rfl ?_
    refine jd_getR (pc := 27) (ci := 7) (k := 0) (r := (t + 1)) gX8_11 ht.1 rfl (zTies_p0 ht) dX8_load_27 ?_
    refine jd_iload_n (pc := 30) 2 dX8_load_30 rfl rfl ?_
    refine jd_aload_n (pc := 31) 1 dX8_load_31 rfl rfl ?_
    refine jd_iload_n (pc := 32) 2 dX8_load_32 rfl rfl ?_
    refine jd_callVi (pc := 33) (M2 := mX9_strangersTo) (id := u1) (ci := 8) (T := TX9) (N := 10) (av := [.int x2]) kX9_strangersTo sX9_strangersTo rfl hu1.1 lX8_41 rfl rfl (Nat.le_of_ble_eq_true rfl) dX8_load_33 h ?_
    intro v4 I3 J3 h
    obtain ⟨hv5, h⟩ := h
    refine jd_iast (pc := 36) (len := 8) (zTies_a0 ht) hv5 dX8_load_36 ?_
    refine jd_aload_n (pc := 37) 0 dX8_load_37 rfl rfl ?_
    refine jd_getR (pc := 38) (ci := 7) (k := 1) (r := (t + 2)) gX8_15 ht.1 rfl (zTies_p1 ht) dX8_load_38 ?_
    refine jd_iload_n (pc := 41) 2 dX8_load_41 rfl rfl ?_
    refine jd_aload_n (pc := 42) 1 dX8_load_42 rfl rfl ?_
    refine jd_getR (pc := 43) (ci := 8) (k := 1) (r := (u1 + 2)) gX8_45 hu1.1 rfl (zTown_p1 hu1) dX8_load_43 ?_
    refine jd_iload_n (pc := 46) 2 dX8_load_46 rfl rfl ?_
    obtain ⟨hv6, h⟩ := h
    refine jd_iald (pc := 47) (len := 7) (zTown_a1 hu1) hv6 dX8_load_47 ?_
    obtain ⟨hv7, h⟩ := h
    refine jd_iast (pc := 48) (len := 8) (zTies_a1 ht) hv7 dX8_load_48 ?_
    refine jd_iinc (pc := 49) (v := (x2 + 1)) 2 [(2, .int (x2 + 1)), (0, .ref (gb G + t)), (1, .ref (gb G + u1))] dX8_load_49 rfl rfl (by decide) rfl ?_
    refine jd_goto (pc := 52) 18 dX8_load_52 (by decide) ?_
    exact jd_lv (lv2 := [(0, .ref (gb G + t)), (1, .ref (gb G + u1)), (2, .int (x2 + 1))]) [1, 2, 0] rfl h
theorem eX8_load {G : jdG} {n : Nat} {Z : jdL} {I : jdI} {J : jdJ} {K : jdI → jdJ → Prop} {t : Nat} {u1 : Nat} (ht : zTies Z t) (hu1 : zTown Z u1) (h : Jd G mX8_load (jdFm G (qv Z K)) (n + 1) 0 0 18 [(0, .ref (gb G + t)), (1, .ref (gb G + u1)), (2, .int 0)] [] Z (uI (uI I t 6 (I u1 3)) t 7 ((uI I t 6 (I u1 3)) u1 4)) J) : Cl G mX8_load (n + 1) 0 0 [.ref (gb G + t), .ref (gb G + u1)] Z I J (qv Z K) :=
  Cl.of (by decide +kernel) (Nat.le_of_ble_eq_true rfl) (rX8_load_0 ht hu1 h)
set_option maxRecDepth 4000 in
theorem rX8_addStranger_0 {G : jdG} {n rc rs : Nat} {Z : jdL} {I : jdI} {J : jdJ} {K : jdI → jdJ → Prop} {t : Nat} (ht : zTies Z t) (h : (((I t 6) < 8 → Jd G mX8_addStranger (jdFm G (qv Z K)) (n + 1) rc rs 12 [(0, .ref (gb G + t)), (1, .int 0)] [] Z I J) ∧ (¬ (I t 6) < 8 → K I J))) : Jd G mX8_addStranger (jdFm G (qv Z K)) (n + 1) rc rs 0 [(0, .ref (gb G + t))] [] Z I J := by
  refine jd_aload_n (pc := 0) 0 dX8_addStranger_0 rfl rfl ?_
  refine jd_getI (pc := 1) (ci := 7) (k := 6) gX8_36 ht.1 rfl dX8_addStranger_1 ?_
  refine jd_bipush (pc := 4) (v := 8) dX8_addStranger_4 (by decide) ?_
  refine jd_icmp_lt (pc := 6) 10 dX8_addStranger_6 (by decide) (fun hc => ?_) (fun hc => ?_)
  · have h := h.1 hc
    refine jd_iconst (pc := 10) (v := 0) dX8_addStranger_10 (by decide) ?_
    refine jd_istore_n (pc := 11) [(1, .int 0), (0, .ref (gb G + t))] dX8_addStranger_11 rfl (by decide) rfl ?_
    exact jd_lv (lv2 := [(0, .ref (gb G + t)), (1, .int 0)]) [1, 0] rfl h
  · have h := h.2 hc
    exact jd_vretK (pc := 9) rfl dX8_addStranger_9 h
set_option maxRecDepth 4000 in
theorem rX8_addStranger_12 {G : jdG} {n rc rs : Nat} {Z : jdL} {I : jdI} {J : jdJ} {K : jdI → jdJ → Prop} {t : Nat} {x1 : Int32} (ht : zTies Z t) (h : (((I t 6) ≤ x1 → Cl G mX8_everybody n 0 0 [.ref (gb G + t)] Z I J (qi Z (fun v2 I1 J1 => (vp_in (I t 6) 8 ∧ (vp_in (I1 t 6) 8 ∧ Cl G mX8_list n 0 0 [.ref (gb G + t)] Z (uI (uI (uI I1 (t + 1) (Int32.toNatClampNeg (I t 6)) v2) (t + 2) (Int32.toNatClampNeg (I1 t 6)) 0) t 6 ((I1 t 6) + 1)) J1 (qv Z (fun I5 J5 => K I5 J5))))))) ∧ (¬ (I t 6) ≤ x1 → (vp_in x1 8 ∧ (vp_in x1 8 ∧ Jd G mX8_addStranger (jdFm G (qv Z K)) (n + 1) rc rs 12 [(0, .ref (gb G + t)), (1, .int (x1 + 1))] [] Z (uI I (t + 1) (Int32.toNatClampNeg x1) ((I (t + 1) (Int32.toNatClampNeg x1)) ||| (1 <<< ((I t 6) &&& 31)))) J))))) : Jd G mX8_addStranger (jdFm G (qv Z K)) (n + 1) rc rs 12 [(0, .ref (gb G + t)), (1, .int x1)] [] Z I J := by
  refine jd_iload_n (pc := 12) 1 dX8_addStranger_12 rfl rfl ?_
  refine jd_aload_n (pc := 13) 0 dX8_addStranger_13 rfl rfl ?_
  refine jd_getI (pc := 14) (ci := 7) (k := 6) gX8_36 ht.1 rfl dX8_addStranger_14 ?_
  refine jd_icmp_ge (pc := 17) 41 dX8_addStranger_17 (by decide) (fun hc => ?_) (fun hc => ?_)
  · have h := h.1 hc
    refine jd_aload_n (pc := 41) 0 dX8_addStranger_41 rfl rfl ?_
    refine jd_getR (pc := 42) (ci := 7) (k := 0) (r := (t + 1)) gX8_11 ht.1 rfl (zTies_p0 ht) dX8_addStranger_42 ?_
    refine jd_aload_n (pc := 45) 0 dX8_addStranger_45 rfl rfl ?_
    refine jd_getI (pc := 46) (ci := 7) (k := 6) gX8_36 ht.1 rfl dX8_addStranger_46 ?_
    refine jd_aload_n (pc := 49) 0 dX8_addStranger_49 rfl rfl ?_
    refine jd_callVi (pc := 50) (M2 := mX8_everybody) (id := t) (ci := 7) (T := TX8) (N := 11) (av := []) kX8_everybody sX8_everybody rfl ht.1 lX8_49 rfl rfl (Nat.le_of_ble_eq_true rfl) dX8_addStranger_50 h ?_
    intro v2 I1 J1 h
    obtain ⟨hv3, h⟩ := h
    refine jd_iast (pc := 53) (len := 8) (zTies_a0 ht) hv3 dX8_addStranger_53 ?_
    refine jd_aload_n (pc := 54) 0 dX8_addStranger_54 rfl rfl ?_
    refine jd_getR (pc := 55) (ci := 7) (k := 1) (r := (t + 2)) gX8_15 ht.1 rfl (zTies_p1 ht) dX8_addStranger_55 ?_
    refine jd_aload_n (pc := 58) 0 dX8_addStranger_58 rfl rfl ?_
    refine jd_getIe (pc := 59) (ci := 7) (k := 6) (e := (I1 t 6)) (uI_ne (by omega) rfl) gX8_36 ht.1 rfl dX8_addStranger_59 ?_
    refine jd_iconst (pc := 62) (v := 0) dX8_addStranger_62 (by decide) ?_
    obtain ⟨hv4, h⟩ := h
    refine jd_iast (pc := 63) (len := 8) (zTies_a1 ht) hv4 dX8_addStranger_63 ?_
    refine jd_aload_n (pc := 64) 0 dX8_addStranger_64 rfl rfl ?_
    refine jd_dup (pc := 65) dX8_addStranger_65 rfl ?_
    refine jd_getIe (pc := 66) (ci := 7) (k := 6) (e := (I1 t 6)) (uI_ne (by omega) (uI_ne (by omega) rfl)) gX8_36 ht.1 rfl dX8_addStranger_66 ?_
    refine jd_iconst (pc := 69) (v := 1) dX8_addStranger_69 (by decide) ?_
    refine jd_iadd (pc := 70) dX8_addStranger_70 ?_
    refine jd_putI (pc := 71) (ci := 7) (k := 6) pX8_36 ht.1 rfl rfl rfl dX8_addStranger_71 ?_
    refine jd_aload_n (pc := 74) 0 dX8_addStranger_74 rfl rfl ?_
    refine jd_callVv (pc := 75) (M2 := mX8_list) (id := t) (ci := 7) (T := TX8) (N := 11) (av := []) kX8_list sX8_list rfl ht.1 lX8_46 rfl rfl (Nat.le_of_ble_eq_true rfl) dX8_addStranger_75 h ?_
    intro I5 J5 h
    exact jd_vretK (pc := 78) rfl dX8_addStranger_78 h
  · have h := h.2 hc
    refine jd_aload_n (pc := 20) 0 dX8_addStranger_20 rfl rfl ?_
    refine jd_getR (pc := 21) (ci := 7) (k := 0) (r := (t + 1)) gX8_11 ht.1 rfl (zTies_p0 ht) dX8_addStranger_21 ?_
    refine jd_iload_n (pc := 24) 1 dX8_addStranger_24 rfl rfl ?_
    refine jd_dup2 (pc := 25) dX8_addStranger_25 rfl rfl ?_
    obtain ⟨hv7, h⟩ := h
    refine jd_iald (pc := 26) (len := 8) (zTies_a0 ht) hv7 dX8_addStranger_26 ?_
    refine jd_iconst (pc := 27) (v := 1) dX8_addStranger_27 (by decide) ?_
    refine jd_aload_n (pc := 28) 0 dX8_addStranger_28 rfl rfl ?_
    refine jd_getI (pc := 29) (ci := 7) (k := 6) gX8_36 ht.1 rfl dX8_addStranger_29 ?_
    refine jd_ishl (pc := 32) dX8_addStranger_32 ?_
    refine jd_ior (pc := 33) dX8_addStranger_33 ?_
    obtain ⟨hv8, h⟩ := h
    refine jd_iast (pc := 34) (len := 8) (zTies_a0 ht) hv8 dX8_addStranger_34 ?_
    refine jd_iinc (pc := 35) (v := (x1 + 1)) 1 [(1, .int (x1 + 1)), (0, .ref (gb G + t))] dX8_addStranger_35 rfl rfl (by decide) rfl ?_
    refine jd_goto (pc := 38) 12 dX8_addStranger_38 (by decide) ?_
    exact jd_lv (lv2 := [(0, .ref (gb G + t)), (1, .int (x1 + 1))]) [1, 0] rfl h
theorem eX8_addStranger {G : jdG} {n : Nat} {Z : jdL} {I : jdI} {J : jdJ} {K : jdI → jdJ → Prop} {t : Nat} (ht : zTies Z t) (h : (((I t 6) < 8 → Jd G mX8_addStranger (jdFm G (qv Z K)) (n + 1) 0 0 12 [(0, .ref (gb G + t)), (1, .int 0)] [] Z I J) ∧ (¬ (I t 6) < 8 → K I J))) : Cl G mX8_addStranger (n + 1) 0 0 [.ref (gb G + t)] Z I J (qv Z K) :=
  Cl.of (by decide +kernel) (Nat.le_of_ble_eq_true rfl) (rX8_addStranger_0 ht h)
set_option maxRecDepth 4000 in
theorem rX8_acquaint_0 {G : jdG} {n rc rs : Nat} {Z : jdL} {I : jdI} {J : jdJ} {K : jdI → jdJ → Prop} {t : Nat} {x1 : Int32} (ht : zTies Z t) (h : Jd G mX8_acquaint (jdFm G (qv Z K)) (n + 1) rc rs 2 [(0, .ref (gb G + t)), (1, .int x1), (2, .int 0)] [] Z I J) : Jd G mX8_acquaint (jdFm G (qv Z K)) (n + 1) rc rs 0 [(0, .ref (gb G + t)), (1, .int x1)] [] Z I J := by
  refine jd_iconst (pc := 0) (v := 0) dX8_acquaint_0 (by decide) ?_
  refine jd_istore_n (pc := 1) [(2, .int 0), (0, .ref (gb G + t)), (1, .int x1)] dX8_acquaint_1 rfl (by decide) rfl ?_
  exact jd_lv (lv2 := [(0, .ref (gb G + t)), (1, .int x1), (2, .int 0)]) [1, 2, 0] rfl h
set_option maxRecDepth 4000 in
theorem rX8_acquaint_2 {G : jdG} {n rc rs : Nat} {Z : jdL} {I : jdI} {J : jdJ} {K : jdI → jdJ → Prop} {t : Nat} {x1 : Int32} {x2 : Int32} (ht : zTies Z t) (h : (((I t 6) ≤ x2 → Cl G mX8_list n 0 0 [.ref (gb G + t)] Z I J (qv Z (fun I1 J1 => K I1 J1))) ∧ (¬ (I t 6) ≤ x2 → ((((x1 >>> (x2 &&& 31)) &&& 1) = 0 → Jd G mX8_acquaint (jdFm G (qv Z K)) (n + 1) rc rs 2 [(0, .ref (gb G + t)), (1, .int x1), (2, .int (x2 + 1))] [] Z I J) ∧ (¬ ((x1 >>> (x2 &&& 31)) &&& 1) = 0 → (vp_in x2 8 ∧ (vp_in x2 8 ∧ Jd G mX8_acquaint (jdFm G (qv Z K)) (n + 1) rc rs 2 [(0, .ref (gb G + t)), (1, .int x1), (2, .int (x2 + 1))] [] Z (uI I (t + 1) (Int32.toNatClampNeg x2) ((I (t + 1) (Int32.toNatClampNeg x2)) &&& (x1 ^^^ (-1)))) J))))))) : Jd G mX8_acquaint (jdFm G (qv Z K)) (n + 1) rc rs 2 [(0, .ref (gb G + t)), (1, .int x1), (2, .int x2)] [] Z I J := by
  refine jd_iload_n (pc := 2) 2 dX8_acquaint_2 rfl rfl ?_
  refine jd_aload_n (pc := 3) 0 dX8_acquaint_3 rfl rfl ?_
  refine jd_getI (pc := 4) (ci := 7) (k := 6) gX8_36 ht.1 rfl dX8_acquaint_4 ?_
  refine jd_icmp_ge (pc := 7) 36 dX8_acquaint_7 (by decide) (fun hc => ?_) (fun hc => ?_)
  · have h := h.1 hc
    refine jd_aload_n (pc := 36) 0 dX8_acquaint_36 rfl rfl ?_
    refine jd_callVv (pc := 37) (M2 := mX8_list) (id := t) (ci := 7) (T := TX8) (N := 11) (av := []) kX8_list sX8_list rfl ht.1 lX8_46 rfl rfl (Nat.le_of_ble_eq_true rfl) dX8_acquaint_37 h ?_
    intro I1 J1 h
    exact jd_vretK (pc := 40) rfl dX8_acquaint_40 h
  · have h := h.2 hc
    refine jd_iload_n (pc := 10) 1 dX8_acquaint_10 rfl rfl ?_
    refine jd_iload_n (pc := 11) 2 dX8_acquaint_11 rfl rfl ?_
    refine jd_ishr (pc := 12) dX8_acquaint_12 ?_
    refine jd_iconst (pc := 13) (v := 1) dX8_acquaint_13 (by decide) ?_
    refine jd_iand (pc := 14) dX8_acquaint_14 ?_
    refine jd_if_eq (pc := 15) 30 dX8_acquaint_15 (by decide) (fun hc => ?_) (fun hc => ?_)
    · have h := h.1 hc
      refine jd_iinc (pc := 30) (v := (x2 + 1)) 2 [(2, .int (x2 + 1)), (0, .ref (gb G + t)), (1, .int x1)] dX8_acquaint_30 rfl rfl (by decide) rfl ?_
      refine jd_goto (pc := 33) 2 dX8_acquaint_33 (by decide) ?_
      exact jd_lv (lv2 := [(0, .ref (gb G + t)), (1, .int x1), (2, .int (x2 + 1))]) [1, 2, 0] rfl h
    · have h := h.2 hc
      refine jd_aload_n (pc := 18) 0 dX8_acquaint_18 rfl rfl ?_
      refine jd_getR (pc := 19) (ci := 7) (k := 0) (r := (t + 1)) gX8_11 ht.1 rfl (zTies_p0 ht) dX8_acquaint_19 ?_
      refine jd_iload_n (pc := 22) 2 dX8_acquaint_22 rfl rfl ?_
      refine jd_dup2 (pc := 23) dX8_acquaint_23 rfl rfl ?_
      obtain ⟨hv3, h⟩ := h
      refine jd_iald (pc := 24) (len := 8) (zTies_a0 ht) hv3 dX8_acquaint_24 ?_
      refine jd_iload_n (pc := 25) 1 dX8_acquaint_25 rfl rfl ?_
      refine jd_iconst (pc := 26) (v := (-1)) dX8_acquaint_26 (by decide) ?_
      refine jd_ixor (pc := 27) dX8_acquaint_27 ?_
      refine jd_iand (pc := 28) dX8_acquaint_28 ?_
      obtain ⟨hv4, h⟩ := h
      refine jd_iast (pc := 29) (len := 8) (zTies_a0 ht) hv4 dX8_acquaint_29 ?_
      refine jd_iinc (pc := 30) (v := (x2 + 1)) 2 [(2, .int (x2 + 1)), (0, .ref (gb G + t)), (1, .int x1)] dX8_acquaint_30 rfl rfl (by decide) rfl ?_
      refine jd_goto (pc := 33) 2 dX8_acquaint_33 (by decide) ?_
      exact jd_lv (lv2 := [(0, .ref (gb G + t)), (1, .int x1), (2, .int (x2 + 1))]) [1, 2, 0] rfl h
theorem eX8_acquaint {G : jdG} {n : Nat} {Z : jdL} {I : jdI} {J : jdJ} {K : jdI → jdJ → Prop} {t : Nat} {x1 : Int32} (ht : zTies Z t) (h : Jd G mX8_acquaint (jdFm G (qv Z K)) (n + 1) 0 0 2 [(0, .ref (gb G + t)), (1, .int x1), (2, .int 0)] [] Z I J) : Cl G mX8_acquaint (n + 1) 0 0 [.ref (gb G + t), .int x1] Z I J (qv Z K) :=
  Cl.of (by decide +kernel) (Nat.le_of_ble_eq_true rfl) (rX8_acquaint_0 ht h)
set_option maxRecDepth 4000 in
theorem rX8_everybody_0 {G : jdG} {n rc rs : Nat} {Z : jdL} {I : jdI} {J : jdJ} {K : Int32 → jdI → jdJ → Prop} {t : Nat} (ht : zTies Z t) (h : K ((1 <<< ((I t 6) &&& 31)) - 1) I J) : Jd G mX8_everybody (jdFm G (qi Z K)) n rc rs 0 [(0, .ref (gb G + t))] [] Z I J := by
  refine jd_iconst (pc := 0) (v := 1) dX8_everybody_0 (by decide) ?_
  refine jd_aload_n (pc := 1) 0 dX8_everybody_1 rfl rfl ?_
  refine jd_getI (pc := 2) (ci := 7) (k := 6) gX8_36 ht.1 rfl dX8_everybody_2 ?_
  refine jd_ishl (pc := 5) dX8_everybody_5 ?_
  refine jd_iconst (pc := 6) (v := 1) dX8_everybody_6 (by decide) ?_
  refine jd_isub (pc := 7) dX8_everybody_7 ?_
  exact jd_iretK (pc := 8) rfl rfl dX8_everybody_8 h
theorem eX8_everybody {G : jdG} {n : Nat} {Z : jdL} {I : jdI} {J : jdJ} {K : Int32 → jdI → jdJ → Prop} {t : Nat} (ht : zTies Z t) (h : K ((1 <<< ((I t 6) &&& 31)) - 1) I J) : Cl G mX8_everybody (n) 0 0 [.ref (gb G + t)] Z I J (qi Z K) :=
  Cl.of (by decide +kernel) (Nat.le_of_ble_eq_true rfl) (rX8_everybody_0 ht h)
set_option maxRecDepth 4000 in
theorem rX8_list_0 {G : jdG} {n rc rs : Nat} {Z : jdL} {I : jdI} {J : jdJ} {K : jdI → jdJ → Prop} {t : Nat} (ht : zTies Z t) (h : Cl G mX8_everybody n 0 0 [.ref (gb G + t)] Z (uI (uI I t 8 0) t 10 0) J (qi Z (fun v2 I1 J1 => Cl G mX8_gather n 0 0 [.ref (gb G + t), .int 0, .int v2, .int (I1 t 7)] Z I1 J1 (qv Z (fun I3 J3 => K I3 J3))))) : Jd G mX8_list (jdFm G (qv Z K)) (n + 1) rc rs 0 [(0, .ref (gb G + t))] [] Z I J := by
  refine jd_aload_n (pc := 0) 0 dX8_list_0 rfl rfl ?_
  refine jd_iconst (pc := 1) (v := 0) dX8_list_1 (by decide) ?_
  refine jd_putI (pc := 2) (ci := 7) (k := 8) pX8_53 ht.1 rfl rfl rfl dX8_list_2 ?_
  refine jd_aload_n (pc := 5) 0 dX8_list_5 rfl rfl ?_
  refine jd_iconst (pc := 6) (v := 0) dX8_list_6 (by decide) ?_
  refine jd_putI (pc := 7) (ci := 7) (k := 10) pX8_56 ht.1 rfl (by decide) (by decide) dX8_list_7 ?_
  refine jd_aload_n (pc := 10) 0 dX8_list_10 rfl rfl ?_
  refine jd_iconst (pc := 11) (v := 0) dX8_list_11 (by decide) ?_
  refine jd_aload_n (pc := 12) 0 dX8_list_12 rfl rfl ?_
  refine jd_callVi (pc := 13) (M2 := mX8_everybody) (id := t) (ci := 7) (T := TX8) (N := 11) (av := []) kX8_everybody sX8_everybody rfl ht.1 lX8_49 rfl rfl (Nat.le_of_ble_eq_true rfl) dX8_list_13 h ?_
  intro v2 I1 J1 h
  refine jd_aload_n (pc := 16) 0 dX8_list_16 rfl rfl ?_
  refine jd_getI (pc := 17) (ci := 7) (k := 7) gX8_40 ht.1 rfl dX8_list_17 ?_
  refine jd_callVv (pc := 20) (M2 := mX8_gather) (id := t) (ci := 7) (T := TX8) (N := 11) (av := [.int 0, .int v2, .int (I1 t 7)]) kX8_gather sX8_gather rfl ht.1 lX8_60 rfl rfl (Nat.le_of_ble_eq_true rfl) dX8_list_20 h ?_
  intro I3 J3 h
  exact jd_vretK (pc := 23) rfl dX8_list_23 h
theorem eX8_list {G : jdG} {n : Nat} {Z : jdL} {I : jdI} {J : jdJ} {K : jdI → jdJ → Prop} {t : Nat} (ht : zTies Z t) (h : Cl G mX8_everybody n 0 0 [.ref (gb G + t)] Z (uI (uI I t 8 0) t 10 0) J (qi Z (fun v2 I1 J1 => Cl G mX8_gather n 0 0 [.ref (gb G + t), .int 0, .int v2, .int (I1 t 7)] Z I1 J1 (qv Z (fun I3 J3 => K I3 J3))))) : Cl G mX8_list (n + 1) 0 0 [.ref (gb G + t)] Z I J (qv Z K) :=
  Cl.of (by decide +kernel) (Nat.le_of_ble_eq_true rfl) (rX8_list_0 ht h)
set_option maxRecDepth 4000 in
theorem rX8_gather_0 {G : jdG} {n rc rs : Nat} {Z : jdL} {I : jdI} {J : jdJ} {K : jdI → jdJ → Prop} {t : Nat} {x1 : Int32} {x2 : Int32} {x3 : Int32} (ht : zTies Z t) (h : ((0 < x3 → Jd G mX8_gather (jdFm G (qv Z K)) (n + 1) rc rs 37 [(0, .ref (gb G + t)), (1, .int x1), (2, .int x2), (3, .int x3), (4, .int 0)] [] Z I J) ∧ (¬ 0 < x3 → ((70 ≤ (I t 8) → K I J) ∧ (¬ 70 ≤ (I t 8) → (vp_in (I t 8) 70 ∧ K (uI (uI I (t + 3) (Int32.toNatClampNeg (I t 8)) x1) t 8 ((I t 8) + 1)) J)))))) : Jd G mX8_gather (jdFm G (qv Z K)) (n + 1) rc rs 0 [(0, .ref (gb G + t)), (1, .int x1), (2, .int x2), (3, .int x3)] [] Z I J := by
  refine jd_iload_n (pc := 0) 3 dX8_gather_0 rfl rfl ?_
  refine jd_if_gt (pc := 1) 34 dX8_gather_1 (by decide) (fun hc => ?_) (fun hc => ?_)
  · have h := h.1 hc
    refine jd_iconst (pc := 34) (v := 0) dX8_gather_34 (by decide) ?_
    refine jd_istore (pc := 35) [(4, .int 0), (0, .ref (gb G + t)), (1, .int x1), (2, .int x2), (3, .int x3)] dX8_gather_35 (by decide) rfl ?_
    exact jd_lv (lv2 := [(0, .ref (gb G + t)), (1, .int x1), (2, .int x2), (3, .int x3), (4, .int 0)]) [1, 2, 3, 4, 0] rfl h
  · have h := h.2 hc
    refine jd_aload_n (pc := 4) 0 dX8_gather_4 rfl rfl ?_
    refine jd_getI (pc := 5) (ci := 7) (k := 8) gX8_53 ht.1 rfl dX8_gather_5 ?_
    refine jd_bipush (pc := 8) (v := 70) dX8_gather_8 (by decide) ?_
    refine jd_icmp_ge (pc := 10) 33 dX8_gather_10 (by decide) (fun hc => ?_) (fun hc => ?_)
    · have h := h.1 hc
      exact jd_vretK (pc := 33) rfl dX8_gather_33 h
    · have h := h.2 hc
      refine jd_aload_n (pc := 13) 0 dX8_gather_13 rfl rfl ?_
      refine jd_getR (pc := 14) (ci := 7) (k := 2) (r := (t + 3)) gX8_18 ht.1 rfl (zTies_p2 ht) dX8_gather_14 ?_
      refine jd_aload_n (pc := 17) 0 dX8_gather_17 rfl rfl ?_
      refine jd_getI (pc := 18) (ci := 7) (k := 8) gX8_53 ht.1 rfl dX8_gather_18 ?_
      refine jd_iload_n (pc := 21) 1 dX8_gather_21 rfl rfl ?_
      obtain ⟨hv1, h⟩ := h
      refine jd_iast (pc := 22) (len := 70) (zTies_a2 ht) hv1 dX8_gather_22 ?_
      refine jd_aload_n (pc := 23) 0 dX8_gather_23 rfl rfl ?_
      refine jd_dup (pc := 24) dX8_gather_24 rfl ?_
      refine jd_getIe (pc := 25) (ci := 7) (k := 8) (e := (I t 8)) (uI_ne (by omega) rfl) gX8_53 ht.1 rfl dX8_gather_25 ?_
      refine jd_iconst (pc := 28) (v := 1) dX8_gather_28 (by decide) ?_
      refine jd_iadd (pc := 29) dX8_gather_29 ?_
      refine jd_putI (pc := 30) (ci := 7) (k := 8) pX8_53 ht.1 rfl rfl rfl dX8_gather_30 ?_
      exact jd_vretK (pc := 33) rfl dX8_gather_33 h
set_option maxRecDepth 4000 in
theorem rX8_gather_37 {G : jdG} {n rc rs : Nat} {Z : jdL} {I : jdI} {J : jdJ} {K : jdI → jdJ → Prop} {t : Nat} {x1 : Int32} {x2 : Int32} {x3 : Int32} {x4 : Int32} (ht : zTies Z t) (h : (((I t 6) ≤ x4 → K I J) ∧ (¬ (I t 6) ≤ x4 → ((((x2 >>> (x4 &&& 31)) &&& 1) = 0 → Jd G mX8_gather (jdFm G (qv Z K)) (n + 1) rc rs 37 [(0, .ref (gb G + t)), (1, .int x1), (2, .int x2), (3, .int x3), (4, .int (x4 + 1))] [] Z I J) ∧ (¬ ((x2 >>> (x4 &&& 31)) &&& 1) = 0 → (vp_in x4 8 ∧ Cl G mX8_gather n 0 0 [.ref (gb G + t), .int (x1 ||| (1 <<< (x4 &&& 31))), .int ((x2 &&& (I (t + 1) (Int32.toNatClampNeg x4))) &&& (-(2 <<< (x4 &&& 31)))), .int (x3 - 1)] Z I J (qv Z (fun I2 J2 => Jd G mX8_gather (jdFm G (qv Z K)) (n + 1) rc rs 37 [(0, .ref (gb G + t)), (1, .int x1), (2, .int x2), (3, .int x3), (4, .int (x4 + 1))] [] Z I2 J2)))))))) : Jd G mX8_gather (jdFm G (qv Z K)) (n + 1) rc rs 37 [(0, .ref (gb G + t)), (1, .int x1), (2, .int x2), (3, .int x3), (4, .int x4)] [] Z I J := by
  refine jd_iload (pc := 37) 4 dX8_gather_37 rfl ?_
  refine jd_aload_n (pc := 39) 0 dX8_gather_39 rfl rfl ?_
  refine jd_getI (pc := 40) (ci := 7) (k := 6) gX8_36 ht.1 rfl dX8_gather_40 ?_
  refine jd_icmp_ge (pc := 43) 93 dX8_gather_43 (by decide) (fun hc => ?_) (fun hc => ?_)
  · have h := h.1 hc
    exact jd_vretK (pc := 93) rfl dX8_gather_93 h
  · have h := h.2 hc
    refine jd_iload_n (pc := 46) 2 dX8_gather_46 rfl rfl ?_
    refine jd_iload (pc := 47) 4 dX8_gather_47 rfl ?_
    refine jd_ishr (pc := 49) dX8_gather_49 ?_
    refine jd_iconst (pc := 50) (v := 1) dX8_gather_50 (by decide) ?_
    refine jd_iand (pc := 51) dX8_gather_51 ?_
    refine jd_if_eq (pc := 52) 87 dX8_gather_52 (by decide) (fun hc => ?_) (fun hc => ?_)
    · have h := h.1 hc
      refine jd_iinc (pc := 87) (v := (x4 + 1)) 4 [(4, .int (x4 + 1)), (0, .ref (gb G + t)), (1, .int x1), (2, .int x2), (3, .int x3)] dX8_gather_87 rfl rfl (by decide) rfl ?_
      refine jd_goto (pc := 90) 37 dX8_gather_90 (by decide) ?_
      exact jd_lv (lv2 := [(0, .ref (gb G + t)), (1, .int x1), (2, .int x2), (3, .int x3), (4, .int (x4 + 1))]) [1, 2, 3, 4, 0] rfl h
    · have h := h.2 hc
      refine jd_iconst (pc := 55) (v := 2) dX8_gather_55 (by decide) ?_
      refine jd_iload (pc := 56) 4 dX8_gather_56 rfl ?_
      refine jd_ishl (pc := 58) dX8_gather_58 ?_
      refine jd_ineg (pc := 59) dX8_gather_59 ?_
      refine jd_istore (pc := 60) [(5, .int (-(2 <<< (x4 &&& 31)))), (0, .ref (gb G + t)), (1, .int x1), (2, .int x2), (3, .int x3), (4, .int x4)] dX8_gather_60 (by decide) rfl ?_
      refine jd_aload_n (pc := 62) 1 dX8_gather_62 rfl rfl ?_
      refine jd_iload_n (pc := 63) 2 dX8_gather_63 rfl rfl ?_
      refine jd_iconst (pc := 64) (v := 1) dX8_gather_64 (by decide) ?_
      refine jd_iload (pc := 65) 5 dX8_gather_65 rfl ?_
      refine jd_ishl (pc := 67) dX8_gather_67 ?_
      refine jd_ior (pc := 68) dX8_gather_68 ?_
      refine jd_iload_n (pc := 69) 3 dX8_gather_69 rfl rfl ?_
      refine jd_aload_n (pc := 70) 1 dX8_gather_70 rfl rfl ?_
      refine jd_getR (pc := 71) (ci := 7) (k := 0) (r := (t + 1)) gX8_11 ht.1 rfl (zTies_p0 ht) dX8_gather_71 ?_
      refine jd_iload (pc := 74) 5 dX8_gather_74 rfl ?_
      obtain ⟨hv1, h⟩ := h
      refine jd_iald (pc := 76) (len := 8) (zTies_a0 ht) hv1 dX8_gather_76 ?_
      refine jd_iand (pc := 77) dX8_gather_77 ?_
      refine jd_iload (pc := 78) 0 dX8_gather_78 rfl ?_
      refine jd_iand (pc := 80) dX8_gather_80 ?_
      refine jd_iload_n (pc := 81) 4 dX8_gather_81 rfl rfl ?_
      refine jd_iconst (pc := 82) (v := 1) dX8_gather_82 (by decide) ?_
      refine jd_isub (pc := 83) dX8_gather_83 ?_
      refine jd_callVv (pc := 84) (M2 := mX8_gather) (id := t) (ci := 7) (T := TX8) (N := 11) (av := [.int (x1 ||| (1 <<< (x4 &&& 31))), .int ((x2 &&& (I (t + 1) (Int32.toNatClampNeg x4))) &&& (-(2 <<< (x4 &&& 31)))), .int (x3 - 1)]) kX8_gather sX8_gather rfl ht.1 lX8_60 rfl rfl (Nat.le_of_ble_eq_true rfl) dX8_gather_84 h ?_
      intro I2 J2 h
      refine jd_iinc (pc := 87) (v := (x4 + 1)) 5 [(4, .int (x4 + 1)), (5, .int (-(2 <<< (x4 &&& 31)))), (0, .ref (gb G + t)), (1, .int x1), (2, .int x2), (3, .int x3)] dX8_gather_87 rfl rfl (by decide) rfl ?_
      refine jd_goto (pc := 90) 37 dX8_gather_90 (by decide) ?_
      exact jd_lv (lv2 := [(0, .ref (gb G + t)), (1, .int x1), (2, .int x2), (3, .int x3), (4, .int (x4 + 1))]) [2, 3, 4, 5, 0] rfl h
theorem eX8_gather {G : jdG} {n : Nat} {Z : jdL} {I : jdI} {J : jdJ} {K : jdI → jdJ → Prop} {t : Nat} {x1 : Int32} {x2 : Int32} {x3 : Int32} (ht : zTies Z t) (h : ((0 < x3 → Jd G mX8_gather (jdFm G (qv Z K)) (n + 1) 0 0 37 [(0, .ref (gb G + t)), (1, .int x1), (2, .int x2), (3, .int x3), (4, .int 0)] [] Z I J) ∧ (¬ 0 < x3 → ((70 ≤ (I t 8) → K I J) ∧ (¬ 70 ≤ (I t 8) → (vp_in (I t 8) 70 ∧ K (uI (uI I (t + 3) (Int32.toNatClampNeg (I t 8)) x1) t 8 ((I t 8) + 1)) J)))))) : Cl G mX8_gather (n + 1) 0 0 [.ref (gb G + t), .int x1, .int x2, .int x3] Z I J (qv Z K) :=
  Cl.of (by decide +kernel) (Nat.le_of_ble_eq_true rfl) (rX8_gather_0 ht h)
set_option maxRecDepth 4000 in
theorem rX8_isOne_0 {G : jdG} {n rc rs : Nat} {Z : jdL} {I : jdI} {J : jdJ} {K : Int32 → jdI → jdJ → Prop} {t : Nat} {x1 : Int32} (ht : zTies Z t) (h : Jd G mX8_isOne (jdFm G (qi Z K)) n rc rs 2 [(0, .ref (gb G + t)), (1, .int x1), (2, .int 0)] [] Z I J) : Jd G mX8_isOne (jdFm G (qi Z K)) n rc rs 0 [(0, .ref (gb G + t)), (1, .int x1)] [] Z I J := by
  refine jd_iconst (pc := 0) (v := 0) dX8_isOne_0 (by decide) ?_
  refine jd_istore_n (pc := 1) [(2, .int 0), (0, .ref (gb G + t)), (1, .int x1)] dX8_isOne_1 rfl (by decide) rfl ?_
  exact jd_lv (lv2 := [(0, .ref (gb G + t)), (1, .int x1), (2, .int 0)]) [1, 2, 0] rfl h
set_option maxRecDepth 4000 in
theorem rX8_isOne_2 {G : jdG} {n rc rs : Nat} {Z : jdL} {I : jdI} {J : jdJ} {K : Int32 → jdI → jdJ → Prop} {t : Nat} {x1 : Int32} {x2 : Int32} (ht : zTies Z t) (h : (((I t 8) ≤ x2 → K 0 I J) ∧ (¬ (I t 8) ≤ x2 → (vp_in x2 70 ∧ ((¬ (I (t + 3) (Int32.toNatClampNeg x2)) = x1 → Jd G mX8_isOne (jdFm G (qi Z K)) n rc rs 2 [(0, .ref (gb G + t)), (1, .int x1), (2, .int (x2 + 1))] [] Z I J) ∧ ((I (t + 3) (Int32.toNatClampNeg x2)) = x1 → K 1 I J)))))) : Jd G mX8_isOne (jdFm G (qi Z K)) n rc rs 2 [(0, .ref (gb G + t)), (1, .int x1), (2, .int x2)] [] Z I J := by
  refine jd_iload_n (pc := 2) 2 dX8_isOne_2 rfl rfl ?_
  refine jd_aload_n (pc := 3) 0 dX8_isOne_3 rfl rfl ?_
  refine jd_getI (pc := 4) (ci := 7) (k := 8) gX8_53 ht.1 rfl dX8_isOne_4 ?_
  refine jd_icmp_ge (pc := 7) 28 dX8_isOne_7 (by decide) (fun hc => ?_) (fun hc => ?_)
  · have h := h.1 hc
    refine jd_iconst (pc := 28) (v := 0) dX8_isOne_28 (by decide) ?_
    exact jd_iretK (pc := 29) (ty := .boolean) rfl (by decide) dX8_isOne_29 h
  · have h := h.2 hc
    refine jd_aload_n (pc := 10) 0 dX8_isOne_10 rfl rfl ?_
    refine jd_getR (pc := 11) (ci := 7) (k := 2) (r := (t + 3)) gX8_18 ht.1 rfl (zTies_p2 ht) dX8_isOne_11 ?_
    refine jd_iload_n (pc := 14) 2 dX8_isOne_14 rfl rfl ?_
    obtain ⟨hv1, h⟩ := h
    refine jd_iald (pc := 15) (len := 70) (zTies_a2 ht) hv1 dX8_isOne_15 ?_
    refine jd_iload_n (pc := 16) 1 dX8_isOne_16 rfl rfl ?_
    refine jd_icmp_ne (pc := 17) 22 dX8_isOne_17 (by decide) (fun hc => ?_) (fun hc => ?_)
    · have h := h.1 hc
      refine jd_iinc (pc := 22) (v := (x2 + 1)) 2 [(2, .int (x2 + 1)), (0, .ref (gb G + t)), (1, .int x1)] dX8_isOne_22 rfl rfl (by decide) rfl ?_
      refine jd_goto (pc := 25) 2 dX8_isOne_25 (by decide) ?_
      exact jd_lv (lv2 := [(0, .ref (gb G + t)), (1, .int x1), (2, .int (x2 + 1))]) [1, 2, 0] rfl h
    · have h := h.2 hc
      refine jd_iconst (pc := 20) (v := 1) dX8_isOne_20 (by decide) ?_
      exact jd_iretK (pc := 21) (ty := .boolean) rfl (by decide) dX8_isOne_21 h
theorem eX8_isOne {G : jdG} {n : Nat} {Z : jdL} {I : jdI} {J : jdJ} {K : Int32 → jdI → jdJ → Prop} {t : Nat} {x1 : Int32} (ht : zTies Z t) (h : Jd G mX8_isOne (jdFm G (qi Z K)) n 0 0 2 [(0, .ref (gb G + t)), (1, .int x1), (2, .int 0)] [] Z I J) : Cl G mX8_isOne (n) 0 0 [.ref (gb G + t), .int x1] Z I J (qi Z K) :=
  Cl.of (by decide +kernel) (Nat.le_of_ble_eq_true rfl) (rX8_isOne_0 ht h)
set_option maxRecDepth 4000 in
theorem rX8_countIn_0 {G : jdG} {n rc rs : Nat} {Z : jdL} {I : jdI} {J : jdJ} {K : Int32 → jdI → jdJ → Prop} {t : Nat} {x1 : Int32} (ht : zTies Z t) (h : Jd G mX8_countIn (jdFm G (qi Z K)) n rc rs 4 [(0, .ref (gb G + t)), (1, .int x1), (2, .int 0), (3, .int 0)] [] Z I J) : Jd G mX8_countIn (jdFm G (qi Z K)) n rc rs 0 [(0, .ref (gb G + t)), (1, .int x1)] [] Z I J := by
  refine jd_iconst (pc := 0) (v := 0) dX8_countIn_0 (by decide) ?_
  refine jd_istore_n (pc := 1) [(2, .int 0), (0, .ref (gb G + t)), (1, .int x1)] dX8_countIn_1 rfl (by decide) rfl ?_
  refine jd_iconst (pc := 2) (v := 0) dX8_countIn_2 (by decide) ?_
  refine jd_istore_n (pc := 3) [(3, .int 0), (2, .int 0), (0, .ref (gb G + t)), (1, .int x1)] dX8_countIn_3 rfl (by decide) rfl ?_
  exact jd_lv (lv2 := [(0, .ref (gb G + t)), (1, .int x1), (2, .int 0), (3, .int 0)]) [2, 3, 1, 0] rfl h
set_option maxRecDepth 4000 in
theorem rX8_countIn_4 {G : jdG} {n rc rs : Nat} {Z : jdL} {I : jdI} {J : jdJ} {K : Int32 → jdI → jdJ → Prop} {t : Nat} {x1 : Int32} {x2 : Int32} {x3 : Int32} (ht : zTies Z t) (h : (((I t 8) ≤ x3 → K x2 I J) ∧ (¬ (I t 8) ≤ x3 → (vp_in x3 70 ∧ (vp_in x3 70 ∧ ((¬ ((I (t + 3) (Int32.toNatClampNeg x3)) &&& x1) = (I (t + 3) (Int32.toNatClampNeg x3)) → Jd G mX8_countIn (jdFm G (qi Z K)) n rc rs 4 [(0, .ref (gb G + t)), (1, .int x1), (2, .int (x2 + 0)), (3, .int (x3 + 1))] [] Z I J) ∧ (((I (t + 3) (Int32.toNatClampNeg x3)) &&& x1) = (I (t + 3) (Int32.toNatClampNeg x3)) → Jd G mX8_countIn (jdFm G (qi Z K)) n rc rs 4 [(0, .ref (gb G + t)), (1, .int x1), (2, .int (x2 + 1)), (3, .int (x3 + 1))] [] Z I J))))))) : Jd G mX8_countIn (jdFm G (qi Z K)) n rc rs 4 [(0, .ref (gb G + t)), (1, .int x1), (2, .int x2), (3, .int x3)] [] Z I J := by
  refine jd_iload_n (pc := 4) 3 dX8_countIn_4 rfl rfl ?_
  refine jd_aload_n (pc := 5) 0 dX8_countIn_5 rfl rfl ?_
  refine jd_getI (pc := 6) (ci := 7) (k := 8) gX8_53 ht.1 rfl dX8_countIn_6 ?_
  refine jd_icmp_ge (pc := 9) 43 dX8_countIn_9 (by decide) (fun hc => ?_) (fun hc => ?_)
  · have h := h.1 hc
    refine jd_iload_n (pc := 43) 2 dX8_countIn_43 rfl rfl ?_
    exact jd_iretK (pc := 44) rfl rfl dX8_countIn_44 h
  · have h := h.2 hc
    refine jd_iload_n (pc := 12) 2 dX8_countIn_12 rfl rfl ?_
    refine jd_aload_n (pc := 13) 0 dX8_countIn_13 rfl rfl ?_
    refine jd_getR (pc := 14) (ci := 7) (k := 2) (r := (t + 3)) gX8_18 ht.1 rfl (zTies_p2 ht) dX8_countIn_14 ?_
    refine jd_iload_n (pc := 17) 3 dX8_countIn_17 rfl rfl ?_
    obtain ⟨hv1, h⟩ := h
    refine jd_iald (pc := 18) (len := 70) (zTies_a2 ht) hv1 dX8_countIn_18 ?_
    refine jd_iload_n (pc := 19) 1 dX8_countIn_19 rfl rfl ?_
    refine jd_iand (pc := 20) dX8_countIn_20 ?_
    refine jd_aload_n (pc := 21) 0 dX8_countIn_21 rfl rfl ?_
    refine jd_getR (pc := 22) (ci := 7) (k := 2) (r := (t + 3)) gX8_18 ht.1 rfl (zTies_p2 ht) dX8_countIn_22 ?_
    refine jd_iload_n (pc := 25) 3 dX8_countIn_25 rfl rfl ?_
    obtain ⟨hv2, h⟩ := h
    refine jd_iald (pc := 26) (len := 70) (zTies_a2 ht) hv2 dX8_countIn_26 ?_
    refine jd_icmp_ne (pc := 27) 34 dX8_countIn_27 (by decide) (fun hc => ?_) (fun hc => ?_)
    · have h := h.1 hc
      refine jd_iconst (pc := 34) (v := 0) dX8_countIn_34 (by decide) ?_
      refine jd_iadd (pc := 35) dX8_countIn_35 ?_
      refine jd_istore_n (pc := 36) [(2, .int (x2 + 0)), (0, .ref (gb G + t)), (1, .int x1), (3, .int x3)] dX8_countIn_36 rfl (by decide) rfl ?_
      refine jd_iinc (pc := 37) (v := (x3 + 1)) 3 [(3, .int (x3 + 1)), (2, .int (x2 + 0)), (0, .ref (gb G + t)), (1, .int x1)] dX8_countIn_37 rfl rfl (by decide) rfl ?_
      refine jd_goto (pc := 40) 4 dX8_countIn_40 (by decide) ?_
      exact jd_lv (lv2 := [(0, .ref (gb G + t)), (1, .int x1), (2, .int (x2 + 0)), (3, .int (x3 + 1))]) [2, 3, 1, 0] rfl h
    · have h := h.2 hc
      refine jd_iconst (pc := 30) (v := 1) dX8_countIn_30 (by decide) ?_
      refine jd_goto (pc := 31) 35 dX8_countIn_31 (by decide) ?_
      refine jd_iadd (pc := 35) dX8_countIn_35 ?_
      refine jd_istore_n (pc := 36) [(2, .int (x2 + 1)), (0, .ref (gb G + t)), (1, .int x1), (3, .int x3)] dX8_countIn_36 rfl (by decide) rfl ?_
      refine jd_iinc (pc := 37) (v := (x3 + 1)) 3 [(3, .int (x3 + 1)), (2, .int (x2 + 1)), (0, .ref (gb G + t)), (1, .int x1)] dX8_countIn_37 rfl rfl (by decide) rfl ?_
      refine jd_goto (pc := 40) 4 dX8_countIn_40 (by decide) ?_
      exact jd_lv (lv2 := [(0, .ref (gb G + t)), (1, .int x1), (2, .int (x2 + 1)), (3, .int (x3 + 1))]) [2, 3, 1, 0] rfl h
theorem eX8_countIn {G : jdG} {n : Nat} {Z : jdL} {I : jdI} {J : jdJ} {K : Int32 → jdI → jdJ → Prop} {t : Nat} {x1 : Int32} (ht : zTies Z t) (h : Jd G mX8_countIn (jdFm G (qi Z K)) n 0 0 4 [(0, .ref (gb G + t)), (1, .int x1), (2, .int 0), (3, .int 0)] [] Z I J) : Cl G mX8_countIn (n) 0 0 [.ref (gb G + t), .int x1] Z I J (qi Z K) :=
  Cl.of (by decide +kernel) (Nat.le_of_ble_eq_true rfl) (rX8_countIn_0 ht h)
set_option maxRecDepth 4000 in
theorem rX8_countWith_0 {G : jdG} {n rc rs : Nat} {Z : jdL} {I : jdI} {J : jdJ} {K : Int32 → jdI → jdJ → Prop} {t : Nat} {x1 : Int32} (ht : zTies Z t) (h : Jd G mX8_countWith (jdFm G (qi Z K)) n rc rs 4 [(0, .ref (gb G + t)), (1, .int x1), (2, .int 0), (3, .int 0)] [] Z I J) : Jd G mX8_countWith (jdFm G (qi Z K)) n rc rs 0 [(0, .ref (gb G + t)), (1, .int x1)] [] Z I J := by
  refine jd_iconst (pc := 0) (v := 0) dX8_countWith_0 (by decide) ?_
  refine jd_istore_n (pc := 1) [(2, .int 0), (0, .ref (gb G + t)), (1, .int x1)] dX8_countWith_1 rfl (by decide) rfl ?_
  refine jd_iconst (pc := 2) (v := 0) dX8_countWith_2 (by decide) ?_
  refine jd_istore_n (pc := 3) [(3, .int 0), (2, .int 0), (0, .ref (gb G + t)), (1, .int x1)] dX8_countWith_3 rfl (by decide) rfl ?_
  exact jd_lv (lv2 := [(0, .ref (gb G + t)), (1, .int x1), (2, .int 0), (3, .int 0)]) [2, 3, 1, 0] rfl h
set_option maxRecDepth 4000 in
theorem rX8_countWith_4 {G : jdG} {n rc rs : Nat} {Z : jdL} {I : jdI} {J : jdJ} {K : Int32 → jdI → jdJ → Prop} {t : Nat} {x1 : Int32} {x2 : Int32} {x3 : Int32} (ht : zTies Z t) (h : (((I t 8) ≤ x3 → K x2 I J) ∧ (¬ (I t 8) ≤ x3 → (vp_in x3 70 ∧ ((¬ ((I (t + 3) (Int32.toNatClampNeg x3)) &&& x1) = x1 → Jd G mX8_countWith (jdFm G (qi Z K)) n rc rs 4 [(0, .ref (gb G + t)), (1, .int x1), (2, .int (x2 + 0)), (3, .int (x3 + 1))] [] Z I J) ∧ (((I (t + 3) (Int32.toNatClampNeg x3)) &&& x1) = x1 → Jd G mX8_countWith (jdFm G (qi Z K)) n rc rs 4 [(0, .ref (gb G + t)), (1, .int x1), (2, .int (x2 + 1)), (3, .int (x3 + 1))] [] Z I J)))))) : Jd G mX8_countWith (jdFm G (qi Z K)) n rc rs 4 [(0, .ref (gb G + t)), (1, .int x1), (2, .int x2), (3, .int x3)] [] Z I J := by
  refine jd_iload_n (pc := 4) 3 dX8_countWith_4 rfl rfl ?_
  refine jd_aload_n (pc := 5) 0 dX8_countWith_5 rfl rfl ?_
  refine jd_getI (pc := 6) (ci := 7) (k := 8) gX8_53 ht.1 rfl dX8_countWith_6 ?_
  refine jd_icmp_ge (pc := 9) 38 dX8_countWith_9 (by decide) (fun hc => ?_) (fun hc => ?_)
  · have h := h.1 hc
    refine jd_iload_n (pc := 38) 2 dX8_countWith_38 rfl rfl ?_
    exact jd_iretK (pc := 39) rfl rfl dX8_countWith_39 h
  · have h := h.2 hc
    refine jd_iload_n (pc := 12) 2 dX8_countWith_12 rfl rfl ?_
    refine jd_aload_n (pc := 13) 0 dX8_countWith_13 rfl rfl ?_
    refine jd_getR (pc := 14) (ci := 7) (k := 2) (r := (t + 3)) gX8_18 ht.1 rfl (zTies_p2 ht) dX8_countWith_14 ?_
    refine jd_iload_n (pc := 17) 3 dX8_countWith_17 rfl rfl ?_
    obtain ⟨hv1, h⟩ := h
    refine jd_iald (pc := 18) (len := 70) (zTies_a2 ht) hv1 dX8_countWith_18 ?_
    refine jd_iload_n (pc := 19) 1 dX8_countWith_19 rfl rfl ?_
    refine jd_iand (pc := 20) dX8_countWith_20 ?_
    refine jd_iload_n (pc := 21) 1 dX8_countWith_21 rfl rfl ?_
    refine jd_icmp_ne (pc := 22) 29 dX8_countWith_22 (by decide) (fun hc => ?_) (fun hc => ?_)
    · have h := h.1 hc
      refine jd_iconst (pc := 29) (v := 0) dX8_countWith_29 (by decide) ?_
      refine jd_iadd (pc := 30) dX8_countWith_30 ?_
      refine jd_istore_n (pc := 31) [(2, .int (x2 + 0)), (0, .ref (gb G + t)), (1, .int x1), (3, .int x3)] dX8_countWith_31 rfl (by decide) rfl ?_
      refine jd_iinc (pc := 32) (v := (x3 + 1)) 3 [(3, .int (x3 + 1)), (2, .int (x2 + 0)), (0, .ref (gb G + t)), (1, .int x1)] dX8_countWith_32 rfl rfl (by decide) rfl ?_
      refine jd_goto (pc := 35) 4 dX8_countWith_35 (by decide) ?_
      exact jd_lv (lv2 := [(0, .ref (gb G + t)), (1, .int x1), (2, .int (x2 + 0)), (3, .int (x3 + 1))]) [2, 3, 1, 0] rfl h
    · have h := h.2 hc
      refine jd_iconst (pc := 25) (v := 1) dX8_countWith_25 (by decide) ?_
      refine jd_goto (pc := 26) 30 dX8_countWith_26 (by decide) ?_
      refine jd_iadd (pc := 30) dX8_countWith_30 ?_
      refine jd_istore_n (pc := 31) [(2, .int (x2 + 1)), (0, .ref (gb G + t)), (1, .int x1), (3, .int x3)] dX8_countWith_31 rfl (by decide) rfl ?_
      refine jd_iinc (pc := 32) (v := (x3 + 1)) 3 [(3, .int (x3 + 1)), (2, .int (x2 + 1)), (0, .ref (gb G + t)), (1, .int x1)] dX8_countWith_32 rfl rfl (by decide) rfl ?_
      refine jd_goto (pc := 35) 4 dX8_countWith_35 (by decide) ?_
      exact jd_lv (lv2 := [(0, .ref (gb G + t)), (1, .int x1), (2, .int (x2 + 1)), (3, .int (x3 + 1))]) [2, 3, 1, 0] rfl h
theorem eX8_countWith {G : jdG} {n : Nat} {Z : jdL} {I : jdI} {J : jdJ} {K : Int32 → jdI → jdJ → Prop} {t : Nat} {x1 : Int32} (ht : zTies Z t) (h : Jd G mX8_countWith (jdFm G (qi Z K)) n 0 0 4 [(0, .ref (gb G + t)), (1, .int x1), (2, .int 0), (3, .int 0)] [] Z I J) : Cl G mX8_countWith (n) 0 0 [.ref (gb G + t), .int x1] Z I J (qi Z K) :=
  Cl.of (by decide +kernel) (Nat.le_of_ble_eq_true rfl) (rX8_countWith_0 ht h)
set_option maxRecDepth 4000 in
theorem rX8_firstIn_0 {G : jdG} {n rc rs : Nat} {Z : jdL} {I : jdI} {J : jdJ} {K : Int32 → jdI → jdJ → Prop} {t : Nat} {x1 : Int32} (ht : zTies Z t) (h : Jd G mX8_firstIn (jdFm G (qi Z K)) n rc rs 2 [(0, .ref (gb G + t)), (1, .int x1), (2, .int 0)] [] Z I J) : Jd G mX8_firstIn (jdFm G (qi Z K)) n rc rs 0 [(0, .ref (gb G + t)), (1, .int x1)] [] Z I J := by
  refine jd_iconst (pc := 0) (v := 0) dX8_firstIn_0 (by decide) ?_
  refine jd_istore_n (pc := 1) [(2, .int 0), (0, .ref (gb G + t)), (1, .int x1)] dX8_firstIn_1 rfl (by decide) rfl ?_
  exact jd_lv (lv2 := [(0, .ref (gb G + t)), (1, .int x1), (2, .int 0)]) [1, 2, 0] rfl h
set_option maxRecDepth 4000 in
theorem rX8_firstIn_2 {G : jdG} {n rc rs : Nat} {Z : jdL} {I : jdI} {J : jdJ} {K : Int32 → jdI → jdJ → Prop} {t : Nat} {x1 : Int32} {x2 : Int32} (ht : zTies Z t) (h : (((I t 8) ≤ x2 → K 0 I J) ∧ (¬ (I t 8) ≤ x2 → (vp_in x2 70 ∧ (vp_in x2 70 ∧ ((¬ ((I (t + 3) (Int32.toNatClampNeg x2)) &&& x1) = (I (t + 3) (Int32.toNatClampNeg x2)) → Jd G mX8_firstIn (jdFm G (qi Z K)) n rc rs 2 [(0, .ref (gb G + t)), (1, .int x1), (2, .int (x2 + 1))] [] Z I J) ∧ (((I (t + 3) (Int32.toNatClampNeg x2)) &&& x1) = (I (t + 3) (Int32.toNatClampNeg x2)) → (vp_in x2 70 ∧ K (I (t + 3) (Int32.toNatClampNeg x2)) I J)))))))) : Jd G mX8_firstIn (jdFm G (qi Z K)) n rc rs 2 [(0, .ref (gb G + t)), (1, .int x1), (2, .int x2)] [] Z I J := by
  refine jd_iload_n (pc := 2) 2 dX8_firstIn_2 rfl rfl ?_
  refine jd_aload_n (pc := 3) 0 dX8_firstIn_3 rfl rfl ?_
  refine jd_getI (pc := 4) (ci := 7) (k := 8) gX8_53 ht.1 rfl dX8_firstIn_4 ?_
  refine jd_icmp_ge (pc := 7) 40 dX8_firstIn_7 (by decide) (fun hc => ?_) (fun hc => ?_)
  · have h := h.1 hc
    refine jd_iconst (pc := 40) (v := 0) dX8_firstIn_40 (by decide) ?_
    exact jd_iretK (pc := 41) rfl rfl dX8_firstIn_41 h
  · have h := h.2 hc
    refine jd_aload_n (pc := 10) 0 dX8_firstIn_10 rfl rfl ?_
    refine jd_getR (pc := 11) (ci := 7) (k := 2) (r := (t + 3)) gX8_18 ht.1 rfl (zTies_p2 ht) dX8_firstIn_11 ?_
    refine jd_iload_n (pc := 14) 2 dX8_firstIn_14 rfl rfl ?_
    obtain ⟨hv1, h⟩ := h
    refine jd_iald (pc := 15) (len := 70) (zTies_a2 ht) hv1 dX8_firstIn_15 ?_
    refine jd_iload_n (pc := 16) 1 dX8_firstIn_16 rfl rfl ?_
    refine jd_iand (pc := 17) dX8_firstIn_17 ?_
    refine jd_aload_n (pc := 18) 0 dX8_firstIn_18 rfl rfl ?_
    refine jd_getR (pc := 19) (ci := 7) (k := 2) (r := (t + 3)) gX8_18 ht.1 rfl (zTies_p2 ht) dX8_firstIn_19 ?_
    refine jd_iload_n (pc := 22) 2 dX8_firstIn_22 rfl rfl ?_
    obtain ⟨hv2, h⟩ := h
    refine jd_iald (pc := 23) (len := 70) (zTies_a2 ht) hv2 dX8_firstIn_23 ?_
    refine jd_icmp_ne (pc := 24) 34 dX8_firstIn_24 (by decide) (fun hc => ?_) (fun hc => ?_)
    · have h := h.1 hc
      refine jd_iinc (pc := 34) (v := (x2 + 1)) 2 [(2, .int (x2 + 1)), (0, .ref (gb G + t)), (1, .int x1)] dX8_firstIn_34 rfl rfl (by decide) rfl ?_
      refine jd_goto (pc := 37) 2 dX8_firstIn_37 (by decide) ?_
      exact jd_lv (lv2 := [(0, .ref (gb G + t)), (1, .int x1), (2, .int (x2 + 1))]) [1, 2, 0] rfl h
    · have h := h.2 hc
      refine jd_aload_n (pc := 27) 0 dX8_firstIn_27 rfl rfl ?_
      refine jd_getR (pc := 28) (ci := 7) (k := 2) (r := (t + 3)) gX8_18 ht.1 rfl (zTies_p2 ht) dX8_firstIn_28 ?_
      refine jd_iload_n (pc := 31) 2 dX8_firstIn_31 rfl rfl ?_
      obtain ⟨hv3, h⟩ := h
      refine jd_iald (pc := 32) (len := 70) (zTies_a2 ht) hv3 dX8_firstIn_32 ?_
      exact jd_iretK (pc := 33) rfl rfl dX8_firstIn_33 h
theorem eX8_firstIn {G : jdG} {n : Nat} {Z : jdL} {I : jdI} {J : jdJ} {K : Int32 → jdI → jdJ → Prop} {t : Nat} {x1 : Int32} (ht : zTies Z t) (h : Jd G mX8_firstIn (jdFm G (qi Z K)) n 0 0 2 [(0, .ref (gb G + t)), (1, .int x1), (2, .int 0)] [] Z I J) : Cl G mX8_firstIn (n) 0 0 [.ref (gb G + t), .int x1] Z I J (qi Z K) :=
  Cl.of (by decide +kernel) (Nat.le_of_ble_eq_true rfl) (rX8_firstIn_0 ht h)
set_option maxRecDepth 4000 in
theorem rX8_mostFrom_0 {G : jdG} {n rc rs : Nat} {Z : jdL} {I : jdI} {J : jdJ} {K : Int32 → jdI → jdJ → Prop} {t : Nat} {x1 : Int32} (ht : zTies Z t) (h : ((¬ (I t 10) = 0 → Cl G mX8_everybody n 0 0 [.ref (gb G + t)] Z I J (qi Z (fun v2 I1 J1 => (vp_in (x1 &&& v2) 256 ∧ K (I1 (t + 5) (Int32.toNatClampNeg (x1 &&& v2))) I1 J1)))) ∧ ((I t 10) = 0 → Cl G mX8_countMost n 0 0 [.ref (gb G + t)] Z I J (qv Z (fun I4 J4 => Cl G mX8_everybody n 0 0 [.ref (gb G + t)] Z (uI I4 t 10 1) J4 (qi Z (fun v7 I6 J6 => (vp_in (x1 &&& v7) 256 ∧ K (I6 (t + 5) (Int32.toNatClampNeg (x1 &&& v7))) I6 J6)))))))) : Jd G mX8_mostFrom (jdFm G (qi Z K)) (n + 1) rc rs 0 [(0, .ref (gb G + t)), (1, .int x1)] [] Z I J := by
  refine jd_aload_n (pc := 0) 0 dX8_mostFrom_0 rfl rfl ?_
  refine jd_getI (pc := 1) (ci := 7) (k := 10) gX8_56 ht.1 rfl dX8_mostFrom_1 ?_
  refine jd_if_ne (pc := 4) 16 dX8_mostFrom_4 (by decide) (fun hc => ?_) (fun hc => ?_)
  · have h := h.1 hc
    refine jd_aload_n (pc := 16) 0 dX8_mostFrom_16 rfl rfl ?_
    refine jd_getR (pc := 17) (ci := 7) (k := 4) (r := (t + 5)) gX8_24 ht.1 rfl (zTies_p4 ht) dX8_mostFrom_17 ?_
    refine jd_iload_n (pc := 20) 1 dX8_mostFrom_20 rfl rfl ?_
    refine jd_aload_n (pc := 21) 0 dX8_mostFrom_21 rfl rfl ?_
    refine jd_callVi (pc := 22) (M2 := mX8_everybody) (id := t) (ci := 7) (T := TX8) (N := 11) (av := []) kX8_everybody sX8_everybody rfl ht.1 lX8_49 rfl rfl (Nat.le_of_ble_eq_true rfl) dX8_mostFrom_22 h ?_
    intro v2 I1 J1 h
    refine jd_iand (pc := 25) dX8_mostFrom_25 ?_
    obtain ⟨hv3, h⟩ := h
    refine jd_iald (pc := 26) (len := 256) (zTies_a4 ht) hv3 dX8_mostFrom_26 ?_
    exact jd_iretK (pc := 27) rfl rfl dX8_mostFrom_27 h
  · have h := h.2 hc
    refine jd_aload_n (pc := 7) 0 dX8_mostFrom_7 rfl rfl ?_
    refine jd_callVv (pc := 8) (M2 := mX8_countMost) (id := t) (ci := 7) (T := TX8) (N := 11) (av := []) kX8_countMost sX8_countMost rfl ht.1 lX8_64 rfl rfl (Nat.le_of_ble_eq_true rfl) dX8_mostFrom_8 h ?_
    intro I4 J4 h
    refine jd_aload_n (pc := 11) 0 dX8_mostFrom_11 rfl rfl ?_
    refine jd_iconst (pc := 12) (v := 1) dX8_mostFrom_12 (by decide) ?_
    refine jd_putI (pc := 13) (ci := 7) (k := 10) pX8_56 ht.1 rfl (by decide) (by decide) dX8_mostFrom_13 ?_
    refine jd_aload_n (pc := 16) 0 dX8_mostFrom_16 rfl rfl ?_
    refine jd_getR (pc := 17) (ci := 7) (k := 4) (r := (t + 5)) gX8_24 ht.1 rfl (zTies_p4 ht) dX8_mostFrom_17 ?_
    refine jd_iload_n (pc := 20) 1 dX8_mostFrom_20 rfl rfl ?_
    refine jd_aload_n (pc := 21) 0 dX8_mostFrom_21 rfl rfl ?_
    refine jd_callVi (pc := 22) (M2 := mX8_everybody) (id := t) (ci := 7) (T := TX8) (N := 11) (av := []) kX8_everybody sX8_everybody rfl ht.1 lX8_49 rfl rfl (Nat.le_of_ble_eq_true rfl) dX8_mostFrom_22 h ?_
    intro v7 I6 J6 h
    refine jd_iand (pc := 25) dX8_mostFrom_25 ?_
    obtain ⟨hv8, h⟩ := h
    refine jd_iald (pc := 26) (len := 256) (zTies_a4 ht) hv8 dX8_mostFrom_26 ?_
    exact jd_iretK (pc := 27) rfl rfl dX8_mostFrom_27 h
theorem eX8_mostFrom {G : jdG} {n : Nat} {Z : jdL} {I : jdI} {J : jdJ} {K : Int32 → jdI → jdJ → Prop} {t : Nat} {x1 : Int32} (ht : zTies Z t) (h : ((¬ (I t 10) = 0 → Cl G mX8_everybody n 0 0 [.ref (gb G + t)] Z I J (qi Z (fun v2 I1 J1 => (vp_in (x1 &&& v2) 256 ∧ K (I1 (t + 5) (Int32.toNatClampNeg (x1 &&& v2))) I1 J1)))) ∧ ((I t 10) = 0 → Cl G mX8_countMost n 0 0 [.ref (gb G + t)] Z I J (qv Z (fun I4 J4 => Cl G mX8_everybody n 0 0 [.ref (gb G + t)] Z (uI I4 t 10 1) J4 (qi Z (fun v7 I6 J6 => (vp_in (x1 &&& v7) 256 ∧ K (I6 (t + 5) (Int32.toNatClampNeg (x1 &&& v7))) I6 J6)))))))) : Cl G mX8_mostFrom (n + 1) 0 0 [.ref (gb G + t), .int x1] Z I J (qi Z K) :=
  Cl.of (by decide +kernel) (Nat.le_of_ble_eq_true rfl) (rX8_mostFrom_0 ht h)
set_option maxRecDepth 4000 in
theorem rX8_countMost_0 {G : jdG} {n rc rs : Nat} {Z : jdL} {I : jdI} {J : jdJ} {K : jdI → jdJ → Prop} {t : Nat} (ht : zTies Z t) (h : Jd G mX8_countMost (jdFm G (qv Z K)) n rc rs 9 [(0, .ref (gb G + t)), (1, .int 1)] [] Z (uI I (t + 5) 0 0) J) : Jd G mX8_countMost (jdFm G (qv Z K)) n rc rs 0 [(0, .ref (gb G + t))] [] Z I J := by
  refine jd_aload_n (pc := 0) 0 dX8_countMost_0 rfl rfl ?_
  refine jd_getR (pc := 1) (ci := 7) (k := 4) (r := (t + 5)) gX8_24 ht.1 rfl (zTies_p4 ht) dX8_countMost_1 ?_
  refine jd_iconst (pc := 4) (v := 0) dX8_countMost_4 (by decide) ?_
  refine jd_iconst (pc := 5) (v := 0) dX8_countMost_5 (by decide) ?_
  refine jd_iast (pc := 6) (len := 256) (zTies_a4 ht) (by unfold vp_in; decide) dX8_countMost_6 ?_
  refine jd_iconst (pc := 7) (v := 1) dX8_countMost_7 (by decide) ?_
  refine jd_istore_n (pc := 8) [(1, .int 1), (0, .ref (gb G + t))] dX8_countMost_8 rfl (by decide) rfl ?_
  exact jd_lv (lv2 := [(0, .ref (gb G + t)), (1, .int 1)]) [1, 0] rfl h
set_option maxRecDepth 4000 in
theorem rX8_countMost_9 {G : jdG} {n rc rs : Nat} {Z : jdL} {I : jdI} {J : jdJ} {K : jdI → jdJ → Prop} {t : Nat} {x1 : Int32} (ht : zTies Z t) (h : (((1 <<< ((I t 6) &&& 31)) ≤ x1 → K I J) ∧ (¬ (1 <<< ((I t 6) &&& 31)) ≤ x1 → (vp_in (x1 ^^^ (x1 &&& (-x1))) 256 ∧ Jd G mX8_countMost (jdFm G (qv Z K)) n rc rs 36 [(0, .ref (gb G + t)), (1, .int x1), (2, .int (x1 &&& (-x1))), (3, .int (I (t + 5) (Int32.toNatClampNeg (x1 ^^^ (x1 &&& (-x1)))))), (4, .int 0)] [] Z I J)))) : Jd G mX8_countMost (jdFm G (qv Z K)) n rc rs 9 [(0, .ref (gb G + t)), (1, .int x1)] [] Z I J := by
  refine jd_iload_n (pc := 9) 1 dX8_countMost_9 rfl rfl ?_
  refine jd_iconst (pc := 10) (v := 1) dX8_countMost_10 (by decide) ?_
  refine jd_aload_n (pc := 11) 0 dX8_countMost_11 rfl rfl ?_
  refine jd_getI (pc := 12) (ci := 7) (k := 6) gX8_36 ht.1 rfl dX8_countMost_12 ?_
  refine jd_ishl (pc := 15) dX8_countMost_15 ?_
  refine jd_icmp_ge (pc := 16) 114 dX8_countMost_16 (by decide) (fun hc => ?_) (fun hc => ?_)
  · have h := h.1 hc
    exact jd_vretK (pc := 114) rfl dX8_countMost_114 h
  · have h := h.2 hc
    refine jd_iload_n (pc := 19) 1 dX8_countMost_19 rfl rfl ?_
    refine jd_iload_n (pc := 20) 1 dX8_countMost_20 rfl rfl ?_
    refine jd_ineg (pc := 21) dX8_countMost_21 ?_
    refine jd_iand (pc := 22) dX8_countMost_22 ?_
    refine jd_istore_n (pc := 23) [(2, .int (x1 &&& (-x1))), (0, .ref (gb G + t)), (1, .int x1)] dX8_countMost_23 rfl (by decide) rfl ?_
    refine jd_aload_n (pc := 24) 1 dX8_countMost_24 rfl rfl ?_
    refine jd_getR (pc := 25) (ci := 7) (k := 4) (r := (t + 5)) gX8_24 ht.1 rfl (zTies_p4 ht) dX8_countMost_25 ?_
    refine jd_iload_n (pc := 28) 2 dX8_countMost_28 rfl rfl ?_
    refine jd_iload_n (pc := 29) 0 dX8_countMost_29 rfl rfl ?_
    refine jd_ixor (pc := 30) dX8_countMost_30 ?_
    obtain ⟨hv1, h⟩ := h
    refine jd_iald (pc := 31) (len := 256) (zTies_a4 ht) hv1 dX8_countMost_31 ?_
    refine jd_istore_n (pc := 32) [(3, .int (I (t + 5) (Int32.toNatClampNeg (x1 ^^^ (x1 &&& (-x1)))))), (2, .int (x1 &&& (-x1))), (0, .ref (gb G + t)), (1, .int x1)] dX8_countMost_32 rfl (by decide) rfl ?_
    refine jd_iconst (pc := 33) (v := 0) dX8_countMost_33 (by decide) ?_
    refine jd_istore (pc := 34) [(4, .int 0), (3, .int (I (t + 5) (Int32.toNatClampNeg (x1 ^^^ (x1 &&& (-x1)))))), (2, .int (x1 &&& (-x1))), (0, .ref (gb G + t)), (1, .int x1)] dX8_countMost_34 (by decide) rfl ?_
    exact jd_lv (lv2 := [(0, .ref (gb G + t)), (1, .int x1), (2, .int (x1 &&& (-x1))), (3, .int (I (t + 5) (Int32.toNatClampNeg (x1 ^^^ (x1 &&& (-x1)))))), (4, .int 0)]) [3, 4, 2, 1, 0] rfl h
set_option maxRecDepth 4000 in
theorem rX8_countMost_36 {G : jdG} {n rc rs : Nat} {Z : jdL} {I : jdI} {J : jdJ} {K : jdI → jdJ → Prop} {t : Nat} {x1 : Int32} {x2 : Int32} {x3 : Int32} {x4 : Int32} (ht : zTies Z t) (h : (((I t 8) ≤ x4 → (vp_in x1 256 ∧ Jd G mX8_countMost (jdFm G (qv Z K)) n rc rs 9 [(0, .ref (gb G + t)), (1, .int (x1 + 1))] [] Z (uI I (t + 5) (Int32.toNatClampNeg x1) x3) J)) ∧ (¬ (I t 8) ≤ x4 → (vp_in x4 70 ∧ ((((I (t + 3) (Int32.toNatClampNeg x4)) &&& x2) = 0 → Jd G mX8_countMost (jdFm G (qv Z K)) n rc rs 36 [(0, .ref (gb G + t)), (1, .int x1), (2, .int x2), (3, .int x3), (4, .int (x4 + 1))] [] Z I J) ∧ (¬ ((I (t + 3) (Int32.toNatClampNeg x4)) &&& x2) = 0 → ((¬ ((I (t + 3) (Int32.toNatClampNeg x4)) &&& x1) = (I (t + 3) (Int32.toNatClampNeg x4)) → Jd G mX8_countMost (jdFm G (qv Z K)) n rc rs 36 [(0, .ref (gb G + t)), (1, .int x1), (2, .int x2), (3, .int x3), (4, .int (x4 + 1))] [] Z I J) ∧ (((I (t + 3) (Int32.toNatClampNeg x4)) &&& x1) = (I (t + 3) (Int32.toNatClampNeg x4)) → (vp_in (x1 ^^^ (I (t + 3) (Int32.toNatClampNeg x4))) 256 ∧ (((I (t + 5) (Int32.toNatClampNeg (x1 ^^^ (I (t + 3) (Int32.toNatClampNeg x4))))) < x3 → Jd G mX8_countMost (jdFm G (qv Z K)) n rc rs 36 [(0, .ref (gb G + t)), (1, .int x1), (2, .int x2), (3, .int x3), (4, .int (x4 + 1))] [] Z I J) ∧ (¬ (I (t + 5) (Int32.toNatClampNeg (x1 ^^^ (I (t + 3) (Int32.toNatClampNeg x4))))) < x3 → (vp_in (x1 ^^^ (I (t + 3) (Int32.toNatClampNeg x4))) 256 ∧ Jd G mX8_countMost (jdFm G (qv Z K)) n rc rs 36 [(0, .ref (gb G + t)), (1, .int x1), (2, .int x2), (3, .int (1 + (I (t + 5) (Int32.toNatClampNeg (x1 ^^^ (I (t + 3) (Int32.toNatClampNeg x4))))))), (4, .int (x4 + 1))] [] Z I J)))))))))))) : Jd G mX8_countMost (jdFm G (qv Z K)) n rc rs 36 [(0, .ref (gb G + t)), (1, .int x1), (2, .int x2), (3, .int x3), (4, .int x4)] [] Z I J := by
  refine jd_iload (pc := 36) 4 dX8_countMost_36 rfl ?_
  refine jd_aload_n (pc := 38) 0 dX8_countMost_38 rfl rfl ?_
  refine jd_getI (pc := 39) (ci := 7) (k := 8) gX8_53 ht.1 rfl dX8_countMost_39 ?_
  refine jd_icmp_ge (pc := 42) 101 dX8_countMost_42 (by decide) (fun hc => ?_) (fun hc => ?_)
  · have h := h.1 hc
    refine jd_aload_n (pc := 101) 0 dX8_countMost_101 rfl rfl ?_
    refine jd_getR (pc := 102) (ci := 7) (k := 4) (r := (t + 5)) gX8_24 ht.1 rfl (zTies_p4 ht) dX8_countMost_102 ?_
    refine jd_iload_n (pc := 105) 1 dX8_countMost_105 rfl rfl ?_
    refine jd_iload_n (pc := 106) 3 dX8_countMost_106 rfl rfl ?_
    obtain ⟨hv1, h⟩ := h
    refine jd_iast (pc := 107) (len := 256) (zTies_a4 ht) hv1 dX8_countMost_107 ?_
    refine jd_iinc (pc := 108) (v := (x1 + 1)) 1 [(1, .int (x1 + 1)), (0, .ref (gb G + t)), (2, .int x2), (3, .int x3), (4, .int x4)] dX8_countMost_108 rfl rfl (by decide) rfl ?_
    refine jd_goto (pc := 111) 9 dX8_countMost_111 (by decide) ?_
    exact jd_lv (lv2 := [(0, .ref (gb G + t)), (1, .int (x1 + 1))]) [1, 0] rfl h
  · have h := h.2 hc
    refine jd_aload_n (pc := 45) 0 dX8_countMost_45 rfl rfl ?_
    refine jd_getR (pc := 46) (ci := 7) (k := 2) (r := (t + 3)) gX8_18 ht.1 rfl (zTies_p2 ht) dX8_countMost_46 ?_
    refine jd_iload (pc := 49) 4 dX8_countMost_49 rfl ?_
    obtain ⟨hv2, h⟩ := h
    refine jd_iald (pc := 51) (len := 70) (zTies_a2 ht) hv2 dX8_countMost_51 ?_
    refine jd_istore (pc := 52) [(5, .int (I (t + 3) (Int32.toNatClampNeg x4))), (0, .ref (gb G + t)), (1, .int x1), (2, .int x2), (3, .int x3), (4, .int x4)] dX8_countMost_52 (by decide) rfl ?_
    refine jd_iload (pc := 54) 0 dX8_countMost_54 rfl ?_
    refine jd_iload_n (pc := 56) 3 dX8_countMost_56 rfl rfl ?_
    refine jd_iand (pc := 57) dX8_countMost_57 ?_
    refine jd_if_eq (pc := 58) 95 dX8_countMost_58 (by decide) (fun hc => ?_) (fun hc => ?_)
    · have h := h.1 hc
      refine jd_iinc (pc := 95) (v := (x4 + 1)) 5 [(4, .int (x4 + 1)), (5, .int (I (t + 3) (Int32.toNatClampNeg x4))), (0, .ref (gb G + t)), (1, .int x1), (2, .int x2), (3, .int x3)] dX8_countMost_95 rfl rfl (by decide) rfl ?_
      refine jd_goto (pc := 98) 36 dX8_countMost_98 (by decide) ?_
      exact jd_lv (lv2 := [(0, .ref (gb G + t)), (1, .int x1), (2, .int x2), (3, .int x3), (4, .int (x4 + 1))]) [2, 3, 4, 5, 0] rfl h
    · have h := h.2 hc
      refine jd_iload (pc := 61) 0 dX8_countMost_61 rfl ?_
      refine jd_iload_n (pc := 63) 2 dX8_countMost_63 rfl rfl ?_
      refine jd_iand (pc := 64) dX8_countMost_64 ?_
      refine jd_iload (pc := 65) 0 dX8_countMost_65 rfl ?_
      refine jd_icmp_ne (pc := 67) 95 dX8_countMost_67 (by decide) (fun hc => ?_) (fun hc => ?_)
      · have h := h.1 hc
        refine jd_iinc (pc := 95) (v := (x4 + 1)) 5 [(4, .int (x4 + 1)), (5, .int (I (t + 3) (Int32.toNatClampNeg x4))), (0, .ref (gb G + t)), (1, .int x1), (2, .int x2), (3, .int x3)] dX8_countMost_95 rfl rfl (by decide) rfl ?_
        refine jd_goto (pc := 98) 36 dX8_countMost_98 (by decide) ?_
        exact jd_lv (lv2 := [(0, .ref (gb G + t)), (1, .int x1), (2, .int x2), (3, .int x3), (4, .int (x4 + 1))]) [2, 3, 4, 5, 0] rfl h
      · have h := h.2 hc
        refine jd_aload_n (pc := 70) 1 dX8_countMost_70 rfl rfl ?_
        refine jd_getR (pc := 71) (ci := 7) (k := 4) (r := (t + 5)) gX8_24 ht.1 rfl (zTies_p4 ht) dX8_countMost_71 ?_
        refine jd_iload_n (pc := 74) 2 dX8_countMost_74 rfl rfl ?_
        refine jd_iload (pc := 75) 0 dX8_countMost_75 rfl ?_
        refine jd_ixor (pc := 77) dX8_countMost_77 ?_
        obtain ⟨hv3, h⟩ := h
        refine jd_iald (pc := 78) (len := 256) (zTies_a4 ht) hv3 dX8_countMost_78 ?_
        refine jd_iload_n (pc := 79) 4 dX8_countMost_79 rfl rfl ?_
        refine jd_icmp_lt (pc := 80) 95 dX8_countMost_80 (by decide) (fun hc => ?_) (fun hc => ?_)
        · have h := h.1 hc
          refine jd_iinc (pc := 95) (v := (x4 + 1)) 5 [(4, .int (x4 + 1)), (5, .int (I (t + 3) (Int32.toNatClampNeg x4))), (0, .ref (gb G + t)), (1, .int x1), (2, .int x2), (3, .int x3)] dX8_countMost_95 rfl rfl (by decide) rfl ?_
          refine jd_goto (pc := 98) 36 dX8_countMost_98 (by decide) ?_
          exact jd_lv (lv2 := [(0, .ref (gb G + t)), (1, .int x1), (2, .int x2), (3, .int x3), (4, .int (x4 + 1))]) [2, 3, 4, 5, 0] rfl h
        · have h := h.2 hc
          refine jd_iconst (pc := 83) (v := 1) dX8_countMost_83 (by decide) ?_
          refine jd_aload_n (pc := 84) 1 dX8_countMost_84 rfl rfl ?_
          refine jd_getR (pc := 85) (ci := 7) (k := 4) (r := (t + 5)) gX8_24 ht.1 rfl (zTies_p4 ht) dX8_countMost_85 ?_
          refine jd_iload_n (pc := 88) 2 dX8_countMost_88 rfl rfl ?_
          refine jd_iload (pc := 89) 0 dX8_countMost_89 rfl ?_
          refine jd_ixor (pc := 91) dX8_countMost_91 ?_
          obtain ⟨hv4, h⟩ := h
          refine jd_iald (pc := 92) (len := 256) (zTies_a4 ht) hv4 dX8_countMost_92 ?_
          refine jd_iadd (pc := 93) dX8_countMost_93 ?_
          refine jd_istore_n (pc := 94) [(3, .int (1 + (I (t + 5) (Int32.toNatClampNeg (x1 ^^^ (I (t + 3) (Int32.toNatClampNeg x4))))))), (5, .int (I (t + 3) (Int32.toNatClampNeg x4))), (0, .ref (gb G + t)), (1, .int x1), (2, .int x2), (4, .int x4)] dX8_countMost_94 rfl (by decide) rfl ?_
          refine jd_iinc (pc := 95) (v := (x4 + 1)) 5 [(4, .int (x4 + 1)), (3, .int (1 + (I (t + 5) (Int32.toNatClampNeg (x1 ^^^ (I (t + 3) (Int32.toNatClampNeg x4))))))), (5, .int (I (t + 3) (Int32.toNatClampNeg x4))), (0, .ref (gb G + t)), (1, .int x1), (2, .int x2)] dX8_countMost_95 rfl rfl (by decide) rfl ?_
          refine jd_goto (pc := 98) 36 dX8_countMost_98 (by decide) ?_
          exact jd_lv (lv2 := [(0, .ref (gb G + t)), (1, .int x1), (2, .int x2), (3, .int (1 + (I (t + 5) (Int32.toNatClampNeg (x1 ^^^ (I (t + 3) (Int32.toNatClampNeg x4))))))), (4, .int (x4 + 1))]) [3, 4, 5, 1, 0] rfl h
theorem eX8_countMost {G : jdG} {n : Nat} {Z : jdL} {I : jdI} {J : jdJ} {K : jdI → jdJ → Prop} {t : Nat} (ht : zTies Z t) (h : Jd G mX8_countMost (jdFm G (qv Z K)) n 0 0 9 [(0, .ref (gb G + t)), (1, .int 1)] [] Z (uI I (t + 5) 0 0) J) : Cl G mX8_countMost (n) 0 0 [.ref (gb G + t)] Z I J (qv Z K) :=
  Cl.of (by decide +kernel) (Nat.le_of_ble_eq_true rfl) (rX8_countMost_0 ht h)
set_option maxRecDepth 4000 in
theorem rX8_firstOfMost_0 {G : jdG} {n rc rs : Nat} {Z : jdL} {I : jdI} {J : jdJ} {K : Int32 → jdI → jdJ → Prop} {t : Nat} {x1 : Int32} (ht : zTies Z t) (h : Cl G mX8_mostFrom n 0 0 [.ref (gb G + t), .int x1] Z I J (qi Z (fun v2 I1 J1 => Jd G mX8_firstOfMost (jdFm G (qi Z K)) (n + 1) rc rs 10 [(0, .ref (gb G + t)), (1, .int x1), (2, .int (v2 - 1)), (3, .int 0)] [] Z I1 J1))) : Jd G mX8_firstOfMost (jdFm G (qi Z K)) (n + 1) rc rs 0 [(0, .ref (gb G + t)), (1, .int x1)] [] Z I J := by
  refine jd_aload_n (pc := 0) 0 dX8_firstOfMost_0 rfl rfl ?_
  refine jd_iload_n (pc := 1) 1 dX8_firstOfMost_1 rfl rfl ?_
  refine jd_callVi (pc := 2) (M2 := mX8_mostFrom) (id := t) (ci := 7) (T := TX8) (N := 11) (av := [.int x1]) kX8_mostFrom sX8_mostFrom rfl ht.1 lX8_67 rfl rfl (Nat.le_of_ble_eq_true rfl) dX8_firstOfMost_2 h ?_
  intro v2 I1 J1 h
  refine jd_iconst (pc := 5) (v := 1) dX8_firstOfMost_5 (by decide) ?_
  refine jd_isub (pc := 6) dX8_firstOfMost_6 ?_
  refine jd_istore_n (pc := 7) [(2, .int (v2 - 1)), (0, .ref (gb G + t)), (1, .int x1)] dX8_firstOfMost_7 rfl (by decide) rfl ?_
  refine jd_iconst (pc := 8) (v := 0) dX8_firstOfMost_8 (by decide) ?_
  refine jd_istore_n (pc := 9) [(3, .int 0), (2, .int (v2 - 1)), (0, .ref (gb G + t)), (1, .int x1)] dX8_firstOfMost_9 rfl (by decide) rfl ?_
  exact jd_lv (lv2 := [(0, .ref (gb G + t)), (1, .int x1), (2, .int (v2 - 1)), (3, .int 0)]) [2, 3, 1, 0] rfl h
set_option maxRecDepth 4000 in
theorem rX8_firstOfMost_10 {G : jdG} {n rc rs : Nat} {Z : jdL} {I : jdI} {J : jdJ} {K : Int32 → jdI → jdJ → Prop} {t : Nat} {x1 : Int32} {x2 : Int32} {x3 : Int32} (ht : zTies Z t) (h : (((I t 8) ≤ x3 → K 0 I J) ∧ (¬ (I t 8) ≤ x3 → (vp_in x3 70 ∧ ((¬ ((I (t + 3) (Int32.toNatClampNeg x3)) &&& x1) = (I (t + 3) (Int32.toNatClampNeg x3)) → Jd G mX8_firstOfMost (jdFm G (qi Z K)) (n + 1) rc rs 10 [(0, .ref (gb G + t)), (1, .int x1), (2, .int x2), (3, .int (x3 + 1))] [] Z I J) ∧ (((I (t + 3) (Int32.toNatClampNeg x3)) &&& x1) = (I (t + 3) (Int32.toNatClampNeg x3)) → Cl G mX8_mostFrom n 0 0 [.ref (gb G + t), .int (x1 ^^^ (I (t + 3) (Int32.toNatClampNeg x3)))] Z I J (qi Z (fun v3 I2 J2 => ((¬ v3 = x2 → Jd G mX8_firstOfMost (jdFm G (qi Z K)) (n + 1) rc rs 10 [(0, .ref (gb G + t)), (1, .int x1), (2, .int x2), (3, .int (x3 + 1))] [] Z I2 J2) ∧ (v3 = x2 → K (I (t + 3) (Int32.toNatClampNeg x3)) I2 J2)))))))))) : Jd G mX8_firstOfMost (jdFm G (qi Z K)) (n + 1) rc rs 10 [(0, .ref (gb G + t)), (1, .int x1), (2, .int x2), (3, .int x3)] [] Z I J := by
  refine jd_iload_n (pc := 10) 3 dX8_firstOfMost_10 rfl rfl ?_
  refine jd_aload_n (pc := 11) 0 dX8_firstOfMost_11 rfl rfl ?_
  refine jd_getI (pc := 12) (ci := 7) (k := 8) gX8_53 ht.1 rfl dX8_firstOfMost_12 ?_
  refine jd_icmp_ge (pc := 15) 56 dX8_firstOfMost_15 (by decide) (fun hc => ?_) (fun hc => ?_)
  · have h := h.1 hc
    refine jd_iconst (pc := 56) (v := 0) dX8_firstOfMost_56 (by decide) ?_
    exact jd_iretK (pc := 57) rfl rfl dX8_firstOfMost_57 h
  · have h := h.2 hc
    refine jd_aload_n (pc := 18) 0 dX8_firstOfMost_18 rfl rfl ?_
    refine jd_getR (pc := 19) (ci := 7) (k := 2) (r := (t + 3)) gX8_18 ht.1 rfl (zTies_p2 ht) dX8_firstOfMost_19 ?_
    refine jd_iload_n (pc := 22) 3 dX8_firstOfMost_22 rfl rfl ?_
    obtain ⟨hv1, h⟩ := h
    refine jd_iald (pc := 23) (len := 70) (zTies_a2 ht) hv1 dX8_firstOfMost_23 ?_
    refine jd_istore (pc := 24) [(4, .int (I (t + 3) (Int32.toNatClampNeg x3))), (0, .ref (gb G + t)), (1, .int x1), (2, .int x2), (3, .int x3)] dX8_firstOfMost_24 (by decide) rfl ?_
    refine jd_iload (pc := 26) 0 dX8_firstOfMost_26 rfl ?_
    refine jd_iload_n (pc := 28) 2 dX8_firstOfMost_28 rfl rfl ?_
    refine jd_iand (pc := 29) dX8_firstOfMost_29 ?_
    refine jd_iload (pc := 30) 0 dX8_firstOfMost_30 rfl ?_
    refine jd_icmp_ne (pc := 32) 50 dX8_firstOfMost_32 (by decide) (fun hc => ?_) (fun hc => ?_)
    · have h := h.1 hc
      refine jd_iinc (pc := 50) (v := (x3 + 1)) 4 [(3, .int (x3 + 1)), (4, .int (I (t + 3) (Int32.toNatClampNeg x3))), (0, .ref (gb G + t)), (1, .int x1), (2, .int x2)] dX8_firstOfMost_50 rfl rfl (by decide) rfl ?_
      refine jd_goto (pc := 53) 10 dX8_firstOfMost_53 (by decide) ?_
      exact jd_lv (lv2 := [(0, .ref (gb G + t)), (1, .int x1), (2, .int x2), (3, .int (x3 + 1))]) [2, 3, 4, 0] rfl h
    · have h := h.2 hc
      refine jd_aload_n (pc := 35) 1 dX8_firstOfMost_35 rfl rfl ?_
      refine jd_iload_n (pc := 36) 2 dX8_firstOfMost_36 rfl rfl ?_
      refine jd_iload (pc := 37) 0 dX8_firstOfMost_37 rfl ?_
      refine jd_ixor (pc := 39) dX8_firstOfMost_39 ?_
      refine jd_callVi (pc := 40) (M2 := mX8_mostFrom) (id := t) (ci := 7) (T := TX8) (N := 11) (av := [.int (x1 ^^^ (I (t + 3) (Int32.toNatClampNeg x3)))]) kX8_mostFrom sX8_mostFrom rfl ht.1 lX8_67 rfl rfl (Nat.le_of_ble_eq_true rfl) dX8_firstOfMost_40 h ?_
      intro v3 I2 J2 h
      refine jd_iload_n (pc := 43) 3 dX8_firstOfMost_43 rfl rfl ?_
      refine jd_icmp_ne (pc := 44) 50 dX8_firstOfMost_44 (by decide) (fun hc => ?_) (fun hc => ?_)
      · have h := h.1 hc
        refine jd_iinc (pc := 50) (v := (x3 + 1)) 4 [(3, .int (x3 + 1)), (4, .int (I (t + 3) (Int32.toNatClampNeg x3))), (0, .ref (gb G + t)), (1, .int x1), (2, .int x2)] dX8_firstOfMost_50 rfl rfl (by decide) rfl ?_
        refine jd_goto (pc := 53) 10 dX8_firstOfMost_53 (by decide) ?_
        exact jd_lv (lv2 := [(0, .ref (gb G + t)), (1, .int x1), (2, .int x2), (3, .int (x3 + 1))]) [2, 3, 4, 0] rfl h
      · have h := h.2 hc
        refine jd_iload (pc := 47) 0 dX8_firstOfMost_47 rfl ?_
        exact jd_iretK (pc := 49) rfl rfl dX8_firstOfMost_49 h
theorem eX8_firstOfMost {G : jdG} {n : Nat} {Z : jdL} {I : jdI} {J : jdJ} {K : Int32 → jdI → jdJ → Prop} {t : Nat} {x1 : Int32} (ht : zTies Z t) (h : Cl G mX8_mostFrom n 0 0 [.ref (gb G + t), .int x1] Z I J (qi Z (fun v2 I1 J1 => Jd G mX8_firstOfMost (jdFm G (qi Z K)) (n + 1) 0 0 10 [(0, .ref (gb G + t)), (1, .int x1), (2, .int (v2 - 1)), (3, .int 0)] [] Z I1 J1))) : Cl G mX8_firstOfMost (n + 1) 0 0 [.ref (gb G + t), .int x1] Z I J (qi Z K) :=
  Cl.of (by decide +kernel) (Nat.le_of_ble_eq_true rfl) (rX8_firstOfMost_0 ht h)
set_option maxRecDepth 4000 in
theorem rX8_mostRow_0 {G : jdG} {n rc rs : Nat} {Z : jdL} {I : jdI} {J : jdJ} {K : Int32 → jdI → jdJ → Prop} {t : Nat} {x1 : Int32} {x2 : Int32} (ht : zTies Z t) (h : Jd G mX8_mostRow (jdFm G (qi Z K)) (n + 1) rc rs 5 [(0, .ref (gb G + t)), (1, .int x1), (2, .int x2), (3, .int x1), (4, .int 0)] [] Z I J) : Jd G mX8_mostRow (jdFm G (qi Z K)) (n + 1) rc rs 0 [(0, .ref (gb G + t)), (1, .int x1), (2, .int x2)] [] Z I J := by
  refine jd_iload_n (pc := 0) 1 dX8_mostRow_0 rfl rfl ?_
  refine jd_istore_n (pc := 1) [(3, .int x1), (0, .ref (gb G + t)), (1, .int x1), (2, .int x2)] dX8_mostRow_1 rfl (by decide) rfl ?_
  refine jd_iconst (pc := 2) (v := 0) dX8_mostRow_2 (by decide) ?_
  refine jd_istore (pc := 3) [(4, .int 0), (3, .int x1), (0, .ref (gb G + t)), (1, .int x1), (2, .int x2)] dX8_mostRow_3 (by decide) rfl ?_
  exact jd_lv (lv2 := [(0, .ref (gb G + t)), (1, .int x1), (2, .int x2), (3, .int x1), (4, .int 0)]) [2, 3, 4, 1, 0] rfl h
set_option maxRecDepth 4000 in
theorem rX8_mostRow_5 {G : jdG} {n rc rs : Nat} {Z : jdL} {I : jdI} {J : jdJ} {K : Int32 → jdI → jdJ → Prop} {t : Nat} {x1 : Int32} {x2 : Int32} {x3 : Int32} {x4 : Int32} (ht : zTies Z t) (h : ((x2 ≤ x4 → Cl G mX8_firstOfMost n 0 0 [.ref (gb G + t), .int x3] Z I J (qi Z (fun v2 I1 J1 => K v2 I1 J1))) ∧ (¬ x2 ≤ x4 → ((8 ≤ x4 → Cl G mX8_firstOfMost n 0 0 [.ref (gb G + t), .int x3] Z I J (qi Z (fun v4 I3 J3 => K v4 I3 J3))) ∧ (¬ 8 ≤ x4 → Cl G mX8_firstOfMost n 0 0 [.ref (gb G + t), .int x3] Z I J (qi Z (fun v6 I5 J5 => Jd G mX8_mostRow (jdFm G (qi Z K)) (n + 1) rc rs 5 [(0, .ref (gb G + t)), (1, .int x1), (2, .int x2), (3, .int (x3 &&& (v6 ^^^ (-1)))), (4, .int (x4 + 1))] [] Z I5 J5))))))) : Jd G mX8_mostRow (jdFm G (qi Z K)) (n + 1) rc rs 5 [(0, .ref (gb G + t)), (1, .int x1), (2, .int x2), (3, .int x3), (4, .int x4)] [] Z I J := by
  refine jd_iload (pc := 5) 4 dX8_mostRow_5 rfl ?_
  refine jd_iload_n (pc := 7) 2 dX8_mostRow_7 rfl rfl ?_
  refine jd_icmp_ge (pc := 8) 34 dX8_mostRow_8 (by decide) (fun hc => ?_) (fun hc => ?_)
  · have h := h.1 hc
    refine jd_aload_n (pc := 34) 0 dX8_mostRow_34 rfl rfl ?_
    refine jd_iload_n (pc := 35) 3 dX8_mostRow_35 rfl rfl ?_
    refine jd_callVi (pc := 36) (M2 := mX8_firstOfMost) (id := t) (ci := 7) (T := TX8) (N := 11) (av := [.int x3]) kX8_firstOfMost sX8_firstOfMost rfl ht.1 lX8_70 rfl rfl (Nat.le_of_ble_eq_true rfl) dX8_mostRow_36 h ?_
    intro v2 I1 J1 h
    exact jd_iretK (pc := 39) rfl rfl dX8_mostRow_39 h
  · have h := h.2 hc
    refine jd_iload (pc := 11) 4 dX8_mostRow_11 rfl ?_
    refine jd_bipush (pc := 13) (v := 8) dX8_mostRow_13 (by decide) ?_
    refine jd_icmp_ge (pc := 15) 34 dX8_mostRow_15 (by decide) (fun hc => ?_) (fun hc => ?_)
    · have h := h.1 hc
      refine jd_aload_n (pc := 34) 0 dX8_mostRow_34 rfl rfl ?_
      refine jd_iload_n (pc := 35) 3 dX8_mostRow_35 rfl rfl ?_
      refine jd_callVi (pc := 36) (M2 := mX8_firstOfMost) (id := t) (ci := 7) (T := TX8) (N := 11) (av := [.int x3]) kX8_firstOfMost sX8_firstOfMost rfl ht.1 lX8_70 rfl rfl (Nat.le_of_ble_eq_true rfl) dX8_mostRow_36 h ?_
      intro v4 I3 J3 h
      exact jd_iretK (pc := 39) rfl rfl dX8_mostRow_39 h
    · have h := h.2 hc
      refine jd_iload_n (pc := 18) 3 dX8_mostRow_18 rfl rfl ?_
      refine jd_aload_n (pc := 19) 0 dX8_mostRow_19 rfl rfl ?_
      refine jd_iload_n (pc := 20) 3 dX8_mostRow_20 rfl rfl ?_
      refine jd_callVi (pc := 21) (M2 := mX8_firstOfMost) (id := t) (ci := 7) (T := TX8) (N := 11) (av := [.int x3]) kX8_firstOfMost sX8_firstOfMost rfl ht.1 lX8_70 rfl rfl (Nat.le_of_ble_eq_true rfl) dX8_mostRow_21 h ?_
      intro v6 I5 J5 h
      refine jd_iconst (pc := 24) (v := (-1)) dX8_mostRow_24 (by decide) ?_
      refine jd_ixor (pc := 25) dX8_mostRow_25 ?_
      refine jd_iand (pc := 26) dX8_mostRow_26 ?_
      refine jd_istore_n (pc := 27) [(3, .int (x3 &&& (v6 ^^^ (-1)))), (0, .ref (gb G + t)), (1, .int x1), (2, .int x2), (4, .int x4)] dX8_mostRow_27 rfl (by decide) rfl ?_
      refine jd_iinc (pc := 28) (v := (x4 + 1)) 4 [(4, .int (x4 + 1)), (3, .int (x3 &&& (v6 ^^^ (-1)))), (0, .ref (gb G + t)), (1, .int x1), (2, .int x2)] dX8_mostRow_28 rfl rfl (by decide) rfl ?_
      refine jd_goto (pc := 31) 5 dX8_mostRow_31 (by decide) ?_
      exact jd_lv (lv2 := [(0, .ref (gb G + t)), (1, .int x1), (2, .int x2), (3, .int (x3 &&& (v6 ^^^ (-1)))), (4, .int (x4 + 1))]) [2, 3, 4, 1, 0] rfl h
theorem eX8_mostRow {G : jdG} {n : Nat} {Z : jdL} {I : jdI} {J : jdJ} {K : Int32 → jdI → jdJ → Prop} {t : Nat} {x1 : Int32} {x2 : Int32} (ht : zTies Z t) (h : Jd G mX8_mostRow (jdFm G (qi Z K)) (n + 1) 0 0 5 [(0, .ref (gb G + t)), (1, .int x1), (2, .int x2), (3, .int x1), (4, .int 0)] [] Z I J) : Cl G mX8_mostRow (n + 1) 0 0 [.ref (gb G + t), .int x1, .int x2] Z I J (qi Z K) :=
  Cl.of (by decide +kernel) (Nat.le_of_ble_eq_true rfl) (rX8_mostRow_0 ht h)
set_option maxRecDepth 4000 in
theorem rX8_costTogether_0 {G : jdG} {n rc rs : Nat} {Z : jdL} {I : jdI} {J : jdJ} {K : Int32 → jdI → jdJ → Prop} {t : Nat} {x1 : Int32} (ht : zTies Z t) (h : Jd G mX8_costTogether (jdFm G (qi Z K)) n rc rs 4 [(0, .ref (gb G + t)), (1, .int x1), (2, .int 0), (3, .int 0)] [] Z I J) : Jd G mX8_costTogether (jdFm G (qi Z K)) n rc rs 0 [(0, .ref (gb G + t)), (1, .int x1)] [] Z I J := by
  refine jd_iconst (pc := 0) (v := 0) dX8_costTogether_0 (by decide) ?_
  refine jd_istore_n (pc := 1) [(2, .int 0), (0, .ref (gb G + t)), (1, .int x1)] dX8_costTogether_1 rfl (by decide) rfl ?_
  refine jd_iconst (pc := 2) (v := 0) dX8_costTogether_2 (by decide) ?_
  refine jd_istore_n (pc := 3) [(3, .int 0), (2, .int 0), (0, .ref (gb G + t)), (1, .int x1)] dX8_costTogether_3 rfl (by decide) rfl ?_
  exact jd_lv (lv2 := [(0, .ref (gb G + t)), (1, .int x1), (2, .int 0), (3, .int 0)]) [2, 3, 1, 0] rfl h
set_option maxRecDepth 4000 in
theorem rX8_costTogether_4 {G : jdG} {n rc rs : Nat} {Z : jdL} {I : jdI} {J : jdJ} {K : Int32 → jdI → jdJ → Prop} {t : Nat} {x1 : Int32} {x2 : Int32} {x3 : Int32} (ht : zTies Z t) (h : (((I t 6) ≤ x3 → K x2 I J) ∧ (¬ (I t 6) ≤ x3 → (vp_in x3 8 ∧ Jd G mX8_costTogether (jdFm G (qi Z K)) n rc rs 4 [(0, .ref (gb G + t)), (1, .int x1), (2, .int (x2 + (((x1 >>> (x3 &&& 31)) &&& 1) * (I (t + 2) (Int32.toNatClampNeg x3))))), (3, .int (x3 + 1))] [] Z I J)))) : Jd G mX8_costTogether (jdFm G (qi Z K)) n rc rs 4 [(0, .ref (gb G + t)), (1, .int x1), (2, .int x2), (3, .int x3)] [] Z I J := by
  refine jd_iload_n (pc := 4) 3 dX8_costTogether_4 rfl rfl ?_
  refine jd_aload_n (pc := 5) 0 dX8_costTogether_5 rfl rfl ?_
  refine jd_getI (pc := 6) (ci := 7) (k := 6) gX8_36 ht.1 rfl dX8_costTogether_6 ?_
  refine jd_icmp_ge (pc := 9) 33 dX8_costTogether_9 (by decide) (fun hc => ?_) (fun hc => ?_)
  · have h := h.1 hc
    refine jd_iload_n (pc := 33) 2 dX8_costTogether_33 rfl rfl ?_
    exact jd_iretK (pc := 34) rfl rfl dX8_costTogether_34 h
  · have h := h.2 hc
    refine jd_iload_n (pc := 12) 2 dX8_costTogether_12 rfl rfl ?_
    refine jd_iload_n (pc := 13) 1 dX8_costTogether_13 rfl rfl ?_
    refine jd_iload_n (pc := 14) 3 dX8_costTogether_14 rfl rfl ?_
    refine jd_ishr (pc := 15) dX8_costTogether_15 ?_
    refine jd_iconst (pc := 16) (v := 1) dX8_costTogether_16 (by decide) ?_
    refine jd_iand (pc := 17) dX8_costTogether_17 ?_
    refine jd_aload_n (pc := 18) 0 dX8_costTogether_18 rfl rfl ?_
    refine jd_getR (pc := 19) (ci := 7) (k := 1) (r := (t + 2)) gX8_15 ht.1 rfl (zTies_p1 ht) dX8_costTogether_19 ?_
    refine jd_iload_n (pc := 22) 3 dX8_costTogether_22 rfl rfl ?_
    obtain ⟨hv1, h⟩ := h
    refine jd_iald (pc := 23) (len := 8) (zTies_a1 ht) hv1 dX8_costTogether_23 ?_
    refine jd_imul (pc := 24) dX8_costTogether_24 ?_
    refine jd_iadd (pc := 25) dX8_costTogether_25 ?_
    refine jd_istore_n (pc := 26) [(2, .int (x2 + (((x1 >>> (x3 &&& 31)) &&& 1) * (I (t + 2) (Int32.toNatClampNeg x3))))), (0, .ref (gb G + t)), (1, .int x1), (3, .int x3)] dX8_costTogether_26 rfl (by decide) rfl ?_
    refine jd_iinc (pc := 27) (v := (x3 + 1)) 3 [(3, .int (x3 + 1)), (2, .int (x2 + (((x1 >>> (x3 &&& 31)) &&& 1) * (I (t + 2) (Int32.toNatClampNeg x3))))), (0, .ref (gb G + t)), (1, .int x1)] dX8_costTogether_27 rfl rfl (by decide) rfl ?_
    refine jd_goto (pc := 30) 4 dX8_costTogether_30 (by decide) ?_
    exact jd_lv (lv2 := [(0, .ref (gb G + t)), (1, .int x1), (2, .int (x2 + (((x1 >>> (x3 &&& 31)) &&& 1) * (I (t + 2) (Int32.toNatClampNeg x3))))), (3, .int (x3 + 1))]) [2, 3, 1, 0] rfl h
theorem eX8_costTogether {G : jdG} {n : Nat} {Z : jdL} {I : jdI} {J : jdJ} {K : Int32 → jdI → jdJ → Prop} {t : Nat} {x1 : Int32} (ht : zTies Z t) (h : Jd G mX8_costTogether (jdFm G (qi Z K)) n 0 0 4 [(0, .ref (gb G + t)), (1, .int x1), (2, .int 0), (3, .int 0)] [] Z I J) : Cl G mX8_costTogether (n) 0 0 [.ref (gb G + t), .int x1] Z I J (qi Z K) :=
  Cl.of (by decide +kernel) (Nat.le_of_ble_eq_true rfl) (rX8_costTogether_0 ht h)
set_option maxRecDepth 4000 in
theorem rX8_strangersTogether_0 {G : jdG} {n rc rs : Nat} {Z : jdL} {I : jdI} {J : jdJ} {K : Int32 → jdI → jdJ → Prop} {t : Nat} {x1 : Int32} (ht : zTies Z t) (h : Jd G mX8_strangersTogether (jdFm G (qi Z K)) (n + 1) rc rs 4 [(0, .ref (gb G + t)), (1, .int x1), (2, .int 0), (3, .int 0)] [] Z I J) : Jd G mX8_strangersTogether (jdFm G (qi Z K)) (n + 1) rc rs 0 [(0, .ref (gb G + t)), (1, .int x1)] [] Z I J := by
  refine jd_iconst (pc := 0) (v := 0) dX8_strangersTogether_0 (by decide) ?_
  refine jd_istore_n (pc := 1) [(2, .int 0), (0, .ref (gb G + t)), (1, .int x1)] dX8_strangersTogether_1 rfl (by decide) rfl ?_
  refine jd_iconst (pc := 2) (v := 0) dX8_strangersTogether_2 (by decide) ?_
  refine jd_istore_n (pc := 3) [(3, .int 0), (2, .int 0), (0, .ref (gb G + t)), (1, .int x1)] dX8_strangersTogether_3 rfl (by decide) rfl ?_
  exact jd_lv (lv2 := [(0, .ref (gb G + t)), (1, .int x1), (2, .int 0), (3, .int 0)]) [2, 3, 1, 0] rfl h
set_option maxRecDepth 4000 in
theorem rX8_strangersTogether_4 {G : jdG} {n rc rs : Nat} {Z : jdL} {I : jdI} {J : jdJ} {K : Int32 → jdI → jdJ → Prop} {t : Nat} {x1 : Int32} {x2 : Int32} {x3 : Int32} (ht : zTies Z t) (h : (((I t 6) ≤ x3 → K x2 I J) ∧ (¬ (I t 6) ≤ x3 → (vp_in x3 8 ∧ Cl G mJ6_bitCount_0f7a4 n 0 0 [.int (I (t + 1) (Int32.toNatClampNeg x3))] Z I J (qi Z (fun v3 I2 J2 => Jd G mX8_strangersTogether (jdFm G (qi Z K)) (n + 1) rc rs 4 [(0, .ref (gb G + t)), (1, .int x1), (2, .int (x2 + (((x1 >>> (x3 &&& 31)) &&& 1) * v3))), (3, .int (x3 + 1))] [] Z I2 J2)))))) : Jd G mX8_strangersTogether (jdFm G (qi Z K)) (n + 1) rc rs 4 [(0, .ref (gb G + t)), (1, .int x1), (2, .int x2), (3, .int x3)] [] Z I J := by
  refine jd_iload_n (pc := 4) 3 dX8_strangersTogether_4 rfl rfl ?_
  refine jd_aload_n (pc := 5) 0 dX8_strangersTogether_5 rfl rfl ?_
  refine jd_getI (pc := 6) (ci := 7) (k := 6) gX8_36 ht.1 rfl dX8_strangersTogether_6 ?_
  refine jd_icmp_ge (pc := 9) 36 dX8_strangersTogether_9 (by decide) (fun hc => ?_) (fun hc => ?_)
  · have h := h.1 hc
    refine jd_iload_n (pc := 36) 2 dX8_strangersTogether_36 rfl rfl ?_
    exact jd_iretK (pc := 37) rfl rfl dX8_strangersTogether_37 h
  · have h := h.2 hc
    refine jd_iload_n (pc := 12) 2 dX8_strangersTogether_12 rfl rfl ?_
    refine jd_iload_n (pc := 13) 1 dX8_strangersTogether_13 rfl rfl ?_
    refine jd_iload_n (pc := 14) 3 dX8_strangersTogether_14 rfl rfl ?_
    refine jd_ishr (pc := 15) dX8_strangersTogether_15 ?_
    refine jd_iconst (pc := 16) (v := 1) dX8_strangersTogether_16 (by decide) ?_
    refine jd_iand (pc := 17) dX8_strangersTogether_17 ?_
    refine jd_aload_n (pc := 18) 0 dX8_strangersTogether_18 rfl rfl ?_
    refine jd_getR (pc := 19) (ci := 7) (k := 0) (r := (t + 1)) gX8_11 ht.1 rfl (zTies_p0 ht) dX8_strangersTogether_19 ?_
    refine jd_iload_n (pc := 22) 3 dX8_strangersTogether_22 rfl rfl ?_
    obtain ⟨hv1, h⟩ := h
    refine jd_iald (pc := 23) (len := 8) (zTies_a0 ht) hv1 dX8_strangersTogether_23 ?_
    refine jd_callSi (pc := 24) (M2 := mJ6_bitCount_0f7a4) (av := [.int (I (t + 1) (Int32.toNatClampNeg x3))]) kJ6_bitCount_0f7a4 sJ6_bitCount_0f7a4 lX8_73 rfl rfl (Nat.le_of_ble_eq_true rfl) dX8_strangersTogether_24 h ?_
    intro v3 I2 J2 h
    refine jd_imul (pc := 27) dX8_strangersTogether_27 ?_
    refine jd_iadd (pc := 28) dX8_strangersTogether_28 ?_
    refine jd_istore_n (pc := 29) [(2, .int (x2 + (((x1 >>> (x3 &&& 31)) &&& 1) * v3))), (0, .ref (gb G + t)), (1, .int x1), (3, .int x3)] dX8_strangersTogether_29 rfl (by decide) rfl ?_
    refine jd_iinc (pc := 30) (v := (x3 + 1)) 3 [(3, .int (x3 + 1)), (2, .int (x2 + (((x1 >>> (x3 &&& 31)) &&& 1) * v3))), (0, .ref (gb G + t)), (1, .int x1)] dX8_strangersTogether_30 rfl rfl (by decide) rfl ?_
    refine jd_goto (pc := 33) 4 dX8_strangersTogether_33 (by decide) ?_
    exact jd_lv (lv2 := [(0, .ref (gb G + t)), (1, .int x1), (2, .int (x2 + (((x1 >>> (x3 &&& 31)) &&& 1) * v3))), (3, .int (x3 + 1))]) [2, 3, 1, 0] rfl h
theorem eX8_strangersTogether {G : jdG} {n : Nat} {Z : jdL} {I : jdI} {J : jdJ} {K : Int32 → jdI → jdJ → Prop} {t : Nat} {x1 : Int32} (ht : zTies Z t) (h : Jd G mX8_strangersTogether (jdFm G (qi Z K)) (n + 1) 0 0 4 [(0, .ref (gb G + t)), (1, .int x1), (2, .int 0), (3, .int 0)] [] Z I J) : Cl G mX8_strangersTogether (n + 1) 0 0 [.ref (gb G + t), .int x1] Z I J (qi Z K) :=
  Cl.of (by decide +kernel) (Nat.le_of_ble_eq_true rfl) (rX8_strangersTogether_0 ht h)
set_option maxRecDepth 4000 in
theorem rX8_closest_0 {G : jdG} {n rc rs : Nat} {Z : jdL} {I : jdI} {J : jdJ} {K : Int32 → jdI → jdJ → Prop} {t : Nat} (ht : zTies Z t) (h : Jd G mX8_closest (jdFm G (qi Z K)) (n + 1) rc rs 6 [(0, .ref (gb G + t)), (1, .int (-1)), (2, .int (-1)), (3, .int 0)] [] Z I J) : Jd G mX8_closest (jdFm G (qi Z K)) (n + 1) rc rs 0 [(0, .ref (gb G + t))] [] Z I J := by
  refine jd_iconst (pc := 0) (v := (-1)) dX8_closest_0 (by decide) ?_
  refine jd_istore_n (pc := 1) [(1, .int (-1)), (0, .ref (gb G + t))] dX8_closest_1 rfl (by decide) rfl ?_
  refine jd_iconst (pc := 2) (v := (-1)) dX8_closest_2 (by decide) ?_
  refine jd_istore_n (pc := 3) [(2, .int (-1)), (1, .int (-1)), (0, .ref (gb G + t))] dX8_closest_3 rfl (by decide) rfl ?_
  refine jd_iconst (pc := 4) (v := 0) dX8_closest_4 (by decide) ?_
  refine jd_istore_n (pc := 5) [(3, .int 0), (2, .int (-1)), (1, .int (-1)), (0, .ref (gb G + t))] dX8_closest_5 rfl (by decide) rfl ?_
  exact jd_lv (lv2 := [(0, .ref (gb G + t)), (1, .int (-1)), (2, .int (-1)), (3, .int 0)]) [3, 2, 1, 0] rfl h
set_option maxRecDepth 4000 in
theorem rX8_closest_6 {G : jdG} {n rc rs : Nat} {Z : jdL} {I : jdI} {J : jdJ} {K : Int32 → jdI → jdJ → Prop} {t : Nat} {x1 : Int32} {x2 : Int32} {x3 : Int32} (ht : zTies Z t) (h : (((I t 6) ≤ x3 → K x1 I J) ∧ (¬ (I t 6) ≤ x3 → Jd G mX8_closest (jdFm G (qi Z K)) (n + 1) rc rs 19 [(0, .ref (gb G + t)), (1, .int x1), (2, .int x2), (3, .int x3), (4, .int (x3 + 1))] [] Z I J))) : Jd G mX8_closest (jdFm G (qi Z K)) (n + 1) rc rs 6 [(0, .ref (gb G + t)), (1, .int x1), (2, .int x2), (3, .int x3)] [] Z I J := by
  refine jd_iload_n (pc := 6) 3 dX8_closest_6 rfl rfl ?_
  refine jd_aload_n (pc := 7) 0 dX8_closest_7 rfl rfl ?_
  refine jd_getI (pc := 8) (ci := 7) (k := 6) gX8_36 ht.1 rfl dX8_closest_8 ?_
  refine jd_icmp_ge (pc := 11) 85 dX8_closest_11 (by decide) (fun hc => ?_) (fun hc => ?_)
  · have h := h.1 hc
    refine jd_iload_n (pc := 85) 1 dX8_closest_85 rfl rfl ?_
    exact jd_iretK (pc := 86) rfl rfl dX8_closest_86 h
  · have h := h.2 hc
    refine jd_iload_n (pc := 14) 3 dX8_closest_14 rfl rfl ?_
    refine jd_iconst (pc := 15) (v := 1) dX8_closest_15 (by decide) ?_
    refine jd_iadd (pc := 16) dX8_closest_16 ?_
    refine jd_istore (pc := 17) [(4, .int (x3 + 1)), (0, .ref (gb G + t)), (1, .int x1), (2, .int x2), (3, .int x3)] dX8_closest_17 (by decide) rfl ?_
    exact jd_lv (lv2 := [(0, .ref (gb G + t)), (1, .int x1), (2, .int x2), (3, .int x3), (4, .int (x3 + 1))]) [1, 2, 3, 4, 0] rfl h
set_option maxRecDepth 4000 in
theorem rX8_closest_19 {G : jdG} {n rc rs : Nat} {Z : jdL} {I : jdI} {J : jdJ} {K : Int32 → jdI → jdJ → Prop} {t : Nat} {x1 : Int32} {x2 : Int32} {x3 : Int32} {x4 : Int32} (ht : zTies Z t) (h : (((I t 6) ≤ x4 → Jd G mX8_closest (jdFm G (qi Z K)) (n + 1) rc rs 6 [(0, .ref (gb G + t)), (1, .int x1), (2, .int x2), (3, .int (x3 + 1))] [] Z I J) ∧ (¬ (I t 6) ≤ x4 → (vp_in x3 8 ∧ (((((I (t + 1) (Int32.toNatClampNeg x3)) >>> (x4 &&& 31)) &&& 1) = 0 → Jd G mX8_closest (jdFm G (qi Z K)) (n + 1) rc rs 19 [(0, .ref (gb G + t)), (1, .int x1), (2, .int x2), (3, .int x3), (4, .int (x4 + 1))] [] Z I J) ∧ (¬ (((I (t + 1) (Int32.toNatClampNeg x3)) >>> (x4 &&& 31)) &&& 1) = 0 → Cl G mX8_countWith n 0 0 [.ref (gb G + t), .int ((1 <<< (x3 &&& 31)) ||| (1 <<< (x4 &&& 31)))] Z I J (qi Z (fun v3 I2 J2 => ((v3 ≤ x2 → Jd G mX8_closest (jdFm G (qi Z K)) (n + 1) rc rs 19 [(0, .ref (gb G + t)), (1, .int x1), (2, .int x2), (3, .int x3), (4, .int (x4 + 1))] [] Z I2 J2) ∧ (¬ v3 ≤ x2 → Jd G mX8_closest (jdFm G (qi Z K)) (n + 1) rc rs 19 [(0, .ref (gb G + t)), (1, .int ((10 * x3) + x4)), (2, .int v3), (3, .int x3), (4, .int (x4 + 1))] [] Z I2 J2)))))))))) : Jd G mX8_closest (jdFm G (qi Z K)) (n + 1) rc rs 19 [(0, .ref (gb G + t)), (1, .int x1), (2, .int x2), (3, .int x3), (4, .int x4)] [] Z I J := by
  refine jd_iload (pc := 19) 4 dX8_closest_19 rfl ?_
  refine jd_aload_n (pc := 21) 0 dX8_closest_21 rfl rfl ?_
  refine jd_getI (pc := 22) (ci := 7) (k := 6) gX8_36 ht.1 rfl dX8_closest_22 ?_
  refine jd_icmp_ge (pc := 25) 79 dX8_closest_25 (by decide) (fun hc => ?_) (fun hc => ?_)
  · have h := h.1 hc
    refine jd_iinc (pc := 79) (v := (x3 + 1)) 3 [(3, .int (x3 + 1)), (0, .ref (gb G + t)), (1, .int x1), (2, .int x2), (4, .int x4)] dX8_closest_79 rfl rfl (by decide) rfl ?_
    refine jd_goto (pc := 82) 6 dX8_closest_82 (by decide) ?_
    exact jd_lv (lv2 := [(0, .ref (gb G + t)), (1, .int x1), (2, .int x2), (3, .int (x3 + 1))]) [1, 2, 3, 0] rfl h
  · have h := h.2 hc
    refine jd_aload_n (pc := 28) 0 dX8_closest_28 rfl rfl ?_
    refine jd_getR (pc := 29) (ci := 7) (k := 0) (r := (t + 1)) gX8_11 ht.1 rfl (zTies_p0 ht) dX8_closest_29 ?_
    refine jd_iload_n (pc := 32) 3 dX8_closest_32 rfl rfl ?_
    obtain ⟨hv1, h⟩ := h
    refine jd_iald (pc := 33) (len := 8) (zTies_a0 ht) hv1 dX8_closest_33 ?_
    refine jd_iload (pc := 34) 4 dX8_closest_34 rfl ?_
    refine jd_ishr (pc := 36) dX8_closest_36 ?_
    refine jd_iconst (pc := 37) (v := 1) dX8_closest_37 (by decide) ?_
    refine jd_iand (pc := 38) dX8_closest_38 ?_
    refine jd_if_eq (pc := 39) 73 dX8_closest_39 (by decide) (fun hc => ?_) (fun hc => ?_)
    · have h := h.1 hc
      refine jd_iinc (pc := 73) (v := (x4 + 1)) 4 [(4, .int (x4 + 1)), (0, .ref (gb G + t)), (1, .int x1), (2, .int x2), (3, .int x3)] dX8_closest_73 rfl rfl (by decide) rfl ?_
      refine jd_goto (pc := 76) 19 dX8_closest_76 (by decide) ?_
      exact jd_lv (lv2 := [(0, .ref (gb G + t)), (1, .int x1), (2, .int x2), (3, .int x3), (4, .int (x4 + 1))]) [1, 2, 3, 4, 0] rfl h
    · have h := h.2 hc
      refine jd_aload_n (pc := 42) 0 dX8_closest_42 rfl rfl ?_
      refine jd_iconst (pc := 43) (v := 1) dX8_closest_43 (by decide) ?_
      refine jd_iload_n (pc := 44) 3 dX8_closest_44 rfl rfl ?_
      refine jd_ishl (pc := 45) dX8_closest_45 ?_
      refine jd_iconst (pc := 46) (v := 1) dX8_closest_46 (by decide) ?_
      refine jd_iload (pc := 47) 4 dX8_closest_47 rfl ?_
      refine jd_ishl (pc := 49) dX8_closest_49 ?_
      refine jd_ior (pc := 50) dX8_closest_50 ?_
      refine jd_callVi (pc := 51) (M2 := mX8_countWith) (id := t) (ci := 7) (T := TX8) (N := 11) (av := [.int ((1 <<< (x3 &&& 31)) ||| (1 <<< (x4 &&& 31)))]) kX8_countWith sX8_countWith rfl ht.1 lX8_78 rfl rfl (Nat.le_of_ble_eq_true rfl) dX8_closest_51 h ?_
      intro v3 I2 J2 h
      refine jd_istore (pc := 54) [(5, .int v3), (0, .ref (gb G + t)), (1, .int x1), (2, .int x2), (3, .int x3), (4, .int x4)] dX8_closest_54 (by decide) rfl ?_
      refine jd_iload (pc := 56) 0 dX8_closest_56 rfl ?_
      refine jd_iload_n (pc := 58) 3 dX8_closest_58 rfl rfl ?_
      refine jd_icmp_le (pc := 59) 73 dX8_closest_59 (by decide) (fun hc => ?_) (fun hc => ?_)
      · have h := h.1 hc
        refine jd_iinc (pc := 73) (v := (x4 + 1)) 5 [(4, .int (x4 + 1)), (5, .int v3), (0, .ref (gb G + t)), (1, .int x1), (2, .int x2), (3, .int x3)] dX8_closest_73 rfl rfl (by decide) rfl ?_
        refine jd_goto (pc := 76) 19 dX8_closest_76 (by decide) ?_
        exact jd_lv (lv2 := [(0, .ref (gb G + t)), (1, .int x1), (2, .int x2), (3, .int x3), (4, .int (x4 + 1))]) [2, 3, 4, 5, 0] rfl h
      · have h := h.2 hc
        refine jd_iload (pc := 62) 0 dX8_closest_62 rfl ?_
        refine jd_istore_n (pc := 64) [(2, .int v3), (5, .int v3), (0, .ref (gb G + t)), (1, .int x1), (3, .int x3), (4, .int x4)] dX8_closest_64 rfl (by decide) rfl ?_
        refine jd_bipush (pc := 65) (v := 10) dX8_closest_65 (by decide) ?_
        refine jd_iload_n (pc := 67) 4 dX8_closest_67 rfl rfl ?_
        refine jd_imul (pc := 68) dX8_closest_68 ?_
        refine jd_iload (pc := 69) 5 dX8_closest_69 rfl ?_
        refine jd_iadd (pc := 71) dX8_closest_71 ?_
        refine jd_istore_n (pc := 72) [(1, .int ((10 * x3) + x4)), (2, .int v3), (5, .int v3), (0, .ref (gb G + t)), (3, .int x3), (4, .int x4)] dX8_closest_72 rfl (by decide) rfl ?_
        refine jd_iinc (pc := 73) (v := (x4 + 1)) 5 [(4, .int (x4 + 1)), (1, .int ((10 * x3) + x4)), (2, .int v3), (5, .int v3), (0, .ref (gb G + t)), (3, .int x3)] dX8_closest_73 rfl rfl (by decide) rfl ?_
        refine jd_goto (pc := 76) 19 dX8_closest_76 (by decide) ?_
        exact jd_lv (lv2 := [(0, .ref (gb G + t)), (1, .int ((10 * x3) + x4)), (2, .int v3), (3, .int x3), (4, .int (x4 + 1))]) [4, 1, 2, 5, 0] rfl h
theorem eX8_closest {G : jdG} {n : Nat} {Z : jdL} {I : jdI} {J : jdJ} {K : Int32 → jdI → jdJ → Prop} {t : Nat} (ht : zTies Z t) (h : Jd G mX8_closest (jdFm G (qi Z K)) (n + 1) 0 0 6 [(0, .ref (gb G + t)), (1, .int (-1)), (2, .int (-1)), (3, .int 0)] [] Z I J) : Cl G mX8_closest (n + 1) 0 0 [.ref (gb G + t)] Z I J (qi Z K) :=
  Cl.of (by decide +kernel) (Nat.le_of_ble_eq_true rfl) (rX8_closest_0 ht h)
set_option maxRecDepth 4000 in
theorem rX8_pairBit_0 {G : jdG} {n rc rs : Nat} {Z : jdL} {I : jdI} {J : jdJ} {K : Int32 → jdI → jdJ → Prop} {x0 : Int32} {x1 : Int32}  (h : K (((x1 * (x1 - 1)) / 2) + x0) I J) : Jd G mX8_pairBit (jdFm G (qi Z K)) n rc rs 0 [(0, .int x0), (1, .int x1)] [] Z I J := by
  refine jd_iload_n (pc := 0) 1 dX8_pairBit_0 rfl rfl ?_
  refine jd_iload_n (pc := 1) 1 dX8_pairBit_1 rfl rfl ?_
  refine jd_iconst (pc := 2) (v := 1) dX8_pairBit_2 (by decide) ?_
  refine jd_isub (pc := 3) dX8_pairBit_3 ?_
  refine jd_imul (pc := 4) dX8_pairBit_4 ?_
  refine jd_iconst (pc := 5) (v := 2) dX8_pairBit_5 (by decide) ?_
  refine jd_idiv (pc := 6) dX8_pairBit_6 (by decide) ?_
  refine jd_iload_n (pc := 7) 0 dX8_pairBit_7 rfl rfl ?_
  refine jd_iadd (pc := 8) dX8_pairBit_8 ?_
  exact jd_iretK (pc := 9) rfl rfl dX8_pairBit_9 h
theorem eX8_pairBit {G : jdG} {n : Nat} {Z : jdL} {I : jdI} {J : jdJ} {K : Int32 → jdI → jdJ → Prop} {x0 : Int32} {x1 : Int32}  (h : K (((x1 * (x1 - 1)) / 2) + x0) I J) : Cl G mX8_pairBit (n) 0 0 [.int x0, .int x1] Z I J (qi Z K) :=
  Cl.of (by decide +kernel) (Nat.le_of_ble_eq_true rfl) (rX8_pairBit_0  h)
set_option maxRecDepth 4000 in
theorem rX8_pairsIn_0 {G : jdG} {n rc rs : Nat} {Z : jdL} {I : jdI} {J : jdJ} {K : Int32 → jdI → jdJ → Prop} {t : Nat} {x1 : Int32} (ht : zTies Z t) (h : Jd G mX8_pairsIn (jdFm G (qi Z K)) (n + 1) rc rs 4 [(0, .ref (gb G + t)), (1, .int x1), (2, .int 0), (3, .int 1)] [] Z I J) : Jd G mX8_pairsIn (jdFm G (qi Z K)) (n + 1) rc rs 0 [(0, .ref (gb G + t)), (1, .int x1)] [] Z I J := by
  refine jd_iconst (pc := 0) (v := 0) dX8_pairsIn_0 (by decide) ?_
  refine jd_istore_n (pc := 1) [(2, .int 0), (0, .ref (gb G + t)), (1, .int x1)] dX8_pairsIn_1 rfl (by decide) rfl ?_
  refine jd_iconst (pc := 2) (v := 1) dX8_pairsIn_2 (by decide) ?_
  refine jd_istore_n (pc := 3) [(3, .int 1), (2, .int 0), (0, .ref (gb G + t)), (1, .int x1)] dX8_pairsIn_3 rfl (by decide) rfl ?_
  exact jd_lv (lv2 := [(0, .ref (gb G + t)), (1, .int x1), (2, .int 0), (3, .int 1)]) [2, 3, 1, 0] rfl h
set_option maxRecDepth 4000 in
theorem rX8_pairsIn_4 {G : jdG} {n rc rs : Nat} {Z : jdL} {I : jdI} {J : jdJ} {K : Int32 → jdI → jdJ → Prop} {t : Nat} {x1 : Int32} {x2 : Int32} {x3 : Int32} (ht : zTies Z t) (h : (((I t 6) ≤ x3 → K x2 I J) ∧ (¬ (I t 6) ≤ x3 → Jd G mX8_pairsIn (jdFm G (qi Z K)) (n + 1) rc rs 15 [(0, .ref (gb G + t)), (1, .int x1), (2, .int x2), (3, .int x3), (4, .int 0)] [] Z I J))) : Jd G mX8_pairsIn (jdFm G (qi Z K)) (n + 1) rc rs 4 [(0, .ref (gb G + t)), (1, .int x1), (2, .int x2), (3, .int x3)] [] Z I J := by
  refine jd_iload_n (pc := 4) 3 dX8_pairsIn_4 rfl rfl ?_
  refine jd_aload_n (pc := 5) 0 dX8_pairsIn_5 rfl rfl ?_
  refine jd_getI (pc := 6) (ci := 7) (k := 6) gX8_36 ht.1 rfl dX8_pairsIn_6 ?_
  refine jd_icmp_ge (pc := 9) 67 dX8_pairsIn_9 (by decide) (fun hc => ?_) (fun hc => ?_)
  · have h := h.1 hc
    refine jd_iload_n (pc := 67) 2 dX8_pairsIn_67 rfl rfl ?_
    exact jd_iretK (pc := 68) rfl rfl dX8_pairsIn_68 h
  · have h := h.2 hc
    refine jd_iconst (pc := 12) (v := 0) dX8_pairsIn_12 (by decide) ?_
    refine jd_istore (pc := 13) [(4, .int 0), (0, .ref (gb G + t)), (1, .int x1), (2, .int x2), (3, .int x3)] dX8_pairsIn_13 (by decide) rfl ?_
    exact jd_lv (lv2 := [(0, .ref (gb G + t)), (1, .int x1), (2, .int x2), (3, .int x3), (4, .int 0)]) [1, 2, 3, 4, 0] rfl h
set_option maxRecDepth 4000 in
theorem rX8_pairsIn_15 {G : jdG} {n rc rs : Nat} {Z : jdL} {I : jdI} {J : jdJ} {K : Int32 → jdI → jdJ → Prop} {t : Nat} {x1 : Int32} {x2 : Int32} {x3 : Int32} {x4 : Int32} (ht : zTies Z t) (h : ((x3 ≤ x4 → Jd G mX8_pairsIn (jdFm G (qi Z K)) (n + 1) rc rs 4 [(0, .ref (gb G + t)), (1, .int x1), (2, .int x2), (3, .int (x3 + 1))] [] Z I J) ∧ (¬ x3 ≤ x4 → (vp_in x4 8 ∧ ((((((x1 >>> (x4 &&& 31)) &&& (x1 >>> (x3 &&& 31))) &&& ((I (t + 1) (Int32.toNatClampNeg x4)) >>> (x3 &&& 31))) &&& 1) = 0 → Jd G mX8_pairsIn (jdFm G (qi Z K)) (n + 1) rc rs 15 [(0, .ref (gb G + t)), (1, .int x1), (2, .int x2), (3, .int x3), (4, .int (x4 + 1))] [] Z I J) ∧ (¬ ((((x1 >>> (x4 &&& 31)) &&& (x1 >>> (x3 &&& 31))) &&& ((I (t + 1) (Int32.toNatClampNeg x4)) >>> (x3 &&& 31))) &&& 1) = 0 → Cl G mX8_pairBit n 0 0 [.int x4, .int x3] Z I J (qi Z (fun v3 I2 J2 => Jd G mX8_pairsIn (jdFm G (qi Z K)) (n + 1) rc rs 15 [(0, .ref (gb G + t)), (1, .int x1), (2, .int (x2 ||| (1 <<< (v3 &&& 31)))), (3, .int x3), (4, .int (x4 + 1))] [] Z I2 J2)))))))) : Jd G mX8_pairsIn (jdFm G (qi Z K)) (n + 1) rc rs 15 [(0, .ref (gb G + t)), (1, .int x1), (2, .int x2), (3, .int x3), (4, .int x4)] [] Z I J := by
  refine jd_iload (pc := 15) 4 dX8_pairsIn_15 rfl ?_
  refine jd_iload_n (pc := 17) 3 dX8_pairsIn_17 rfl rfl ?_
  refine jd_icmp_ge (pc := 18) 61 dX8_pairsIn_18 (by decide) (fun hc => ?_) (fun hc => ?_)
  · have h := h.1 hc
    refine jd_iinc (pc := 61) (v := (x3 + 1)) 3 [(3, .int (x3 + 1)), (0, .ref (gb G + t)), (1, .int x1), (2, .int x2), (4, .int x4)] dX8_pairsIn_61 rfl rfl (by decide) rfl ?_
    refine jd_goto (pc := 64) 4 dX8_pairsIn_64 (by decide) ?_
    exact jd_lv (lv2 := [(0, .ref (gb G + t)), (1, .int x1), (2, .int x2), (3, .int (x3 + 1))]) [1, 2, 3, 0] rfl h
  · have h := h.2 hc
    refine jd_iload_n (pc := 21) 1 dX8_pairsIn_21 rfl rfl ?_
    refine jd_iload (pc := 22) 4 dX8_pairsIn_22 rfl ?_
    refine jd_ishr (pc := 24) dX8_pairsIn_24 ?_
    refine jd_iload_n (pc := 25) 1 dX8_pairsIn_25 rfl rfl ?_
    refine jd_iload_n (pc := 26) 3 dX8_pairsIn_26 rfl rfl ?_
    refine jd_ishr (pc := 27) dX8_pairsIn_27 ?_
    refine jd_iand (pc := 28) dX8_pairsIn_28 ?_
    refine jd_aload_n (pc := 29) 0 dX8_pairsIn_29 rfl rfl ?_
    refine jd_getR (pc := 30) (ci := 7) (k := 0) (r := (t + 1)) gX8_11 ht.1 rfl (zTies_p0 ht) dX8_pairsIn_30 ?_
    refine jd_iload (pc := 33) 4 dX8_pairsIn_33 rfl ?_
    obtain ⟨hv1, h⟩ := h
    refine jd_iald (pc := 35) (len := 8) (zTies_a0 ht) hv1 dX8_pairsIn_35 ?_
    refine jd_iload_n (pc := 36) 3 dX8_pairsIn_36 rfl rfl ?_
    refine jd_ishr (pc := 37) dX8_pairsIn_37 ?_
    refine jd_iand (pc := 38) dX8_pairsIn_38 ?_
    refine jd_iconst (pc := 39) (v := 1) dX8_pairsIn_39 (by decide) ?_
    refine jd_iand (pc := 40) dX8_pairsIn_40 ?_
    refine jd_if_eq (pc := 41) 55 dX8_pairsIn_41 (by decide) (fun hc => ?_) (fun hc => ?_)
    · have h := h.1 hc
      refine jd_iinc (pc := 55) (v := (x4 + 1)) 4 [(4, .int (x4 + 1)), (0, .ref (gb G + t)), (1, .int x1), (2, .int x2), (3, .int x3)] dX8_pairsIn_55 rfl rfl (by decide) rfl ?_
      refine jd_goto (pc := 58) 15 dX8_pairsIn_58 (by decide) ?_
      exact jd_lv (lv2 := [(0, .ref (gb G + t)), (1, .int x1), (2, .int x2), (3, .int x3), (4, .int (x4 + 1))]) [1, 2, 3, 4, 0] rfl h
    · have h := h.2 hc
      refine jd_iload_n (pc := 44) 2 dX8_pairsIn_44 rfl rfl ?_
      refine jd_iconst (pc := 45) (v := 1) dX8_pairsIn_45 (by decide) ?_
      refine jd_iload (pc := 46) 4 dX8_pairsIn_46 rfl ?_
      refine jd_iload_n (pc := 48) 3 dX8_pairsIn_48 rfl rfl ?_
      refine jd_callSi (pc := 49) (M2 := mX8_pairBit) (av := [.int x4, .int x3]) kX8_pairBit sX8_pairBit lX8_81 rfl rfl (Nat.le_of_ble_eq_true rfl) dX8_pairsIn_49 h ?_
      intro v3 I2 J2 h
      refine jd_ishl (pc := 52) dX8_pairsIn_52 ?_
      refine jd_ior (pc := 53) dX8_pairsIn_53 ?_
      refine jd_istore_n (pc := 54) [(2, .int (x2 ||| (1 <<< (v3 &&& 31)))), (0, .ref (gb G + t)), (1, .int x1), (3, .int x3), (4, .int x4)] dX8_pairsIn_54 rfl (by decide) rfl ?_
      refine jd_iinc (pc := 55) (v := (x4 + 1)) 4 [(4, .int (x4 + 1)), (2, .int (x2 ||| (1 <<< (v3 &&& 31)))), (0, .ref (gb G + t)), (1, .int x1), (3, .int x3)] dX8_pairsIn_55 rfl rfl (by decide) rfl ?_
      refine jd_goto (pc := 58) 15 dX8_pairsIn_58 (by decide) ?_
      exact jd_lv (lv2 := [(0, .ref (gb G + t)), (1, .int x1), (2, .int (x2 ||| (1 <<< (v3 &&& 31)))), (3, .int x3), (4, .int (x4 + 1))]) [2, 3, 1, 4, 0] rfl h
theorem eX8_pairsIn {G : jdG} {n : Nat} {Z : jdL} {I : jdI} {J : jdJ} {K : Int32 → jdI → jdJ → Prop} {t : Nat} {x1 : Int32} (ht : zTies Z t) (h : Jd G mX8_pairsIn (jdFm G (qi Z K)) (n + 1) 0 0 4 [(0, .ref (gb G + t)), (1, .int x1), (2, .int 0), (3, .int 1)] [] Z I J) : Cl G mX8_pairsIn (n + 1) 0 0 [.ref (gb G + t), .int x1] Z I J (qi Z K) :=
  Cl.of (by decide +kernel) (Nat.le_of_ble_eq_true rfl) (rX8_pairsIn_0 ht h)
set_option maxRecDepth 4000 in
theorem rX8_listPairs_0 {G : jdG} {n rc rs : Nat} {Z : jdL} {I : jdI} {J : jdJ} {K : Int32 → jdI → jdJ → Prop} {t : Nat} {x1 : Int32} (ht : zTies Z t) (h : Jd G mX8_listPairs (jdFm G (qi Z K)) (n + 1) rc rs 4 [(0, .ref (gb G + t)), (1, .int x1), (2, .int 0), (3, .int 0)] [] Z I J) : Jd G mX8_listPairs (jdFm G (qi Z K)) (n + 1) rc rs 0 [(0, .ref (gb G + t)), (1, .int x1)] [] Z I J := by
  refine jd_iconst (pc := 0) (v := 0) dX8_listPairs_0 (by decide) ?_
  refine jd_istore_n (pc := 1) [(2, .int 0), (0, .ref (gb G + t)), (1, .int x1)] dX8_listPairs_1 rfl (by decide) rfl ?_
  refine jd_iconst (pc := 2) (v := 0) dX8_listPairs_2 (by decide) ?_
  refine jd_istore_n (pc := 3) [(3, .int 0), (2, .int 0), (0, .ref (gb G + t)), (1, .int x1)] dX8_listPairs_3 rfl (by decide) rfl ?_
  exact jd_lv (lv2 := [(0, .ref (gb G + t)), (1, .int x1), (2, .int 0), (3, .int 0)]) [2, 3, 1, 0] rfl h
set_option maxRecDepth 4000 in
theorem rX8_listPairs_4 {G : jdG} {n rc rs : Nat} {Z : jdL} {I : jdI} {J : jdJ} {K : Int32 → jdI → jdJ → Prop} {t : Nat} {x1 : Int32} {x2 : Int32} {x3 : Int32} (ht : zTies Z t) (h : (((I t 8) ≤ x3 → K x2 I J) ∧ (¬ (I t 8) ≤ x3 → (vp_in x3 70 ∧ (vp_in x3 70 ∧ ((¬ ((I (t + 3) (Int32.toNatClampNeg x3)) &&& x1) = (I (t + 3) (Int32.toNatClampNeg x3)) → Jd G mX8_listPairs (jdFm G (qi Z K)) (n + 1) rc rs 4 [(0, .ref (gb G + t)), (1, .int x1), (2, .int x2), (3, .int (x3 + 1))] [] Z I J) ∧ (((I (t + 3) (Int32.toNatClampNeg x3)) &&& x1) = (I (t + 3) (Int32.toNatClampNeg x3)) → (vp_in x3 70 ∧ Cl G mX8_pairsIn n 0 0 [.ref (gb G + t), .int (I (t + 3) (Int32.toNatClampNeg x3))] Z I J (qi Z (fun v5 I4 J4 => (vp_in x2 70 ∧ Jd G mX8_listPairs (jdFm G (qi Z K)) (n + 1) rc rs 4 [(0, .ref (gb G + t)), (1, .int x1), (2, .int (x2 + 1)), (3, .int (x3 + 1))] [] Z (uI I4 (t + 4) (Int32.toNatClampNeg x2) v5) J4))))))))))) : Jd G mX8_listPairs (jdFm G (qi Z K)) (n + 1) rc rs 4 [(0, .ref (gb G + t)), (1, .int x1), (2, .int x2), (3, .int x3)] [] Z I J := by
  refine jd_iload_n (pc := 4) 3 dX8_listPairs_4 rfl rfl ?_
  refine jd_aload_n (pc := 5) 0 dX8_listPairs_5 rfl rfl ?_
  refine jd_getI (pc := 6) (ci := 7) (k := 8) gX8_53 ht.1 rfl dX8_listPairs_6 ?_
  refine jd_icmp_ge (pc := 9) 54 dX8_listPairs_9 (by decide) (fun hc => ?_) (fun hc => ?_)
  · have h := h.1 hc
    refine jd_iload_n (pc := 54) 2 dX8_listPairs_54 rfl rfl ?_
    exact jd_iretK (pc := 55) rfl rfl dX8_listPairs_55 h
  · have h := h.2 hc
    refine jd_aload_n (pc := 12) 0 dX8_listPairs_12 rfl rfl ?_
    refine jd_getR (pc := 13) (ci := 7) (k := 2) (r := (t + 3)) gX8_18 ht.1 rfl (zTies_p2 ht) dX8_listPairs_13 ?_
    refine jd_iload_n (pc := 16) 3 dX8_listPairs_16 rfl rfl ?_
    obtain ⟨hv1, h⟩ := h
    refine jd_iald (pc := 17) (len := 70) (zTies_a2 ht) hv1 dX8_listPairs_17 ?_
    refine jd_iload_n (pc := 18) 1 dX8_listPairs_18 rfl rfl ?_
    refine jd_iand (pc := 19) dX8_listPairs_19 ?_
    refine jd_aload_n (pc := 20) 0 dX8_listPairs_20 rfl rfl ?_
    refine jd_getR (pc := 21) (ci := 7) (k := 2) (r := (t + 3)) gX8_18 ht.1 rfl (zTies_p2 ht) dX8_listPairs_21 ?_
    refine jd_iload_n (pc := 24) 3 dX8_listPairs_24 rfl rfl ?_
    obtain ⟨hv2, h⟩ := h
    refine jd_iald (pc := 25) (len := 70) (zTies_a2 ht) hv2 dX8_listPairs_25 ?_
    refine jd_icmp_ne (pc := 26) 48 dX8_listPairs_26 (by decide) (fun hc => ?_) (fun hc => ?_)
    · have h := h.1 hc
      refine jd_iinc (pc := 48) (v := (x3 + 1)) 3 [(3, .int (x3 + 1)), (0, .ref (gb G + t)), (1, .int x1), (2, .int x2)] dX8_listPairs_48 rfl rfl (by decide) rfl ?_
      refine jd_goto (pc := 51) 4 dX8_listPairs_51 (by decide) ?_
      exact jd_lv (lv2 := [(0, .ref (gb G + t)), (1, .int x1), (2, .int x2), (3, .int (x3 + 1))]) [1, 2, 3, 0] rfl h
    · have h := h.2 hc
      refine jd_aload_n (pc := 29) 0 dX8_listPairs_29 rfl rfl ?_
      refine jd_getR (pc := 30) (ci := 7) (k := 3) (r := (t + 4)) gX8_21 ht.1 rfl (zTies_p3 ht) dX8_listPairs_30 ?_
      refine jd_iload_n (pc := 33) 2 dX8_listPairs_33 rfl rfl ?_
      refine jd_aload_n (pc := 34) 0 dX8_listPairs_34 rfl rfl ?_
      refine jd_aload_n (pc := 35) 0 dX8_listPairs_35 rfl rfl ?_
      refine jd_getR (pc := 36) (ci := 7) (k := 2) (r := (t + 3)) gX8_18 ht.1 rfl (zTies_p2 ht) dX8_listPairs_36 ?_
      refine jd_iload_n (pc := 39) 3 dX8_listPairs_39 rfl rfl ?_
      obtain ⟨hv3, h⟩ := h
      refine jd_iald (pc := 40) (len := 70) (zTies_a2 ht) hv3 dX8_listPairs_40 ?_
      refine jd_callVi (pc := 41) (M2 := mX8_pairsIn) (id := t) (ci := 7) (T := TX8) (N := 11) (av := [.int (I (t + 3) (Int32.toNatClampNeg x3))]) kX8_pairsIn sX8_pairsIn rfl ht.1 lX8_85 rfl rfl (Nat.le_of_ble_eq_true rfl) dX8_listPairs_41 h ?_
      intro v5 I4 J4 h
      obtain ⟨hv6, h⟩ := h
      refine jd_iast (pc := 44) (len := 70) (zTies_a3 ht) hv6 dX8_listPairs_44 ?_
      refine jd_iinc (pc := 45) (v := (x2 + 1)) 2 [(2, .int (x2 + 1)), (0, .ref (gb G + t)), (1, .int x1), (3, .int x3)] dX8_listPairs_45 rfl rfl (by decide) rfl ?_
      refine jd_iinc (pc := 48) (v := (x3 + 1)) 3 [(3, .int (x3 + 1)), (2, .int (x2 + 1)), (0, .ref (gb G + t)), (1, .int x1)] dX8_listPairs_48 rfl rfl (by decide) rfl ?_
      refine jd_goto (pc := 51) 4 dX8_listPairs_51 (by decide) ?_
      exact jd_lv (lv2 := [(0, .ref (gb G + t)), (1, .int x1), (2, .int (x2 + 1)), (3, .int (x3 + 1))]) [2, 3, 1, 0] rfl h
theorem eX8_listPairs {G : jdG} {n : Nat} {Z : jdL} {I : jdI} {J : jdJ} {K : Int32 → jdI → jdJ → Prop} {t : Nat} {x1 : Int32} (ht : zTies Z t) (h : Jd G mX8_listPairs (jdFm G (qi Z K)) (n + 1) 0 0 4 [(0, .ref (gb G + t)), (1, .int x1), (2, .int 0), (3, .int 0)] [] Z I J) : Cl G mX8_listPairs (n + 1) 0 0 [.ref (gb G + t), .int x1] Z I J (qi Z K) :=
  Cl.of (by decide +kernel) (Nat.le_of_ble_eq_true rfl) (rX8_listPairs_0 ht h)
set_option maxRecDepth 4000 in
theorem rX8_longest_0 {G : jdG} {n rc rs : Nat} {Z : jdL} {I : jdI} {J : jdJ} {K : Int32 → jdI → jdJ → Prop} {t : Nat} (ht : zTies Z t) (h : ((¬ (I t 7) = 2 → Cl G mX8_everybody n 0 0 [.ref (gb G + t)] Z I J (qi Z (fun v2 I1 J1 => Cl G mX8_listPairs n 0 0 [.ref (gb G + t), .int v2] Z I1 J1 (qi Z (fun v4 I3 J3 => Cl G mX8_everybody n 0 0 [.ref (gb G + t)] Z (uI I3 t 9 0) J3 (qi Z (fun v6 I5 J5 => Cl G mX8_pairsIn n 0 0 [.ref (gb G + t), .int v6] Z I5 J5 (qi Z (fun v8 I7 J7 => Cl G mX8_lengthen n 0 0 [.ref (gb G + t), .int v8, .int 0, .int 0] Z I7 J7 (qv Z (fun I9 J9 => K (I9 t 9) I9 J9))))))))))) ∧ ((I t 7) = 2 → K (I t 8) I J))) : Jd G mX8_longest (jdFm G (qi Z K)) (n + 1) rc rs 0 [(0, .ref (gb G + t))] [] Z I J := by
  refine jd_aload_n (pc := 0) 0 dX8_longest_0 rfl rfl ?_
  refine jd_getI (pc := 1) (ci := 7) (k := 7) gX8_40 ht.1 rfl dX8_longest_1 ?_
  refine jd_iconst (pc := 4) (v := 2) dX8_longest_4 (by decide) ?_
  refine jd_icmp_ne (pc := 5) 13 dX8_longest_5 (by decide) (fun hc => ?_) (fun hc => ?_)
  · have h := h.1 hc
    refine jd_aload_n (pc := 13) 0 dX8_longest_13 rfl rfl ?_
    refine jd_aload_n (pc := 14) 0 dX8_longest_14 rfl rfl ?_
    refine jd_callVi (pc := 15) (M2 := mX8_everybody) (id := t) (ci := 7) (T := TX8) (N := 11) (av := []) kX8_everybody sX8_everybody rfl ht.1 lX8_49 rfl rfl (Nat.le_of_ble_eq_true rfl) dX8_longest_15 h ?_
    intro v2 I1 J1 h
    refine jd_callVi (pc := 18) (M2 := mX8_listPairs) (id := t) (ci := 7) (T := TX8) (N := 11) (av := [.int v2]) kX8_listPairs sX8_listPairs rfl ht.1 lX8_88 rfl rfl (Nat.le_of_ble_eq_true rfl) dX8_longest_18 h ?_
    intro v4 I3 J3 h
    refine jd_pop (pc := 21) dX8_longest_21 rfl ?_
    refine jd_aload_n (pc := 22) 0 dX8_longest_22 rfl rfl ?_
    refine jd_iconst (pc := 23) (v := 0) dX8_longest_23 (by decide) ?_
    refine jd_putI (pc := 24) (ci := 7) (k := 9) pX8_91 ht.1 rfl rfl rfl dX8_longest_24 ?_
    refine jd_aload_n (pc := 27) 0 dX8_longest_27 rfl rfl ?_
    refine jd_aload_n (pc := 28) 0 dX8_longest_28 rfl rfl ?_
    refine jd_aload_n (pc := 29) 0 dX8_longest_29 rfl rfl ?_
    refine jd_callVi (pc := 30) (M2 := mX8_everybody) (id := t) (ci := 7) (T := TX8) (N := 11) (av := []) kX8_everybody sX8_everybody rfl ht.1 lX8_49 rfl rfl (Nat.le_of_ble_eq_true rfl) dX8_longest_30 h ?_
    intro v6 I5 J5 h
    refine jd_callVi (pc := 33) (M2 := mX8_pairsIn) (id := t) (ci := 7) (T := TX8) (N := 11) (av := [.int v6]) kX8_pairsIn sX8_pairsIn rfl ht.1 lX8_85 rfl rfl (Nat.le_of_ble_eq_true rfl) dX8_longest_33 h ?_
    intro v8 I7 J7 h
    refine jd_iconst (pc := 36) (v := 0) dX8_longest_36 (by decide) ?_
    refine jd_iconst (pc := 37) (v := 0) dX8_longest_37 (by decide) ?_
    refine jd_callVv (pc := 38) (M2 := mX8_lengthen) (id := t) (ci := 7) (T := TX8) (N := 11) (av := [.int v8, .int 0, .int 0]) kX8_lengthen sX8_lengthen rfl ht.1 lX8_94 rfl rfl (Nat.le_of_ble_eq_true rfl) dX8_longest_38 h ?_
    intro I9 J9 h
    refine jd_aload_n (pc := 41) 0 dX8_longest_41 rfl rfl ?_
    refine jd_getI (pc := 42) (ci := 7) (k := 9) gX8_91 ht.1 rfl dX8_longest_42 ?_
    exact jd_iretK (pc := 45) rfl rfl dX8_longest_45 h
  · have h := h.2 hc
    refine jd_aload_n (pc := 8) 0 dX8_longest_8 rfl rfl ?_
    refine jd_getI (pc := 9) (ci := 7) (k := 8) gX8_53 ht.1 rfl dX8_longest_9 ?_
    exact jd_iretK (pc := 12) rfl rfl dX8_longest_12 h
theorem eX8_longest {G : jdG} {n : Nat} {Z : jdL} {I : jdI} {J : jdJ} {K : Int32 → jdI → jdJ → Prop} {t : Nat} (ht : zTies Z t) (h : ((¬ (I t 7) = 2 → Cl G mX8_everybody n 0 0 [.ref (gb G + t)] Z I J (qi Z (fun v2 I1 J1 => Cl G mX8_listPairs n 0 0 [.ref (gb G + t), .int v2] Z I1 J1 (qi Z (fun v4 I3 J3 => Cl G mX8_everybody n 0 0 [.ref (gb G + t)] Z (uI I3 t 9 0) J3 (qi Z (fun v6 I5 J5 => Cl G mX8_pairsIn n 0 0 [.ref (gb G + t), .int v6] Z I5 J5 (qi Z (fun v8 I7 J7 => Cl G mX8_lengthen n 0 0 [.ref (gb G + t), .int v8, .int 0, .int 0] Z I7 J7 (qv Z (fun I9 J9 => K (I9 t 9) I9 J9))))))))))) ∧ ((I t 7) = 2 → K (I t 8) I J))) : Cl G mX8_longest (n + 1) 0 0 [.ref (gb G + t)] Z I J (qi Z K) :=
  Cl.of (by decide +kernel) (Nat.le_of_ble_eq_true rfl) (rX8_longest_0 ht h)
set_option maxRecDepth 4000 in
theorem rX8_lengthen_0 {G : jdG} {n rc rs : Nat} {Z : jdL} {I : jdI} {J : jdJ} {K : jdI → jdJ → Prop} {t : Nat} {x1 : Int32} {x2 : Int32} {x3 : Int32} (ht : zTies Z t) (h : ((x3 < 28 → Jd G mX8_lengthen (jdFm G (qv Z K)) (n + 1) rc rs 37 [(0, .ref (gb G + t)), (1, .int x1), (2, .int x2), (3, .int x3), (4, .int (((I t 7) * ((I t 7) - 1)) / 2)), (5, .int x2)] [] Z (uI I t 9 (if (I t 9) < x3 then x3 else (I t 9))) J) ∧ (¬ x3 < 28 → K (uI I t 9 (if (I t 9) < x3 then x3 else (I t 9))) J))) : Jd G mX8_lengthen (jdFm G (qv Z K)) (n + 1) rc rs 0 [(0, .ref (gb G + t)), (1, .int x1), (2, .int x2), (3, .int x3)] [] Z I J := by
  refine jd_aload_n (pc := 0) 0 dX8_lengthen_0 rfl rfl ?_
  refine jd_aload_n (pc := 1) 0 dX8_lengthen_1 rfl rfl ?_
  refine jd_getI (pc := 2) (ci := 7) (k := 9) gX8_91 ht.1 rfl dX8_lengthen_2 ?_
  refine jd_iload_n (pc := 5) 3 dX8_lengthen_5 rfl rfl ?_
  refine jd_max (pc := 6) xX8_97 (Nat.le_of_ble_eq_true rfl) dX8_lengthen_6 ?_
  refine jd_putI (pc := 9) (ci := 7) (k := 9) pX8_91 ht.1 rfl rfl rfl dX8_lengthen_9 ?_
  refine jd_iload_n (pc := 12) 3 dX8_lengthen_12 rfl rfl ?_
  refine jd_bipush (pc := 13) (v := 28) dX8_lengthen_13 (by decide) ?_
  refine jd_icmp_lt (pc := 15) 19 dX8_lengthen_15 (by decide) (fun hc => ?_) (fun hc => ?_)
  · have h := h.1 hc
    refine jd_aload_n (pc := 19) 0 dX8_lengthen_19 rfl rfl ?_
    refine jd_getIe (pc := 20) (ci := 7) (k := 7) (e := (I t 7)) (uI_sk (by decide) rfl) gX8_40 ht.1 rfl dX8_lengthen_20 ?_
    refine jd_aload_n (pc := 23) 0 dX8_lengthen_23 rfl rfl ?_
    refine jd_getIe (pc := 24) (ci := 7) (k := 7) (e := (I t 7)) (uI_sk (by decide) rfl) gX8_40 ht.1 rfl dX8_lengthen_24 ?_
    refine jd_iconst (pc := 27) (v := 1) dX8_lengthen_27 (by decide) ?_
    refine jd_isub (pc := 28) dX8_lengthen_28 ?_
    refine jd_imul (pc := 29) dX8_lengthen_29 ?_
    refine jd_iconst (pc := 30) (v := 2) dX8_lengthen_30 (by decide) ?_
    refine jd_idiv (pc := 31) dX8_lengthen_31 (by decide) ?_
    refine jd_istore (pc := 32) [(4, .int (((I t 7) * ((I t 7) - 1)) / 2)), (0, .ref (gb G + t)), (1, .int x1), (2, .int x2), (3, .int x3)] dX8_lengthen_32 (by decide) rfl ?_
    refine jd_iload_n (pc := 34) 3 dX8_lengthen_34 rfl rfl ?_
    refine jd_istore (pc := 35) [(5, .int x2), (4, .int (((I t 7) * ((I t 7) - 1)) / 2)), (0, .ref (gb G + t)), (1, .int x1), (2, .int x2), (3, .int x3)] dX8_lengthen_35 (by decide) rfl ?_
    exact jd_lv (lv2 := [(0, .ref (gb G + t)), (1, .int x1), (2, .int x2), (3, .int x3), (4, .int (((I t 7) * ((I t 7) - 1)) / 2)), (5, .int x2)]) [2, 3, 4, 5, 1, 0] rfl h
  · have h := h.2 hc
    exact jd_vretK (pc := 18) rfl dX8_lengthen_18 h
set_option maxRecDepth 4000 in
theorem rX8_lengthen_37 {G : jdG} {n rc rs : Nat} {Z : jdL} {I : jdI} {J : jdJ} {K : jdI → jdJ → Prop} {t : Nat} {x1 : Int32} {x2 : Int32} {x3 : Int32} {x4 : Int32} {x5 : Int32} (ht : zTies Z t) (h : (((I t 8) ≤ x5 → K I J) ∧ (¬ (I t 8) ≤ x5 → Cl G mJ6_bitCount_0f7a4 n 0 0 [.int x1] Z I J (qi Z (fun v2 I1 J1 => ((((((I t 9) + 1) - x3) * x4) ≤ v2 → (vp_in x5 70 ∧ (vp_in x5 70 ∧ ((¬ ((I1 (t + 4) (Int32.toNatClampNeg x5)) &&& x1) = (I1 (t + 4) (Int32.toNatClampNeg x5)) → Jd G mX8_lengthen (jdFm G (qv Z K)) (n + 1) rc rs 37 [(0, .ref (gb G + t)), (1, .int x1), (2, .int x2), (3, .int x3), (4, .int x4), (5, .int (x5 + 1))] [] Z I1 J1) ∧ (((I1 (t + 4) (Int32.toNatClampNeg x5)) &&& x1) = (I1 (t + 4) (Int32.toNatClampNeg x5)) → (vp_in x5 70 ∧ Cl G mX8_lengthen n 0 0 [.ref (gb G + t), .int (x1 &&& ((I1 (t + 4) (Int32.toNatClampNeg x5)) ^^^ (-1))), .int (x5 + 1), .int (x3 + 1)] Z I1 J1 (qv Z (fun I6 J6 => Jd G mX8_lengthen (jdFm G (qv Z K)) (n + 1) rc rs 37 [(0, .ref (gb G + t)), (1, .int x1), (2, .int x2), (3, .int x3), (4, .int x4), (5, .int (x5 + 1))] [] Z I6 J6)))))))) ∧ (¬ ((((I t 9) + 1) - x3) * x4) ≤ v2 → K I1 J1))))))) : Jd G mX8_lengthen (jdFm G (qv Z K)) (n + 1) rc rs 37 [(0, .ref (gb G + t)), (1, .int x1), (2, .int x2), (3, .int x3), (4, .int x4), (5, .int x5)] [] Z I J := by
  refine jd_iload (pc := 37) 5 dX8_lengthen_37 rfl ?_
  refine jd_aload_n (pc := 39) 0 dX8_lengthen_39 rfl rfl ?_
  refine jd_getI (pc := 40) (ci := 7) (k := 8) gX8_53 ht.1 rfl dX8_lengthen_40 ?_
  refine jd_icmp_ge (pc := 43) 112 dX8_lengthen_43 (by decide) (fun hc => ?_) (fun hc => ?_)
  · have h := h.1 hc
    exact jd_vretK (pc := 112) rfl dX8_lengthen_112 h
  · have h := h.2 hc
    refine jd_aload_n (pc := 46) 0 dX8_lengthen_46 rfl rfl ?_
    refine jd_getI (pc := 47) (ci := 7) (k := 9) gX8_91 ht.1 rfl dX8_lengthen_47 ?_
    refine jd_iconst (pc := 50) (v := 1) dX8_lengthen_50 (by decide) ?_
    refine jd_iadd (pc := 51) dX8_lengthen_51 ?_
    refine jd_iload_n (pc := 52) 3 dX8_lengthen_52 rfl rfl ?_
    refine jd_isub (pc := 53) dX8_lengthen_53 ?_
    refine jd_iload (pc := 54) 4 dX8_lengthen_54 rfl ?_
    refine jd_imul (pc := 56) dX8_lengthen_56 ?_
    refine jd_iload_n (pc := 57) 1 dX8_lengthen_57 rfl rfl ?_
    refine jd_callSi (pc := 58) (M2 := mJ6_bitCount_0f7a4) (av := [.int x1]) kJ6_bitCount_0f7a4 sJ6_bitCount_0f7a4 lX8_73 rfl rfl (Nat.le_of_ble_eq_true rfl) dX8_lengthen_58 h ?_
    intro v2 I1 J1 h
    refine jd_icmp_le (pc := 61) 65 dX8_lengthen_61 (by decide) (fun hc => ?_) (fun hc => ?_)
    · have h := h.1 hc
      refine jd_aload_n (pc := 65) 0 dX8_lengthen_65 rfl rfl ?_
      refine jd_getR (pc := 66) (ci := 7) (k := 3) (r := (t + 4)) gX8_21 ht.1 rfl (zTies_p3 ht) dX8_lengthen_66 ?_
      refine jd_iload (pc := 69) 5 dX8_lengthen_69 rfl ?_
      obtain ⟨hv3, h⟩ := h
      refine jd_iald (pc := 71) (len := 70) (zTies_a3 ht) hv3 dX8_lengthen_71 ?_
      refine jd_iload_n (pc := 72) 1 dX8_lengthen_72 rfl rfl ?_
      refine jd_iand (pc := 73) dX8_lengthen_73 ?_
      refine jd_aload_n (pc := 74) 0 dX8_lengthen_74 rfl rfl ?_
      refine jd_getR (pc := 75) (ci := 7) (k := 3) (r := (t + 4)) gX8_21 ht.1 rfl (zTies_p3 ht) dX8_lengthen_75 ?_
      refine jd_iload (pc := 78) 5 dX8_lengthen_78 rfl ?_
      obtain ⟨hv4, h⟩ := h
      refine jd_iald (pc := 80) (len := 70) (zTies_a3 ht) hv4 dX8_lengthen_80 ?_
      refine jd_icmp_ne (pc := 81) 106 dX8_lengthen_81 (by decide) (fun hc => ?_) (fun hc => ?_)
      · have h := h.1 hc
        refine jd_iinc (pc := 106) (v := (x5 + 1)) 5 [(5, .int (x5 + 1)), (0, .ref (gb G + t)), (1, .int x1), (2, .int x2), (3, .int x3), (4, .int x4)] dX8_lengthen_106 rfl rfl (by decide) rfl ?_
        refine jd_goto (pc := 109) 37 dX8_lengthen_109 (by decide) ?_
        exact jd_lv (lv2 := [(0, .ref (gb G + t)), (1, .int x1), (2, .int x2), (3, .int x3), (4, .int x4), (5, .int (x5 + 1))]) [1, 2, 3, 4, 5, 0] rfl h
      · have h := h.2 hc
        refine jd_aload_n (pc := 84) 0 dX8_lengthen_84 rfl rfl ?_
        refine jd_iload_n (pc := 85) 1 dX8_lengthen_85 rfl rfl ?_
        refine jd_aload_n (pc := 86) 0 dX8_lengthen_86 rfl rfl ?_
        refine jd_getR (pc := 87) (ci := 7) (k := 3) (r := (t + 4)) gX8_21 ht.1 rfl (zTies_p3 ht) dX8_lengthen_87 ?_
        refine jd_iload (pc := 90) 5 dX8_lengthen_90 rfl ?_
        obtain ⟨hv5, h⟩ := h
        refine jd_iald (pc := 92) (len := 70) (zTies_a3 ht) hv5 dX8_lengthen_92 ?_
        refine jd_iconst (pc := 93) (v := (-1)) dX8_lengthen_93 (by decide) ?_
        refine jd_ixor (pc := 94) dX8_lengthen_94 ?_
        refine jd_iand (pc := 95) dX8_lengthen_95 ?_
        refine jd_iload (pc := 96) 5 dX8_lengthen_96 rfl ?_
        refine jd_iconst (pc := 98) (v := 1) dX8_lengthen_98 (by decide) ?_
        refine jd_iadd (pc := 99) dX8_lengthen_99 ?_
        refine jd_iload_n (pc := 100) 3 dX8_lengthen_100 rfl rfl ?_
        refine jd_iconst (pc := 101) (v := 1) dX8_lengthen_101 (by decide) ?_
        refine jd_iadd (pc := 102) dX8_lengthen_102 ?_
        refine jd_callVv (pc := 103) (M2 := mX8_lengthen) (id := t) (ci := 7) (T := TX8) (N := 11) (av := [.int (x1 &&& ((I1 (t + 4) (Int32.toNatClampNeg x5)) ^^^ (-1))), .int (x5 + 1), .int (x3 + 1)]) kX8_lengthen sX8_lengthen rfl ht.1 lX8_94 rfl rfl (Nat.le_of_ble_eq_true rfl) dX8_lengthen_103 h ?_
        intro I6 J6 h
        refine jd_iinc (pc := 106) (v := (x5 + 1)) 5 [(5, .int (x5 + 1)), (0, .ref (gb G + t)), (1, .int x1), (2, .int x2), (3, .int x3), (4, .int x4)] dX8_lengthen_106 rfl rfl (by decide) rfl ?_
        refine jd_goto (pc := 109) 37 dX8_lengthen_109 (by decide) ?_
        exact jd_lv (lv2 := [(0, .ref (gb G + t)), (1, .int x1), (2, .int x2), (3, .int x3), (4, .int x4), (5, .int (x5 + 1))]) [1, 2, 3, 4, 5, 0] rfl h
    · have h := h.2 hc
      exact jd_vretK (pc := 64) rfl dX8_lengthen_64 h
theorem eX8_lengthen {G : jdG} {n : Nat} {Z : jdL} {I : jdI} {J : jdJ} {K : jdI → jdJ → Prop} {t : Nat} {x1 : Int32} {x2 : Int32} {x3 : Int32} (ht : zTies Z t) (h : ((x3 < 28 → Jd G mX8_lengthen (jdFm G (qv Z K)) (n + 1) 0 0 37 [(0, .ref (gb G + t)), (1, .int x1), (2, .int x2), (3, .int x3), (4, .int (((I t 7) * ((I t 7) - 1)) / 2)), (5, .int x2)] [] Z (uI I t 9 (if (I t 9) < x3 then x3 else (I t 9))) J) ∧ (¬ x3 < 28 → K (uI I t 9 (if (I t 9) < x3 then x3 else (I t 9))) J))) : Cl G mX8_lengthen (n + 1) 0 0 [.ref (gb G + t), .int x1, .int x2, .int x3] Z I J (qv Z K) :=
  Cl.of (by decide +kernel) (Nat.le_of_ble_eq_true rfl) (rX8_lengthen_0 ht h)
set_option maxRecDepth 4000 in
theorem rX8_soonest_0 {G : jdG} {n rc rs : Nat} {Z : jdL} {I : jdI} {J : jdJ} {K : Int32 → jdI → jdJ → Prop} {t : Nat} (ht : zTies Z t) (h : ((¬ (I t 7) = 2 → Cl G mX8_everybody n 0 0 [.ref (gb G + t)] Z I J (qi Z (fun v2 I1 J1 => Cl G mX8_listPairs n 0 0 [.ref (gb G + t), .int v2] Z I1 J1 (qi Z (fun v4 I3 J3 => Cl G mX8_everybody n 0 0 [.ref (gb G + t)] Z (uI I3 t 9 28) J3 (qi Z (fun v6 I5 J5 => Cl G mX8_pairsIn n 0 0 [.ref (gb G + t), .int v6] Z I5 J5 (qi Z (fun v8 I7 J7 => Cl G mX8_finish n 0 0 [.ref (gb G + t), .int v8, .long 0, .int 0] Z I7 J7 (qv Z (fun I9 J9 => K (I9 t 9) I9 J9))))))))))) ∧ ((I t 7) = 2 → K (I t 8) I J))) : Jd G mX8_soonest (jdFm G (qi Z K)) (n + 1) rc rs 0 [(0, .ref (gb G + t))] [] Z I J := by
  refine jd_aload_n (pc := 0) 0 dX8_soonest_0 rfl rfl ?_
  refine jd_getI (pc := 1) (ci := 7) (k := 7) gX8_40 ht.1 rfl dX8_soonest_1 ?_
  refine jd_iconst (pc := 4) (v := 2) dX8_soonest_4 (by decide) ?_
  refine jd_icmp_ne (pc := 5) 13 dX8_soonest_5 (by decide) (fun hc => ?_) (fun hc => ?_)
  · have h := h.1 hc
    refine jd_aload_n (pc := 13) 0 dX8_soonest_13 rfl rfl ?_
    refine jd_aload_n (pc := 14) 0 dX8_soonest_14 rfl rfl ?_
    refine jd_callVi (pc := 15) (M2 := mX8_everybody) (id := t) (ci := 7) (T := TX8) (N := 11) (av := []) kX8_everybody sX8_everybody rfl ht.1 lX8_49 rfl rfl (Nat.le_of_ble_eq_true rfl) dX8_soonest_15 h ?_
    intro v2 I1 J1 h
    refine jd_callVi (pc := 18) (M2 := mX8_listPairs) (id := t) (ci := 7) (T := TX8) (N := 11) (av := [.int v2]) kX8_listPairs sX8_listPairs rfl ht.1 lX8_88 rfl rfl (Nat.le_of_ble_eq_true rfl) dX8_soonest_18 h ?_
    intro v4 I3 J3 h
    refine jd_pop (pc := 21) dX8_soonest_21 rfl ?_
    refine jd_aload_n (pc := 22) 0 dX8_soonest_22 rfl rfl ?_
    refine jd_bipush (pc := 23) (v := 28) dX8_soonest_23 (by decide) ?_
    refine jd_putI (pc := 25) (ci := 7) (k := 9) pX8_91 ht.1 rfl rfl rfl dX8_soonest_25 ?_
    refine jd_aload_n (pc := 28) 0 dX8_soonest_28 rfl rfl ?_
    refine jd_aload_n (pc := 29) 0 dX8_soonest_29 rfl rfl ?_
    refine jd_aload_n (pc := 30) 0 dX8_soonest_30 rfl rfl ?_
    refine jd_callVi (pc := 31) (M2 := mX8_everybody) (id := t) (ci := 7) (T := TX8) (N := 11) (av := []) kX8_everybody sX8_everybody rfl ht.1 lX8_49 rfl rfl (Nat.le_of_ble_eq_true rfl) dX8_soonest_31 h ?_
    intro v6 I5 J5 h
    refine jd_callVi (pc := 34) (M2 := mX8_pairsIn) (id := t) (ci := 7) (T := TX8) (N := 11) (av := [.int v6]) kX8_pairsIn sX8_pairsIn rfl ht.1 lX8_85 rfl rfl (Nat.le_of_ble_eq_true rfl) dX8_soonest_34 h ?_
    intro v8 I7 J7 h
    refine jd_lconst (pc := 37) (v := 0) dX8_soonest_37 (by decide) ?_
    refine jd_iconst (pc := 38) (v := 0) dX8_soonest_38 (by decide) ?_
    refine jd_callVv (pc := 39) (M2 := mX8_finish) (id := t) (ci := 7) (T := TX8) (N := 11) (av := [.int v8, .long 0, .int 0]) kX8_finish sX8_finish rfl ht.1 lX8_102 rfl rfl (Nat.le_of_ble_eq_true rfl) dX8_soonest_39 h ?_
    intro I9 J9 h
    refine jd_aload_n (pc := 42) 0 dX8_soonest_42 rfl rfl ?_
    refine jd_getI (pc := 43) (ci := 7) (k := 9) gX8_91 ht.1 rfl dX8_soonest_43 ?_
    exact jd_iretK (pc := 46) rfl rfl dX8_soonest_46 h
  · have h := h.2 hc
    refine jd_aload_n (pc := 8) 0 dX8_soonest_8 rfl rfl ?_
    refine jd_getI (pc := 9) (ci := 7) (k := 8) gX8_53 ht.1 rfl dX8_soonest_9 ?_
    exact jd_iretK (pc := 12) rfl rfl dX8_soonest_12 h
theorem eX8_soonest {G : jdG} {n : Nat} {Z : jdL} {I : jdI} {J : jdJ} {K : Int32 → jdI → jdJ → Prop} {t : Nat} (ht : zTies Z t) (h : ((¬ (I t 7) = 2 → Cl G mX8_everybody n 0 0 [.ref (gb G + t)] Z I J (qi Z (fun v2 I1 J1 => Cl G mX8_listPairs n 0 0 [.ref (gb G + t), .int v2] Z I1 J1 (qi Z (fun v4 I3 J3 => Cl G mX8_everybody n 0 0 [.ref (gb G + t)] Z (uI I3 t 9 28) J3 (qi Z (fun v6 I5 J5 => Cl G mX8_pairsIn n 0 0 [.ref (gb G + t), .int v6] Z I5 J5 (qi Z (fun v8 I7 J7 => Cl G mX8_finish n 0 0 [.ref (gb G + t), .int v8, .long 0, .int 0] Z I7 J7 (qv Z (fun I9 J9 => K (I9 t 9) I9 J9))))))))))) ∧ ((I t 7) = 2 → K (I t 8) I J))) : Cl G mX8_soonest (n + 1) 0 0 [.ref (gb G + t)] Z I J (qi Z K) :=
  Cl.of (by decide +kernel) (Nat.le_of_ble_eq_true rfl) (rX8_soonest_0 ht h)
set_option maxRecDepth 4000 in
theorem rX8_finish_0 {G : jdG} {n rc rs : Nat} {Z : jdL} {I : jdI} {J : jdJ} {K : jdI → jdJ → Prop} {t : Nat} {x1 : Int32} {y2 : Int64} {x4 : Int32} (ht : zTies Z t) (h : Cl G mX8_firstPossible n 0 0 [.ref (gb G + t), .int x1] Z I J (qi Z (fun v2 I1 J1 => ((¬ v2 = (-1) → Jd G mX8_finish (jdFm G (qv Z K)) (n + 1) rc rs 34 [(0, .ref (gb G + t)), (1, .int x1), (2, .long y2), (4, .int x4), (5, .int v2), (6, .long y2), (8, .int v2)] [] Z I1 J1) ∧ (v2 = (-1) → K (uI I1 t 9 (if x4 < (I1 t 9) then x4 else (I1 t 9))) J1))))) : Jd G mX8_finish (jdFm G (qv Z K)) (n + 1) rc rs 0 [(0, .ref (gb G + t)), (1, .int x1), (2, .long y2), (4, .int x4)] [] Z I J := by
  refine jd_aload_n (pc := 0) 0 dX8_finish_0 rfl rfl ?_
  refine jd_iload_n (pc := 1) 1 dX8_finish_1 rfl rfl ?_
  refine jd_callVi (pc := 2) (M2 := mX8_firstPossible) (id := t) (ci := 7) (T := TX8) (N := 11) (av := [.int x1]) kX8_firstPossible sX8_firstPossible rfl ht.1 lX8_106 rfl rfl (Nat.le_of_ble_eq_true rfl) dX8_finish_2 h ?_
  intro v2 I1 J1 h
  refine jd_istore (pc := 5) [(5, .int v2), (0, .ref (gb G + t)), (1, .int x1), (2, .long y2), (4, .int x4)] dX8_finish_5 (by decide) rfl ?_
  refine jd_iload (pc := 7) 0 dX8_finish_7 rfl ?_
  refine jd_iconst (pc := 9) (v := (-1)) dX8_finish_9 (by decide) ?_
  refine jd_icmp_ne (pc := 10) 27 dX8_finish_10 (by decide) (fun hc => ?_) (fun hc => ?_)
  · have h := h.1 hc
    refine jd_lload_n (pc := 27) 3 dX8_finish_27 rfl rfl ?_
    refine jd_lstore (pc := 28) [(6, .long y2), (5, .int v2), (0, .ref (gb G + t)), (1, .int x1), (2, .long y2), (4, .int x4)] dX8_finish_28 (by decide) rfl ?_
    refine jd_iload (pc := 30) 1 dX8_finish_30 rfl ?_
    refine jd_istore (pc := 32) [(8, .int v2), (6, .long y2), (5, .int v2), (0, .ref (gb G + t)), (1, .int x1), (2, .long y2), (4, .int x4)] dX8_finish_32 (by decide) rfl ?_
    exact jd_lv (lv2 := [(0, .ref (gb G + t)), (1, .int x1), (2, .long y2), (4, .int x4), (5, .int v2), (6, .long y2), (8, .int v2)]) [3, 4, 5, 6, 2, 1, 0] rfl h
  · have h := h.2 hc
    refine jd_aload_n (pc := 13) 1 dX8_finish_13 rfl rfl ?_
    refine jd_aload_n (pc := 14) 1 dX8_finish_14 rfl rfl ?_
    refine jd_getI (pc := 15) (ci := 7) (k := 9) gX8_91 ht.1 rfl dX8_finish_15 ?_
    refine jd_iload (pc := 18) 4 dX8_finish_18 rfl ?_
    refine jd_min (pc := 20) xX8_109 (Nat.le_of_ble_eq_true rfl) dX8_finish_20 ?_
    refine jd_putI (pc := 23) (ci := 7) (k := 9) pX8_91 ht.1 rfl rfl rfl dX8_finish_23 ?_
    exact jd_vretK (pc := 26) rfl dX8_finish_26 h
set_option maxRecDepth 4000 in
theorem rX8_finish_34 {G : jdG} {n rc rs : Nat} {Z : jdL} {I : jdI} {J : jdJ} {K : jdI → jdJ → Prop} {t : Nat} {x1 : Int32} {y2 : Int64} {x4 : Int32} {x5 : Int32} {y6 : Int64} {x8 : Int32} (ht : zTies Z t) (h : (((I t 8) ≤ x8 → K I J) ∧ (¬ (I t 8) ≤ x8 → (((I t 9) ≤ (x4 + 1) → K I J) ∧ (¬ (I t 9) ≤ (x4 + 1) → (vp_in x8 70 ∧ (vp_in x5 70 ∧ ((((I (t + 4) (Int32.toNatClampNeg x8)) &&& (I (t + 4) (Int32.toNatClampNeg x5))) = 0 → Jd G mX8_finish (jdFm G (qv Z K)) (n + 1) rc rs 34 [(0, .ref (gb G + t)), (1, .int x1), (2, .long y2), (4, .int x4), (5, .int x5), (6, .long y6), (8, .int (x8 + 1))] [] Z I J) ∧ (¬ ((I (t + 4) (Int32.toNatClampNeg x8)) &&& (I (t + 4) (Int32.toNatClampNeg x5))) = 0 → (vp_in x8 70 ∧ (vp_in x8 70 ∧ ((¬ ((I (t + 4) (Int32.toNatClampNeg x8)) &&& x1) = (I (t + 4) (Int32.toNatClampNeg x8)) → Jd G mX8_finish (jdFm G (qv Z K)) (n + 1) rc rs 34 [(0, .ref (gb G + t)), (1, .int x1), (2, .long y2), (4, .int x4), (5, .int x5), (6, .long y6), (8, .int (x8 + 1))] [] Z I J) ∧ (((I (t + 4) (Int32.toNatClampNeg x8)) &&& x1) = (I (t + 4) (Int32.toNatClampNeg x8)) → ((¬ (lg_cmp ((y6 >>> (Int32.toInt64 x8 &&& 63)) &&& 1) 0) = 0 → Jd G mX8_finish (jdFm G (qv Z K)) (n + 1) rc rs 34 [(0, .ref (gb G + t)), (1, .int x1), (2, .long y2), (4, .int x4), (5, .int x5), (6, .long y6), (8, .int (x8 + 1))] [] Z I J) ∧ ((lg_cmp ((y6 >>> (Int32.toInt64 x8 &&& 63)) &&& 1) 0) = 0 → (vp_in x8 70 ∧ Cl G mX8_finish n 0 0 [.ref (gb G + t), .int (x1 &&& ((I (t + 4) (Int32.toNatClampNeg x8)) ^^^ (-1))), .long y6, .int (x4 + 1)] Z I J (qv Z (fun I6 J6 => Jd G mX8_finish (jdFm G (qv Z K)) (n + 1) rc rs 34 [(0, .ref (gb G + t)), (1, .int x1), (2, .long y2), (4, .int x4), (5, .int x5), (6, .long (y6 ||| (1 <<< (Int32.toInt64 x8 &&& 63)))), (8, .int (x8 + 1))] [] Z I6 J6)))))))))))))))))) : Jd G mX8_finish (jdFm G (qv Z K)) (n + 1) rc rs 34 [(0, .ref (gb G + t)), (1, .int x1), (2, .long y2), (4, .int x4), (5, .int x5), (6, .long y6), (8, .int x8)] [] Z I J := by
  refine jd_iload (pc := 34) 6 dX8_finish_34 rfl ?_
  refine jd_aload_n (pc := 36) 0 dX8_finish_36 rfl rfl ?_
  refine jd_getI (pc := 37) (ci := 7) (k := 8) gX8_53 ht.1 rfl dX8_finish_37 ?_
  refine jd_icmp_ge (pc := 40) 151 dX8_finish_40 (by decide) (fun hc => ?_) (fun hc => ?_)
  · have h := h.1 hc
    exact jd_vretK (pc := 151) rfl dX8_finish_151 h
  · have h := h.2 hc
    refine jd_iload (pc := 43) 3 dX8_finish_43 rfl ?_
    refine jd_iconst (pc := 45) (v := 1) dX8_finish_45 (by decide) ?_
    refine jd_iadd (pc := 46) dX8_finish_46 ?_
    refine jd_aload_n (pc := 47) 0 dX8_finish_47 rfl rfl ?_
    refine jd_getI (pc := 48) (ci := 7) (k := 9) gX8_91 ht.1 rfl dX8_finish_48 ?_
    refine jd_icmp_ge (pc := 51) 151 dX8_finish_51 (by decide) (fun hc => ?_) (fun hc => ?_)
    · have h := h.1 hc
      exact jd_vretK (pc := 151) rfl dX8_finish_151 h
    · have h := h.2 hc
      refine jd_aload_n (pc := 54) 0 dX8_finish_54 rfl rfl ?_
      refine jd_getR (pc := 55) (ci := 7) (k := 3) (r := (t + 4)) gX8_21 ht.1 rfl (zTies_p3 ht) dX8_finish_55 ?_
      refine jd_iload (pc := 58) 6 dX8_finish_58 rfl ?_
      obtain ⟨hv1, h⟩ := h
      refine jd_iald (pc := 60) (len := 70) (zTies_a3 ht) hv1 dX8_finish_60 ?_
      refine jd_aload_n (pc := 61) 0 dX8_finish_61 rfl rfl ?_
      refine jd_getR (pc := 62) (ci := 7) (k := 3) (r := (t + 4)) gX8_21 ht.1 rfl (zTies_p3 ht) dX8_finish_62 ?_
      refine jd_iload (pc := 65) 4 dX8_finish_65 rfl ?_
      obtain ⟨hv2, h⟩ := h
      refine jd_iald (pc := 67) (len := 70) (zTies_a3 ht) hv2 dX8_finish_67 ?_
      refine jd_iand (pc := 68) dX8_finish_68 ?_
      refine jd_if_eq (pc := 69) 76 dX8_finish_69 (by decide) (fun hc => ?_) (fun hc => ?_)
      · have h := h.1 hc
        refine jd_iconst (pc := 76) (v := 0) dX8_finish_76 (by decide) ?_
        refine jd_istore (pc := 77) [(9, .int 0), (0, .ref (gb G + t)), (1, .int x1), (2, .long y2), (4, .int x4), (5, .int x5), (6, .long y6), (8, .int x8)] dX8_finish_77 (by decide) rfl ?_
        refine jd_iload (pc := 79) 0 dX8_finish_79 rfl ?_
        refine jd_if_eq (pc := 81) 145 dX8_finish_81 (by decide) (fun _ => ?_) (fun hc => absurd (show (0 : Int32) = 0 by decide) hc)
        refine jd_iinc (pc := 145) (v := (x8 + 1)) 7 [(8, .int (x8 + 1)), (9, .int 0), (0, .ref (gb G + t)), (1, .int x1), (2, .long y2), (4, .int x4), (5, .int x5), (6, .long y6)] dX8_finish_145 rfl rfl (by decide) rfl ?_
        refine jd_goto (pc := 148) 34 dX8_finish_148 (by decide) ?_
        exact jd_lv (lv2 := [(0, .ref (gb G + t)), (1, .int x1), (2, .long y2), (4, .int x4), (5, .int x5), (6, .long y6), (8, .int (x8 + 1))]) [2, 3, 4, 5, 6, 7, 0] rfl h
      · have h := h.2 hc
        refine jd_iconst (pc := 72) (v := 1) dX8_finish_72 (by decide) ?_
        refine jd_goto (pc := 73) 77 dX8_finish_73 (by decide) ?_
        refine jd_istore (pc := 77) [(9, .int 1), (0, .ref (gb G + t)), (1, .int x1), (2, .long y2), (4, .int x4), (5, .int x5), (6, .long y6), (8, .int x8)] dX8_finish_77 (by decide) rfl ?_
        refine jd_iload (pc := 79) 0 dX8_finish_79 rfl ?_
        refine jd_if_eq (pc := 81) 145 dX8_finish_81 (by decide) (fun hc => absurd hc (by decide)) (fun _ => ?_)
        refine jd_aload_n (pc := 84) 1 dX8_finish_84 rfl rfl ?_
        refine jd_getR (pc := 85) (ci := 7) (k := 3) (r := (t + 4)) gX8_21 ht.1 rfl (zTies_p3 ht) dX8_finish_85 ?_
        refine jd_iload (pc := 88) 7 dX8_finish_88 rfl ?_
        obtain ⟨hv3, h⟩ := h
        refine jd_iald (pc := 90) (len := 70) (zTies_a3 ht) hv3 dX8_finish_90 ?_
        refine jd_iload_n (pc := 91) 2 dX8_finish_91 rfl rfl ?_
        refine jd_iand (pc := 92) dX8_finish_92 ?_
        refine jd_aload_n (pc := 93) 1 dX8_finish_93 rfl rfl ?_
        refine jd_getR (pc := 94) (ci := 7) (k := 3) (r := (t + 4)) gX8_21 ht.1 rfl (zTies_p3 ht) dX8_finish_94 ?_
        refine jd_iload (pc := 97) 7 dX8_finish_97 rfl ?_
        obtain ⟨hv4, h⟩ := h
        refine jd_iald (pc := 99) (len := 70) (zTies_a3 ht) hv4 dX8_finish_99 ?_
        refine jd_icmp_ne (pc := 100) 145 dX8_finish_100 (by decide) (fun hc => ?_) (fun hc => ?_)
        · have h := h.1 hc
          refine jd_iinc (pc := 145) (v := (x8 + 1)) 7 [(8, .int (x8 + 1)), (9, .int 1), (0, .ref (gb G + t)), (1, .int x1), (2, .long y2), (4, .int x4), (5, .int x5), (6, .long y6)] dX8_finish_145 rfl rfl (by decide) rfl ?_
          refine jd_goto (pc := 148) 34 dX8_finish_148 (by decide) ?_
          exact jd_lv (lv2 := [(0, .ref (gb G + t)), (1, .int x1), (2, .long y2), (4, .int x4), (5, .int x5), (6, .long y6), (8, .int (x8 + 1))]) [2, 3, 4, 5, 6, 7, 0] rfl h
        · have h := h.2 hc
          refine jd_lload (pc := 103) 6 dX8_finish_103 rfl ?_
          refine jd_iload (pc := 105) 7 dX8_finish_105 rfl ?_
          refine jd_lshr (pc := 107) dX8_finish_107 ?_
          refine jd_lconst (pc := 108) (v := 1) dX8_finish_108 (by decide) ?_
          refine jd_land (pc := 109) dX8_finish_109 ?_
          refine jd_lconst (pc := 110) (v := 0) dX8_finish_110 (by decide) ?_
          refine jd_lcmp (pc := 111) dX8_finish_111 ?_
          refine jd_if_ne (pc := 112) 145 dX8_finish_112 (by decide) (fun hc => ?_) (fun hc => ?_)
          · have h := h.1 hc
            refine jd_iinc (pc := 145) (v := (x8 + 1)) 7 [(8, .int (x8 + 1)), (9, .int 1), (0, .ref (gb G + t)), (1, .int x1), (2, .long y2), (4, .int x4), (5, .int x5), (6, .long y6)] dX8_finish_145 rfl rfl (by decide) rfl ?_
            refine jd_goto (pc := 148) 34 dX8_finish_148 (by decide) ?_
            exact jd_lv (lv2 := [(0, .ref (gb G + t)), (1, .int x1), (2, .long y2), (4, .int x4), (5, .int x5), (6, .long y6), (8, .int (x8 + 1))]) [2, 3, 4, 5, 6, 7, 0] rfl h
          · have h := h.2 hc
            refine jd_aload_n (pc := 115) 1 dX8_finish_115 rfl rfl ?_
            refine jd_iload_n (pc := 116) 2 dX8_finish_116 rfl rfl ?_
            refine jd_aload_n (pc := 117) 1 dX8_finish_117 rfl rfl ?_
            refine jd_getR (pc := 118) (ci := 7) (k := 3) (r := (t + 4)) gX8_21 ht.1 rfl (zTies_p3 ht) dX8_finish_118 ?_
            refine jd_iload (pc := 121) 7 dX8_finish_121 rfl ?_
            obtain ⟨hv5, h⟩ := h
            refine jd_iald (pc := 123) (len := 70) (zTies_a3 ht) hv5 dX8_finish_123 ?_
            refine jd_iconst (pc := 124) (v := (-1)) dX8_finish_124 (by decide) ?_
            refine jd_ixor (pc := 125) dX8_finish_125 ?_
            refine jd_iand (pc := 126) dX8_finish_126 ?_
            refine jd_lload (pc := 127) 6 dX8_finish_127 rfl ?_
            refine jd_iload (pc := 129) 4 dX8_finish_129 rfl ?_
            refine jd_iconst (pc := 131) (v := 1) dX8_finish_131 (by decide) ?_
            refine jd_iadd (pc := 132) dX8_finish_132 ?_
            refine jd_callVv (pc := 133) (M2 := mX8_finish) (id := t) (ci := 7) (T := TX8) (N := 11) (av := [.int (x1 &&& ((I (t + 4) (Int32.toNatClampNeg x8)) ^^^ (-1))), .long y6, .int (x4 + 1)]) kX8_finish sX8_finish rfl ht.1 lX8_102 rfl rfl (Nat.le_of_ble_eq_true rfl) dX8_finish_133 h ?_
            intro I6 J6 h
            refine jd_lload (pc := 136) 6 dX8_finish_136 rfl ?_
            refine jd_lconst (pc := 138) (v := 1) dX8_finish_138 (by decide) ?_
            refine jd_iload (pc := 139) 7 dX8_finish_139 rfl ?_
            refine jd_lshl (pc := 141) dX8_finish_141 ?_
            refine jd_lor (pc := 142) dX8_finish_142 ?_
            refine jd_lstore (pc := 143) [(6, .long (y6 ||| (1 <<< (Int32.toInt64 x8 &&& 63)))), (9, .int 1), (0, .ref (gb G + t)), (1, .int x1), (2, .long y2), (4, .int x4), (5, .int x5), (8, .int x8)] dX8_finish_143 (by decide) rfl ?_
            refine jd_iinc (pc := 145) (v := (x8 + 1)) 7 [(8, .int (x8 + 1)), (6, .long (y6 ||| (1 <<< (Int32.toInt64 x8 &&& 63)))), (9, .int 1), (0, .ref (gb G + t)), (1, .int x1), (2, .long y2), (4, .int x4), (5, .int x5)] dX8_finish_145 rfl rfl (by decide) rfl ?_
            refine jd_goto (pc := 148) 34 dX8_finish_148 (by decide) ?_
            exact jd_lv (lv2 := [(0, .ref (gb G + t)), (1, .int x1), (2, .long y2), (4, .int x4), (5, .int x5), (6, .long (y6 ||| (1 <<< (Int32.toInt64 x8 &&& 63)))), (8, .int (x8 + 1))]) [3, 4, 5, 6, 7, 1, 0] rfl h
theorem eX8_finish {G : jdG} {n : Nat} {Z : jdL} {I : jdI} {J : jdJ} {K : jdI → jdJ → Prop} {t : Nat} {x1 : Int32} {y2 : Int64} {x4 : Int32} (ht : zTies Z t) (h : Cl G mX8_firstPossible n 0 0 [.ref (gb G + t), .int x1] Z I J (qi Z (fun v2 I1 J1 => ((¬ v2 = (-1) → Jd G mX8_finish (jdFm G (qv Z K)) (n + 1) 0 0 34 [(0, .ref (gb G + t)), (1, .int x1), (2, .long y2), (4, .int x4), (5, .int v2), (6, .long y2), (8, .int v2)] [] Z I1 J1) ∧ (v2 = (-1) → K (uI I1 t 9 (if x4 < (I1 t 9) then x4 else (I1 t 9))) J1))))) : Cl G mX8_finish (n + 1) 0 0 [.ref (gb G + t), .int x1, .long y2, .int x4] Z I J (qv Z K) :=
  Cl.of (by decide +kernel) (Nat.le_of_ble_eq_true rfl) (rX8_finish_0 ht h)
set_option maxRecDepth 4000 in
theorem rX8_firstPossible_0 {G : jdG} {n rc rs : Nat} {Z : jdL} {I : jdI} {J : jdJ} {K : Int32 → jdI → jdJ → Prop} {t : Nat} {x1 : Int32} (ht : zTies Z t) (h : Jd G mX8_firstPossible (jdFm G (qi Z K)) n rc rs 2 [(0, .ref (gb G + t)), (1, .int x1), (2, .int 0)] [] Z I J) : Jd G mX8_firstPossible (jdFm G (qi Z K)) n rc rs 0 [(0, .ref (gb G + t)), (1, .int x1)] [] Z I J := by
  refine jd_iconst (pc := 0) (v := 0) dX8_firstPossible_0 (by decide) ?_
  refine jd_istore_n (pc := 1) [(2, .int 0), (0, .ref (gb G + t)), (1, .int x1)] dX8_firstPossible_1 rfl (by decide) rfl ?_
  exact jd_lv (lv2 := [(0, .ref (gb G + t)), (1, .int x1), (2, .int 0)]) [1, 2, 0] rfl h
set_option maxRecDepth 4000 in
theorem rX8_firstPossible_2 {G : jdG} {n rc rs : Nat} {Z : jdL} {I : jdI} {J : jdJ} {K : Int32 → jdI → jdJ → Prop} {t : Nat} {x1 : Int32} {x2 : Int32} (ht : zTies Z t) (h : (((I t 8) ≤ x2 → K (-1) I J) ∧ (¬ (I t 8) ≤ x2 → (vp_in x2 70 ∧ (vp_in x2 70 ∧ ((¬ ((I (t + 4) (Int32.toNatClampNeg x2)) &&& x1) = (I (t + 4) (Int32.toNatClampNeg x2)) → Jd G mX8_firstPossible (jdFm G (qi Z K)) n rc rs 2 [(0, .ref (gb G + t)), (1, .int x1), (2, .int (x2 + 1))] [] Z I J) ∧ (((I (t + 4) (Int32.toNatClampNeg x2)) &&& x1) = (I (t + 4) (Int32.toNatClampNeg x2)) → K x2 I J))))))) : Jd G mX8_firstPossible (jdFm G (qi Z K)) n rc rs 2 [(0, .ref (gb G + t)), (1, .int x1), (2, .int x2)] [] Z I J := by
  refine jd_iload_n (pc := 2) 2 dX8_firstPossible_2 rfl rfl ?_
  refine jd_aload_n (pc := 3) 0 dX8_firstPossible_3 rfl rfl ?_
  refine jd_getI (pc := 4) (ci := 7) (k := 8) gX8_53 ht.1 rfl dX8_firstPossible_4 ?_
  refine jd_icmp_ge (pc := 7) 35 dX8_firstPossible_7 (by decide) (fun hc => ?_) (fun hc => ?_)
  · have h := h.1 hc
    refine jd_iconst (pc := 35) (v := (-1)) dX8_firstPossible_35 (by decide) ?_
    exact jd_iretK (pc := 36) rfl rfl dX8_firstPossible_36 h
  · have h := h.2 hc
    refine jd_aload_n (pc := 10) 0 dX8_firstPossible_10 rfl rfl ?_
    refine jd_getR (pc := 11) (ci := 7) (k := 3) (r := (t + 4)) gX8_21 ht.1 rfl (zTies_p3 ht) dX8_firstPossible_11 ?_
    refine jd_iload_n (pc := 14) 2 dX8_firstPossible_14 rfl rfl ?_
    obtain ⟨hv1, h⟩ := h
    refine jd_iald (pc := 15) (len := 70) (zTies_a3 ht) hv1 dX8_firstPossible_15 ?_
    refine jd_iload_n (pc := 16) 1 dX8_firstPossible_16 rfl rfl ?_
    refine jd_iand (pc := 17) dX8_firstPossible_17 ?_
    refine jd_aload_n (pc := 18) 0 dX8_firstPossible_18 rfl rfl ?_
    refine jd_getR (pc := 19) (ci := 7) (k := 3) (r := (t + 4)) gX8_21 ht.1 rfl (zTies_p3 ht) dX8_firstPossible_19 ?_
    refine jd_iload_n (pc := 22) 2 dX8_firstPossible_22 rfl rfl ?_
    obtain ⟨hv2, h⟩ := h
    refine jd_iald (pc := 23) (len := 70) (zTies_a3 ht) hv2 dX8_firstPossible_23 ?_
    refine jd_icmp_ne (pc := 24) 29 dX8_firstPossible_24 (by decide) (fun hc => ?_) (fun hc => ?_)
    · have h := h.1 hc
      refine jd_iinc (pc := 29) (v := (x2 + 1)) 2 [(2, .int (x2 + 1)), (0, .ref (gb G + t)), (1, .int x1)] dX8_firstPossible_29 rfl rfl (by decide) rfl ?_
      refine jd_goto (pc := 32) 2 dX8_firstPossible_32 (by decide) ?_
      exact jd_lv (lv2 := [(0, .ref (gb G + t)), (1, .int x1), (2, .int (x2 + 1))]) [1, 2, 0] rfl h
    · have h := h.2 hc
      refine jd_iload_n (pc := 27) 2 dX8_firstPossible_27 rfl rfl ?_
      exact jd_iretK (pc := 28) rfl rfl dX8_firstPossible_28 h
theorem eX8_firstPossible {G : jdG} {n : Nat} {Z : jdL} {I : jdI} {J : jdJ} {K : Int32 → jdI → jdJ → Prop} {t : Nat} {x1 : Int32} (ht : zTies Z t) (h : Jd G mX8_firstPossible (jdFm G (qi Z K)) n 0 0 2 [(0, .ref (gb G + t)), (1, .int x1), (2, .int 0)] [] Z I J) : Cl G mX8_firstPossible (n) 0 0 [.ref (gb G + t), .int x1] Z I J (qi Z K) :=
  Cl.of (by decide +kernel) (Nat.le_of_ble_eq_true rfl) (rX8_firstPossible_0 ht h)
set_option maxRecDepth 4000 in
theorem rX8_countWays_0 {G : jdG} {n rc rs : Nat} {Z : jdL} {I : jdI} {J : jdJ} {K : Int32 → jdI → jdJ → Prop} {t : Nat} {x1 : Int32} (ht : zTies Z t) (h : Jd G mX8_countWays (jdFm G (qi Z K)) (n + 1) rc rs 2 [(0, .ref (gb G + t)), (1, .int x1), (2, .int 0)] [] Z I J) : Jd G mX8_countWays (jdFm G (qi Z K)) (n + 1) rc rs 0 [(0, .ref (gb G + t)), (1, .int x1)] [] Z I J := by
  refine jd_iconst (pc := 0) (v := 0) dX8_countWays_0 (by decide) ?_
  refine jd_istore_n (pc := 1) [(2, .int 0), (0, .ref (gb G + t)), (1, .int x1)] dX8_countWays_1 rfl (by decide) rfl ?_
  exact jd_lv (lv2 := [(0, .ref (gb G + t)), (1, .int x1), (2, .int 0)]) [1, 2, 0] rfl h
set_option maxRecDepth 4000 in
theorem rX8_countWays_2 {G : jdG} {n rc rs : Nat} {Z : jdL} {I : jdI} {J : jdJ} {K : Int32 → jdI → jdJ → Prop} {t : Nat} {x1 : Int32} {x2 : Int32} (ht : zTies Z t) (h : ((28 ≤ x2 → Cl G mX8_listPairs n 0 0 [.ref (gb G + t), .int x1] Z I J (qi Z (fun v2 I1 J1 => Cl G mX8_pairsIn n 0 0 [.ref (gb G + t), .int x1] Z I1 J1 (qi Z (fun v4 I3 J3 => Cl G mJ6_bitCount_0f7a4 n 0 0 [.int v4] Z I3 J3 (qi Z (fun v6 I5 J5 => Jd G mX8_countWays (jdFm G (qi Z K)) (n + 1) rc rs 50 [(0, .ref (gb G + t)), (1, .int x1), (2, .int v2), (3, .int v4), (4, .int (1 <<< (v6 &&& 31))), (5, .int 0), (6, .int 0), (7, .int 0)] [] Z I5 J5))))))) ∧ (¬ 28 ≤ x2 → (vp_in x2 28 ∧ Jd G mX8_countWays (jdFm G (qi Z K)) (n + 1) rc rs 2 [(0, .ref (gb G + t)), (1, .int x1), (2, .int (x2 + 1))] [] Z (uI I (t + 6) (Int32.toNatClampNeg x2) 0) J)))) : Jd G mX8_countWays (jdFm G (qi Z K)) (n + 1) rc rs 2 [(0, .ref (gb G + t)), (1, .int x1), (2, .int x2)] [] Z I J := by
  refine jd_iload_n (pc := 2) 2 dX8_countWays_2 rfl rfl ?_
  refine jd_bipush (pc := 3) (v := 28) dX8_countWays_3 (by decide) ?_
  refine jd_icmp_ge (pc := 5) 21 dX8_countWays_5 (by decide) (fun hc => ?_) (fun hc => ?_)
  · have h := h.1 hc
    refine jd_aload_n (pc := 21) 0 dX8_countWays_21 rfl rfl ?_
    refine jd_iload_n (pc := 22) 1 dX8_countWays_22 rfl rfl ?_
    refine jd_callVi (pc := 23) (M2 := mX8_listPairs) (id := t) (ci := 7) (T := TX8) (N := 11) (av := [.int x1]) kX8_listPairs sX8_listPairs rfl ht.1 lX8_88 rfl rfl (Nat.le_of_ble_eq_true rfl) dX8_countWays_23 h ?_
    intro v2 I1 J1 h
    refine jd_istore_n (pc := 26) [(2, .int v2), (0, .ref (gb G + t)), (1, .int x1)] dX8_countWays_26 rfl (by decide) rfl ?_
    refine jd_aload_n (pc := 27) 1 dX8_countWays_27 rfl rfl ?_
    refine jd_iload_n (pc := 28) 2 dX8_countWays_28 rfl rfl ?_
    refine jd_callVi (pc := 29) (M2 := mX8_pairsIn) (id := t) (ci := 7) (T := TX8) (N := 11) (av := [.int x1]) kX8_pairsIn sX8_pairsIn rfl ht.1 lX8_85 rfl rfl (Nat.le_of_ble_eq_true rfl) dX8_countWays_29 h ?_
    intro v4 I3 J3 h
    refine jd_istore_n (pc := 32) [(3, .int v4), (2, .int v2), (0, .ref (gb G + t)), (1, .int x1)] dX8_countWays_32 rfl (by decide) rfl ?_
    refine jd_iconst (pc := 33) (v := 1) dX8_countWays_33 (by decide) ?_
    refine jd_iload_n (pc := 34) 0 dX8_countWays_34 rfl rfl ?_
    refine jd_callSi (pc := 35) (M2 := mJ6_bitCount_0f7a4) (av := [.int v4]) kJ6_bitCount_0f7a4 sJ6_bitCount_0f7a4 lX8_73 rfl rfl (Nat.le_of_ble_eq_true rfl) dX8_countWays_35 h ?_
    intro v6 I5 J5 h
    refine jd_ishl (pc := 38) dX8_countWays_38 ?_
    refine jd_istore (pc := 39) [(4, .int (1 <<< (v6 &&& 31))), (3, .int v4), (2, .int v2), (0, .ref (gb G + t)), (1, .int x1)] dX8_countWays_39 (by decide) rfl ?_
    refine jd_iconst (pc := 41) (v := 0) dX8_countWays_41 (by decide) ?_
    refine jd_istore (pc := 42) [(5, .int 0), (4, .int (1 <<< (v6 &&& 31))), (3, .int v4), (2, .int v2), (0, .ref (gb G + t)), (1, .int x1)] dX8_countWays_42 (by decide) rfl ?_
    refine jd_iconst (pc := 44) (v := 0) dX8_countWays_44 (by decide) ?_
    refine jd_istore (pc := 45) [(6, .int 0), (5, .int 0), (4, .int (1 <<< (v6 &&& 31))), (3, .int v4), (2, .int v2), (0, .ref (gb G + t)), (1, .int x1)] dX8_countWays_45 (by decide) rfl ?_
    refine jd_iconst (pc := 47) (v := 0) dX8_countWays_47 (by decide) ?_
    refine jd_istore (pc := 48) [(7, .int 0), (6, .int 0), (5, .int 0), (4, .int (1 <<< (v6 &&& 31))), (3, .int v4), (2, .int v2), (0, .ref (gb G + t)), (1, .int x1)] dX8_countWays_48 (by decide) rfl ?_
    exact jd_lv (lv2 := [(0, .ref (gb G + t)), (1, .int x1), (2, .int v2), (3, .int v4), (4, .int (1 <<< (v6 &&& 31))), (5, .int 0), (6, .int 0), (7, .int 0)]) [6, 7, 5, 4, 3, 2, 1, 0] rfl h
  · have h := h.2 hc
    refine jd_aload_n (pc := 8) 0 dX8_countWays_8 rfl rfl ?_
    refine jd_getR (pc := 9) (ci := 7) (k := 5) (r := (t + 6)) gX8_27 ht.1 rfl (zTies_p5 ht) dX8_countWays_9 ?_
    refine jd_iload_n (pc := 12) 2 dX8_countWays_12 rfl rfl ?_
    refine jd_iconst (pc := 13) (v := 0) dX8_countWays_13 (by decide) ?_
    obtain ⟨hv7, h⟩ := h
    refine jd_iast (pc := 14) (len := 28) (zTies_a5 ht) hv7 dX8_countWays_14 ?_
    refine jd_iinc (pc := 15) (v := (x2 + 1)) 2 [(2, .int (x2 + 1)), (0, .ref (gb G + t)), (1, .int x1)] dX8_countWays_15 rfl rfl (by decide) rfl ?_
    refine jd_goto (pc := 18) 2 dX8_countWays_18 (by decide) ?_
    exact jd_lv (lv2 := [(0, .ref (gb G + t)), (1, .int x1), (2, .int (x2 + 1))]) [1, 2, 0] rfl h
set_option maxRecDepth 4000 in
theorem rX8_countWays_50 {G : jdG} {n rc rs : Nat} {Z : jdL} {I : jdI} {J : jdJ} {K : Int32 → jdI → jdJ → Prop} {t : Nat} {x1 : Int32} {x2 : Int32} {x3 : Int32} {x4 : Int32} {x5 : Int32} {x6 : Int32} {x7 : Int32} (ht : zTies Z t) (h : ((x4 ≤ x7 → K x5 I J) ∧ (¬ x4 ≤ x7 → Cl G mX8_breaksAll n 0 0 [.ref (gb G + t), .int x6, .int x2] Z I J (qi Z (fun v2 I1 J1 => ((v2 = 0 → Jd G mX8_countWays (jdFm G (qi Z K)) (n + 1) rc rs 50 [(0, .ref (gb G + t)), (1, .int x1), (2, .int x2), (3, .int x3), (4, .int x4), (5, .int x5), (6, .int ((x6 - x3) &&& x3)), (7, .int (x7 + 1))] [] Z I1 J1) ∧ (¬ v2 = 0 → Cl G mX8_tally n 0 0 [.ref (gb G + t), .int x6] Z I1 J1 (qv Z (fun I3 J3 => Jd G mX8_countWays (jdFm G (qi Z K)) (n + 1) rc rs 50 [(0, .ref (gb G + t)), (1, .int x1), (2, .int x2), (3, .int x3), (4, .int x4), (5, .int (x5 + 1)), (6, .int ((x6 - x3) &&& x3)), (7, .int (x7 + 1))] [] Z I3 J3))))))))) : Jd G mX8_countWays (jdFm G (qi Z K)) (n + 1) rc rs 50 [(0, .ref (gb G + t)), (1, .int x1), (2, .int x2), (3, .int x3), (4, .int x4), (5, .int x5), (6, .int x6), (7, .int x7)] [] Z I J := by
  refine jd_iload (pc := 50) 7 dX8_countWays_50 rfl ?_
  refine jd_iload (pc := 52) 4 dX8_countWays_52 rfl ?_
  refine jd_icmp_ge (pc := 54) 90 dX8_countWays_54 (by decide) (fun hc => ?_) (fun hc => ?_)
  · have h := h.1 hc
    refine jd_iload (pc := 90) 5 dX8_countWays_90 rfl ?_
    exact jd_iretK (pc := 92) rfl rfl dX8_countWays_92 h
  · have h := h.2 hc
    refine jd_aload_n (pc := 57) 0 dX8_countWays_57 rfl rfl ?_
    refine jd_iload (pc := 58) 6 dX8_countWays_58 rfl ?_
    refine jd_iload_n (pc := 60) 2 dX8_countWays_60 rfl rfl ?_
    refine jd_callVi (pc := 61) (M2 := mX8_breaksAll) (id := t) (ci := 7) (T := TX8) (N := 11) (av := [.int x6, .int x2]) kX8_breaksAll sX8_breaksAll rfl ht.1 lX8_112 rfl rfl (Nat.le_of_ble_eq_true rfl) dX8_countWays_61 h ?_
    intro v2 I1 J1 h
    refine jd_if_eq (pc := 64) 76 dX8_countWays_64 (by decide) (fun hc => ?_) (fun hc => ?_)
    · have h := h.1 hc
      refine jd_iload (pc := 76) 6 dX8_countWays_76 rfl ?_
      refine jd_iload_n (pc := 78) 3 dX8_countWays_78 rfl rfl ?_
      refine jd_isub (pc := 79) dX8_countWays_79 ?_
      refine jd_iload_n (pc := 80) 3 dX8_countWays_80 rfl rfl ?_
      refine jd_iand (pc := 81) dX8_countWays_81 ?_
      refine jd_istore (pc := 82) [(6, .int ((x6 - x3) &&& x3)), (0, .ref (gb G + t)), (1, .int x1), (2, .int x2), (3, .int x3), (4, .int x4), (5, .int x5), (7, .int x7)] dX8_countWays_82 (by decide) rfl ?_
      refine jd_iinc (pc := 84) (v := (x7 + 1)) 7 [(7, .int (x7 + 1)), (6, .int ((x6 - x3) &&& x3)), (0, .ref (gb G + t)), (1, .int x1), (2, .int x2), (3, .int x3), (4, .int x4), (5, .int x5)] dX8_countWays_84 rfl rfl (by decide) rfl ?_
      refine jd_goto (pc := 87) 50 dX8_countWays_87 (by decide) ?_
      exact jd_lv (lv2 := [(0, .ref (gb G + t)), (1, .int x1), (2, .int x2), (3, .int x3), (4, .int x4), (5, .int x5), (6, .int ((x6 - x3) &&& x3)), (7, .int (x7 + 1))]) [2, 3, 4, 5, 6, 7, 1, 0] rfl h
    · have h := h.2 hc
      refine jd_iinc (pc := 67) (v := (x5 + 1)) 5 [(5, .int (x5 + 1)), (0, .ref (gb G + t)), (1, .int x1), (2, .int x2), (3, .int x3), (4, .int x4), (6, .int x6), (7, .int x7)] dX8_countWays_67 rfl rfl (by decide) rfl ?_
      refine jd_aload_n (pc := 70) 1 dX8_countWays_70 rfl rfl ?_
      refine jd_iload (pc := 71) 6 dX8_countWays_71 rfl ?_
      refine jd_callVv (pc := 73) (M2 := mX8_tally) (id := t) (ci := 7) (T := TX8) (N := 11) (av := [.int x6]) kX8_tally sX8_tally rfl ht.1 lX8_116 rfl rfl (Nat.le_of_ble_eq_true rfl) dX8_countWays_73 h ?_
      intro I3 J3 h
      refine jd_iload (pc := 76) 6 dX8_countWays_76 rfl ?_
      refine jd_iload_n (pc := 78) 4 dX8_countWays_78 rfl rfl ?_
      refine jd_isub (pc := 79) dX8_countWays_79 ?_
      refine jd_iload_n (pc := 80) 4 dX8_countWays_80 rfl rfl ?_
      refine jd_iand (pc := 81) dX8_countWays_81 ?_
      refine jd_istore (pc := 82) [(6, .int ((x6 - x3) &&& x3)), (5, .int (x5 + 1)), (0, .ref (gb G + t)), (1, .int x1), (2, .int x2), (3, .int x3), (4, .int x4), (7, .int x7)] dX8_countWays_82 (by decide) rfl ?_
      refine jd_iinc (pc := 84) (v := (x7 + 1)) 7 [(7, .int (x7 + 1)), (6, .int ((x6 - x3) &&& x3)), (5, .int (x5 + 1)), (0, .ref (gb G + t)), (1, .int x1), (2, .int x2), (3, .int x3), (4, .int x4)] dX8_countWays_84 rfl rfl (by decide) rfl ?_
      refine jd_goto (pc := 87) 50 dX8_countWays_87 (by decide) ?_
      exact jd_lv (lv2 := [(0, .ref (gb G + t)), (1, .int x1), (2, .int x2), (3, .int x3), (4, .int x4), (5, .int (x5 + 1)), (6, .int ((x6 - x3) &&& x3)), (7, .int (x7 + 1))]) [3, 4, 5, 6, 7, 2, 1, 0] rfl h
theorem eX8_countWays {G : jdG} {n : Nat} {Z : jdL} {I : jdI} {J : jdJ} {K : Int32 → jdI → jdJ → Prop} {t : Nat} {x1 : Int32} (ht : zTies Z t) (h : Jd G mX8_countWays (jdFm G (qi Z K)) (n + 1) 0 0 2 [(0, .ref (gb G + t)), (1, .int x1), (2, .int 0)] [] Z I J) : Cl G mX8_countWays (n + 1) 0 0 [.ref (gb G + t), .int x1] Z I J (qi Z K) :=
  Cl.of (by decide +kernel) (Nat.le_of_ble_eq_true rfl) (rX8_countWays_0 ht h)
set_option maxRecDepth 4000 in
theorem rX8_breaksAll_0 {G : jdG} {n rc rs : Nat} {Z : jdL} {I : jdI} {J : jdJ} {K : Int32 → jdI → jdJ → Prop} {t : Nat} {x1 : Int32} {x2 : Int32} (ht : zTies Z t) (h : Jd G mX8_breaksAll (jdFm G (qi Z K)) n rc rs 2 [(0, .ref (gb G + t)), (1, .int x1), (2, .int x2), (3, .int 0)] [] Z I J) : Jd G mX8_breaksAll (jdFm G (qi Z K)) n rc rs 0 [(0, .ref (gb G + t)), (1, .int x1), (2, .int x2)] [] Z I J := by
  refine jd_iconst (pc := 0) (v := 0) dX8_breaksAll_0 (by decide) ?_
  refine jd_istore_n (pc := 1) [(3, .int 0), (0, .ref (gb G + t)), (1, .int x1), (2, .int x2)] dX8_breaksAll_1 rfl (by decide) rfl ?_
  exact jd_lv (lv2 := [(0, .ref (gb G + t)), (1, .int x1), (2, .int x2), (3, .int 0)]) [1, 2, 3, 0] rfl h
set_option maxRecDepth 4000 in
theorem rX8_breaksAll_2 {G : jdG} {n rc rs : Nat} {Z : jdL} {I : jdI} {J : jdJ} {K : Int32 → jdI → jdJ → Prop} {t : Nat} {x1 : Int32} {x2 : Int32} {x3 : Int32} (ht : zTies Z t) (h : ((x2 ≤ x3 → K 1 I J) ∧ (¬ x2 ≤ x3 → (vp_in x3 70 ∧ ((¬ ((I (t + 4) (Int32.toNatClampNeg x3)) &&& x1) = 0 → Jd G mX8_breaksAll (jdFm G (qi Z K)) n rc rs 2 [(0, .ref (gb G + t)), (1, .int x1), (2, .int x2), (3, .int (x3 + 1))] [] Z I J) ∧ (((I (t + 4) (Int32.toNatClampNeg x3)) &&& x1) = 0 → K 0 I J)))))) : Jd G mX8_breaksAll (jdFm G (qi Z K)) n rc rs 2 [(0, .ref (gb G + t)), (1, .int x1), (2, .int x2), (3, .int x3)] [] Z I J := by
  refine jd_iload_n (pc := 2) 3 dX8_breaksAll_2 rfl rfl ?_
  refine jd_iload_n (pc := 3) 2 dX8_breaksAll_3 rfl rfl ?_
  refine jd_icmp_ge (pc := 4) 26 dX8_breaksAll_4 (by decide) (fun hc => ?_) (fun hc => ?_)
  · have h := h.1 hc
    refine jd_iconst (pc := 26) (v := 1) dX8_breaksAll_26 (by decide) ?_
    exact jd_iretK (pc := 27) (ty := .boolean) rfl (by decide) dX8_breaksAll_27 h
  · have h := h.2 hc
    refine jd_aload_n (pc := 7) 0 dX8_breaksAll_7 rfl rfl ?_
    refine jd_getR (pc := 8) (ci := 7) (k := 3) (r := (t + 4)) gX8_21 ht.1 rfl (zTies_p3 ht) dX8_breaksAll_8 ?_
    refine jd_iload_n (pc := 11) 3 dX8_breaksAll_11 rfl rfl ?_
    obtain ⟨hv1, h⟩ := h
    refine jd_iald (pc := 12) (len := 70) (zTies_a3 ht) hv1 dX8_breaksAll_12 ?_
    refine jd_iload_n (pc := 13) 1 dX8_breaksAll_13 rfl rfl ?_
    refine jd_iand (pc := 14) dX8_breaksAll_14 ?_
    refine jd_if_ne (pc := 15) 20 dX8_breaksAll_15 (by decide) (fun hc => ?_) (fun hc => ?_)
    · have h := h.1 hc
      refine jd_iinc (pc := 20) (v := (x3 + 1)) 3 [(3, .int (x3 + 1)), (0, .ref (gb G + t)), (1, .int x1), (2, .int x2)] dX8_breaksAll_20 rfl rfl (by decide) rfl ?_
      refine jd_goto (pc := 23) 2 dX8_breaksAll_23 (by decide) ?_
      exact jd_lv (lv2 := [(0, .ref (gb G + t)), (1, .int x1), (2, .int x2), (3, .int (x3 + 1))]) [1, 2, 3, 0] rfl h
    · have h := h.2 hc
      refine jd_iconst (pc := 18) (v := 0) dX8_breaksAll_18 (by decide) ?_
      exact jd_iretK (pc := 19) (ty := .boolean) rfl (by decide) dX8_breaksAll_19 h
theorem eX8_breaksAll {G : jdG} {n : Nat} {Z : jdL} {I : jdI} {J : jdJ} {K : Int32 → jdI → jdJ → Prop} {t : Nat} {x1 : Int32} {x2 : Int32} (ht : zTies Z t) (h : Jd G mX8_breaksAll (jdFm G (qi Z K)) n 0 0 2 [(0, .ref (gb G + t)), (1, .int x1), (2, .int x2), (3, .int 0)] [] Z I J) : Cl G mX8_breaksAll (n) 0 0 [.ref (gb G + t), .int x1, .int x2] Z I J (qi Z K) :=
  Cl.of (by decide +kernel) (Nat.le_of_ble_eq_true rfl) (rX8_breaksAll_0 ht h)
set_option maxRecDepth 4000 in
theorem rX8_tally_0 {G : jdG} {n rc rs : Nat} {Z : jdL} {I : jdI} {J : jdJ} {K : jdI → jdJ → Prop} {t : Nat} {x1 : Int32} (ht : zTies Z t) (h : Jd G mX8_tally (jdFm G (qv Z K)) n rc rs 2 [(0, .ref (gb G + t)), (1, .int x1), (2, .int 0)] [] Z I J) : Jd G mX8_tally (jdFm G (qv Z K)) n rc rs 0 [(0, .ref (gb G + t)), (1, .int x1)] [] Z I J := by
  refine jd_iconst (pc := 0) (v := 0) dX8_tally_0 (by decide) ?_
  refine jd_istore_n (pc := 1) [(2, .int 0), (0, .ref (gb G + t)), (1, .int x1)] dX8_tally_1 rfl (by decide) rfl ?_
  exact jd_lv (lv2 := [(0, .ref (gb G + t)), (1, .int x1), (2, .int 0)]) [1, 2, 0] rfl h
set_option maxRecDepth 4000 in
theorem rX8_tally_2 {G : jdG} {n rc rs : Nat} {Z : jdL} {I : jdI} {J : jdJ} {K : jdI → jdJ → Prop} {t : Nat} {x1 : Int32} {x2 : Int32} (ht : zTies Z t) (h : ((28 ≤ x2 → K I J) ∧ (¬ 28 ≤ x2 → (vp_in x2 28 ∧ (vp_in x2 28 ∧ Jd G mX8_tally (jdFm G (qv Z K)) n rc rs 2 [(0, .ref (gb G + t)), (1, .int x1), (2, .int (x2 + 1))] [] Z (uI I (t + 6) (Int32.toNatClampNeg x2) ((I (t + 6) (Int32.toNatClampNeg x2)) + ((x1 >>> (x2 &&& 31)) &&& 1))) J))))) : Jd G mX8_tally (jdFm G (qv Z K)) n rc rs 2 [(0, .ref (gb G + t)), (1, .int x1), (2, .int x2)] [] Z I J := by
  refine jd_iload_n (pc := 2) 2 dX8_tally_2 rfl rfl ?_
  refine jd_bipush (pc := 3) (v := 28) dX8_tally_3 (by decide) ?_
  refine jd_icmp_ge (pc := 5) 28 dX8_tally_5 (by decide) (fun hc => ?_) (fun hc => ?_)
  · have h := h.1 hc
    exact jd_vretK (pc := 28) rfl dX8_tally_28 h
  · have h := h.2 hc
    refine jd_aload_n (pc := 8) 0 dX8_tally_8 rfl rfl ?_
    refine jd_getR (pc := 9) (ci := 7) (k := 5) (r := (t + 6)) gX8_27 ht.1 rfl (zTies_p5 ht) dX8_tally_9 ?_
    refine jd_iload_n (pc := 12) 2 dX8_tally_12 rfl rfl ?_
    refine jd_dup2 (pc := 13) dX8_tally_13 rfl rfl ?_
    obtain ⟨hv1, h⟩ := h
    refine jd_iald (pc := 14) (len := 28) (zTies_a5 ht) hv1 dX8_tally_14 ?_
    refine jd_iload_n (pc := 15) 1 dX8_tally_15 rfl rfl ?_
    refine jd_iload_n (pc := 16) 2 dX8_tally_16 rfl rfl ?_
    refine jd_ishr (pc := 17) dX8_tally_17 ?_
    refine jd_iconst (pc := 18) (v := 1) dX8_tally_18 (by decide) ?_
    refine jd_iand (pc := 19) dX8_tally_19 ?_
    refine jd_iadd (pc := 20) dX8_tally_20 ?_
    obtain ⟨hv2, h⟩ := h
    refine jd_iast (pc := 21) (len := 28) (zTies_a5 ht) hv2 dX8_tally_21 ?_
    refine jd_iinc (pc := 22) (v := (x2 + 1)) 2 [(2, .int (x2 + 1)), (0, .ref (gb G + t)), (1, .int x1)] dX8_tally_22 rfl rfl (by decide) rfl ?_
    refine jd_goto (pc := 25) 2 dX8_tally_25 (by decide) ?_
    exact jd_lv (lv2 := [(0, .ref (gb G + t)), (1, .int x1), (2, .int (x2 + 1))]) [1, 2, 0] rfl h
theorem eX8_tally {G : jdG} {n : Nat} {Z : jdL} {I : jdI} {J : jdJ} {K : jdI → jdJ → Prop} {t : Nat} {x1 : Int32} (ht : zTies Z t) (h : Jd G mX8_tally (jdFm G (qv Z K)) n 0 0 2 [(0, .ref (gb G + t)), (1, .int x1), (2, .int 0)] [] Z I J) : Cl G mX8_tally (n) 0 0 [.ref (gb G + t), .int x1] Z I J (qv Z K) :=
  Cl.of (by decide +kernel) (Nat.le_of_ble_eq_true rfl) (rX8_tally_0 ht h)
set_option maxRecDepth 4000 in
theorem rX8_surest_0 {G : jdG} {n rc rs : Nat} {Z : jdL} {I : jdI} {J : jdJ} {K : Int32 → jdI → jdJ → Prop} {t : Nat} {x1 : Int32} (ht : zTies Z t) (h : Cl G mX8_countWays n 0 0 [.ref (gb G + t), .int x1] Z I J (qi Z (fun v2 I1 J1 => Cl G mX8_pairsIn n 0 0 [.ref (gb G + t), .int x1] Z I1 J1 (qi Z (fun v4 I3 J3 => Jd G mX8_surest (jdFm G (qi Z K)) (n + 1) rc rs 20 [(0, .ref (gb G + t)), (1, .int x1), (2, .int v4), (3, .int (-1)), (4, .int (-1)), (5, .int 0)] [] Z I3 J3))))) : Jd G mX8_surest (jdFm G (qi Z K)) (n + 1) rc rs 0 [(0, .ref (gb G + t)), (1, .int x1)] [] Z I J := by
  refine jd_aload_n (pc := 0) 0 dX8_surest_0 rfl rfl ?_
  refine jd_iload_n (pc := 1) 1 dX8_surest_1 rfl rfl ?_
  refine jd_callVi (pc := 2) (M2 := mX8_countWays) (id := t) (ci := 7) (T := TX8) (N := 11) (av := [.int x1]) kX8_countWays sX8_countWays rfl ht.1 lX8_120 rfl rfl (Nat.le_of_ble_eq_true rfl) dX8_surest_2 h ?_
  intro v2 I1 J1 h
  refine jd_pop (pc := 5) dX8_surest_5 rfl ?_
  refine jd_aload_n (pc := 6) 0 dX8_surest_6 rfl rfl ?_
  refine jd_iload_n (pc := 7) 1 dX8_surest_7 rfl rfl ?_
  refine jd_callVi (pc := 8) (M2 := mX8_pairsIn) (id := t) (ci := 7) (T := TX8) (N := 11) (av := [.int x1]) kX8_pairsIn sX8_pairsIn rfl ht.1 lX8_85 rfl rfl (Nat.le_of_ble_eq_true rfl) dX8_surest_8 h ?_
  intro v4 I3 J3 h
  refine jd_istore_n (pc := 11) [(2, .int v4), (0, .ref (gb G + t)), (1, .int x1)] dX8_surest_11 rfl (by decide) rfl ?_
  refine jd_iconst (pc := 12) (v := (-1)) dX8_surest_12 (by decide) ?_
  refine jd_istore_n (pc := 13) [(3, .int (-1)), (2, .int v4), (0, .ref (gb G + t)), (1, .int x1)] dX8_surest_13 rfl (by decide) rfl ?_
  refine jd_iconst (pc := 14) (v := (-1)) dX8_surest_14 (by decide) ?_
  refine jd_istore (pc := 15) [(4, .int (-1)), (3, .int (-1)), (2, .int v4), (0, .ref (gb G + t)), (1, .int x1)] dX8_surest_15 (by decide) rfl ?_
  refine jd_iconst (pc := 17) (v := 0) dX8_surest_17 (by decide) ?_
  refine jd_istore (pc := 18) [(5, .int 0), (4, .int (-1)), (3, .int (-1)), (2, .int v4), (0, .ref (gb G + t)), (1, .int x1)] dX8_surest_18 (by decide) rfl ?_
  exact jd_lv (lv2 := [(0, .ref (gb G + t)), (1, .int x1), (2, .int v4), (3, .int (-1)), (4, .int (-1)), (5, .int 0)]) [4, 5, 3, 2, 1, 0] rfl h
set_option maxRecDepth 4000 in
theorem rX8_surest_20 {G : jdG} {n rc rs : Nat} {Z : jdL} {I : jdI} {J : jdJ} {K : Int32 → jdI → jdJ → Prop} {t : Nat} {x1 : Int32} {x2 : Int32} {x3 : Int32} {x4 : Int32} {x5 : Int32} (ht : zTies Z t) (h : (((I t 6) ≤ x5 → K x3 I J) ∧ (¬ (I t 6) ≤ x5 → Jd G mX8_surest (jdFm G (qi Z K)) (n + 1) rc rs 35 [(0, .ref (gb G + t)), (1, .int x1), (2, .int x2), (3, .int x3), (4, .int x4), (5, .int x5), (6, .int (x5 + 1))] [] Z I J))) : Jd G mX8_surest (jdFm G (qi Z K)) (n + 1) rc rs 20 [(0, .ref (gb G + t)), (1, .int x1), (2, .int x2), (3, .int x3), (4, .int x4), (5, .int x5)] [] Z I J := by
  refine jd_iload (pc := 20) 5 dX8_surest_20 rfl ?_
  refine jd_aload_n (pc := 22) 0 dX8_surest_22 rfl rfl ?_
  refine jd_getI (pc := 23) (ci := 7) (k := 6) gX8_36 ht.1 rfl dX8_surest_23 ?_
  refine jd_icmp_ge (pc := 26) 104 dX8_surest_26 (by decide) (fun hc => ?_) (fun hc => ?_)
  · have h := h.1 hc
    refine jd_iload_n (pc := 104) 3 dX8_surest_104 rfl rfl ?_
    exact jd_iretK (pc := 105) rfl rfl dX8_surest_105 h
  · have h := h.2 hc
    refine jd_iload (pc := 29) 5 dX8_surest_29 rfl ?_
    refine jd_iconst (pc := 31) (v := 1) dX8_surest_31 (by decide) ?_
    refine jd_iadd (pc := 32) dX8_surest_32 ?_
    refine jd_istore (pc := 33) [(6, .int (x5 + 1)), (0, .ref (gb G + t)), (1, .int x1), (2, .int x2), (3, .int x3), (4, .int x4), (5, .int x5)] dX8_surest_33 (by decide) rfl ?_
    exact jd_lv (lv2 := [(0, .ref (gb G + t)), (1, .int x1), (2, .int x2), (3, .int x3), (4, .int x4), (5, .int x5), (6, .int (x5 + 1))]) [1, 2, 3, 4, 5, 6, 0] rfl h
set_option maxRecDepth 4000 in
theorem rX8_surest_35 {G : jdG} {n rc rs : Nat} {Z : jdL} {I : jdI} {J : jdJ} {K : Int32 → jdI → jdJ → Prop} {t : Nat} {x1 : Int32} {x2 : Int32} {x3 : Int32} {x4 : Int32} {x5 : Int32} {x6 : Int32} (ht : zTies Z t) (h : (((I t 6) ≤ x6 → Jd G mX8_surest (jdFm G (qi Z K)) (n + 1) rc rs 20 [(0, .ref (gb G + t)), (1, .int x1), (2, .int x2), (3, .int x3), (4, .int x4), (5, .int (x5 + 1))] [] Z I J) ∧ (¬ (I t 6) ≤ x6 → Cl G mX8_pairBit n 0 0 [.int x5, .int x6] Z I J (qi Z (fun v2 I1 J1 => ((((x2 >>> (v2 &&& 31)) &&& 1) = 0 → Jd G mX8_surest (jdFm G (qi Z K)) (n + 1) rc rs 35 [(0, .ref (gb G + t)), (1, .int x1), (2, .int x2), (3, .int x3), (4, .int x4), (5, .int x5), (6, .int (x6 + 1))] [] Z I1 J1) ∧ (¬ ((x2 >>> (v2 &&& 31)) &&& 1) = 0 → (vp_in v2 28 ∧ (((I1 (t + 6) (Int32.toNatClampNeg v2)) ≤ x4 → Jd G mX8_surest (jdFm G (qi Z K)) (n + 1) rc rs 35 [(0, .ref (gb G + t)), (1, .int x1), (2, .int x2), (3, .int x3), (4, .int x4), (5, .int x5), (6, .int (x6 + 1))] [] Z I1 J1) ∧ (¬ (I1 (t + 6) (Int32.toNatClampNeg v2)) ≤ x4 → (vp_in v2 28 ∧ Jd G mX8_surest (jdFm G (qi Z K)) (n + 1) rc rs 35 [(0, .ref (gb G + t)), (1, .int x1), (2, .int x2), (3, .int ((10 * x5) + x6)), (4, .int (I1 (t + 6) (Int32.toNatClampNeg v2))), (5, .int x5), (6, .int (x6 + 1))] [] Z I1 J1))))))))))) : Jd G mX8_surest (jdFm G (qi Z K)) (n + 1) rc rs 35 [(0, .ref (gb G + t)), (1, .int x1), (2, .int x2), (3, .int x3), (4, .int x4), (5, .int x5), (6, .int x6)] [] Z I J := by
  refine jd_iload (pc := 35) 6 dX8_surest_35 rfl ?_
  refine jd_aload_n (pc := 37) 0 dX8_surest_37 rfl rfl ?_
  refine jd_getI (pc := 38) (ci := 7) (k := 6) gX8_36 ht.1 rfl dX8_surest_38 ?_
  refine jd_icmp_ge (pc := 41) 98 dX8_surest_41 (by decide) (fun hc => ?_) (fun hc => ?_)
  · have h := h.1 hc
    refine jd_iinc (pc := 98) (v := (x5 + 1)) 5 [(5, .int (x5 + 1)), (0, .ref (gb G + t)), (1, .int x1), (2, .int x2), (3, .int x3), (4, .int x4), (6, .int x6)] dX8_surest_98 rfl rfl (by decide) rfl ?_
    refine jd_goto (pc := 101) 20 dX8_surest_101 (by decide) ?_
    exact jd_lv (lv2 := [(0, .ref (gb G + t)), (1, .int x1), (2, .int x2), (3, .int x3), (4, .int x4), (5, .int (x5 + 1))]) [1, 2, 3, 4, 5, 0] rfl h
  · have h := h.2 hc
    refine jd_iload (pc := 44) 5 dX8_surest_44 rfl ?_
    refine jd_iload (pc := 46) 6 dX8_surest_46 rfl ?_
    refine jd_callSi (pc := 48) (M2 := mX8_pairBit) (av := [.int x5, .int x6]) kX8_pairBit sX8_pairBit lX8_81 rfl rfl (Nat.le_of_ble_eq_true rfl) dX8_surest_48 h ?_
    intro v2 I1 J1 h
    refine jd_istore (pc := 51) [(7, .int v2), (0, .ref (gb G + t)), (1, .int x1), (2, .int x2), (3, .int x3), (4, .int x4), (5, .int x5), (6, .int x6)] dX8_surest_51 (by decide) rfl ?_
    refine jd_iload_n (pc := 53) 3 dX8_surest_53 rfl rfl ?_
    refine jd_iload (pc := 54) 0 dX8_surest_54 rfl ?_
    refine jd_ishr (pc := 56) dX8_surest_56 ?_
    refine jd_iconst (pc := 57) (v := 1) dX8_surest_57 (by decide) ?_
    refine jd_iand (pc := 58) dX8_surest_58 ?_
    refine jd_if_eq (pc := 59) 92 dX8_surest_59 (by decide) (fun hc => ?_) (fun hc => ?_)
    · have h := h.1 hc
      refine jd_iinc (pc := 92) (v := (x6 + 1)) 7 [(6, .int (x6 + 1)), (7, .int v2), (0, .ref (gb G + t)), (1, .int x1), (2, .int x2), (3, .int x3), (4, .int x4), (5, .int x5)] dX8_surest_92 rfl rfl (by decide) rfl ?_
      refine jd_goto (pc := 95) 35 dX8_surest_95 (by decide) ?_
      exact jd_lv (lv2 := [(0, .ref (gb G + t)), (1, .int x1), (2, .int x2), (3, .int x3), (4, .int x4), (5, .int x5), (6, .int (x6 + 1))]) [2, 3, 4, 5, 6, 7, 0] rfl h
    · have h := h.2 hc
      refine jd_aload_n (pc := 62) 1 dX8_surest_62 rfl rfl ?_
      refine jd_getR (pc := 63) (ci := 7) (k := 5) (r := (t + 6)) gX8_27 ht.1 rfl (zTies_p5 ht) dX8_surest_63 ?_
      refine jd_iload (pc := 66) 0 dX8_surest_66 rfl ?_
      obtain ⟨hv3, h⟩ := h
      refine jd_iald (pc := 68) (len := 28) (zTies_a5 ht) hv3 dX8_surest_68 ?_
      refine jd_iload (pc := 69) 5 dX8_surest_69 rfl ?_
      refine jd_icmp_le (pc := 71) 92 dX8_surest_71 (by decide) (fun hc => ?_) (fun hc => ?_)
      · have h := h.1 hc
        refine jd_iinc (pc := 92) (v := (x6 + 1)) 7 [(6, .int (x6 + 1)), (7, .int v2), (0, .ref (gb G + t)), (1, .int x1), (2, .int x2), (3, .int x3), (4, .int x4), (5, .int x5)] dX8_surest_92 rfl rfl (by decide) rfl ?_
        refine jd_goto (pc := 95) 35 dX8_surest_95 (by decide) ?_
        exact jd_lv (lv2 := [(0, .ref (gb G + t)), (1, .int x1), (2, .int x2), (3, .int x3), (4, .int x4), (5, .int x5), (6, .int (x6 + 1))]) [2, 3, 4, 5, 6, 7, 0] rfl h
      · have h := h.2 hc
        refine jd_aload_n (pc := 74) 1 dX8_surest_74 rfl rfl ?_
        refine jd_getR (pc := 75) (ci := 7) (k := 5) (r := (t + 6)) gX8_27 ht.1 rfl (zTies_p5 ht) dX8_surest_75 ?_
        refine jd_iload (pc := 78) 0 dX8_surest_78 rfl ?_
        obtain ⟨hv4, h⟩ := h
        refine jd_iald (pc := 80) (len := 28) (zTies_a5 ht) hv4 dX8_surest_80 ?_
        refine jd_istore (pc := 81) [(4, .int (I1 (t + 6) (Int32.toNatClampNeg v2))), (7, .int v2), (0, .ref (gb G + t)), (1, .int x1), (2, .int x2), (3, .int x3), (5, .int x5), (6, .int x6)] dX8_surest_81 (by decide) rfl ?_
        refine jd_bipush (pc := 83) (v := 10) dX8_surest_83 (by decide) ?_
        refine jd_iload (pc := 85) 6 dX8_surest_85 rfl ?_
        refine jd_imul (pc := 87) dX8_surest_87 ?_
        refine jd_iload (pc := 88) 7 dX8_surest_88 rfl ?_
        refine jd_iadd (pc := 90) dX8_surest_90 ?_
        refine jd_istore_n (pc := 91) [(3, .int ((10 * x5) + x6)), (4, .int (I1 (t + 6) (Int32.toNatClampNeg v2))), (7, .int v2), (0, .ref (gb G + t)), (1, .int x1), (2, .int x2), (5, .int x5), (6, .int x6)] dX8_surest_91 rfl (by decide) rfl ?_
        refine jd_iinc (pc := 92) (v := (x6 + 1)) 7 [(6, .int (x6 + 1)), (3, .int ((10 * x5) + x6)), (4, .int (I1 (t + 6) (Int32.toNatClampNeg v2))), (7, .int v2), (0, .ref (gb G + t)), (1, .int x1), (2, .int x2), (5, .int x5)] dX8_surest_92 rfl rfl (by decide) rfl ?_
        refine jd_goto (pc := 95) 35 dX8_surest_95 (by decide) ?_
        exact jd_lv (lv2 := [(0, .ref (gb G + t)), (1, .int x1), (2, .int x2), (3, .int ((10 * x5) + x6)), (4, .int (I1 (t + 6) (Int32.toNatClampNeg v2))), (5, .int x5), (6, .int (x6 + 1))]) [4, 5, 6, 1, 2, 7, 0] rfl h
theorem eX8_surest {G : jdG} {n : Nat} {Z : jdL} {I : jdI} {J : jdJ} {K : Int32 → jdI → jdJ → Prop} {t : Nat} {x1 : Int32} (ht : zTies Z t) (h : Cl G mX8_countWays n 0 0 [.ref (gb G + t), .int x1] Z I J (qi Z (fun v2 I1 J1 => Cl G mX8_pairsIn n 0 0 [.ref (gb G + t), .int x1] Z I1 J1 (qi Z (fun v4 I3 J3 => Jd G mX8_surest (jdFm G (qi Z K)) (n + 1) 0 0 20 [(0, .ref (gb G + t)), (1, .int x1), (2, .int v4), (3, .int (-1)), (4, .int (-1)), (5, .int 0)] [] Z I3 J3))))) : Cl G mX8_surest (n + 1) 0 0 [.ref (gb G + t), .int x1] Z I J (qi Z K) :=
  Cl.of (by decide +kernel) (Nat.le_of_ble_eq_true rfl) (rX8_surest_0 ht h)
