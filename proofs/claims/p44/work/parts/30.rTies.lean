set_option maxRecDepth 4000 in
theorem rX8_load_0 {G : jdG} {n rc rs : Nat} {Z : jdL} {I : jdI} {J : jdJ} {K : jdI → jdJ → Prop} {t : Nat} {u1 : Nat} (ht : zTies Z t) (hu1 : zTown Z u1) (h : Jd G mX8_load (jdFm G (qv Z K)) (n + 1) rc rs 18 [(0, .ref (gb G + t)), (1, .ref (gb G + u1)), (2, .int 0)] [] Z (uI (uI I t 6 (I u1 3)) t 7 ((uI I t 6 (I u1 3)) u1 4)) J) : Jd G mX8_load (jdFm G (qv Z K)) (n + 1) rc rs 0 [(0, .ref (gb G + t)), (1, .ref (gb G + u1))] [] Z I J := by
  refine jd_aload_n (pc := 0) 0 dX8_load_0 rfl rfl ?_
  refine jd_aload_n (pc := 1) 1 dX8_load_1 rfl rfl ?_
  refine jd_getI (pc := 2) (ci := 8) (k := 3) gX8_30 hu1.1 rfl dX8_load_2 ?_
  refine jd_putI (pc := 5) (ci := 7) (k := 6) pX8_36 ht.1 rfl rfl rfl dX8_load_5 ?_
  refine jd_aload_n (pc := 8) 0 dX8_load_8 rfl rfl ?_
  refine jd_aload_n (pc := 9) 1 dX8_load_9 rfl rfl ?_
  refine jd_getI (pc := 10) (ci := 8) (k := 4) gX8_37 hu1.1 rfl dX8_load_10 ?_
  refine jd_putI (pc := 13) (ci := 7) (k := 7) pX8_40 ht.1 rfl rfl rfl dX8_load_13 ?_
  refine jd_iconst (pc := 16) (v := 0) dX8_load_16 (by decide) ?_
  refine jd_istore_n (pc := 17) [(2, .int 0), (0, .ref (gb G + t)), (1, .ref (gb G + u1))] dX8_load_17 rfl (by decide) rfl ?_
  exact jd_lv (lv2 := [(0, .ref (gb G + t)), (1, .ref (gb G + u1)), (2, .int 0)]) [1, 2, 0] rfl h
set_option maxRecDepth 4000 in
theorem rX8_load_18 {G : jdG} {n rc rs : Nat} {Z : jdL} {I : jdI} {J : jdJ} {K : jdI → jdJ → Prop} {u1 : Nat} {t : Nat} {x2 : Int32} (ht : zTies Z t) (hu1 : zTown Z u1) (h : (((I t 6) ≤ x2 → Cl G mX8_list n 0 0 [.ref (gb G + t)] Z I J (qv Z (fun I1 J1 => K I1 J1))) ∧ (¬ (I t 6) ≤ x2 → Cl G mX9_strangersTo n 0 0 [.ref (gb G + u1), .int x2] Z I J (qi Z (fun v4 I3 J3 => (vp_in x2 8 ∧ (vp_in x2 7 ∧ (vp_in x2 8 ∧ Jd G mX8_load (jdFm G (qv Z K)) (n + 1) rc rs 18 [(0, .ref (gb G + t)), (1, .ref (gb G + u1)), (2, .int (x2 + 1))] [] Z (uI (uI I3 (t + 1) (Int32.toNatClampNeg x2) v4) (t + 2) (Int32.toNatClampNeg x2) ((uI I3 (t + 1) (Int32.toNatClampNeg x2) v4) (u1 + 2) (Int32.toNatClampNeg x2))) J3)))))))) : Jd G mX8_load (jdFm G (qv Z K)) (n + 1) rc rs 18 [(0, .ref (gb G + t)), (1, .ref (gb G + u1)), (2, .int x2)] [] Z I J := by
  refine jd_iload_n (pc := 18) 2 dX8_load_18 rfl rfl ?_
  refine jd_aload_n (pc := 19) 0 dX8_load_19 rfl rfl ?_
  refine jd_getI (pc := 20) (ci := 7) (k := 6) gX8_36 ht.1 rfl dX8_load_20 ?_
  refine jd_icmp_ge (pc := 23) 55 dX8_load_23 (by decide) (fun hc => ?_) (fun hc => ?_)
  · have h := h.1 hc
    refine jd_aload_n (pc := 55) 0 dX8_load_55 rfl rfl ?_
    refine jd_callVv (pc := 56) (M2 := mX8_list) (id := t) (ci := 7) (T := TX8) (N := 11) (av := []) kX8_list sX8_list rfl ht.1 lX8_46 rfl rfl (Nat.le_of_ble_eq_true rfl) dX8_load_56 h ?_
    intro I1 J1 h
    exact jd_vretK (pc := 59) rfl dX8_load_59 h
  · have h := h.2 hc
    refine jd_aload_n (pc := 26) 0 dX8_load_26 rfl rfl ?_
    refine jd_getR (pc := 27) (ci := 7) (k := 0) (r := (t + 1)) gX8_11 ht.1 rfl (zTies_p0 ht) dX8_load_27 ?_
    refine jd_iload_n (pc := 30) 2 dX8_load_30 rfl rfl ?_
    refine jd_aload_n (pc := 31) 1 dX8_load_31 rfl rfl ?_
    refine jd_iload_n (pc := 32) 2 dX8_load_32 rfl rfl ?_
    refine jd_callVi (pc := 33) (M2 := mX9_strangersTo) (id := u1) (ci := 8) (T := TX9) (N := 10) (av := [.int x2]) kX9_strangersTo sX9_strangersTo rfl hu1.1 lX8_41 rfl rfl (Nat.le_of_ble_eq_true rfl) dX8_load_33 h ?_
    intro v4 I3 J3 h
    obtain ⟨hv5, h⟩ := h
    refine jd_iast (pc := 36) (len := 8) (zTies_a0 ht) hv5 dX8_load_36 ?_
    refine jd_aload_n (pc := 37) 0 dX8_load_37 rfl rfl ?_
    refine jd_getR (pc := 38) (ci := 7) (k := 1) (r := (t + 2)) gX8_15 ht.1 rfl (zTies_p1 ht) dX8_load_38 ?_
    refine jd_iload_n (pc := 41) 2 dX8_load_41 rfl rfl ?_
    refine jd_aload_n (pc := 42) 1 dX8_load_42 rfl rfl ?_
    refine jd_getR (pc := 43) (ci := 8) (k := 1) (r := (u1 + 2)) gX8_45 hu1.1 rfl (zTown_p1 hu1) dX8_load_43 ?_
    refine jd_iload_n (pc := 46) 2 dX8_load_46 rfl rfl ?_
    obtain ⟨hv6, h⟩ := h
    refine jd_iald (pc := 47) (len := 7) (zTown_a1 hu1) hv6 dX8_load_47 ?_
    obtain ⟨hv7, h⟩ := h
    refine jd_iast (pc := 48) (len := 8) (zTies_a1 ht) hv7 dX8_load_48 ?_
    refine jd_iinc (pc := 49) (v := (x2 + 1)) 2 [(2, .int (x2 + 1)), (0, .ref (gb G + t)), (1, .ref (gb G + u1))] dX8_load_49 rfl rfl (by decide) rfl ?_
    refine jd_goto (pc := 52) 18 dX8_load_52 (by decide) ?_
    exact jd_lv (lv2 := [(0, .ref (gb G + t)), (1, .ref (gb G + u1)), (2, .int (x2 + 1))]) [1, 2, 0] rfl h
theorem eX8_load {G : jdG} {n : Nat} {Z : jdL} {I : jdI} {J : jdJ} {K : jdI → jdJ → Prop} {t : Nat} {u1 : Nat} (ht : zTies Z t) (hu1 : zTown Z u1) (h : Jd G mX8_load (jdFm G (qv Z K)) (n + 1) 0 0 18 [(0, .ref (gb G + t)), (1, .ref (gb G + u1)), (2, .int 0)] [] Z (uI (uI I t 6 (I u1 3)) t 7 ((uI I t 6 (I u1 3)) u1 4)) J) : Cl G mX8_load (n + 1) 0 0 [.ref (gb G + t), .ref (gb G + u1)] Z I J (qv Z K) :=
  Cl.of (by decide +kernel) (Nat.le_of_ble_eq_true rfl) (rX8_load_0 ht hu1 h)
set_option maxRecDepth 4000 in
theorem rX8_addStranger_0 {G : jdG} {n rc rs : Nat} {Z : jdL} {I : jdI} {J : jdJ} {K : jdI → jdJ → Prop} {t : Nat} (ht : zTies Z t) (h : (((I t 6) < 8 → Jd G mX8_addStranger (jdFm G (qv Z K)) (n + 1) rc rs 12 [(0, .ref (gb G + t)), (1, .int 0)] [] Z I J) ∧ (¬ (I t 6) < 8 → K I J))) : Jd G mX8_addStranger (jdFm G (qv Z K)) (n + 1) rc rs 0 [(0, .ref (gb G + t))] [] Z I J := by
  refine jd_aload_n (pc := 0) 0 dX8_addStranger_0 rfl rfl ?_
  refine jd_getI (pc := 1) (ci := 7) (k := 6) gX8_36 ht.1 rfl dX8_addStranger_1 ?_
  refine jd_bipush (pc := 4) (v := 8) dX8_addStranger_4 (by decide) ?_
  refine jd_icmp_lt (pc := 6) 10 dX8_addStranger_6 (by decide) (fun hc => ?_) (fun hc => ?_)
  · have h := h.1 hc
    refine jd_iconst (pc := 10) (v := 0) dX8_addStranger_10 (by decide) ?_
    refine jd_istore_n (pc := 11) [(1, .int 0), (0, .ref (gb G + t))] dX8_addStranger_11 rfl (by decide) rfl ?_
    exact jd_lv (lv2 := [(0, .ref (gb G + t)), (1, .int 0)]) [1, 0] rfl h
  · have h := h.2 hc
    exact jd_vretK (pc := 9) rfl dX8_addStranger_9 h
set_option maxRecDepth 4000 in
theorem rX8_addStranger_12 {G : jdG} {n rc rs : Nat} {Z : jdL} {I : jdI} {J : jdJ} {K : jdI → jdJ → Prop} {t : Nat} {x1 : Int32} (ht : zTies Z t) (h : (((I t 6) ≤ x1 → Cl G mX8_everybody n 0 0 [.ref (gb G + t)] Z I J (qi Z (fun v2 I1 J1 => (vp_in (I t 6) 8 ∧ (vp_in (I1 t 6) 8 ∧ Cl G mX8_list n 0 0 [.ref (gb G + t)] Z (uI (uI (uI I1 (t + 1) (Int32.toNatClampNeg (I t 6)) v2) (t + 2) (Int32.toNatClampNeg (I1 t 6)) 0) t 6 ((I1 t 6) + 1)) J1 (qv Z (fun I5 J5 => K I5 J5))))))) ∧ (¬ (I t 6) ≤ x1 → (vp_in x1 8 ∧ (vp_in x1 8 ∧ Jd G mX8_addStranger (jdFm G (qv Z K)) (n + 1) rc rs 12 [(0, .ref (gb G + t)), (1, .int (x1 + 1))] [] Z (uI I (t + 1) (Int32.toNatClampNeg x1) ((I (t + 1) (Int32.toNatClampNeg x1)) ||| (1 <<< ((I t 6) &&& 31)))) J))))) : Jd G mX8_addStranger (jdFm G (qv Z K)) (n + 1) rc rs 12 [(0, .ref (gb G + t)), (1, .int x1)] [] Z I J := by
  refine jd_iload_n (pc := 12) 1 dX8_addStranger_12 rfl rfl ?_
  refine jd_aload_n (pc := 13) 0 dX8_addStranger_13 rfl rfl ?_
  refine jd_getI (pc := 14) (ci := 7) (k := 6) gX8_36 ht.1 rfl dX8_addStranger_14 ?_
  refine jd_icmp_ge (pc := 17) 41 dX8_addStranger_17 (by decide) (fun hc => ?_) (fun hc => ?_)
  · have h := h.1 hc
    refine jd_aload_n (pc := 41) 0 dX8_addStranger_41 rfl rfl ?_
    refine jd_getR (pc := 42) (ci := 7) (k := 0) (r := (t + 1)) gX8_11 ht.1 rfl (zTies_p0 ht) dX8_addStranger_42 ?_
    refine jd_aload_n (pc := 45) 0 dX8_addStranger_45 rfl rfl ?_
    refine jd_getI (pc := 46) (ci := 7) (k := 6) gX8_36 ht.1 rfl dX8_addStranger_46 ?_
    refine jd_aload_n (pc := 49) 0 dX8_addStranger_49 rfl rfl ?_
    refine jd_callVi (pc := 50) (M2 := mX8_everybody) (id := t) (ci := 7) (T := TX8) (N := 11) (av := []) kX8_everybody sX8_everybody rfl ht.1 lX8_49 rfl rfl (Nat.le_of_ble_eq_true rfl) dX8_addStranger_50 h ?_
    intro v2 I1 J1 h
    obtain ⟨hv3, h⟩ := h
    refine jd_iast (pc := 53) (len := 8) (zTies_a0 ht) hv3 dX8_addStranger_53 ?_
    refine jd_aload_n (pc := 54) 0 dX8_addStranger_54 rfl rfl ?_
    refine jd_getR (pc := 55) (ci := 7) (k := 1) (r := (t + 2)) gX8_15 ht.1 rfl (zTies_p1 ht) dX8_addStranger_55 ?_
    refine jd_aload_n (pc := 58) 0 dX8_addStranger_58 rfl rfl ?_
    refine jd_getIe (pc := 59) (ci := 7) (k := 6) (e := (I1 t 6)) (uI_ne (by omega) rfl) gX8_36 ht.1 rfl dX8_addStranger_59 ?_
    refine jd_iconst (pc := 62) (v := 0) dX8_addStranger_62 (by decide) ?_
    obtain ⟨hv4, h⟩ := h
    refine jd_iast (pc := 63) (len := 8) (zTies_a1 ht) hv4 dX8_addStranger_63 ?_
    refine jd_aload_n (pc := 64) 0 dX8_addStranger_64 rfl rfl ?_
    refine jd_dup (pc := 65) dX8_addStranger_65 rfl ?_
    refine jd_getIe (pc := 66) (ci := 7) (k := 6) (e := (I1 t 6)) (uI_ne (by omega) (uI_ne (by omega) rfl)) gX8_36 ht.1 rfl dX8_addStranger_66 ?_
    refine jd_iconst (pc := 69) (v := 1) dX8_addStranger_69 (by decide) ?_
    refine jd_iadd (pc := 70) dX8_addStranger_70 ?_
    refine jd_putI (pc := 71) (ci := 7) (k := 6) pX8_36 ht.1 rfl rfl rfl dX8_addStranger_71 ?_
    refine jd_aload_n (pc := 74) 0 dX8_addStranger_74 rfl rfl ?_
    refine jd_callVv (pc := 75) (M2 := mX8_list) (id := t) (ci := 7) (T := TX8) (N := 11) (av := []) kX8_list sX8_list rfl ht.1 lX8_46 rfl rfl (Nat.le_of_ble_eq_true rfl) dX8_addStranger_75 h ?_
    intro I5 J5 h
    exact jd_vretK (pc := 78) rfl dX8_addStranger_78 h
  · have h := h.2 hc
    refine jd_aload_n (pc := 20) 0 dX8_addStranger_20 rfl rfl ?_
    refine jd_getR (pc := 21) (ci := 7) (k := 0) (r := (t + 1)) gX8_11 ht.1 rfl (zTies_p0 ht) dX8_addStranger_21 ?_
    refine jd_iload_n (pc := 24) 1 dX8_addStranger_24 rfl rfl ?_
    refine jd_dup2 (pc := 25) dX8_addStranger_25 rfl rfl ?_
    obtain ⟨hv7, h⟩ := h
    refine jd_iald (pc := 26) (len := 8) (zTies_a0 ht) hv7 dX8_addStranger_26 ?_
    refine jd_iconst (pc := 27) (v := 1) dX8_addStranger_27 (by decide) ?_
    refine jd_aload_n (pc := 28) 0 dX8_addStranger_28 rfl rfl ?_
    refine jd_getI (pc := 29) (ci := 7) (k := 6) gX8_36 ht.1 rfl dX8_addStranger_29 ?_
    refine jd_ishl (pc := 32) dX8_addStranger_32 ?_
    refine jd_ior (pc := 33) dX8_addStranger_33 ?_
    obtain ⟨hv8, h⟩ := h
    refine jd_iast (pc := 34) (len := 8) (zTies_a0 ht) hv8 dX8_addStranger_34 ?_
    refine jd_iinc (pc := 35) (v := (x1 + 1)) 1 [(1, .int (x1 + 1)), (0, .ref (gb G + t))] dX8_addStranger_35 rfl rfl (by decide) rfl ?_
    refine jd_goto (pc := 38) 12 dX8_addStranger_38 (by decide) ?_
    exact jd_lv (lv2 := [(0, .ref (gb G + t)), (1, .int (x1 + 1))]) [1, 0] rfl h
theorem eX8_addStranger {G : jdG} {n : Nat} {Z : jdL} {I : jdI} {J : jdJ} {K : jdI → jdJ → Prop} {t : Nat} (ht : zTies Z t) (h : (((I t 6) < 8 → Jd G mX8_addStranger (jdFm G (qv Z K)) (n + 1) 0 0 12 [(0, .ref (gb G + t)), (1, .int 0)] [] Z I J) ∧ (¬ (I t 6) < 8 → K I J))) : Cl G mX8_addStranger (n + 1) 0 0 [.ref (gb G + t)] Z I J (qv Z K) :=
  Cl.of (by decide +kernel) (Nat.le_of_ble_eq_true rfl) (rX8_addStranger_0 ht h)
set_option maxRecDepth 4000 in
theorem rX8_acquaint_0 {G : jdG} {n rc rs : Nat} {Z : jdL} {I : jdI} {J : jdJ} {K : jdI → jdJ → Prop} {t : Nat} {x1 : Int32} (ht : zTies Z t) (h : Jd G mX8_acquaint (jdFm G (qv Z K)) (n + 1) rc rs 2 [(0, .ref (gb G + t)), (1, .int x1), (2, .int 0)] [] Z I J) : Jd G mX8_acquaint (jdFm G (qv Z K)) (n + 1) rc rs 0 [(0, .ref (gb G + t)), (1, .int x1)] [] Z I J := by
  refine jd_iconst (pc := 0) (v := 0) dX8_acquaint_0 (by decide) ?_
  refine jd_istore_n (pc := 1) [(2, .int 0), (0, .ref (gb G + t)), (1, .int x1)] dX8_acquaint_1 rfl (by decide) rfl ?_
  exact jd_lv (lv2 := [(0, .ref (gb G + t)), (1, .int x1), (2, .int 0)]) [1, 2, 0] rfl h
set_option maxRecDepth 4000 in
theorem rX8_acquaint_2 {G : jdG} {n rc rs : Nat} {Z : jdL} {I : jdI} {J : jdJ} {K : jdI → jdJ → Prop} {t : Nat} {x1 : Int32} {x2 : Int32} (ht : zTies Z t) (h : (((I t 6) ≤ x2 → Cl G mX8_list n 0 0 [.ref (gb G + t)] Z I J (qv Z (fun I1 J1 => K I1 J1))) ∧ (¬ (I t 6) ≤ x2 → ((((x1 >>> (x2 &&& 31)) &&& 1) = 0 → Jd G mX8_acquaint (jdFm G (qv Z K)) (n + 1) rc rs 2 [(0, .ref (gb G + t)), (1, .int x1), (2, .int (x2 + 1))] [] Z I J) ∧ (¬ ((x1 >>> (x2 &&& 31)) &&& 1) = 0 → (vp_in x2 8 ∧ (vp_in x2 8 ∧ Jd G mX8_acquaint (jdFm G (qv Z K)) (n + 1) rc rs 2 [(0, .ref (gb G + t)), (1, .int x1), (2, .int (x2 + 1))] [] Z (uI I (t + 1) (Int32.toNatClampNeg x2) ((I (t + 1) (Int32.toNatClampNeg x2)) &&& (x1 ^^^ (-1)))) J))))))) : Jd G mX8_acquaint (jdFm G (qv Z K)) (n + 1) rc rs 2 [(0, .ref (gb G + t)), (1, .int x1), (2, .int x2)] [] Z I J := by
  refine jd_iload_n (pc := 2) 2 dX8_acquaint_2 rfl rfl ?_
  refine jd_aload_n (pc := 3) 0 dX8_acquaint_3 rfl rfl ?_
  refine jd_getI (pc := 4) (ci := 7) (k := 6) gX8_36 ht.1 rfl dX8_acquaint_4 ?_
  refine jd_icmp_ge (pc := 7) 36 dX8_acquaint_7 (by decide) (fun hc => ?_) (fun hc => ?_)
  · have h := h.1 hc
    refine jd_aload_n (pc := 36) 0 dX8_acquaint_36 rfl rfl ?_
    refine jd_callVv (pc := 37) (M2 := mX8_list) (id := t) (ci := 7) (T := TX8) (N := 11) (av := []) kX8_list sX8_list rfl ht.1 lX8_46 rfl rfl (Nat.le_of_ble_eq_true rfl) dX8_acquaint_37 h ?_
    intro I1 J1 h
    exact jd_vretK (pc := 40) rfl dX8_acquaint_40 h
  · have h := h.2 hc
    refine jd_iload_n (pc := 10) 1 dX8_acquaint_10 rfl rfl ?_
    refine jd_iload_n (pc := 11) 2 dX8_acquaint_11 rfl rfl ?_
    refine jd_ishr (pc := 12) dX8_acquaint_12 ?_
    refine jd_iconst (pc := 13) (v := 1) dX8_acquaint_13 (by decide) ?_
    refine jd_iand (pc := 14) dX8_acquaint_14 ?_
    refine jd_if_eq (pc := 15) 30 dX8_acquaint_15 (by decide) (fun hc => ?_) (fun hc => ?_)
    · have h := h.1 hc
      refine jd_iinc (pc := 30) (v := (x2 + 1)) 2 [(2, .int (x2 + 1)), (0, .ref (gb G + t)), (1, .int x1)] dX8_acquaint_30 rfl rfl (by decide) rfl ?_
      refine jd_goto (pc := 33) 2 dX8_acquaint_33 (by decide) ?_
      exact jd_lv (lv2 := [(0, .ref (gb G + t)), (1, .int x1), (2, .int (x2 + 1))]) [1, 2, 0] rfl h
    · have h := h.2 hc
      refine jd_aload_n (pc := 18) 0 dX8_acquaint_18 rfl rfl ?_
      refine jd_getR (pc := 19) (ci := 7) (k := 0) (r := (t + 1)) gX8_11 ht.1 rfl (zTies_p0 ht) dX8_acquaint_19 ?_
      refine jd_iload_n (pc := 22) 2 dX8_acquaint_22 rfl rfl ?_
      refine jd_dup2 (pc := 23) dX8_acquaint_23 rfl rfl ?_
      obtain ⟨hv3, h⟩ := h
      refine jd_iald (pc := 24) (len := 8) (zTies_a0 ht) hv3 dX8_acquaint_24 ?_
      refine jd_iload_n (pc := 25) 1 dX8_acquaint_25 rfl rfl ?_
      refine jd_iconst (pc := 26) (v := (-1)) dX8_acquaint_26 (by decide) ?_
      refine jd_ixor (pc := 27) dX8_acquaint_27 ?_
      refine jd_iand (pc := 28) dX8_acquaint_28 ?_
      obtain ⟨hv4, h⟩ := h
      refine jd_iast (pc := 29) (len := 8) (zTies_a0 ht) hv4 dX8_acquaint_29 ?_
      refine jd_iinc (pc := 30) (v := (x2 + 1)) 2 [(2, .int (x2 + 1)), (0, .ref (gb G + t)), (1, .int x1)] dX8_acquaint_30 rfl rfl (by decide) rfl ?_
      refine jd_goto (pc := 33) 2 dX8_acquaint_33 (by decide) ?_
      exact jd_lv (lv2 := [(0, .ref (gb G + t)), (1, .int x1), (2, .int (x2 + 1))]) [1, 2, 0] rfl h
theorem eX8_acquaint {G : jdG} {n : Nat} {Z : jdL} {I : jdI} {J : jdJ} {K : jdI → jdJ → Prop} {t : Nat} {x1 : Int32} (ht : zTies Z t) (h : Jd G mX8_acquaint (jdFm G (qv Z K)) (n + 1) 0 0 2 [(0, .ref (gb G + t)), (1, .int x1), (2, .int 0)] [] Z I J) : Cl G mX8_acquaint (n + 1) 0 0 [.ref (gb G + t), .int x1] Z I J (qv Z K) :=
  Cl.of (by decide +kernel) (Nat.le_of_ble_eq_true rfl) (rX8_acquaint_0 ht h)
set_option maxRecDepth 4000 in
theorem rX8_everybody_0 {G : jdG} {n rc rs : Nat} {Z : jdL} {I : jdI} {J : jdJ} {K : Int32 → jdI → jdJ → Prop} {t : Nat} (ht : zTies Z t) (h : K ((1 <<< ((I t 6) &&& 31)) - 1) I J) : Jd G mX8_everybody (jdFm G (qi Z K)) n rc rs 0 [(0, .ref (gb G + t))] [] Z I J := by
  refine jd_iconst (pc := 0) (v := 1) dX8_everybody_0 (by decide) ?_
  refine jd_aload_n (pc := 1) 0 dX8_everybody_1 rfl rfl ?_
  refine jd_getI (pc := 2) (ci := 7) (k := 6) gX8_36 ht.1 rfl dX8_everybody_2 ?_
  refine jd_ishl (pc := 5) dX8_everybody_5 ?_
  refine jd_iconst (pc := 6) (v := 1) dX8_everybody_6 (by decide) ?_
  refine jd_isub (pc := 7) dX8_everybody_7 ?_
  exact jd_iretK (pc := 8) rfl rfl dX8_everybody_8 h
theorem eX8_everybody {G : jdG} {n : Nat} {Z : jdL} {I : jdI} {J : jdJ} {K : Int32 → jdI → jdJ → Prop} {t : Nat} (ht : zTies Z t) (h : K ((1 <<< ((I t 6) &&& 31)) - 1) I J) : Cl G mX8_everybody (n) 0 0 [.ref (gb G + t)] Z I J (qi Z K) :=
  Cl.of (by decide +kernel) (Nat.le_of_ble_eq_true rfl) (rX8_everybody_0 ht h)
set_option maxRecDepth 4000 in
theorem rX8_list_0 {G : jdG} {n rc rs : Nat} {Z : jdL} {I : jdI} {J : jdJ} {K : jdI → jdJ → Prop} {t : Nat} (ht : zTies Z t) (h : Cl G mX8_everybody n 0 0 [.ref (gb G + t)] Z (uI (uI I t 8 0) t 10 0) J (qi Z (fun v2 I1 J1 => Cl G mX8_gather n 0 0 [.ref (gb G + t), .int 0, .int v2, .int (I1 t 7)] Z I1 J1 (qv Z (fun I3 J3 => K I3 J3))))) : Jd G mX8_list (jdFm G (qv Z K)) (n + 1) rc rs 0 [(0, .ref (gb G + t))] [] Z I J := by
  refine jd_aload_n (pc := 0) 0 dX8_list_0 rfl rfl ?_
  refine jd_iconst (pc := 1) (v := 0) dX8_list_1 (by decide) ?_
  refine jd_putI (pc := 2) (ci := 7) (k := 8) pX8_53 ht.1 rfl rfl rfl dX8_list_2 ?_
  refine jd_aload_n (pc := 5) 0 dX8_list_5 rfl rfl ?_
  refine jd_iconst (pc := 6) (v := 0) dX8_list_6 (by decide) ?_
  refine jd_putI (pc := 7) (ci := 7) (k := 10) pX8_56 ht.1 rfl (by decide) (by decide) dX8_list_7 ?_
  refine jd_aload_n (pc := 10) 0 dX8_list_10 rfl rfl ?_
  refine jd_iconst (pc := 11) (v := 0) dX8_list_11 (by decide) ?_
  refine jd_aload_n (pc := 12) 0 dX8_list_12 rfl rfl ?_
  refine jd_callVi (pc := 13) (M2 := mX8_everybody) (id := t) (ci := 7) (T := TX8) (N := 11) (av := []) kX8_everybody sX8_everybody rfl ht.1 lX8_49 rfl rfl (Nat.le_of_ble_eq_true rfl) dX8_list_13 h ?_
  intro v2 I1 J1 h
  refine jd_aload_n (pc := 16) 0 dX8_list_16 rfl rfl ?_
  refine jd_getI (pc := 17) (ci := 7) (k := 7) gX8_40 ht.1 rfl dX8_list_17 ?_
  refine jd_callVv (pc := 20) (M2 := mX8_gather) (id := t) (ci := 7) (T := TX8) (N := 11) (av := [.int 0, .int v2, .int (I1 t 7)]) kX8_gather sX8_gather rfl ht.1 lX8_60 rfl rfl (Nat.le_of_ble_eq_true rfl) dX8_list_20 h ?_
  intro I3 J3 h
  exact jd_vretK (pc := 23) rfl dX8_list_23 h
theorem eX8_list {G : jdG} {n : Nat} {Z : jdL} {I : jdI} {J : jdJ} {K : jdI → jdJ → Prop} {t : Nat} (ht : zTies Z t) (h : Cl G mX8_everybody n 0 0 [.ref (gb G + t)] Z (uI (uI I t 8 0) t 10 0) J (qi Z (fun v2 I1 J1 => Cl G mX8_gather n 0 0 [.ref (gb G + t), .int 0, .int v2, .int (I1 t 7)] Z I1 J1 (qv Z (fun I3 J3 => K I3 J3))))) : Cl G mX8_list (n + 1) 0 0 [.ref (gb G + t)] Z I J (qv Z K) :=
  Cl.of (by decide +kernel) (Nat.le_of_ble_eq_true rfl) (rX8_list_0 ht h)
set_option maxRecDepth 4000 in
theorem rX8_gather_0 {G : jdG} {n rc rs : Nat} {Z : jdL} {I : jdI} {J : jdJ} {K : jdI → jdJ → Prop} {t : Nat} {x1 : Int32} {x2 : Int32} {x3 : Int32} (ht : zTies Z t) (h : ((0 < x3 → Jd G mX8_gather (jdFm G (qv Z K)) (n + 1) rc rs 37 [(0, .ref (gb G + t)), (1, .int x1), (2, .int x2), (3, .int x3), (4, .int 0)] [] Z I J) ∧ (¬ 0 < x3 → ((70 ≤ (I t 8) → K I J) ∧ (¬ 70 ≤ (I t 8) → (vp_in (I t 8) 70 ∧ K (uI (uI I (t + 3) (Int32.toNatClampNeg (I t 8)) x1) t 8 ((I t 8) + 1)) J)))))) : Jd G mX8_gather (jdFm G (qv Z K)) (n + 1) rc rs 0 [(0, .ref (gb G + t)), (1, .int x1), (2, .int x2), (3, .int x3)] [] Z I J := by
  refine jd_iload_n (pc := 0) 3 dX8_gather_0 rfl rfl ?_
  refine jd_if_gt (pc := 1) 34 dX8_gather_1 (by decide) (fun hc => ?_) (fun hc => ?_)
  · have h := h.1 hc
    refine jd_iconst (pc := 34) (v := 0) dX8_gather_34 (by decide) ?_
    refine jd_istore (pc := 35) [(4, .int 0), (0, .ref (gb G + t)), (1, .int x1), (2, .int x2), (3, .int x3)] dX8_gather_35 (by decide) rfl ?_
    exact jd_lv (lv2 := [(0, .ref (gb G + t)), (1, .int x1), (2, .int x2), (3, .int x3), (4, .int 0)]) [1, 2, 3, 4, 0] rfl h
  · have h := h.2 hc
    refine jd_aload_n (pc := 4) 0 dX8_gather_4 rfl rfl ?_
    refine jd_getI (pc := 5) (ci := 7) (k := 8) gX8_53 ht.1 rfl dX8_gather_5 ?_
    refine jd_bipush (pc := 8) (v := 70) dX8_gather_8 (by decide) ?_
    refine jd_icmp_ge (pc := 10) 33 dX8_gather_10 (by decide) (fun hc => ?_) (fun hc => ?_)
    · have h := h.1 hc
      exact jd_vretK (pc := 33) rfl dX8_gather_33 h
    · have h := h.2 hc
      refine jd_aload_n (pc := 13) 0 dX8_gather_13 rfl rfl ?_
      refine jd_getR (pc := 14) (ci := 7) (k := 2) (r := (t + 3)) gX8_18 ht.1 rfl (zTies_p2 ht) dX8_gather_14 ?_
      refine jd_aload_n (pc := 17) 0 dX8_gather_17 rfl rfl ?_
      refine jd_getI (pc := 18) (ci := 7) (k := 8) gX8_53 ht.1 rfl dX8_gather_18 ?_
      refine jd_iload_n (pc := 21) 1 dX8_gather_21 rfl rfl ?_
      obtain ⟨hv1, h⟩ := h
      refine jd_iast (pc := 22) (len := 70) (zTies_a2 ht) hv1 dX8_gather_22 ?_
      refine jd_aload_n (pc := 23) 0 dX8_gather_23 rfl rfl ?_
      refine jd_dup (pc := 24) dX8_gather_24 rfl ?_
      refine jd_getIe (pc := 25) (ci := 7) (k := 8) (e := (I t 8)) (uI_ne (by omega) rfl) gX8_53 ht.1 rfl dX8_gather_25 ?_
      refine jd_iconst (pc := 28) (v := 1) dX8_gather_28 (by decide) ?_
      refine jd_iadd (pc := 29) dX8_gather_29 ?_
      refine jd_putI (pc := 30) (ci := 7) (k := 8) pX8_53 ht.1 rfl rfl rfl dX8_gather_30 ?_
      exact jd_vretK (pc := 33) rfl dX8_gather_33 h
set_option maxRecDepth 4000 in
theorem rX8_gather_37 {G : jdG} {n rc rs : Nat} {Z : jdL} {I : jdI} {J : jdJ} {K : jdI → jdJ → Prop} {t : Nat} {x1 : Int32} {x2 : Int32} {x3 : Int32} {x4 : Int32} (ht : zTies Z t) (h : (((I t 6) ≤ x4 → K I J) ∧ (¬ (I t 6) ≤ x4 → ((((x2 >>> (x4 &&& 31)) &&& 1) = 0 → Jd G mX8_gather (jdFm G (qv Z K)) (n + 1) rc rs 37 [(0, .ref (gb G + t)), (1, .int x1), (2, .int x2), (3, .int x3), (4, .int (x4 + 1))] [] Z I J) ∧ (¬ ((x2 >>> (x4 &&& 31)) &&& 1) = 0 → (vp_in x4 8 ∧ Cl G mX8_gather n 0 0 [.ref (gb G + t), .int (x1 ||| (1 <<< (x4 &&& 31))), .int ((x2 &&& (I (t + 1) (Int32.toNatClampNeg x4))) &&& (-(2 <<< (x4 &&& 31)))), .int (x3 - 1)] Z I J (qv Z (fun I2 J2 => Jd G mX8_gather (jdFm G (qv Z K)) (n + 1) rc rs 37 [(0, .ref (gb G + t)), (1, .int x1), (2, .int x2), (3, .int x3), (4, .int (x4 + 1))] [] Z I2 J2)))))))) : Jd G mX8_gather (jdFm G (qv Z K)) (n + 1) rc rs 37 [(0, .ref (gb G + t)), (1, .int x1), (2, .int x2), (3, .int x3), (4, .int x4)] [] Z I J := by
  refine jd_iload (pc := 37) 4 dX8_gather_37 rfl ?_
  refine jd_aload_n (pc := 39) 0 dX8_gather_39 rfl rfl ?_
  refine jd_getI (pc := 40) (ci := 7) (k := 6) gX8_36 ht.1 rfl dX8_gather_40 ?_
  refine jd_icmp_ge (pc := 43) 93 dX8_gather_43 (by decide) (fun hc => ?_) (fun hc => ?_)
  · have h := h.1 hc
    exact jd_vretK (pc := 93) rfl dX8_gather_93 h
  · have h := h.2 hc
    refine jd_iload_n (pc := 46) 2 dX8_gather_46 rfl rfl ?_
    refine jd_iload (pc := 47) 4 dX8_gather_47 rfl ?_
    refine jd_ishr (pc := 49) dX8_gather_49 ?_
    refine jd_iconst (pc := 50) (v := 1) dX8_gather_50 (by decide) ?_
    refine jd_iand (pc := 51) dX8_gather_51 ?_
    refine jd_if_eq (pc := 52) 87 dX8_gather_52 (by decide) (fun hc => ?_) (fun hc => ?_)
    · have h := h.1 hc
      refine jd_iinc (pc := 87) (v := (x4 + 1)) 4 [(4, .int (x4 + 1)), (0, .ref (gb G + t)), (1, .int x1), (2, .int x2), (3, .int x3)] dX8_gather_87 rfl rfl (by decide) rfl ?_
      refine jd_goto (pc := 90) 37 dX8_gather_90 (by decide) ?_
      exact jd_lv (lv2 := [(0, .ref (gb G + t)), (1, .int x1), (2, .int x2), (3, .int x3), (4, .int (x4 + 1))]) [1, 2, 3, 4, 0] rfl h
    · have h := h.2 hc
      refine jd_iconst (pc := 55) (v := 2) dX8_gather_55 (by decide) ?_
      refine jd_iload (pc := 56) 4 dX8_gather_56 rfl ?_
      refine jd_ishl (pc := 58) dX8_gather_58 ?_
      refine jd_ineg (pc := 59) dX8_gather_59 ?_
      refine jd_istore (pc := 60) [(5, .int (-(2 <<< (x4 &&& 31)))), (0, .ref (gb G + t)), (1, .int x1), (2, .int x2), (3, .int x3), (4, .int x4)] dX8_gather_60 (by decide) rfl ?_
      refine jd_aload_n (pc := 62) 1 dX8_gather_62 rfl rfl ?_
      refine jd_iload_n (pc := 63) 2 dX8_gather_63 rfl rfl ?_
      refine jd_iconst (pc := 64) (v := 1) dX8_gather_64 (by decide) ?_
      refine jd_iload (pc := 65) 5 dX8_gather_65 rfl ?_
      refine jd_ishl (pc := 67) dX8_gather_67 ?_
      refine jd_ior (pc := 68) dX8_gather_68 ?_
      refine jd_iload_n (pc := 69) 3 dX8_gather_69 rfl rfl ?_
      refine jd_aload_n (pc := 70) 1 dX8_gather_70 rfl rfl ?_
      refine jd_getR (pc := 71) (ci := 7) (k := 0) (r := (t + 1)) gX8_11 ht.1 rfl (zTies_p0 ht) dX8_gather_71 ?_
      refine jd_iload (pc := 74) 5 dX8_gather_74 rfl ?_
      obtain ⟨hv1, h⟩ := h
      refine jd_iald (pc := 76) (len := 8) (zTies_a0 ht) hv1 dX8_gather_76 ?_
      refine jd_iand (pc := 77) dX8_gather_77 ?_
      refine jd_iload (pc := 78) 0 dX8_gather_78 rfl ?_
      refine jd_iand (pc := 80) dX8_gather_80 ?_
      refine jd_iload_n (pc := 81) 4 dX8_gather_81 rfl rfl ?_
      refine jd_iconst (pc := 82) (v := 1) dX8_gather_82 (by decide) ?_
      refine jd_isub (pc := 83) dX8_gather_83 ?_
      refine jd_callVv (pc := 84) (M2 := mX8_gather) (id := t) (ci := 7) (T := TX8) (N := 11) (av := [.int (x1 ||| (1 <<< (x4 &&& 31))), .int ((x2 &&& (I (t + 1) (Int32.toNatClampNeg x4))) &&& (-(2 <<< (x4 &&& 31)))), .int (x3 - 1)]) kX8_gather sX8_gather rfl ht.1 lX8_60 rfl rfl (Nat.le_of_ble_eq_true rfl) dX8_gather_84 h ?_
      intro I2 J2 h
      refine jd_iinc (pc := 87) (v := (x4 + 1)) 5 [(4, .int (x4 + 1)), (5, .int (-(2 <<< (x4 &&& 31)))), (0, .ref (gb G + t)), (1, .int x1), (2, .int x2), (3, .int x3)] dX8_gather_87 rfl rfl (by decide) rfl ?_
      refine jd_goto (pc := 90) 37 dX8_gather_90 (by decide) ?_
      exact jd_lv (lv2 := [(0, .ref (gb G + t)), (1, .int x1), (2, .int x2), (3, .int x3), (4, .int (x4 + 1))]) [2, 3, 4, 5, 0] rfl h
theorem eX8_gather {G : jdG} {n : Nat} {Z : jdL} {I : jdI} {J : jdJ} {K : jdI → jdJ → Prop} {t : Nat} {x1 : Int32} {x2 : Int32} {x3 : Int32} (ht : zTies Z t) (h : ((0 < x3 → Jd G mX8_gather (jdFm G (qv Z K)) (n + 1) 0 0 37 [(0, .ref (gb G + t)), (1, .int x1), (2, .int x2), (3, .int x3), (4, .int 0)] [] Z I J) ∧ (¬ 0 < x3 → ((70 ≤ (I t 8) → K I J) ∧ (¬ 70 ≤ (I t 8) → (vp_in (I t 8) 70 ∧ K (uI (uI I (t + 3) (Int32.toNatClampNeg (I t 8)) x1) t 8 ((I t 8) + 1)) J)))))) : Cl G mX8_gather (n + 1) 0 0 [.ref (gb G + t), .int x1, .int x2, .int x3] Z I J (qv Z K) :=
  Cl.of (by decide +kernel) (Nat.le_of_ble_eq_true rfl) (rX8_gather_0 ht h)
set_option maxRecDepth 4000 in
theorem rX8_isOne_0 {G : jdG} {n rc rs : Nat} {Z : jdL} {I : jdI} {J : jdJ} {K : Int32 → jdI → jdJ → Prop} {t : Nat} {x1 : Int32} (ht : zTies Z t) (h : Jd G mX8_isOne (jdFm G (qi Z K)) n rc rs 2 [(0, .ref (gb G + t)), (1, .int x1), (2, .int 0)] [] Z I J) : Jd G mX8_isOne (jdFm G (qi Z K)) n rc rs 0 [(0, .ref (gb G + t)), (1, .int x1)] [] Z I J := by
  refine jd_iconst (pc := 0) (v := 0) dX8_isOne_0 (by decide) ?_
  refine jd_istore_n (pc := 1) [(2, .int 0), (0, .ref (gb G + t)), (1, .int x1)] dX8_isOne_1 rfl (by decide) rfl ?_
  exact jd_lv (lv2 := [(0, .ref (gb G + t)), (1, .int x1), (2, .int 0)]) [1, 2, 0] rfl h
set_option maxRecDepth 4000 in
theorem rX8_isOne_2 {G : jdG} {n rc rs : Nat} {Z : jdL} {I : jdI} {J : jdJ} {K : Int32 → jdI → jdJ → Prop} {t : Nat} {x1 : Int32} {x2 : Int32} (ht : zTies Z t) (h : (((I t 8) ≤ x2 → K 0 I J) ∧ (¬ (I t 8) ≤ x2 → (vp_in x2 70 ∧ ((¬ (I (t + 3) (Int32.toNatClampNeg x2)) = x1 → Jd G mX8_isOne (jdFm G (qi Z K)) n rc rs 2 [(0, .ref (gb G + t)), (1, .int x1), (2, .int (x2 + 1))] [] Z I J) ∧ ((I (t + 3) (Int32.toNatClampNeg x2)) = x1 → K 1 I J)))))) : Jd G mX8_isOne (jdFm G (qi Z K)) n rc rs 2 [(0, .ref (gb G + t)), (1, .int x1), (2, .int x2)] [] Z I J := by
  refine jd_iload_n (pc := 2) 2 dX8_isOne_2 rfl rfl ?_
  refine jd_aload_n (pc := 3) 0 dX8_isOne_3 rfl rfl ?_
  refine jd_getI (pc := 4) (ci := 7) (k := 8) gX8_53 ht.1 rfl dX8_isOne_4 ?_
  refine jd_icmp_ge (pc := 7) 28 dX8_isOne_7 (by decide) (fun hc => ?_) (fun hc => ?_)
  · have h := h.1 hc
    refine jd_iconst (pc := 28) (v := 0) dX8_isOne_28 (by decide) ?_
    exact jd_iretK (pc := 29) (ty := .boolean) rfl (by decide) dX8_isOne_29 h
  · have h := h.2 hc
    refine jd_aload_n (pc := 10) 0 dX8_isOne_10 rfl rfl ?_
    refine jd_getR (pc := 11) (ci := 7) (k := 2) (r := (t + 3)) gX8_18 ht.1 rfl (zTies_p2 ht) dX8_isOne_11 ?_
    refine jd_iload_n (pc := 14) 2 dX8_isOne_14 rfl rfl ?_
    obtain ⟨hv1, h⟩ := h
    refine jd_iald (pc := 15) (len := 70) (zTies_a2 ht) hv1 dX8_isOne_15 ?_
    refine jd_iload_n (pc := 16) 1 dX8_isOne_16 rfl rfl ?_
    refine jd_icmp_ne (pc := 17) 22 dX8_isOne_17 (by decide) (fun hc => ?_) (fun hc => ?_)
    · have h := h.1 hc
      refine jd_iinc (pc := 22) (v := (x2 + 1)) 2 [(2, .int (x2 + 1)), (0, .ref (gb G + t)), (1, .int x1)] dX8_isOne_22 rfl rfl (by decide) rfl ?_
      refine jd_goto (pc := 25) 2 dX8_isOne_25 (by decide) ?_
      exact jd_lv (lv2 := [(0, .ref (gb G + t)), (1, .int x1), (2, .int (x2 + 1))]) [1, 2, 0] rfl h
    · have h := h.2 hc
      refine jd_iconst (pc := 20) (v := 1) dX8_isOne_20 (by decide) ?_
      exact jd_iretK (pc := 21) (ty := .boolean) rfl (by decide) dX8_isOne_21 h
theorem eX8_isOne {G : jdG} {n : Nat} {Z : jdL} {I : jdI} {J : jdJ} {K : Int32 → jdI → jdJ → Prop} {t : Nat} {x1 : Int32} (ht : zTies Z t) (h : Jd G mX8_isOne (jdFm G (qi Z K)) n 0 0 2 [(0, .ref (gb G + t)), (1, .int x1), (2, .int 0)] [] Z I J) : Cl G mX8_isOne (n) 0 0 [.ref (gb G + t), .int x1] Z I J (qi Z K) :=
  Cl.of (by decide +kernel) (Nat.le_of_ble_eq_true rfl) (rX8_isOne_0 ht h)
set_option maxRecDepth 4000 in
theorem rX8_countIn_0 {G : jdG} {n rc rs : Nat} {Z : jdL} {I : jdI} {J : jdJ} {K : Int32 → jdI → jdJ → Prop} {t : Nat} {x1 : Int32} (ht : zTies Z t) (h : Jd G mX8_countIn (jdFm G (qi Z K)) n rc rs 4 [(0, .ref (gb G + t)), (1, .int x1), (2, .int 0), (3, .int 0)] [] Z I J) : Jd G mX8_countIn (jdFm G (qi Z K)) n rc rs 0 [(0, .ref (gb G + t)), (1, .int x1)] [] Z I J := by
  refine jd_iconst (pc := 0) (v := 0) dX8_countIn_0 (by decide) ?_
  refine jd_istore_n (pc := 1) [(2, .int 0), (0, .ref (gb G + t)), (1, .int x1)] dX8_countIn_1 rfl (by decide) rfl ?_
  refine jd_iconst (pc := 2) (v := 0) dX8_countIn_2 (by decide) ?_
  refine jd_istore_n (pc := 3) [(3, .int 0), (2, .int 0), (0, .ref (gb G + t)), (1, .int x1)] dX8_countIn_3 rfl (by decide) rfl ?_
  exact jd_lv (lv2 := [(0, .ref (gb G + t)), (1, .int x1), (2, .int 0), (3, .int 0)]) [2, 3, 1, 0] rfl h
set_option maxRecDepth 4000 in
theorem rX8_countIn_4 {G : jdG} {n rc rs : Nat} {Z : jdL} {I : jdI} {J : jdJ} {K : Int32 → jdI → jdJ → Prop} {t : Nat} {x1 : Int32} {x2 : Int32} {x3 : Int32} (ht : zTies Z t) (h : (((I t 8) ≤ x3 → K x2 I J) ∧ (¬ (I t 8) ≤ x3 → (vp_in x3 70 ∧ (vp_in x3 70 ∧ ((¬ ((I (t + 3) (Int32.toNatClampNeg x3)) &&& x1) = (I (t + 3) (Int32.toNatClampNeg x3)) → Jd G mX8_countIn (jdFm G (qi Z K)) n rc rs 4 [(0, .ref (gb G + t)), (1, .int x1), (2, .int (x2 + 0)), (3, .int (x3 + 1))] [] Z I J) ∧ (((I (t + 3) (Int32.toNatClampNeg x3)) &&& x1) = (I (t + 3) (Int32.toNatClampNeg x3)) → Jd G mX8_countIn (jdFm G (qi Z K)) n rc rs 4 [(0, .ref (gb G + t)), (1, .int x1), (2, .int (x2 + 1)), (3, .int (x3 + 1))] [] Z I J))))))) : Jd G mX8_countIn (jdFm G (qi Z K)) n rc rs 4 [(0, .ref (gb G + t)), (1, .int x1), (2, .int x2), (3, .int x3)] [] Z I J := by
  refine jd_iload_n (pc := 4) 3 dX8_countIn_4 rfl rfl ?_
  refine jd_aload_n (pc := 5) 0 dX8_countIn_5 rfl rfl ?_
  refine jd_getI (pc := 6) (ci := 7) (k := 8) gX8_53 ht.1 rfl dX8_countIn_6 ?_
  refine jd_icmp_ge (pc := 9) 43 dX8_countIn_9 (by decide) (fun hc => ?_) (fun hc => ?_)
  · have h := h.1 hc
    refine jd_iload_n (pc := 43) 2 dX8_countIn_43 rfl rfl ?_
    exact jd_iretK (pc := 44) rfl rfl dX8_countIn_44 h
  · have h := h.2 hc
    refine jd_iload_n (pc := 12) 2 dX8_countIn_12 rfl rfl ?_
    refine jd_aload_n (pc := 13) 0 dX8_countIn_13 rfl rfl ?_
    refine jd_getR (pc := 14) (ci := 7) (k := 2) (r := (t + 3)) gX8_18 ht.1 rfl (zTies_p2 ht) dX8_countIn_14 ?_
    refine jd_iload_n (pc := 17) 3 dX8_countIn_17 rfl rfl ?_
    obtain ⟨hv1, h⟩ := h
    refine jd_iald (pc := 18) (len := 70) (zTies_a2 ht) hv1 dX8_countIn_18 ?_
    refine jd_iload_n (pc := 19) 1 dX8_countIn_19 rfl rfl ?_
    refine jd_iand (pc := 20) dX8_countIn_20 ?_
    refine jd_aload_n (pc := 21) 0 dX8_countIn_21 rfl rfl ?_
    refine jd_getR (pc := 22) (ci := 7) (k := 2) (r := (t + 3)) gX8_18 ht.1 rfl (zTies_p2 ht) dX8_countIn_22 ?_
    refine jd_iload_n (pc := 25) 3 dX8_countIn_25 rfl rfl ?_
    obtain ⟨hv2, h⟩ := h
    refine jd_iald (pc := 26) (len := 70) (zTies_a2 ht) hv2 dX8_countIn_26 ?_
    refine jd_icmp_ne (pc := 27) 34 dX8_countIn_27 (by decide) (fun hc => ?_) (fun hc => ?_)
    · have h := h.1 hc
      refine jd_iconst (pc := 34) (v := 0) dX8_countIn_34 (by decide) ?_
      refine jd_iadd (pc := 35) dX8_countIn_35 ?_
      refine jd_istore_n (pc := 36) [(2, .int (x2 + 0)), (0, .ref (gb G + t)), (1, .int x1), (3, .int x3)] dX8_countIn_36 rfl (by decide) rfl ?_
      refine jd_iinc (pc := 37) (v := (x3 + 1)) 3 [(3, .int (x3 + 1)), (2, .int (x2 + 0)), (0, .ref (gb G + t)), (1, .int x1)] dX8_countIn_37 rfl rfl (by decide) rfl ?_
      refine jd_goto (pc := 40) 4 dX8_countIn_40 (by decide) ?_
      exact jd_lv (lv2 := [(0, .ref (gb G + t)), (1, .int x1), (2, .int (x2 + 0)), (3, .int (x3 + 1))]) [2, 3, 1, 0] rfl h
    · have h := h.2 hc
      refine jd_iconst (pc := 30) (v := 1) dX8_countIn_30 (by decide) ?_
      refine jd_goto (pc := 31) 35 dX8_countIn_31 (by decide) ?_
      refine jd_iadd (pc := 35) dX8_countIn_35 ?_
      refine jd_istore_n (pc := 36) [(2, .int (x2 + 1)), (0, .ref (gb G + t)), (1, .int x1), (3, .int x3)] dX8_countIn_36 rfl (by decide) rfl ?_
      refine jd_iinc (pc := 37) (v := (x3 + 1)) 3 [(3, .int (x3 + 1)), (2, .int (x2 + 1)), (0, .ref (gb G + t)), (1, .int x1)] dX8_countIn_37 rfl rfl (by decide) rfl ?_
      refine jd_goto (pc := 40) 4 dX8_countIn_40 (by decide) ?_
      exact jd_lv (lv2 := [(0, .ref (gb G + t)), (1, .int x1), (2, .int (x2 + 1)), (3, .int (x3 + 1))]) [2, 3, 1, 0] rfl h
theorem eX8_countIn {G : jdG} {n : Nat} {Z : jdL} {I : jdI} {J : jdJ} {K : Int32 → jdI → jdJ → Prop} {t : Nat} {x1 : Int32} (ht : zTies Z t) (h : Jd G mX8_countIn (jdFm G (qi Z K)) n 0 0 4 [(0, .ref (gb G + t)), (1, .int x1), (2, .int 0), (3, .int 0)] [] Z I J) : Cl G mX8_countIn (n) 0 0 [.ref (gb G + t), .int x1] Z I J (qi Z K) :=
  Cl.of (by decide +kernel) (Nat.le_of_ble_eq_true rfl) (rX8_countIn_0 ht h)
set_option maxRecDepth 4000 in
theorem rX8_countWith_0 {G : jdG} {n rc rs : Nat} {Z : jdL} {I : jdI} {J : jdJ} {K : Int32 → jdI → jdJ → Prop} {t : Nat} {x1 : Int32} (ht : zTies Z t) (h : Jd G mX8_countWith (jdFm G (qi Z K)) n rc rs 4 [(0, .ref (gb G + t)), (1, .int x1), (2, .int 0), (3, .int 0)] [] Z I J) : Jd G mX8_countWith (jdFm G (qi Z K)) n rc rs 0 [(0, .ref (gb G + t)), (1, .int x1)] [] Z I J := by
  refine jd_iconst (pc := 0) (v := 0) dX8_countWith_0 (by decide) ?_
  refine jd_istore_n (pc := 1) [(2, .int 0), (0, .ref (gb G + t)), (1, .int x1)] dX8_countWith_1 rfl (by decide) rfl ?_
  refine jd_iconst (pc := 2) (v := 0) dX8_countWith_2 (by decide) ?_
  refine jd_istore_n (pc := 3) [(3, .int 0), (2, .int 0), (0, .ref (gb G + t)), (1, .int x1)] dX8_countWith_3 rfl (by decide) rfl ?_
  exact jd_lv (lv2 := [(0, .ref (gb G + t)), (1, .int x1), (2, .int 0), (3, .int 0)]) [2, 3, 1, 0] rfl h
set_option maxRecDepth 4000 in
theorem rX8_countWith_4 {G : jdG} {n rc rs : Nat} {Z : jdL} {I : jdI} {J : jdJ} {K : Int32 → jdI → jdJ → Prop} {t : Nat} {x1 : Int32} {x2 : Int32} {x3 : Int32} (ht : zTies Z t) (h : (((I t 8) ≤ x3 → K x2 I J) ∧ (¬ (I t 8) ≤ x3 → (vp_in x3 70 ∧ ((¬ ((I (t + 3) (Int32.toNatClampNeg x3)) &&& x1) = x1 → Jd G mX8_countWith (jdFm G (qi Z K)) n rc rs 4 [(0, .ref (gb G + t)), (1, .int x1), (2, .int (x2 + 0)), (3, .int (x3 + 1))] [] Z I J) ∧ (((I (t + 3) (Int32.toNatClampNeg x3)) &&& x1) = x1 → Jd G mX8_countWith (jdFm G (qi Z K)) n rc rs 4 [(0, .ref (gb G + t)), (1, .int x1), (2, .int (x2 + 1)), (3, .int (x3 + 1))] [] Z I J)))))) : Jd G mX8_countWith (jdFm G (qi Z K)) n rc rs 4 [(0, .ref (gb G + t)), (1, .int x1), (2, .int x2), (3, .int x3)] [] Z I J := by
  refine jd_iload_n (pc := 4) 3 dX8_countWith_4 rfl rfl ?_
  refine jd_aload_n (pc := 5) 0 dX8_countWith_5 rfl rfl ?_
  refine jd_getI (pc := 6) (ci := 7) (k := 8) gX8_53 ht.1 rfl dX8_countWith_6 ?_
  refine jd_icmp_ge (pc := 9) 38 dX8_countWith_9 (by decide) (fun hc => ?_) (fun hc => ?_)
  · have h := h.1 hc
    refine jd_iload_n (pc := 38) 2 dX8_countWith_38 rfl rfl ?_
    exact jd_iretK (pc := 39) rfl rfl dX8_countWith_39 h
  · have h := h.2 hc
    refine jd_iload_n (pc := 12) 2 dX8_countWith_12 rfl rfl ?_
    refine jd_aload_n (pc := 13) 0 dX8_countWith_13 rfl rfl ?_
    refine jd_getR (pc := 14) (ci := 7) (k := 2) (r := (t + 3)) gX8_18 ht.1 rfl (zTies_p2 ht) dX8_countWith_14 ?_
    refine jd_iload_n (pc := 17) 3 dX8_countWith_17 rfl rfl ?_
    obtain ⟨hv1, h⟩ := h
    refine jd_iald (pc := 18) (len := 70) (zTies_a2 ht) hv1 dX8_countWith_18 ?_
    refine jd_iload_n (pc := 19) 1 dX8_countWith_19 rfl rfl ?_
    refine jd_iand (pc := 20) dX8_countWith_20 ?_
    refine jd_iload_n (pc := 21) 1 dX8_countWith_21 rfl rfl ?_
    refine jd_icmp_ne (pc := 22) 29 dX8_countWith_22 (by decide) (fun hc => ?_) (fun hc => ?_)
    · have h := h.1 hc
      refine jd_iconst (pc := 29) (v := 0) dX8_countWith_29 (by decide) ?_
      refine jd_iadd (pc := 30) dX8_countWith_30 ?_
      refine jd_istore_n (pc := 31) [(2, .int (x2 + 0)), (0, .ref (gb G + t)), (1, .int x1), (3, .int x3)] dX8_countWith_31 rfl (by decide) rfl ?_
      refine jd_iinc (pc := 32) (v := (x3 + 1)) 3 [(3, .int (x3 + 1)), (2, .int (x2 + 0)), (0, .ref (gb G + t)), (1, .int x1)] dX8_countWith_32 rfl rfl (by decide) rfl ?_
      refine jd_goto (pc := 35) 4 dX8_countWith_35 (by decide) ?_
      exact jd_lv (lv2 := [(0, .ref (gb G + t)), (1, .int x1), (2, .int (x2 + 0)), (3, .int (x3 + 1))]) [2, 3, 1, 0] rfl h
    · have h := h.2 hc
      refine jd_iconst (pc := 25) (v := 1) dX8_countWith_25 (by decide) ?_
      refine jd_goto (pc := 26) 30 dX8_countWith_26 (by decide) ?_
      refine jd_iadd (pc := 30) dX8_countWith_30 ?_
      refine jd_istore_n (pc := 31) [(2, .int (x2 + 1)), (0, .ref (gb G + t)), (1, .int x1), (3, .int x3)] dX8_countWith_31 rfl (by decide) rfl ?_
      refine jd_iinc (pc := 32) (v := (x3 + 1)) 3 [(3, .int (x3 + 1)), (2, .int (x2 + 1)), (0, .ref (gb G + t)), (1, .int x1)] dX8_countWith_32 rfl rfl (by decide) rfl ?_
      refine jd_goto (pc := 35) 4 dX8_countWith_35 (by decide) ?_
      exact jd_lv (lv2 := [(0, .ref (gb G + t)), (1, .int x1), (2, .int (x2 + 1)), (3, .int (x3 + 1))]) [2, 3, 1, 0] rfl h
theorem eX8_countWith {G : jdG} {n : Nat} {Z : jdL} {I : jdI} {J : jdJ} {K : Int32 → jdI → jdJ → Prop} {t : Nat} {x1 : Int32} (ht : zTies Z t) (h : Jd G mX8_countWith (jdFm G (qi Z K)) n 0 0 4 [(0, .ref (gb G + t)), (1, .int x1), (2, .int 0), (3, .int 0)] [] Z I J) : Cl G mX8_countWith (n) 0 0 [.ref (gb G + t), .int x1] Z I J (qi Z K) :=
  Cl.of (by decide +kernel) (Nat.le_of_ble_eq_true rfl) (rX8_countWith_0 ht h)
set_option maxRecDepth 4000 in
theorem rX8_firstIn_0 {G : jdG} {n rc rs : Nat} {Z : jdL} {I : jdI} {J : jdJ} {K : Int32 → jdI → jdJ → Prop} {t : Nat} {x1 : Int32} (ht : zTies Z t) (h : Jd G mX8_firstIn (jdFm G (qi Z K)) n rc rs 2 [(0, .ref (gb G + t)), (1, .int x1), (2, .int 0)] [] Z I J) : Jd G mX8_firstIn (jdFm G (qi Z K)) n rc rs 0 [(0, .ref (gb G + t)), (1, .int x1)] [] Z I J := by
  refine jd_iconst (pc := 0) (v := 0) dX8_firstIn_0 (by decide) ?_
  refine jd_istore_n (pc := 1) [(2, .int 0), (0, .ref (gb G + t)), (1, .int x1)] dX8_firstIn_1 rfl (by decide) rfl ?_
  exact jd_lv (lv2 := [(0, .ref (gb G + t)), (1, .int x1), (2, .int 0)]) [1, 2, 0] rfl h
set_option maxRecDepth 4000 in
theorem rX8_firstIn_2 {G : jdG} {n rc rs : Nat} {Z : jdL} {I : jdI} {J : jdJ} {K : Int32 → jdI → jdJ → Prop} {t : Nat} {x1 : Int32} {x2 : Int32} (ht : zTies Z t) (h : (((I t 8) ≤ x2 → K 0 I J) ∧ (¬ (I t 8) ≤ x2 → (vp_in x2 70 ∧ (vp_in x2 70 ∧ ((¬ ((I (t + 3) (Int32.toNatClampNeg x2)) &&& x1) = (I (t + 3) (Int32.toNatClampNeg x2)) → Jd G mX8_firstIn (jdFm G (qi Z K)) n rc rs 2 [(0, .ref (gb G + t)), (1, .int x1), (2, .int (x2 + 1))] [] Z I J) ∧ (((I (t + 3) (Int32.toNatClampNeg x2)) &&& x1) = (I (t + 3) (Int32.toNatClampNeg x2)) → (vp_in x2 70 ∧ K (I (t + 3) (Int32.toNatClampNeg x2)) I J)))))))) : Jd G mX8_firstIn (jdFm G (qi Z K)) n rc rs 2 [(0, .ref (gb G + t)), (1, .int x1), (2, .int x2)] [] Z I J := by
  refine jd_iload_n (pc := 2) 2 dX8_firstIn_2 rfl rfl ?_
  refine jd_aload_n (pc := 3) 0 dX8_firstIn_3 rfl rfl ?_
  refine jd_getI (pc := 4) (ci := 7) (k := 8) gX8_53 ht.1 rfl dX8_firstIn_4 ?_
  refine jd_icmp_ge (pc := 7) 40 dX8_firstIn_7 (by decide) (fun hc => ?_) (fun hc => ?_)
  · have h := h.1 hc
    refine jd_iconst (pc := 40) (v := 0) dX8_firstIn_40 (by decide) ?_
    exact jd_iretK (pc := 41) rfl rfl dX8_firstIn_41 h
  · have h := h.2 hc
    refine jd_aload_n (pc := 10) 0 dX8_firstIn_10 rfl rfl ?_
    refine jd_getR (pc := 11) (ci := 7) (k := 2) (r := (t + 3)) gX8_18 ht.1 rfl (zTies_p2 ht) dX8_firstIn_11 ?_
    refine jd_iload_n (pc := 14) 2 dX8_firstIn_14 rfl rfl ?_
    obtain ⟨hv1, h⟩ := h
    refine jd_iald (pc := 15) (len := 70) (zTies_a2 ht) hv1 dX8_firstIn_15 ?_
    refine jd_iload_n (pc := 16) 1 dX8_firstIn_16 rfl rfl ?_
    refine jd_iand (pc := 17) dX8_firstIn_17 ?_
    refine jd_aload_n (pc := 18) 0 dX8_firstIn_18 rfl rfl ?_
    refine jd_getR (pc := 19) (ci := 7) (k := 2) (r := (t + 3)) gX8_18 ht.1 rfl (zTies_p2 ht) dX8_firstIn_19 ?_
    refine jd_iload_n (pc := 22) 2 dX8_firstIn_22 rfl rfl ?_
    obtain ⟨hv2, h⟩ := h
    refine jd_iald (pc := 23) (len := 70) (zTies_a2 ht) hv2 dX8_firstIn_23 ?_
    refine jd_icmp_ne (pc := 24) 34 dX8_firstIn_24 (by decide) (fun hc => ?_) (fun hc => ?_)
    · have h := h.1 hc
      refine jd_iinc (pc := 34) (v := (x2 + 1)) 2 [(2, .int (x2 + 1)), (0, .ref (gb G + t)), (1, .int x1)] dX8_firstIn_34 rfl rfl (by decide) rfl ?_
      refine jd_goto (pc := 37) 2 dX8_firstIn_37 (by decide) ?_
      exact jd_lv (lv2 := [(0, .ref (gb G + t)), (1, .int x1), (2, .int (x2 + 1))]) [1, 2, 0] rfl h
    · have h := h.2 hc
      refine jd_aload_n (pc := 27) 0 dX8_firstIn_27 rfl rfl ?_
      refine jd_getR (pc := 28) (ci := 7) (k := 2) (r := (t + 3)) gX8_18 ht.1 rfl (zTies_p2 ht) dX8_firstIn_28 ?_
      refine jd_iload_n (pc := 31) 2 dX8_firstIn_31 rfl rfl ?_
      obtain ⟨hv3, h⟩ := h
      refine jd_iald (pc := 32) (len := 70) (zTies_a2 ht) hv3 dX8_firstIn_32 ?_
      exact jd_iretK (pc := 33) rfl rfl dX8_firstIn_33 h
theorem eX8_firstIn {G : jdG} {n : Nat} {Z : jdL} {I : jdI} {J : jdJ} {K : Int32 → jdI → jdJ → Prop} {t : Nat} {x1 : Int32} (ht : zTies Z t) (h : Jd G mX8_firstIn (jdFm G (qi Z K)) n 0 0 2 [(0, .ref (gb G + t)), (1, .int x1), (2, .int 0)] [] Z I J) : Cl G mX8_firstIn (n) 0 0 [.ref (gb G + t), .int x1] Z I J (qi Z K) :=
  Cl.of (by decide +kernel) (Nat.le_of_ble_eq_true rfl) (rX8_firstIn_0 ht h)
set_option maxRecDepth 4000 in
theorem rX8_mostFrom_0 {G : jdG} {n rc rs : Nat} {Z : jdL} {I : jdI} {J : jdJ} {K : Int32 → jdI → jdJ → Prop} {t : Nat} {x1 : Int32} (ht : zTies Z t) (h : ((¬ (I t 10) = 0 → Cl G mX8_everybody n 0 0 [.ref (gb G + t)] Z I J (qi Z (fun v2 I1 J1 => (vp_in (x1 &&& v2) 256 ∧ K (I1 (t + 5) (Int32.toNatClampNeg (x1 &&& v2))) I1 J1)))) ∧ ((I t 10) = 0 → Cl G mX8_countMost n 0 0 [.ref (gb G + t)] Z I J (qv Z (fun I4 J4 => Cl G mX8_everybody n 0 0 [.ref (gb G + t)] Z (uI I4 t 10 1) J4 (qi Z (fun v7 I6 J6 => (vp_in (x1 &&& v7) 256 ∧ K (I6 (t + 5) (Int32.toNatClampNeg (x1 &&& v7))) I6 J6)))))))) : Jd G mX8_mostFrom (jdFm G (qi Z K)) (n + 1) rc rs 0 [(0, .ref (gb G + t)), (1, .int x1)] [] Z I J := by
  refine jd_aload_n (pc := 0) 0 dX8_mostFrom_0 rfl rfl ?_
  refine jd_getI (pc := 1) (ci := 7) (k := 10) gX8_56 ht.1 rfl dX8_mostFrom_1 ?_
  refine jd_if_ne (pc := 4) 16 dX8_mostFrom_4 (by decide) (fun hc => ?_) (fun hc => ?_)
  · have h := h.1 hc
    refine jd_aload_n (pc := 16) 0 dX8_mostFrom_16 rfl rfl ?_
    refine jd_getR (pc := 17) (ci := 7) (k := 4) (r := (t + 5)) gX8_24 ht.1 rfl (zTies_p4 ht) dX8_mostFrom_17 ?_
    refine jd_iload_n (pc := 20) 1 dX8_mostFrom_20 rfl rfl ?_
    refine jd_aload_n (pc := 21) 0 dX8_mostFrom_21 rfl rfl ?_
    refine jd_callVi (pc := 22) (M2 := mX8_everybody) (id := t) (ci := 7) (T := TX8) (N := 11) (av := []) kX8_everybody sX8_everybody rfl ht.1 lX8_49 rfl rfl (Nat.le_of_ble_eq_true rfl) dX8_mostFrom_22 h ?_
    intro v2 I1 J1 h
    refine jd_iand (pc := 25) dX8_mostFrom_25 ?_
    obtain ⟨hv3, h⟩ := h
    refine jd_iald (pc := 26) (len := 256) (zTies_a4 ht) hv3 dX8_mostFrom_26 ?_
    exact jd_iretK (pc := 27) rfl rfl dX8_mostFrom_27 h
  · have h := h.2 hc
    refine jd_aload_n (pc := 7) 0 dX8_mostFrom_7 rfl rfl ?_
    refine jd_callVv (pc := 8) (M2 := mX8_countMost) (id := t) (ci := 7) (T := TX8) (N := 11) (av := []) kX8_countMost sX8_countMost rfl ht.1 lX8_64 rfl rfl (Nat.le_of_ble_eq_true rfl) dX8_mostFrom_8 h ?_
    intro I4 J4 h
    refine jd_aload_n (pc := 11) 0 dX8_mostFrom_11 rfl rfl ?_
    refine jd_iconst (pc := 12) (v := 1) dX8_mostFrom_12 (by decide) ?_
    refine jd_putI (pc := 13) (ci := 7) (k := 10) pX8_56 ht.1 rfl (by decide) (by decide) dX8_mostFrom_13 ?_
    refine jd_aload_n (pc := 16) 0 dX8_mostFrom_16 rfl rfl ?_
    refine jd_getR (pc := 17) (ci := 7) (k := 4) (r := (t + 5)) gX8_24 ht.1 rfl (zTies_p4 ht) dX8_mostFrom_17 ?_
    refine jd_iload_n (pc := 20) 1 dX8_mostFrom_20 rfl rfl ?_
    refine jd_aload_n (pc := 21) 0 dX8_mostFrom_21 rfl rfl ?_
    refine jd_callVi (pc := 22) (M2 := mX8_everybody) (id := t) (ci := 7) (T := TX8) (N := 11) (av := []) kX8_everybody sX8_everybody rfl ht.1 lX8_49 rfl rfl (Nat.le_of_ble_eq_true rfl) dX8_mostFrom_22 h ?_
    intro v7 I6 J6 h
    refine jd_iand (pc := 25) dX8_mostFrom_25 ?_
    obtain ⟨hv8, h⟩ := h
    refine jd_iald (pc := 26) (len := 256) (zTies_a4 ht) hv8 dX8_mostFrom_26 ?_
    exact jd_iretK (pc := 27) rfl rfl dX8_mostFrom_27 h
theorem eX8_mostFrom {G : jdG} {n : Nat} {Z : jdL} {I : jdI} {J : jdJ} {K : Int32 → jdI → jdJ → Prop} {t : Nat} {x1 : Int32} (ht : zTies Z t) (h : ((¬ (I t 10) = 0 → Cl G mX8_everybody n 0 0 [.ref (gb G + t)] Z I J (qi Z (fun v2 I1 J1 => (vp_in (x1 &&& v2) 256 ∧ K (I1 (t + 5) (Int32.toNatClampNeg (x1 &&& v2))) I1 J1)))) ∧ ((I t 10) = 0 → Cl G mX8_countMost n 0 0 [.ref (gb G + t)] Z I J (qv Z (fun I4 J4 => Cl G mX8_everybody n 0 0 [.ref (gb G + t)] Z (uI I4 t 10 1) J4 (qi Z (fun v7 I6 J6 => (vp_in (x1 &&& v7) 256 ∧ K (I6 (t + 5) (Int32.toNatClampNeg (x1 &&& v7))) I6 J6)))))))) : Cl G mX8_mostFrom (n + 1) 0 0 [.ref (gb G + t), .int x1] Z I J (qi Z K) :=
  Cl.of (by decide +kernel) (Nat.le_of_ble_eq_true rfl) (rX8_mostFrom_0 ht h)
set_option maxRecDepth 4000 in
theorem rX8_countMost_0 {G : jdG} {n rc rs : Nat} {Z : jdL} {I : jdI} {J : jdJ} {K : jdI → jdJ → Prop} {t : Nat} (ht : zTies Z t) (h : Jd G mX8_countMost (jdFm G (qv Z K)) n rc rs 9 [(0, .ref (gb G + t)), (1, .int 1)] [] Z (uI I (t + 5) 0 0) J) : Jd G mX8_countMost (jdFm G (qv Z K)) n rc rs 0 [(0, .ref (gb G + t))] [] Z I J := by
  refine jd_aload_n (pc := 0) 0 dX8_countMost_0 rfl rfl ?_
  refine jd_getR (pc := 1) (ci := 7) (k := 4) (r := (t + 5)) gX8_24 ht.1 rfl (zTies_p4 ht) dX8_countMost_1 ?_
  refine jd_iconst (pc := 4) (v := 0) dX8_countMost_4 (by decide) ?_
  refine jd_iconst (pc := 5) (v := 0) dX8_countMost_5 (by decide) ?_
  refine jd_iast (pc := 6) (len := 256) (zTies_a4 ht) (by unfold vp_in; decide) dX8_countMost_6 ?_
  refine jd_iconst (pc := 7) (v := 1) dX8_countMost_7 (by decide) ?_
  refine jd_istore_n (pc := 8) [(1, .int 1), (0, .ref (gb G + t))] dX8_countMost_8 rfl (by decide) rfl ?_
  exact jd_lv (lv2 := [(0, .ref (gb G + t)), (1, .int 1)]) [1, 0] rfl h
set_option maxRecDepth 4000 in
theorem rX8_countMost_9 {G : jdG} {n rc rs : Nat} {Z : jdL} {I : jdI} {J : jdJ} {K : jdI → jdJ → Prop} {t : Nat} {x1 : Int32} (ht : zTies Z t) (h : (((1 <<< ((I t 6) &&& 31)) ≤ x1 → K I J) ∧ (¬ (1 <<< ((I t 6) &&& 31)) ≤ x1 → (vp_in (x1 ^^^ (x1 &&& (-x1))) 256 ∧ Jd G mX8_countMost (jdFm G (qv Z K)) n rc rs 36 [(0, .ref (gb G + t)), (1, .int x1), (2, .int (x1 &&& (-x1))), (3, .int (I (t + 5) (Int32.toNatClampNeg (x1 ^^^ (x1 &&& (-x1)))))), (4, .int 0)] [] Z I J)))) : Jd G mX8_countMost (jdFm G (qv Z K)) n rc rs 9 [(0, .ref (gb G + t)), (1, .int x1)] [] Z I J := by
  refine jd_iload_n (pc := 9) 1 dX8_countMost_9 rfl rfl ?_
  refine jd_iconst (pc := 10) (v := 1) dX8_countMost_10 (by decide) ?_
  refine jd_aload_n (pc := 11) 0 dX8_countMost_11 rfl rfl ?_
  refine jd_getI (pc := 12) (ci := 7) (k := 6) gX8_36 ht.1 rfl dX8_countMost_12 ?_
  refine jd_ishl (pc := 15) dX8_countMost_15 ?_
  refine jd_icmp_ge (pc := 16) 114 dX8_countMost_16 (by decide) (fun hc => ?_) (fun hc => ?_)
  · have h := h.1 hc
    exact jd_vretK (pc := 114) rfl dX8_countMost_114 h
  · have h := h.2 hc
    refine jd_iload_n (pc := 19) 1 dX8_countMost_19 rfl rfl ?_
    refine jd_iload_n (pc := 20) 1 dX8_countMost_20 rfl rfl ?_
    refine jd_ineg (pc := 21) dX8_countMost_21 ?_
    refine jd_iand (pc := 22) dX8_countMost_22 ?_
    refine jd_istore_n (pc := 23) [(2, .int (x1 &&& (-x1))), (0, .ref (gb G + t)), (1, .int x1)] dX8_countMost_23 rfl (by decide) rfl ?_
    refine jd_aload_n (pc := 24) 1 dX8_countMost_24 rfl rfl ?_
    refine jd_getR (pc := 25) (ci := 7) (k := 4) (r := (t + 5)) gX8_24 ht.1 rfl (zTies_p4 ht) dX8_countMost_25 ?_
    refine jd_iload_n (pc := 28) 2 dX8_countMost_28 rfl rfl ?_
    refine jd_iload_n (pc := 29) 0 dX8_countMost_29 rfl rfl ?_
    refine jd_ixor (pc := 30) dX8_countMost_30 ?_
    obtain ⟨hv1, h⟩ := h
    refine jd_iald (pc := 31) (len := 256) (zTies_a4 ht) hv1 dX8_countMost_31 ?_
    refine jd_istore_n (pc := 32) [(3, .int (I (t + 5) (Int32.toNatClampNeg (x1 ^^^ (x1 &&& (-x1)))))), (2, .int (x1 &&& (-x1))), (0, .ref (gb G + t)), (1, .int x1)] dX8_countMost_32 rfl (by decide) rfl ?_
    refine jd_iconst (pc := 33) (v := 0) dX8_countMost_33 (by decide) ?_
    refine jd_istore (pc := 34) [(4, .int 0), (3, .int (I (t + 5) (Int32.toNatClampNeg (x1 ^^^ (x1 &&& (-x1)))))), (2, .int (x1 &&& (-x1))), (0, .ref (gb G + t)), (1, .int x1)] dX8_countMost_34 (by decide) rfl ?_
    exact jd_lv (lv2 := [(0, .ref (gb G + t)), (1, .int x1), (2, .int (x1 &&& (-x1))), (3, .int (I (t + 5) (Int32.toNatClampNeg (x1 ^^^ (x1 &&& (-x1)))))), (4, .int 0)]) [3, 4, 2, 1, 0] rfl h
set_option maxRecDepth 4000 in
theorem rX8_countMost_36 {G : jdG} {n rc rs : Nat} {Z : jdL} {I : jdI} {J : jdJ} {K : jdI → jdJ → Prop} {t : Nat} {x1 : Int32} {x2 : Int32} {x3 : Int32} {x4 : Int32} (ht : zTies Z t) (h : (((I t 8) ≤ x4 → (vp_in x1 256 ∧ Jd G mX8_countMost (jdFm G (qv Z K)) n rc rs 9 [(0, .ref (gb G + t)), (1, .int (x1 + 1))] [] Z (uI I (t + 5) (Int32.toNatClampNeg x1) x3) J)) ∧ (¬ (I t 8) ≤ x4 → (vp_in x4 70 ∧ ((((I (t + 3) (Int32.toNatClampNeg x4)) &&& x2) = 0 → Jd G mX8_countMost (jdFm G (qv Z K)) n rc rs 36 [(0, .ref (gb G + t)), (1, .int x1), (2, .int x2), (3, .int x3), (4, .int (x4 + 1))] [] Z I J) ∧ (¬ ((I (t + 3) (Int32.toNatClampNeg x4)) &&& x2) = 0 → ((¬ ((I (t + 3) (Int32.toNatClampNeg x4)) &&& x1) = (I (t + 3) (Int32.toNatClampNeg x4)) → Jd G mX8_countMost (jdFm G (qv Z K)) n rc rs 36 [(0, .ref (gb G + t)), (1, .int x1), (2, .int x2), (3, .int x3), (4, .int (x4 + 1))] [] Z I J) ∧ (((I (t + 3) (Int32.toNatClampNeg x4)) &&& x1) = (I (t + 3) (Int32.toNatClampNeg x4)) → (vp_in (x1 ^^^ (I (t + 3) (Int32.toNatClampNeg x4))) 256 ∧ (((I (t + 5) (Int32.toNatClampNeg (x1 ^^^ (I (t + 3) (Int32.toNatClampNeg x4))))) < x3 → Jd G mX8_countMost (jdFm G (qv Z K)) n rc rs 36 [(0, .ref (gb G + t)), (1, .int x1), (2, .int x2), (3, .int x3), (4, .int (x4 + 1))] [] Z I J) ∧ (¬ (I (t + 5) (Int32.toNatClampNeg (x1 ^^^ (I (t + 3) (Int32.toNatClampNeg x4))))) < x3 → (vp_in (x1 ^^^ (I (t + 3) (Int32.toNatClampNeg x4))) 256 ∧ Jd G mX8_countMost (jdFm G (qv Z K)) n rc rs 36 [(0, .ref (gb G + t)), (1, .int x1), (2, .int x2), (3, .int (1 + (I (t + 5) (Int32.toNatClampNeg (x1 ^^^ (I (t + 3) (Int32.toNatClampNeg x4))))))), (4, .int (x4 + 1))] [] Z I J)))))))))))) : Jd G mX8_countMost (jdFm G (qv Z K)) n rc rs 36 [(0, .ref (gb G + t)), (1, .int x1), (2, .int x2), (3, .int x3), (4, .int x4)] [] Z I J := by
  refine jd_iload (pc := 36) 4 dX8_countMost_36 rfl ?_
  refine jd_aload_n (pc := 38) 0 dX8_countMost_38 rfl rfl ?_
  refine jd_getI (pc := 39) (ci := 7) (k := 8) gX8_53 ht.1 rfl dX8_countMost_39 ?_
  refine jd_icmp_ge (pc := 42) 101 dX8_countMost_42 (by decide) (fun hc => ?_) (fun hc => ?_)
  · have h := h.1 hc
    refine jd_aload_n (pc := 101) 0 dX8_countMost_101 rfl rfl ?_
    refine jd_getR (pc := 102) (ci := 7) (k := 4) (r := (t + 5)) gX8_24 ht.1 rfl (zTies_p4 ht) dX8_countMost_102 ?_
    refine jd_iload_n (pc := 105) 1 dX8_countMost_105 rfl rfl ?_
    refine jd_iload_n (pc := 106) 3 dX8_countMost_106 rfl rfl ?_
    obtain ⟨hv1, h⟩ := h
    refine jd_iast (pc := 107) (len := 256) (zTies_a4 ht) hv1 dX8_countMost_107 ?_
    refine jd_iinc (pc := 108) (v := (x1 + 1)) 1 [(1, .int (x1 + 1)), (0, .ref (gb G + t)), (2, .int x2), (3, .int x3), (4, .int x4)] dX8_countMost_108 rfl rfl (by decide) rfl ?_
    refine jd_goto (pc := 111) 9 dX8_countMost_111 (by decide) ?_
    exact jd_lv (lv2 := [(0, .ref (gb G + t)), (1, .int (x1 + 1))]) [1, 0] rfl h
  · have h := h.2 hc
    refine jd_aload_n (pc := 45) 0 dX8_countMost_45 rfl rfl ?_
    refine jd_getR (pc := 46) (ci := 7) (k := 2) (r := (t + 3)) gX8_18 ht.1 rfl (zTies_p2 ht) dX8_countMost_46 ?_
    refine jd_iload (pc := 49) 4 dX8_countMost_49 rfl ?_
    obtain ⟨hv2, h⟩ := h
    refine jd_iald (pc := 51) (len := 70) (zTies_a2 ht) hv2 dX8_countMost_51 ?_
    refine jd_istore (pc := 52) [(5, .int (I (t + 3) (Int32.toNatClampNeg x4))), (0, .ref (gb G + t)), (1, .int x1), (2, .int x2), (3, .int x3), (4, .int x4)] dX8_countMost_52 (by decide) rfl ?_
    refine jd_iload (pc := 54) 0 dX8_countMost_54 rfl ?_
    refine jd_iload_n (pc := 56) 3 dX8_countMost_56 rfl rfl ?_
    refine jd_iand (pc := 57) dX8_countMost_57 ?_
    refine jd_if_eq (pc := 58) 95 dX8_countMost_58 (by decide) (fun hc => ?_) (fun hc => ?_)
    · have h := h.1 hc
      refine jd_iinc (pc := 95) (v := (x4 + 1)) 5 [(4, .int (x4 + 1)), (5, .int (I (t + 3) (Int32.toNatClampNeg x4))), (0, .ref (gb G + t)), (1, .int x1), (2, .int x2), (3, .int x3)] dX8_countMost_95 rfl rfl (by decide) rfl ?_
      refine jd_goto (pc := 98) 36 dX8_countMost_98 (by decide) ?_
      exact jd_lv (lv2 := [(0, .ref (gb G + t)), (1, .int x1), (2, .int x2), (3, .int x3), (4, .int (x4 + 1))]) [2, 3, 4, 5, 0] rfl h
    · have h := h.2 hc
      refine jd_iload (pc := 61) 0 dX8_countMost_61 rfl ?_
      refine jd_iload_n (pc := 63) 2 dX8_countMost_63 rfl rfl ?_
      refine jd_iand (pc := 64) dX8_countMost_64 ?_
      refine jd_iload (pc := 65) 0 dX8_countMost_65 rfl ?_
      refine jd_icmp_ne (pc := 67) 95 dX8_countMost_67 (by decide) (fun hc => ?_) (fun hc => ?_)
      · have h := h.1 hc
        refine jd_iinc (pc := 95) (v := (x4 + 1)) 5 [(4, .int (x4 + 1)), (5, .int (I (t + 3) (Int32.toNatClampNeg x4))), (0, .ref (gb G + t)), (1, .int x1), (2, .int x2), (3, .int x3)] dX8_countMost_95 rfl rfl (by decide) rfl ?_
        refine jd_goto (pc := 98) 36 dX8_countMost_98 (by decide) ?_
        exact jd_lv (lv2 := [(0, .ref (gb G + t)), (1, .int x1), (2, .int x2), (3, .int x3), (4, .int (x4 + 1))]) [2, 3, 4, 5, 0] rfl h
      · have h := h.2 hc
        refine jd_aload_n (pc := 70) 1 dX8_countMost_70 rfl rfl ?_
        refine jd_getR (pc := 71) (ci := 7) (k := 4) (r := (t + 5)) gX8_24 ht.1 rfl (zTies_p4 ht) dX8_countMost_71 ?_
        refine jd_iload_n (pc := 74) 2 dX8_countMost_74 rfl rfl ?_
        refine jd_iload (pc := 75) 0 dX8_countMost_75 rfl ?_
        refine jd_ixor (pc := 77) dX8_countMost_77 ?_
        obtain ⟨hv3, h⟩ := h
        refine jd_iald (pc := 78) (len := 256) (zTies_a4 ht) hv3 dX8_countMost_78 ?_
        refine jd_iload_n (pc := 79) 4 dX8_countMost_79 rfl rfl ?_
        refine jd_icmp_lt (pc := 80) 95 dX8_countMost_80 (by decide) (fun hc => ?_) (fun hc => ?_)
        · have h := h.1 hc
          refine jd_iinc (pc := 95) (v := (x4 + 1)) 5 [(4, .int (x4 + 1)), (5, .int (I (t + 3) (Int32.toNatClampNeg x4))), (0, .ref (gb G + t)), (1, .int x1), (2, .int x2), (3, .int x3)] dX8_countMost_95 rfl rfl (by decide) rfl ?_
          refine jd_goto (pc := 98) 36 dX8_countMost_98 (by decide) ?_
          exact jd_lv (lv2 := [(0, .ref (gb G + t)), (1, .int x1), (2, .int x2), (3, .int x3), (4, .int (x4 + 1))]) [2, 3, 4, 5, 0] rfl h
        · have h := h.2 hc
          refine jd_iconst (pc := 83) (v := 1) dX8_countMost_83 (by decide) ?_
          refine jd_aload_n (pc := 84) 1 dX8_countMost_84 rfl rfl ?_
          refine jd_getR (pc := 85) (ci := 7) (k := 4) (r := (t + 5)) gX8_24 ht.1 rfl (zTies_p4 ht) dX8_countMost_85 ?_
          refine jd_iload_n (pc := 88) 2 dX8_countMost_88 rfl rfl ?_
          refine jd_iload (pc := 89) 0 dX8_countMost_89 rfl ?_
          refine jd_ixor (pc := 91) dX8_countMost_91 ?_
          obtain ⟨hv4, h⟩ := h
          refine jd_iald (pc := 92) (len := 256) (zTies_a4 ht) hv4 dX8_countMost_92 ?_
          refine jd_iadd (pc := 93) dX8_countMost_93 ?_
          refine jd_istore_n (pc := 94) [(3, .int (1 + (I (t + 5) (Int32.toNatClampNeg (x1 ^^^ (I (t + 3) (Int32.toNatClampNeg x4))))))), (5, .int (I (t + 3) (Int32.toNatClampNeg x4))), (0, .ref (gb G + t)), (1, .int x1), (2, .int x2), (4, .int x4)] dX8_countMost_94 rfl (by decide) rfl ?_
          refine jd_iinc (pc := 95) (v := (x4 + 1)) 5 [(4, .int (x4 + 1)), (3, .int (1 + (I (t + 5) (Int32.toNatClampNeg (x1 ^^^ (I (t + 3) (Int32.toNatClampNeg x4))))))), (5, .int (I (t + 3) (Int32.toNatClampNeg x4))), (0, .ref (gb G + t)), (1, .int x1), (2, .int x2)] dX8_countMost_95 rfl rfl (by decide) rfl ?_
          refine jd_goto (pc := 98) 36 dX8_countMost_98 (by decide) ?_
          exact jd_lv (lv2 := [(0, .ref (gb G + t)), (1, .int x1), (2, .int x2), (3, .int (1 + (I (t + 5) (Int32.toNatClampNeg (x1 ^^^ (I (t + 3) (Int32.toNatClampNeg x4))))))), (4, .int (x4 + 1))]) [3, 4, 5, 1, 0] rfl h
theorem eX8_countMost {G : jdG} {n : Nat} {Z : jdL} {I : jdI} {J : jdJ} {K : jdI → jdJ → Prop} {t : Nat} (ht : zTies Z t) (h : Jd G mX8_countMost (jdFm G (qv Z K)) n 0 0 9 [(0, .ref (gb G + t)), (1, .int 1)] [] Z (uI I (t + 5) 0 0) J) : Cl G mX8_countMost (n) 0 0 [.ref (gb G + t)] Z I J (qv Z K) :=
  Cl.of (by decide +kernel) (Nat.le_of_ble_eq_true rfl) (rX8_countMost_0 ht h)
set_option maxRecDepth 4000 in
theorem rX8_firstOfMost_0 {G : jdG} {n rc rs : Nat} {Z : jdL} {I : jdI} {J : jdJ} {K : Int32 → jdI → jdJ → Prop} {t : Nat} {x1 : Int32} (ht : zTies Z t) (h : Cl G mX8_mostFrom n 0 0 [.ref (gb G + t), .int x1] Z I J (qi Z (fun v2 I1 J1 => Jd G mX8_firstOfMost (jdFm G (qi Z K)) (n + 1) rc rs 10 [(0, .ref (gb G + t)), (1, .int x1), (2, .int (v2 - 1)), (3, .int 0)] [] Z I1 J1))) : Jd G mX8_firstOfMost (jdFm G (qi Z K)) (n + 1) rc rs 0 [(0, .ref (gb G + t)), (1, .int x1)] [] Z I J := by
  refine jd_aload_n (pc := 0) 0 dX8_firstOfMost_0 rfl rfl ?_
  refine jd_iload_n (pc := 1) 1 dX8_firstOfMost_1 rfl rfl ?_
  refine jd_callVi (pc := 2) (M2 := mX8_mostFrom) (id := t) (ci := 7) (T := TX8) (N := 11) (av := [.int x1]) kX8_mostFrom sX8_mostFrom rfl ht.1 lX8_67 rfl rfl (Nat.le_of_ble_eq_true rfl) dX8_firstOfMost_2 h ?_
  intro v2 I1 J1 h
  refine jd_iconst (pc := 5) (v := 1) dX8_firstOfMost_5 (by decide) ?_
  refine jd_isub (pc := 6) dX8_firstOfMost_6 ?_
  refine jd_istore_n (pc := 7) [(2, .int (v2 - 1)), (0, .ref (gb G + t)), (1, .int x1)] dX8_firstOfMost_7 rfl (by decide) rfl ?_
  refine jd_iconst (pc := 8) (v := 0) dX8_firstOfMost_8 (by decide) ?_
  refine jd_istore_n (pc := 9) [(3, .int 0), (2, .int (v2 - 1)), (0, .ref (gb G + t)), (1, .int x1)] dX8_firstOfMost_9 rfl (by decide) rfl ?_
  exact jd_lv (lv2 := [(0, .ref (gb G + t)), (1, .int x1), (2, .int (v2 - 1)), (3, .int 0)]) [2, 3, 1, 0] rfl h
set_option maxRecDepth 4000 in
theorem rX8_firstOfMost_10 {G : jdG} {n rc rs : Nat} {Z : jdL} {I : jdI} {J : jdJ} {K : Int32 → jdI → jdJ → Prop} {t : Nat} {x1 : Int32} {x2 : Int32} {x3 : Int32} (ht : zTies Z t) (h : (((I t 8) ≤ x3 → K 0 I J) ∧ (¬ (I t 8) ≤ x3 → (vp_in x3 70 ∧ ((¬ ((I (t + 3) (Int32.toNatClampNeg x3)) &&& x1) = (I (t + 3) (Int32.toNatClampNeg x3)) → Jd G mX8_firstOfMost (jdFm G (qi Z K)) (n + 1) rc rs 10 [(0, .ref (gb G + t)), (1, .int x1), (2, .int x2), (3, .int (x3 + 1))] [] Z I J) ∧ (((I (t + 3) (Int32.toNatClampNeg x3)) &&& x1) = (I (t + 3) (Int32.toNatClampNeg x3)) → Cl G mX8_mostFrom n 0 0 [.ref (gb G + t), .int (x1 ^^^ (I (t + 3) (Int32.toNatClampNeg x3)))] Z I J (qi Z (fun v3 I2 J2 => ((¬ v3 = x2 → Jd G mX8_firstOfMost (jdFm G (qi Z K)) (n + 1) rc rs 10 [(0, .ref (gb G + t)), (1, .int x1), (2, .int x2), (3, .int (x3 + 1))] [] Z I2 J2) ∧ (v3 = x2 → K (I (t + 3) (Int32.toNatClampNeg x3)) I2 J2)))))))))) : Jd G mX8_firstOfMost (jdFm G (qi Z K)) (n + 1) rc rs 10 [(0, .ref (gb G + t)), (1, .int x1), (2, .int x2), (3, .int x3)] [] Z I J := by
  refine jd_iload_n (pc := 10) 3 dX8_firstOfMost_10 rfl rfl ?_
  refine jd_aload_n (pc := 11) 0 dX8_firstOfMost_11 rfl rfl ?_
  refine jd_getI (pc := 12) (ci := 7) (k := 8) gX8_53 ht.1 rfl dX8_firstOfMost_12 ?_
  refine jd_icmp_ge (pc := 15) 56 dX8_firstOfMost_15 (by decide) (fun hc => ?_) (fun hc => ?_)
  · have h := h.1 hc
    refine jd_iconst (pc := 56) (v := 0) dX8_firstOfMost_56 (by decide) ?_
    exact jd_iretK (pc := 57) rfl rfl dX8_firstOfMost_57 h
  · have h := h.2 hc
    refine jd_aload_n (pc := 18) 0 dX8_firstOfMost_18 rfl rfl ?_
    refine jd_getR (pc := 19) (ci := 7) (k := 2) (r := (t + 3)) gX8_18 ht.1 rfl (zTies_p2 ht) dX8_firstOfMost_19 ?_
    refine jd_iload_n (pc := 22) 3 dX8_firstOfMost_22 rfl rfl ?_
    obtain ⟨hv1, h⟩ := h
    refine jd_iald (pc := 23) (len := 70) (zTies_a2 ht) hv1 dX8_firstOfMost_23 ?_
    refine jd_istore (pc := 24) [(4, .int (I (t + 3) (Int32.toNatClampNeg x3))), (0, .ref (gb G + t)), (1, .int x1), (2, .int x2), (3, .int x3)] dX8_firstOfMost_24 (by decide) rfl ?_
    refine jd_iload (pc := 26) 0 dX8_firstOfMost_26 rfl ?_
    refine jd_iload_n (pc := 28) 2 dX8_firstOfMost_28 rfl rfl ?_
    refine jd_iand (pc := 29) dX8_firstOfMost_29 ?_
    refine jd_iload (pc := 30) 0 dX8_firstOfMost_30 rfl ?_
    refine jd_icmp_ne (pc := 32) 50 dX8_firstOfMost_32 (by decide) (fun hc => ?_) (fun hc => ?_)
    · have h := h.1 hc
      refine jd_iinc (pc := 50) (v := (x3 + 1)) 4 [(3, .int (x3 + 1)), (4, .int (I (t + 3) (Int32.toNatClampNeg x3))), (0, .ref (gb G + t)), (1, .int x1), (2, .int x2)] dX8_firstOfMost_50 rfl rfl (by decide) rfl ?_
      refine jd_goto (pc := 53) 10 dX8_firstOfMost_53 (by decide) ?_
      exact jd_lv (lv2 := [(0, .ref (gb G + t)), (1, .int x1), (2, .int x2), (3, .int (x3 + 1))]) [2, 3, 4, 0] rfl h
    · have h := h.2 hc
      refine jd_aload_n (pc := 35) 1 dX8_firstOfMost_35 rfl rfl ?_
      refine jd_iload_n (pc := 36) 2 dX8_firstOfMost_36 rfl rfl ?_
      refine jd_iload (pc := 37) 0 dX8_firstOfMost_37 rfl ?_
      refine jd_ixor (pc := 39) dX8_firstOfMost_39 ?_
      refine jd_callVi (pc := 40) (M2 := mX8_mostFrom) (id := t) (ci := 7) (T := TX8) (N := 11) (av := [.int (x1 ^^^ (I (t + 3) (Int32.toNatClampNeg x3)))]) kX8_mostFrom sX8_mostFrom rfl ht.1 lX8_67 rfl rfl (Nat.le_of_ble_eq_true rfl) dX8_firstOfMost_40 h ?_
      intro v3 I2 J2 h
      refine jd_iload_n (pc := 43) 3 dX8_firstOfMost_43 rfl rfl ?_
      refine jd_icmp_ne (pc := 44) 50 dX8_firstOfMost_44 (by decide) (fun hc => ?_) (fun hc => ?_)
      · have h := h.1 hc
        refine jd_iinc (pc := 50) (v := (x3 + 1)) 4 [(3, .int (x3 + 1)), (4, .int (I (t + 3) (Int32.toNatClampNeg x3))), (0, .ref (gb G + t)), (1, .int x1), (2, .int x2)] dX8_firstOfMost_50 rfl rfl (by decide) rfl ?_
        refine jd_goto (pc := 53) 10 dX8_firstOfMost_53 (by decide) ?_
        exact jd_lv (lv2 := [(0, .ref (gb G + t)), (1, .int x1), (2, .int x2), (3, .int (x3 + 1))]) [2, 3, 4, 0] rfl h
      · have h := h.2 hc
        refine jd_iload (pc := 47) 0 dX8_firstOfMost_47 rfl ?_
        exact jd_iretK (pc := 49) rfl rfl dX8_firstOfMost_49 h
theorem eX8_firstOfMost {G : jdG} {n : Nat} {Z : jdL} {I : jdI} {J : jdJ} {K : Int32 → jdI → jdJ → Prop} {t : Nat} {x1 : Int32} (ht : zTies Z t) (h : Cl G mX8_mostFrom n 0 0 [.ref (gb G + t), .int x1] Z I J (qi Z (fun v2 I1 J1 => Jd G mX8_firstOfMost (jdFm G (qi Z K)) (n + 1) 0 0 10 [(0, .ref (gb G + t)), (1, .int x1), (2, .int (v2 - 1)), (3, .int 0)] [] Z I1 J1))) : Cl G mX8_firstOfMost (n + 1) 0 0 [.ref (gb G + t), .int x1] Z I J (qi Z K) :=
  Cl.of (by decide +kernel) (Nat.le_of_ble_eq_true rfl) (rX8_firstOfMost_0 ht h)
set_option maxRecDepth 4000 in
theorem rX8_mostRow_0 {G : jdG} {n rc rs : Nat} {Z : jdL} {I : jdI} {J : jdJ} {K : Int32 → jdI → jdJ → Prop} {t : Nat} {x1 : Int32} {x2 : Int32} (ht : zTies Z t) (h : Jd G mX8_mostRow (jdFm G (qi Z K)) (n + 1) rc rs 5 [(0, .ref (gb G + t)), (1, .int x1), (2, .int x2), (3, .int x1), (4, .int 0)] [] Z I J) : Jd G mX8_mostRow (jdFm G (qi Z K)) (n + 1) rc rs 0 [(0, .ref (gb G + t)), (1, .int x1), (2, .int x2)] [] Z I J := by
  refine jd_iload_n (pc := 0) 1 dX8_mostRow_0 rfl rfl ?_
  refine jd_istore_n (pc := 1) [(3, .int x1), (0, .ref (gb G + t)), (1, .int x1), (2, .int x2)] dX8_mostRow_1 rfl (by decide) rfl ?_
  refine jd_iconst (pc := 2) (v := 0) dX8_mostRow_2 (by decide) ?_
  refine jd_istore (pc := 3) [(4, .int 0), (3, .int x1), (0, .ref (gb G + t)), (1, .int x1), (2, .int x2)] dX8_mostRow_3 (by decide) rfl ?_
  exact jd_lv (lv2 := [(0, .ref (gb G + t)), (1, .int x1), (2, .int x2), (3, .int x1), (4, .int 0)]) [2, 3, 4, 1, 0] rfl h
set_option maxRecDepth 4000 in
theorem rX8_mostRow_5 {G : jdG} {n rc rs : Nat} {Z : jdL} {I : jdI} {J : jdJ} {K : Int32 → jdI → jdJ → Prop} {t : Nat} {x1 : Int32} {x2 : Int32} {x3 : Int32} {x4 : Int32} (ht : zTies Z t) (h : ((x2 ≤ x4 → Cl G mX8_firstOfMost n 0 0 [.ref (gb G + t), .int x3] Z I J (qi Z (fun v2 I1 J1 => K v2 I1 J1))) ∧ (¬ x2 ≤ x4 → ((8 ≤ x4 → Cl G mX8_firstOfMost n 0 0 [.ref (gb G + t), .int x3] Z I J (qi Z (fun v4 I3 J3 => K v4 I3 J3))) ∧ (¬ 8 ≤ x4 → Cl G mX8_firstOfMost n 0 0 [.ref (gb G + t), .int x3] Z I J (qi Z (fun v6 I5 J5 => Jd G mX8_mostRow (jdFm G (qi Z K)) (n + 1) rc rs 5 [(0, .ref (gb G + t)), (1, .int x1), (2, .int x2), (3, .int (x3 &&& (v6 ^^^ (-1)))), (4, .int (x4 + 1))] [] Z I5 J5))))))) : Jd G mX8_mostRow (jdFm G (qi Z K)) (n + 1) rc rs 5 [(0, .ref (gb G + t)), (1, .int x1), (2, .int x2), (3, .int x3), (4, .int x4)] [] Z I J := by
  refine jd_iload (pc := 5) 4 dX8_mostRow_5 rfl ?_
  refine jd_iload_n (pc := 7) 2 dX8_mostRow_7 rfl rfl ?_
  refine jd_icmp_ge (pc := 8) 34 dX8_mostRow_8 (by decide) (fun hc => ?_) (fun hc => ?_)
  · have h := h.1 hc
    refine jd_aload_n (pc := 34) 0 dX8_mostRow_34 rfl rfl ?_
    refine jd_iload_n (pc := 35) 3 dX8_mostRow_35 rfl rfl ?_
    refine jd_callVi (pc := 36) (M2 := mX8_firstOfMost) (id := t) (ci := 7) (T := TX8) (N := 11) (av := [.int x3]) kX8_firstOfMost sX8_firstOfMost rfl ht.1 lX8_70 rfl rfl (Nat.le_of_ble_eq_true rfl) dX8_mostRow_36 h ?_
    intro v2 I1 J1 h
    exact jd_iretK (pc := 39) rfl rfl dX8_mostRow_39 h
  · have h := h.2 hc
    refine jd_iload (pc := 11) 4 dX8_mostRow_11 rfl ?_
    refine jd_bipush (pc := 13) (v := 8) dX8_mostRow_13 (by decide) ?_
    refine jd_icmp_ge (pc := 15) 34 dX8_mostRow_15 (by decide) (fun hc => ?_) (fun hc => ?_)
    · have h := h.1 hc
      refine jd_aload_n (pc := 34) 0 dX8_mostRow_34 rfl rfl ?_
      refine jd_iload_n (pc := 35) 3 dX8_mostRow_35 rfl rfl ?_
      refine jd_callVi (pc := 36) (M2 := mX8_firstOfMost) (id := t) (ci := 7) (T := TX8) (N := 11) (av := [.int x3]) kX8_firstOfMost sX8_firstOfMost rfl ht.1 lX8_70 rfl rfl (Nat.le_of_ble_eq_true rfl) dX8_mostRow_36 h ?_
      intro v4 I3 J3 h
      exact jd_iretK (pc := 39) rfl rfl dX8_mostRow_39 h
    · have h := h.2 hc
      refine jd_iload_n (pc := 18) 3 dX8_mostRow_18 rfl rfl ?_
      refine jd_aload_n (pc := 19) 0 dX8_mostRow_19 rfl rfl ?_
      refine jd_iload_n (pc := 20) 3 dX8_mostRow_20 rfl rfl ?_
      refine jd_callVi (pc := 21) (M2 := mX8_firstOfMost) (id := t) (ci := 7) (T := TX8) (N := 11) (av := [.int x3]) kX8_firstOfMost sX8_firstOfMost rfl ht.1 lX8_70 rfl rfl (Nat.le_of_ble_eq_true rfl) dX8_mostRow_21 h ?_
      intro v6 I5 J5 h
      refine jd_iconst (pc := 24) (v := (-1)) dX8_mostRow_24 (by decide) ?_
      refine jd_ixor (pc := 25) dX8_mostRow_25 ?_
      refine jd_iand (pc := 26) dX8_mostRow_26 ?_
      refine jd_istore_n (pc := 27) [(3, .int (x3 &&& (v6 ^^^ (-1)))), (0, .ref (gb G + t)), (1, .int x1), (2, .int x2), (4, .int x4)] dX8_mostRow_27 rfl (by decide) rfl ?_
      refine jd_iinc (pc := 28) (v := (x4 + 1)) 4 [(4, .int (x4 + 1)), (3, .int (x3 &&& (v6 ^^^ (-1)))), (0, .ref (gb G + t)), (1, .int x1), (2, .int x2)] dX8_mostRow_28 rfl rfl (by decide) rfl ?_
      refine jd_goto (pc := 31) 5 dX8_mostRow_31 (by decide) ?_
      exact jd_lv (lv2 := [(0, .ref (gb G + t)), (1, .int x1), (2, .int x2), (3, .int (x3 &&& (v6 ^^^ (-1)))), (4, .int (x4 + 1))]) [2, 3, 4, 1, 0] rfl h
theorem eX8_mostRow {G : jdG} {n : Nat} {Z : jdL} {I : jdI} {J : jdJ} {K : Int32 → jdI → jdJ → Prop} {t : Nat} {x1 : Int32} {x2 : Int32} (ht : zTies Z t) (h : Jd G mX8_mostRow (jdFm G (qi Z K)) (n + 1) 0 0 5 [(0, .ref (gb G + t)), (1, .int x1), (2, .int x2), (3, .int x1), (4, .int 0)] [] Z I J) : Cl G mX8_mostRow (n + 1) 0 0 [.ref (gb G + t), .int x1, .int x2] Z I J (qi Z K) :=
  Cl.of (by decide +kernel) (Nat.le_of_ble_eq_true rfl) (rX8_mostRow_0 ht h)
set_option maxRecDepth 4000 in
theorem rX8_costTogether_0 {G : jdG} {n rc rs : Nat} {Z : jdL} {I : jdI} {J : jdJ} {K : Int32 → jdI → jdJ → Prop} {t : Nat} {x1 : Int32} (ht : zTies Z t) (h : Jd G mX8_costTogether (jdFm G (qi Z K)) n rc rs 4 [(0, .ref (gb G + t)), (1, .int x1), (2, .int 0), (3, .int 0)] [] Z I J) : Jd G mX8_costTogether (jdFm G (qi Z K)) n rc rs 0 [(0, .ref (gb G + t)), (1, .int x1)] [] Z I J := by
  refine jd_iconst (pc := 0) (v := 0) dX8_costTogether_0 (by decide) ?_
  refine jd_istore_n (pc := 1) [(2, .int 0), (0, .ref (gb G + t)), (1, .int x1)] dX8_costTogether_1 rfl (by decide) rfl ?_
  refine jd_iconst (pc := 2) (v := 0) dX8_costTogether_2 (by decide) ?_
  refine jd_istore_n (pc := 3) [(3, .int 0), (2, .int 0), (0, .ref (gb G + t)), (1, .int x1)] dX8_costTogether_3 rfl (by decide) rfl ?_
  exact jd_lv (lv2 := [(0, .ref (gb G + t)), (1, .int x1), (2, .int 0), (3, .int 0)]) [2, 3, 1, 0] rfl h
set_option maxRecDepth 4000 in
theorem rX8_costTogether_4 {G : jdG} {n rc rs : Nat} {Z : jdL} {I : jdI} {J : jdJ} {K : Int32 → jdI → jdJ → Prop} {t : Nat} {x1 : Int32} {x2 : Int32} {x3 : Int32} (ht : zTies Z t) (h : (((I t 6) ≤ x3 → K x2 I J) ∧ (¬ (I t 6) ≤ x3 → (vp_in x3 8 ∧ Jd G mX8_costTogether (jdFm G (qi Z K)) n rc rs 4 [(0, .ref (gb G + t)), (1, .int x1), (2, .int (x2 + (((x1 >>> (x3 &&& 31)) &&& 1) * (I (t + 2) (Int32.toNatClampNeg x3))))), (3, .int (x3 + 1))] [] Z I J)))) : Jd G mX8_costTogether (jdFm G (qi Z K)) n rc rs 4 [(0, .ref (gb G + t)), (1, .int x1), (2, .int x2), (3, .int x3)] [] Z I J := by
  refine jd_iload_n (pc := 4) 3 dX8_costTogether_4 rfl rfl ?_
  refine jd_aload_n (pc := 5) 0 dX8_costTogether_5 rfl rfl ?_
  refine jd_getI (pc := 6) (ci := 7) (k := 6) gX8_36 ht.1 rfl dX8_costTogether_6 ?_
  refine jd_icmp_ge (pc := 9) 33 dX8_costTogether_9 (by decide) (fun hc => ?_) (fun hc => ?_)
  · have h := h.1 hc
    refine jd_iload_n (pc := 33) 2 dX8_costTogether_33 rfl rfl ?_
    exact jd_iretK (pc := 34) rfl rfl dX8_costTogether_34 h
  · have h := h.2 hc
    refine jd_iload_n (pc := 12) 2 dX8_costTogether_12 rfl rfl ?_
    refine jd_iload_n (pc := 13) 1 dX8_costTogether_13 rfl rfl ?_
    refine jd_iload_n (pc := 14) 3 dX8_costTogether_14 rfl rfl ?_
    refine jd_ishr (pc := 15) dX8_costTogether_15 ?_
    refine jd_iconst (pc := 16) (v := 1) dX8_costTogether_16 (by decide) ?_
    refine jd_iand (pc := 17) dX8_costTogether_17 ?_
    refine jd_aload_n (pc := 18) 0 dX8_costTogether_18 rfl rfl ?_
    refine jd_getR (pc := 19) (ci := 7) (k := 1) (r := (t + 2)) gX8_15 ht.1 rfl (zTies_p1 ht) dX8_costTogether_19 ?_
    refine jd_iload_n (pc := 22) 3 dX8_costTogether_22 rfl rfl ?_
    obtain ⟨hv1, h⟩ := h
    refine jd_iald (pc := 23) (len := 8) (zTies_a1 ht) hv1 dX8_costTogether_23 ?_
    refine jd_imul (pc := 24) dX8_costTogether_24 ?_
    refine jd_iadd (pc := 25) dX8_costTogether_25 ?_
    refine jd_istore_n (pc := 26) [(2, .int (x2 + (((x1 >>> (x3 &&& 31)) &&& 1) * (I (t + 2) (Int32.toNatClampNeg x3))))), (0, .ref (gb G + t)), (1, .int x1), (3, .int x3)] dX8_costTogether_26 rfl (by decide) rfl ?_
    refine jd_iinc (pc := 27) (v := (x3 + 1)) 3 [(3, .int (x3 + 1)), (2, .int (x2 + (((x1 >>> (x3 &&& 31)) &&& 1) * (I (t + 2) (Int32.toNatClampNeg x3))))), (0, .ref (gb G + t)), (1, .int x1)] dX8_costTogether_27 rfl rfl (by decide) rfl ?_
    refine jd_goto (pc := 30) 4 dX8_costTogether_30 (by decide) ?_
    exact jd_lv (lv2 := [(0, .ref (gb G + t)), (1, .int x1), (2, .int (x2 + (((x1 >>> (x3 &&& 31)) &&& 1) * (I (t + 2) (Int32.toNatClampNeg x3))))), (3, .int (x3 + 1))]) [2, 3, 1, 0] rfl h
theorem eX8_costTogether {G : jdG} {n : Nat} {Z : jdL} {I : jdI} {J : jdJ} {K : Int32 → jdI → jdJ → Prop} {t : Nat} {x1 : Int32} (ht : zTies Z t) (h : Jd G mX8_costTogether (jdFm G (qi Z K)) n 0 0 4 [(0, .ref (gb G + t)), (1, .int x1), (2, .int 0), (3, .int 0)] [] Z I J) : Cl G mX8_costTogether (n) 0 0 [.ref (gb G + t), .int x1] Z I J (qi Z K) :=
  Cl.of (by decide +kernel) (Nat.le_of_ble_eq_true rfl) (rX8_costTogether_0 ht h)
set_option maxRecDepth 4000 in
theorem rX8_strangersTogether_0 {G : jdG} {n rc rs : Nat} {Z : jdL} {I : jdI} {J : jdJ} {K : Int32 → jdI → jdJ → Prop} {t : Nat} {x1 : Int32} (ht : zTies Z t) (h : Jd G mX8_strangersTogether (jdFm G (qi Z K)) (n + 1) rc rs 4 [(0, .ref (gb G + t)), (1, .int x1), (2, .int 0), (3, .int 0)] [] Z I J) : Jd G mX8_strangersTogether (jdFm G (qi Z K)) (n + 1) rc rs 0 [(0, .ref (gb G + t)), (1, .int x1)] [] Z I J := by
  refine jd_iconst (pc := 0) (v := 0) dX8_strangersTogether_0 (by decide) ?_
  refine jd_istore_n (pc := 1) [(2, .int 0), (0, .ref (gb G + t)), (1, .int x1)] dX8_strangersTogether_1 rfl (by decide) rfl ?_
  refine jd_iconst (pc := 2) (v := 0) dX8_strangersTogether_2 (by decide) ?_
  refine jd_istore_n (pc := 3) [(3, .int 0), (2, .int 0), (0, .ref (gb G + t)), (1, .int x1)] dX8_strangersTogether_3 rfl (by decide) rfl ?_
  exact jd_lv (lv2 := [(0, .ref (gb G + t)), (1, .int x1), (2, .int 0), (3, .int 0)]) [2, 3, 1, 0] rfl h
set_option maxRecDepth 4000 in
theorem rX8_strangersTogether_4 {G : jdG} {n rc rs : Nat} {Z : jdL} {I : jdI} {J : jdJ} {K : Int32 → jdI → jdJ → Prop} {t : Nat} {x1 : Int32} {x2 : Int32} {x3 : Int32} (ht : zTies Z t) (h : (((I t 6) ≤ x3 → K x2 I J) ∧ (¬ (I t 6) ≤ x3 → (vp_in x3 8 ∧ Cl G mJ6_bitCount_0f7a4 n 0 0 [.int (I (t + 1) (Int32.toNatClampNeg x3))] Z I J (qi Z (fun v3 I2 J2 => Jd G mX8_strangersTogether (jdFm G (qi Z K)) (n + 1) rc rs 4 [(0, .ref (gb G + t)), (1, .int x1), (2, .int (x2 + (((x1 >>> (x3 &&& 31)) &&& 1) * v3))), (3, .int (x3 + 1))] [] Z I2 J2)))))) : Jd G mX8_strangersTogether (jdFm G (qi Z K)) (n + 1) rc rs 4 [(0, .ref (gb G + t)), (1, .int x1), (2, .int x2), (3, .int x3)] [] Z I J := by
  refine jd_iload_n (pc := 4) 3 dX8_strangersTogether_4 rfl rfl ?_
  refine jd_aload_n (pc := 5) 0 dX8_strangersTogether_5 rfl rfl ?_
  refine jd_getI (pc := 6) (ci := 7) (k := 6) gX8_36 ht.1 rfl dX8_strangersTogether_6 ?_
  refine jd_icmp_ge (pc := 9) 36 dX8_strangersTogether_9 (by decide) (fun hc => ?_) (fun hc => ?_)
  · have h := h.1 hc
    refine jd_iload_n (pc := 36) 2 dX8_strangersTogether_36 rfl rfl ?_
    exact jd_iretK (pc := 37) rfl rfl dX8_strangersTogether_37 h
  · have h := h.2 hc
    refine jd_iload_n (pc := 12) 2 dX8_strangersTogether_12 rfl rfl ?_
    refine jd_iload_n (pc := 13) 1 dX8_strangersTogether_13 rfl rfl ?_
    refine jd_iload_n (pc := 14) 3 dX8_strangersTogether_14 rfl rfl ?_
    refine jd_ishr (pc := 15) dX8_strangersTogether_15 ?_
    refine jd_iconst (pc := 16) (v := 1) dX8_strangersTogether_16 (by decide) ?_
    refine jd_iand (pc := 17) dX8_strangersTogether_17 ?_
    refine jd_aload_n (pc := 18) 0 dX8_strangersTogether_18 rfl rfl ?_
    refine jd_getR (pc := 19) (ci := 7) (k := 0) (r := (t + 1)) gX8_11 ht.1 rfl (zTies_p0 ht) dX8_strangersTogether_19 ?_
    refine jd_iload_n (pc := 22) 3 dX8_strangersTogether_22 rfl rfl ?_
    obtain ⟨hv1, h⟩ := h
    refine jd_iald (pc := 23) (len := 8) (zTies_a0 ht) hv1 dX8_strangersTogether_23 ?_
    refine jd_callSi (pc := 24) (M2 := mJ6_bitCount_0f7a4) (av := [.int (I (t + 1) (Int32.toNatClampNeg x3))]) kJ6_bitCount_0f7a4 sJ6_bitCount_0f7a4 lX8_73 rfl rfl (Nat.le_of_ble_eq_true rfl) dX8_strangersTogether_24 h ?_
    intro v3 I2 J2 h
    refine jd_imul (pc := 27) dX8_strangersTogether_27 ?_
    refine jd_iadd (pc := 28) dX8_strangersTogether_28 ?_
    refine jd_istore_n (pc := 29) [(2, .int (x2 + (((x1 >>> (x3 &&& 31)) &&& 1) * v3))), (0, .ref (gb G + t)), (1, .int x1), (3, .int x3)] dX8_strangersTogether_29 rfl (by decide) rfl ?_
    refine jd_iinc (pc := 30) (v := (x3 + 1)) 3 [(3, .int (x3 + 1)), (2, .int (x2 + (((x1 >>> (x3 &&& 31)) &&& 1) * v3))), (0, .ref (gb G + t)), (1, .int x1)] dX8_strangersTogether_30 rfl rfl (by decide) rfl ?_
    refine jd_goto (pc := 33) 4 dX8_strangersTogether_33 (by decide) ?_
    exact jd_lv (lv2 := [(0, .ref (gb G + t)), (1, .int x1), (2, .int (x2 + (((x1 >>> (x3 &&& 31)) &&& 1) * v3))), (3, .int (x3 + 1))]) [2, 3, 1, 0] rfl h
theorem eX8_strangersTogether {G : jdG} {n : Nat} {Z : jdL} {I : jdI} {J : jdJ} {K : Int32 → jdI → jdJ → Prop} {t : Nat} {x1 : Int32} (ht : zTies Z t) (h : Jd G mX8_strangersTogether (jdFm G (qi Z K)) (n + 1) 0 0 4 [(0, .ref (gb G + t)), (1, .int x1), (2, .int 0), (3, .int 0)] [] Z I J) : Cl G mX8_strangersTogether (n + 1) 0 0 [.ref (gb G + t), .int x1] Z I J (qi Z K) :=
  Cl.of (by decide +kernel) (Nat.le_of_ble_eq_true rfl) (rX8_strangersTogether_0 ht h)
set_option maxRecDepth 4000 in
theorem rX8_closest_0 {G : jdG} {n rc rs : Nat} {Z : jdL} {I : jdI} {J : jdJ} {K : Int32 → jdI → jdJ → Prop} {t : Nat} (ht : zTies Z t) (h : Jd G mX8_closest (jdFm G (qi Z K)) (n + 1) rc rs 6 [(0, .ref (gb G + t)), (1, .int (-1)), (2, .int (-1)), (3, .int 0)] [] Z I J) : Jd G mX8_closest (jdFm G (qi Z K)) (n + 1) rc rs 0 [(0, .ref (gb G + t))] [] Z I J := by
  refine jd_iconst (pc := 0) (v := (-1)) dX8_closest_0 (by decide) ?_
  refine jd_istore_n (pc := 1) [(1, .int (-1)), (0, .ref (gb G + t))] dX8_closest_1 rfl (by decide) rfl ?_
  refine jd_iconst (pc := 2) (v := (-1)) dX8_closest_2 (by decide) ?_
  refine jd_istore_n (pc := 3) [(2, .int (-1)), (1, .int (-1)), (0, .ref (gb G + t))] dX8_closest_3 rfl (by decide) rfl ?_
  refine jd_iconst (pc := 4) (v := 0) dX8_closest_4 (by decide) ?_
  refine jd_istore_n (pc := 5) [(3, .int 0), (2, .int (-1)), (1, .int (-1)), (0, .ref (gb G + t))] dX8_closest_5 rfl (by decide) rfl ?_
  exact jd_lv (lv2 := [(0, .ref (gb G + t)), (1, .int (-1)), (2, .int (-1)), (3, .int 0)]) [3, 2, 1, 0] rfl h
set_option maxRecDepth 4000 in
theorem rX8_closest_6 {G : jdG} {n rc rs : Nat} {Z : jdL} {I : jdI} {J : jdJ} {K : Int32 → jdI → jdJ → Prop} {t : Nat} {x1 : Int32} {x2 : Int32} {x3 : Int32} (ht : zTies Z t) (h : (((I t 6) ≤ x3 → K x1 I J) ∧ (¬ (I t 6) ≤ x3 → Jd G mX8_closest (jdFm G (qi Z K)) (n + 1) rc rs 19 [(0, .ref (gb G + t)), (1, .int x1), (2, .int x2), (3, .int x3), (4, .int (x3 + 1))] [] Z I J))) : Jd G mX8_closest (jdFm G (qi Z K)) (n + 1) rc rs 6 [(0, .ref (gb G + t)), (1, .int x1), (2, .int x2), (3, .int x3)] [] Z I J := by
  refine jd_iload_n (pc := 6) 3 dX8_closest_6 rfl rfl ?_
  refine jd_aload_n (pc := 7) 0 dX8_closest_7 rfl rfl ?_
  refine jd_getI (pc := 8) (ci := 7) (k := 6) gX8_36 ht.1 rfl dX8_closest_8 ?_
  refine jd_icmp_ge (pc := 11) 85 dX8_closest_11 (by decide) (fun hc => ?_) (fun hc => ?_)
  · have h := h.1 hc
    refine jd_iload_n (pc := 85) 1 dX8_closest_85 rfl rfl ?_
    exact jd_iretK (pc := 86) rfl rfl dX8_closest_86 h
  · have h := h.2 hc
    refine jd_iload_n (pc := 14) 3 dX8_closest_14 rfl rfl ?_
    refine jd_iconst (pc := 15) (v := 1) dX8_closest_15 (by decide) ?_
    refine jd_iadd (pc := 16) dX8_closest_16 ?_
    refine jd_istore (pc := 17) [(4, .int (x3 + 1)), (0, .ref (gb G + t)), (1, .int x1), (2, .int x2), (3, .int x3)] dX8_closest_17 (by decide) rfl ?_
    exact jd_lv (lv2 := [(0, .ref (gb G + t)), (1, .int x1), (2, .int x2), (3, .int x3), (4, .int (x3 + 1))]) [1, 2, 3, 4, 0] rfl h
set_option maxRecDepth 4000 in
theorem rX8_closest_19 {G : jdG} {n rc rs : Nat} {Z : jdL} {I : jdI} {J : jdJ} {K : Int32 → jdI → jdJ → Prop} {t : Nat} {x1 : Int32} {x2 : Int32} {x3 : Int32} {x4 : Int32} (ht : zTies Z t) (h : (((I t 6) ≤ x4 → Jd G mX8_closest (jdFm G (qi Z K)) (n + 1) rc rs 6 [(0, .ref (gb G + t)), (1, .int x1), (2, .int x2), (3, .int (x3 + 1))] [] Z I J) ∧ (¬ (I t 6) ≤ x4 → (vp_in x3 8 ∧ (((((I (t + 1) (Int32.toNatClampNeg x3)) >>> (x4 &&& 31)) &&& 1) = 0 → Jd G mX8_closest (jdFm G (qi Z K)) (n + 1) rc rs 19 [(0, .ref (gb G + t)), (1, .int x1), (2, .int x2), (3, .int x3), (4, .int (x4 + 1))] [] Z I J) ∧ (¬ (((I (t + 1) (Int32.toNatClampNeg x3)) >>> (x4 &&& 31)) &&& 1) = 0 → Cl G mX8_countWith n 0 0 [.ref (gb G + t), .int ((1 <<< (x3 &&& 31)) ||| (1 <<< (x4 &&& 31)))] Z I J (qi Z (fun v3 I2 J2 => ((v3 ≤ x2 → Jd G mX8_closest (jdFm G (qi Z K)) (n + 1) rc rs 19 [(0, .ref (gb G + t)), (1, .int x1), (2, .int x2), (3, .int x3), (4, .int (x4 + 1))] [] Z I2 J2) ∧ (¬ v3 ≤ x2 → Jd G mX8_closest (jdFm G (qi Z K)) (n + 1) rc rs 19 [(0, .ref (gb G + t)), (1, .int ((10 * x3) + x4)), (2, .int v3), (3, .int x3), (4, .int (x4 + 1))] [] Z I2 J2)))))))))) : Jd G mX8_closest (jdFm G (qi Z K)) (n + 1) rc rs 19 [(0, .ref (gb G + t)), (1, .int x1), (2, .int x2), (3, .int x3), (4, .int x4)] [] Z I J := by
  refine jd_iload (pc := 19) 4 dX8_closest_19 rfl ?_
  refine jd_aload_n (pc := 21) 0 dX8_closest_21 rfl rfl ?_
  refine jd_getI (pc := 22) (ci := 7) (k := 6) gX8_36 ht.1 rfl dX8_closest_22 ?_
  refine jd_icmp_ge (pc := 25) 79 dX8_closest_25 (by decide) (fun hc => ?_) (fun hc => ?_)
  · have h := h.1 hc
    refine jd_iinc (pc := 79) (v := (x3 + 1)) 3 [(3, .int (x3 + 1)), (0, .ref (gb G + t)), (1, .int x1), (2, .int x2), (4, .int x4)] dX8_closest_79 rfl rfl (by decide) rfl ?_
    refine jd_goto (pc := 82) 6 dX8_closest_82 (by decide) ?_
    exact jd_lv (lv2 := [(0, .ref (gb G + t)), (1, .int x1), (2, .int x2), (3, .int (x3 + 1))]) [1, 2, 3, 0] rfl h
  · have h := h.2 hc
    refine jd_aload_n (pc := 28) 0 dX8_closest_28 rfl rfl ?_
    refine jd_getR (pc := 29) (ci := 7) (k := 0) (r := (t + 1)) gX8_11 ht.1 rfl (zTies_p0 ht) dX8_closest_29 ?_
    refine jd_iload_n (pc := 32) 3 dX8_closest_32 rfl rfl ?_
    obtain ⟨hv1, h⟩ := h
    refine jd_iald (pc := 33) (len := 8) (zTies_a0 ht) hv1 dX8_closest_33 ?_
    refine jd_iload (pc := 34) 4 dX8_closest_34 rfl ?_
    refine jd_ishr (pc := 36) dX8_closest_36 ?_
    refine jd_iconst (pc := 37) (v := 1) dX8_closest_37 (by decide) ?_
    refine jd_iand (pc := 38) dX8_closest_38 ?_
    refine jd_if_eq (pc := 39) 73 dX8_closest_39 (by decide) (fun hc => ?_) (fun hc => ?_)
    · have h := h.1 hc
      refine jd_iinc (pc := 73) (v := (x4 + 1)) 4 [(4, .int (x4 + 1)), (0, .ref (gb G + t)), (1, .int x1), (2, .int x2), (3, .int x3)] dX8_closest_73 rfl rfl (by decide) rfl ?_
      refine jd_goto (pc := 76) 19 dX8_closest_76 (by decide) ?_
      exact jd_lv (lv2 := [(0, .ref (gb G + t)), (1, .int x1), (2, .int x2), (3, .int x3), (4, .int (x4 + 1))]) [1, 2, 3, 4, 0] rfl h
    · have h := h.2 hc
      refine jd_aload_n (pc := 42) 0 dX8_closest_42 rfl rfl ?_
      refine jd_iconst (pc := 43) (v := 1) dX8_closest_43 (by decide) ?_
      refine jd_iload_n (pc := 44) 3 dX8_closest_44 rfl rfl ?_
      refine jd_ishl (pc := 45) dX8_closest_45 ?_
      refine jd_iconst (pc := 46) (v := 1) dX8_closest_46 (by decide) ?_
      refine jd_iload (pc := 47) 4 dX8_closest_47 rfl ?_
      refine jd_ishl (pc := 49) dX8_closest_49 ?_
      refine jd_ior (pc := 50) dX8_closest_50 ?_
      refine jd_callVi (pc := 51) (M2 := mX8_countWith) (id := t) (ci := 7) (T := TX8) (N := 11) (av := [.int ((1 <<< (x3 &&& 31)) ||| (1 <<< (x4 &&& 31)))]) kX8_countWith sX8_countWith rfl ht.1 lX8_78 rfl rfl (Nat.le_of_ble_eq_true rfl) dX8_closest_51 h ?_
      intro v3 I2 J2 h
      refine jd_istore (pc := 54) [(5, .int v3), (0, .ref (gb G + t)), (1, .int x1), (2, .int x2), (3, .int x3), (4, .int x4)] dX8_closest_54 (by decide) rfl ?_
      refine jd_iload (pc := 56) 0 dX8_closest_56 rfl ?_
      refine jd_iload_n (pc := 58) 3 dX8_closest_58 rfl rfl ?_
      refine jd_icmp_le (pc := 59) 73 dX8_closest_59 (by decide) (fun hc => ?_) (fun hc => ?_)
      · have h := h.1 hc
        refine jd_iinc (pc := 73) (v := (x4 + 1)) 5 [(4, .int (x4 + 1)), (5, .int v3), (0, .ref (gb G + t)), (1, .int x1), (2, .int x2), (3, .int x3)] dX8_closest_73 rfl rfl (by decide) rfl ?_
        refine jd_goto (pc := 76) 19 dX8_closest_76 (by decide) ?_
        exact jd_lv (lv2 := [(0, .ref (gb G + t)), (1, .int x1), (2, .int x2), (3, .int x3), (4, .int (x4 + 1))]) [2, 3, 4, 5, 0] rfl h
      · have h := h.2 hc
        refine jd_iload (pc := 62) 0 dX8_closest_62 rfl ?_
        refine jd_istore_n (pc := 64) [(2, .int v3), (5, .int v3), (0, .ref (gb G + t)), (1, .int x1), (3, .int x3), (4, .int x4)] dX8_closest_64 rfl (by decide) rfl ?_
        refine jd_bipush (pc := 65) (v := 10) dX8_closest_65 (by decide) ?_
        refine jd_iload_n (pc := 67) 4 dX8_closest_67 rfl rfl ?_
        refine jd_imul (pc := 68) dX8_closest_68 ?_
        refine jd_iload (pc := 69) 5 dX8_closest_69 rfl ?_
        refine jd_iadd (pc := 71) dX8_closest_71 ?_
        refine jd_istore_n (pc := 72) [(1, .int ((10 * x3) + x4)), (2, .int v3), (5, .int v3), (0, .ref (gb G + t)), (3, .int x3), (4, .int x4)] dX8_closest_72 rfl (by decide) rfl ?_
        refine jd_iinc (pc := 73) (v := (x4 + 1)) 5 [(4, .int (x4 + 1)), (1, .int ((10 * x3) + x4)), (2, .int v3), (5, .int v3), (0, .ref (gb G + t)), (3, .int x3)] dX8_closest_73 rfl rfl (by decide) rfl ?_
        refine jd_goto (pc := 76) 19 dX8_closest_76 (by decide) ?_
        exact jd_lv (lv2 := [(0, .ref (gb G + t)), (1, .int ((10 * x3) + x4)), (2, .int v3), (3, .int x3), (4, .int (x4 + 1))]) [4, 1, 2, 5, 0] rfl h
theorem eX8_closest {G : jdG} {n : Nat} {Z : jdL} {I : jdI} {J : jdJ} {K : Int32 → jdI → jdJ → Prop} {t : Nat} (ht : zTies Z t) (h : Jd G mX8_closest (jdFm G (qi Z K)) (n + 1) 0 0 6 [(0, .ref (gb G + t)), (1, .int (-1)), (2, .int (-1)), (3, .int 0)] [] Z I J) : Cl G mX8_closest (n + 1) 0 0 [.ref (gb G + t)] Z I J (qi Z K) :=
  Cl.of (by decide +kernel) (Nat.le_of_ble_eq_true rfl) (rX8_closest_0 ht h)
set_option maxRecDepth 4000 in
theorem rX8_pairBit_0 {G : jdG} {n rc rs : Nat} {Z : jdL} {I : jdI} {J : jdJ} {K : Int32 → jdI → jdJ → Prop} {x0 : Int32} {x1 : Int32}  (h : K (((x1 * (x1 - 1)) / 2) + x0) I J) : Jd G mX8_pairBit (jdFm G (qi Z K)) n rc rs 0 [(0, .int x0), (1, .int x1)] [] Z I J := by
  refine jd_iload_n (pc := 0) 1 dX8_pairBit_0 rfl rfl ?_
  refine jd_iload_n (pc := 1) 1 dX8_pairBit_1 rfl rfl ?_
  refine jd_iconst (pc := 2) (v := 1) dX8_pairBit_2 (by decide) ?_
  refine jd_isub (pc := 3) dX8_pairBit_3 ?_
  refine jd_imul (pc := 4) dX8_pairBit_4 ?_
  refine jd_iconst (pc := 5) (v := 2) dX8_pairBit_5 (by decide) ?_
  refine jd_idiv (pc := 6) dX8_pairBit_6 (by decide) ?_
  refine jd_iload_n (pc := 7) 0 dX8_pairBit_7 rfl rfl ?_
  refine jd_iadd (pc := 8) dX8_pairBit_8 ?_
  exact jd_iretK (pc := 9) rfl rfl dX8_pairBit_9 h
theorem eX8_pairBit {G : jdG} {n : Nat} {Z : jdL} {I : jdI} {J : jdJ} {K : Int32 → jdI → jdJ → Prop} {x0 : Int32} {x1 : Int32}  (h : K (((x1 * (x1 - 1)) / 2) + x0) I J) : Cl G mX8_pairBit (n) 0 0 [.int x0, .int x1] Z I J (qi Z K) :=
  Cl.of (by decide +kernel) (Nat.le_of_ble_eq_true rfl) (rX8_pairBit_0  h)
set_option maxRecDepth 4000 in
theorem rX8_pairsIn_0 {G : jdG} {n rc rs : Nat} {Z : jdL} {I : jdI} {J : jdJ} {K : Int32 → jdI → jdJ → Prop} {t : Nat} {x1 : Int32} (ht : zTies Z t) (h : Jd G mX8_pairsIn (jdFm G (qi Z K)) (n + 1) rc rs 4 [(0, .ref (gb G + t)), (1, .int x1), (2, .int 0), (3, .int 1)] [] Z I J) : Jd G mX8_pairsIn (jdFm G (qi Z K)) (n + 1) rc rs 0 [(0, .ref (gb G + t)), (1, .int x1)] [] Z I J := by
  refine jd_iconst (pc := 0) (v := 0) dX8_pairsIn_0 (by decide) ?_
  refine jd_istore_n (pc := 1) [(2, .int 0), (0, .ref (gb G + t)), (1, .int x1)] dX8_pairsIn_1 rfl (by decide) rfl ?_
  refine jd_iconst (pc := 2) (v := 1) dX8_pairsIn_2 (by decide) ?_
  refine jd_istore_n (pc := 3) [(3, .int 1), (2, .int 0), (0, .ref (gb G + t)), (1, .int x1)] dX8_pairsIn_3 rfl (by decide) rfl ?_
  exact jd_lv (lv2 := [(0, .ref (gb G + t)), (1, .int x1), (2, .int 0), (3, .int 1)]) [2, 3, 1, 0] rfl h
set_option maxRecDepth 4000 in
theorem rX8_pairsIn_4 {G : jdG} {n rc rs : Nat} {Z : jdL} {I : jdI} {J : jdJ} {K : Int32 → jdI → jdJ → Prop} {t : Nat} {x1 : Int32} {x2 : Int32} {x3 : Int32} (ht : zTies Z t) (h : (((I t 6) ≤ x3 → K x2 I J) ∧ (¬ (I t 6) ≤ x3 → Jd G mX8_pairsIn (jdFm G (qi Z K)) (n + 1) rc rs 15 [(0, .ref (gb G + t)), (1, .int x1), (2, .int x2), (3, .int x3), (4, .int 0)] [] Z I J))) : Jd G mX8_pairsIn (jdFm G (qi Z K)) (n + 1) rc rs 4 [(0, .ref (gb G + t)), (1, .int x1), (2, .int x2), (3, .int x3)] [] Z I J := by
  refine jd_iload_n (pc := 4) 3 dX8_pairsIn_4 rfl rfl ?_
  refine jd_aload_n (pc := 5) 0 dX8_pairsIn_5 rfl rfl ?_
  refine jd_getI (pc := 6) (ci := 7) (k := 6) gX8_36 ht.1 rfl dX8_pairsIn_6 ?_
  refine jd_icmp_ge (pc := 9) 67 dX8_pairsIn_9 (by decide) (fun hc => ?_) (fun hc => ?_)
  · have h := h.1 hc
    refine jd_iload_n (pc := 67) 2 dX8_pairsIn_67 rfl rfl ?_
    exact jd_iretK (pc := 68) rfl rfl dX8_pairsIn_68 h
  · have h := h.2 hc
    refine jd_iconst (pc := 12) (v := 0) dX8_pairsIn_12 (by decide) ?_
    refine jd_istore (pc := 13) [(4, .int 0), (0, .ref (gb G + t)), (1, .int x1), (2, .int x2), (3, .int x3)] dX8_pairsIn_13 (by decide) rfl ?_
    exact jd_lv (lv2 := [(0, .ref (gb G + t)), (1, .int x1), (2, .int x2), (3, .int x3), (4, .int 0)]) [1, 2, 3, 4, 0] rfl h
set_option maxRecDepth 4000 in
theorem rX8_pairsIn_15 {G : jdG} {n rc rs : Nat} {Z : jdL} {I : jdI} {J : jdJ} {K : Int32 → jdI → jdJ → Prop} {t : Nat} {x1 : Int32} {x2 : Int32} {x3 : Int32} {x4 : Int32} (ht : zTies Z t) (h : ((x3 ≤ x4 → Jd G mX8_pairsIn (jdFm G (qi Z K)) (n + 1) rc rs 4 [(0, .ref (gb G + t)), (1, .int x1), (2, .int x2), (3, .int (x3 + 1))] [] Z I J) ∧ (¬ x3 ≤ x4 → (vp_in x4 8 ∧ ((((((x1 >>> (x4 &&& 31)) &&& (x1 >>> (x3 &&& 31))) &&& ((I (t + 1) (Int32.toNatClampNeg x4)) >>> (x3 &&& 31))) &&& 1) = 0 → Jd G mX8_pairsIn (jdFm G (qi Z K)) (n + 1) rc rs 15 [(0, .ref (gb G + t)), (1, .int x1), (2, .int x2), (3, .int x3), (4, .int (x4 + 1))] [] Z I J) ∧ (¬ ((((x1 >>> (x4 &&& 31)) &&& (x1 >>> (x3 &&& 31))) &&& ((I (t + 1) (Int32.toNatClampNeg x4)) >>> (x3 &&& 31))) &&& 1) = 0 → Cl G mX8_pairBit n 0 0 [.int x4, .int x3] Z I J (qi Z (fun v3 I2 J2 => Jd G mX8_pairsIn (jdFm G (qi Z K)) (n + 1) rc rs 15 [(0, .ref (gb G + t)), (1, .int x1), (2, .int (x2 ||| (1 <<< (v3 &&& 31)))), (3, .int x3), (4, .int (x4 + 1))] [] Z I2 J2)))))))) : Jd G mX8_pairsIn (jdFm G (qi Z K)) (n + 1) rc rs 15 [(0, .ref (gb G + t)), (1, .int x1), (2, .int x2), (3, .int x3), (4, .int x4)] [] Z I J := by
  refine jd_iload (pc := 15) 4 dX8_pairsIn_15 rfl ?_
  refine jd_iload_n (pc := 17) 3 dX8_pairsIn_17 rfl rfl ?_
  refine jd_icmp_ge (pc := 18) 61 dX8_pairsIn_18 (by decide) (fun hc => ?_) (fun hc => ?_)
  · have h := h.1 hc
    refine jd_iinc (pc := 61) (v := (x3 + 1)) 3 [(3, .int (x3 + 1)), (0, .ref (gb G + t)), (1, .int x1), (2, .int x2), (4, .int x4)] dX8_pairsIn_61 rfl rfl (by decide) rfl ?_
    refine jd_goto (pc := 64) 4 dX8_pairsIn_64 (by decide) ?_
    exact jd_lv (lv2 := [(0, .ref (gb G + t)), (1, .int x1), (2, .int x2), (3, .int (x3 + 1))]) [1, 2, 3, 0] rfl h
  · have h := h.2 hc
    refine jd_iload_n (pc := 21) 1 dX8_pairsIn_21 rfl rfl ?_
    refine jd_iload (pc := 22) 4 dX8_pairsIn_22 rfl ?_
    refine jd_ishr (pc := 24) dX8_pairsIn_24 ?_
    refine jd_iload_n (pc := 25) 1 dX8_pairsIn_25 rfl rfl ?_
    refine jd_iload_n (pc := 26) 3 dX8_pairsIn_26 rfl rfl ?_
    refine jd_ishr (pc := 27) dX8_pairsIn_27 ?_
    refine jd_iand (pc := 28) dX8_pairsIn_28 ?_
    refine jd_aload_n (pc := 29) 0 dX8_pairsIn_29 rfl rfl ?_
    refine jd_getR (pc := 30) (ci := 7) (k := 0) (r := (t + 1)) gX8_11 ht.1 rfl (zTies_p0 ht) dX8_pairsIn_30 ?_
    refine jd_iload (pc := 33) 4 dX8_pairsIn_33 rfl ?_
    obtain ⟨hv1, h⟩ := h
    refine jd_iald (pc := 35) (len := 8) (zTies_a0 ht) hv1 dX8_pairsIn_35 ?_
    refine jd_iload_n (pc := 36) 3 dX8_pairsIn_36 rfl rfl ?_
    refine jd_ishr (pc := 37) dX8_pairsIn_37 ?_
    refine jd_iand (pc := 38) dX8_pairsIn_38 ?_
    refine jd_iconst (pc := 39) (v := 1) dX8_pairsIn_39 (by decide) ?_
    refine jd_iand (pc := 40) dX8_pairsIn_40 ?_
    refine jd_if_eq (pc := 41) 55 dX8_pairsIn_41 (by decide) (fun hc => ?_) (fun hc => ?_)
    · have h := h.1 hc
      refine jd_iinc (pc := 55) (v := (x4 + 1)) 4 [(4, .int (x4 + 1)), (0, .ref (gb G + t)), (1, .int x1), (2, .int x2), (3, .int x3)] dX8_pairsIn_55 rfl rfl (by decide) rfl ?_
      refine jd_goto (pc := 58) 15 dX8_pairsIn_58 (by decide) ?_
      exact jd_lv (lv2 := [(0, .ref (gb G + t)), (1, .int x1), (2, .int x2), (3, .int x3), (4, .int (x4 + 1))]) [1, 2, 3, 4, 0] rfl h
    · have h := h.2 hc
      refine jd_iload_n (pc := 44) 2 dX8_pairsIn_44 rfl rfl ?_
      refine jd_iconst (pc := 45) (v := 1) dX8_pairsIn_45 (by decide) ?_
      refine jd_iload (pc := 46) 4 dX8_pairsIn_46 rfl ?_
      refine jd_iload_n (pc := 48) 3 dX8_pairsIn_48 rfl rfl ?_
      refine jd_callSi (pc := 49) (M2 := mX8_pairBit) (av := [.int x4, .int x3]) kX8_pairBit sX8_pairBit lX8_81 rfl rfl (Nat.le_of_ble_eq_true rfl) dX8_pairsIn_49 h ?_
      intro v3 I2 J2 h
      refine jd_ishl (pc := 52) dX8_pairsIn_52 ?_
      refine jd_ior (pc := 53) dX8_pairsIn_53 ?_
      refine jd_istore_n (pc := 54) [(2, .int (x2 ||| (1 <<< (v3 &&& 31)))), (0, .ref (gb G + t)), (1, .int x1), (3, .int x3), (4, .int x4)] dX8_pairsIn_54 rfl (by decide) rfl ?_
      refine jd_iinc (pc := 55) (v := (x4 + 1)) 4 [(4, .int (x4 + 1)), (2, .int (x2 ||| (1 <<< (v3 &&& 31)))), (0, .ref (gb G + t)), (1, .int x1), (3, .int x3)] dX8_pairsIn_55 rfl rfl (by decide) rfl ?_
      refine jd_goto (pc := 58) 15 dX8_pairsIn_58 (by decide) ?_
      exact jd_lv (lv2 := [(0, .ref (gb G + t)), (1, .int x1), (2, .int (x2 ||| (1 <<< (v3 &&& 31)))), (3, .int x3), (4, .int (x4 + 1))]) [2, 3, 1, 4, 0] rfl h
theorem eX8_pairsIn {G : jdG} {n : Nat} {Z : jdL} {I : jdI} {J : jdJ} {K : Int32 → jdI → jdJ → Prop} {t : Nat} {x1 : Int32} (ht : zTies Z t) (h : Jd G mX8_pairsIn (jdFm G (qi Z K)) (n + 1) 0 0 4 [(0, .ref (gb G + t)), (1, .int x1), (2, .int 0), (3, .int 1)] [] Z I J) : Cl G mX8_pairsIn (n + 1) 0 0 [.ref (gb G + t), .int x1] Z I J (qi Z K) :=
  Cl.of (by decide +kernel) (Nat.le_of_ble_eq_true rfl) (rX8_pairsIn_0 ht h)
set_option maxRecDepth 4000 in
theorem rX8_listPairs_0 {G : jdG} {n rc rs : Nat} {Z : jdL} {I : jdI} {J : jdJ} {K : Int32 → jdI → jdJ → Prop} {t : Nat} {x1 : Int32} (ht : zTies Z t) (h : Jd G mX8_listPairs (jdFm G (qi Z K)) (n + 1) rc rs 4 [(0, .ref (gb G + t)), (1, .int x1), (2, .int 0), (3, .int 0)] [] Z I J) : Jd G mX8_listPairs (jdFm G (qi Z K)) (n + 1) rc rs 0 [(0, .ref (gb G + t)), (1, .int x1)] [] Z I J := by
  refine jd_iconst (pc := 0) (v := 0) dX8_listPairs_0 (by decide) ?_
  refine jd_istore_n (pc := 1) [(2, .int 0), (0, .ref (gb G + t)), (1, .int x1)] dX8_listPairs_1 rfl (by decide) rfl ?_
  refine jd_iconst (pc := 2) (v := 0) dX8_listPairs_2 (by decide) ?_
  refine jd_istore_n (pc := 3) [(3, .int 0), (2, .int 0), (0, .ref (gb G + t)), (1, .int x1)] dX8_listPairs_3 rfl (by decide) rfl ?_
  exact jd_lv (lv2 := [(0, .ref (gb G + t)), (1, .int x1), (2, .int 0), (3, .int 0)]) [2, 3, 1, 0] rfl h
set_option maxRecDepth 4000 in
theorem rX8_listPairs_4 {G : jdG} {n rc rs : Nat} {Z : jdL} {I : jdI} {J : jdJ} {K : Int32 → jdI → jdJ → Prop} {t : Nat} {x1 : Int32} {x2 : Int32} {x3 : Int32} (ht : zTies Z t) (h : (((I t 8) ≤ x3 → K x2 I J) ∧ (¬ (I t 8) ≤ x3 → (vp_in x3 70 ∧ (vp_in x3 70 ∧ ((¬ ((I (t + 3) (Int32.toNatClampNeg x3)) &&& x1) = (I (t + 3) (Int32.toNatClampNeg x3)) → Jd G mX8_listPairs (jdFm G (qi Z K)) (n + 1) rc rs 4 [(0, .ref (gb G + t)), (1, .int x1), (2, .int x2), (3, .int (x3 + 1))] [] Z I J) ∧ (((I (t + 3) (Int32.toNatClampNeg x3)) &&& x1) = (I (t + 3) (Int32.toNatClampNeg x3)) → (vp_in x3 70 ∧ Cl G mX8_pairsIn n 0 0 [.ref (gb G + t), .int (I (t + 3) (Int32.toNatClampNeg x3))] Z I J (qi Z (fun v5 I4 J4 => (vp_in x2 70 ∧ Jd G mX8_listPairs (jdFm G (qi Z K)) (n + 1) rc rs 4 [(0, .ref (gb G + t)), (1, .int x1), (2, .int (x2 + 1)), (3, .int (x3 + 1))] [] Z (uI I4 (t + 4) (Int32.toNatClampNeg x2) v5) J4))))))))))) : Jd G mX8_listPairs (jdFm G (qi Z K)) (n + 1) rc rs 4 [(0, .ref (gb G + t)), (1, .int x1), (2, .int x2), (3, .int x3)] [] Z I J := by
  refine jd_iload_n (pc := 4) 3 dX8_listPairs_4 rfl rfl ?_
  refine jd_aload_n (pc := 5) 0 dX8_listPairs_5 rfl rfl ?_
  refine jd_getI (pc := 6) (ci := 7) (k := 8) gX8_53 ht.1 rfl dX8_listPairs_6 ?_
  refine jd_icmp_ge (pc := 9) 54 dX8_listPairs_9 (by decide) (fun hc => ?_) (fun hc => ?_)
  · have h := h.1 hc
    refine jd_iload_n (pc := 54) 2 dX8_listPairs_54 rfl rfl ?_
    exact jd_iretK (pc := 55) rfl rfl dX8_listPairs_55 h
  · have h := h.2 hc
    refine jd_aload_n (pc := 12) 0 dX8_listPairs_12 rfl rfl ?_
    refine jd_getR (pc := 13) (ci := 7) (k := 2) (r := (t + 3)) gX8_18 ht.1 rfl (zTies_p2 ht) dX8_listPairs_13 ?_
    refine jd_iload_n (pc := 16) 3 dX8_listPairs_16 rfl rfl ?_
    obtain ⟨hv1, h⟩ := h
    refine jd_iald (pc := 17) (len := 70) (zTies_a2 ht) hv1 dX8_listPairs_17 ?_
    refine jd_iload_n (pc := 18) 1 dX8_listPairs_18 rfl rfl ?_
    refine jd_iand (pc := 19) dX8_listPairs_19 ?_
    refine jd_aload_n (pc := 20) 0 dX8_listPairs_20 rfl rfl ?_
    refine jd_getR (pc := 21) (ci := 7) (k := 2) (r := (t + 3)) gX8_18 ht.1 rfl (zTies_p2 ht) dX8_listPairs_21 ?_
    refine jd_iload_n (pc := 24) 3 dX8_listPairs_24 rfl rfl ?_
    obtain ⟨hv2, h⟩ := h
    refine jd_iald (pc := 25) (len := 70) (zTies_a2 ht) hv2 dX8_listPairs_25 ?_
    refine jd_icmp_ne (pc := 26) 48 dX8_listPairs_26 (by decide) (fun hc => ?_) (fun hc => ?_)
    · have h := h.1 hc
      refine jd_iinc (pc := 48) (v := (x3 + 1)) 3 [(3, .int (x3 + 1)), (0, .ref (gb G + t)), (1, .int x1), (2, .int x2)] dX8_listPairs_48 rfl rfl (by decide) rfl ?_
      refine jd_goto (pc := 51) 4 dX8_listPairs_51 (by decide) ?_
      exact jd_lv (lv2 := [(0, .ref (gb G + t)), (1, .int x1), (2, .int x2), (3, .int (x3 + 1))]) [1, 2, 3, 0] rfl h
    · have h := h.2 hc
      refine jd_aload_n (pc := 29) 0 dX8_listPairs_29 rfl rfl ?_
      refine jd_getR (pc := 30) (ci := 7) (k := 3) (r := (t + 4)) gX8_21 ht.1 rfl (zTies_p3 ht) dX8_listPairs_30 ?_
      refine jd_iload_n (pc := 33) 2 dX8_listPairs_33 rfl rfl ?_
      refine jd_aload_n (pc := 34) 0 dX8_listPairs_34 rfl rfl ?_
      refine jd_aload_n (pc := 35) 0 dX8_listPairs_35 rfl rfl ?_
      refine jd_getR (pc := 36) (ci := 7) (k := 2) (r := (t + 3)) gX8_18 ht.1 rfl (zTies_p2 ht) dX8_listPairs_36 ?_
      refine jd_iload_n (pc := 39) 3 dX8_listPairs_39 rfl rfl ?_
      obtain ⟨hv3, h⟩ := h
      refine jd_iald (pc := 40) (len := 70) (zTies_a2 ht) hv3 dX8_listPairs_40 ?_
      refine jd_callVi (pc := 41) (M2 := mX8_pairsIn) (id := t) (ci := 7) (T := TX8) (N := 11) (av := [.int (I (t + 3) (Int32.toNatClampNeg x3))]) kX8_pairsIn sX8_pairsIn rfl ht.1 lX8_85 rfl rfl (Nat.le_of_ble_eq_true rfl) dX8_listPairs_41 h ?_
      intro v5 I4 J4 h
      obtain ⟨hv6, h⟩ := h
      refine jd_iast (pc := 44) (len := 70) (zTies_a3 ht) hv6 dX8_listPairs_44 ?_
      refine jd_iinc (pc := 45) (v := (x2 + 1)) 2 [(2, .int (x2 + 1)), (0, .ref (gb G + t)), (1, .int x1), (3, .int x3)] dX8_listPairs_45 rfl rfl (by decide) rfl ?_
      refine jd_iinc (pc := 48) (v := (x3 + 1)) 3 [(3, .int (x3 + 1)), (2, .int (x2 + 1)), (0, .ref (gb G + t)), (1, .int x1)] dX8_listPairs_48 rfl rfl (by decide) rfl ?_
      refine jd_goto (pc := 51) 4 dX8_listPairs_51 (by decide) ?_
      exact jd_lv (lv2 := [(0, .ref (gb G + t)), (1, .int x1), (2, .int (x2 + 1)), (3, .int (x3 + 1))]) [2, 3, 1, 0] rfl h
theorem eX8_listPairs {G : jdG} {n : Nat} {Z : jdL} {I : jdI} {J : jdJ} {K : Int32 → jdI → jdJ → Prop} {t : Nat} {x1 : Int32} (ht : zTies Z t) (h : Jd G mX8_listPairs (jdFm G (qi Z K)) (n + 1) 0 0 4 [(0, .ref (gb G + t)), (1, .int x1), (2, .int 0), (3, .int 0)] [] Z I J) : Cl G mX8_listPairs (n + 1) 0 0 [.ref (gb G + t), .int x1] Z I J (qi Z K) :=
  Cl.of (by decide +kernel) (Nat.le_of_ble_eq_true rfl) (rX8_listPairs_0 ht h)
set_option maxRecDepth 4000 in
theorem rX8_longest_0 {G : jdG} {n rc rs : Nat} {Z : jdL} {I : jdI} {J : jdJ} {K : Int32 → jdI → jdJ → Prop} {t : Nat} (ht : zTies Z t) (h : ((¬ (I t 7) = 2 → Cl G mX8_everybody n 0 0 [.ref (gb G + t)] Z I J (qi Z (fun v2 I1 J1 => Cl G mX8_listPairs n 0 0 [.ref (gb G + t), .int v2] Z I1 J1 (qi Z (fun v4 I3 J3 => Cl G mX8_everybody n 0 0 [.ref (gb G + t)] Z (uI I3 t 9 0) J3 (qi Z (fun v6 I5 J5 => Cl G mX8_pairsIn n 0 0 [.ref (gb G + t), .int v6] Z I5 J5 (qi Z (fun v8 I7 J7 => Cl G mX8_lengthen n 0 0 [.ref (gb G + t), .int v8, .int 0, .int 0] Z I7 J7 (qv Z (fun I9 J9 => K (I9 t 9) I9 J9))))))))))) ∧ ((I t 7) = 2 → K (I t 8) I J))) : Jd G mX8_longest (jdFm G (qi Z K)) (n + 1) rc rs 0 [(0, .ref (gb G + t))] [] Z I J := by
  refine jd_aload_n (pc := 0) 0 dX8_longest_0 rfl rfl ?_
  refine jd_getI (pc := 1) (ci := 7) (k := 7) gX8_40 ht.1 rfl dX8_longest_1 ?_
  refine jd_iconst (pc := 4) (v := 2) dX8_longest_4 (by decide) ?_
  refine jd_icmp_ne (pc := 5) 13 dX8_longest_5 (by decide) (fun hc => ?_) (fun hc => ?_)
  · have h := h.1 hc
    refine jd_aload_n (pc := 13) 0 dX8_longest_13 rfl rfl ?_
    refine jd_aload_n (pc := 14) 0 dX8_longest_14 rfl rfl ?_
    refine jd_callVi (pc := 15) (M2 := mX8_everybody) (id := t) (ci := 7) (T := TX8) (N := 11) (av := []) kX8_everybody sX8_everybody rfl ht.1 lX8_49 rfl rfl (Nat.le_of_ble_eq_true rfl) dX8_longest_15 h ?_
    intro v2 I1 J1 h
    refine jd_callVi (pc := 18) (M2 := mX8_listPairs) (id := t) (ci := 7) (T := TX8) (N := 11) (av := [.int v2]) kX8_listPairs sX8_listPairs rfl ht.1 lX8_88 rfl rfl (Nat.le_of_ble_eq_true rfl) dX8_longest_18 h ?_
    intro v4 I3 J3 h
    refine jd_pop (pc := 21) dX8_longest_21 rfl ?_
    refine jd_aload_n (pc := 22) 0 dX8_longest_22 rfl rfl ?_
    refine jd_iconst (pc := 23) (v := 0) dX8_longest_23 (by decide) ?_
    refine jd_putI (pc := 24) (ci := 7) (k := 9) pX8_91 ht.1 rfl rfl rfl dX8_longest_24 ?_
    refine jd_aload_n (pc := 27) 0 dX8_longest_27 rfl rfl ?_
    refine jd_aload_n (pc := 28) 0 dX8_longest_28 rfl rfl ?_
    refine jd_aload_n (pc := 29) 0 dX8_longest_29 rfl rfl ?_
    refine jd_callVi (pc := 30) (M2 := mX8_everybody) (id := t) (ci := 7) (T := TX8) (N := 11) (av := []) kX8_everybody sX8_everybody rfl ht.1 lX8_49 rfl rfl (Nat.le_of_ble_eq_true rfl) dX8_longest_30 h ?_
    intro v6 I5 J5 h
    refine jd_callVi (pc := 33) (M2 := mX8_pairsIn) (id := t) (ci := 7) (T := TX8) (N := 11) (av := [.int v6]) kX8_pairsIn sX8_pairsIn rfl ht.1 lX8_85 rfl rfl (Nat.le_of_ble_eq_true rfl) dX8_longest_33 h ?_
    intro v8 I7 J7 h
    refine jd_iconst (pc := 36) (v := 0) dX8_longest_36 (by decide) ?_
    refine jd_iconst (pc := 37) (v := 0) dX8_longest_37 (by decide) ?_
    refine jd_callVv (pc := 38) (M2 := mX8_lengthen) (id := t) (ci := 7) (T := TX8) (N := 11) (av := [.int v8, .int 0, .int 0]) kX8_lengthen sX8_lengthen rfl ht.1 lX8_94 rfl rfl (Nat.le_of_ble_eq_true rfl) dX8_longest_38 h ?_
    intro I9 J9 h
    refine jd_aload_n (pc := 41) 0 dX8_longest_41 rfl rfl ?_
    refine jd_getI (pc := 42) (ci := 7) (k := 9) gX8_91 ht.1 rfl dX8_longest_42 ?_
    exact jd_iretK (pc := 45) rfl rfl dX8_longest_45 h
  · have h := h.2 hc
    refine jd_aload_n (pc := 8) 0 dX8_longest_8 rfl rfl ?_
    refine jd_getI (pc := 9) (ci := 7) (k := 8) gX8_53 ht.1 rfl dX8_longest_9 ?_
    exact jd_iretK (pc := 12) rfl rfl dX8_longest_12 h
theorem eX8_longest {G : jdG} {n : Nat} {Z : jdL} {I : jdI} {J : jdJ} {K : Int32 → jdI → jdJ → Prop} {t : Nat} (ht : zTies Z t) (h : ((¬ (I t 7) = 2 → Cl G mX8_everybody n 0 0 [.ref (gb G + t)] Z I J (qi Z (fun v2 I1 J1 => Cl G mX8_listPairs n 0 0 [.ref (gb G + t), .int v2] Z I1 J1 (qi Z (fun v4 I3 J3 => Cl G mX8_everybody n 0 0 [.ref (gb G + t)] Z (uI I3 t 9 0) J3 (qi Z (fun v6 I5 J5 => Cl G mX8_pairsIn n 0 0 [.ref (gb G + t), .int v6] Z I5 J5 (qi Z (fun v8 I7 J7 => Cl G mX8_lengthen n 0 0 [.ref (gb G + t), .int v8, .int 0, .int 0] Z I7 J7 (qv Z (fun I9 J9 => K (I9 t 9) I9 J9))))))))))) ∧ ((I t 7) = 2 → K (I t 8) I J))) : Cl G mX8_longest (n + 1) 0 0 [.ref (gb G + t)] Z I J (qi Z K) :=
  Cl.of (by decide +kernel) (Nat.le_of_ble_eq_true rfl) (rX8_longest_0 ht h)
set_option maxRecDepth 4000 in
theorem rX8_lengthen_0 {G : jdG} {n rc rs : Nat} {Z : jdL} {I : jdI} {J : jdJ} {K : jdI → jdJ → Prop} {t : Nat} {x1 : Int32} {x2 : Int32} {x3 : Int32} (ht : zTies Z t) (h : ((x3 < 28 → Jd G mX8_lengthen (jdFm G (qv Z K)) (n + 1) rc rs 37 [(0, .ref (gb G + t)), (1, .int x1), (2, .int x2), (3, .int x3), (4, .int (((I t 7) * ((I t 7) - 1)) / 2)), (5, .int x2)] [] Z (uI I t 9 (if (I t 9) < x3 then x3 else (I t 9))) J) ∧ (¬ x3 < 28 → K (uI I t 9 (if (I t 9) < x3 then x3 else (I t 9))) J))) : Jd G mX8_lengthen (jdFm G (qv Z K)) (n + 1) rc rs 0 [(0, .ref (gb G + t)), (1, .int x1), (2, .int x2), (3, .int x3)] [] Z I J := by
  refine jd_aload_n (pc := 0) 0 dX8_lengthen_0 rfl rfl ?_
  refine jd_aload_n (pc := 1) 0 dX8_lengthen_1 rfl rfl ?_
  refine jd_getI (pc := 2) (ci := 7) (k := 9) gX8_91 ht.1 rfl dX8_lengthen_2 ?_
  refine jd_iload_n (pc := 5) 3 dX8_lengthen_5 rfl rfl ?_
  refine jd_max (pc := 6) xX8_97 (Nat.le_of_ble_eq_true rfl) dX8_lengthen_6 ?_
  refine jd_putI (pc := 9) (ci := 7) (k := 9) pX8_91 ht.1 rfl rfl rfl dX8_lengthen_9 ?_
  refine jd_iload_n (pc := 12) 3 dX8_lengthen_12 rfl rfl ?_
  refine jd_bipush (pc := 13) (v := 28) dX8_lengthen_13 (by decide) ?_
  refine jd_icmp_lt (pc := 15) 19 dX8_lengthen_15 (by decide) (fun hc => ?_) (fun hc => ?_)
  · have h := h.1 hc
    refine jd_aload_n (pc := 19) 0 dX8_lengthen_19 rfl rfl ?_
    refine jd_getIe (pc := 20) (ci := 7) (k := 7) (e := (I t 7)) (uI_sk (by decide) rfl) gX8_40 ht.1 rfl dX8_lengthen_20 ?_
    refine jd_aload_n (pc := 23) 0 dX8_lengthen_23 rfl rfl ?_
    refine jd_getIe (pc := 24) (ci := 7) (k := 7) (e := (I t 7)) (uI_sk (by decide) rfl) gX8_40 ht.1 rfl dX8_lengthen_24 ?_
    refine jd_iconst (pc := 27) (v := 1) dX8_lengthen_27 (by decide) ?_
    refine jd_isub (pc := 28) dX8_lengthen_28 ?_
    refine jd_imul (pc := 29) dX8_lengthen_29 ?_
    refine jd_iconst (pc := 30) (v := 2) dX8_lengthen_30 (by decide) ?_
    refine jd_idiv (pc := 31) dX8_lengthen_31 (by decide) ?_
    refine jd_istore (pc := 32) [(4, .int (((I t 7) * ((I t 7) - 1)) / 2)), (0, .ref (gb G + t)), (1, .int x1), (2, .int x2), (3, .int x3)] dX8_lengthen_32 (by decide) rfl ?_
    refine jd_iload_n (pc := 34) 3 dX8_lengthen_34 rfl rfl ?_
    refine jd_istore (pc := 35) [(5, .int x2), (4, .int (((I t 7) * ((I t 7) - 1)) / 2)), (0, .ref (gb G + t)), (1, .int x1), (2, .int x2), (3, .int x3)] dX8_lengthen_35 (by decide) rfl ?_
    exact jd_lv (lv2 := [(0, .ref (gb G + t)), (1, .int x1), (2, .int x2), (3, .int x3), (4, .int (((I t 7) * ((I t 7) - 1)) / 2)), (5, .int x2)]) [2, 3, 4, 5, 1, 0] rfl h
  · have h := h.2 hc
    exact jd_vretK (pc := 18) rfl dX8_lengthen_18 h
set_option maxRecDepth 4000 in
theorem rX8_lengthen_37 {G : jdG} {n rc rs : Nat} {Z : jdL} {I : jdI} {J : jdJ} {K : jdI → jdJ → Prop} {t : Nat} {x1 : Int32} {x2 : Int32} {x3 : Int32} {x4 : Int32} {x5 : Int32} (ht : zTies Z t) (h : (((I t 8) ≤ x5 → K I J) ∧ (¬ (I t 8) ≤ x5 → Cl G mJ6_bitCount_0f7a4 n 0 0 [.int x1] Z I J (qi Z (fun v2 I1 J1 => ((((((I t 9) + 1) - x3) * x4) ≤ v2 → (vp_in x5 70 ∧ (vp_in x5 70 ∧ ((¬ ((I1 (t + 4) (Int32.toNatClampNeg x5)) &&& x1) = (I1 (t + 4) (Int32.toNatClampNeg x5)) → Jd G mX8_lengthen (jdFm G (qv Z K)) (n + 1) rc rs 37 [(0, .ref (gb G + t)), (1, .int x1), (2, .int x2), (3, .int x3), (4, .int x4), (5, .int (x5 + 1))] [] Z I1 J1) ∧ (((I1 (t + 4) (Int32.toNatClampNeg x5)) &&& x1) = (I1 (t + 4) (Int32.toNatClampNeg x5)) → (vp_in x5 70 ∧ Cl G mX8_lengthen n 0 0 [.ref (gb G + t), .int (x1 &&& ((I1 (t + 4) (Int32.toNatClampNeg x5)) ^^^ (-1))), .int (x5 + 1), .int (x3 + 1)] Z I1 J1 (qv Z (fun I6 J6 => Jd G mX8_lengthen (jdFm G (qv Z K)) (n + 1) rc rs 37 [(0, .ref (gb G + t)), (1, .int x1), (2, .int x2), (3, .int x3), (4, .int x4), (5, .int (x5 + 1))] [] Z I6 J6)))))))) ∧ (¬ ((((I t 9) + 1) - x3) * x4) ≤ v2 → K I1 J1))))))) : Jd G mX8_lengthen (jdFm G (qv Z K)) (n + 1) rc rs 37 [(0, .ref (gb G + t)), (1, .int x1), (2, .int x2), (3, .int x3), (4, .int x4), (5, .int x5)] [] Z I J := by
  refine jd_iload (pc := 37) 5 dX8_lengthen_37 rfl ?_
  refine jd_aload_n (pc := 39) 0 dX8_lengthen_39 rfl rfl ?_
  refine jd_getI (pc := 40) (ci := 7) (k := 8) gX8_53 ht.1 rfl dX8_lengthen_40 ?_
  refine jd_icmp_ge (pc := 43) 112 dX8_lengthen_43 (by decide) (fun hc => ?_) (fun hc => ?_)
  · have h := h.1 hc
    exact jd_vretK (pc := 112) rfl dX8_lengthen_112 h
  · have h := h.2 hc
    refine jd_aload_n (pc := 46) 0 dX8_lengthen_46 rfl rfl ?_
    refine jd_getI (pc := 47) (ci := 7) (k := 9) gX8_91 ht.1 rfl dX8_lengthen_47 ?_
    refine jd_iconst (pc := 50) (v := 1) dX8_lengthen_50 (by decide) ?_
    refine jd_iadd (pc := 51) dX8_lengthen_51 ?_
    refine jd_iload_n (pc := 52) 3 dX8_lengthen_52 rfl rfl ?_
    refine jd_isub (pc := 53) dX8_lengthen_53 ?_
    refine jd_iload (pc := 54) 4 dX8_lengthen_54 rfl ?_
    refine jd_imul (pc := 56) dX8_lengthen_56 ?_
    refine jd_iload_n (pc := 57) 1 dX8_lengthen_57 rfl rfl ?_
    refine jd_callSi (pc := 58) (M2 := mJ6_bitCount_0f7a4) (av := [.int x1]) kJ6_bitCount_0f7a4 sJ6_bitCount_0f7a4 lX8_73 rfl rfl (Nat.le_of_ble_eq_true rfl) dX8_lengthen_58 h ?_
    intro v2 I1 J1 h
    refine jd_icmp_le (pc := 61) 65 dX8_lengthen_61 (by decide) (fun hc => ?_) (fun hc => ?_)
    · have h := h.1 hc
      refine jd_aload_n (pc := 65) 0 dX8_lengthen_65 rfl rfl ?_
      refine jd_getR (pc := 66) (ci := 7) (k := 3) (r := (t + 4)) gX8_21 ht.1 rfl (zTies_p3 ht) dX8_lengthen_66 ?_
      refine jd_iload (pc := 69) 5 dX8_lengthen_69 rfl ?_
      obtain ⟨hv3, h⟩ := h
      refine jd_iald (pc := 71) (len := 70) (zTies_a3 ht) hv3 dX8_lengthen_71 ?_
      refine jd_iload_n (pc := 72) 1 dX8_lengthen_72 rfl rfl ?_
      refine jd_iand (pc := 73) dX8_lengthen_73 ?_
      refine jd_aload_n (pc := 74) 0 dX8_lengthen_74 rfl rfl ?_
      refine jd_getR (pc := 75) (ci := 7) (k := 3) (r := (t + 4)) gX8_21 ht.1 rfl (zTies_p3 ht) dX8_lengthen_75 ?_
      refine jd_iload (pc := 78) 5 dX8_lengthen_78 rfl ?_
      obtain ⟨hv4, h⟩ := h
      refine jd_iald (pc := 80) (len := 70) (zTies_a3 ht) hv4 dX8_lengthen_80 ?_
      refine jd_icmp_ne (pc := 81) 106 dX8_lengthen_81 (by decide) (fun hc => ?_) (fun hc => ?_)
      · have h := h.1 hc
        refine jd_iinc (pc := 106) (v := (x5 + 1)) 5 [(5, .int (x5 + 1)), (0, .ref (gb G + t)), (1, .int x1), (2, .int x2), (3, .int x3), (4, .int x4)] dX8_lengthen_106 rfl rfl (by decide) rfl ?_
        refine jd_goto (pc := 109) 37 dX8_lengthen_109 (by decide) ?_
        exact jd_lv (lv2 := [(0, .ref (gb G + t)), (1, .int x1), (2, .int x2), (3, .int x3), (4, .int x4), (5, .int (x5 + 1))]) [1, 2, 3, 4, 5, 0] rfl h
      · have h := h.2 hc
        refine jd_aload_n (pc := 84) 0 dX8_lengthen_84 rfl rfl ?_
        refine jd_iload_n (pc := 85) 1 dX8_lengthen_85 rfl rfl ?_
        refine jd_aload_n (pc := 86) 0 dX8_lengthen_86 rfl rfl ?_
        refine jd_getR (pc := 87) (ci := 7) (k := 3) (r := (t + 4)) gX8_21 ht.1 rfl (zTies_p3 ht) dX8_lengthen_87 ?_
        refine jd_iload (pc := 90) 5 dX8_lengthen_90 rfl ?_
        obtain ⟨hv5, h⟩ := h
        refine jd_iald (pc := 92) (len := 70) (zTies_a3 ht) hv5 dX8_lengthen_92 ?_
        refine jd_iconst (pc := 93) (v := (-1)) dX8_lengthen_93 (by decide) ?_
        refine jd_ixor (pc := 94) dX8_lengthen_94 ?_
        refine jd_iand (pc := 95) dX8_lengthen_95 ?_
        refine jd_iload (pc := 96) 5 dX8_lengthen_96 rfl ?_
        refine jd_iconst (pc := 98) (v := 1) dX8_lengthen_98 (by decide) ?_
        refine jd_iadd (pc := 99) dX8_lengthen_99 ?_
        refine jd_iload_n (pc := 100) 3 dX8_lengthen_100 rfl rfl ?_
        refine jd_iconst (pc := 101) (v := 1) dX8_lengthen_101 (by decide) ?_
        refine jd_iadd (pc := 102) dX8_lengthen_102 ?_
        refine jd_callVv (pc := 103) (M2 := mX8_lengthen) (id := t) (ci := 7) (T := TX8) (N := 11) (av := [.int (x1 &&& ((I1 (t + 4) (Int32.toNatClampNeg x5)) ^^^ (-1))), .int (x5 + 1), .int (x3 + 1)]) kX8_lengthen sX8_lengthen rfl ht.1 lX8_94 rfl rfl (Nat.le_of_ble_eq_true rfl) dX8_lengthen_103 h ?_
        intro I6 J6 h
        refine jd_iinc (pc := 106) (v := (x5 + 1)) 5 [(5, .int (x5 + 1)), (0, .ref (gb G + t)), (1, .int x1), (2, .int x2), (3, .int x3), (4, .int x4)] dX8_lengthen_106 rfl rfl (by decide) rfl ?_
        refine jd_goto (pc := 109) 37 dX8_lengthen_109 (by decide) ?_
        exact jd_lv (lv2 := [(0, .ref (gb G + t)), (1, .int x1), (2, .int x2), (3, .int x3), (4, .int x4), (5, .int (x5 + 1))]) [1, 2, 3, 4, 5, 0] rfl h
    · have h := h.2 hc
      exact jd_vretK (pc := 64) rfl dX8_lengthen_64 h
theorem eX8_lengthen {G : jdG} {n : Nat} {Z : jdL} {I : jdI} {J : jdJ} {K : jdI → jdJ → Prop} {t : Nat} {x1 : Int32} {x2 : Int32} {x3 : Int32} (ht : zTies Z t) (h : ((x3 < 28 → Jd G mX8_lengthen (jdFm G (qv Z K)) (n + 1) 0 0 37 [(0, .ref (gb G + t)), (1, .int x1), (2, .int x2), (3, .int x3), (4, .int (((I t 7) * ((I t 7) - 1)) / 2)), (5, .int x2)] [] Z (uI I t 9 (if (I t 9) < x3 then x3 else (I t 9))) J) ∧ (¬ x3 < 28 → K (uI I t 9 (if (I t 9) < x3 then x3 else (I t 9))) J))) : Cl G mX8_lengthen (n + 1) 0 0 [.ref (gb G + t), .int x1, .int x2, .int x3] Z I J (qv Z K) :=
  Cl.of (by decide +kernel) (Nat.le_of_ble_eq_true rfl) (rX8_lengthen_0 ht h)
set_option maxRecDepth 4000 in
theorem rX8_soonest_0 {G : jdG} {n rc rs : Nat} {Z : jdL} {I : jdI} {J : jdJ} {K : Int32 → jdI → jdJ → Prop} {t : Nat} (ht : zTies Z t) (h : ((¬ (I t 7) = 2 → Cl G mX8_everybody n 0 0 [.ref (gb G + t)] Z I J (qi Z (fun v2 I1 J1 => Cl G mX8_listPairs n 0 0 [.ref (gb G + t), .int v2] Z I1 J1 (qi Z (fun v4 I3 J3 => Cl G mX8_everybody n 0 0 [.ref (gb G + t)] Z (uI I3 t 9 28) J3 (qi Z (fun v6 I5 J5 => Cl G mX8_pairsIn n 0 0 [.ref (gb G + t), .int v6] Z I5 J5 (qi Z (fun v8 I7 J7 => Cl G mX8_finish n 0 0 [.ref (gb G + t), .int v8, .long 0, .int 0] Z I7 J7 (qv Z (fun I9 J9 => K (I9 t 9) I9 J9))))))))))) ∧ ((I t 7) = 2 → K (I t 8) I J))) : Jd G mX8_soonest (jdFm G (qi Z K)) (n + 1) rc rs 0 [(0, .ref (gb G + t))] [] Z I J := by
  refine jd_aload_n (pc := 0) 0 dX8_soonest_0 rfl rfl ?_
  refine jd_getI (pc := 1) (ci := 7) (k := 7) gX8_40 ht.1 rfl dX8_soonest_1 ?_
  refine jd_iconst (pc := 4) (v := 2) dX8_soonest_4 (by decide) ?_
  refine jd_icmp_ne (pc := 5) 13 dX8_soonest_5 (by decide) (fun hc => ?_) (fun hc => ?_)
  · have h := h.1 hc
    refine jd_aload_n (pc := 13) 0 dX8_soonest_13 rfl rfl ?_
    refine jd_aload_n (pc := 14) 0 dX8_soonest_14 rfl rfl ?_
    refine jd_callVi (pc := 15) (M2 := mX8_everybody) (id := t) (ci := 7) (T := TX8) (N := 11) (av := []) kX8_everybody sX8_everybody rfl ht.1 lX8_49 rfl rfl (Nat.le_of_ble_eq_true rfl) dX8_soonest_15 h ?_
    intro v2 I1 J1 h
    refine jd_callVi (pc := 18) (M2 := mX8_listPairs) (id := t) (ci := 7) (T := TX8) (N := 11) (av := [.int v2]) kX8_listPairs sX8_listPairs rfl ht.1 lX8_88 rfl rfl (Nat.le_of_ble_eq_true rfl) dX8_soonest_18 h ?_
    intro v4 I3 J3 h
    refine jd_pop (pc := 21) dX8_soonest_21 rfl ?_
    refine jd_aload_n (pc := 22) 0 dX8_soonest_22 rfl rfl ?_
    refine jd_bipush (pc := 23) (v := 28) dX8_soonest_23 (by decide) ?_
    refine jd_putI (pc := 25) (ci := 7) (k := 9) pX8_91 ht.1 rfl rfl rfl dX8_soonest_25 ?_
    refine jd_aload_n (pc := 28) 0 dX8_soonest_28 rfl rfl ?_
    refine jd_aload_n (pc := 29) 0 dX8_soonest_29 rfl rfl ?_
    refine jd_aload_n (pc := 30) 0 dX8_soonest_30 rfl rfl ?_
    refine jd_callVi (pc := 31) (M2 := mX8_everybody) (id := t) (ci := 7) (T := TX8) (N := 11) (av := []) kX8_everybody sX8_everybody rfl ht.1 lX8_49 rfl rfl (Nat.le_of_ble_eq_true rfl) dX8_soonest_31 h ?_
    intro v6 I5 J5 h
    refine jd_callVi (pc := 34) (M2 := mX8_pairsIn) (id := t) (ci := 7) (T := TX8) (N := 11) (av := [.int v6]) kX8_pairsIn sX8_pairsIn rfl ht.1 lX8_85 rfl rfl (Nat.le_of_ble_eq_true rfl) dX8_soonest_34 h ?_
    intro v8 I7 J7 h
    refine jd_lconst (pc := 37) (v := 0) dX8_soonest_37 (by decide) ?_
    refine jd_iconst (pc := 38) (v := 0) dX8_soonest_38 (by decide) ?_
    refine jd_callVv (pc := 39) (M2 := mX8_finish) (id := t) (ci := 7) (T := TX8) (N := 11) (av := [.int v8, .long 0, .int 0]) kX8_finish sX8_finish rfl ht.1 lX8_102 rfl rfl (Nat.le_of_ble_eq_true rfl) dX8_soonest_39 h ?_
    intro I9 J9 h
    refine jd_aload_n (pc := 42) 0 dX8_soonest_42 rfl rfl ?_
    refine jd_getI (pc := 43) (ci := 7) (k := 9) gX8_91 ht.1 rfl dX8_soonest_43 ?_
    exact jd_iretK (pc := 46) rfl rfl dX8_soonest_46 h
  · have h := h.2 hc
    refine jd_aload_n (pc := 8) 0 dX8_soonest_8 rfl rfl ?_
    refine jd_getI (pc := 9) (ci := 7) (k := 8) gX8_53 ht.1 rfl dX8_soonest_9 ?_
    exact jd_iretK (pc := 12) rfl rfl dX8_soonest_12 h
theorem eX8_soonest {G : jdG} {n : Nat} {Z : jdL} {I : jdI} {J : jdJ} {K : Int32 → jdI → jdJ → Prop} {t : Nat} (ht : zTies Z t) (h : ((¬ (I t 7) = 2 → Cl G mX8_everybody n 0 0 [.ref (gb G + t)] Z I J (qi Z (fun v2 I1 J1 => Cl G mX8_listPairs n 0 0 [.ref (gb G + t), .int v2] Z I1 J1 (qi Z (fun v4 I3 J3 => Cl G mX8_everybody n 0 0 [.ref (gb G + t)] Z (uI I3 t 9 28) J3 (qi Z (fun v6 I5 J5 => Cl G mX8_pairsIn n 0 0 [.ref (gb G + t), .int v6] Z I5 J5 (qi Z (fun v8 I7 J7 => Cl G mX8_finish n 0 0 [.ref (gb G + t), .int v8, .long 0, .int 0] Z I7 J7 (qv Z (fun I9 J9 => K (I9 t 9) I9 J9))))))))))) ∧ ((I t 7) = 2 → K (I t 8) I J))) : Cl G mX8_soonest (n + 1) 0 0 [.ref (gb G + t)] Z I J (qi Z K) :=
  Cl.of (by decide +kernel) (Nat.le_of_ble_eq_true rfl) (rX8_soonest_0 ht h)
set_option maxRecDepth 4000 in
theorem rX8_finish_0 {G : jdG} {n rc rs : Nat} {Z : jdL} {I : jdI} {J : jdJ} {K : jdI → jdJ → Prop} {t : Nat} {x1 : Int32} {y2 : Int64} {x4 : Int32} (ht : zTies Z t) (h : Cl G mX8_firstPossible n 0 0 [.ref (gb G + t), .int x1] Z I J (qi Z (fun v2 I1 J1 => ((¬ v2 = (-1) → Jd G mX8_finish (jdFm G (qv Z K)) (n + 1) rc rs 34 [(0, .ref (gb G + t)), (1, .int x1), (2, .long y2), (4, .int x4), (5, .int v2), (6, .long y2), (8, .int v2)] [] Z I1 J1) ∧ (v2 = (-1) → K (uI I1 t 9 (if x4 < (I1 t 9) then x4 else (I1 t 9))) J1))))) : Jd G mX8_finish (jdFm G (qv Z K)) (n + 1) rc rs 0 [(0, .ref (gb G + t)), (1, .int x1), (2, .long y2), (4, .int x4)] [] Z I J := by
  refine jd_aload_n (pc := 0) 0 dX8_finish_0 rfl rfl ?_
  refine jd_iload_n (pc := 1) 1 dX8_finish_1 rfl rfl ?_
  refine jd_callVi (pc := 2) (M2 := mX8_firstPossible) (id := t) (ci := 7) (T := TX8) (N := 11) (av := [.int x1]) kX8_firstPossible sX8_firstPossible rfl ht.1 lX8_106 rfl rfl (Nat.le_of_ble_eq_true rfl) dX8_finish_2 h ?_
  intro v2 I1 J1 h
  refine jd_istore (pc := 5) [(5, .int v2), (0, .ref (gb G + t)), (1, .int x1), (2, .long y2), (4, .int x4)] dX8_finish_5 (by decide) rfl ?_
  refine jd_iload (pc := 7) 0 dX8_finish_7 rfl ?_
  refine jd_iconst (pc := 9) (v := (-1)) dX8_finish_9 (by decide) ?_
  refine jd_icmp_ne (pc := 10) 27 dX8_finish_10 (by decide) (fun hc => ?_) (fun hc => ?_)
  · have h := h.1 hc
    refine jd_lload_n (pc := 27) 3 dX8_finish_27 rfl rfl ?_
    refine jd_lstore (pc := 28) [(6, .long y2), (5, .int v2), (0, .ref (gb G + t)), (1, .int x1), (2, .long y2), (4, .int x4)] dX8_finish_28 (by decide) rfl ?_
    refine jd_iload (pc := 30) 1 dX8_finish_30 rfl ?_
    refine jd_istore (pc := 32) [(8, .int v2), (6, .long y2), (5, .int v2), (0, .ref (gb G + t)), (1, .int x1), (2, .long y2), (4, .int x4)] dX8_finish_32 (by decide) rfl ?_
    exact jd_lv (lv2 := [(0, .ref (gb G + t)), (1, .int x1), (2, .long y2), (4, .int x4), (5, .int v2), (6, .long y2), (8, .int v2)]) [3, 4, 5, 6, 2, 1, 0] rfl h
  · have h := h.2 hc
    refine jd_aload_n (pc := 13) 1 dX8_finish_13 rfl rfl ?_
    refine jd_aload_n (pc := 14) 1 dX8_finish_14 rfl rfl ?_
    refine jd_getI (pc := 15) (ci := 7) (k := 9) gX8_91 ht.1 rfl dX8_finish_15 ?_
    refine jd_iload (pc := 18) 4 dX8_finish_18 rfl ?_
    refine jd_min (pc := 20) xX8_109 (Nat.le_of_ble_eq_true rfl) dX8_finish_20 ?_
    refine jd_putI (pc := 23) (ci := 7) (k := 9) pX8_91 ht.1 rfl rfl rfl dX8_finish_23 ?_
    exact jd_vretK (pc := 26) rfl dX8_finish_26 h
set_option maxRecDepth 4000 in
theorem rX8_finish_34 {G : jdG} {n rc rs : Nat} {Z : jdL} {I : jdI} {J : jdJ} {K : jdI → jdJ → Prop} {t : Nat} {x1 : Int32} {y2 : Int64} {x4 : Int32} {x5 : Int32} {y6 : Int64} {x8 : Int32} (ht : zTies Z t) (h : (((I t 8) ≤ x8 → K I J) ∧ (¬ (I t 8) ≤ x8 → (((I t 9) ≤ (x4 + 1) → K I J) ∧ (¬ (I t 9) ≤ (x4 + 1) → (vp_in x8 70 ∧ (vp_in x5 70 ∧ ((((I (t + 4) (Int32.toNatClampNeg x8)) &&& (I (t + 4) (Int32.toNatClampNeg x5))) = 0 → Jd G mX8_finish (jdFm G (qv Z K)) (n + 1) rc rs 34 [(0, .ref (gb G + t)), (1, .int x1), (2, .long y2), (4, .int x4), (5, .int x5), (6, .long y6), (8, .int (x8 + 1))] [] Z I J) ∧ (¬ ((I (t + 4) (Int32.toNatClampNeg x8)) &&& (I (t + 4) (Int32.toNatClampNeg x5))) = 0 → (vp_in x8 70 ∧ (vp_in x8 70 ∧ ((¬ ((I (t + 4) (Int32.toNatClampNeg x8)) &&& x1) = (I (t + 4) (Int32.toNatClampNeg x8)) → Jd G mX8_finish (jdFm G (qv Z K)) (n + 1) rc rs 34 [(0, .ref (gb G + t)), (1, .int x1), (2, .long y2), (4, .int x4), (5, .int x5), (6, .long y6), (8, .int (x8 + 1))] [] Z I J) ∧ (((I (t + 4) (Int32.toNatClampNeg x8)) &&& x1) = (I (t + 4) (Int32.toNatClampNeg x8)) → ((¬ (lg_cmp ((y6 >>> (Int32.toInt64 x8 &&& 63)) &&& 1) 0) = 0 → Jd G mX8_finish (jdFm G (qv Z K)) (n + 1) rc rs 34 [(0, .ref (gb G + t)), (1, .int x1), (2, .long y2), (4, .int x4), (5, .int x5), (6, .long y6), (8, .int (x8 + 1))] [] Z I J) ∧ ((lg_cmp ((y6 >>> (Int32.toInt64 x8 &&& 63)) &&& 1) 0) = 0 → (vp_in x8 70 ∧ Cl G mX8_finish n 0 0 [.ref (gb G + t), .int (x1 &&& ((I (t + 4) (Int32.toNatClampNeg x8)) ^^^ (-1))), .long y6, .int (x4 + 1)] Z I J (qv Z (fun I6 J6 => Jd G mX8_finish (jdFm G (qv Z K)) (n + 1) rc rs 34 [(0, .ref (gb G + t)), (1, .int x1), (2, .long y2), (4, .int x4), (5, .int x5), (6, .long (y6 ||| (1 <<< (Int32.toInt64 x8 &&& 63)))), (8, .int (x8 + 1))] [] Z I6 J6)))))))))))))))))) : Jd G mX8_finish (jdFm G (qv Z K)) (n + 1) rc rs 34 [(0, .ref (gb G + t)), (1, .int x1), (2, .long y2), (4, .int x4), (5, .int x5), (6, .long y6), (8, .int x8)] [] Z I J := by
  refine jd_iload (pc := 34) 6 dX8_finish_34 rfl ?_
  refine jd_aload_n (pc := 36) 0 dX8_finish_36 rfl rfl ?_
  refine jd_getI (pc := 37) (ci := 7) (k := 8) gX8_53 ht.1 rfl dX8_finish_37 ?_
  refine jd_icmp_ge (pc := 40) 151 dX8_finish_40 (by decide) (fun hc => ?_) (fun hc => ?_)
  · have h := h.1 hc
    exact jd_vretK (pc := 151) rfl dX8_finish_151 h
  · have h := h.2 hc
    refine jd_iload (pc := 43) 3 dX8_finish_43 rfl ?_
    refine jd_iconst (pc := 45) (v := 1) dX8_finish_45 (by decide) ?_
    refine jd_iadd (pc := 46) dX8_finish_46 ?_
    refine jd_aload_n (pc := 47) 0 dX8_finish_47 rfl rfl ?_
    refine jd_getI (pc := 48) (ci := 7) (k := 9) gX8_91 ht.1 rfl dX8_finish_48 ?_
    refine jd_icmp_ge (pc := 51) 151 dX8_finish_51 (by decide) (fun hc => ?_) (fun hc => ?_)
    · have h := h.1 hc
      exact jd_vretK (pc := 151) rfl dX8_finish_151 h
    · have h := h.2 hc
      refine jd_aload_n (pc := 54) 0 dX8_finish_54 rfl rfl ?_
      refine jd_getR (pc := 55) (ci := 7) (k := 3) (r := (t + 4)) gX8_21 ht.1 rfl (zTies_p3 ht) dX8_finish_55 ?_
      refine jd_iload (pc := 58) 6 dX8_finish_58 rfl ?_
      obtain ⟨hv1, h⟩ := h
      refine jd_iald (pc := 60) (len := 70) (zTies_a3 ht) hv1 dX8_finish_60 ?_
      refine jd_aload_n (pc := 61) 0 dX8_finish_61 rfl rfl ?_
      refine jd_getR (pc := 62) (ci := 7) (k := 3) (r := (t + 4)) gX8_21 ht.1 rfl (zTies_p3 ht) dX8_finish_62 ?_
      refine jd_iload (pc := 65) 4 dX8_finish_65 rfl ?_
      obtain ⟨hv2, h⟩ := h
      refine jd_iald (pc := 67) (len := 70) (zTies_a3 ht) hv2 dX8_finish_67 ?_
      refine jd_iand (pc := 68) dX8_finish_68 ?_
      refine jd_if_eq (pc := 69) 76 dX8_finish_69 (by decide) (fun hc => ?_) (fun hc => ?_)
      · have h := h.1 hc
        refine jd_iconst (pc := 76) (v := 0) dX8_finish_76 (by decide) ?_
        refine jd_istore (pc := 77) [(9, .int 0), (0, .ref (gb G + t)), (1, .int x1), (2, .long y2), (4, .int x4), (5, .int x5), (6, .long y6), (8, .int x8)] dX8_finish_77 (by decide) rfl ?_
        refine jd_iload (pc := 79) 0 dX8_finish_79 rfl ?_
        refine jd_if_eq (pc := 81) 145 dX8_finish_81 (by decide) (fun _ => ?_) (fun hc => absurd (show (0 : Int32) = 0 by decide) hc)
        refine jd_iinc (pc := 145) (v := (x8 + 1)) 7 [(8, .int (x8 + 1)), (9, .int 0), (0, .ref (gb G + t)), (1, .int x1), (2, .long y2), (4, .int x4), (5, .int x5), (6, .long y6)] dX8_finish_145 rfl rfl (by decide) rfl ?_
        refine jd_goto (pc := 148) 34 dX8_finish_148 (by decide) ?_
        exact jd_lv (lv2 := [(0, .ref (gb G + t)), (1, .int x1), (2, .long y2), (4, .int x4), (5, .int x5), (6, .long y6), (8, .int (x8 + 1))]) [2, 3, 4, 5, 6, 7, 0] rfl h
      · have h := h.2 hc
        refine jd_iconst (pc := 72) (v := 1) dX8_finish_72 (by decide) ?_
        refine jd_goto (pc := 73) 77 dX8_finish_73 (by decide) ?_
        refine jd_istore (pc := 77) [(9, .int 1), (0, .ref (gb G + t)), (1, .int x1), (2, .long y2), (4, .int x4), (5, .int x5), (6, .long y6), (8, .int x8)] dX8_finish_77 (by decide) rfl ?_
        refine jd_iload (pc := 79) 0 dX8_finish_79 rfl ?_
        refine jd_if_eq (pc := 81) 145 dX8_finish_81 (by decide) (fun hc => absurd hc (by decide)) (fun _ => ?_)
        refine jd_aload_n (pc := 84) 1 dX8_finish_84 rfl rfl ?_
        refine jd_getR (pc := 85) (ci := 7) (k := 3) (r := (t + 4)) gX8_21 ht.1 rfl (zTies_p3 ht) dX8_finish_85 ?_
        refine jd_iload (pc := 88) 7 dX8_finish_88 rfl ?_
        obtain ⟨hv3, h⟩ := h
        refine jd_iald (pc := 90) (len := 70) (zTies_a3 ht) hv3 dX8_finish_90 ?_
        refine jd_iload_n (pc := 91) 2 dX8_finish_91 rfl rfl ?_
        refine jd_iand (pc := 92) dX8_finish_92 ?_
        refine jd_aload_n (pc := 93) 1 dX8_finish_93 rfl rfl ?_
        refine jd_getR (pc := 94) (ci := 7) (k := 3) (r := (t + 4)) gX8_21 ht.1 rfl (zTies_p3 ht) dX8_finish_94 ?_
        refine jd_iload (pc := 97) 7 dX8_finish_97 rfl ?_
        obtain ⟨hv4, h⟩ := h
        refine jd_iald (pc := 99) (len := 70) (zTies_a3 ht) hv4 dX8_finish_99 ?_
        refine jd_icmp_ne (pc := 100) 145 dX8_finish_100 (by decide) (fun hc => ?_) (fun hc => ?_)
        · have h := h.1 hc
          refine jd_iinc (pc := 145) (v := (x8 + 1)) 7 [(8, .int (x8 + 1)), (9, .int 1), (0, .ref (gb G + t)), (1, .int x1), (2, .long y2), (4, .int x4), (5, .int x5), (6, .long y6)] dX8_finish_145 rfl rfl (by decide) rfl ?_
          refine jd_goto (pc := 148) 34 dX8_finish_148 (by decide) ?_
          exact jd_lv (lv2 := [(0, .ref (gb G + t)), (1, .int x1), (2, .long y2), (4, .int x4), (5, .int x5), (6, .long y6), (8, .int (x8 + 1))]) [2, 3, 4, 5, 6, 7, 0] rfl h
        · have h := h.2 hc
          refine jd_lload (pc := 103) 6 dX8_finish_103 rfl ?_
          refine jd_iload (pc := 105) 7 dX8_finish_105 rfl ?_
          refine jd_lshr (pc := 107) dX8_finish_107 ?_
          refine jd_lconst (pc := 108) (v := 1) dX8_finish_108 (by decide) ?_
          refine jd_land (pc := 109) dX8_finish_109 ?_
          refine jd_lconst (pc := 110) (v := 0) dX8_finish_110 (by decide) ?_
          refine jd_lcmp (pc := 111) dX8_finish_111 ?_
          refine jd_if_ne (pc := 112) 145 dX8_finish_112 (by decide) (fun hc => ?_) (fun hc => ?_)
          · have h := h.1 hc
            refine jd_iinc (pc := 145) (v := (x8 + 1)) 7 [(8, .int (x8 + 1)), (9, .int 1), (0, .ref (gb G + t)), (1, .int x1), (2, .long y2), (4, .int x4), (5, .int x5), (6, .long y6)] dX8_finish_145 rfl rfl (by decide) rfl ?_
            refine jd_goto (pc := 148) 34 dX8_finish_148 (by decide) ?_
            exact jd_lv (lv2 := [(0, .ref (gb G + t)), (1, .int x1), (2, .long y2), (4, .int x4), (5, .int x5), (6, .long y6), (8, .int (x8 + 1))]) [2, 3, 4, 5, 6, 7, 0] rfl h
          · have h := h.2 hc
            refine jd_aload_n (pc := 115) 1 dX8_finish_115 rfl rfl ?_
            refine jd_iload_n (pc := 116) 2 dX8_finish_116 rfl rfl ?_
            refine jd_aload_n (pc := 117) 1 dX8_finish_117 rfl rfl ?_
            refine jd_getR (pc := 118) (ci := 7) (k := 3) (r := (t + 4)) gX8_21 ht.1 rfl (zTies_p3 ht) dX8_finish_118 ?_
            refine jd_iload (pc := 121) 7 dX8_finish_121 rfl ?_
            obtain ⟨hv5, h⟩ := h
            refine jd_iald (pc := 123) (len := 70) (zTies_a3 ht) hv5 dX8_finish_123 ?_
            refine jd_iconst (pc := 124) (v := (-1)) dX8_finish_124 (by decide) ?_
            refine jd_ixor (pc := 125) dX8_finish_125 ?_
            refine jd_iand (pc := 126) dX8_finish_126 ?_
            refine jd_lload (pc := 127) 6 dX8_finish_127 rfl ?_
            refine jd_iload (pc := 129) 4 dX8_finish_129 rfl ?_
            refine jd_iconst (pc := 131) (v := 1) dX8_finish_131 (by decide) ?_
            refine jd_iadd (pc := 132) dX8_finish_132 ?_
            refine jd_callVv (pc := 133) (M2 := mX8_finish) (id := t) (ci := 7) (T := TX8) (N := 11) (av := [.int (x1 &&& ((I (t + 4) (Int32.toNatClampNeg x8)) ^^^ (-1))), .long y6, .int (x4 + 1)]) kX8_finish sX8_finish rfl ht.1 lX8_102 rfl rfl (Nat.le_of_ble_eq_true rfl) dX8_finish_133 h ?_
            intro I6 J6 h
            refine jd_lload (pc := 136) 6 dX8_finish_136 rfl ?_
            refine jd_lconst (pc := 138) (v := 1) dX8_finish_138 (by decide) ?_
            refine jd_iload (pc := 139) 7 dX8_finish_139 rfl ?_
            refine jd_lshl (pc := 141) dX8_finish_141 ?_
            refine jd_lor (pc := 142) dX8_finish_142 ?_
            refine jd_lstore (pc := 143) [(6, .long (y6 ||| (1 <<< (Int32.toInt64 x8 &&& 63)))), (9, .int 1), (0, .ref (gb G + t)), (1, .int x1), (2, .long y2), (4, .int x4), (5, .int x5), (8, .int x8)] dX8_finish_143 (by decide) rfl ?_
            refine jd_iinc (pc := 145) (v := (x8 + 1)) 7 [(8, .int (x8 + 1)), (6, .long (y6 ||| (1 <<< (Int32.toInt64 x8 &&& 63)))), (9, .int 1), (0, .ref (gb G + t)), (1, .int x1), (2, .long y2), (4, .int x4), (5, .int x5)] dX8_finish_145 rfl rfl (by decide) rfl ?_
            refine jd_goto (pc := 148) 34 dX8_finish_148 (by decide) ?_
            exact jd_lv (lv2 := [(0, .ref (gb G + t)), (1, .int x1), (2, .long y2), (4, .int x4), (5, .int x5), (6, .long (y6 ||| (1 <<< (Int32.toInt64 x8 &&& 63)))), (8, .int (x8 + 1))]) [3, 4, 5, 6, 7, 1, 0] rfl h
theorem eX8_finish {G : jdG} {n : Nat} {Z : jdL} {I : jdI} {J : jdJ} {K : jdI → jdJ → Prop} {t : Nat} {x1 : Int32} {y2 : Int64} {x4 : Int32} (ht : zTies Z t) (h : Cl G mX8_firstPossible n 0 0 [.ref (gb G + t), .int x1] Z I J (qi Z (fun v2 I1 J1 => ((¬ v2 = (-1) → Jd G mX8_finish (jdFm G (qv Z K)) (n + 1) 0 0 34 [(0, .ref (gb G + t)), (1, .int x1), (2, .long y2), (4, .int x4), (5, .int v2), (6, .long y2), (8, .int v2)] [] Z I1 J1) ∧ (v2 = (-1) → K (uI I1 t 9 (if x4 < (I1 t 9) then x4 else (I1 t 9))) J1))))) : Cl G mX8_finish (n + 1) 0 0 [.ref (gb G + t), .int x1, .long y2, .int x4] Z I J (qv Z K) :=
  Cl.of (by decide +kernel) (Nat.le_of_ble_eq_true rfl) (rX8_finish_0 ht h)
set_option maxRecDepth 4000 in
theorem rX8_firstPossible_0 {G : jdG} {n rc rs : Nat} {Z : jdL} {I : jdI} {J : jdJ} {K : Int32 → jdI → jdJ → Prop} {t : Nat} {x1 : Int32} (ht : zTies Z t) (h : Jd G mX8_firstPossible (jdFm G (qi Z K)) n rc rs 2 [(0, .ref (gb G + t)), (1, .int x1), (2, .int 0)] [] Z I J) : Jd G mX8_firstPossible (jdFm G (qi Z K)) n rc rs 0 [(0, .ref (gb G + t)), (1, .int x1)] [] Z I J := by
  refine jd_iconst (pc := 0) (v := 0) dX8_firstPossible_0 (by decide) ?_
  refine jd_istore_n (pc := 1) [(2, .int 0), (0, .ref (gb G + t)), (1, .int x1)] dX8_firstPossible_1 rfl (by decide) rfl ?_
  exact jd_lv (lv2 := [(0, .ref (gb G + t)), (1, .int x1), (2, .int 0)]) [1, 2, 0] rfl h
set_option maxRecDepth 4000 in
theorem rX8_firstPossible_2 {G : jdG} {n rc rs : Nat} {Z : jdL} {I : jdI} {J : jdJ} {K : Int32 → jdI → jdJ → Prop} {t : Nat} {x1 : Int32} {x2 : Int32} (ht : zTies Z t) (h : (((I t 8) ≤ x2 → K (-1) I J) ∧ (¬ (I t 8) ≤ x2 → (vp_in x2 70 ∧ (vp_in x2 70 ∧ ((¬ ((I (t + 4) (Int32.toNatClampNeg x2)) &&& x1) = (I (t + 4) (Int32.toNatClampNeg x2)) → Jd G mX8_firstPossible (jdFm G (qi Z K)) n rc rs 2 [(0, .ref (gb G + t)), (1, .int x1), (2, .int (x2 + 1))] [] Z I J) ∧ (((I (t + 4) (Int32.toNatClampNeg x2)) &&& x1) = (I (t + 4) (Int32.toNatClampNeg x2)) → K x2 I J))))))) : Jd G mX8_firstPossible (jdFm G (qi Z K)) n rc rs 2 [(0, .ref (gb G + t)), (1, .int x1), (2, .int x2)] [] Z I J := by
  refine jd_iload_n (pc := 2) 2 dX8_firstPossible_2 rfl rfl ?_
  refine jd_aload_n (pc := 3) 0 dX8_firstPossible_3 rfl rfl ?_
  refine jd_getI (pc := 4) (ci := 7) (k := 8) gX8_53 ht.1 rfl dX8_firstPossible_4 ?_
  refine jd_icmp_ge (pc := 7) 35 dX8_firstPossible_7 (by decide) (fun hc => ?_) (fun hc => ?_)
  · have h := h.1 hc
    refine jd_iconst (pc := 35) (v := (-1)) dX8_firstPossible_35 (by decide) ?_
    exact jd_iretK (pc := 36) rfl rfl dX8_firstPossible_36 h
  · have h := h.2 hc
    refine jd_aload_n (pc := 10) 0 dX8_firstPossible_10 rfl rfl ?_
    refine jd_getR (pc := 11) (ci := 7) (k := 3) (r := (t + 4)) gX8_21 ht.1 rfl (zTies_p3 ht) dX8_firstPossible_11 ?_
    refine jd_iload_n (pc := 14) 2 dX8_firstPossible_14 rfl rfl ?_
    obtain ⟨hv1, h⟩ := h
    refine jd_iald (pc := 15) (len := 70) (zTies_a3 ht) hv1 dX8_firstPossible_15 ?_
    refine jd_iload_n (pc := 16) 1 dX8_firstPossible_16 rfl rfl ?_
    refine jd_iand (pc := 17) dX8_firstPossible_17 ?_
    refine jd_aload_n (pc := 18) 0 dX8_firstPossible_18 rfl rfl ?_
    refine jd_getR (pc := 19) (ci := 7) (k := 3) (r := (t + 4)) gX8_21 ht.1 rfl (zTies_p3 ht) dX8_firstPossible_19 ?_
    refine jd_iload_n (pc := 22) 2 dX8_firstPossible_22 rfl rfl ?_
    obtain ⟨hv2, h⟩ := h
    refine jd_iald (pc := 23) (len := 70) (zTies_a3 ht) hv2 dX8_firstPossible_23 ?_
    refine jd_icmp_ne (pc := 24) 29 dX8_firstPossible_24 (by decide) (fun hc => ?_) (fun hc => ?_)
    · have h := h.1 hc
      refine jd_iinc (pc := 29) (v := (x2 + 1)) 2 [(2, .int (x2 + 1)), (0, .ref (gb G + t)), (1, .int x1)] dX8_firstPossible_29 rfl rfl (by decide) rfl ?_
      refine jd_goto (pc := 32) 2 dX8_firstPossible_32 (by decide) ?_
      exact jd_lv (lv2 := [(0, .ref (gb G + t)), (1, .int x1), (2, .int (x2 + 1))]) [1, 2, 0] rfl h
    · have h := h.2 hc
      refine jd_iload_n (pc := 27) 2 dX8_firstPossible_27 rfl rfl ?_
      exact jd_iretK (pc := 28) rfl rfl dX8_firstPossible_28 h
theorem eX8_firstPossible {G : jdG} {n : Nat} {Z : jdL} {I : jdI} {J : jdJ} {K : Int32 → jdI → jdJ → Prop} {t : Nat} {x1 : Int32} (ht : zTies Z t) (h : Jd G mX8_firstPossible (jdFm G (qi Z K)) n 0 0 2 [(0, .ref (gb G + t)), (1, .int x1), (2, .int 0)] [] Z I J) : Cl G mX8_firstPossible (n) 0 0 [.ref (gb G + t), .int x1] Z I J (qi Z K) :=
  Cl.of (by decide +kernel) (Nat.le_of_ble_eq_true rfl) (rX8_firstPossible_0 ht h)
set_option maxRecDepth 4000 in
theorem rX8_countWays_0 {G : jdG} {n rc rs : Nat} {Z : jdL} {I : jdI} {J : jdJ} {K : Int32 → jdI → jdJ → Prop} {t : Nat} {x1 : Int32} (ht : zTies Z t) (h : Jd G mX8_countWays (jdFm G (qi Z K)) (n + 1) rc rs 2 [(0, .ref (gb G + t)), (1, .int x1), (2, .int 0)] [] Z I J) : Jd G mX8_countWays (jdFm G (qi Z K)) (n + 1) rc rs 0 [(0, .ref (gb G + t)), (1, .int x1)] [] Z I J := by
  refine jd_iconst (pc := 0) (v := 0) dX8_countWays_0 (by decide) ?_
  refine jd_istore_n (pc := 1) [(2, .int 0), (0, .ref (gb G + t)), (1, .int x1)] dX8_countWays_1 rfl (by decide) rfl ?_
  exact jd_lv (lv2 := [(0, .ref (gb G + t)), (1, .int x1), (2, .int 0)]) [1, 2, 0] rfl h
set_option maxRecDepth 4000 in
theorem rX8_countWays_2 {G : jdG} {n rc rs : Nat} {Z : jdL} {I : jdI} {J : jdJ} {K : Int32 → jdI → jdJ → Prop} {t : Nat} {x1 : Int32} {x2 : Int32} (ht : zTies Z t) (h : ((28 ≤ x2 → Cl G mX8_listPairs n 0 0 [.ref (gb G + t), .int x1] Z I J (qi Z (fun v2 I1 J1 => Cl G mX8_pairsIn n 0 0 [.ref (gb G + t), .int x1] Z I1 J1 (qi Z (fun v4 I3 J3 => Cl G mJ6_bitCount_0f7a4 n 0 0 [.int v4] Z I3 J3 (qi Z (fun v6 I5 J5 => Jd G mX8_countWays (jdFm G (qi Z K)) (n + 1) rc rs 50 [(0, .ref (gb G + t)), (1, .int x1), (2, .int v2), (3, .int v4), (4, .int (1 <<< (v6 &&& 31))), (5, .int 0), (6, .int 0), (7, .int 0)] [] Z I5 J5))))))) ∧ (¬ 28 ≤ x2 → (vp_in x2 28 ∧ Jd G mX8_countWays (jdFm G (qi Z K)) (n + 1) rc rs 2 [(0, .ref (gb G + t)), (1, .int x1), (2, .int (x2 + 1))] [] Z (uI I (t + 6) (Int32.toNatClampNeg x2) 0) J)))) : Jd G mX8_countWays (jdFm G (qi Z K)) (n + 1) rc rs 2 [(0, .ref (gb G + t)), (1, .int x1), (2, .int x2)] [] Z I J := by
  refine jd_iload_n (pc := 2) 2 dX8_countWays_2 rfl rfl ?_
  refine jd_bipush (pc := 3) (v := 28) dX8_countWays_3 (by decide) ?_
  refine jd_icmp_ge (pc := 5) 21 dX8_countWays_5 (by decide) (fun hc => ?_) (fun hc => ?_)
  · have h := h.1 hc
    refine jd_aload_n (pc := 21) 0 dX8_countWays_21 rfl rfl ?_
    refine jd_iload_n (pc := 22) 1 dX8_countWays_22 rfl rfl ?_
    refine jd_callVi (pc := 23) (M2 := mX8_listPairs) (id := t) (ci := 7) (T := TX8) (N := 11) (av := [.int x1]) kX8_listPairs sX8_listPairs rfl ht.1 lX8_88 rfl rfl (Nat.le_of_ble_eq_true rfl) dX8_countWays_23 h ?_
    intro v2 I1 J1 h
    refine jd_istore_n (pc := 26) [(2, .int v2), (0, .ref (gb G + t)), (1, .int x1)] dX8_countWays_26 rfl (by decide) rfl ?_
    refine jd_aload_n (pc := 27) 1 dX8_countWays_27 rfl rfl ?_
    refine jd_iload_n (pc := 28) 2 dX8_countWays_28 rfl rfl ?_
    refine jd_callVi (pc := 29) (M2 := mX8_pairsIn) (id := t) (ci := 7) (T := TX8) (N := 11) (av := [.int x1]) kX8_pairsIn sX8_pairsIn rfl ht.1 lX8_85 rfl rfl (Nat.le_of_ble_eq_true rfl) dX8_countWays_29 h ?_
    intro v4 I3 J3 h
    refine jd_istore_n (pc := 32) [(3, .int v4), (2, .int v2), (0, .ref (gb G + t)), (1, .int x1)] dX8_countWays_32 rfl (by decide) rfl ?_
    refine jd_iconst (pc := 33) (v := 1) dX8_countWays_33 (by decide) ?_
    refine jd_iload_n (pc := 34) 0 dX8_countWays_34 rfl rfl ?_
    refine jd_callSi (pc := 35) (M2 := mJ6_bitCount_0f7a4) (av := [.int v4]) kJ6_bitCount_0f7a4 sJ6_bitCount_0f7a4 lX8_73 rfl rfl (Nat.le_of_ble_eq_true rfl) dX8_countWays_35 h ?_
    intro v6 I5 J5 h
    refine jd_ishl (pc := 38) dX8_countWays_38 ?_
    refine jd_istore (pc := 39) [(4, .int (1 <<< (v6 &&& 31))), (3, .int v4), (2, .int v2), (0, .ref (gb G + t)), (1, .int x1)] dX8_countWays_39 (by decide) rfl ?_
    refine jd_iconst (pc := 41) (v := 0) dX8_countWays_41 (by decide) ?_
    refine jd_istore (pc := 42) [(5, .int 0), (4, .int (1 <<< (v6 &&& 31))), (3, .int v4), (2, .int v2), (0, .ref (gb G + t)), (1, .int x1)] dX8_countWays_42 (by decide) rfl ?_
    refine jd_iconst (pc := 44) (v := 0) dX8_countWays_44 (by decide) ?_
    refine jd_istore (pc := 45) [(6, .int 0), (5, .int 0), (4, .int (1 <<< (v6 &&& 31))), (3, .int v4), (2, .int v2), (0, .ref (gb G + t)), (1, .int x1)] dX8_countWays_45 (by decide) rfl ?_
    refine jd_iconst (pc := 47) (v := 0) dX8_countWays_47 (by decide) ?_
    refine jd_istore (pc := 48) [(7, .int 0), (6, .int 0), (5, .int 0), (4, .int (1 <<< (v6 &&& 31))), (3, .int v4), (2, .int v2), (0, .ref (gb G + t)), (1, .int x1)] dX8_countWays_48 (by decide) rfl ?_
    exact jd_lv (lv2 := [(0, .ref (gb G + t)), (1, .int x1), (2, .int v2), (3, .int v4), (4, .int (1 <<< (v6 &&& 31))), (5, .int 0), (6, .int 0), (7, .int 0)]) [6, 7, 5, 4, 3, 2, 1, 0] rfl h
  · have h := h.2 hc
    refine jd_aload_n (pc := 8) 0 dX8_countWays_8 rfl rfl ?_
    refine jd_getR (pc := 9) (ci := 7) (k := 5) (r := (t + 6)) gX8_27 ht.1 rfl (zTies_p5 ht) dX8_countWays_9 ?_
    refine jd_iload_n (pc := 12) 2 dX8_countWays_12 rfl rfl ?_
    refine jd_iconst (pc := 13) (v := 0) dX8_countWays_13 (by decide) ?_
    obtain ⟨hv7, h⟩ := h
    refine jd_iast (pc := 14) (len := 28) (zTies_a5 ht) hv7 dX8_countWays_14 ?_
    refine jd_iinc (pc := 15) (v := (x2 + 1)) 2 [(2, .int (x2 + 1)), (0, .ref (gb G + t)), (1, .int x1)] dX8_countWays_15 rfl rfl (by decide) rfl ?_
    refine jd_goto (pc := 18) 2 dX8_countWays_18 (by decide) ?_
    exact jd_lv (lv2 := [(0, .ref (gb G + t)), (1, .int x1), (2, .int (x2 + 1))]) [1, 2, 0] rfl h
set_option maxRecDepth 4000 in
theorem rX8_countWays_50 {G : jdG} {n rc rs : Nat} {Z : jdL} {I : jdI} {J : jdJ} {K : Int32 → jdI → jdJ → Prop} {t : Nat} {x1 : Int32} {x2 : Int32} {x3 : Int32} {x4 : Int32} {x5 : Int32} {x6 : Int32} {x7 : Int32} (ht : zTies Z t) (h : ((x4 ≤ x7 → K x5 I J) ∧ (¬ x4 ≤ x7 → Cl G mX8_breaksAll n 0 0 [.ref (gb G + t), .int x6, .int x2] Z I J (qi Z (fun v2 I1 J1 => ((v2 = 0 → Jd G mX8_countWays (jdFm G (qi Z K)) (n + 1) rc rs 50 [(0, .ref (gb G + t)), (1, .int x1), (2, .int x2), (3, .int x3), (4, .int x4), (5, .int x5), (6, .int ((x6 - x3) &&& x3)), (7, .int (x7 + 1))] [] Z I1 J1) ∧ (¬ v2 = 0 → Cl G mX8_tally n 0 0 [.ref (gb G + t), .int x6] Z I1 J1 (qv Z (fun I3 J3 => Jd G mX8_countWays (jdFm G (qi Z K)) (n + 1) rc rs 50 [(0, .ref (gb G + t)), (1, .int x1), (2, .int x2), (3, .int x3), (4, .int x4), (5, .int (x5 + 1)), (6, .int ((x6 - x3) &&& x3)), (7, .int (x7 + 1))] [] Z I3 J3))))))))) : Jd G mX8_countWays (jdFm G (qi Z K)) (n + 1) rc rs 50 [(0, .ref (gb G + t)), (1, .int x1), (2, .int x2), (3, .int x3), (4, .int x4), (5, .int x5), (6, .int x6), (7, .int x7)] [] Z I J := by
  refine jd_iload (pc := 50) 7 dX8_countWays_50 rfl ?_
  refine jd_iload (pc := 52) 4 dX8_countWays_52 rfl ?_
  refine jd_icmp_ge (pc := 54) 90 dX8_countWays_54 (by decide) (fun hc => ?_) (fun hc => ?_)
  · have h := h.1 hc
    refine jd_iload (pc := 90) 5 dX8_countWays_90 rfl ?_
    exact jd_iretK (pc := 92) rfl rfl dX8_countWays_92 h
  · have h := h.2 hc
    refine jd_aload_n (pc := 57) 0 dX8_countWays_57 rfl rfl ?_
    refine jd_iload (pc := 58) 6 dX8_countWays_58 rfl ?_
    refine jd_iload_n (pc := 60) 2 dX8_countWays_60 rfl rfl ?_
    refine jd_callVi (pc := 61) (M2 := mX8_breaksAll) (id := t) (ci := 7) (T := TX8) (N := 11) (av := [.int x6, .int x2]) kX8_breaksAll sX8_breaksAll rfl ht.1 lX8_112 rfl rfl (Nat.le_of_ble_eq_true rfl) dX8_countWays_61 h ?_
    intro v2 I1 J1 h
    refine jd_if_eq (pc := 64) 76 dX8_countWays_64 (by decide) (fun hc => ?_) (fun hc => ?_)
    · have h := h.1 hc
      refine jd_iload (pc := 76) 6 dX8_countWays_76 rfl ?_
      refine jd_iload_n (pc := 78) 3 dX8_countWays_78 rfl rfl ?_
      refine jd_isub (pc := 79) dX8_countWays_79 ?_
      refine jd_iload_n (pc := 80) 3 dX8_countWays_80 rfl rfl ?_
      refine jd_iand (pc := 81) dX8_countWays_81 ?_
      refine jd_istore (pc := 82) [(6, .int ((x6 - x3) &&& x3)), (0, .ref (gb G + t)), (1, .int x1), (2, .int x2), (3, .int x3), (4, .int x4), (5, .int x5), (7, .int x7)] dX8_countWays_82 (by decide) rfl ?_
      refine jd_iinc (pc := 84) (v := (x7 + 1)) 7 [(7, .int (x7 + 1)), (6, .int ((x6 - x3) &&& x3)), (0, .ref (gb G + t)), (1, .int x1), (2, .int x2), (3, .int x3), (4, .int x4), (5, .int x5)] dX8_countWays_84 rfl rfl (by decide) rfl ?_
      refine jd_goto (pc := 87) 50 dX8_countWays_87 (by decide) ?_
      exact jd_lv (lv2 := [(0, .ref (gb G + t)), (1, .int x1), (2, .int x2), (3, .int x3), (4, .int x4), (5, .int x5), (6, .int ((x6 - x3) &&& x3)), (7, .int (x7 + 1))]) [2, 3, 4, 5, 6, 7, 1, 0] rfl h
    · have h := h.2 hc
      refine jd_iinc (pc := 67) (v := (x5 + 1)) 5 [(5, .int (x5 + 1)), (0, .ref (gb G + t)), (1, .int x1), (2, .int x2), (3, .int x3), (4, .int x4), (6, .int x6), (7, .int x7)] dX8_countWays_67 rfl rfl (by decide) rfl ?_
      refine jd_aload_n (pc := 70) 1 dX8_countWays_70 rfl rfl ?_
      refine jd_iload (pc := 71) 6 dX8_countWays_71 rfl ?_
      refine jd_callVv (pc := 73) (M2 := mX8_tally) (id := t) (ci := 7) (T := TX8) (N := 11) (av := [.int x6]) kX8_tally sX8_tally rfl ht.1 lX8_116 rfl rfl (Nat.le_of_ble_eq_true rfl) dX8_countWays_73 h ?_
      intro I3 J3 h
      refine jd_iload (pc := 76) 6 dX8_countWays_76 rfl ?_
      refine jd_iload_n (pc := 78) 4 dX8_countWays_78 rfl rfl ?_
      refine jd_isub (pc := 79) dX8_countWays_79 ?_
      refine jd_iload_n (pc := 80) 4 dX8_countWays_80 rfl rfl ?_
      refine jd_iand (pc := 81) dX8_countWays_81 ?_
      refine jd_istore (pc := 82) [(6, .int ((x6 - x3) &&& x3)), (5, .int (x5 + 1)), (0, .ref (gb G + t)), (1, .int x1), (2, .int x2), (3, .int x3), (4, .int x4), (7, .int x7)] dX8_countWays_82 (by decide) rfl ?_
      refine jd_iinc (pc := 84) (v := (x7 + 1)) 7 [(7, .int (x7 + 1)), (6, .int ((x6 - x3) &&& x3)), (5, .int (x5 + 1)), (0, .ref (gb G + t)), (1, .int x1), (2, .int x2), (3, .int x3), (4, .int x4)] dX8_countWays_84 rfl rfl (by decide) rfl ?_
      refine jd_goto (pc := 87) 50 dX8_countWays_87 (by decide) ?_
      exact jd_lv (lv2 := [(0, .ref (gb G + t)), (1, .int x1), (2, .int x2), (3, .int x3), (4, .int x4), (5, .int (x5 + 1)), (6, .int ((x6 - x3) &&& x3)), (7, .int (x7 + 1))]) [3, 4, 5, 6, 7, 2, 1, 0] rfl h
theorem eX8_countWays {G : jdG} {n : Nat} {Z : jdL} {I : jdI} {J : jdJ} {K : Int32 → jdI → jdJ → Prop} {t : Nat} {x1 : Int32} (ht : zTies Z t) (h : Jd G mX8_countWays (jdFm G (qi Z K)) (n + 1) 0 0 2 [(0, .ref (gb G + t)), (1, .int x1), (2, .int 0)] [] Z I J) : Cl G mX8_countWays (n + 1) 0 0 [.ref (gb G + t), .int x1] Z I J (qi Z K) :=
  Cl.of (by decide +kernel) (Nat.le_of_ble_eq_true rfl) (rX8_countWays_0 ht h)
set_option maxRecDepth 4000 in
theorem rX8_breaksAll_0 {G : jdG} {n rc rs : Nat} {Z : jdL} {I : jdI} {J : jdJ} {K : Int32 → jdI → jdJ → Prop} {t : Nat} {x1 : Int32} {x2 : Int32} (ht : zTies Z t) (h : Jd G mX8_breaksAll (jdFm G (qi Z K)) n rc rs 2 [(0, .ref (gb G + t)), (1, .int x1), (2, .int x2), (3, .int 0)] [] Z I J) : Jd G mX8_breaksAll (jdFm G (qi Z K)) n rc rs 0 [(0, .ref (gb G + t)), (1, .int x1), (2, .int x2)] [] Z I J := by
  refine jd_iconst (pc := 0) (v := 0) dX8_breaksAll_0 (by decide) ?_
  refine jd_istore_n (pc := 1) [(3, .int 0), (0, .ref (gb G + t)), (1, .int x1), (2, .int x2)] dX8_breaksAll_1 rfl (by decide) rfl ?_
  exact jd_lv (lv2 := [(0, .ref (gb G + t)), (1, .int x1), (2, .int x2), (3, .int 0)]) [1, 2, 3, 0] rfl h
set_option maxRecDepth 4000 in
theorem rX8_breaksAll_2 {G : jdG} {n rc rs : Nat} {Z : jdL} {I : jdI} {J : jdJ} {K : Int32 → jdI → jdJ → Prop} {t : Nat} {x1 : Int32} {x2 : Int32} {x3 : Int32} (ht : zTies Z t) (h : ((x2 ≤ x3 → K 1 I J) ∧ (¬ x2 ≤ x3 → (vp_in x3 70 ∧ ((¬ ((I (t + 4) (Int32.toNatClampNeg x3)) &&& x1) = 0 → Jd G mX8_breaksAll (jdFm G (qi Z K)) n rc rs 2 [(0, .ref (gb G + t)), (1, .int x1), (2, .int x2), (3, .int (x3 + 1))] [] Z I J) ∧ (((I (t + 4) (Int32.toNatClampNeg x3)) &&& x1) = 0 → K 0 I J)))))) : Jd G mX8_breaksAll (jdFm G (qi Z K)) n rc rs 2 [(0, .ref (gb G + t)), (1, .int x1), (2, .int x2), (3, .int x3)] [] Z I J := by
  refine jd_iload_n (pc := 2) 3 dX8_breaksAll_2 rfl rfl ?_
  refine jd_iload_n (pc := 3) 2 dX8_breaksAll_3 rfl rfl ?_
  refine jd_icmp_ge (pc := 4) 26 dX8_breaksAll_4 (by decide) (fun hc => ?_) (fun hc => ?_)
  · have h := h.1 hc
    refine jd_iconst (pc := 26) (v := 1) dX8_breaksAll_26 (by decide) ?_
    exact jd_iretK (pc := 27) (ty := .boolean) rfl (by decide) dX8_breaksAll_27 h
  · have h := h.2 hc
    refine jd_aload_n (pc := 7) 0 dX8_breaksAll_7 rfl rfl ?_
    refine jd_getR (pc := 8) (ci := 7) (k := 3) (r := (t + 4)) gX8_21 ht.1 rfl (zTies_p3 ht) dX8_breaksAll_8 ?_
    refine jd_iload_n (pc := 11) 3 dX8_breaksAll_11 rfl rfl ?_
    obtain ⟨hv1, h⟩ := h
    refine jd_iald (pc := 12) (len := 70) (zTies_a3 ht) hv1 dX8_breaksAll_12 ?_
    refine jd_iload_n (pc := 13) 1 dX8_breaksAll_13 rfl rfl ?_
    refine jd_iand (pc := 14) dX8_breaksAll_14 ?_
    refine jd_if_ne (pc := 15) 20 dX8_breaksAll_15 (by decide) (fun hc => ?_) (fun hc => ?_)
    · have h := h.1 hc
      refine jd_iinc (pc := 20) (v := (x3 + 1)) 3 [(3, .int (x3 + 1)), (0, .ref (gb G + t)), (1, .int x1), (2, .int x2)] dX8_breaksAll_20 rfl rfl (by decide) rfl ?_
      refine jd_goto (pc := 23) 2 dX8_breaksAll_23 (by decide) ?_
      exact jd_lv (lv2 := [(0, .ref (gb G + t)), (1, .int x1), (2, .int x2), (3, .int (x3 + 1))]) [1, 2, 3, 0] rfl h
    · have h := h.2 hc
      refine jd_iconst (pc := 18) (v := 0) dX8_breaksAll_18 (by decide) ?_
      exact jd_iretK (pc := 19) (ty := .boolean) rfl (by decide) dX8_breaksAll_19 h
theorem eX8_breaksAll {G : jdG} {n : Nat} {Z : jdL} {I : jdI} {J : jdJ} {K : Int32 → jdI → jdJ → Prop} {t : Nat} {x1 : Int32} {x2 : Int32} (ht : zTies Z t) (h : Jd G mX8_breaksAll (jdFm G (qi Z K)) n 0 0 2 [(0, .ref (gb G + t)), (1, .int x1), (2, .int x2), (3, .int 0)] [] Z I J) : Cl G mX8_breaksAll (n) 0 0 [.ref (gb G + t), .int x1, .int x2] Z I J (qi Z K) :=
  Cl.of (by decide +kernel) (Nat.le_of_ble_eq_true rfl) (rX8_breaksAll_0 ht h)
set_option maxRecDepth 4000 in
theorem rX8_tally_0 {G : jdG} {n rc rs : Nat} {Z : jdL} {I : jdI} {J : jdJ} {K : jdI → jdJ → Prop} {t : Nat} {x1 : Int32} (ht : zTies Z t) (h : Jd G mX8_tally (jdFm G (qv Z K)) n rc rs 2 [(0, .ref (gb G + t)), (1, .int x1), (2, .int 0)] [] Z I J) : Jd G mX8_tally (jdFm G (qv Z K)) n rc rs 0 [(0, .ref (gb G + t)), (1, .int x1)] [] Z I J := by
  refine jd_iconst (pc := 0) (v := 0) dX8_tally_0 (by decide) ?_
  refine jd_istore_n (pc := 1) [(2, .int 0), (0, .ref (gb G + t)), (1, .int x1)] dX8_tally_1 rfl (by decide) rfl ?_
  exact jd_lv (lv2 := [(0, .ref (gb G + t)), (1, .int x1), (2, .int 0)]) [1, 2, 0] rfl h
set_option maxRecDepth 4000 in
theorem rX8_tally_2 {G : jdG} {n rc rs : Nat} {Z : jdL} {I : jdI} {J : jdJ} {K : jdI → jdJ → Prop} {t : Nat} {x1 : Int32} {x2 : Int32} (ht : zTies Z t) (h : ((28 ≤ x2 → K I J) ∧ (¬ 28 ≤ x2 → (vp_in x2 28 ∧ (vp_in x2 28 ∧ Jd G mX8_tally (jdFm G (qv Z K)) n rc rs 2 [(0, .ref (gb G + t)), (1, .int x1), (2, .int (x2 + 1))] [] Z (uI I (t + 6) (Int32.toNatClampNeg x2) ((I (t + 6) (Int32.toNatClampNeg x2)) + ((x1 >>> (x2 &&& 31)) &&& 1))) J))))) : Jd G mX8_tally (jdFm G (qv Z K)) n rc rs 2 [(0, .ref (gb G + t)), (1, .int x1), (2, .int x2)] [] Z I J := by
  refine jd_iload_n (pc := 2) 2 dX8_tally_2 rfl rfl ?_
  refine jd_bipush (pc := 3) (v := 28) dX8_tally_3 (by decide) ?_
  refine jd_icmp_ge (pc := 5) 28 dX8_tally_5 (by decide) (fun hc => ?_) (fun hc => ?_)
  · have h := h.1 hc
    exact jd_vretK (pc := 28) rfl dX8_tally_28 h
  · have h := h.2 hc
    refine jd_aload_n (pc := 8) 0 dX8_tally_8 rfl rfl ?_
    refine jd_getR (pc := 9) (ci := 7) (k := 5) (r := (t + 6)) gX8_27 ht.1 rfl (zTies_p5 ht) dX8_tally_9 ?_
    refine jd_iload_n (pc := 12) 2 dX8_tally_12 rfl rfl ?_
    refine jd_dup2 (pc := 13) dX8_tally_13 rfl rfl ?_
    obtain ⟨hv1, h⟩ := h
    refine jd_iald (pc := 14) (len := 28) (zTies_a5 ht) hv1 dX8_tally_14 ?_
    refine jd_iload_n (pc := 15) 1 dX8_tally_15 rfl rfl ?_
    refine jd_iload_n (pc := 16) 2 dX8_tally_16 rfl rfl ?_
    refine jd_ishr (pc := 17) dX8_tally_17 ?_
    refine jd_iconst (pc := 18) (v := 1) dX8_tally_18 (by decide) ?_
    refine jd_iand (pc := 19) dX8_tally_19 ?_
    refine jd_iadd (pc := 20) dX8_tally_20 ?_
    obtain ⟨hv2, h⟩ := h
    refine jd_iast (pc := 21) (len := 28) (zTies_a5 ht) hv2 dX8_tally_21 ?_
    refine jd_iinc (pc := 22) (v := (x2 + 1)) 2 [(2, .int (x2 + 1)), (0, .ref (gb G + t)), (1, .int x1)] dX8_tally_22 rfl rfl (by decide) rfl ?_
    refine jd_goto (pc := 25) 2 dX8_tally_25 (by decide) ?_
    exact jd_lv (lv2 := [(0, .ref (gb G + t)), (1, .int x1), (2, .int (x2 + 1))]) [1, 2, 0] rfl h
theorem eX8_tally {G : jdG} {n : Nat} {Z : jdL} {I : jdI} {J : jdJ} {K : jdI → jdJ → Prop} {t : Nat} {x1 : Int32} (ht : zTies Z t) (h : Jd G mX8_tally (jdFm G (qv Z K)) n 0 0 2 [(0, .ref (gb G + t)), (1, .int x1), (2, .int 0)] [] Z I J) : Cl G mX8_tally (n) 0 0 [.ref (gb G + t), .int x1] Z I J (qv Z K) :=
  Cl.of (by decide +kernel) (Nat.le_of_ble_eq_true rfl) (rX8_tally_0 ht h)
set_option maxRecDepth 4000 in
theorem rX8_surest_0 {G : jdG} {n rc rs : Nat} {Z : jdL} {I : jdI} {J : jdJ} {K : Int32 → jdI → jdJ → Prop} {t : Nat} {x1 : Int32} (ht : zTies Z t) (h : Cl G mX8_countWays n 0 0 [.ref (gb G + t), .int x1] Z I J (qi Z (fun v2 I1 J1 => Cl G mX8_pairsIn n 0 0 [.ref (gb G + t), .int x1] Z I1 J1 (qi Z (fun v4 I3 J3 => Jd G mX8_surest (jdFm G (qi Z K)) (n + 1) rc rs 20 [(0, .ref (gb G + t)), (1, .int x1), (2, .int v4), (3, .int (-1)), (4, .int (-1)), (5, .int 0)] [] Z I3 J3))))) : Jd G mX8_surest (jdFm G (qi Z K)) (n + 1) rc rs 0 [(0, .ref (gb G + t)), (1, .int x1)] [] Z I J := by
  refine jd_aload_n (pc := 0) 0 dX8_surest_0 rfl rfl ?_
  refine jd_iload_n (pc := 1) 1 dX8_surest_1 rfl rfl ?_
  refine jd_callVi (pc := 2) (M2 := mX8_countWays) (id := t) (ci := 7) (T := TX8) (N := 11) (av := [.int x1]) kX8_countWays sX8_countWays rfl ht.1 lX8_120 rfl rfl (Nat.le_of_ble_eq_true rfl) dX8_surest_2 h ?_
  intro v2 I1 J1 h
  refine jd_pop (pc := 5) dX8_surest_5 rfl ?_
  refine jd_aload_n (pc := 6) 0 dX8_surest_6 rfl rfl ?_
  refine jd_iload_n (pc := 7) 1 dX8_surest_7 rfl rfl ?_
  refine jd_callVi (pc := 8) (M2 := mX8_pairsIn) (id := t) (ci := 7) (T := TX8) (N := 11) (av := [.int x1]) kX8_pairsIn sX8_pairsIn rfl ht.1 lX8_85 rfl rfl (Nat.le_of_ble_eq_true rfl) dX8_surest_8 h ?_
  intro v4 I3 J3 h
  refine jd_istore_n (pc := 11) [(2, .int v4), (0, .ref (gb G + t)), (1, .int x1)] dX8_surest_11 rfl (by decide) rfl ?_
  refine jd_iconst (pc := 12) (v := (-1)) dX8_surest_12 (by decide) ?_
  refine jd_istore_n (pc := 13) [(3, .int (-1)), (2, .int v4), (0, .ref (gb G + t)), (1, .int x1)] dX8_surest_13 rfl (by decide) rfl ?_
  refine jd_iconst (pc := 14) (v := (-1)) dX8_surest_14 (by decide) ?_
  refine jd_istore (pc := 15) [(4, .int (-1)), (3, .int (-1)), (2, .int v4), (0, .ref (gb G + t)), (1, .int x1)] dX8_surest_15 (by decide) rfl ?_
  refine jd_iconst (pc := 17) (v := 0) dX8_surest_17 (by decide) ?_
  refine jd_istore (pc := 18) [(5, .int 0), (4, .int (-1)), (3, .int (-1)), (2, .int v4), (0, .ref (gb G + t)), (1, .int x1)] dX8_surest_18 (by decide) rfl ?_
  exact jd_lv (lv2 := [(0, .ref (gb G + t)), (1, .int x1), (2, .int v4), (3, .int (-1)), (4, .int (-1)), (5, .int 0)]) [4, 5, 3, 2, 1, 0] rfl h
set_option maxRecDepth 4000 in
theorem rX8_surest_20 {G : jdG} {n rc rs : Nat} {Z : jdL} {I : jdI} {J : jdJ} {K : Int32 → jdI → jdJ → Prop} {t : Nat} {x1 : Int32} {x2 : Int32} {x3 : Int32} {x4 : Int32} {x5 : Int32} (ht : zTies Z t) (h : (((I t 6) ≤ x5 → K x3 I J) ∧ (¬ (I t 6) ≤ x5 → Jd G mX8_surest (jdFm G (qi Z K)) (n + 1) rc rs 35 [(0, .ref (gb G + t)), (1, .int x1), (2, .int x2), (3, .int x3), (4, .int x4), (5, .int x5), (6, .int (x5 + 1))] [] Z I J))) : Jd G mX8_surest (jdFm G (qi Z K)) (n + 1) rc rs 20 [(0, .ref (gb G + t)), (1, .int x1), (2, .int x2), (3, .int x3), (4, .int x4), (5, .int x5)] [] Z I J := by
  refine jd_iload (pc := 20) 5 dX8_surest_20 rfl ?_
  refine jd_aload_n (pc := 22) 0 dX8_surest_22 rfl rfl ?_
  refine jd_getI (pc := 23) (ci := 7) (k := 6) gX8_36 ht.1 rfl dX8_surest_23 ?_
  refine jd_icmp_ge (pc := 26) 104 dX8_surest_26 (by decide) (fun hc => ?_) (fun hc => ?_)
  · have h := h.1 hc
    refine jd_iload_n (pc := 104) 3 dX8_surest_104 rfl rfl ?_
    exact jd_iretK (pc := 105) rfl rfl dX8_surest_105 h
  · have h := h.2 hc
    refine jd_iload (pc := 29) 5 dX8_surest_29 rfl ?_
    refine jd_iconst (pc := 31) (v := 1) dX8_surest_31 (by decide) ?_
    refine jd_iadd (pc := 32) dX8_surest_32 ?_
    refine jd_istore (pc := 33) [(6, .int (x5 + 1)), (0, .ref (gb G + t)), (1, .int x1), (2, .int x2), (3, .int x3), (4, .int x4), (5, .int x5)] dX8_surest_33 (by decide) rfl ?_
    exact jd_lv (lv2 := [(0, .ref (gb G + t)), (1, .int x1), (2, .int x2), (3, .int x3), (4, .int x4), (5, .int x5), (6, .int (x5 + 1))]) [1, 2, 3, 4, 5, 6, 0] rfl h
set_option maxRecDepth 4000 in
theorem rX8_surest_35 {G : jdG} {n rc rs : Nat} {Z : jdL} {I : jdI} {J : jdJ} {K : Int32 → jdI → jdJ → Prop} {t : Nat} {x1 : Int32} {x2 : Int32} {x3 : Int32} {x4 : Int32} {x5 : Int32} {x6 : Int32} (ht : zTies Z t) (h : (((I t 6) ≤ x6 → Jd G mX8_surest (jdFm G (qi Z K)) (n + 1) rc rs 20 [(0, .ref (gb G + t)), (1, .int x1), (2, .int x2), (3, .int x3), (4, .int x4), (5, .int (x5 + 1))] [] Z I J) ∧ (¬ (I t 6) ≤ x6 → Cl G mX8_pairBit n 0 0 [.int x5, .int x6] Z I J (qi Z (fun v2 I1 J1 => ((((x2 >>> (v2 &&& 31)) &&& 1) = 0 → Jd G mX8_surest (jdFm G (qi Z K)) (n + 1) rc rs 35 [(0, .ref (gb G + t)), (1, .int x1), (2, .int x2), (3, .int x3), (4, .int x4), (5, .int x5), (6, .int (x6 + 1))] [] Z I1 J1) ∧ (¬ ((x2 >>> (v2 &&& 31)) &&& 1) = 0 → (vp_in v2 28 ∧ (((I1 (t + 6) (Int32.toNatClampNeg v2)) ≤ x4 → Jd G mX8_surest (jdFm G (qi Z K)) (n + 1) rc rs 35 [(0, .ref (gb G + t)), (1, .int x1), (2, .int x2), (3, .int x3), (4, .int x4), (5, .int x5), (6, .int (x6 + 1))] [] Z I1 J1) ∧ (¬ (I1 (t + 6) (Int32.toNatClampNeg v2)) ≤ x4 → (vp_in v2 28 ∧ Jd G mX8_surest (jdFm G (qi Z K)) (n + 1) rc rs 35 [(0, .ref (gb G + t)), (1, .int x1), (2, .int x2), (3, .int ((10 * x5) + x6)), (4, .int (I1 (t + 6) (Int32.toNatClampNeg v2))), (5, .int x5), (6, .int (x6 + 1))] [] Z I1 J1))))))))))) : Jd G mX8_surest (jdFm G (qi Z K)) (n + 1) rc rs 35 [(0, .ref (gb G + t)), (1, .int x1), (2, .int x2), (3, .int x3), (4, .int x4), (5, .int x5), (6, .int x6)] [] Z I J := by
  refine jd_iload (pc := 35) 6 dX8_surest_35 rfl ?_
  refine jd_aload_n (pc := 37) 0 dX8_surest_37 rfl rfl ?_
  refine jd_getI (pc := 38) (ci := 7) (k := 6) gX8_36 ht.1 rfl dX8_surest_38 ?_
  refine jd_icmp_ge (pc := 41) 98 dX8_surest_41 (by decide) (fun hc => ?_) (fun hc => ?_)
  · have h := h.1 hc
    refine jd_iinc (pc := 98) (v := (x5 + 1)) 5 [(5, .int (x5 + 1)), (0, .ref (gb G + t)), (1, .int x1), (2, .int x2), (3, .int x3), (4, .int x4), (6, .int x6)] dX8_surest_98 rfl rfl (by decide) rfl ?_
    refine jd_goto (pc := 101) 20 dX8_surest_101 (by decide) ?_
    exact jd_lv (lv2 := [(0, .ref (gb G + t)), (1, .int x1), (2, .int x2), (3, .int x3), (4, .int x4), (5, .int (x5 + 1))]) [1, 2, 3, 4, 5, 0] rfl h
  · have h := h.2 hc
    refine jd_iload (pc := 44) 5 dX8_surest_44 rfl ?_
    refine jd_iload (pc := 46) 6 dX8_surest_46 rfl ?_
    refine jd_callSi (pc := 48) (M2 := mX8_pairBit) (av := [.int x5, .int x6]) kX8_pairBit sX8_pairBit lX8_81 rfl rfl (Nat.le_of_ble_eq_true rfl) dX8_surest_48 h ?_
    intro v2 I1 J1 h
    refine jd_istore (pc := 51) [(7, .int v2), (0, .ref (gb G + t)), (1, .int x1), (2, .int x2), (3, .int x3), (4, .int x4), (5, .int x5), (6, .int x6)] dX8_surest_51 (by decide) rfl ?_
    refine jd_iload_n (pc := 53) 3 dX8_surest_53 rfl rfl ?_
    refine jd_iload (pc := 54) 0 dX8_surest_54 rfl ?_
    refine jd_ishr (pc := 56) dX8_surest_56 ?_
    refine jd_iconst (pc := 57) (v := 1) dX8_surest_57 (by decide) ?_
    refine jd_iand (pc := 58) dX8_surest_58 ?_
    refine jd_if_eq (pc := 59) 92 dX8_surest_59 (by decide) (fun hc => ?_) (fun hc => ?_)
    · have h := h.1 hc
      refine jd_iinc (pc := 92) (v := (x6 + 1)) 7 [(6, .int (x6 + 1)), (7, .int v2), (0, .ref (gb G + t)), (1, .int x1), (2, .int x2), (3, .int x3), (4, .int x4), (5, .int x5)] dX8_surest_92 rfl rfl (by decide) rfl ?_
      refine jd_goto (pc := 95) 35 dX8_surest_95 (by decide) ?_
      exact jd_lv (lv2 := [(0, .ref (gb G + t)), (1, .int x1), (2, .int x2), (3, .int x3), (4, .int x4), (5, .int x5), (6, .int (x6 + 1))]) [2, 3, 4, 5, 6, 7, 0] rfl h
    · have h := h.2 hc
      refine jd_aload_n (pc := 62) 1 dX8_surest_62 rfl rfl ?_
      refine jd_getR (pc := 63) (ci := 7) (k := 5) (r := (t + 6)) gX8_27 ht.1 rfl (zTies_p5 ht) dX8_surest_63 ?_
      refine jd_iload (pc := 66) 0 dX8_surest_66 rfl ?_
      obtain ⟨hv3, h⟩ := h
      refine jd_iald (pc := 68) (len := 28) (zTies_a5 ht) hv3 dX8_surest_68 ?_
      refine jd_iload (pc := 69) 5 dX8_surest_69 rfl ?_
      refine jd_icmp_le (pc := 71) 92 dX8_surest_71 (by decide) (fun hc => ?_) (fun hc => ?_)
      · have h := h.1 hc
        refine jd_iinc (pc := 92) (v := (x6 + 1)) 7 [(6, .int (x6 + 1)), (7, .int v2), (0, .ref (gb G + t)), (1, .int x1), (2, .int x2), (3, .int x3), (4, .int x4), (5, .int x5)] dX8_surest_92 rfl rfl (by decide) rfl ?_
        refine jd_goto (pc := 95) 35 dX8_surest_95 (by decide) ?_
        exact jd_lv (lv2 := [(0, .ref (gb G + t)), (1, .int x1), (2, .int x2), (3, .int x3), (4, .int x4), (5, .int x5), (6, .int (x6 + 1))]) [2, 3, 4, 5, 6, 7, 0] rfl h
      · have h := h.2 hc
        refine jd_aload_n (pc := 74) 1 dX8_surest_74 rfl rfl ?_
        refine jd_getR (pc := 75) (ci := 7) (k := 5) (r := (t + 6)) gX8_27 ht.1 rfl (zTies_p5 ht) dX8_surest_75 ?_
        refine jd_iload (pc := 78) 0 dX8_surest_78 rfl ?_
        obtain ⟨hv4, h⟩ := h
        refine jd_iald (pc := 80) (len := 28) (zTies_a5 ht) hv4 dX8_surest_80 ?_
        refine jd_istore (pc := 81) [(4, .int (I1 (t + 6) (Int32.toNatClampNeg v2))), (7, .int v2), (0, .ref (gb G + t)), (1, .int x1), (2, .int x2), (3, .int x3), (5, .int x5), (6, .int x6)] dX8_surest_81 (by decide) rfl ?_
        refine jd_bipush (pc := 83) (v := 10) dX8_surest_83 (by decide) ?_
        refine jd_iload (pc := 85) 6 dX8_surest_85 rfl ?_
        refine jd_imul (pc := 87) dX8_surest_87 ?_
        refine jd_iload (pc := 88) 7 dX8_surest_88 rfl ?_
        refine jd_iadd (pc := 90) dX8_surest_90 ?_
        refine jd_istore_n (pc := 91) [(3, .int ((10 * x5) + x6)), (4, .int (I1 (t + 6) (Int32.toNatClampNeg v2))), (7, .int v2), (0, .ref (gb G + t)), (1, .int x1), (2, .int x2), (5, .int x5), (6, .int x6)] dX8_surest_91 rfl (by decide) rfl ?_
        refine jd_iinc (pc := 92) (v := (x6 + 1)) 7 [(6, .int (x6 + 1)), (3, .int ((10 * x5) + x6)), (4, .int (I1 (t + 6) (Int32.toNatClampNeg v2))), (7, .int v2), (0, .ref (gb G + t)), (1, .int x1), (2, .int x2), (5, .int x5)] dX8_surest_92 rfl rfl (by decide) rfl ?_
        refine jd_goto (pc := 95) 35 dX8_surest_95 (by decide) ?_
        exact jd_lv (lv2 := [(0, .ref (gb G + t)), (1, .int x1), (2, .int x2), (3, .int ((10 * x5) + x6)), (4, .int (I1 (t + 6) (Int32.toNatClampNeg v2))), (5, .int x5), (6, .int (x6 + 1))]) [4, 5, 6, 1, 2, 7, 0] rfl h
theorem eX8_surest {G : jdG} {n : Nat} {Z : jdL} {I : jdI} {J : jdJ} {K : Int32 → jdI → jdJ → Prop} {t : Nat} {x1 : Int32} (ht : zTies Z t) (h : Cl G mX8_countWays n 0 0 [.ref (gb G + t), .int x1] Z I J (qi Z (fun v2 I1 J1 => Cl G mX8_pairsIn n 0 0 [.ref (gb G + t), .int x1] Z I1 J1 (qi Z (fun v4 I3 J3 => Jd G mX8_surest (jdFm G (qi Z K)) (n + 1) 0 0 20 [(0, .ref (gb G + t)), (1, .int x1), (2, .int v4), (3, .int (-1)), (4, .int (-1)), (5, .int 0)] [] Z I3 J3))))) : Cl G mX8_surest (n + 1) 0 0 [.ref (gb G + t), .int x1] Z I J (qi Z K) :=
  Cl.of (by decide +kernel) (Nat.le_of_ble_eq_true rfl) (rX8_surest_0 ht h)
set_option maxRecDepth 4000 in
theorem rX9_has_0 {G : jdG} {n rc rs : Nat} {Z : jdL} {I : jdI} {J : jdJ} {K : Int32 → jdI → jdJ → Prop} {t : Nat} {x1 : Int32} (ht : zTown Z t) (h : ((x1 < 0 → K 0 I J) ∧ (¬ x1 < 0 → (((I t 3) ≤ x1 → K 0 I J) ∧ (¬ (I t 3) ≤ x1 → K 1 I J))))) : Jd G mX9_has (jdFm G (qi Z K)) n rc rs 0 [(0, .ref (gb G + t)), (1, .int x1)] [] Z I J := by
  refine jd_iload_n (pc := 0) 1 dX9_has_0 rfl rfl ?_
  refine jd_if_lt (pc := 1) 16 dX9_has_1 (by decide) (fun hc => ?_) (fun hc => ?_)
  · have h := h.1 hc
    refine jd_iconst (pc := 16) (v := 0) dX9_has_16 (by decide) ?_
    exact jd_iretK (pc := 17) (ty := .boolean) rfl (by decide) dX9_has_17 h
  · have h := h.2 hc
    refine jd_iload_n (pc := 4) 1 dX9_has_4 rfl rfl ?_
    refine jd_aload_n (pc := 5) 0 dX9_has_5 rfl rfl ?_
    refine jd_getI (pc := 6) (ci := 8) (k := 3) gX9_28 ht.1 rfl dX9_has_6 ?_
    refine jd_icmp_ge (pc := 9) 16 dX9_has_9 (by decide) (fun hc => ?_) (fun hc => ?_)
    · have h := h.1 hc
      refine jd_iconst (pc := 16) (v := 0) dX9_has_16 (by decide) ?_
      exact jd_iretK (pc := 17) (ty := .boolean) rfl (by decide) dX9_has_17 h
    · have h := h.2 hc
      refine jd_iconst (pc := 12) (v := 1) dX9_has_12 (by decide) ?_
      refine jd_goto (pc := 13) 17 dX9_has_13 (by decide) ?_
      exact jd_iretK (pc := 17) (ty := .boolean) rfl (by decide) dX9_has_17 h
theorem eX9_has {G : jdG} {n : Nat} {Z : jdL} {I : jdI} {J : jdJ} {K : Int32 → jdI → jdJ → Prop} {t : Nat} {x1 : Int32} (ht : zTown Z t) (h : ((x1 < 0 → K 0 I J) ∧ (¬ x1 < 0 → (((I t 3) ≤ x1 → K 0 I J) ∧ (¬ (I t 3) ≤ x1 → K 1 I J))))) : Cl G mX9_has (n) 0 0 [.ref (gb G + t), .int x1] Z I J (qi Z K) :=
  Cl.of (by decide +kernel) (Nat.le_of_ble_eq_true rfl) (rX9_has_0 ht h)
set_option maxRecDepth 4000 in
theorem rX9_hasTwo_0 {G : jdG} {n rc rs : Nat} {Z : jdL} {I : jdI} {J : jdJ} {K : Int32 → jdI → jdJ → Prop} {t : Nat} {x1 : Int32} {x2 : Int32} (ht : zTown Z t) (h : Cl G mX9_has n 0 0 [.ref (gb G + t), .int x1] Z I J (qi Z (fun v2 I1 J1 => ((v2 = 0 → K 0 I1 J1) ∧ (¬ v2 = 0 → Cl G mX9_has n 0 0 [.ref (gb G + t), .int x2] Z I1 J1 (qi Z (fun v4 I3 J3 => ((v4 = 0 → K 0 I3 J3) ∧ (¬ v4 = 0 → ((x1 = x2 → K 0 I3 J3) ∧ (¬ x1 = x2 → K 1 I3 J3))))))))))) : Jd G mX9_hasTwo (jdFm G (qi Z K)) (n + 1) rc rs 0 [(0, .ref (gb G + t)), (1, .int x1), (2, .int x2)] [] Z I J := by
  refine jd_aload_n (pc := 0) 0 dX9_hasTwo_0 rfl rfl ?_
  refine jd_iload_n (pc := 1) 1 dX9_hasTwo_1 rfl rfl ?_
  refine jd_callVi (pc := 2) (M2 := mX9_has) (id := t) (ci := 8) (T := TX9) (N := 10) (av := [.int x1]) kX9_has sX9_has rfl ht.1 lX9_31 rfl rfl (Nat.le_of_ble_eq_true rfl) dX9_hasTwo_2 h ?_
  intro v2 I1 J1 h
  refine jd_if_eq (pc := 5) 25 dX9_hasTwo_5 (by decide) (fun hc => ?_) (fun hc => ?_)
  · have h := h.1 hc
    refine jd_iconst (pc := 25) (v := 0) dX9_hasTwo_25 (by decide) ?_
    exact jd_iretK (pc := 26) (ty := .boolean) rfl (by decide) dX9_hasTwo_26 h
  · have h := h.2 hc
    refine jd_aload_n (pc := 8) 0 dX9_hasTwo_8 rfl rfl ?_
    refine jd_iload_n (pc := 9) 2 dX9_hasTwo_9 rfl rfl ?_
    refine jd_callVi (pc := 10) (M2 := mX9_has) (id := t) (ci := 8) (T := TX9) (N := 10) (av := [.int x2]) kX9_has sX9_has rfl ht.1 lX9_31 rfl rfl (Nat.le_of_ble_eq_true rfl) dX9_hasTwo_10 h ?_
    intro v4 I3 J3 h
    refine jd_if_eq (pc := 13) 25 dX9_hasTwo_13 (by decide) (fun hc => ?_) (fun hc => ?_)
    · have h := h.1 hc
      refine jd_iconst (pc := 25) (v := 0) dX9_hasTwo_25 (by decide) ?_
      exact jd_iretK (pc := 26) (ty := .boolean) rfl (by decide) dX9_hasTwo_26 h
    · have h := h.2 hc
      refine jd_iload_n (pc := 16) 1 dX9_hasTwo_16 rfl rfl ?_
      refine jd_iload_n (pc := 17) 2 dX9_hasTwo_17 rfl rfl ?_
      refine jd_icmp_eq (pc := 18) 25 dX9_hasTwo_18 (by decide) (fun hc => ?_) (fun hc => ?_)
      · have h := h.1 hc
        refine jd_iconst (pc := 25) (v := 0) dX9_hasTwo_25 (by decide) ?_
        exact jd_iretK (pc := 26) (ty := .boolean) rfl (by decide) dX9_hasTwo_26 h
      · have h := h.2 hc
        refine jd_iconst (pc := 21) (v := 1) dX9_hasTwo_21 (by decide) ?_
        refine jd_goto (pc := 22) 26 dX9_hasTwo_22 (by decide) ?_
        exact jd_iretK (pc := 26) (ty := .boolean) rfl (by decide) dX9_hasTwo_26 h
theorem eX9_hasTwo {G : jdG} {n : Nat} {Z : jdL} {I : jdI} {J : jdJ} {K : Int32 → jdI → jdJ → Prop} {t : Nat} {x1 : Int32} {x2 : Int32} (ht : zTown Z t) (h : Cl G mX9_has n 0 0 [.ref (gb G + t), .int x1] Z I J (qi Z (fun v2 I1 J1 => ((v2 = 0 → K 0 I1 J1) ∧ (¬ v2 = 0 → Cl G mX9_has n 0 0 [.ref (gb G + t), .int x2] Z I1 J1 (qi Z (fun v4 I3 J3 => ((v4 = 0 → K 0 I3 J3) ∧ (¬ v4 = 0 → ((x1 = x2 → K 0 I3 J3) ∧ (¬ x1 = x2 → K 1 I3 J3))))))))))) : Cl G mX9_hasTwo (n + 1) 0 0 [.ref (gb G + t), .int x1, .int x2] Z I J (qi Z K) :=
  Cl.of (by decide +kernel) (Nat.le_of_ble_eq_true rfl) (rX9_hasTwo_0 ht h)
set_option maxRecDepth 4000 in
theorem rX9_hasAll_0 {G : jdG} {n rc rs : Nat} {Z : jdL} {I : jdI} {J : jdJ} {K : Int32 → jdI → jdJ → Prop} {t : Nat} {x1 : Int32} (ht : zTown Z t) (h : ((x1 < 0 → K 0 I J) ∧ (¬ x1 < 0 → Cl G mX9_everybody n 0 0 [.ref (gb G + t)] Z I J (qi Z (fun v2 I1 J1 => ((v2 < x1 → K 0 I1 J1) ∧ (¬ v2 < x1 → K 1 I1 J1))))))) : Jd G mX9_hasAll (jdFm G (qi Z K)) (n + 1) rc rs 0 [(0, .ref (gb G + t)), (1, .int x1)] [] Z I J := by
  refine jd_iload_n (pc := 0) 1 dX9_hasAll_0 rfl rfl ?_
  refine jd_if_lt (pc := 1) 16 dX9_hasAll_1 (by decide) (fun hc => ?_) (fun hc => ?_)
  · have h := h.1 hc
    refine jd_iconst (pc := 16) (v := 0) dX9_hasAll_16 (by decide) ?_
    exact jd_iretK (pc := 17) (ty := .boolean) rfl (by decide) dX9_hasAll_17 h
  · have h := h.2 hc
    refine jd_iload_n (pc := 4) 1 dX9_hasAll_4 rfl rfl ?_
    refine jd_aload_n (pc := 5) 0 dX9_hasAll_5 rfl rfl ?_
    refine jd_callVi (pc := 6) (M2 := mX9_everybody) (id := t) (ci := 8) (T := TX9) (N := 10) (av := []) kX9_everybody sX9_everybody rfl ht.1 lX9_35 rfl rfl (Nat.le_of_ble_eq_true rfl) dX9_hasAll_6 h ?_
    intro v2 I1 J1 h
    refine jd_icmp_gt (pc := 9) 16 dX9_hasAll_9 (by decide) (fun hc => ?_) (fun hc => ?_)
    · have h := h.1 hc
      refine jd_iconst (pc := 16) (v := 0) dX9_hasAll_16 (by decide) ?_
      exact jd_iretK (pc := 17) (ty := .boolean) rfl (by decide) dX9_hasAll_17 h
    · have h := h.2 hc
      refine jd_iconst (pc := 12) (v := 1) dX9_hasAll_12 (by decide) ?_
      refine jd_goto (pc := 13) 17 dX9_hasAll_13 (by decide) ?_
      exact jd_iretK (pc := 17) (ty := .boolean) rfl (by decide) dX9_hasAll_17 h
theorem eX9_hasAll {G : jdG} {n : Nat} {Z : jdL} {I : jdI} {J : jdJ} {K : Int32 → jdI → jdJ → Prop} {t : Nat} {x1 : Int32} (ht : zTown Z t) (h : ((x1 < 0 → K 0 I J) ∧ (¬ x1 < 0 → Cl G mX9_everybody n 0 0 [.ref (gb G + t)] Z I J (qi Z (fun v2 I1 J1 => ((v2 < x1 → K 0 I1 J1) ∧ (¬ v2 < x1 → K 1 I1 J1))))))) : Cl G mX9_hasAll (n + 1) 0 0 [.ref (gb G + t), .int x1] Z I J (qi Z K) :=
  Cl.of (by decide +kernel) (Nat.le_of_ble_eq_true rfl) (rX9_hasAll_0 ht h)
set_option maxRecDepth 4000 in
theorem rX9_everybody_0 {G : jdG} {n rc rs : Nat} {Z : jdL} {I : jdI} {J : jdJ} {K : Int32 → jdI → jdJ → Prop} {t : Nat} (ht : zTown Z t) (h : K ((1 <<< ((I t 3) &&& 31)) - 1) I J) : Jd G mX9_everybody (jdFm G (qi Z K)) n rc rs 0 [(0, .ref (gb G + t))] [] Z I J := by
  refine jd_iconst (pc := 0) (v := 1) dX9_everybody_0 (by decide) ?_
  refine jd_aload_n (pc := 1) 0 dX9_everybody_1 rfl rfl ?_
  refine jd_getI (pc := 2) (ci := 8) (k := 3) gX9_28 ht.1 rfl dX9_everybody_2 ?_
  refine jd_ishl (pc := 5) dX9_everybody_5 ?_
  refine jd_iconst (pc := 6) (v := 1) dX9_everybody_6 (by decide) ?_
  refine jd_isub (pc := 7) dX9_everybody_7 ?_
  exact jd_iretK (pc := 8) rfl rfl dX9_everybody_8 h
theorem eX9_everybody {G : jdG} {n : Nat} {Z : jdL} {I : jdI} {J : jdJ} {K : Int32 → jdI → jdJ → Prop} {t : Nat} (ht : zTown Z t) (h : K ((1 <<< ((I t 3) &&& 31)) - 1) I J) : Cl G mX9_everybody (n) 0 0 [.ref (gb G + t)] Z I J (qi Z K) :=
  Cl.of (by decide +kernel) (Nat.le_of_ble_eq_true rfl) (rX9_everybody_0 ht h)
set_option maxRecDepth 4000 in
theorem rX9_since_0 {G : jdG} {n rc rs : Nat} {Z : jdL} {I : jdI} {J : jdJ} {K : Int32 → jdI → jdJ → Prop} {t : Nat} {x1 : Int32} {x2 : Int32} (ht : zTown Z t) (h : (vp_in ((x1 * 7) + x2) 49 ∧ K (I (t + 3) (Int32.toNatClampNeg ((x1 * 7) + x2))) I J)) : Jd G mX9_since (jdFm G (qi Z K)) n rc rs 0 [(0, .ref (gb G + t)), (1, .int x1), (2, .int x2)] [] Z I J := by
  refine jd_aload_n (pc := 0) 0 dX9_since_0 rfl rfl ?_
  refine jd_getR (pc := 1) (ci := 8) (k := 2) (r := (t + 3)) gX9_18 ht.1 rfl (zTown_p2 ht) dX9_since_1 ?_
  refine jd_iload_n (pc := 4) 1 dX9_since_4 rfl rfl ?_
  refine jd_bipush (pc := 5) (v := 7) dX9_since_5 (by decide) ?_
  refine jd_imul (pc := 7) dX9_since_7 ?_
  refine jd_iload_n (pc := 8) 2 dX9_since_8 rfl rfl ?_
  refine jd_iadd (pc := 9) dX9_since_9 ?_
  obtain ⟨hv1, h⟩ := h
  refine jd_iald (pc := 10) (len := 49) (zTown_a2 ht) hv1 dX9_since_10 ?_
  exact jd_iretK (pc := 11) rfl rfl dX9_since_11 h
theorem eX9_since {G : jdG} {n : Nat} {Z : jdL} {I : jdI} {J : jdJ} {K : Int32 → jdI → jdJ → Prop} {t : Nat} {x1 : Int32} {x2 : Int32} (ht : zTown Z t) (h : (vp_in ((x1 * 7) + x2) 49 ∧ K (I (t + 3) (Int32.toNatClampNeg ((x1 * 7) + x2))) I J)) : Cl G mX9_since (n) 0 0 [.ref (gb G + t), .int x1, .int x2] Z I J (qi Z K) :=
  Cl.of (by decide +kernel) (Nat.le_of_ble_eq_true rfl) (rX9_since_0 ht h)
set_option maxRecDepth 4000 in
theorem rX9_tie_0 {G : jdG} {n rc rs : Nat} {Z : jdL} {I : jdI} {J : jdJ} {K : jdI → jdJ → Prop} {t : Nat} {x1 : Int32} {x2 : Int32} {x3 : Int32} (ht : zTown Z t) (h : (vp_in ((x1 * 7) + x2) 49 ∧ (vp_in ((x2 * 7) + x1) 49 ∧ K (uI (uI I (t + 3) (Int32.toNatClampNeg ((x1 * 7) + x2)) x3) (t + 3) (Int32.toNatClampNeg ((x2 * 7) + x1)) x3) J))) : Jd G mX9_tie (jdFm G (qv Z K)) n rc rs 0 [(0, .ref (gb G + t)), (1, .int x1), (2, .int x2), (3, .int x3)] [] Z I J := by
  refine jd_aload_n (pc := 0) 0 dX9_tie_0 rfl rfl ?_
  refine jd_getR (pc := 1) (ci := 8) (k := 2) (r := (t + 3)) gX9_18 ht.1 rfl (zTown_p2 ht) dX9_tie_1 ?_
  refine jd_iload_n (pc := 4) 1 dX9_tie_4 rfl rfl ?_
  refine jd_bipush (pc := 5) (v := 7) dX9_tie_5 (by decide) ?_
  refine jd_imul (pc := 7) dX9_tie_7 ?_
  refine jd_iload_n (pc := 8) 2 dX9_tie_8 rfl rfl ?_
  refine jd_iadd (pc := 9) dX9_tie_9 ?_
  refine jd_iload_n (pc := 10) 3 dX9_tie_10 rfl rfl ?_
  obtain ⟨hv1, h⟩ := h
  refine jd_iast (pc := 11) (len := 49) (zTown_a2 ht) hv1 dX9_tie_11 ?_
  refine jd_aload_n (pc := 12) 0 dX9_tie_12 rfl rfl ?_
  refine jd_getR (pc := 13) (ci := 8) (k := 2) (r := (t + 3)) gX9_18 ht.1 rfl (zTown_p2 ht) dX9_tie_13 ?_
  refine jd_iload_n (pc := 16) 2 dX9_tie_16 rfl rfl ?_
  refine jd_bipush (pc := 17) (v := 7) dX9_tie_17 (by decide) ?_
  refine jd_imul (pc := 19) dX9_tie_19 ?_
  refine jd_iload_n (pc := 20) 1 dX9_tie_20 rfl rfl ?_
  refine jd_iadd (pc := 21) dX9_tie_21 ?_
  refine jd_iload_n (pc := 22) 3 dX9_tie_22 rfl rfl ?_
  obtain ⟨hv2, h⟩ := h
  refine jd_iast (pc := 23) (len := 49) (zTown_a2 ht) hv2 dX9_tie_23 ?_
  exact jd_vretK (pc := 24) rfl dX9_tie_24 h
theorem eX9_tie {G : jdG} {n : Nat} {Z : jdL} {I : jdI} {J : jdJ} {K : jdI → jdJ → Prop} {t : Nat} {x1 : Int32} {x2 : Int32} {x3 : Int32} (ht : zTown Z t) (h : (vp_in ((x1 * 7) + x2) 49 ∧ (vp_in ((x2 * 7) + x1) 49 ∧ K (uI (uI I (t + 3) (Int32.toNatClampNeg ((x1 * 7) + x2)) x3) (t + 3) (Int32.toNatClampNeg ((x2 * 7) + x1)) x3) J))) : Cl G mX9_tie (n) 0 0 [.ref (gb G + t), .int x1, .int x2, .int x3] Z I J (qv Z K) :=
  Cl.of (by decide +kernel) (Nat.le_of_ble_eq_true rfl) (rX9_tie_0 ht h)
set_option maxRecDepth 4000 in
theorem rX9_add_0 {G : jdG} {n rc rs : Nat} {Z : jdL} {I : jdI} {J : jdJ} {K : Int32 → jdI → jdJ → Prop} {t : Nat} {x1 : Int32} {x2 : Int32} (ht : zTown Z t) (h : (((I t 3) < 7 → (vp_in (I t 3) 7 ∧ (vp_in (I t 3) 7 ∧ Jd G mX9_add (jdFm G (qi Z K)) (n + 1) rc rs 43 [(0, .ref (gb G + t)), (1, .int x1), (2, .int x2), (3, .int (I t 3)), (4, .int 0)] [] Z (uI (uI (uI I t 3 ((I t 3) + 1)) (t + 1) (Int32.toNatClampNeg (I t 3)) x1) (t + 2) (Int32.toNatClampNeg (I t 3)) x2) J))) ∧ (¬ (I t 3) < 7 → K (-1) I J))) : Jd G mX9_add (jdFm G (qi Z K)) (n + 1) rc rs 0 [(0, .ref (gb G + t)), (1, .int x1), (2, .int x2)] [] Z I J := by
  refine jd_aload_n (pc := 0) 0 dX9_add_0 rfl rfl ?_
  refine jd_getI (pc := 1) (ci := 8) (k := 3) gX9_28 ht.1 rfl dX9_add_1 ?_
  refine jd_bipush (pc := 4) (v := 7) dX9_add_4 (by decide) ?_
  refine jd_icmp_lt (pc := 6) 11 dX9_add_6 (by decide) (fun hc => ?_) (fun hc => ?_)
  · have h := h.1 hc
    refine jd_aload_n (pc := 11) 0 dX9_add_11 rfl rfl ?_
    refine jd_getI (pc := 12) (ci := 8) (k := 3) gX9_28 ht.1 rfl dX9_add_12 ?_
    refine jd_istore_n (pc := 15) [(3, .int (I t 3)), (0, .ref (gb G + t)), (1, .int x1), (2, .int x2)] dX9_add_15 rfl (by decide) rfl ?_
    refine jd_aload_n (pc := 16) 1 dX9_add_16 rfl rfl ?_
    refine jd_dup (pc := 17) dX9_add_17 rfl ?_
    refine jd_getI (pc := 18) (ci := 8) (k := 3) gX9_28 ht.1 rfl dX9_add_18 ?_
    refine jd_iconst (pc := 21) (v := 1) dX9_add_21 (by decide) ?_
    refine jd_iadd (pc := 22) dX9_add_22 ?_
    refine jd_putI (pc := 23) (ci := 8) (k := 3) pX9_28 ht.1 rfl rfl rfl dX9_add_23 ?_
    refine jd_aload_n (pc := 26) 1 dX9_add_26 rfl rfl ?_
    refine jd_getR (pc := 27) (ci := 8) (k := 0) (r := (t + 1)) gX9_9 ht.1 rfl (zTown_p0 ht) dX9_add_27 ?_
    refine jd_iload_n (pc := 30) 0 dX9_add_30 rfl rfl ?_
    refine jd_iload_n (pc := 31) 2 dX9_add_31 rfl rfl ?_
    obtain ⟨hv1, h⟩ := h
    refine jd_iast (pc := 32) (len := 7) (zTown_a0 ht) hv1 dX9_add_32 ?_
    refine jd_aload_n (pc := 33) 1 dX9_add_33 rfl rfl ?_
    refine jd_getR (pc := 34) (ci := 8) (k := 1) (r := (t + 2)) gX9_15 ht.1 rfl (zTown_p1 ht) dX9_add_34 ?_
    refine jd_iload_n (pc := 37) 0 dX9_add_37 rfl rfl ?_
    refine jd_iload_n (pc := 38) 3 dX9_add_38 rfl rfl ?_
    obtain ⟨hv2, h⟩ := h
    refine jd_iast (pc := 39) (len := 7) (zTown_a1 ht) hv2 dX9_add_39 ?_
    refine jd_iconst (pc := 40) (v := 0) dX9_add_40 (by decide) ?_
    refine jd_istore (pc := 41) [(4, .int 0), (3, .int (I t 3)), (0, .ref (gb G + t)), (1, .int x1), (2, .int x2)] dX9_add_41 (by decide) rfl ?_
    exact jd_lv (lv2 := [(0, .ref (gb G + t)), (1, .int x1), (2, .int x2), (3, .int (I t 3)), (4, .int 0)]) [2, 3, 4, 1, 0] rfl h
  · have h := h.2 hc
    refine jd_iconst (pc := 9) (v := (-1)) dX9_add_9 (by decide) ?_
    exact jd_iretK (pc := 10) rfl rfl dX9_add_10 h
set_option maxRecDepth 4000 in
theorem rX9_add_43 {G : jdG} {n rc rs : Nat} {Z : jdL} {I : jdI} {J : jdJ} {K : Int32 → jdI → jdJ → Prop} {t : Nat} {x1 : Int32} {x2 : Int32} {x3 : Int32} {x4 : Int32} (ht : zTown Z t) (h : ((x3 ≤ x4 → K x3 I J) ∧ (¬ x3 ≤ x4 → Cl G mX9_tie n 0 0 [.ref (gb G + t), .int x3, .int x4, .int (-1)] Z I J (qv Z (fun I1 J1 => Jd G mX9_add (jdFm G (qi Z K)) (n + 1) rc rs 43 [(0, .ref (gb G + t)), (1, .int x1), (2, .int x2), (3, .int x3), (4, .int (x4 + 1))] [] Z I1 J1))))) : Jd G mX9_add (jdFm G (qi Z K)) (n + 1) rc rs 43 [(0, .ref (gb G + t)), (1, .int x1), (2, .int x2), (3, .int x3), (4, .int x4)] [] Z I J := by
  refine jd_iload (pc := 43) 4 dX9_add_43 rfl ?_
  refine jd_iload_n (pc := 45) 3 dX9_add_45 rfl rfl ?_
  refine jd_icmp_ge (pc := 46) 63 dX9_add_46 (by decide) (fun hc => ?_) (fun hc => ?_)
  · have h := h.1 hc
    refine jd_iload_n (pc := 63) 3 dX9_add_63 rfl rfl ?_
    exact jd_iretK (pc := 64) rfl rfl dX9_add_64 h
  · have h := h.2 hc
    refine jd_aload_n (pc := 49) 0 dX9_add_49 rfl rfl ?_
    refine jd_iload_n (pc := 50) 3 dX9_add_50 rfl rfl ?_
    refine jd_iload (pc := 51) 4 dX9_add_51 rfl ?_
    refine jd_iconst (pc := 53) (v := (-1)) dX9_add_53 (by decide) ?_
    refine jd_callVv (pc := 54) (M2 := mX9_tie) (id := t) (ci := 8) (T := TX9) (N := 10) (av := [.int x3, .int x4, .int (-1)]) kX9_tie sX9_tie rfl ht.1 lX9_39 rfl rfl (Nat.le_of_ble_eq_true rfl) dX9_add_54 h ?_
    intro I1 J1 h
    refine jd_iinc (pc := 57) (v := (x4 + 1)) 4 [(4, .int (x4 + 1)), (0, .ref (gb G + t)), (1, .int x1), (2, .int x2), (3, .int x3)] dX9_add_57 rfl rfl (by decide) rfl ?_
    refine jd_goto (pc := 60) 43 dX9_add_60 (by decide) ?_
    exact jd_lv (lv2 := [(0, .ref (gb G + t)), (1, .int x1), (2, .int x2), (3, .int x3), (4, .int (x4 + 1))]) [1, 2, 3, 4, 0] rfl h
theorem eX9_add {G : jdG} {n : Nat} {Z : jdL} {I : jdI} {J : jdJ} {K : Int32 → jdI → jdJ → Prop} {t : Nat} {x1 : Int32} {x2 : Int32} (ht : zTown Z t) (h : (((I t 3) < 7 → (vp_in (I t 3) 7 ∧ (vp_in (I t 3) 7 ∧ Jd G mX9_add (jdFm G (qi Z K)) (n + 1) 0 0 43 [(0, .ref (gb G + t)), (1, .int x1), (2, .int x2), (3, .int (I t 3)), (4, .int 0)] [] Z (uI (uI (uI I t 3 ((I t 3) + 1)) (t + 1) (Int32.toNatClampNeg (I t 3)) x1) (t + 2) (Int32.toNatClampNeg (I t 3)) x2) J))) ∧ (¬ (I t 3) < 7 → K (-1) I J))) : Cl G mX9_add (n + 1) 0 0 [.ref (gb G + t), .int x1, .int x2] Z I J (qi Z K) :=
  Cl.of (by decide +kernel) (Nat.le_of_ble_eq_true rfl) (rX9_add_0 ht h)
set_option maxRecDepth 4000 in
theorem rX9_addByDraws_0 {G : jdG} {n rc rs : Nat} {Z : jdL} {I : jdI} {J : jdJ} {K : jdI → jdJ → Prop} {t : Nat} (ht : zTown Z t) (h : Cl G mX9_draw n 0 0 [.ref (gb G + t), .int 24] Z I J (qi Z (fun v2 I1 J1 => Cl G mX9_draw n 0 0 [.ref (gb G + t), .int 10] Z I1 J1 (qi Z (fun v4 I3 J3 => Cl G mX9_add n 0 0 [.ref (gb G + t), .int v2, .int v4] Z I3 J3 (qi Z (fun v6 I5 J5 => Jd G mX9_addByDraws (jdFm G (qv Z K)) (n + 1) rc rs 24 [(0, .ref (gb G + t)), (1, .int v2), (2, .int v4), (3, .int v6), (4, .int 0)] [] Z I5 J5))))))) : Jd G mX9_addByDraws (jdFm G (qv Z K)) (n + 1) rc rs 0 [(0, .ref (gb G + t))] [] Z I J := by
  refine jd_aload_n (pc := 0) 0 dX9_addByDraws_0 rfl rfl ?_
  refine jd_bipush (pc := 1) (v := 24) dX9_addByDraws_1 (by decide) ?_
  refine jd_callVi (pc := 3) (M2 := mX9_draw) (id := t) (ci := 8) (T := TX9) (N := 10) (av := [.int 24]) kX9_draw sX9_draw rfl ht.1 lX9_43 rfl rfl (Nat.le_of_ble_eq_true rfl) dX9_addByDraws_3 h ?_
  intro v2 I1 J1 h
  refine jd_istore_n (pc := 6) [(1, .int v2), (0, .ref (gb G + t))] dX9_addByDraws_6 rfl (by decide) rfl ?_
  refine jd_aload_n (pc := 7) 1 dX9_addByDraws_7 rfl rfl ?_
  refine jd_bipush (pc := 8) (v := 10) dX9_addByDraws_8 (by decide) ?_
  refine jd_callVi (pc := 10) (M2 := mX9_draw) (id := t) (ci := 8) (T := TX9) (N := 10) (av := [.int 10]) kX9_draw sX9_draw rfl ht.1 lX9_43 rfl rfl (Nat.le_of_ble_eq_true rfl) dX9_addByDraws_10 h ?_
  intro v4 I3 J3 h
  refine jd_istore_n (pc := 13) [(2, .int v4), (1, .int v2), (0, .ref (gb G + t))] dX9_addByDraws_13 rfl (by decide) rfl ?_
  refine jd_aload_n (pc := 14) 2 dX9_addByDraws_14 rfl rfl ?_
  refine jd_iload_n (pc := 15) 1 dX9_addByDraws_15 rfl rfl ?_
  refine jd_iload_n (pc := 16) 0 dX9_addByDraws_16 rfl rfl ?_
  refine jd_callVi (pc := 17) (M2 := mX9_add) (id := t) (ci := 8) (T := TX9) (N := 10) (av := [.int v2, .int v4]) kX9_add sX9_add rfl ht.1 lX9_47 rfl rfl (Nat.le_of_ble_eq_true rfl) dX9_addByDraws_17 h ?_
  intro v6 I5 J5 h
  refine jd_istore_n (pc := 20) [(3, .int v6), (2, .int v4), (1, .int v2), (0, .ref (gb G + t))] dX9_addByDraws_20 rfl (by decide) rfl ?_
  refine jd_iconst (pc := 21) (v := 0) dX9_addByDraws_21 (by decide) ?_
  refine jd_istore (pc := 22) [(4, .int 0), (3, .int v6), (2, .int v4), (1, .int v2), (0, .ref (gb G + t))] dX9_addByDraws_22 (by decide) rfl ?_
  exact jd_lv (lv2 := [(0, .ref (gb G + t)), (1, .int v2), (2, .int v4), (3, .int v6), (4, .int 0)]) [4, 3, 2, 1, 0] rfl h
set_option maxRecDepth 4000 in
theorem rX9_addByDraws_24 {G : jdG} {n rc rs : Nat} {Z : jdL} {I : jdI} {J : jdJ} {K : jdI → jdJ → Prop} {t : Nat} {x1 : Int32} {x2 : Int32} {x3 : Int32} {x4 : Int32} (ht : zTown Z t) (h : ((x3 ≤ x4 → K I J) ∧ (¬ x3 ≤ x4 → Cl G mX9_draw n 0 0 [.ref (gb G + t), .int 3] Z I J (qi Z (fun v2 I1 J1 => ((¬ v2 = 0 → Jd G mX9_addByDraws (jdFm G (qv Z K)) (n + 1) rc rs 24 [(0, .ref (gb G + t)), (1, .int x1), (2, .int x2), (3, .int x3), (4, .int (x4 + 1))] [] Z I1 J1) ∧ (v2 = 0 → Cl G mX9_tie n 0 0 [.ref (gb G + t), .int x3, .int x4, .int 0] Z I1 J1 (qv Z (fun I3 J3 => Jd G mX9_addByDraws (jdFm G (qv Z K)) (n + 1) rc rs 24 [(0, .ref (gb G + t)), (1, .int x1), (2, .int x2), (3, .int x3), (4, .int (x4 + 1))] [] Z I3 J3))))))))) : Jd G mX9_addByDraws (jdFm G (qv Z K)) (n + 1) rc rs 24 [(0, .ref (gb G + t)), (1, .int x1), (2, .int x2), (3, .int x3), (4, .int x4)] [] Z I J := by
  refine jd_iload (pc := 24) 4 dX9_addByDraws_24 rfl ?_
  refine jd_iload_n (pc := 26) 3 dX9_addByDraws_26 rfl rfl ?_
  refine jd_icmp_ge (pc := 27) 52 dX9_addByDraws_27 (by decide) (fun hc => ?_) (fun hc => ?_)
  · have h := h.1 hc
    exact jd_vretK (pc := 52) rfl dX9_addByDraws_52 h
  · have h := h.2 hc
    refine jd_aload_n (pc := 30) 0 dX9_addByDraws_30 rfl rfl ?_
    refine jd_iconst (pc := 31) (v := 3) dX9_addByDraws_31 (by decide) ?_
    refine jd_callVi (pc := 32) (M2 := mX9_draw) (id := t) (ci := 8) (T := TX9) (N := 10) (av := [.int 3]) kX9_draw sX9_draw rfl ht.1 lX9_43 rfl rfl (Nat.le_of_ble_eq_true rfl) dX9_addByDraws_32 h ?_
    intro v2 I1 J1 h
    refine jd_if_ne (pc := 35) 46 dX9_addByDraws_35 (by decide) (fun hc => ?_) (fun hc => ?_)
    · have h := h.1 hc
      refine jd_iinc (pc := 46) (v := (x4 + 1)) 4 [(4, .int (x4 + 1)), (0, .ref (gb G + t)), (1, .int x1), (2, .int x2), (3, .int x3)] dX9_addByDraws_46 rfl rfl (by decide) rfl ?_
      refine jd_goto (pc := 49) 24 dX9_addByDraws_49 (by decide) ?_
      exact jd_lv (lv2 := [(0, .ref (gb G + t)), (1, .int x1), (2, .int x2), (3, .int x3), (4, .int (x4 + 1))]) [1, 2, 3, 4, 0] rfl h
    · have h := h.2 hc
      refine jd_aload_n (pc := 38) 0 dX9_addByDraws_38 rfl rfl ?_
      refine jd_iload_n (pc := 39) 3 dX9_addByDraws_39 rfl rfl ?_
      refine jd_iload (pc := 40) 4 dX9_addByDraws_40 rfl ?_
      refine jd_iconst (pc := 42) (v := 0) dX9_addByDraws_42 (by decide) ?_
      refine jd_callVv (pc := 43) (M2 := mX9_tie) (id := t) (ci := 8) (T := TX9) (N := 10) (av := [.int x3, .int x4, .int 0]) kX9_tie sX9_tie rfl ht.1 lX9_39 rfl rfl (Nat.le_of_ble_eq_true rfl) dX9_addByDraws_43 h ?_
      intro I3 J3 h
      refine jd_iinc (pc := 46) (v := (x4 + 1)) 4 [(4, .int (x4 + 1)), (0, .ref (gb G + t)), (1, .int x1), (2, .int x2), (3, .int x3)] dX9_addByDraws_46 rfl rfl (by decide) rfl ?_
      refine jd_goto (pc := 49) 24 dX9_addByDraws_49 (by decide) ?_
      exact jd_lv (lv2 := [(0, .ref (gb G + t)), (1, .int x1), (2, .int x2), (3, .int x3), (4, .int (x4 + 1))]) [1, 2, 3, 4, 0] rfl h
theorem eX9_addByDraws {G : jdG} {n : Nat} {Z : jdL} {I : jdI} {J : jdJ} {K : jdI → jdJ → Prop} {t : Nat} (ht : zTown Z t) (h : Cl G mX9_draw n 0 0 [.ref (gb G + t), .int 24] Z I J (qi Z (fun v2 I1 J1 => Cl G mX9_draw n 0 0 [.ref (gb G + t), .int 10] Z I1 J1 (qi Z (fun v4 I3 J3 => Cl G mX9_add n 0 0 [.ref (gb G + t), .int v2, .int v4] Z I3 J3 (qi Z (fun v6 I5 J5 => Jd G mX9_addByDraws (jdFm G (qv Z K)) (n + 1) 0 0 24 [(0, .ref (gb G + t)), (1, .int v2), (2, .int v4), (3, .int v6), (4, .int 0)] [] Z I5 J5))))))) : Cl G mX9_addByDraws (n + 1) 0 0 [.ref (gb G + t)] Z I J (qv Z K) :=
  Cl.of (by decide +kernel) (Nat.le_of_ble_eq_true rfl) (rX9_addByDraws_0 ht h)
set_option maxRecDepth 4000 in
theorem rX9_draw_0 {G : jdG} {n rc rs : Nat} {Z : jdL} {I : jdI} {J : jdJ} {K : Int32 → jdI → jdJ → Prop} {t : Nat} {x1 : Int32} (ht : zTown Z t) (h : ((1 ≤ x1 → (¬ x1 = 0 ∧ K ((Int32.toUInt32 (((I t 6) * 1103515245) + 12345) >>> (Int32.toUInt32 16 &&& Int32.toUInt32 31)).toInt32 - (Int32.toUInt32 (((I t 6) * 1103515245) + 12345) >>> (Int32.toUInt32 16 &&& Int32.toUInt32 31)).toInt32 / x1 * x1) (uI I t 6 (((I t 6) * 1103515245) + 12345)) J)) ∧ (¬ 1 ≤ x1 → K 0 (uI I t 6 (((I t 6) * 1103515245) + 12345)) J))) : Jd G mX9_draw (jdFm G (qi Z K)) n rc rs 0 [(0, .ref (gb G + t)), (1, .int x1)] [] Z I J := by
  refine jd_aload_n (pc := 0) 0 dX9_draw_0 rfl rfl ?_
  refine jd_aload_n (pc := 1) 0 dX9_draw_1 rfl rfl ?_
  refine jd_getI (pc := 2) (ci := 8) (k := 6) gX9_25 ht.1 rfl dX9_draw_2 ?_
  refine jd_ldc (pc := 5) (v := 1103515245) qX9_51 dX9_draw_5 ?_
  refine jd_imul (pc := 7) dX9_draw_7 ?_
  refine jd_sipush (pc := 8) (v := 12345) dX9_draw_8 (by decide) ?_
  refine jd_iadd (pc := 11) dX9_draw_11 ?_
  refine jd_putI (pc := 12) (ci := 8) (k := 6) pX9_25 ht.1 rfl rfl rfl dX9_draw_12 ?_
  refine jd_iload_n (pc := 15) 1 dX9_draw_15 rfl rfl ?_
  refine jd_iconst (pc := 16) (v := 1) dX9_draw_16 (by decide) ?_
  refine jd_icmp_ge (pc := 17) 24 dX9_draw_17 (by decide) (fun hc => ?_) (fun hc => ?_)
  · have h := h.1 hc
    refine jd_aload_n (pc := 24) 0 dX9_draw_24 rfl rfl ?_
    refine jd_getIe (pc := 25) (ci := 8) (k := 6) (e := (((I t 6) * 1103515245) + 12345)) (uI_ss _ _ _ _) gX9_25 ht.1 rfl dX9_draw_25 ?_
    refine jd_bipush (pc := 28) (v := 16) dX9_draw_28 (by decide) ?_
    refine jd_iushr (pc := 30) dX9_draw_30 ?_
    refine jd_iload_n (pc := 31) 1 dX9_draw_31 rfl rfl ?_
    obtain ⟨hv1, h⟩ := h
    refine jd_irem (pc := 32) dX9_draw_32 hv1 ?_
    exact jd_iretK (pc := 33) rfl rfl dX9_draw_33 h
  · have h := h.2 hc
    refine jd_iconst (pc := 20) (v := 0) dX9_draw_20 (by decide) ?_
    refine jd_goto (pc := 21) 33 dX9_draw_21 (by decide) ?_
    exact jd_iretK (pc := 33) rfl rfl dX9_draw_33 h
theorem eX9_draw {G : jdG} {n : Nat} {Z : jdL} {I : jdI} {J : jdJ} {K : Int32 → jdI → jdJ → Prop} {t : Nat} {x1 : Int32} (ht : zTown Z t) (h : ((1 ≤ x1 → (¬ x1 = 0 ∧ K ((Int32.toUInt32 (((I t 6) * 1103515245) + 12345) >>> (Int32.toUInt32 16 &&& Int32.toUInt32 31)).toInt32 - (Int32.toUInt32 (((I t 6) * 1103515245) + 12345) >>> (Int32.toUInt32 16 &&& Int32.toUInt32 31)).toInt32 / x1 * x1) (uI I t 6 (((I t 6) * 1103515245) + 12345)) J)) ∧ (¬ 1 ≤ x1 → K 0 (uI I t 6 (((I t 6) * 1103515245) + 12345)) J))) : Cl G mX9_draw (n) 0 0 [.ref (gb G + t), .int x1] Z I J (qi Z K) :=
  Cl.of (by decide +kernel) (Nat.le_of_ble_eq_true rfl) (rX9_draw_0 ht h)
set_option maxRecDepth 4000 in
theorem rX9_strangersTo_0 {G : jdG} {n rc rs : Nat} {Z : jdL} {I : jdI} {J : jdJ} {K : Int32 → jdI → jdJ → Prop} {t : Nat} {x1 : Int32} (ht : zTown Z t) (h : Jd G mX9_strangersTo (jdFm G (qi Z K)) (n + 1) rc rs 4 [(0, .ref (gb G + t)), (1, .int x1), (2, .int 0), (3, .int 0)] [] Z I J) : Jd G mX9_strangersTo (jdFm G (qi Z K)) (n + 1) rc rs 0 [(0, .ref (gb G + t)), (1, .int x1)] [] Z I J := by
  refine jd_iconst (pc := 0) (v := 0) dX9_strangersTo_0 (by decide) ?_
  refine jd_istore_n (pc := 1) [(2, .int 0), (0, .ref (gb G + t)), (1, .int x1)] dX9_strangersTo_1 rfl (by decide) rfl ?_
  refine jd_iconst (pc := 2) (v := 0) dX9_strangersTo_2 (by decide) ?_
  refine jd_istore_n (pc := 3) [(3, .int 0), (2, .int 0), (0, .ref (gb G + t)), (1, .int x1)] dX9_strangersTo_3 rfl (by decide) rfl ?_
  exact jd_lv (lv2 := [(0, .ref (gb G + t)), (1, .int x1), (2, .int 0), (3, .int 0)]) [2, 3, 1, 0] rfl h
set_option maxRecDepth 4000 in
theorem rX9_strangersTo_4 {G : jdG} {n rc rs : Nat} {Z : jdL} {I : jdI} {J : jdJ} {K : Int32 → jdI → jdJ → Prop} {t : Nat} {x1 : Int32} {x2 : Int32} {x3 : Int32} (ht : zTown Z t) (h : (((I t 3) ≤ x3 → K x2 I J) ∧ (¬ (I t 3) ≤ x3 → ((x3 = x1 → Jd G mX9_strangersTo (jdFm G (qi Z K)) (n + 1) rc rs 4 [(0, .ref (gb G + t)), (1, .int x1), (2, .int x2), (3, .int (x3 + 1))] [] Z I J) ∧ (¬ x3 = x1 → Cl G mX9_since n 0 0 [.ref (gb G + t), .int x1, .int x3] Z I J (qi Z (fun v2 I1 J1 => ((¬ v2 = (-1) → Jd G mX9_strangersTo (jdFm G (qi Z K)) (n + 1) rc rs 4 [(0, .ref (gb G + t)), (1, .int x1), (2, .int x2), (3, .int (x3 + 1))] [] Z I1 J1) ∧ (v2 = (-1) → Jd G mX9_strangersTo (jdFm G (qi Z K)) (n + 1) rc rs 4 [(0, .ref (gb G + t)), (1, .int x1), (2, .int (x2 ||| (1 <<< (x3 &&& 31)))), (3, .int (x3 + 1))] [] Z I1 J1))))))))) : Jd G mX9_strangersTo (jdFm G (qi Z K)) (n + 1) rc rs 4 [(0, .ref (gb G + t)), (1, .int x1), (2, .int x2), (3, .int x3)] [] Z I J := by
  refine jd_iload_n (pc := 4) 3 dX9_strangersTo_4 rfl rfl ?_
  refine jd_aload_n (pc := 5) 0 dX9_strangersTo_5 rfl rfl ?_
  refine jd_getI (pc := 6) (ci := 8) (k := 3) gX9_28 ht.1 rfl dX9_strangersTo_6 ?_
  refine jd_icmp_ge (pc := 9) 39 dX9_strangersTo_9 (by decide) (fun hc => ?_) (fun hc => ?_)
  · have h := h.1 hc
    refine jd_iload_n (pc := 39) 2 dX9_strangersTo_39 rfl rfl ?_
    exact jd_iretK (pc := 40) rfl rfl dX9_strangersTo_40 h
  · have h := h.2 hc
    refine jd_iload_n (pc := 12) 3 dX9_strangersTo_12 rfl rfl ?_
    refine jd_iload_n (pc := 13) 1 dX9_strangersTo_13 rfl rfl ?_
    refine jd_icmp_eq (pc := 14) 33 dX9_strangersTo_14 (by decide) (fun hc => ?_) (fun hc => ?_)
    · have h := h.1 hc
      refine jd_iinc (pc := 33) (v := (x3 + 1)) 3 [(3, .int (x3 + 1)), (0, .ref (gb G + t)), (1, .int x1), (2, .int x2)] dX9_strangersTo_33 rfl rfl (by decide) rfl ?_
      refine jd_goto (pc := 36) 4 dX9_strangersTo_36 (by decide) ?_
      exact jd_lv (lv2 := [(0, .ref (gb G + t)), (1, .int x1), (2, .int x2), (3, .int (x3 + 1))]) [1, 2, 3, 0] rfl h
    · have h := h.2 hc
      refine jd_aload_n (pc := 17) 0 dX9_strangersTo_17 rfl rfl ?_
      refine jd_iload_n (pc := 18) 1 dX9_strangersTo_18 rfl rfl ?_
      refine jd_iload_n (pc := 19) 3 dX9_strangersTo_19 rfl rfl ?_
      refine jd_callVi (pc := 20) (M2 := mX9_since) (id := t) (ci := 8) (T := TX9) (N := 10) (av := [.int x1, .int x3]) kX9_since sX9_since rfl ht.1 lX9_52 rfl rfl (Nat.le_of_ble_eq_true rfl) dX9_strangersTo_20 h ?_
      intro v2 I1 J1 h
      refine jd_iconst (pc := 23) (v := (-1)) dX9_strangersTo_23 (by decide) ?_
      refine jd_icmp_ne (pc := 24) 33 dX9_strangersTo_24 (by decide) (fun hc => ?_) (fun hc => ?_)
      · have h := h.1 hc
        refine jd_iinc (pc := 33) (v := (x3 + 1)) 3 [(3, .int (x3 + 1)), (0, .ref (gb G + t)), (1, .int x1), (2, .int x2)] dX9_strangersTo_33 rfl rfl (by decide) rfl ?_
        refine jd_goto (pc := 36) 4 dX9_strangersTo_36 (by decide) ?_
        exact jd_lv (lv2 := [(0, .ref (gb G + t)), (1, .int x1), (2, .int x2), (3, .int (x3 + 1))]) [1, 2, 3, 0] rfl h
      · have h := h.2 hc
        refine jd_iload_n (pc := 27) 2 dX9_strangersTo_27 rfl rfl ?_
        refine jd_iconst (pc := 28) (v := 1) dX9_strangersTo_28 (by decide) ?_
        refine jd_iload_n (pc := 29) 3 dX9_strangersTo_29 rfl rfl ?_
        refine jd_ishl (pc := 30) dX9_strangersTo_30 ?_
        refine jd_ior (pc := 31) dX9_strangersTo_31 ?_
        refine jd_istore_n (pc := 32) [(2, .int (x2 ||| (1 <<< (x3 &&& 31)))), (0, .ref (gb G + t)), (1, .int x1), (3, .int x3)] dX9_strangersTo_32 rfl (by decide) rfl ?_
        refine jd_iinc (pc := 33) (v := (x3 + 1)) 3 [(3, .int (x3 + 1)), (2, .int (x2 ||| (1 <<< (x3 &&& 31)))), (0, .ref (gb G + t)), (1, .int x1)] dX9_strangersTo_33 rfl rfl (by decide) rfl ?_
        refine jd_goto (pc := 36) 4 dX9_strangersTo_36 (by decide) ?_
        exact jd_lv (lv2 := [(0, .ref (gb G + t)), (1, .int x1), (2, .int (x2 ||| (1 <<< (x3 &&& 31)))), (3, .int (x3 + 1))]) [2, 3, 1, 0] rfl h
theorem eX9_strangersTo {G : jdG} {n : Nat} {Z : jdL} {I : jdI} {J : jdJ} {K : Int32 → jdI → jdJ → Prop} {t : Nat} {x1 : Int32} (ht : zTown Z t) (h : Jd G mX9_strangersTo (jdFm G (qi Z K)) (n + 1) 0 0 4 [(0, .ref (gb G + t)), (1, .int x1), (2, .int 0), (3, .int 0)] [] Z I J) : Cl G mX9_strangersTo (n + 1) 0 0 [.ref (gb G + t), .int x1] Z I J (qi Z K) :=
  Cl.of (by decide +kernel) (Nat.le_of_ble_eq_true rfl) (rX9_strangersTo_0 ht h)
set_option maxRecDepth 4000 in
theorem rX9_countStrangers_0 {G : jdG} {n rc rs : Nat} {Z : jdL} {I : jdI} {J : jdJ} {K : Int32 → jdI → jdJ → Prop} {t : Nat} (ht : zTown Z t) (h : Jd G mX9_countStrangers (jdFm G (qi Z K)) (n + 1) rc rs 4 [(0, .ref (gb G + t)), (1, .int 0), (2, .int 0)] [] Z I J) : Jd G mX9_countStrangers (jdFm G (qi Z K)) (n + 1) rc rs 0 [(0, .ref (gb G + t))] [] Z I J := by
  refine jd_iconst (pc := 0) (v := 0) dX9_countStrangers_0 (by decide) ?_
  refine jd_istore_n (pc := 1) [(1, .int 0), (0, .ref (gb G + t))] dX9_countStrangers_1 rfl (by decide) rfl ?_
  refine jd_iconst (pc := 2) (v := 0) dX9_countStrangers_2 (by decide) ?_
  refine jd_istore_n (pc := 3) [(2, .int 0), (1, .int 0), (0, .ref (gb G + t))] dX9_countStrangers_3 rfl (by decide) rfl ?_
  exact jd_lv (lv2 := [(0, .ref (gb G + t)), (1, .int 0), (2, .int 0)]) [2, 1, 0] rfl h
set_option maxRecDepth 4000 in
theorem rX9_countStrangers_4 {G : jdG} {n rc rs : Nat} {Z : jdL} {I : jdI} {J : jdJ} {K : Int32 → jdI → jdJ → Prop} {t : Nat} {x1 : Int32} {x2 : Int32} (ht : zTown Z t) (h : (((I t 3) ≤ x2 → K (x1 / 2) I J) ∧ (¬ (I t 3) ≤ x2 → Cl G mX9_strangersTo n 0 0 [.ref (gb G + t), .int x2] Z I J (qi Z (fun v2 I1 J1 => Cl G mJ6_bitCount_0f7a4 n 0 0 [.int v2] Z I1 J1 (qi Z (fun v4 I3 J3 => Jd G mX9_countStrangers (jdFm G (qi Z K)) (n + 1) rc rs 4 [(0, .ref (gb G + t)), (1, .int (x1 + v4)), (2, .int (x2 + 1))] [] Z I3 J3))))))) : Jd G mX9_countStrangers (jdFm G (qi Z K)) (n + 1) rc rs 4 [(0, .ref (gb G + t)), (1, .int x1), (2, .int x2)] [] Z I J := by
  refine jd_iload_n (pc := 4) 2 dX9_countStrangers_4 rfl rfl ?_
  refine jd_aload_n (pc := 5) 0 dX9_countStrangers_5 rfl rfl ?_
  refine jd_getI (pc := 6) (ci := 8) (k := 3) gX9_28 ht.1 rfl dX9_countStrangers_6 ?_
  refine jd_icmp_ge (pc := 9) 29 dX9_countStrangers_9 (by decide) (fun hc => ?_) (fun hc => ?_)
  · have h := h.1 hc
    refine jd_iload_n (pc := 29) 1 dX9_countStrangers_29 rfl rfl ?_
    refine jd_iconst (pc := 30) (v := 2) dX9_countStrangers_30 (by decide) ?_
    refine jd_idiv (pc := 31) dX9_countStrangers_31 (by decide) ?_
    exact jd_iretK (pc := 32) rfl rfl dX9_countStrangers_32 h
  · have h := h.2 hc
    refine jd_iload_n (pc := 12) 1 dX9_countStrangers_12 rfl rfl ?_
    refine jd_aload_n (pc := 13) 0 dX9_countStrangers_13 rfl rfl ?_
    refine jd_iload_n (pc := 14) 2 dX9_countStrangers_14 rfl rfl ?_
    refine jd_callVi (pc := 15) (M2 := mX9_strangersTo) (id := t) (ci := 8) (T := TX9) (N := 10) (av := [.int x2]) kX9_strangersTo sX9_strangersTo rfl ht.1 lX9_54 rfl rfl (Nat.le_of_ble_eq_true rfl) dX9_countStrangers_15 h ?_
    intro v2 I1 J1 h
    refine jd_callSi (pc := 18) (M2 := mJ6_bitCount_0f7a4) (av := [.int v2]) kJ6_bitCount_0f7a4 sJ6_bitCount_0f7a4 lX9_57 rfl rfl (Nat.le_of_ble_eq_true rfl) dX9_countStrangers_18 h ?_
    intro v4 I3 J3 h
    refine jd_iadd (pc := 21) dX9_countStrangers_21 ?_
    refine jd_istore_n (pc := 22) [(1, .int (x1 + v4)), (0, .ref (gb G + t)), (2, .int x2)] dX9_countStrangers_22 rfl (by decide) rfl ?_
    refine jd_iinc (pc := 23) (v := (x2 + 1)) 2 [(2, .int (x2 + 1)), (1, .int (x1 + v4)), (0, .ref (gb G + t))] dX9_countStrangers_23 rfl rfl (by decide) rfl ?_
    refine jd_goto (pc := 26) 4 dX9_countStrangers_26 (by decide) ?_
    exact jd_lv (lv2 := [(0, .ref (gb G + t)), (1, .int (x1 + v4)), (2, .int (x2 + 1))]) [2, 1, 0] rfl h
theorem eX9_countStrangers {G : jdG} {n : Nat} {Z : jdL} {I : jdI} {J : jdJ} {K : Int32 → jdI → jdJ → Prop} {t : Nat} (ht : zTown Z t) (h : Jd G mX9_countStrangers (jdFm G (qi Z K)) (n + 1) 0 0 4 [(0, .ref (gb G + t)), (1, .int 0), (2, .int 0)] [] Z I J) : Cl G mX9_countStrangers (n + 1) 0 0 [.ref (gb G + t)] Z I J (qi Z K) :=
  Cl.of (by decide +kernel) (Nat.le_of_ble_eq_true rfl) (rX9_countStrangers_0 ht h)
set_option maxRecDepth 4000 in
theorem rX9_acquaint_0 {G : jdG} {n rc rs : Nat} {Z : jdL} {I : jdI} {J : jdJ} {K : Int32 → jdI → jdJ → Prop} {t : Nat} {x1 : Int32} (ht : zTown Z t) (h : Jd G mX9_acquaint (jdFm G (qi Z K)) (n + 1) rc rs 4 [(0, .ref (gb G + t)), (1, .int x1), (2, .int 0), (3, .int 0)] [] Z I J) : Jd G mX9_acquaint (jdFm G (qi Z K)) (n + 1) rc rs 0 [(0, .ref (gb G + t)), (1, .int x1)] [] Z I J := by
  refine jd_iconst (pc := 0) (v := 0) dX9_acquaint_0 (by decide) ?_
  refine jd_istore_n (pc := 1) [(2, .int 0), (0, .ref (gb G + t)), (1, .int x1)] dX9_acquaint_1 rfl (by decide) rfl ?_
  refine jd_iconst (pc := 2) (v := 0) dX9_acquaint_2 (by decide) ?_
  refine jd_istore_n (pc := 3) [(3, .int 0), (2, .int 0), (0, .ref (gb G + t)), (1, .int x1)] dX9_acquaint_3 rfl (by decide) rfl ?_
  exact jd_lv (lv2 := [(0, .ref (gb G + t)), (1, .int x1), (2, .int 0), (3, .int 0)]) [2, 3, 1, 0] rfl h
set_option maxRecDepth 4000 in
theorem rX9_acquaint_4 {G : jdG} {n rc rs : Nat} {Z : jdL} {I : jdI} {J : jdJ} {K : Int32 → jdI → jdJ → Prop} {t : Nat} {x1 : Int32} {x2 : Int32} {x3 : Int32} (ht : zTown Z t) (h : (((I t 3) ≤ x3 → K x2 I J) ∧ (¬ (I t 3) ≤ x3 → Jd G mX9_acquaint (jdFm G (qi Z K)) (n + 1) rc rs 15 [(0, .ref (gb G + t)), (1, .int x1), (2, .int x2), (3, .int x3), (4, .int 0)] [] Z I J))) : Jd G mX9_acquaint (jdFm G (qi Z K)) (n + 1) rc rs 4 [(0, .ref (gb G + t)), (1, .int x1), (2, .int x2), (3, .int x3)] [] Z I J := by
  refine jd_iload_n (pc := 4) 3 dX9_acquaint_4 rfl rfl ?_
  refine jd_aload_n (pc := 5) 0 dX9_acquaint_5 rfl rfl ?_
  refine jd_getI (pc := 6) (ci := 8) (k := 3) gX9_28 ht.1 rfl dX9_acquaint_6 ?_
  refine jd_icmp_ge (pc := 9) 73 dX9_acquaint_9 (by decide) (fun hc => ?_) (fun hc => ?_)
  · have h := h.1 hc
    refine jd_iload_n (pc := 73) 2 dX9_acquaint_73 rfl rfl ?_
    exact jd_iretK (pc := 74) rfl rfl dX9_acquaint_74 h
  · have h := h.2 hc
    refine jd_iconst (pc := 12) (v := 0) dX9_acquaint_12 (by decide) ?_
    refine jd_istore (pc := 13) [(4, .int 0), (0, .ref (gb G + t)), (1, .int x1), (2, .int x2), (3, .int x3)] dX9_acquaint_13 (by decide) rfl ?_
    exact jd_lv (lv2 := [(0, .ref (gb G + t)), (1, .int x1), (2, .int x2), (3, .int x3), (4, .int 0)]) [1, 2, 3, 4, 0] rfl h
set_option maxRecDepth 4000 in
theorem rX9_acquaint_15 {G : jdG} {n rc rs : Nat} {Z : jdL} {I : jdI} {J : jdJ} {K : Int32 → jdI → jdJ → Prop} {t : Nat} {x1 : Int32} {x2 : Int32} {x3 : Int32} {x4 : Int32} (ht : zTown Z t) (h : ((x3 ≤ x4 → Jd G mX9_acquaint (jdFm G (qi Z K)) (n + 1) rc rs 4 [(0, .ref (gb G + t)), (1, .int x1), (2, .int x2), (3, .int (x3 + 1))] [] Z I J) ∧ (¬ x3 ≤ x4 → (((((x1 >>> (x3 &&& 31)) &&& (x1 >>> (x4 &&& 31))) &&& 1) = 0 → Jd G mX9_acquaint (jdFm G (qi Z K)) (n + 1) rc rs 15 [(0, .ref (gb G + t)), (1, .int x1), (2, .int x2), (3, .int x3), (4, .int (x4 + 1))] [] Z I J) ∧ (¬ (((x1 >>> (x3 &&& 31)) &&& (x1 >>> (x4 &&& 31))) &&& 1) = 0 → Cl G mX9_since n 0 0 [.ref (gb G + t), .int x3, .int x4] Z I J (qi Z (fun v2 I1 J1 => ((¬ v2 = (-1) → Cl G mX9_tie n 0 0 [.ref (gb G + t), .int x3, .int x4, .int 0] Z I1 J1 (qv Z (fun I3 J3 => Jd G mX9_acquaint (jdFm G (qi Z K)) (n + 1) rc rs 15 [(0, .ref (gb G + t)), (1, .int x1), (2, .int (x2 + 0)), (3, .int x3), (4, .int (x4 + 1))] [] Z I3 J3))) ∧ (v2 = (-1) → Cl G mX9_tie n 0 0 [.ref (gb G + t), .int x3, .int x4, .int 0] Z I1 J1 (qv Z (fun I5 J5 => Jd G mX9_acquaint (jdFm G (qi Z K)) (n + 1) rc rs 15 [(0, .ref (gb G + t)), (1, .int x1), (2, .int (x2 + 1)), (3, .int x3), (4, .int (x4 + 1))] [] Z I5 J5))))))))))) : Jd G mX9_acquaint (jdFm G (qi Z K)) (n + 1) rc rs 15 [(0, .ref (gb G + t)), (1, .int x1), (2, .int x2), (3, .int x3), (4, .int x4)] [] Z I J := by
  refine jd_iload (pc := 15) 4 dX9_acquaint_15 rfl ?_
  refine jd_iload_n (pc := 17) 3 dX9_acquaint_17 rfl rfl ?_
  refine jd_icmp_ge (pc := 18) 67 dX9_acquaint_18 (by decide) (fun hc => ?_) (fun hc => ?_)
  · have h := h.1 hc
    refine jd_iinc (pc := 67) (v := (x3 + 1)) 3 [(3, .int (x3 + 1)), (0, .ref (gb G + t)), (1, .int x1), (2, .int x2), (4, .int x4)] dX9_acquaint_67 rfl rfl (by decide) rfl ?_
    refine jd_goto (pc := 70) 4 dX9_acquaint_70 (by decide) ?_
    exact jd_lv (lv2 := [(0, .ref (gb G + t)), (1, .int x1), (2, .int x2), (3, .int (x3 + 1))]) [1, 2, 3, 0] rfl h
  · have h := h.2 hc
    refine jd_iload_n (pc := 21) 1 dX9_acquaint_21 rfl rfl ?_
    refine jd_iload_n (pc := 22) 3 dX9_acquaint_22 rfl rfl ?_
    refine jd_ishr (pc := 23) dX9_acquaint_23 ?_
    refine jd_iload_n (pc := 24) 1 dX9_acquaint_24 rfl rfl ?_
    refine jd_iload (pc := 25) 4 dX9_acquaint_25 rfl ?_
    refine jd_ishr (pc := 27) dX9_acquaint_27 ?_
    refine jd_iand (pc := 28) dX9_acquaint_28 ?_
    refine jd_iconst (pc := 29) (v := 1) dX9_acquaint_29 (by decide) ?_
    refine jd_iand (pc := 30) dX9_acquaint_30 ?_
    refine jd_if_eq (pc := 31) 61 dX9_acquaint_31 (by decide) (fun hc => ?_) (fun hc => ?_)
    · have h := h.1 hc
      refine jd_iinc (pc := 61) (v := (x4 + 1)) 4 [(4, .int (x4 + 1)), (0, .ref (gb G + t)), (1, .int x1), (2, .int x2), (3, .int x3)] dX9_acquaint_61 rfl rfl (by decide) rfl ?_
      refine jd_goto (pc := 64) 15 dX9_acquaint_64 (by decide) ?_
      exact jd_lv (lv2 := [(0, .ref (gb G + t)), (1, .int x1), (2, .int x2), (3, .int x3), (4, .int (x4 + 1))]) [1, 2, 3, 4, 0] rfl h
    · have h := h.2 hc
      refine jd_iload_n (pc := 34) 2 dX9_acquaint_34 rfl rfl ?_
      refine jd_aload_n (pc := 35) 0 dX9_acquaint_35 rfl rfl ?_
      refine jd_iload_n (pc := 36) 3 dX9_acquaint_36 rfl rfl ?_
      refine jd_iload (pc := 37) 4 dX9_acquaint_37 rfl ?_
      refine jd_callVi (pc := 39) (M2 := mX9_since) (id := t) (ci := 8) (T := TX9) (N := 10) (av := [.int x3, .int x4]) kX9_since sX9_since rfl ht.1 lX9_52 rfl rfl (Nat.le_of_ble_eq_true rfl) dX9_acquaint_39 h ?_
      intro v2 I1 J1 h
      refine jd_iconst (pc := 42) (v := (-1)) dX9_acquaint_42 (by decide) ?_
      refine jd_icmp_ne (pc := 43) 50 dX9_acquaint_43 (by decide) (fun hc => ?_) (fun hc => ?_)
      · have h := h.1 hc
        refine jd_iconst (pc := 50) (v := 0) dX9_acquaint_50 (by decide) ?_
        refine jd_iadd (pc := 51) dX9_acquaint_51 ?_
        refine jd_istore_n (pc := 52) [(2, .int (x2 + 0)), (0, .ref (gb G + t)), (1, .int x1), (3, .int x3), (4, .int x4)] dX9_acquaint_52 rfl (by decide) rfl ?_
        refine jd_aload_n (pc := 53) 1 dX9_acquaint_53 rfl rfl ?_
        refine jd_iload_n (pc := 54) 3 dX9_acquaint_54 rfl rfl ?_
        refine jd_iload (pc := 55) 4 dX9_acquaint_55 rfl ?_
        refine jd_iconst (pc := 57) (v := 0) dX9_acquaint_57 (by decide) ?_
        refine jd_callVv (pc := 58) (M2 := mX9_tie) (id := t) (ci := 8) (T := TX9) (N := 10) (av := [.int x3, .int x4, .int 0]) kX9_tie sX9_tie rfl ht.1 lX9_39 rfl rfl (Nat.le_of_ble_eq_true rfl) dX9_acquaint_58 h ?_
        intro I3 J3 h
        refine jd_iinc (pc := 61) (v := (x4 + 1)) 4 [(4, .int (x4 + 1)), (2, .int (x2 + 0)), (0, .ref (gb G + t)), (1, .int x1), (3, .int x3)] dX9_acquaint_61 rfl rfl (by decide) rfl ?_
        refine jd_goto (pc := 64) 15 dX9_acquaint_64 (by decide) ?_
        exact jd_lv (lv2 := [(0, .ref (gb G + t)), (1, .int x1), (2, .int (x2 + 0)), (3, .int x3), (4, .int (x4 + 1))]) [2, 3, 1, 4, 0] rfl h
      · have h := h.2 hc
        refine jd_iconst (pc := 46) (v := 1) dX9_acquaint_46 (by decide) ?_
        refine jd_goto (pc := 47) 51 dX9_acquaint_47 (by decide) ?_
        refine jd_iadd (pc := 51) dX9_acquaint_51 ?_
        refine jd_istore_n (pc := 52) [(2, .int (x2 + 1)), (0, .ref (gb G + t)), (1, .int x1), (3, .int x3), (4, .int x4)] dX9_acquaint_52 rfl (by decide) rfl ?_
        refine jd_aload_n (pc := 53) 1 dX9_acquaint_53 rfl rfl ?_
        refine jd_iload_n (pc := 54) 3 dX9_acquaint_54 rfl rfl ?_
        refine jd_iload (pc := 55) 4 dX9_acquaint_55 rfl ?_
        refine jd_iconst (pc := 57) (v := 0) dX9_acquaint_57 (by decide) ?_
        refine jd_callVv (pc := 58) (M2 := mX9_tie) (id := t) (ci := 8) (T := TX9) (N := 10) (av := [.int x3, .int x4, .int 0]) kX9_tie sX9_tie rfl ht.1 lX9_39 rfl rfl (Nat.le_of_ble_eq_true rfl) dX9_acquaint_58 h ?_
        intro I5 J5 h
        refine jd_iinc (pc := 61) (v := (x4 + 1)) 4 [(4, .int (x4 + 1)), (2, .int (x2 + 1)), (0, .ref (gb G + t)), (1, .int x1), (3, .int x3)] dX9_acquaint_61 rfl rfl (by decide) rfl ?_
        refine jd_goto (pc := 64) 15 dX9_acquaint_64 (by decide) ?_
        exact jd_lv (lv2 := [(0, .ref (gb G + t)), (1, .int x1), (2, .int (x2 + 1)), (3, .int x3), (4, .int (x4 + 1))]) [2, 3, 1, 4, 0] rfl h
theorem eX9_acquaint {G : jdG} {n : Nat} {Z : jdL} {I : jdI} {J : jdJ} {K : Int32 → jdI → jdJ → Prop} {t : Nat} {x1 : Int32} (ht : zTown Z t) (h : Jd G mX9_acquaint (jdFm G (qi Z K)) (n + 1) 0 0 4 [(0, .ref (gb G + t)), (1, .int x1), (2, .int 0), (3, .int 0)] [] Z I J) : Cl G mX9_acquaint (n + 1) 0 0 [.ref (gb G + t), .int x1] Z I J (qi Z K) :=
  Cl.of (by decide +kernel) (Nat.le_of_ble_eq_true rfl) (rX9_acquaint_0 ht h)
set_option maxRecDepth 4000 in
theorem rX9_endDay_0 {G : jdG} {n rc rs : Nat} {Z : jdL} {I : jdI} {J : jdJ} {K : jdI → jdJ → Prop} {t : Nat} {x1 : Int32} (ht : zTown Z t) (h : K (uI (uI I t 7 ((I t 7) + x1)) t 8 ((I t 8) + 1)) J) : Jd G mX9_endDay (jdFm G (qv Z K)) n rc rs 0 [(0, .ref (gb G + t)), (1, .int x1)] [] Z I J := by
  refine jd_aload_n (pc := 0) 0 dX9_endDay_0 rfl rfl ?_
  refine jd_dup (pc := 1) dX9_endDay_1 rfl ?_
  refine jd_getI (pc := 2) (ci := 8) (k := 7) gX9_62 ht.1 rfl dX9_endDay_2 ?_
  refine jd_iload_n (pc := 5) 1 dX9_endDay_5 rfl rfl ?_
  refine jd_iadd (pc := 6) dX9_endDay_6 ?_
  refine jd_putI (pc := 7) (ci := 8) (k := 7) pX9_62 ht.1 rfl rfl rfl dX9_endDay_7 ?_
  refine jd_aload_n (pc := 10) 0 dX9_endDay_10 rfl rfl ?_
  refine jd_dup (pc := 11) dX9_endDay_11 rfl ?_
  refine jd_getIe (pc := 12) (ci := 8) (k := 8) (e := (I t 8)) (uI_sk (by decide) rfl) gX9_65 ht.1 rfl dX9_endDay_12 ?_
  refine jd_iconst (pc := 15) (v := 1) dX9_endDay_15 (by decide) ?_
  refine jd_iadd (pc := 16) dX9_endDay_16 ?_
  refine jd_putI (pc := 17) (ci := 8) (k := 8) pX9_65 ht.1 rfl rfl rfl dX9_endDay_17 ?_
  exact jd_vretK (pc := 20) rfl dX9_endDay_20 h
theorem eX9_endDay {G : jdG} {n : Nat} {Z : jdL} {I : jdI} {J : jdJ} {K : jdI → jdJ → Prop} {t : Nat} {x1 : Int32} (ht : zTown Z t) (h : K (uI (uI I t 7 ((I t 7) + x1)) t 8 ((I t 8) + 1)) J) : Cl G mX9_endDay (n) 0 0 [.ref (gb G + t), .int x1] Z I J (qv Z K) :=
  Cl.of (by decide +kernel) (Nat.le_of_ble_eq_true rfl) (rX9_endDay_0 ht h)
set_option maxRecDepth 4000 in
theorem rX9_age_0 {G : jdG} {n rc rs : Nat} {Z : jdL} {I : jdI} {J : jdJ} {K : Int32 → jdI → jdJ → Prop} {t : Nat} (ht : zTown Z t) (h : Jd G mX9_age (jdFm G (qi Z K)) (n + 1) rc rs 14 [(0, .ref (gb G + t)), (1, .int 0), (2, .int 0)] [] Z (uI I t 9 ((I t 9) + 1)) J) : Jd G mX9_age (jdFm G (qi Z K)) (n + 1) rc rs 0 [(0, .ref (gb G + t))] [] Z I J := by
  refine jd_iconst (pc := 0) (v := 0) dX9_age_0 (by decide) ?_
  refine jd_istore_n (pc := 1) [(1, .int 0), (0, .ref (gb G + t))] dX9_age_1 rfl (by decide) rfl ?_
  refine jd_aload_n (pc := 2) 1 dX9_age_2 rfl rfl ?_
  refine jd_dup (pc := 3) dX9_age_3 rfl ?_
  refine jd_getI (pc := 4) (ci := 8) (k := 9) gX9_68 ht.1 rfl dX9_age_4 ?_
  refine jd_iconst (pc := 7) (v := 1) dX9_age_7 (by decide) ?_
  refine jd_iadd (pc := 8) dX9_age_8 ?_
  refine jd_putI (pc := 9) (ci := 8) (k := 9) pX9_68 ht.1 rfl rfl rfl dX9_age_9 ?_
  refine jd_iconst (pc := 12) (v := 0) dX9_age_12 (by decide) ?_
  refine jd_istore_n (pc := 13) [(2, .int 0), (1, .int 0), (0, .ref (gb G + t))] dX9_age_13 rfl (by decide) rfl ?_
  exact jd_lv (lv2 := [(0, .ref (gb G + t)), (1, .int 0), (2, .int 0)]) [2, 1, 0] rfl h
set_option maxRecDepth 4000 in
theorem rX9_age_14 {G : jdG} {n rc rs : Nat} {Z : jdL} {I : jdI} {J : jdJ} {K : Int32 → jdI → jdJ → Prop} {t : Nat} {x1 : Int32} {x2 : Int32} (ht : zTown Z t) (h : (((I t 3) ≤ x2 → K x1 I J) ∧ (¬ (I t 3) ≤ x2 → Jd G mX9_age (jdFm G (qi Z K)) (n + 1) rc rs 24 [(0, .ref (gb G + t)), (1, .int x1), (2, .int x2), (3, .int 0)] [] Z I J))) : Jd G mX9_age (jdFm G (qi Z K)) (n + 1) rc rs 14 [(0, .ref (gb G + t)), (1, .int x1), (2, .int x2)] [] Z I J := by
  refine jd_iload_n (pc := 14) 2 dX9_age_14 rfl rfl ?_
  refine jd_aload_n (pc := 15) 0 dX9_age_15 rfl rfl ?_
  refine jd_getI (pc := 16) (ci := 8) (k := 3) gX9_28 ht.1 rfl dX9_age_16 ?_
  refine jd_icmp_ge (pc := 19) 119 dX9_age_19 (by decide) (fun hc => ?_) (fun hc => ?_)
  · have h := h.1 hc
    refine jd_iload_n (pc := 119) 1 dX9_age_119 rfl rfl ?_
    exact jd_iretK (pc := 120) rfl rfl dX9_age_120 h
  · have h := h.2 hc
    refine jd_iconst (pc := 22) (v := 0) dX9_age_22 (by decide) ?_
    refine jd_istore_n (pc := 23) [(3, .int 0), (0, .ref (gb G + t)), (1, .int x1), (2, .int x2)] dX9_age_23 rfl (by decide) rfl ?_
    exact jd_lv (lv2 := [(0, .ref (gb G + t)), (1, .int x1), (2, .int x2), (3, .int 0)]) [1, 2, 3, 0] rfl h
set_option maxRecDepth 4000 in
theorem rX9_age_24 {G : jdG} {n rc rs : Nat} {Z : jdL} {I : jdI} {J : jdJ} {K : Int32 → jdI → jdJ → Prop} {t : Nat} {x1 : Int32} {x2 : Int32} {x3 : Int32} (ht : zTown Z t) (h : ((x2 ≤ x3 → Jd G mX9_age (jdFm G (qi Z K)) (n + 1) rc rs 14 [(0, .ref (gb G + t)), (1, .int x1), (2, .int (x2 + 1))] [] Z I J) ∧ (¬ x2 ≤ x3 → Cl G mX9_since n 0 0 [.ref (gb G + t), .int x2, .int x3] Z I J (qi Z (fun v2 I1 J1 => ((v2 = (-1) → Jd G mX9_age (jdFm G (qi Z K)) (n + 1) rc rs 24 [(0, .ref (gb G + t)), (1, .int x1), (2, .int x2), (3, .int (x3 + 1))] [] Z I1 J1) ∧ (¬ v2 = (-1) → (((I1 t 5) = 0 → Cl G mX9_tie n 0 0 [.ref (gb G + t), .int x2, .int x3, .int (if 99 < (v2 + 1) then 99 else (v2 + 1))] Z I1 J1 (qv Z (fun I3 J3 => Jd G mX9_age (jdFm G (qi Z K)) (n + 1) rc rs 24 [(0, .ref (gb G + t)), (1, .int (x1 + 0)), (2, .int x2), (3, .int (x3 + 1))] [] Z I3 J3))) ∧ (¬ (I1 t 5) = 0 → (((if 99 < (v2 + 1) then 99 else (v2 + 1)) ≤ (I1 t 5) → Cl G mX9_tie n 0 0 [.ref (gb G + t), .int x2, .int x3, .int (if 99 < (v2 + 1) then 99 else (v2 + 1))] Z I1 J1 (qv Z (fun I5 J5 => Jd G mX9_age (jdFm G (qi Z K)) (n + 1) rc rs 24 [(0, .ref (gb G + t)), (1, .int (x1 + 0)), (2, .int x2), (3, .int (x3 + 1))] [] Z I5 J5))) ∧ (¬ (if 99 < (v2 + 1) then 99 else (v2 + 1)) ≤ (I1 t 5) → Cl G mX9_tie n 0 0 [.ref (gb G + t), .int x2, .int x3, .int (-1)] Z I1 J1 (qv Z (fun I7 J7 => Jd G mX9_age (jdFm G (qi Z K)) (n + 1) rc rs 24 [(0, .ref (gb G + t)), (1, .int (x1 + 1)), (2, .int x2), (3, .int (x3 + 1))] [] Z I7 J7))))))))))))) : Jd G mX9_age (jdFm G (qi Z K)) (n + 1) rc rs 24 [(0, .ref (gb G + t)), (1, .int x1), (2, .int x2), (3, .int x3)] [] Z I J := by
  refine jd_iload_n (pc := 24) 3 dX9_age_24 rfl rfl ?_
  refine jd_iload_n (pc := 25) 2 dX9_age_25 rfl rfl ?_
  refine jd_icmp_ge (pc := 26) 113 dX9_age_26 (by decide) (fun hc => ?_) (fun hc => ?_)
  · have h := h.1 hc
    refine jd_iinc (pc := 113) (v := (x2 + 1)) 2 [(2, .int (x2 + 1)), (0, .ref (gb G + t)), (1, .int x1), (3, .int x3)] dX9_age_113 rfl rfl (by decide) rfl ?_
    refine jd_goto (pc := 116) 14 dX9_age_116 (by decide) ?_
    exact jd_lv (lv2 := [(0, .ref (gb G + t)), (1, .int x1), (2, .int (x2 + 1))]) [1, 2, 0] rfl h
  · have h := h.2 hc
    refine jd_aload_n (pc := 29) 0 dX9_age_29 rfl rfl ?_
    refine jd_iload_n (pc := 30) 2 dX9_age_30 rfl rfl ?_
    refine jd_iload_n (pc := 31) 3 dX9_age_31 rfl rfl ?_
    refine jd_callVi (pc := 32) (M2 := mX9_since) (id := t) (ci := 8) (T := TX9) (N := 10) (av := [.int x2, .int x3]) kX9_since sX9_since rfl ht.1 lX9_52 rfl rfl (Nat.le_of_ble_eq_true rfl) dX9_age_32 h ?_
    intro v2 I1 J1 h
    refine jd_istore (pc := 35) [(4, .int v2), (0, .ref (gb G + t)), (1, .int x1), (2, .int x2), (3, .int x3)] dX9_age_35 (by decide) rfl ?_
    refine jd_iload (pc := 37) 0 dX9_age_37 rfl ?_
    refine jd_iconst (pc := 39) (v := (-1)) dX9_age_39 (by decide) ?_
    refine jd_icmp_eq (pc := 40) 107 dX9_age_40 (by decide) (fun hc => ?_) (fun hc => ?_)
    · have h := h.1 hc
      refine jd_iinc (pc := 107) (v := (x3 + 1)) 4 [(3, .int (x3 + 1)), (4, .int v2), (0, .ref (gb G + t)), (1, .int x1), (2, .int x2)] dX9_age_107 rfl rfl (by decide) rfl ?_
      refine jd_goto (pc := 110) 24 dX9_age_110 (by decide) ?_
      exact jd_lv (lv2 := [(0, .ref (gb G + t)), (1, .int x1), (2, .int x2), (3, .int (x3 + 1))]) [2, 3, 4, 0] rfl h
    · have h := h.2 hc
      refine jd_iload (pc := 43) 0 dX9_age_43 rfl ?_
      refine jd_iconst (pc := 45) (v := 1) dX9_age_45 (by decide) ?_
      refine jd_iadd (pc := 46) dX9_age_46 ?_
      refine jd_bipush (pc := 47) (v := 99) dX9_age_47 (by decide) ?_
      refine jd_min (pc := 49) xX9_71 (Nat.le_of_ble_eq_true rfl) dX9_age_49 ?_
      refine jd_istore (pc := 52) [(5, .int (if 99 < (v2 + 1) then 99 else (v2 + 1))), (4, .int v2), (0, .ref (gb G + t)), (1, .int x1), (2, .int x2), (3, .int x3)] dX9_age_52 (by decide) rfl ?_
      refine jd_aload_n (pc := 54) 2 dX9_age_54 rfl rfl ?_
      refine jd_getI (pc := 55) (ci := 8) (k := 5) gX9_76 ht.1 rfl dX9_age_55 ?_
      refine jd_if_eq (pc := 58) 74 dX9_age_58 (by decide) (fun hc => ?_) (fun hc => ?_)
      · have h := h.1 hc
        refine jd_iconst (pc := 74) (v := 0) dX9_age_74 (by decide) ?_
        refine jd_istore (pc := 75) [(6, .int 0), (5, .int (if 99 < (v2 + 1) then 99 else (v2 + 1))), (4, .int v2), (0, .ref (gb G + t)), (1, .int x1), (2, .int x2), (3, .int x3)] dX9_age_75 (by decide) rfl ?_
        refine jd_aload_n (pc := 77) 3 dX9_age_77 rfl rfl ?_
        refine jd_iload_n (pc := 78) 5 dX9_age_78 rfl rfl ?_
        refine jd_iload_n (pc := 79) 6 dX9_age_79 rfl rfl ?_
        refine jd_iload (pc := 80) 0 dX9_age_80 rfl ?_
        refine jd_if_eq (pc := 82) 89 dX9_age_82 (by decide) (fun _ => ?_) (fun hc => absurd (show (0 : Int32) = 0 by decide) hc)
        refine jd_iload (pc := 89) 1 dX9_age_89 rfl ?_
        refine jd_callVv (pc := 91) (M2 := mX9_tie) (id := t) (ci := 8) (T := TX9) (N := 10) (av := [.int x2, .int x3, .int (if 99 < (v2 + 1) then 99 else (v2 + 1))]) kX9_tie sX9_tie rfl ht.1 lX9_39 rfl rfl (Nat.le_of_ble_eq_true rfl) dX9_age_91 h ?_
        intro I3 J3 h
        refine jd_iload_n (pc := 94) 4 dX9_age_94 rfl rfl ?_
        refine jd_iload (pc := 95) 0 dX9_age_95 rfl ?_
        refine jd_if_eq (pc := 97) 104 dX9_age_97 (by decide) (fun _ => ?_) (fun hc => absurd (show (0 : Int32) = 0 by decide) hc)
        refine jd_iconst (pc := 104) (v := 0) dX9_age_104 (by decide) ?_
        refine jd_iadd (pc := 105) dX9_age_105 ?_
        refine jd_istore_n (pc := 106) [(1, .int (x1 + 0)), (6, .int 0), (5, .int (if 99 < (v2 + 1) then 99 else (v2 + 1))), (4, .int v2), (0, .ref (gb G + t)), (2, .int x2), (3, .int x3)] dX9_age_106 rfl (by decide) rfl ?_
        refine jd_iinc (pc := 107) (v := (x3 + 1)) 6 [(3, .int (x3 + 1)), (1, .int (x1 + 0)), (6, .int 0), (5, .int (if 99 < (v2 + 1) then 99 else (v2 + 1))), (4, .int v2), (0, .ref (gb G + t)), (2, .int x2)] dX9_age_107 rfl rfl (by decide) rfl ?_
        refine jd_goto (pc := 110) 24 dX9_age_110 (by decide) ?_
        exact jd_lv (lv2 := [(0, .ref (gb G + t)), (1, .int (x1 + 0)), (2, .int x2), (3, .int (x3 + 1))]) [5, 1, 6, 0] rfl h
      · have h := h.2 hc
        refine jd_iload (pc := 61) 0 dX9_age_61 rfl ?_
        refine jd_aload_n (pc := 63) 2 dX9_age_63 rfl rfl ?_
        refine jd_getI (pc := 64) (ci := 8) (k := 5) gX9_76 ht.1 rfl dX9_age_64 ?_
        refine jd_icmp_le (pc := 67) 74 dX9_age_67 (by decide) (fun hc => ?_) (fun hc => ?_)
        · have h := h.1 hc
          refine jd_iconst (pc := 74) (v := 0) dX9_age_74 (by decide) ?_
          refine jd_istore (pc := 75) [(6, .int 0), (5, .int (if 99 < (v2 + 1) then 99 else (v2 + 1))), (4, .int v2), (0, .ref (gb G + t)), (1, .int x1), (2, .int x2), (3, .int x3)] dX9_age_75 (by decide) rfl ?_
          refine jd_aload_n (pc := 77) 3 dX9_age_77 rfl rfl ?_
          refine jd_iload_n (pc := 78) 5 dX9_age_78 rfl rfl ?_
          refine jd_iload_n (pc := 79) 6 dX9_age_79 rfl rfl ?_
          refine jd_iload (pc := 80) 0 dX9_age_80 rfl ?_
          refine jd_if_eq (pc := 82) 89 dX9_age_82 (by decide) (fun _ => ?_) (fun hc => absurd (show (0 : Int32) = 0 by decide) hc)
          refine jd_iload (pc := 89) 1 dX9_age_89 rfl ?_
          refine jd_callVv (pc := 91) (M2 := mX9_tie) (id := t) (ci := 8) (T := TX9) (N := 10) (av := [.int x2, .int x3, .int (if 99 < (v2 + 1) then 99 else (v2 + 1))]) kX9_tie sX9_tie rfl ht.1 lX9_39 rfl rfl (Nat.le_of_ble_eq_true rfl) dX9_age_91 h ?_
          intro I5 J5 h
          refine jd_iload_n (pc := 94) 4 dX9_age_94 rfl rfl ?_
          refine jd_iload (pc := 95) 0 dX9_age_95 rfl ?_
          refine jd_if_eq (pc := 97) 104 dX9_age_97 (by decide) (fun _ => ?_) (fun hc => absurd (show (0 : Int32) = 0 by decide) hc)
          refine jd_iconst (pc := 104) (v := 0) dX9_age_104 (by decide) ?_
          refine jd_iadd (pc := 105) dX9_age_105 ?_
          refine jd_istore_n (pc := 106) [(1, .int (x1 + 0)), (6, .int 0), (5, .int (if 99 < (v2 + 1) then 99 else (v2 + 1))), (4, .int v2), (0, .ref (gb G + t)), (2, .int x2), (3, .int x3)] dX9_age_106 rfl (by decide) rfl ?_
          refine jd_iinc (pc := 107) (v := (x3 + 1)) 6 [(3, .int (x3 + 1)), (1, .int (x1 + 0)), (6, .int 0), (5, .int (if 99 < (v2 + 1) then 99 else (v2 + 1))), (4, .int v2), (0, .ref (gb G + t)), (2, .int x2)] dX9_age_107 rfl rfl (by decide) rfl ?_
          refine jd_goto (pc := 110) 24 dX9_age_110 (by decide) ?_
          exact jd_lv (lv2 := [(0, .ref (gb G + t)), (1, .int (x1 + 0)), (2, .int x2), (3, .int (x3 + 1))]) [5, 1, 6, 0] rfl h
        · have h := h.2 hc
          refine jd_iconst (pc := 70) (v := 1) dX9_age_70 (by decide) ?_
          refine jd_goto (pc := 71) 75 dX9_age_71 (by decide) ?_
          refine jd_istore (pc := 75) [(6, .int 1), (5, .int (if 99 < (v2 + 1) then 99 else (v2 + 1))), (4, .int v2), (0, .ref (gb G + t)), (1, .int x1), (2, .int x2), (3, .int x3)] dX9_age_75 (by decide) rfl ?_
          refine jd_aload_n (pc := 77) 3 dX9_age_77 rfl rfl ?_
          refine jd_iload_n (pc := 78) 5 dX9_age_78 rfl rfl ?_
          refine jd_iload_n (pc := 79) 6 dX9_age_79 rfl rfl ?_
          refine jd_iload (pc := 80) 0 dX9_age_80 rfl ?_
          refine jd_if_eq (pc := 82) 89 dX9_age_82 (by decide) (fun hc => absurd hc (by decide)) (fun _ => ?_)
          refine jd_iconst (pc := 85) (v := (-1)) dX9_age_85 (by decide) ?_
          refine jd_goto (pc := 86) 91 dX9_age_86 (by decide) ?_
          refine jd_callVv (pc := 91) (M2 := mX9_tie) (id := t) (ci := 8) (T := TX9) (N := 10) (av := [.int x2, .int x3, .int (-1)]) kX9_tie sX9_tie rfl ht.1 lX9_39 rfl rfl (Nat.le_of_ble_eq_true rfl) dX9_age_91 h ?_
          intro I7 J7 h
          refine jd_iload_n (pc := 94) 4 dX9_age_94 rfl rfl ?_
          refine jd_iload (pc := 95) 0 dX9_age_95 rfl ?_
          refine jd_if_eq (pc := 97) 104 dX9_age_97 (by decide) (fun hc => absurd hc (by decide)) (fun _ => ?_)
          refine jd_iconst (pc := 100) (v := 1) dX9_age_100 (by decide) ?_
          refine jd_goto (pc := 101) 105 dX9_age_101 (by decide) ?_
          refine jd_iadd (pc := 105) dX9_age_105 ?_
          refine jd_istore_n (pc := 106) [(1, .int (x1 + 1)), (6, .int 1), (5, .int (if 99 < (v2 + 1) then 99 else (v2 + 1))), (4, .int v2), (0, .ref (gb G + t)), (2, .int x2), (3, .int x3)] dX9_age_106 rfl (by decide) rfl ?_
          refine jd_iinc (pc := 107) (v := (x3 + 1)) 6 [(3, .int (x3 + 1)), (1, .int (x1 + 1)), (6, .int 1), (5, .int (if 99 < (v2 + 1) then 99 else (v2 + 1))), (4, .int v2), (0, .ref (gb G + t)), (2, .int x2)] dX9_age_107 rfl rfl (by decide) rfl ?_
          refine jd_goto (pc := 110) 24 dX9_age_110 (by decide) ?_
          exact jd_lv (lv2 := [(0, .ref (gb G + t)), (1, .int (x1 + 1)), (2, .int x2), (3, .int (x3 + 1))]) [5, 1, 6, 0] rfl h
theorem eX9_age {G : jdG} {n : Nat} {Z : jdL} {I : jdI} {J : jdJ} {K : Int32 → jdI → jdJ → Prop} {t : Nat} (ht : zTown Z t) (h : Jd G mX9_age (jdFm G (qi Z K)) (n + 1) 0 0 14 [(0, .ref (gb G + t)), (1, .int 0), (2, .int 0)] [] Z (uI I t 9 ((I t 9) + 1)) J) : Cl G mX9_age (n + 1) 0 0 [.ref (gb G + t)] Z I J (qi Z K) :=
  Cl.of (by decide +kernel) (Nat.le_of_ble_eq_true rfl) (rX9_age_0 ht h)
set_option maxRecDepth 4000 in
theorem rX9_become_0 {G : jdG} {n rc rs : Nat} {Z : jdL} {I : jdI} {J : jdJ} {K : jdI → jdJ → Prop} {t : Nat} {u1 : Nat} (ht : zTown Z t) (hu1 : zTown Z u1) (h : K (uI (uI (uI (uI (uI (uI (uI (cI (cI (cI I (u1 + 1) (t + 1) 0 0 7) (u1 + 2) (t + 2) 0 0 7) (u1 + 3) (t + 3) 0 0 49) t 3 ((cI (cI (cI I (u1 + 1) (t + 1) 0 0 7) (u1 + 2) (t + 2) 0 0 7) (u1 + 3) (t + 3) 0 0 49) u1 3)) t 4 ((uI (cI (cI (cI I (u1 + 1) (t + 1) 0 0 7) (u1 + 2) (t + 2) 0 0 7) (u1 + 3) (t + 3) 0 0 49) t 3 ((cI (cI (cI I (u1 + 1) (t + 1) 0 0 7) (u1 + 2) (t + 2) 0 0 7) (u1 + 3) (t + 3) 0 0 49) u1 3)) u1 4)) t 5 ((uI (uI (cI (cI (cI I (u1 + 1) (t + 1) 0 0 7) (u1 + 2) (t + 2) 0 0 7) (u1 + 3) (t + 3) 0 0 49) t 3 ((cI (cI (cI I (u1 + 1) (t + 1) 0 0 7) (u1 + 2) (t + 2) 0 0 7) (u1 + 3) (t + 3) 0 0 49) u1 3)) t 4 ((uI (cI (cI (cI I (u1 + 1) (t + 1) 0 0 7) (u1 + 2) (t + 2) 0 0 7) (u1 + 3) (t + 3) 0 0 49) t 3 ((cI (cI (cI I (u1 + 1) (t + 1) 0 0 7) (u1 + 2) (t + 2) 0 0 7) (u1 + 3) (t + 3) 0 0 49) u1 3)) u1 4)) u1 5)) t 6 ((uI (uI (uI (cI (cI (cI I (u1 + 1) (t + 1) 0 0 7) (u1 + 2) (t + 2) 0 0 7) (u1 + 3) (t + 3) 0 0 49) t 3 ((cI (cI (cI I (u1 + 1) (t + 1) 0 0 7) (u1 + 2) (t + 2) 0 0 7) (u1 + 3) (t + 3) 0 0 49) u1 3)) t 4 ((uI (cI (cI (cI I (u1 + 1) (t + 1) 0 0 7) (u1 + 2) (t + 2) 0 0 7) (u1 + 3) (t + 3) 0 0 49) t 3 ((cI (cI (cI I (u1 + 1) (t + 1) 0 0 7) (u1 + 2) (t + 2) 0 0 7) (u1 + 3) (t + 3) 0 0 49) u1 3)) u1 4)) t 5 ((uI (uI (cI (cI (cI I (u1 + 1) (t + 1) 0 0 7) (u1 + 2) (t + 2) 0 0 7) (u1 + 3) (t + 3) 0 0 49) t 3 ((cI (cI (cI I (u1 + 1) (t + 1) 0 0 7) (u1 + 2) (t + 2) 0 0 7) (u1 + 3) (t + 3) 0 0 49) u1 3)) t 4 ((uI (cI (cI (cI I (u1 + 1) (t + 1) 0 0 7) (u1 + 2) (t + 2) 0 0 7) (u1 + 3) (t + 3) 0 0 49) t 3 ((cI (cI (cI I (u1 + 1) (t + 1) 0 0 7) (u1 + 2) (t + 2) 0 0 7) (u1 + 3) (t + 3) 0 0 49) u1 3)) u1 4)) u1 5)) u1 6)) t 7 ((uI (uI (uI (uI (cI (cI (cI I (u1 + 1) (t + 1) 0 0 7) (u1 + 2) (t + 2) 0 0 7) (u1 + 3) (t + 3) 0 0 49) t 3 ((cI (cI (cI I (u1 + 1) (t + 1) 0 0 7) (u1 + 2) (t + 2) 0 0 7) (u1 + 3) (t + 3) 0 0 49) u1 3)) t 4 ((uI (cI (cI (cI I (u1 + 1) (t + 1) 0 0 7) (u1 + 2) (t + 2) 0 0 7) (u1 + 3) (t + 3) 0 0 49) t 3 ((cI (cI (cI I (u1 + 1) (t + 1) 0 0 7) (u1 + 2) (t + 2) 0 0 7) (u1 + 3) (t + 3) 0 0 49) u1 3)) u1 4)) t 5 ((uI (uI (cI (cI (cI I (u1 + 1) (t + 1) 0 0 7) (u1 + 2) (t + 2) 0 0 7) (u1 + 3) (t + 3) 0 0 49) t 3 ((cI (cI (cI I (u1 + 1) (t + 1) 0 0 7) (u1 + 2) (t + 2) 0 0 7) (u1 + 3) (t + 3) 0 0 49) u1 3)) t 4 ((uI (cI (cI (cI I (u1 + 1) (t + 1) 0 0 7) (u1 + 2) (t + 2) 0 0 7) (u1 + 3) (t + 3) 0 0 49) t 3 ((cI (cI (cI I (u1 + 1) (t + 1) 0 0 7) (u1 + 2) (t + 2) 0 0 7) (u1 + 3) (t + 3) 0 0 49) u1 3)) u1 4)) u1 5)) t 6 ((uI (uI (uI (cI (cI (cI I (u1 + 1) (t + 1) 0 0 7) (u1 + 2) (t + 2) 0 0 7) (u1 + 3) (t + 3) 0 0 49) t 3 ((cI (cI (cI I (u1 + 1) (t + 1) 0 0 7) (u1 + 2) (t + 2) 0 0 7) (u1 + 3) (t + 3) 0 0 49) u1 3)) t 4 ((uI (cI (cI (cI I (u1 + 1) (t + 1) 0 0 7) (u1 + 2) (t + 2) 0 0 7) (u1 + 3) (t + 3) 0 0 49) t 3 ((cI (cI (cI I (u1 + 1) (t + 1) 0 0 7) (u1 + 2) (t + 2) 0 0 7) (u1 + 3) (t + 3) 0 0 49) u1 3)) u1 4)) t 5 ((uI (uI (cI (cI (cI I (u1 + 1) (t + 1) 0 0 7) (u1 + 2) (t + 2) 0 0 7) (u1 + 3) (t + 3) 0 0 49) t 3 ((cI (cI (cI I (u1 + 1) (t + 1) 0 0 7) (u1 + 2) (t + 2) 0 0 7) (u1 + 3) (t + 3) 0 0 49) u1 3)) t 4 ((uI (cI (cI (cI I (u1 + 1) (t + 1) 0 0 7) (u1 + 2) (t + 2) 0 0 7) (u1 + 3) (t + 3) 0 0 49) t 3 ((cI (cI (cI I (u1 + 1) (t + 1) 0 0 7) (u1 + 2) (t + 2) 0 0 7) (u1 + 3) (t + 3) 0 0 49) u1 3)) u1 4)) u1 5)) u1 6)) u1 7)) t 8 ((uI (uI (uI (uI (uI (cI (cI (cI I (u1 + 1) (t + 1) 0 0 7) (u1 + 2) (t + 2) 0 0 7) (u1 + 3) (t + 3) 0 0 49) t 3 ((cI (cI (cI I (u1 + 1) (t + 1) 0 0 7) (u1 + 2) (t + 2) 0 0 7) (u1 + 3) (t + 3) 0 0 49) u1 3)) t 4 ((uI (cI (cI (cI I (u1 + 1) (t + 1) 0 0 7) (u1 + 2) (t + 2) 0 0 7) (u1 + 3) (t + 3) 0 0 49) t 3 ((cI (cI (cI I (u1 + 1) (t + 1) 0 0 7) (u1 + 2) (t + 2) 0 0 7) (u1 + 3) (t + 3) 0 0 49) u1 3)) u1 4)) t 5 ((uI (uI (cI (cI (cI I (u1 + 1) (t + 1) 0 0 7) (u1 + 2) (t + 2) 0 0 7) (u1 + 3) (t + 3) 0 0 49) t 3 ((cI (cI (cI I (u1 + 1) (t + 1) 0 0 7) (u1 + 2) (t + 2) 0 0 7) (u1 + 3) (t + 3) 0 0 49) u1 3)) t 4 ((uI (cI (cI (cI I (u1 + 1) (t + 1) 0 0 7) (u1 + 2) (t + 2) 0 0 7) (u1 + 3) (t + 3) 0 0 49) t 3 ((cI (cI (cI I (u1 + 1) (t + 1) 0 0 7) (u1 + 2) (t + 2) 0 0 7) (u1 + 3) (t + 3) 0 0 49) u1 3)) u1 4)) u1 5)) t 6 ((uI (uI (uI (cI (cI (cI I (u1 + 1) (t + 1) 0 0 7) (u1 + 2) (t + 2) 0 0 7) (u1 + 3) (t + 3) 0 0 49) t 3 ((cI (cI (cI I (u1 + 1) (t + 1) 0 0 7) (u1 + 2) (t + 2) 0 0 7) (u1 + 3) (t + 3) 0 0 49) u1 3)) t 4 ((uI (cI (cI (cI I (u1 + 1) (t + 1) 0 0 7) (u1 + 2) (t + 2) 0 0 7) (u1 + 3) (t + 3) 0 0 49) t 3 ((cI (cI (cI I (u1 + 1) (t + 1) 0 0 7) (u1 + 2) (t + 2) 0 0 7) (u1 + 3) (t + 3) 0 0 49) u1 3)) u1 4)) t 5 ((uI (uI (cI (cI (cI I (u1 + 1) (t + 1) 0 0 7) (u1 + 2) (t + 2) 0 0 7) (u1 + 3) (t + 3) 0 0 49) t 3 ((cI (cI (cI I (u1 + 1) (t + 1) 0 0 7) (u1 + 2) (t + 2) 0 0 7) (u1 + 3) (t + 3) 0 0 49) u1 3)) t 4 ((uI (cI (cI (cI I (u1 + 1) (t + 1) 0 0 7) (u1 + 2) (t + 2) 0 0 7) (u1 + 3) (t + 3) 0 0 49) t 3 ((cI (cI (cI I (u1 + 1) (t + 1) 0 0 7) (u1 + 2) (t + 2) 0 0 7) (u1 + 3) (t + 3) 0 0 49) u1 3)) u1 4)) u1 5)) u1 6)) t 7 ((uI (uI (uI (uI (cI (cI (cI I (u1 + 1) (t + 1) 0 0 7) (u1 + 2) (t + 2) 0 0 7) (u1 + 3) (t + 3) 0 0 49) t 3 ((cI (cI (cI I (u1 + 1) (t + 1) 0 0 7) (u1 + 2) (t + 2) 0 0 7) (u1 + 3) (t + 3) 0 0 49) u1 3)) t 4 ((uI (cI (cI (cI I (u1 + 1) (t + 1) 0 0 7) (u1 + 2) (t + 2) 0 0 7) (u1 + 3) (t + 3) 0 0 49) t 3 ((cI (cI (cI I (u1 + 1) (t + 1) 0 0 7) (u1 + 2) (t + 2) 0 0 7) (u1 + 3) (t + 3) 0 0 49) u1 3)) u1 4)) t 5 ((uI (uI (cI (cI (cI I (u1 + 1) (t + 1) 0 0 7) (u1 + 2) (t + 2) 0 0 7) (u1 + 3) (t + 3) 0 0 49) t 3 ((cI (cI (cI I (u1 + 1) (t + 1) 0 0 7) (u1 + 2) (t + 2) 0 0 7) (u1 + 3) (t + 3) 0 0 49) u1 3)) t 4 ((uI (cI (cI (cI I (u1 + 1) (t + 1) 0 0 7) (u1 + 2) (t + 2) 0 0 7) (u1 + 3) (t + 3) 0 0 49) t 3 ((cI (cI (cI I (u1 + 1) (t + 1) 0 0 7) (u1 + 2) (t + 2) 0 0 7) (u1 + 3) (t + 3) 0 0 49) u1 3)) u1 4)) u1 5)) t 6 ((uI (uI (uI (cI (cI (cI I (u1 + 1) (t + 1) 0 0 7) (u1 + 2) (t + 2) 0 0 7) (u1 + 3) (t + 3) 0 0 49) t 3 ((cI (cI (cI I (u1 + 1) (t + 1) 0 0 7) (u1 + 2) (t + 2) 0 0 7) (u1 + 3) (t + 3) 0 0 49) u1 3)) t 4 ((uI (cI (cI (cI I (u1 + 1) (t + 1) 0 0 7) (u1 + 2) (t + 2) 0 0 7) (u1 + 3) (t + 3) 0 0 49) t 3 ((cI (cI (cI I (u1 + 1) (t + 1) 0 0 7) (u1 + 2) (t + 2) 0 0 7) (u1 + 3) (t + 3) 0 0 49) u1 3)) u1 4)) t 5 ((uI (uI (cI (cI (cI I (u1 + 1) (t + 1) 0 0 7) (u1 + 2) (t + 2) 0 0 7) (u1 + 3) (t + 3) 0 0 49) t 3 ((cI (cI (cI I (u1 + 1) (t + 1) 0 0 7) (u1 + 2) (t + 2) 0 0 7) (u1 + 3) (t + 3) 0 0 49) u1 3)) t 4 ((uI (cI (cI (cI I (u1 + 1) (t + 1) 0 0 7) (u1 + 2) (t + 2) 0 0 7) (u1 + 3) (t + 3) 0 0 49) t 3 ((cI (cI (cI I (u1 + 1) (t + 1) 0 0 7) (u1 + 2) (t + 2) 0 0 7) (u1 + 3) (t + 3) 0 0 49) u1 3)) u1 4)) u1 5)) u1 6)) u1 7)) u1 8)) t 9 ((uI (uI (uI (uI (uI (uI (cI (cI (cI I (u1 + 1) (t + 1) 0 0 7) (u1 + 2) (t + 2) 0 0 7) (u1 + 3) (t + 3) 0 0 49) t 3 ((cI (cI (cI I (u1 + 1) (t + 1) 0 0 7) (u1 + 2) (t + 2) 0 0 7) (u1 + 3) (t + 3) 0 0 49) u1 3)) t 4 ((uI (cI (cI (cI I (u1 + 1) (t + 1) 0 0 7) (u1 + 2) (t + 2) 0 0 7) (u1 + 3) (t + 3) 0 0 49) t 3 ((cI (cI (cI I (u1 + 1) (t + 1) 0 0 7) (u1 + 2) (t + 2) 0 0 7) (u1 + 3) (t + 3) 0 0 49) u1 3)) u1 4)) t 5 ((uI (uI (cI (cI (cI I (u1 + 1) (t + 1) 0 0 7) (u1 + 2) (t + 2) 0 0 7) (u1 + 3) (t + 3) 0 0 49) t 3 ((cI (cI (cI I (u1 + 1) (t + 1) 0 0 7) (u1 + 2) (t + 2) 0 0 7) (u1 + 3) (t + 3) 0 0 49) u1 3)) t 4 ((uI (cI (cI (cI I (u1 + 1) (t + 1) 0 0 7) (u1 + 2) (t + 2) 0 0 7) (u1 + 3) (t + 3) 0 0 49) t 3 ((cI (cI (cI I (u1 + 1) (t + 1) 0 0 7) (u1 + 2) (t + 2) 0 0 7) (u1 + 3) (t + 3) 0 0 49) u1 3)) u1 4)) u1 5)) t 6 ((uI (uI (uI (cI (cI (cI I (u1 + 1) (t + 1) 0 0 7) (u1 + 2) (t + 2) 0 0 7) (u1 + 3) (t + 3) 0 0 49) t 3 ((cI (cI (cI I (u1 + 1) (t + 1) 0 0 7) (u1 + 2) (t + 2) 0 0 7) (u1 + 3) (t + 3) 0 0 49) u1 3)) t 4 ((uI (cI (cI (cI I (u1 + 1) (t + 1) 0 0 7) (u1 + 2) (t + 2) 0 0 7) (u1 + 3) (t + 3) 0 0 49) t 3 ((cI (cI (cI I (u1 + 1) (t + 1) 0 0 7) (u1 + 2) (t + 2) 0 0 7) (u1 + 3) (t + 3) 0 0 49) u1 3)) u1 4)) t 5 ((uI (uI (cI (cI (cI I (u1 + 1) (t + 1) 0 0 7) (u1 + 2) (t + 2) 0 0 7) (u1 + 3) (t + 3) 0 0 49) t 3 ((cI (cI (cI I (u1 + 1) (t + 1) 0 0 7) (u1 + 2) (t + 2) 0 0 7) (u1 + 3) (t + 3) 0 0 49) u1 3)) t 4 ((uI (cI (cI (cI I (u1 + 1) (t + 1) 0 0 7) (u1 + 2) (t + 2) 0 0 7) (u1 + 3) (t + 3) 0 0 49) t 3 ((cI (cI (cI I (u1 + 1) (t + 1) 0 0 7) (u1 + 2) (t + 2) 0 0 7) (u1 + 3) (t + 3) 0 0 49) u1 3)) u1 4)) u1 5)) u1 6)) t 7 ((uI (uI (uI (uI (cI (cI (cI I (u1 + 1) (t + 1) 0 0 7) (u1 + 2) (t + 2) 0 0 7) (u1 + 3) (t + 3) 0 0 49) t 3 ((cI (cI (cI I (u1 + 1) (t + 1) 0 0 7) (u1 + 2) (t + 2) 0 0 7) (u1 + 3) (t + 3) 0 0 49) u1 3)) t 4 ((uI (cI (cI (cI I (u1 + 1) (t + 1) 0 0 7) (u1 + 2) (t + 2) 0 0 7) (u1 + 3) (t + 3) 0 0 49) t 3 ((cI (cI (cI I (u1 + 1) (t + 1) 0 0 7) (u1 + 2) (t + 2) 0 0 7) (u1 + 3) (t + 3) 0 0 49) u1 3)) u1 4)) t 5 ((uI (uI (cI (cI (cI I (u1 + 1) (t + 1) 0 0 7) (u1 + 2) (t + 2) 0 0 7) (u1 + 3) (t + 3) 0 0 49) t 3 ((cI (cI (cI I (u1 + 1) (t + 1) 0 0 7) (u1 + 2) (t + 2) 0 0 7) (u1 + 3) (t + 3) 0 0 49) u1 3)) t 4 ((uI (cI (cI (cI I (u1 + 1) (t + 1) 0 0 7) (u1 + 2) (t + 2) 0 0 7) (u1 + 3) (t + 3) 0 0 49) t 3 ((cI (cI (cI I (u1 + 1) (t + 1) 0 0 7) (u1 + 2) (t + 2) 0 0 7) (u1 + 3) (t + 3) 0 0 49) u1 3)) u1 4)) u1 5)) t 6 ((uI (uI (uI (cI (cI (cI I (u1 + 1) (t + 1) 0 0 7) (u1 + 2) (t + 2) 0 0 7) (u1 + 3) (t + 3) 0 0 49) t 3 ((cI (cI (cI I (u1 + 1) (t + 1) 0 0 7) (u1 + 2) (t + 2) 0 0 7) (u1 + 3) (t + 3) 0 0 49) u1 3)) t 4 ((uI (cI (cI (cI I (u1 + 1) (t + 1) 0 0 7) (u1 + 2) (t + 2) 0 0 7) (u1 + 3) (t + 3) 0 0 49) t 3 ((cI (cI (cI I (u1 + 1) (t + 1) 0 0 7) (u1 + 2) (t + 2) 0 0 7) (u1 + 3) (t + 3) 0 0 49) u1 3)) u1 4)) t 5 ((uI (uI (cI (cI (cI I (u1 + 1) (t + 1) 0 0 7) (u1 + 2) (t + 2) 0 0 7) (u1 + 3) (t + 3) 0 0 49) t 3 ((cI (cI (cI I (u1 + 1) (t + 1) 0 0 7) (u1 + 2) (t + 2) 0 0 7) (u1 + 3) (t + 3) 0 0 49) u1 3)) t 4 ((uI (cI (cI (cI I (u1 + 1) (t + 1) 0 0 7) (u1 + 2) (t + 2) 0 0 7) (u1 + 3) (t + 3) 0 0 49) t 3 ((cI (cI (cI I (u1 + 1) (t + 1) 0 0 7) (u1 + 2) (t + 2) 0 0 7) (u1 + 3) (t + 3) 0 0 49) u1 3)) u1 4)) u1 5)) u1 6)) u1 7)) t 8 ((uI (uI (uI (uI (uI (cI (cI (cI I (u1 + 1) (t + 1) 0 0 7) (u1 + 2) (t + 2) 0 0 7) (u1 + 3) (t + 3) 0 0 49) t 3 ((cI (cI (cI I (u1 + 1) (t + 1) 0 0 7) (u1 + 2) (t + 2) 0 0 7) (u1 + 3) (t + 3) 0 0 49) u1 3)) t 4 ((uI (cI (cI (cI I (u1 + 1) (t + 1) 0 0 7) (u1 + 2) (t + 2) 0 0 7) (u1 + 3) (t + 3) 0 0 49) t 3 ((cI (cI (cI I (u1 + 1) (t + 1) 0 0 7) (u1 + 2) (t + 2) 0 0 7) (u1 + 3) (t + 3) 0 0 49) u1 3)) u1 4)) t 5 ((uI (uI (cI (cI (cI I (u1 + 1) (t + 1) 0 0 7) (u1 + 2) (t + 2) 0 0 7) (u1 + 3) (t + 3) 0 0 49) t 3 ((cI (cI (cI I (u1 + 1) (t + 1) 0 0 7) (u1 + 2) (t + 2) 0 0 7) (u1 + 3) (t + 3) 0 0 49) u1 3)) t 4 ((uI (cI (cI (cI I (u1 + 1) (t + 1) 0 0 7) (u1 + 2) (t + 2) 0 0 7) (u1 + 3) (t + 3) 0 0 49) t 3 ((cI (cI (cI I (u1 + 1) (t + 1) 0 0 7) (u1 + 2) (t + 2) 0 0 7) (u1 + 3) (t + 3) 0 0 49) u1 3)) u1 4)) u1 5)) t 6 ((uI (uI (uI (cI (cI (cI I (u1 + 1) (t + 1) 0 0 7) (u1 + 2) (t + 2) 0 0 7) (u1 + 3) (t + 3) 0 0 49) t 3 ((cI (cI (cI I (u1 + 1) (t + 1) 0 0 7) (u1 + 2) (t + 2) 0 0 7) (u1 + 3) (t + 3) 0 0 49) u1 3)) t 4 ((uI (cI (cI (cI I (u1 + 1) (t + 1) 0 0 7) (u1 + 2) (t + 2) 0 0 7) (u1 + 3) (t + 3) 0 0 49) t 3 ((cI (cI (cI I (u1 + 1) (t + 1) 0 0 7) (u1 + 2) (t + 2) 0 0 7) (u1 + 3) (t + 3) 0 0 49) u1 3)) u1 4)) t 5 ((uI (uI (cI (cI (cI I (u1 + 1) (t + 1) 0 0 7) (u1 + 2) (t + 2) 0 0 7) (u1 + 3) (t + 3) 0 0 49) t 3 ((cI (cI (cI I (u1 + 1) (t + 1) 0 0 7) (u1 + 2) (t + 2) 0 0 7) (u1 + 3) (t + 3) 0 0 49) u1 3)) t 4 ((uI (cI (cI (cI I (u1 + 1) (t + 1) 0 0 7) (u1 + 2) (t + 2) 0 0 7) (u1 + 3) (t + 3) 0 0 49) t 3 ((cI (cI (cI I (u1 + 1) (t + 1) 0 0 7) (u1 + 2) (t + 2) 0 0 7) (u1 + 3) (t + 3) 0 0 49) u1 3)) u1 4)) u1 5)) u1 6)) t 7 ((uI (uI (uI (uI (cI (cI (cI I (u1 + 1) (t + 1) 0 0 7) (u1 + 2) (t + 2) 0 0 7) (u1 + 3) (t + 3) 0 0 49) t 3 ((cI (cI (cI I (u1 + 1) (t + 1) 0 0 7) (u1 + 2) (t + 2) 0 0 7) (u1 + 3) (t + 3) 0 0 49) u1 3)) t 4 ((uI (cI (cI (cI I (u1 + 1) (t + 1) 0 0 7) (u1 + 2) (t + 2) 0 0 7) (u1 + 3) (t + 3) 0 0 49) t 3 ((cI (cI (cI I (u1 + 1) (t + 1) 0 0 7) (u1 + 2) (t + 2) 0 0 7) (u1 + 3) (t + 3) 0 0 49) u1 3)) u1 4)) t 5 ((uI (uI (cI (cI (cI I (u1 + 1) (t + 1) 0 0 7) (u1 + 2) (t + 2) 0 0 7) (u1 + 3) (t + 3) 0 0 49) t 3 ((cI (cI (cI I (u1 + 1) (t + 1) 0 0 7) (u1 + 2) (t + 2) 0 0 7) (u1 + 3) (t + 3) 0 0 49) u1 3)) t 4 ((uI (cI (cI (cI I (u1 + 1) (t + 1) 0 0 7) (u1 + 2) (t + 2) 0 0 7) (u1 + 3) (t + 3) 0 0 49) t 3 ((cI (cI (cI I (u1 + 1) (t + 1) 0 0 7) (u1 + 2) (t + 2) 0 0 7) (u1 + 3) (t + 3) 0 0 49) u1 3)) u1 4)) u1 5)) t 6 ((uI (uI (uI (cI (cI (cI I (u1 + 1) (t + 1) 0 0 7) (u1 + 2) (t + 2) 0 0 7) (u1 + 3) (t + 3) 0 0 49) t 3 ((cI (cI (cI I (u1 + 1) (t + 1) 0 0 7) (u1 + 2) (t + 2) 0 0 7) (u1 + 3) (t + 3) 0 0 49) u1 3)) t 4 ((uI (cI (cI (cI I (u1 + 1) (t + 1) 0 0 7) (u1 + 2) (t + 2) 0 0 7) (u1 + 3) (t + 3) 0 0 49) t 3 ((cI (cI (cI I (u1 + 1) (t + 1) 0 0 7) (u1 + 2) (t + 2) 0 0 7) (u1 + 3) (t + 3) 0 0 49) u1 3)) u1 4)) t 5 ((uI (uI (cI (cI (cI I (u1 + 1) (t + 1) 0 0 7) (u1 + 2) (t + 2) 0 0 7) (u1 + 3) (t + 3) 0 0 49) t 3 ((cI (cI (cI I (u1 + 1) (t + 1) 0 0 7) (u1 + 2) (t + 2) 0 0 7) (u1 + 3) (t + 3) 0 0 49) u1 3)) t 4 ((uI (cI (cI (cI I (u1 + 1) (t + 1) 0 0 7) (u1 + 2) (t + 2) 0 0 7) (u1 + 3) (t + 3) 0 0 49) t 3 ((cI (cI (cI I (u1 + 1) (t + 1) 0 0 7) (u1 + 2) (t + 2) 0 0 7) (u1 + 3) (t + 3) 0 0 49) u1 3)) u1 4)) u1 5)) u1 6)) u1 7)) u1 8)) u1 9)) J) : Jd G mX9_become (jdFm G (qv Z K)) (n + 1) rc rs 0 [(0, .ref (gb G + t)), (1, .ref (gb G + u1))] [] Z I J := by
  refine jd_aload_n (pc := 0) 1 dX9_become_0 rfl rfl ?_
  refine jd_getR (pc := 1) (ci := 8) (k := 0) (r := (u1 + 1)) gX9_9 hu1.1 rfl (zTown_p0 hu1) dX9_become_1 ?_
  refine jd_iconst (pc := 4) (v := 0) dX9_become_4 (by decide) ?_
  refine jd_aload_n (pc := 5) 0 dX9_become_5 rfl rfl ?_
  refine jd_getR (pc := 6) (ci := 8) (k := 0) (r := (t + 1)) gX9_9 ht.1 rfl (zTown_p0 ht) dX9_become_6 ?_
  refine jd_iconst (pc := 9) (v := 0) dX9_become_9 (by decide) ?_
  refine jd_bipush (pc := 10) (v := 7) dX9_become_10 (by decide) ?_
  refine jd_copyI (pc := 12) (n0 := 7) (n1 := 7) cX9_79 (zTown_a0 hu1) (zTown_a0 ht) (Nat.le_of_ble_eq_true rfl) (by decide) (by decide) (by decide) (by decide) (by decide) dX9_become_12 ?_
  refine jd_aload_n (pc := 15) 1 dX9_become_15 rfl rfl ?_
  refine jd_getR (pc := 16) (ci := 8) (k := 1) (r := (u1 + 2)) gX9_15 hu1.1 rfl (zTown_p1 hu1) dX9_become_16 ?_
  refine jd_iconst (pc := 19) (v := 0) dX9_become_19 (by decide) ?_
  refine jd_aload_n (pc := 20) 0 dX9_become_20 rfl rfl ?_
  refine jd_getR (pc := 21) (ci := 8) (k := 1) (r := (t + 2)) gX9_15 ht.1 rfl (zTown_p1 ht) dX9_become_21 ?_
  refine jd_iconst (pc := 24) (v := 0) dX9_become_24 (by decide) ?_
  refine jd_bipush (pc := 25) (v := 7) dX9_become_25 (by decide) ?_
  refine jd_copyI (pc := 27) (n0 := 7) (n1 := 7) cX9_79 (zTown_a1 hu1) (zTown_a1 ht) (Nat.le_of_ble_eq_true rfl) (by decide) (by decide) (by decide) (by decide) (by decide) dX9_become_27 ?_
  refine jd_aload_n (pc := 30) 1 dX9_become_30 rfl rfl ?_
  refine jd_getR (pc := 31) (ci := 8) (k := 2) (r := (u1 + 3)) gX9_18 hu1.1 rfl (zTown_p2 hu1) dX9_become_31 ?_
  refine jd_iconst (pc := 34) (v := 0) dX9_become_34 (by decide) ?_
  refine jd_aload_n (pc := 35) 0 dX9_become_35 rfl rfl ?_
  refine jd_getR (pc := 36) (ci := 8) (k := 2) (r := (t + 3)) gX9_18 ht.1 rfl (zTown_p2 ht) dX9_become_36 ?_
  refine jd_iconst (pc := 39) (v := 0) dX9_become_39 (by decide) ?_
  refine jd_bipush (pc := 40) (v := 49) dX9_become_40 (by decide) ?_
  refine jd_copyI (pc := 42) (n0 := 49) (n1 := 49) cX9_79 (zTown_a2 hu1) (zTown_a2 ht) (Nat.le_of_ble_eq_true rfl) (by decide) (by decide) (by decide) (by decide) (by decide) dX9_become_42 ?_
  refine jd_aload_n (pc := 45) 0 dX9_become_45 rfl rfl ?_
  refine jd_aload_n (pc := 46) 1 dX9_become_46 rfl rfl ?_
  refine jd_getI (pc := 47) (ci := 8) (k := 3) gX9_28 hu1.1 rfl dX9_become_47 ?_
  refine jd_putI (pc := 50) (ci := 8) (k := 3) pX9_28 ht.1 rfl rfl rfl dX9_become_50 ?_
  refine jd_aload_n (pc := 53) 0 dX9_become_53 rfl rfl ?_
  refine jd_aload_n (pc := 54) 1 dX9_become_54 rfl rfl ?_
  refine jd_getI (pc := 55) (ci := 8) (k := 4) gX9_21 hu1.1 rfl dX9_become_55 ?_
  refine jd_putI (pc := 58) (ci := 8) (k := 4) pX9_21 ht.1 rfl rfl rfl dX9_become_58 ?_
  refine jd_aload_n (pc := 61) 0 dX9_become_61 rfl rfl ?_
  refine jd_aload_n (pc := 62) 1 dX9_become_62 rfl rfl ?_
  refine jd_getI (pc := 63) (ci := 8) (k := 5) gX9_76 hu1.1 rfl dX9_become_63 ?_
  refine jd_putI (pc := 66) (ci := 8) (k := 5) pX9_76 ht.1 rfl rfl rfl dX9_become_66 ?_
  refine jd_aload_n (pc := 69) 0 dX9_become_69 rfl rfl ?_
  refine jd_aload_n (pc := 70) 1 dX9_become_70 rfl rfl ?_
  refine jd_getI (pc := 71) (ci := 8) (k := 6) gX9_25 hu1.1 rfl dX9_become_71 ?_
  refine jd_putI (pc := 74) (ci := 8) (k := 6) pX9_25 ht.1 rfl rfl rfl dX9_become_74 ?_
  refine jd_aload_n (pc := 77) 0 dX9_become_77 rfl rfl ?_
  refine jd_aload_n (pc := 78) 1 dX9_become_78 rfl rfl ?_
  refine jd_getI (pc := 79) (ci := 8) (k := 7) gX9_62 hu1.1 rfl dX9_become_79 ?_
  refine jd_putI (pc := 82) (ci := 8) (k := 7) pX9_62 ht.1 rfl rfl rfl dX9_become_82 ?_
  refine jd_aload_n (pc := 85) 0 dX9_become_85 rfl rfl ?_
  refine jd_aload_n (pc := 86) 1 dX9_become_86 rfl rfl ?_
  refine jd_getI (pc := 87) (ci := 8) (k := 8) gX9_65 hu1.1 rfl dX9_become_87 ?_
  refine jd_putI (pc := 90) (ci := 8) (k := 8) pX9_65 ht.1 rfl rfl rfl dX9_become_90 ?_
  refine jd_aload_n (pc := 93) 0 dX9_become_93 rfl rfl ?_
  refine jd_aload_n (pc := 94) 1 dX9_become_94 rfl rfl ?_
  refine jd_getI (pc := 95) (ci := 8) (k := 9) gX9_68 hu1.1 rfl dX9_become_95 ?_
  refine jd_putI (pc := 98) (ci := 8) (k := 9) pX9_68 ht.1 rfl rfl rfl dX9_become_98 ?_
  exact jd_vretK (pc := 101) rfl dX9_become_101 h
theorem eX9_become {G : jdG} {n : Nat} {Z : jdL} {I : jdI} {J : jdJ} {K : jdI → jdJ → Prop} {t : Nat} {u1 : Nat} (ht : zTown Z t) (hu1 : zTown Z u1) (h : K (uI (uI (uI (uI (uI (uI (uI (cI (cI (cI I (u1 + 1) (t + 1) 0 0 7) (u1 + 2) (t + 2) 0 0 7) (u1 + 3) (t + 3) 0 0 49) t 3 ((cI (cI (cI I (u1 + 1) (t + 1) 0 0 7) (u1 + 2) (t + 2) 0 0 7) (u1 + 3) (t + 3) 0 0 49) u1 3)) t 4 ((uI (cI (cI (cI I (u1 + 1) (t + 1) 0 0 7) (u1 + 2) (t + 2) 0 0 7) (u1 + 3) (t + 3) 0 0 49) t 3 ((cI (cI (cI I (u1 + 1) (t + 1) 0 0 7) (u1 + 2) (t + 2) 0 0 7) (u1 + 3) (t + 3) 0 0 49) u1 3)) u1 4)) t 5 ((uI (uI (cI (cI (cI I (u1 + 1) (t + 1) 0 0 7) (u1 + 2) (t + 2) 0 0 7) (u1 + 3) (t + 3) 0 0 49) t 3 ((cI (cI (cI I (u1 + 1) (t + 1) 0 0 7) (u1 + 2) (t + 2) 0 0 7) (u1 + 3) (t + 3) 0 0 49) u1 3)) t 4 ((uI (cI (cI (cI I (u1 + 1) (t + 1) 0 0 7) (u1 + 2) (t + 2) 0 0 7) (u1 + 3) (t + 3) 0 0 49) t 3 ((cI (cI (cI I (u1 + 1) (t + 1) 0 0 7) (u1 + 2) (t + 2) 0 0 7) (u1 + 3) (t + 3) 0 0 49) u1 3)) u1 4)) u1 5)) t 6 ((uI (uI (uI (cI (cI (cI I (u1 + 1) (t + 1) 0 0 7) (u1 + 2) (t + 2) 0 0 7) (u1 + 3) (t + 3) 0 0 49) t 3 ((cI (cI (cI I (u1 + 1) (t + 1) 0 0 7) (u1 + 2) (t + 2) 0 0 7) (u1 + 3) (t + 3) 0 0 49) u1 3)) t 4 ((uI (cI (cI (cI I (u1 + 1) (t + 1) 0 0 7) (u1 + 2) (t + 2) 0 0 7) (u1 + 3) (t + 3) 0 0 49) t 3 ((cI (cI (cI I (u1 + 1) (t + 1) 0 0 7) (u1 + 2) (t + 2) 0 0 7) (u1 + 3) (t + 3) 0 0 49) u1 3)) u1 4)) t 5 ((uI (uI (cI (cI (cI I (u1 + 1) (t + 1) 0 0 7) (u1 + 2) (t + 2) 0 0 7) (u1 + 3) (t + 3) 0 0 49) t 3 ((cI (cI (cI I (u1 + 1) (t + 1) 0 0 7) (u1 + 2) (t + 2) 0 0 7) (u1 + 3) (t + 3) 0 0 49) u1 3)) t 4 ((uI (cI (cI (cI I (u1 + 1) (t + 1) 0 0 7) (u1 + 2) (t + 2) 0 0 7) (u1 + 3) (t + 3) 0 0 49) t 3 ((cI (cI (cI I (u1 + 1) (t + 1) 0 0 7) (u1 + 2) (t + 2) 0 0 7) (u1 + 3) (t + 3) 0 0 49) u1 3)) u1 4)) u1 5)) u1 6)) t 7 ((uI (uI (uI (uI (cI (cI (cI I (u1 + 1) (t + 1) 0 0 7) (u1 + 2) (t + 2) 0 0 7) (u1 + 3) (t + 3) 0 0 49) t 3 ((cI (cI (cI I (u1 + 1) (t + 1) 0 0 7) (u1 + 2) (t + 2) 0 0 7) (u1 + 3) (t + 3) 0 0 49) u1 3)) t 4 ((uI (cI (cI (cI I (u1 + 1) (t + 1) 0 0 7) (u1 + 2) (t + 2) 0 0 7) (u1 + 3) (t + 3) 0 0 49) t 3 ((cI (cI (cI I (u1 + 1) (t + 1) 0 0 7) (u1 + 2) (t + 2) 0 0 7) (u1 + 3) (t + 3) 0 0 49) u1 3)) u1 4)) t 5 ((uI (uI (cI (cI (cI I (u1 + 1) (t + 1) 0 0 7) (u1 + 2) (t + 2) 0 0 7) (u1 + 3) (t + 3) 0 0 49) t 3 ((cI (cI (cI I (u1 + 1) (t + 1) 0 0 7) (u1 + 2) (t + 2) 0 0 7) (u1 + 3) (t + 3) 0 0 49) u1 3)) t 4 ((uI (cI (cI (cI I (u1 + 1) (t + 1) 0 0 7) (u1 + 2) (t + 2) 0 0 7) (u1 + 3) (t + 3) 0 0 49) t 3 ((cI (cI (cI I (u1 + 1) (t + 1) 0 0 7) (u1 + 2) (t + 2) 0 0 7) (u1 + 3) (t + 3) 0 0 49) u1 3)) u1 4)) u1 5)) t 6 ((uI (uI (uI (cI (cI (cI I (u1 + 1) (t + 1) 0 0 7) (u1 + 2) (t + 2) 0 0 7) (u1 + 3) (t + 3) 0 0 49) t 3 ((cI (cI (cI I (u1 + 1) (t + 1) 0 0 7) (u1 + 2) (t + 2) 0 0 7) (u1 + 3) (t + 3) 0 0 49) u1 3)) t 4 ((uI (cI (cI (cI I (u1 + 1) (t + 1) 0 0 7) (u1 + 2) (t + 2) 0 0 7) (u1 + 3) (t + 3) 0 0 49) t 3 ((cI (cI (cI I (u1 + 1) (t + 1) 0 0 7) (u1 + 2) (t + 2) 0 0 7) (u1 + 3) (t + 3) 0 0 49) u1 3)) u1 4)) t 5 ((uI (uI (cI (cI (cI I (u1 + 1) (t + 1) 0 0 7) (u1 + 2) (t + 2) 0 0 7) (u1 + 3) (t + 3) 0 0 49) t 3 ((cI (cI (cI I (u1 + 1) (t + 1) 0 0 7) (u1 + 2) (t + 2) 0 0 7) (u1 + 3) (t + 3) 0 0 49) u1 3)) t 4 ((uI (cI (cI (cI I (u1 + 1) (t + 1) 0 0 7) (u1 + 2) (t + 2) 0 0 7) (u1 + 3) (t + 3) 0 0 49) t 3 ((cI (cI (cI I (u1 + 1) (t + 1) 0 0 7) (u1 + 2) (t + 2) 0 0 7) (u1 + 3) (t + 3) 0 0 49) u1 3)) u1 4)) u1 5)) u1 6)) u1 7)) t 8 ((uI (uI (uI (uI (uI (cI (cI (cI I (u1 + 1) (t + 1) 0 0 7) (u1 + 2) (t + 2) 0 0 7) (u1 + 3) (t + 3) 0 0 49) t 3 ((cI (cI (cI I (u1 + 1) (t + 1) 0 0 7) (u1 + 2) (t + 2) 0 0 7) (u1 + 3) (t + 3) 0 0 49) u1 3)) t 4 ((uI (cI (cI (cI I (u1 + 1) (t + 1) 0 0 7) (u1 + 2) (t + 2) 0 0 7) (u1 + 3) (t + 3) 0 0 49) t 3 ((cI (cI (cI I (u1 + 1) (t + 1) 0 0 7) (u1 + 2) (t + 2) 0 0 7) (u1 + 3) (t + 3) 0 0 49) u1 3)) u1 4)) t 5 ((uI (uI (cI (cI (cI I (u1 + 1) (t + 1) 0 0 7) (u1 + 2) (t + 2) 0 0 7) (u1 + 3) (t + 3) 0 0 49) t 3 ((cI (cI (cI I (u1 + 1) (t + 1) 0 0 7) (u1 + 2) (t + 2) 0 0 7) (u1 + 3) (t + 3) 0 0 49) u1 3)) t 4 ((uI (cI (cI (cI I (u1 + 1) (t + 1) 0 0 7) (u1 + 2) (t + 2) 0 0 7) (u1 + 3) (t + 3) 0 0 49) t 3 ((cI (cI (cI I (u1 + 1) (t + 1) 0 0 7) (u1 + 2) (t + 2) 0 0 7) (u1 + 3) (t + 3) 0 0 49) u1 3)) u1 4)) u1 5)) t 6 ((uI (uI (uI (cI (cI (cI I (u1 + 1) (t + 1) 0 0 7) (u1 + 2) (t + 2) 0 0 7) (u1 + 3) (t + 3) 0 0 49) t 3 ((cI (cI (cI I (u1 + 1) (t + 1) 0 0 7) (u1 + 2) (t + 2) 0 0 7) (u1 + 3) (t + 3) 0 0 49) u1 3)) t 4 ((uI (cI (cI (cI I (u1 + 1) (t + 1) 0 0 7) (u1 + 2) (t + 2) 0 0 7) (u1 + 3) (t + 3) 0 0 49) t 3 ((cI (cI (cI I (u1 + 1) (t + 1) 0 0 7) (u1 + 2) (t + 2) 0 0 7) (u1 + 3) (t + 3) 0 0 49) u1 3)) u1 4)) t 5 ((uI (uI (cI (cI (cI I (u1 + 1) (t + 1) 0 0 7) (u1 + 2) (t + 2) 0 0 7) (u1 + 3) (t + 3) 0 0 49) t 3 ((cI (cI (cI I (u1 + 1) (t + 1) 0 0 7) (u1 + 2) (t + 2) 0 0 7) (u1 + 3) (t + 3) 0 0 49) u1 3)) t 4 ((uI (cI (cI (cI I (u1 + 1) (t + 1) 0 0 7) (u1 + 2) (t + 2) 0 0 7) (u1 + 3) (t + 3) 0 0 49) t 3 ((cI (cI (cI I (u1 + 1) (t + 1) 0 0 7) (u1 + 2) (t + 2) 0 0 7) (u1 + 3) (t + 3) 0 0 49) u1 3)) u1 4)) u1 5)) u1 6)) t 7 ((uI (uI (uI (uI (cI (cI (cI I (u1 + 1) (t + 1) 0 0 7) (u1 + 2) (t + 2) 0 0 7) (u1 + 3) (t + 3) 0 0 49) t 3 ((cI (cI (cI I (u1 + 1) (t + 1) 0 0 7) (u1 + 2) (t + 2) 0 0 7) (u1 + 3) (t + 3) 0 0 49) u1 3)) t 4 ((uI (cI (cI (cI I (u1 + 1) (t + 1) 0 0 7) (u1 + 2) (t + 2) 0 0 7) (u1 + 3) (t + 3) 0 0 49) t 3 ((cI (cI (cI I (u1 + 1) (t + 1) 0 0 7) (u1 + 2) (t + 2) 0 0 7) (u1 + 3) (t + 3) 0 0 49) u1 3)) u1 4)) t 5 ((uI (uI (cI (cI (cI I (u1 + 1) (t + 1) 0 0 7) (u1 + 2) (t + 2) 0 0 7) (u1 + 3) (t + 3) 0 0 49) t 3 ((cI (cI (cI I (u1 + 1) (t + 1) 0 0 7) (u1 + 2) (t + 2) 0 0 7) (u1 + 3) (t + 3) 0 0 49) u1 3)) t 4 ((uI (cI (cI (cI I (u1 + 1) (t + 1) 0 0 7) (u1 + 2) (t + 2) 0 0 7) (u1 + 3) (t + 3) 0 0 49) t 3 ((cI (cI (cI I (u1 + 1) (t + 1) 0 0 7) (u1 + 2) (t + 2) 0 0 7) (u1 + 3) (t + 3) 0 0 49) u1 3)) u1 4)) u1 5)) t 6 ((uI (uI (uI (cI (cI (cI I (u1 + 1) (t + 1) 0 0 7) (u1 + 2) (t + 2) 0 0 7) (u1 + 3) (t + 3) 0 0 49) t 3 ((cI (cI (cI I (u1 + 1) (t + 1) 0 0 7) (u1 + 2) (t + 2) 0 0 7) (u1 + 3) (t + 3) 0 0 49) u1 3)) t 4 ((uI (cI (cI (cI I (u1 + 1) (t + 1) 0 0 7) (u1 + 2) (t + 2) 0 0 7) (u1 + 3) (t + 3) 0 0 49) t 3 ((cI (cI (cI I (u1 + 1) (t + 1) 0 0 7) (u1 + 2) (t + 2) 0 0 7) (u1 + 3) (t + 3) 0 0 49) u1 3)) u1 4)) t 5 ((uI (uI (cI (cI (cI I (u1 + 1) (t + 1) 0 0 7) (u1 + 2) (t + 2) 0 0 7) (u1 + 3) (t + 3) 0 0 49) t 3 ((cI (cI (cI I (u1 + 1) (t + 1) 0 0 7) (u1 + 2) (t + 2) 0 0 7) (u1 + 3) (t + 3) 0 0 49) u1 3)) t 4 ((uI (cI (cI (cI I (u1 + 1) (t + 1) 0 0 7) (u1 + 2) (t + 2) 0 0 7) (u1 + 3) (t + 3) 0 0 49) t 3 ((cI (cI (cI I (u1 + 1) (t + 1) 0 0 7) (u1 + 2) (t + 2) 0 0 7) (u1 + 3) (t + 3) 0 0 49) u1 3)) u1 4)) u1 5)) u1 6)) u1 7)) u1 8)) t 9 ((uI (uI (uI (uI (uI (uI (cI (cI (cI I (u1 + 1) (t + 1) 0 0 7) (u1 + 2) (t + 2) 0 0 7) (u1 + 3) (t + 3) 0 0 49) t 3 ((cI (cI (cI I (u1 + 1) (t + 1) 0 0 7) (u1 + 2) (t + 2) 0 0 7) (u1 + 3) (t + 3) 0 0 49) u1 3)) t 4 ((uI (cI (cI (cI I (u1 + 1) (t + 1) 0 0 7) (u1 + 2) (t + 2) 0 0 7) (u1 + 3) (t + 3) 0 0 49) t 3 ((cI (cI (cI I (u1 + 1) (t + 1) 0 0 7) (u1 + 2) (t + 2) 0 0 7) (u1 + 3) (t + 3) 0 0 49) u1 3)) u1 4)) t 5 ((uI (uI (cI (cI (cI I (u1 + 1) (t + 1) 0 0 7) (u1 + 2) (t + 2) 0 0 7) (u1 + 3) (t + 3) 0 0 49) t 3 ((cI (cI (cI I (u1 + 1) (t + 1) 0 0 7) (u1 + 2) (t + 2) 0 0 7) (u1 + 3) (t + 3) 0 0 49) u1 3)) t 4 ((uI (cI (cI (cI I (u1 + 1) (t + 1) 0 0 7) (u1 + 2) (t + 2) 0 0 7) (u1 + 3) (t + 3) 0 0 49) t 3 ((cI (cI (cI I (u1 + 1) (t + 1) 0 0 7) (u1 + 2) (t + 2) 0 0 7) (u1 + 3) (t + 3) 0 0 49) u1 3)) u1 4)) u1 5)) t 6 ((uI (uI (uI (cI (cI (cI I (u1 + 1) (t + 1) 0 0 7) (u1 + 2) (t + 2) 0 0 7) (u1 + 3) (t + 3) 0 0 49) t 3 ((cI (cI (cI I (u1 + 1) (t + 1) 0 0 7) (u1 + 2) (t + 2) 0 0 7) (u1 + 3) (t + 3) 0 0 49) u1 3)) t 4 ((uI (cI (cI (cI I (u1 + 1) (t + 1) 0 0 7) (u1 + 2) (t + 2) 0 0 7) (u1 + 3) (t + 3) 0 0 49) t 3 ((cI (cI (cI I (u1 + 1) (t + 1) 0 0 7) (u1 + 2) (t + 2) 0 0 7) (u1 + 3) (t + 3) 0 0 49) u1 3)) u1 4)) t 5 ((uI (uI (cI (cI (cI I (u1 + 1) (t + 1) 0 0 7) (u1 + 2) (t + 2) 0 0 7) (u1 + 3) (t + 3) 0 0 49) t 3 ((cI (cI (cI I (u1 + 1) (t + 1) 0 0 7) (u1 + 2) (t + 2) 0 0 7) (u1 + 3) (t + 3) 0 0 49) u1 3)) t 4 ((uI (cI (cI (cI I (u1 + 1) (t + 1) 0 0 7) (u1 + 2) (t + 2) 0 0 7) (u1 + 3) (t + 3) 0 0 49) t 3 ((cI (cI (cI I (u1 + 1) (t + 1) 0 0 7) (u1 + 2) (t + 2) 0 0 7) (u1 + 3) (t + 3) 0 0 49) u1 3)) u1 4)) u1 5)) u1 6)) t 7 ((uI (uI (uI (uI (cI (cI (cI I (u1 + 1) (t + 1) 0 0 7) (u1 + 2) (t + 2) 0 0 7) (u1 + 3) (t + 3) 0 0 49) t 3 ((cI (cI (cI I (u1 + 1) (t + 1) 0 0 7) (u1 + 2) (t + 2) 0 0 7) (u1 + 3) (t + 3) 0 0 49) u1 3)) t 4 ((uI (cI (cI (cI I (u1 + 1) (t + 1) 0 0 7) (u1 + 2) (t + 2) 0 0 7) (u1 + 3) (t + 3) 0 0 49) t 3 ((cI (cI (cI I (u1 + 1) (t + 1) 0 0 7) (u1 + 2) (t + 2) 0 0 7) (u1 + 3) (t + 3) 0 0 49) u1 3)) u1 4)) t 5 ((uI (uI (cI (cI (cI I (u1 + 1) (t + 1) 0 0 7) (u1 + 2) (t + 2) 0 0 7) (u1 + 3) (t + 3) 0 0 49) t 3 ((cI (cI (cI I (u1 + 1) (t + 1) 0 0 7) (u1 + 2) (t + 2) 0 0 7) (u1 + 3) (t + 3) 0 0 49) u1 3)) t 4 ((uI (cI (cI (cI I (u1 + 1) (t + 1) 0 0 7) (u1 + 2) (t + 2) 0 0 7) (u1 + 3) (t + 3) 0 0 49) t 3 ((cI (cI (cI I (u1 + 1) (t + 1) 0 0 7) (u1 + 2) (t + 2) 0 0 7) (u1 + 3) (t + 3) 0 0 49) u1 3)) u1 4)) u1 5)) t 6 ((uI (uI (uI (cI (cI (cI I (u1 + 1) (t + 1) 0 0 7) (u1 + 2) (t + 2) 0 0 7) (u1 + 3) (t + 3) 0 0 49) t 3 ((cI (cI (cI I (u1 + 1) (t + 1) 0 0 7) (u1 + 2) (t + 2) 0 0 7) (u1 + 3) (t + 3) 0 0 49) u1 3)) t 4 ((uI (cI (cI (cI I (u1 + 1) (t + 1) 0 0 7) (u1 + 2) (t + 2) 0 0 7) (u1 + 3) (t + 3) 0 0 49) t 3 ((cI (cI (cI I (u1 + 1) (t + 1) 0 0 7) (u1 + 2) (t + 2) 0 0 7) (u1 + 3) (t + 3) 0 0 49) u1 3)) u1 4)) t 5 ((uI (uI (cI (cI (cI I (u1 + 1) (t + 1) 0 0 7) (u1 + 2) (t + 2) 0 0 7) (u1 + 3) (t + 3) 0 0 49) t 3 ((cI (cI (cI I (u1 + 1) (t + 1) 0 0 7) (u1 + 2) (t + 2) 0 0 7) (u1 + 3) (t + 3) 0 0 49) u1 3)) t 4 ((uI (cI (cI (cI I (u1 + 1) (t + 1) 0 0 7) (u1 + 2) (t + 2) 0 0 7) (u1 + 3) (t + 3) 0 0 49) t 3 ((cI (cI (cI I (u1 + 1) (t + 1) 0 0 7) (u1 + 2) (t + 2) 0 0 7) (u1 + 3) (t + 3) 0 0 49) u1 3)) u1 4)) u1 5)) u1 6)) u1 7)) t 8 ((uI (uI (uI (uI (uI (cI (cI (cI I (u1 + 1) (t + 1) 0 0 7) (u1 + 2) (t + 2) 0 0 7) (u1 + 3) (t + 3) 0 0 49) t 3 ((cI (cI (cI I (u1 + 1) (t + 1) 0 0 7) (u1 + 2) (t + 2) 0 0 7) (u1 + 3) (t + 3) 0 0 49) u1 3)) t 4 ((uI (cI (cI (cI I (u1 + 1) (t + 1) 0 0 7) (u1 + 2) (t + 2) 0 0 7) (u1 + 3) (t + 3) 0 0 49) t 3 ((cI (cI (cI I (u1 + 1) (t + 1) 0 0 7) (u1 + 2) (t + 2) 0 0 7) (u1 + 3) (t + 3) 0 0 49) u1 3)) u1 4)) t 5 ((uI (uI (cI (cI (cI I (u1 + 1) (t + 1) 0 0 7) (u1 + 2) (t + 2) 0 0 7) (u1 + 3) (t + 3) 0 0 49) t 3 ((cI (cI (cI I (u1 + 1) (t + 1) 0 0 7) (u1 + 2) (t + 2) 0 0 7) (u1 + 3) (t + 3) 0 0 49) u1 3)) t 4 ((uI (cI (cI (cI I (u1 + 1) (t + 1) 0 0 7) (u1 + 2) (t + 2) 0 0 7) (u1 + 3) (t + 3) 0 0 49) t 3 ((cI (cI (cI I (u1 + 1) (t + 1) 0 0 7) (u1 + 2) (t + 2) 0 0 7) (u1 + 3) (t + 3) 0 0 49) u1 3)) u1 4)) u1 5)) t 6 ((uI (uI (uI (cI (cI (cI I (u1 + 1) (t + 1) 0 0 7) (u1 + 2) (t + 2) 0 0 7) (u1 + 3) (t + 3) 0 0 49) t 3 ((cI (cI (cI I (u1 + 1) (t + 1) 0 0 7) (u1 + 2) (t + 2) 0 0 7) (u1 + 3) (t + 3) 0 0 49) u1 3)) t 4 ((uI (cI (cI (cI I (u1 + 1) (t + 1) 0 0 7) (u1 + 2) (t + 2) 0 0 7) (u1 + 3) (t + 3) 0 0 49) t 3 ((cI (cI (cI I (u1 + 1) (t + 1) 0 0 7) (u1 + 2) (t + 2) 0 0 7) (u1 + 3) (t + 3) 0 0 49) u1 3)) u1 4)) t 5 ((uI (uI (cI (cI (cI I (u1 + 1) (t + 1) 0 0 7) (u1 + 2) (t + 2) 0 0 7) (u1 + 3) (t + 3) 0 0 49) t 3 ((cI (cI (cI I (u1 + 1) (t + 1) 0 0 7) (u1 + 2) (t + 2) 0 0 7) (u1 + 3) (t + 3) 0 0 49) u1 3)) t 4 ((uI (cI (cI (cI I (u1 + 1) (t + 1) 0 0 7) (u1 + 2) (t + 2) 0 0 7) (u1 + 3) (t + 3) 0 0 49) t 3 ((cI (cI (cI I (u1 + 1) (t + 1) 0 0 7) (u1 + 2) (t + 2) 0 0 7) (u1 + 3) (t + 3) 0 0 49) u1 3)) u1 4)) u1 5)) u1 6)) t 7 ((uI (uI (uI (uI (cI (cI (cI I (u1 + 1) (t + 1) 0 0 7) (u1 + 2) (t + 2) 0 0 7) (u1 + 3) (t + 3) 0 0 49) t 3 ((cI (cI (cI I (u1 + 1) (t + 1) 0 0 7) (u1 + 2) (t + 2) 0 0 7) (u1 + 3) (t + 3) 0 0 49) u1 3)) t 4 ((uI (cI (cI (cI I (u1 + 1) (t + 1) 0 0 7) (u1 + 2) (t + 2) 0 0 7) (u1 + 3) (t + 3) 0 0 49) t 3 ((cI (cI (cI I (u1 + 1) (t + 1) 0 0 7) (u1 + 2) (t + 2) 0 0 7) (u1 + 3) (t + 3) 0 0 49) u1 3)) u1 4)) t 5 ((uI (uI (cI (cI (cI I (u1 + 1) (t + 1) 0 0 7) (u1 + 2) (t + 2) 0 0 7) (u1 + 3) (t + 3) 0 0 49) t 3 ((cI (cI (cI I (u1 + 1) (t + 1) 0 0 7) (u1 + 2) (t + 2) 0 0 7) (u1 + 3) (t + 3) 0 0 49) u1 3)) t 4 ((uI (cI (cI (cI I (u1 + 1) (t + 1) 0 0 7) (u1 + 2) (t + 2) 0 0 7) (u1 + 3) (t + 3) 0 0 49) t 3 ((cI (cI (cI I (u1 + 1) (t + 1) 0 0 7) (u1 + 2) (t + 2) 0 0 7) (u1 + 3) (t + 3) 0 0 49) u1 3)) u1 4)) u1 5)) t 6 ((uI (uI (uI (cI (cI (cI I (u1 + 1) (t + 1) 0 0 7) (u1 + 2) (t + 2) 0 0 7) (u1 + 3) (t + 3) 0 0 49) t 3 ((cI (cI (cI I (u1 + 1) (t + 1) 0 0 7) (u1 + 2) (t + 2) 0 0 7) (u1 + 3) (t + 3) 0 0 49) u1 3)) t 4 ((uI (cI (cI (cI I (u1 + 1) (t + 1) 0 0 7) (u1 + 2) (t + 2) 0 0 7) (u1 + 3) (t + 3) 0 0 49) t 3 ((cI (cI (cI I (u1 + 1) (t + 1) 0 0 7) (u1 + 2) (t + 2) 0 0 7) (u1 + 3) (t + 3) 0 0 49) u1 3)) u1 4)) t 5 ((uI (uI (cI (cI (cI I (u1 + 1) (t + 1) 0 0 7) (u1 + 2) (t + 2) 0 0 7) (u1 + 3) (t + 3) 0 0 49) t 3 ((cI (cI (cI I (u1 + 1) (t + 1) 0 0 7) (u1 + 2) (t + 2) 0 0 7) (u1 + 3) (t + 3) 0 0 49) u1 3)) t 4 ((uI (cI (cI (cI I (u1 + 1) (t + 1) 0 0 7) (u1 + 2) (t + 2) 0 0 7) (u1 + 3) (t + 3) 0 0 49) t 3 ((cI (cI (cI I (u1 + 1) (t + 1) 0 0 7) (u1 + 2) (t + 2) 0 0 7) (u1 + 3) (t + 3) 0 0 49) u1 3)) u1 4)) u1 5)) u1 6)) u1 7)) u1 8)) u1 9)) J) : Cl G mX9_become (n + 1) 0 0 [.ref (gb G + t), .ref (gb G + u1)] Z I J (qv Z K) :=
  Cl.of (by decide +kernel) (Nat.le_of_ble_eq_true rfl) (rX9_become_0 ht hu1 h)
set_option maxRecDepth 4000 in
theorem rX6_isRow_0 {G : jdG} {n rc rs : Nat} {Z : jdL} {I : jdI} {J : jdJ} {K : Int32 → jdI → jdJ → Prop} {t : Nat} (ht : zShelf Z t) (h : (((I t 1) = (-1) → K 0 I J) ∧ (¬ (I t 1) = (-1) → K 1 I J))) : Jd G mX6_isRow (jdFm G (qi Z K)) n rc rs 0 [(0, .ref (gb G + t))] [] Z I J := by
  refine jd_aload_n (pc := 0) 0 dX6_isRow_0 rfl rfl ?_
  refine jd_getI (pc := 1) (ci := 5) (k := 1) gX6_15 ht.1 rfl dX6_isRow_1 ?_
  refine jd_iconst (pc := 4) (v := (-1)) dX6_isRow_4 (by decide) ?_
  refine jd_icmp_eq (pc := 5) 12 dX6_isRow_5 (by decide) (fun hc => ?_) (fun hc => ?_)
  · have h := h.1 hc
    refine jd_iconst (pc := 12) (v := 0) dX6_isRow_12 (by decide) ?_
    exact jd_iretK (pc := 13) (ty := .boolean) rfl (by decide) dX6_isRow_13 h
  · have h := h.2 hc
    refine jd_iconst (pc := 8) (v := 1) dX6_isRow_8 (by decide) ?_
    refine jd_goto (pc := 9) 13 dX6_isRow_9 (by decide) ?_
    exact jd_iretK (pc := 13) (ty := .boolean) rfl (by decide) dX6_isRow_13 h
theorem eX6_isRow {G : jdG} {n : Nat} {Z : jdL} {I : jdI} {J : jdJ} {K : Int32 → jdI → jdJ → Prop} {t : Nat} (ht : zShelf Z t) (h : (((I t 1) = (-1) → K 0 I J) ∧ (¬ (I t 1) = (-1) → K 1 I J))) : Cl G mX6_isRow (n) 0 0 [.ref (gb G + t)] Z I J (qi Z K) :=
  Cl.of (by decide +kernel) (Nat.le_of_ble_eq_true rfl) (rX6_isRow_0 ht h)
set_option maxRecDepth 4000 in
theorem rX6_takeRow_0 {G : jdG} {n rc rs : Nat} {Z : jdL} {I : jdI} {J : jdJ} {Q : jdQ} {t : Nat} {x1 : Int32} {x2 : Int32} (ht : zShelf Z t) (h : (zShelf (uP Z t 3 none) t ∧ Jd G mX6_takeRow (jdFm G Q) n rc rs 17 [(0, .ref (gb G + t)), (1, .int x1), (2, .int x2), (3, .int 0)] [] (uP Z t 3 none) (uI (uI I t 1 x1) t 2 x2) J)) : Jd G mX6_takeRow (jdFm G Q) n rc rs 0 [(0, .ref (gb G + t)), (1, .int x1), (2, .int x2)] [] Z I J := by
  refine jd_aload_n (pc := 0) 0 dX6_takeRow_0 rfl rfl ?_
  refine jd_null (pc := 1) dX6_takeRow_1 ?_
  refine jd_putN (pc := 2) (ci := 5) (k := 3) pX6_19 ht.1 rfl rfl rfl dX6_takeRow_2 ?_
  obtain ⟨ht, h⟩ := h
  refine jd_aload_n (pc := 5) 0 dX6_takeRow_5 rfl rfl ?_
  refine jd_iload_n (pc := 6) 1 dX6_takeRow_6 rfl rfl ?_
  refine jd_putI (pc := 7) (ci := 5) (k := 1) pX6_15 ht.1 rfl rfl rfl dX6_takeRow_7 ?_
  refine jd_aload_n (pc := 10) 0 dX6_takeRow_10 rfl rfl ?_
  refine jd_iload_n (pc := 11) 2 dX6_takeRow_11 rfl rfl ?_
  refine jd_putI (pc := 12) (ci := 5) (k := 2) pX6_23 ht.1 rfl rfl rfl dX6_takeRow_12 ?_
  refine jd_iconst (pc := 15) (v := 0) dX6_takeRow_15 (by decide) ?_
  refine jd_istore_n (pc := 16) [(3, .int 0), (0, .ref (gb G + t)), (1, .int x1), (2, .int x2)] dX6_takeRow_16 rfl (by decide) rfl ?_
  exact jd_lv (lv2 := [(0, .ref (gb G + t)), (1, .int x1), (2, .int x2), (3, .int 0)]) [1, 2, 3, 0] rfl h
set_option maxRecDepth 4000 in
theorem rX6_takeRow_17 {G : jdG} {n rc rs : Nat} {Z : jdL} {I : jdI} {J : jdJ} {Q : jdQ} {t : Nat} {x1 : Int32} {x2 : Int32} {x3 : Int32} (ht : zShelf Z t) (h : ((40 ≤ x3 → Q none Z I J) ∧ (¬ 40 ≤ x3 → (vp_in x3 40 ∧ Jd G mX6_takeRow (jdFm G Q) n rc rs 17 [(0, .ref (gb G + t)), (1, .int x1), (2, .int x2), (3, .int (x3 + 1))] [] Z I (uJ J (t + 1) (Int32.toNatClampNeg x3) 0))))) : Jd G mX6_takeRow (jdFm G Q) n rc rs 17 [(0, .ref (gb G + t)), (1, .int x1), (2, .int x2), (3, .int x3)] [] Z I J := by
  refine jd_iload_n (pc := 17) 3 dX6_takeRow_17 rfl rfl ?_
  refine jd_bipush (pc := 18) (v := 40) dX6_takeRow_18 (by decide) ?_
  refine jd_icmp_ge (pc := 20) 36 dX6_takeRow_20 (by decide) (fun hc => ?_) (fun hc => ?_)
  · have h := h.1 hc
    exact jd_vret (pc := 36) rfl dX6_takeRow_36 h
  · have h := h.2 hc
    refine jd_aload_n (pc := 23) 0 dX6_takeRow_23 rfl rfl ?_
    refine jd_getR (pc := 24) (ci := 5) (k := 0) (r := (t + 1)) gX6_9 ht.1 rfl (zShelf_p0 ht) dX6_takeRow_24 ?_
    refine jd_iload_n (pc := 27) 3 dX6_takeRow_27 rfl rfl ?_
    refine jd_lconst (pc := 28) (v := 0) dX6_takeRow_28 (by decide) ?_
    obtain ⟨hv1, h⟩ := h
    refine jd_last (pc := 29) (len := 40) (zShelf_a0 ht) hv1 dX6_takeRow_29 ?_
    refine jd_iinc (pc := 30) (v := (x3 + 1)) 3 [(3, .int (x3 + 1)), (0, .ref (gb G + t)), (1, .int x1), (2, .int x2)] dX6_takeRow_30 rfl rfl (by decide) rfl ?_
    refine jd_goto (pc := 33) 17 dX6_takeRow_33 (by decide) ?_
    exact jd_lv (lv2 := [(0, .ref (gb G + t)), (1, .int x1), (2, .int x2), (3, .int (x3 + 1))]) [1, 2, 3, 0] rfl h
theorem eX6_takeRow {G : jdG} {n mc ms : Nat} {Z : jdL} {I : jdI} {J : jdJ} {Q : jdQ} {t : Nat} {x1 : Int32} {x2 : Int32} (ht : zShelf Z t) (h : (zShelf (uP Z t 3 none) t ∧ Jd G mX6_takeRow (jdFm G Q) n mc ms 17 [(0, .ref (gb G + t)), (1, .int x1), (2, .int x2), (3, .int 0)] [] (uP Z t 3 none) (uI (uI I t 1 x1) t 2 x2) J)) : Cl G mX6_takeRow (n) mc ms [.ref (gb G + t), .int x1, .int x2] Z I J Q :=
  Cl.of (by decide +kernel) (Nat.le_of_ble_eq_true rfl) (rX6_takeRow_0 ht h)
set_option maxRecDepth 4000 in
theorem rX6_takeMan_0 {G : jdG} {n rc rs : Nat} {Z : jdL} {I : jdI} {J : jdJ} {Q : jdQ} {t : Nat} {u1 : Nat} (ht : zShelf Z t) (h : (zShelf (uP Z t 3 (some u1)) t ∧ Q none (uP Z t 3 (some u1)) (uI (uI I t 1 (-1)) t 2 0) J)) : Jd G mX6_takeMan (jdFm G Q) n rc rs 0 [(0, .ref (gb G + t)), (1, .ref (gb G + u1))] [] Z I J := by
  refine jd_aload_n (pc := 0) 0 dX6_takeMan_0 rfl rfl ?_
  refine jd_aload_n (pc := 1) 1 dX6_takeMan_1 rfl rfl ?_
  refine jd_putR (pc := 2) (ci := 5) (k := 3) pX6_19 ht.1 rfl rfl rfl dX6_takeMan_2 ?_
  obtain ⟨ht, h⟩ := h
  refine jd_aload_n (pc := 5) 0 dX6_takeMan_5 rfl rfl ?_
  refine jd_iconst (pc := 6) (v := (-1)) dX6_takeMan_6 (by decide) ?_
  refine jd_putI (pc := 7) (ci := 5) (k := 1) pX6_15 ht.1 rfl rfl rfl dX6_takeMan_7 ?_
  refine jd_aload_n (pc := 10) 0 dX6_takeMan_10 rfl rfl ?_
  refine jd_iconst (pc := 11) (v := 0) dX6_takeMan_11 (by decide) ?_
  refine jd_putI (pc := 12) (ci := 5) (k := 2) pX6_23 ht.1 rfl rfl rfl dX6_takeMan_12 ?_
  exact jd_vret (pc := 15) rfl dX6_takeMan_15 h
theorem eX6_takeMan {G : jdG} {n mc ms : Nat} {Z : jdL} {I : jdI} {J : jdJ} {Q : jdQ} {t : Nat} {u1 : Nat} (ht : zShelf Z t) (h : (zShelf (uP Z t 3 (some u1)) t ∧ Q none (uP Z t 3 (some u1)) (uI (uI I t 1 (-1)) t 2 0) J)) : Cl G mX6_takeMan (n) mc ms [.ref (gb G + t), .ref (gb G + u1)] Z I J Q :=
  Cl.of (by decide +kernel) (Nat.le_of_ble_eq_true rfl) (rX6_takeMan_0 ht h)
set_option maxRecDepth 4000 in
theorem rX6_put_0 {G : jdG} {n rc rs : Nat} {Z : jdL} {I : jdI} {J : jdJ} {K : jdI → jdJ → Prop} {t : Nat} {x1 : Int32} {y2 : Int64} (ht : zShelf Z t) (h : ((x1 < 0 → K I J) ∧ (¬ x1 < 0 → (((I t 2) ≤ x1 → K I J) ∧ (¬ (I t 2) ≤ x1 → Cl G mX6_cut n 0 0 [.ref (gb G + t), .long y2] Z I J (ql Z (fun v2 I1 J1 => (vp_in x1 40 ∧ K I1 (uJ J1 (t + 1) (Int32.toNatClampNeg x1) v2))))))))) : Jd G mX6_put (jdFm G (qv Z K)) (n + 1) rc rs 0 [(0, .ref (gb G + t)), (1, .int x1), (2, .long y2)] [] Z I J := by
  refine jd_iload_n (pc := 0) 1 dX6_put_0 rfl rfl ?_
  refine jd_if_lt (pc := 1) 23 dX6_put_1 (by decide) (fun hc => ?_) (fun hc => ?_)
  · have h := h.1 hc
    exact jd_vretK (pc := 23) rfl dX6_put_23 h
  · have h := h.2 hc
    refine jd_iload_n (pc := 4) 1 dX6_put_4 rfl rfl ?_
    refine jd_aload_n (pc := 5) 0 dX6_put_5 rfl rfl ?_
    refine jd_getI (pc := 6) (ci := 5) (k := 2) gX6_23 ht.1 rfl dX6_put_6 ?_
    refine jd_icmp_ge (pc := 9) 23 dX6_put_9 (by decide) (fun hc => ?_) (fun hc => ?_)
    · have h := h.1 hc
      exact jd_vretK (pc := 23) rfl dX6_put_23 h
    · have h := h.2 hc
      refine jd_aload_n (pc := 12) 0 dX6_put_12 rfl rfl ?_
      refine jd_getR (pc := 13) (ci := 5) (k := 0) (r := (t + 1)) gX6_9 ht.1 rfl (zShelf_p0 ht) dX6_put_13 ?_
      refine jd_iload_n (pc := 16) 1 dX6_put_16 rfl rfl ?_
      refine jd_aload_n (pc := 17) 0 dX6_put_17 rfl rfl ?_
      refine jd_lload_n (pc := 18) 2 dX6_put_18 rfl rfl ?_
      refine jd_callVl (pc := 19) (M2 := mX6_cut) (id := t) (ci := 5) (T := TX6) (N := 4) (av := [.long y2]) kX6_cut sX6_cut rfl ht.1 lX6_26 rfl rfl (Nat.le_of_ble_eq_true rfl) dX6_put_19 h ?_
      intro v2 I1 J1 h
      obtain ⟨hv3, h⟩ := h
      refine jd_last (pc := 22) (len := 40) (zShelf_a0 ht) hv3 dX6_put_22 ?_
      exact jd_vretK (pc := 23) rfl dX6_put_23 h
theorem eX6_put {G : jdG} {n : Nat} {Z : jdL} {I : jdI} {J : jdJ} {K : jdI → jdJ → Prop} {t : Nat} {x1 : Int32} {y2 : Int64} (ht : zShelf Z t) (h : ((x1 < 0 → K I J) ∧ (¬ x1 < 0 → (((I t 2) ≤ x1 → K I J) ∧ (¬ (I t 2) ≤ x1 → Cl G mX6_cut n 0 0 [.ref (gb G + t), .long y2] Z I J (ql Z (fun v2 I1 J1 => (vp_in x1 40 ∧ K I1 (uJ J1 (t + 1) (Int32.toNatClampNeg x1) v2))))))))) : Cl G mX6_put (n + 1) 0 0 [.ref (gb G + t), .int x1, .long y2] Z I J (qv Z K) :=
  Cl.of (by decide +kernel) (Nat.le_of_ble_eq_true rfl) (rX6_put_0 ht h)
set_option maxRecDepth 4000 in
theorem rX6_cut_0 {G : jdG} {n rc rs : Nat} {Z : jdL} {I : jdI} {J : jdJ} {K : Int64 → jdI → jdJ → Prop} {t : Nat} {y1 : Int64} (ht : zShelf Z t) (h : ((((I t 1) : Int32).toInt < 0 ∨ 4 < ((I t 1) : Int32).toInt → K y1 I J) ∧ (((I t 1) : Int32).toInt = 0 → K (Int32.toInt64 (Int8.toInt32 (Int32.toInt8 (Int64.toInt32 y1)))) I J) ∧ (((I t 1) : Int32).toInt = 1 → K (Int32.toInt64 (Int16.toInt32 (Int32.toInt16 (Int64.toInt32 y1)))) I J) ∧ (((I t 1) : Int32).toInt = 2 → K (Int32.toInt64 (Int64.toInt32 y1)) I J) ∧ (((I t 1) : Int32).toInt = 3 → K y1 I J) ∧ (((I t 1) : Int32).toInt = 4 → (((lg_cmp y1 0) = 0 → K 0 I J) ∧ (¬ (lg_cmp y1 0) = 0 → K 1 I J))))) : Jd G mX6_cut (jdFm G (ql Z K)) n rc rs 0 [(0, .ref (gb G + t)), (1, .long y1)] [] Z I J := by
  refine jd_aload_n (pc := 0) 0 dX6_cut_0 rfl rfl ?_
  refine jd_getI (pc := 1) (ci := 5) (k := 1) gX6_15 ht.1 rfl dX6_cut_1 ?_
  by_cases hs : ((I t 1) : Int32).toInt < 0 ∨ 4 < ((I t 1) : Int32).toInt
  · have h := h.1 hs
    refine jd_tableOut (pc := 4) 66 dX6_cut_4 hs (by decide) ?_
    refine jd_lload_n (pc := 66) 1 dX6_cut_66 rfl rfl ?_
    exact jd_lretK (pc := 67) rfl dX6_cut_67 h
  · have h := h.2
    have hs2 : ((I t 1) : Int32).toInt = 0 ∨ ((I t 1) : Int32).toInt = 1 ∨ ((I t 1) : Int32).toInt = 2 ∨ ((I t 1) : Int32).toInt = 3 ∨ ((I t 1) : Int32).toInt = 4 := by omega
    rcases hs2 with hq | hq | hq | hq | hq
    · have h := h.1 hq
      refine jd_tableIn (pc := 4) 40 dX6_cut_4 (by omega) (by omega) (by rw [hq]; rfl) (by decide) ?_
      refine jd_lload_n (pc := 40) 1 dX6_cut_40 rfl rfl ?_
      refine jd_l2i (pc := 41) dX6_cut_41 ?_
      refine jd_i2b (pc := 42) dX6_cut_42 ?_
      refine jd_i2l (pc := 43) dX6_cut_43 ?_
      exact jd_lretK (pc := 44) rfl dX6_cut_44 h
    · have h := h.2.1 hq
      refine jd_tableIn (pc := 4) 45 dX6_cut_4 (by omega) (by omega) (by rw [hq]; rfl) (by decide) ?_
      refine jd_lload_n (pc := 45) 1 dX6_cut_45 rfl rfl ?_
      refine jd_l2i (pc := 46) dX6_cut_46 ?_
      refine jd_i2s (pc := 47) dX6_cut_47 ?_
      refine jd_i2l (pc := 48) dX6_cut_48 ?_
      exact jd_lretK (pc := 49) rfl dX6_cut_49 h
    · have h := h.2.2.1 hq
      refine jd_tableIn (pc := 4) 50 dX6_cut_4 (by omega) (by omega) (by rw [hq]; rfl) (by decide) ?_
      refine jd_lload_n (pc := 50) 1 dX6_cut_50 rfl rfl ?_
      refine jd_l2i (pc := 51) dX6_cut_51 ?_
      refine jd_i2l (pc := 52) dX6_cut_52 ?_
      exact jd_lretK (pc := 53) rfl dX6_cut_53 h
    · have h := h.2.2.2.1 hq
      refine jd_tableIn (pc := 4) 66 dX6_cut_4 (by omega) (by omega) (by rw [hq]; rfl) (by decide) ?_
      refine jd_lload_n (pc := 66) 1 dX6_cut_66 rfl rfl ?_
      exact jd_lretK (pc := 67) rfl dX6_cut_67 h
    · have h := h.2.2.2.2 hq
      refine jd_tableIn (pc := 4) 54 dX6_cut_4 (by omega) (by omega) (by rw [hq]; rfl) (by decide) ?_
      refine jd_lload_n (pc := 54) 1 dX6_cut_54 rfl rfl ?_
      refine jd_lconst (pc := 55) (v := 0) dX6_cut_55 (by decide) ?_
      refine jd_lcmp (pc := 56) dX6_cut_56 ?_
      refine jd_if_eq (pc := 57) 64 dX6_cut_57 (by decide) (fun hc => ?_) (fun hc => ?_)
      · have h := h.1 hc
        refine jd_lconst (pc := 64) (v := 0) dX6_cut_64 (by decide) ?_
        exact jd_lretK (pc := 65) rfl dX6_cut_65 h
      · have h := h.2 hc
        refine jd_lconst (pc := 60) (v := 1) dX6_cut_60 (by decide) ?_
        refine jd_goto (pc := 61) 65 dX6_cut_61 (by decide) ?_
        exact jd_lretK (pc := 65) rfl dX6_cut_65 h
theorem eX6_cut {G : jdG} {n : Nat} {Z : jdL} {I : jdI} {J : jdJ} {K : Int64 → jdI → jdJ → Prop} {t : Nat} {y1 : Int64} (ht : zShelf Z t) (h : ((((I t 1) : Int32).toInt < 0 ∨ 4 < ((I t 1) : Int32).toInt → K y1 I J) ∧ (((I t 1) : Int32).toInt = 0 → K (Int32.toInt64 (Int8.toInt32 (Int32.toInt8 (Int64.toInt32 y1)))) I J) ∧ (((I t 1) : Int32).toInt = 1 → K (Int32.toInt64 (Int16.toInt32 (Int32.toInt16 (Int64.toInt32 y1)))) I J) ∧ (((I t 1) : Int32).toInt = 2 → K (Int32.toInt64 (Int64.toInt32 y1)) I J) ∧ (((I t 1) : Int32).toInt = 3 → K y1 I J) ∧ (((I t 1) : Int32).toInt = 4 → (((lg_cmp y1 0) = 0 → K 0 I J) ∧ (¬ (lg_cmp y1 0) = 0 → K 1 I J))))) : Cl G mX6_cut (n) 0 0 [.ref (gb G + t), .long y1] Z I J (ql Z K) :=
  Cl.of (by decide +kernel) (Nat.le_of_ble_eq_true rfl) (rX6_cut_0 ht h)
set_option maxRecDepth 4000 in
theorem rX5_isFull_0 {G : jdG} {n rc rs : Nat} {Z : jdL} {I : jdI} {J : jdJ} {K : Int32 → jdI → jdJ → Prop} {t : Nat} (ht : zScribe Z t) (h : (((I t 1) < 250 → K 0 I J) ∧ (¬ (I t 1) < 250 → K 1 I J))) : Jd G mX5_isFull (jdFm G (qi Z K)) n rc rs 0 [(0, .ref (gb G + t))] [] Z I J := by
  refine jd_aload_n (pc := 0) 0 dX5_isFull_0 rfl rfl ?_
  refine jd_getI (pc := 1) (ci := 4) (k := 1) gX5_15 ht.1 rfl dX5_isFull_1 ?_
  refine jd_sipush (pc := 4) (v := 250) dX5_isFull_4 (by decide) ?_
  refine jd_icmp_lt (pc := 7) 14 dX5_isFull_7 (by decide) (fun hc => ?_) (fun hc => ?_)
  · have h := h.1 hc
    refine jd_iconst (pc := 14) (v := 0) dX5_isFull_14 (by decide) ?_
    exact jd_iretK (pc := 15) (ty := .boolean) rfl (by decide) dX5_isFull_15 h
  · have h := h.2 hc
    refine jd_iconst (pc := 10) (v := 1) dX5_isFull_10 (by decide) ?_
    refine jd_goto (pc := 11) 15 dX5_isFull_11 (by decide) ?_
    exact jd_iretK (pc := 15) (ty := .boolean) rfl (by decide) dX5_isFull_15 h
theorem eX5_isFull {G : jdG} {n : Nat} {Z : jdL} {I : jdI} {J : jdJ} {K : Int32 → jdI → jdJ → Prop} {t : Nat} (ht : zScribe Z t) (h : (((I t 1) < 250 → K 0 I J) ∧ (¬ (I t 1) < 250 → K 1 I J))) : Cl G mX5_isFull (n) 0 0 [.ref (gb G + t)] Z I J (qi Z K) :=
  Cl.of (by decide +kernel) (Nat.le_of_ble_eq_true rfl) (rX5_isFull_0 ht h)
set_option maxRecDepth 4000 in
theorem rX5_append_0 {G : jdG} {n rc rs : Nat} {Z : jdL} {I : jdI} {J : jdJ} {K : jdI → jdJ → Prop} {t : Nat} {x1 : Int32} (ht : zScribe Z t) (h : ((250 ≤ (I t 1) → K I J) ∧ (¬ 250 ≤ (I t 1) → (vp_in (I t 1) 250 ∧ K (uI (uI I (t + 1) (Int32.toNatClampNeg (I t 1)) x1) t 1 ((I t 1) + 1)) J)))) : Jd G mX5_append (jdFm G (qv Z K)) n rc rs 0 [(0, .ref (gb G + t)), (1, .int x1)] [] Z I J := by
  refine jd_aload_n (pc := 0) 0 dX5_append_0 rfl rfl ?_
  refine jd_getI (pc := 1) (ci := 4) (k := 1) gX5_15 ht.1 rfl dX5_append_1 ?_
  refine jd_sipush (pc := 4) (v := 250) dX5_append_4 (by decide) ?_
  refine jd_icmp_ge (pc := 7) 30 dX5_append_7 (by decide) (fun hc => ?_) (fun hc => ?_)
  · have h := h.1 hc
    exact jd_vretK (pc := 30) rfl dX5_append_30 h
  · have h := h.2 hc
    refine jd_aload_n (pc := 10) 0 dX5_append_10 rfl rfl ?_
    refine jd_getR (pc := 11) (ci := 4) (k := 0) (r := (t + 1)) gX5_11 ht.1 rfl (zScribe_p0 ht) dX5_append_11 ?_
    refine jd_aload_n (pc := 14) 0 dX5_append_14 rfl rfl ?_
    refine jd_getI (pc := 15) (ci := 4) (k := 1) gX5_15 ht.1 rfl dX5_append_15 ?_
    refine jd_iload_n (pc := 18) 1 dX5_append_18 rfl rfl ?_
    obtain ⟨hv1, h⟩ := h
    refine jd_iast (pc := 19) (len := 250) (zScribe_a0 ht) hv1 dX5_append_19 ?_
    refine jd_aload_n (pc := 20) 0 dX5_append_20 rfl rfl ?_
    refine jd_dup (pc := 21) dX5_append_21 rfl ?_
    refine jd_getIe (pc := 22) (ci := 4) (k := 1) (e := (I t 1)) (uI_ne (by omega) rfl) gX5_15 ht.1 rfl dX5_append_22 ?_
    refine jd_iconst (pc := 25) (v := 1) dX5_append_25 (by decide) ?_
    refine jd_iadd (pc := 26) dX5_append_26 ?_
    refine jd_putI (pc := 27) (ci := 4) (k := 1) pX5_15 ht.1 rfl rfl rfl dX5_append_27 ?_
    exact jd_vretK (pc := 30) rfl dX5_append_30 h
theorem eX5_append {G : jdG} {n : Nat} {Z : jdL} {I : jdI} {J : jdJ} {K : jdI → jdJ → Prop} {t : Nat} {x1 : Int32} (ht : zScribe Z t) (h : ((250 ≤ (I t 1) → K I J) ∧ (¬ 250 ≤ (I t 1) → (vp_in (I t 1) 250 ∧ K (uI (uI I (t + 1) (Int32.toNatClampNeg (I t 1)) x1) t 1 ((I t 1) + 1)) J)))) : Cl G mX5_append (n) 0 0 [.ref (gb G + t), .int x1] Z I J (qv Z K) :=
  Cl.of (by decide +kernel) (Nat.le_of_ble_eq_true rfl) (rX5_append_0 ht h)
set_option maxRecDepth 4000 in
theorem rX5_clear_0 {G : jdG} {n rc rs : Nat} {Z : jdL} {I : jdI} {J : jdJ} {K : jdI → jdJ → Prop} {t : Nat} (ht : zScribe Z t) (h : K (uI I t 1 0) J) : Jd G mX5_clear (jdFm G (qv Z K)) n rc rs 0 [(0, .ref (gb G + t))] [] Z I J := by
  refine jd_aload_n (pc := 0) 0 dX5_clear_0 rfl rfl ?_
  refine jd_iconst (pc := 1) (v := 0) dX5_clear_1 (by decide) ?_
  refine jd_putI (pc := 2) (ci := 4) (k := 1) pX5_15 ht.1 rfl rfl rfl dX5_clear_2 ?_
  exact jd_vretK (pc := 5) rfl dX5_clear_5 h
theorem eX5_clear {G : jdG} {n : Nat} {Z : jdL} {I : jdI} {J : jdJ} {K : jdI → jdJ → Prop} {t : Nat} (ht : zScribe Z t) (h : K (uI I t 1 0) J) : Cl G mX5_clear (n) 0 0 [.ref (gb G + t)] Z I J (qv Z K) :=
  Cl.of (by decide +kernel) (Nat.le_of_ble_eq_true rfl) (rX5_clear_0 ht h)
set_option maxRecDepth 4000 in
theorem rX5_read_0 {G : jdG} {n rc rs : Nat} {Z : jdL} {I : jdI} {J : jdJ} {K : Int32 → jdI → jdJ → Prop} {t : Nat} {u1 : Nat} (ht : zScribe Z t) (hu1 : zTown Z u1) (h : Cl G mX5_advance n 0 0 [.ref (gb G + t)] Z (uI I t 4 0) J (qv Z (fun I1 J1 => Jd G mX5_read (jdFm G (qi Z K)) (n + 1) rc rs 11 [(0, .ref (gb G + t)), (1, .ref (gb G + u1)), (2, .int 1)] [] Z I1 J1))) : Jd G mX5_read (jdFm G (qi Z K)) (n + 1) rc rs 0 [(0, .ref (gb G + t)), (1, .ref (gb G + u1))] [] Z I J := by
  refine jd_aload_n (pc := 0) 0 dX5_read_0 rfl rfl ?_
  refine jd_iconst (pc := 1) (v := 0) dX5_read_1 (by decide) ?_
  refine jd_putI (pc := 2) (ci := 4) (k := 4) pX5_19 ht.1 rfl rfl rfl dX5_read_2 ?_
  refine jd_aload_n (pc := 5) 0 dX5_read_5 rfl rfl ?_
  refine jd_callVv (pc := 6) (M2 := mX5_advance) (id := t) (ci := 4) (T := TX5) (N := 6) (av := []) kX5_advance sX5_advance rfl ht.1 lX5_22 rfl rfl (Nat.le_of_ble_eq_true rfl) dX5_read_6 h ?_
  intro I1 J1 h
  refine jd_iconst (pc := 9) (v := 1) dX5_read_9 (by decide) ?_
  refine jd_istore_n (pc := 10) [(2, .int 1), (0, .ref (gb G + t)), (1, .ref (gb G + u1))] dX5_read_10 rfl (by decide) rfl ?_
  exact jd_lv (lv2 := [(0, .ref (gb G + t)), (1, .ref (gb G + u1)), (2, .int 1)]) [1, 2, 0] rfl h
set_option maxRecDepth 4000 in
theorem rX5_read_11 {G : jdG} {n rc rs : Nat} {Z : jdL} {I : jdI} {J : jdJ} {K : Int32 → jdI → jdJ → Prop} {u1 : Nat} {t : Nat} {x2 : Int32} (ht : zScribe Z t) (hu1 : zTown Z u1) (h : ((250 < x2 → K (-1) I J) ∧ (¬ 250 < x2 → Cl G mX5_readStatement n 0 0 [.ref (gb G + t), .ref (gb G + u1)] Z I J (qi Z (fun v2 I1 J1 => ((¬ v2 = 0 → ((¬ (I1 t 2) = 0 → (((I1 t 2) = 3 → Cl G mX5_advance n 0 0 [.ref (gb G + t)] Z I1 J1 (qv Z (fun I3 J3 => Jd G mX5_read (jdFm G (qi Z K)) (n + 1) rc rs 11 [(0, .ref (gb G + t)), (1, .ref (gb G + u1)), (2, .int (x2 + 1))] [] Z I3 J3))) ∧ (¬ (I1 t 2) = 3 → Cl G mX5_fail n 0 0 [.ref (gb G + t)] Z I1 J1 (qi Z (fun v6 I5 J5 => K (-1) I5 J5))))) ∧ ((I1 t 2) = 0 → K x2 I1 J1))) ∧ (v2 = 0 → K (-1) I1 J1))))))) : Jd G mX5_read (jdFm G (qi Z K)) (n + 1) rc rs 11 [(0, .ref (gb G + t)), (1, .ref (gb G + u1)), (2, .int x2)] [] Z I J := by
  refine jd_iload_n (pc := 11) 2 dX5_read_11 rfl rfl ?_
  refine jd_sipush (pc := 12) (v := 250) dX5_read_12 (by decide) ?_
  refine jd_icmp_gt (pc := 15) 62 dX5_read_15 (by decide) (fun hc => ?_) (fun hc => ?_)
  · have h := h.1 hc
    refine jd_iconst (pc := 62) (v := (-1)) dX5_read_62 (by decide) ?_
    exact jd_iretK (pc := 63) rfl rfl dX5_read_63 h
  · have h := h.2 hc
    refine jd_aload_n (pc := 18) 0 dX5_read_18 rfl rfl ?_
    refine jd_aload_n (pc := 19) 1 dX5_read_19 rfl rfl ?_
    refine jd_callVi (pc := 20) (M2 := mX5_readStatement) (id := t) (ci := 4) (T := TX5) (N := 6) (av := [.ref (gb G + u1)]) kX5_readStatement sX5_readStatement rfl ht.1 lX5_25 rfl rfl (Nat.le_of_ble_eq_true rfl) dX5_read_20 h ?_
    intro v2 I1 J1 h
    refine jd_if_ne (pc := 23) 28 dX5_read_23 (by decide) (fun hc => ?_) (fun hc => ?_)
    · have h := h.1 hc
      refine jd_aload_n (pc := 28) 0 dX5_read_28 rfl rfl ?_
      refine jd_getI (pc := 29) (ci := 4) (k := 2) gX5_29 ht.1 rfl dX5_read_29 ?_
      refine jd_if_ne (pc := 32) 37 dX5_read_32 (by decide) (fun hc => ?_) (fun hc => ?_)
      · have h := h.1 hc
        refine jd_aload_n (pc := 37) 0 dX5_read_37 rfl rfl ?_
        refine jd_getI (pc := 38) (ci := 4) (k := 2) gX5_29 ht.1 rfl dX5_read_38 ?_
        refine jd_iconst (pc := 41) (v := 3) dX5_read_41 (by decide) ?_
        refine jd_icmp_eq (pc := 42) 52 dX5_read_42 (by decide) (fun hc => ?_) (fun hc => ?_)
        · have h := h.1 hc
          refine jd_aload_n (pc := 52) 0 dX5_read_52 rfl rfl ?_
          refine jd_callVv (pc := 53) (M2 := mX5_advance) (id := t) (ci := 4) (T := TX5) (N := 6) (av := []) kX5_advance sX5_advance rfl ht.1 lX5_22 rfl rfl (Nat.le_of_ble_eq_true rfl) dX5_read_53 h ?_
          intro I3 J3 h
          refine jd_iinc (pc := 56) (v := (x2 + 1)) 2 [(2, .int (x2 + 1)), (0, .ref (gb G + t)), (1, .ref (gb G + u1))] dX5_read_56 rfl rfl (by decide) rfl ?_
          refine jd_goto (pc := 59) 11 dX5_read_59 (by decide) ?_
          exact jd_lv (lv2 := [(0, .ref (gb G + t)), (1, .ref (gb G + u1)), (2, .int (x2 + 1))]) [1, 2, 0] rfl h
        · have h := h.2 hc
          refine jd_aload_n (pc := 45) 0 dX5_read_45 rfl rfl ?_
          refine jd_callVi (pc := 46) (M2 := mX5_fail) (id := t) (ci := 4) (T := TX5) (N := 6) (av := []) kX5_fail sX5_fail rfl ht.1 lX5_32 rfl rfl (Nat.le_of_ble_eq_true rfl) dX5_read_46 h ?_
          intro v6 I5 J5 h
          refine jd_pop (pc := 49) dX5_read_49 rfl ?_
          refine jd_iconst (pc := 50) (v := (-1)) dX5_read_50 (by decide) ?_
          exact jd_iretK (pc := 51) rfl rfl dX5_read_51 h
      · have h := h.2 hc
        refine jd_iload_n (pc := 35) 2 dX5_read_35 rfl rfl ?_
        exact jd_iretK (pc := 36) rfl rfl dX5_read_36 h
    · have h := h.2 hc
      refine jd_iconst (pc := 26) (v := (-1)) dX5_read_26 (by decide) ?_
      exact jd_iretK (pc := 27) rfl rfl dX5_read_27 h
theorem eX5_read {G : jdG} {n : Nat} {Z : jdL} {I : jdI} {J : jdJ} {K : Int32 → jdI → jdJ → Prop} {t : Nat} {u1 : Nat} (ht : zScribe Z t) (hu1 : zTown Z u1) (h : Cl G mX5_advance n 0 0 [.ref (gb G + t)] Z (uI I t 4 0) J (qv Z (fun I1 J1 => Jd G mX5_read (jdFm G (qi Z K)) (n + 1) 0 0 11 [(0, .ref (gb G + t)), (1, .ref (gb G + u1)), (2, .int 1)] [] Z I1 J1))) : Cl G mX5_read (n + 1) 0 0 [.ref (gb G + t), .ref (gb G + u1)] Z I J (qi Z K) :=
  Cl.of (by decide +kernel) (Nat.le_of_ble_eq_true rfl) (rX5_read_0 ht hu1 h)
set_option maxRecDepth 4000 in
theorem rX5_fail_0 {G : jdG} {n rc rs : Nat} {Z : jdL} {I : jdI} {J : jdJ} {K : Int32 → jdI → jdJ → Prop} {t : Nat} (ht : zScribe Z t) (h : K 0 (uI I t 5 (I t 3)) J) : Jd G mX5_fail (jdFm G (qi Z K)) n rc rs 0 [(0, .ref (gb G + t))] [] Z I J := by
  refine jd_aload_n (pc := 0) 0 dX5_fail_0 rfl rfl ?_
  refine jd_aload_n (pc := 1) 0 dX5_fail_1 rfl rfl ?_
  refine jd_getI (pc := 2) (ci := 4) (k := 3) gX5_36 ht.1 rfl dX5_fail_2 ?_
  refine jd_putI (pc := 5) (ci := 4) (k := 5) pX5_39 ht.1 rfl rfl rfl dX5_fail_5 ?_
  refine jd_iconst (pc := 8) (v := 0) dX5_fail_8 (by decide) ?_
  exact jd_iretK (pc := 9) (ty := .boolean) rfl (by decide) dX5_fail_9 h
theorem eX5_fail {G : jdG} {n : Nat} {Z : jdL} {I : jdI} {J : jdJ} {K : Int32 → jdI → jdJ → Prop} {t : Nat} (ht : zScribe Z t) (h : K 0 (uI I t 5 (I t 3)) J) : Cl G mX5_fail (n) 0 0 [.ref (gb G + t)] Z I J (qi Z K) :=
  Cl.of (by decide +kernel) (Nat.le_of_ble_eq_true rfl) (rX5_fail_0 ht h)
set_option maxRecDepth 4000 in
theorem rX5_advance_0 {G : jdG} {n rc rs : Nat} {Z : jdL} {I : jdI} {J : jdJ} {K : jdI → jdJ → Prop} {t : Nat} (ht : zScribe Z t) (h : Jd G mX5_advance (jdFm G (qv Z K)) (n + 1) rc rs 8 [(0, .ref (gb G + t))] [] Z (uI I t 3 (I t 4)) J) : Jd G mX5_advance (jdFm G (qv Z K)) (n + 1) rc rs 0 [(0, .ref (gb G + t))] [] Z I J := by
  refine jd_aload_n (pc := 0) 0 dX5_advance_0 rfl rfl ?_
  refine jd_aload_n (pc := 1) 0 dX5_advance_1 rfl rfl ?_
  refine jd_getI (pc := 2) (ci := 4) (k := 4) gX5_19 ht.1 rfl dX5_advance_2 ?_
  refine jd_putI (pc := 5) (ci := 4) (k := 3) pX5_36 ht.1 rfl rfl rfl dX5_advance_5 ?_
  exact jd_lv (lv2 := [(0, .ref (gb G + t))]) [0] rfl h
set_option maxRecDepth 4000 in
theorem rX5_advance_8 {G : jdG} {n rc rs : Nat} {Z : jdL} {I : jdI} {J : jdJ} {K : jdI → jdJ → Prop} {t : Nat} (ht : zScribe Z t) (h : (((I t 1) ≤ (I t 3) → (((I t 1) ≤ (I t 3) → Jd G mX5_advance (jdFm G (qv Z K)) (n + 1) rc rs 101 [(0, .ref (gb G + t))] [] Z (uI (uI I t 2 0) t 4 (I t 1)) J) ∧ (¬ (I t 1) ≤ (I t 3) → (vp_in (I t 3) 250 ∧ Cl G mX5_tokenOf n 0 0 [.int (I (t + 1) (Int32.toNatClampNeg (I t 3)))] Z I J (qi Z (fun v3 I2 J2 => ((¬ v3 = 0 → Jd G mX5_advance (jdFm G (qv Z K)) (n + 1) rc rs 101 [(0, .ref (gb G + t))] [] Z (uI (uI I2 t 2 v3) t 4 ((I2 t 3) + 1)) J2) ∧ (v3 = 0 → Jd G mX5_advance (jdFm G (qv Z K)) (n + 1) rc rs 101 [(0, .ref (gb G + t))] [] Z (uI (uI I2 t 2 v3) t 4 (I2 t 1)) J2)))))))) ∧ (¬ (I t 1) ≤ (I t 3) → (vp_in (I t 3) 250 ∧ ((¬ (I (t + 1) (Int32.toNatClampNeg (I t 3))) = 32 → (((I t 1) ≤ (I t 3) → Jd G mX5_advance (jdFm G (qv Z K)) (n + 1) rc rs 101 [(0, .ref (gb G + t))] [] Z (uI (uI I t 2 0) t 4 (I t 1)) J) ∧ (¬ (I t 1) ≤ (I t 3) → (vp_in (I t 3) 250 ∧ Cl G mX5_tokenOf n 0 0 [.int (I (t + 1) (Int32.toNatClampNeg (I t 3)))] Z I J (qi Z (fun v7 I6 J6 => ((¬ v7 = 0 → Jd G mX5_advance (jdFm G (qv Z K)) (n + 1) rc rs 101 [(0, .ref (gb G + t))] [] Z (uI (uI I6 t 2 v7) t 4 ((I6 t 3) + 1)) J6) ∧ (v7 = 0 → Jd G mX5_advance (jdFm G (qv Z K)) (n + 1) rc rs 101 [(0, .ref (gb G + t))] [] Z (uI (uI I6 t 2 v7) t 4 (I6 t 1)) J6)))))))) ∧ ((I (t + 1) (Int32.toNatClampNeg (I t 3))) = 32 → Jd G mX5_advance (jdFm G (qv Z K)) (n + 1) rc rs 8 [(0, .ref (gb G + t))] [] Z (uI I t 3 ((I t 3) + 1)) J)))))) : Jd G mX5_advance (jdFm G (qv Z K)) (n + 1) rc rs 8 [(0, .ref (gb G + t))] [] Z I J := by
  refine jd_aload_n (pc := 8) 0 dX5_advance_8 rfl rfl ?_
  refine jd_getI (pc := 9) (ci := 4) (k := 3) gX5_36 ht.1 rfl dX5_advance_9 ?_
  refine jd_aload_n (pc := 12) 0 dX5_advance_12 rfl rfl ?_
  refine jd_getI (pc := 13) (ci := 4) (k := 1) gX5_15 ht.1 rfl dX5_advance_13 ?_
  refine jd_icmp_ge (pc := 16) 46 dX5_advance_16 (by decide) (fun hc => ?_) (fun hc => ?_)
  · have h := h.1 hc
    refine jd_aload_n (pc := 46) 0 dX5_advance_46 rfl rfl ?_
    refine jd_aload_n (pc := 47) 0 dX5_advance_47 rfl rfl ?_
    refine jd_getI (pc := 48) (ci := 4) (k := 3) gX5_36 ht.1 rfl dX5_advance_48 ?_
    refine jd_aload_n (pc := 51) 0 dX5_advance_51 rfl rfl ?_
    refine jd_getI (pc := 52) (ci := 4) (k := 1) gX5_15 ht.1 rfl dX5_advance_52 ?_
    refine jd_icmp_ge (pc := 55) 73 dX5_advance_55 (by decide) (fun hc => ?_) (fun hc => ?_)
    · have h := h.1 hc
      refine jd_iconst (pc := 73) (v := 0) dX5_advance_73 (by decide) ?_
      refine jd_putI (pc := 74) (ci := 4) (k := 2) pX5_29 ht.1 rfl rfl rfl dX5_advance_74 ?_
      refine jd_aload_n (pc := 77) 0 dX5_advance_77 rfl rfl ?_
      refine jd_aload_n (pc := 78) 0 dX5_advance_78 rfl rfl ?_
      refine jd_getIe (pc := 79) (ci := 4) (k := 2) (e := 0) (uI_ss _ _ _ _) gX5_29 ht.1 rfl dX5_advance_79 ?_
      refine jd_if_ne (pc := 82) 92 dX5_advance_82 (by decide) (fun hc => absurd (show (0 : Int32) = 0 by decide) hc) (fun _ => ?_)
      refine jd_aload_n (pc := 85) 0 dX5_advance_85 rfl rfl ?_
      refine jd_getIe (pc := 86) (ci := 4) (k := 1) (e := (I t 1)) (uI_sk (by decide) rfl) gX5_15 ht.1 rfl dX5_advance_86 ?_
      refine jd_goto (pc := 89) 98 dX5_advance_89 (by decide) ?_
      refine jd_putI (pc := 98) (ci := 4) (k := 4) pX5_19 ht.1 rfl rfl rfl dX5_advance_98 ?_
      exact jd_lv (lv2 := [(0, .ref (gb G + t))]) [0] rfl h
    · have h := h.2 hc
      refine jd_aload_n (pc := 58) 0 dX5_advance_58 rfl rfl ?_
      refine jd_getR (pc := 59) (ci := 4) (k := 0) (r := (t + 1)) gX5_11 ht.1 rfl (zScribe_p0 ht) dX5_advance_59 ?_
      refine jd_aload_n (pc := 62) 0 dX5_advance_62 rfl rfl ?_
      refine jd_getI (pc := 63) (ci := 4) (k := 3) gX5_36 ht.1 rfl dX5_advance_63 ?_
      obtain ⟨hv1, h⟩ := h
      refine jd_iald (pc := 66) (len := 250) (zScribe_a0 ht) hv1 dX5_advance_66 ?_
      refine jd_callSi (pc := 67) (M2 := mX5_tokenOf) (av := [.int (I (t + 1) (Int32.toNatClampNeg (I t 3)))]) kX5_tokenOf sX5_tokenOf lX5_42 rfl rfl (Nat.le_of_ble_eq_true rfl) dX5_advance_67 h ?_
      intro v3 I2 J2 h
      refine jd_goto (pc := 70) 74 dX5_advance_70 (by decide) ?_
      refine jd_putI (pc := 74) (ci := 4) (k := 2) pX5_29 ht.1 rfl rfl rfl dX5_advance_74 ?_
      refine jd_aload_n (pc := 77) 0 dX5_advance_77 rfl rfl ?_
      refine jd_aload_n (pc := 78) 0 dX5_advance_78 rfl rfl ?_
      refine jd_getIe (pc := 79) (ci := 4) (k := 2) (e := v3) (uI_ss _ _ _ _) gX5_29 ht.1 rfl dX5_advance_79 ?_
      refine jd_if_ne (pc := 82) 92 dX5_advance_82 (by decide) (fun hc => ?_) (fun hc => ?_)
      · have h := h.1 hc
        refine jd_aload_n (pc := 92) 0 dX5_advance_92 rfl rfl ?_
        refine jd_getIe (pc := 93) (ci := 4) (k := 3) (e := (I2 t 3)) (uI_sk (by decide) rfl) gX5_36 ht.1 rfl dX5_advance_93 ?_
        refine jd_iconst (pc := 96) (v := 1) dX5_advance_96 (by decide) ?_
        refine jd_iadd (pc := 97) dX5_advance_97 ?_
        refine jd_putI (pc := 98) (ci := 4) (k := 4) pX5_19 ht.1 rfl rfl rfl dX5_advance_98 ?_
        exact jd_lv (lv2 := [(0, .ref (gb G + t))]) [0] rfl h
      · have h := h.2 hc
        refine jd_aload_n (pc := 85) 0 dX5_advance_85 rfl rfl ?_
        refine jd_getIe (pc := 86) (ci := 4) (k := 1) (e := (I2 t 1)) (uI_sk (by decide) rfl) gX5_15 ht.1 rfl dX5_advance_86 ?_
        refine jd_goto (pc := 89) 98 dX5_advance_89 (by decide) ?_
        refine jd_putI (pc := 98) (ci := 4) (k := 4) pX5_19 ht.1 rfl rfl rfl dX5_advance_98 ?_
        exact jd_lv (lv2 := [(0, .ref (gb G + t))]) [0] rfl h
  · have h := h.2 hc
    refine jd_aload_n (pc := 19) 0 dX5_advance_19 rfl rfl ?_
    refine jd_getR (pc := 20) (ci := 4) (k := 0) (r := (t + 1)) gX5_11 ht.1 rfl (zScribe_p0 ht) dX5_advance_20 ?_
    refine jd_aload_n (pc := 23) 0 dX5_advance_23 rfl rfl ?_
    refine jd_getI (pc := 24) (ci := 4) (k := 3) gX5_36 ht.1 rfl dX5_advance_24 ?_
    obtain ⟨hv4, h⟩ := h
    refine jd_iald (pc := 27) (len := 250) (zScribe_a0 ht) hv4 dX5_advance_27 ?_
    refine jd_bipush (pc := 28) (v := 32) dX5_advance_28 (by decide) ?_
    refine jd_icmp_ne (pc := 30) 46 dX5_advance_30 (by decide) (fun hc => ?_) (fun hc => ?_)
    · have h := h.1 hc
      refine jd_aload_n (pc := 46) 0 dX5_advance_46 rfl rfl ?_
      refine jd_aload_n (pc := 47) 0 dX5_advance_47 rfl rfl ?_
      refine jd_getI (pc := 48) (ci := 4) (k := 3) gX5_36 ht.1 rfl dX5_advance_48 ?_
      refine jd_aload_n (pc := 51) 0 dX5_advance_51 rfl rfl ?_
      refine jd_getI (pc := 52) (ci := 4) (k := 1) gX5_15 ht.1 rfl dX5_advance_52 ?_
      refine jd_icmp_ge (pc := 55) 73 dX5_advance_55 (by decide) (fun hc => ?_) (fun hc => ?_)
      · have h := h.1 hc
        refine jd_iconst (pc := 73) (v := 0) dX5_advance_73 (by decide) ?_
        refine jd_putI (pc := 74) (ci := 4) (k := 2) pX5_29 ht.1 rfl rfl rfl dX5_advance_74 ?_
        refine jd_aload_n (pc := 77) 0 dX5_advance_77 rfl rfl ?_
        refine jd_aload_n (pc := 78) 0 dX5_advance_78 rfl rfl ?_
        refine jd_getIe (pc := 79) (ci := 4) (k := 2) (e := 0) (uI_ss _ _ _ _) gX5_29 ht.1 rfl dX5_advance_79 ?_
        refine jd_if_ne (pc := 82) 92 dX5_advance_82 (by decide) (fun hc => absurd (show (0 : Int32) = 0 by decide) hc) (fun _ => ?_)
        refine jd_aload_n (pc := 85) 0 dX5_advance_85 rfl rfl ?_
        refine jd_getIe (pc := 86) (ci := 4) (k := 1) (e := (I t 1)) (uI_sk (by decide) rfl) gX5_15 ht.1 rfl dX5_advance_86 ?_
        refine jd_goto (pc := 89) 98 dX5_advance_89 (by decide) ?_
        refine jd_putI (pc := 98) (ci := 4) (k := 4) pX5_19 ht.1 rfl rfl rfl dX5_advance_98 ?_
        exact jd_lv (lv2 := [(0, .ref (gb G + t))]) [0] rfl h
      · have h := h.2 hc
        refine jd_aload_n (pc := 58) 0 dX5_advance_58 rfl rfl ?_
        refine jd_getR (pc := 59) (ci := 4) (k := 0) (r := (t + 1)) gX5_11 ht.1 rfl (zScribe_p0 ht) dX5_advance_59 ?_
        refine jd_aload_n (pc := 62) 0 dX5_advance_62 rfl rfl ?_
        refine jd_getI (pc := 63) (ci := 4) (k := 3) gX5_36 ht.1 rfl dX5_advance_63 ?_
        obtain ⟨hv5, h⟩ := h
        refine jd_iald (pc := 66) (len := 250) (zScribe_a0 ht) hv5 dX5_advance_66 ?_
        refine jd_callSi (pc := 67) (M2 := mX5_tokenOf) (av := [.int (I (t + 1) (Int32.toNatClampNeg (I t 3)))]) kX5_tokenOf sX5_tokenOf lX5_42 rfl rfl (Nat.le_of_ble_eq_true rfl) dX5_advance_67 h ?_
        intro v7 I6 J6 h
        refine jd_goto (pc := 70) 74 dX5_advance_70 (by decide) ?_
        refine jd_putI (pc := 74) (ci := 4) (k := 2) pX5_29 ht.1 rfl rfl rfl dX5_advance_74 ?_
        refine jd_aload_n (pc := 77) 0 dX5_advance_77 rfl rfl ?_
        refine jd_aload_n (pc := 78) 0 dX5_advance_78 rfl rfl ?_
        refine jd_getIe (pc := 79) (ci := 4) (k := 2) (e := v7) (uI_ss _ _ _ _) gX5_29 ht.1 rfl dX5_advance_79 ?_
        refine jd_if_ne (pc := 82) 92 dX5_advance_82 (by decide) (fun hc => ?_) (fun hc => ?_)
        · have h := h.1 hc
          refine jd_aload_n (pc := 92) 0 dX5_advance_92 rfl rfl ?_
          refine jd_getIe (pc := 93) (ci := 4) (k := 3) (e := (I6 t 3)) (uI_sk (by decide) rfl) gX5_36 ht.1 rfl dX5_advance_93 ?_
          refine jd_iconst (pc := 96) (v := 1) dX5_advance_96 (by decide) ?_
          refine jd_iadd (pc := 97) dX5_advance_97 ?_
          refine jd_putI (pc := 98) (ci := 4) (k := 4) pX5_19 ht.1 rfl rfl rfl dX5_advance_98 ?_
          exact jd_lv (lv2 := [(0, .ref (gb G + t))]) [0] rfl h
        · have h := h.2 hc
          refine jd_aload_n (pc := 85) 0 dX5_advance_85 rfl rfl ?_
          refine jd_getIe (pc := 86) (ci := 4) (k := 1) (e := (I6 t 1)) (uI_sk (by decide) rfl) gX5_15 ht.1 rfl dX5_advance_86 ?_
          refine jd_goto (pc := 89) 98 dX5_advance_89 (by decide) ?_
          refine jd_putI (pc := 98) (ci := 4) (k := 4) pX5_19 ht.1 rfl rfl rfl dX5_advance_98 ?_
          exact jd_lv (lv2 := [(0, .ref (gb G + t))]) [0] rfl h
    · have h := h.2 hc
      refine jd_aload_n (pc := 33) 0 dX5_advance_33 rfl rfl ?_
      refine jd_dup (pc := 34) dX5_advance_34 rfl ?_
      refine jd_getI (pc := 35) (ci := 4) (k := 3) gX5_36 ht.1 rfl dX5_advance_35 ?_
      refine jd_iconst (pc := 38) (v := 1) dX5_advance_38 (by decide) ?_
      refine jd_iadd (pc := 39) dX5_advance_39 ?_
      refine jd_putI (pc := 40) (ci := 4) (k := 3) pX5_36 ht.1 rfl rfl rfl dX5_advance_40 ?_
      refine jd_goto (pc := 43) 8 dX5_advance_43 (by decide) ?_
      exact jd_lv (lv2 := [(0, .ref (gb G + t))]) [0] rfl h
set_option maxRecDepth 4000 in
theorem rX5_advance_101 {G : jdG} {n rc rs : Nat} {Z : jdL} {I : jdI} {J : jdJ} {K : jdI → jdJ → Prop} {t : Nat} (ht : zScribe Z t) (h : (((I t 2) = 1 → (((I t 1) ≤ (I t 4) → K I J) ∧ (¬ (I t 1) ≤ (I t 4) → (vp_in (I t 4) 250 ∧ Cl G mX5_tokenOf n 0 0 [.int (I (t + 1) (Int32.toNatClampNeg (I t 4)))] Z I J (qi Z (fun v3 I2 J2 => ((¬ v3 = (I2 t 2) → K I2 J2) ∧ (v3 = (I2 t 2) → Jd G mX5_advance (jdFm G (qv Z K)) (n + 1) rc rs 101 [(0, .ref (gb G + t))] [] Z (uI I2 t 4 ((I2 t 4) + 1)) J2)))))))) ∧ (¬ (I t 2) = 1 → ((¬ (I t 2) = 2 → K I J) ∧ ((I t 2) = 2 → (((I t 1) ≤ (I t 4) → K I J) ∧ (¬ (I t 1) ≤ (I t 4) → (vp_in (I t 4) 250 ∧ Cl G mX5_tokenOf n 0 0 [.int (I (t + 1) (Int32.toNatClampNeg (I t 4)))] Z I J (qi Z (fun v6 I5 J5 => ((¬ v6 = (I5 t 2) → K I5 J5) ∧ (v6 = (I5 t 2) → Jd G mX5_advance (jdFm G (qv Z K)) (n + 1) rc rs 101 [(0, .ref (gb G + t))] [] Z (uI I5 t 4 ((I5 t 4) + 1)) J5)))))))))))) : Jd G mX5_advance (jdFm G (qv Z K)) (n + 1) rc rs 101 [(0, .ref (gb G + t))] [] Z I J := by
  refine jd_aload_n (pc := 101) 0 dX5_advance_101 rfl rfl ?_
  refine jd_getI (pc := 102) (ci := 4) (k := 2) gX5_29 ht.1 rfl dX5_advance_102 ?_
  refine jd_iconst (pc := 105) (v := 1) dX5_advance_105 (by decide) ?_
  refine jd_icmp_eq (pc := 106) 117 dX5_advance_106 (by decide) (fun hc => ?_) (fun hc => ?_)
  · have h := h.1 hc
    refine jd_aload_n (pc := 117) 0 dX5_advance_117 rfl rfl ?_
    refine jd_getI (pc := 118) (ci := 4) (k := 4) gX5_19 ht.1 rfl dX5_advance_118 ?_
    refine jd_aload_n (pc := 121) 0 dX5_advance_121 rfl rfl ?_
    refine jd_getI (pc := 122) (ci := 4) (k := 1) gX5_15 ht.1 rfl dX5_advance_122 ?_
    refine jd_icmp_ge (pc := 125) 160 dX5_advance_125 (by decide) (fun hc => ?_) (fun hc => ?_)
    · have h := h.1 hc
      exact jd_vretK (pc := 160) rfl dX5_advance_160 h
    · have h := h.2 hc
      refine jd_aload_n (pc := 128) 0 dX5_advance_128 rfl rfl ?_
      refine jd_getR (pc := 129) (ci := 4) (k := 0) (r := (t + 1)) gX5_11 ht.1 rfl (zScribe_p0 ht) dX5_advance_129 ?_
      refine jd_aload_n (pc := 132) 0 dX5_advance_132 rfl rfl ?_
      refine jd_getI (pc := 133) (ci := 4) (k := 4) gX5_19 ht.1 rfl dX5_advance_133 ?_
      obtain ⟨hv1, h⟩ := h
      refine jd_iald (pc := 136) (len := 250) (zScribe_a0 ht) hv1 dX5_advance_136 ?_
      refine jd_callSi (pc := 137) (M2 := mX5_tokenOf) (av := [.int (I (t + 1) (Int32.toNatClampNeg (I t 4)))]) kX5_tokenOf sX5_tokenOf lX5_42 rfl rfl (Nat.le_of_ble_eq_true rfl) dX5_advance_137 h ?_
      intro v3 I2 J2 h
      refine jd_aload_n (pc := 140) 0 dX5_advance_140 rfl rfl ?_
      refine jd_getI (pc := 141) (ci := 4) (k := 2) gX5_29 ht.1 rfl dX5_advance_141 ?_
      refine jd_icmp_ne (pc := 144) 160 dX5_advance_144 (by decide) (fun hc => ?_) (fun hc => ?_)
      · have h := h.1 hc
        exact jd_vretK (pc := 160) rfl dX5_advance_160 h
      · have h := h.2 hc
        refine jd_aload_n (pc := 147) 0 dX5_advance_147 rfl rfl ?_
        refine jd_dup (pc := 148) dX5_advance_148 rfl ?_
        refine jd_getI (pc := 149) (ci := 4) (k := 4) gX5_19 ht.1 rfl dX5_advance_149 ?_
        refine jd_iconst (pc := 152) (v := 1) dX5_advance_152 (by decide) ?_
        refine jd_iadd (pc := 153) dX5_advance_153 ?_
        refine jd_putI (pc := 154) (ci := 4) (k := 4) pX5_19 ht.1 rfl rfl rfl dX5_advance_154 ?_
        refine jd_goto (pc := 157) 101 dX5_advance_157 (by decide) ?_
        exact jd_lv (lv2 := [(0, .ref (gb G + t))]) [0] rfl h
  · have h := h.2 hc
    refine jd_aload_n (pc := 109) 0 dX5_advance_109 rfl rfl ?_
    refine jd_getI (pc := 110) (ci := 4) (k := 2) gX5_29 ht.1 rfl dX5_advance_110 ?_
    refine jd_iconst (pc := 113) (v := 2) dX5_advance_113 (by decide) ?_
    refine jd_icmp_ne (pc := 114) 160 dX5_advance_114 (by decide) (fun hc => ?_) (fun hc => ?_)
    · have h := h.1 hc
      exact jd_vretK (pc := 160) rfl dX5_advance_160 h
    · have h := h.2 hc
      refine jd_aload_n (pc := 117) 0 dX5_advance_117 rfl rfl ?_
      refine jd_getI (pc := 118) (ci := 4) (k := 4) gX5_19 ht.1 rfl dX5_advance_118 ?_
      refine jd_aload_n (pc := 121) 0 dX5_advance_121 rfl rfl ?_
      refine jd_getI (pc := 122) (ci := 4) (k := 1) gX5_15 ht.1 rfl dX5_advance_122 ?_
      refine jd_icmp_ge (pc := 125) 160 dX5_advance_125 (by decide) (fun hc => ?_) (fun hc => ?_)
      · have h := h.1 hc
        exact jd_vretK (pc := 160) rfl dX5_advance_160 h
      · have h := h.2 hc
        refine jd_aload_n (pc := 128) 0 dX5_advance_128 rfl rfl ?_
        refine jd_getR (pc := 129) (ci := 4) (k := 0) (r := (t + 1)) gX5_11 ht.1 rfl (zScribe_p0 ht) dX5_advance_129 ?_
        refine jd_aload_n (pc := 132) 0 dX5_advance_132 rfl rfl ?_
        refine jd_getI (pc := 133) (ci := 4) (k := 4) gX5_19 ht.1 rfl dX5_advance_133 ?_
        obtain ⟨hv4, h⟩ := h
        refine jd_iald (pc := 136) (len := 250) (zScribe_a0 ht) hv4 dX5_advance_136 ?_
        refine jd_callSi (pc := 137) (M2 := mX5_tokenOf) (av := [.int (I (t + 1) (Int32.toNatClampNeg (I t 4)))]) kX5_tokenOf sX5_tokenOf lX5_42 rfl rfl (Nat.le_of_ble_eq_true rfl) dX5_advance_137 h ?_
        intro v6 I5 J5 h
        refine jd_aload_n (pc := 140) 0 dX5_advance_140 rfl rfl ?_
        refine jd_getI (pc := 141) (ci := 4) (k := 2) gX5_29 ht.1 rfl dX5_advance_141 ?_
        refine jd_icmp_ne (pc := 144) 160 dX5_advance_144 (by decide) (fun hc => ?_) (fun hc => ?_)
        · have h := h.1 hc
          exact jd_vretK (pc := 160) rfl dX5_advance_160 h
        · have h := h.2 hc
          refine jd_aload_n (pc := 147) 0 dX5_advance_147 rfl rfl ?_
          refine jd_dup (pc := 148) dX5_advance_148 rfl ?_
          refine jd_getI (pc := 149) (ci := 4) (k := 4) gX5_19 ht.1 rfl dX5_advance_149 ?_
          refine jd_iconst (pc := 152) (v := 1) dX5_advance_152 (by decide) ?_
          refine jd_iadd (pc := 153) dX5_advance_153 ?_
          refine jd_putI (pc := 154) (ci := 4) (k := 4) pX5_19 ht.1 rfl rfl rfl dX5_advance_154 ?_
          refine jd_goto (pc := 157) 101 dX5_advance_157 (by decide) ?_
          exact jd_lv (lv2 := [(0, .ref (gb G + t))]) [0] rfl h
theorem eX5_advance {G : jdG} {n : Nat} {Z : jdL} {I : jdI} {J : jdJ} {K : jdI → jdJ → Prop} {t : Nat} (ht : zScribe Z t) (h : Jd G mX5_advance (jdFm G (qv Z K)) (n + 1) 0 0 8 [(0, .ref (gb G + t))] [] Z (uI I t 3 (I t 4)) J) : Cl G mX5_advance (n + 1) 0 0 [.ref (gb G + t)] Z I J (qv Z K) :=
  Cl.of (by decide +kernel) (Nat.le_of_ble_eq_true rfl) (rX5_advance_0 ht h)
set_option maxRecDepth 4000 in
theorem rX5_tokenOf_0 {G : jdG} {n rc rs : Nat} {Z : jdL} {I : jdI} {J : jdJ} {K : Int32 → jdI → jdJ → Prop} {x0 : Int32}  (h : ((x0 < 97 → ((x0 < 48 → ((¬ x0 = 59 → K 4 I J) ∧ (x0 = 59 → K 3 I J))) ∧ (¬ x0 < 48 → ((57 < x0 → ((¬ x0 = 59 → K 4 I J) ∧ (x0 = 59 → K 3 I J))) ∧ (¬ 57 < x0 → K 2 I J))))) ∧ (¬ x0 < 97 → ((122 < x0 → ((x0 < 48 → ((¬ x0 = 59 → K 4 I J) ∧ (x0 = 59 → K 3 I J))) ∧ (¬ x0 < 48 → ((57 < x0 → ((¬ x0 = 59 → K 4 I J) ∧ (x0 = 59 → K 3 I J))) ∧ (¬ 57 < x0 → K 2 I J))))) ∧ (¬ 122 < x0 → K 1 I J))))) : Jd G mX5_tokenOf (jdFm G (qi Z K)) n rc rs 0 [(0, .int x0)] [] Z I J := by
  refine jd_iload_n (pc := 0) 0 dX5_tokenOf_0 rfl rfl ?_
  refine jd_bipush (pc := 1) (v := 97) dX5_tokenOf_1 (by decide) ?_
  refine jd_icmp_lt (pc := 3) 14 dX5_tokenOf_3 (by decide) (fun hc => ?_) (fun hc => ?_)
  · have h := h.1 hc
    refine jd_iload_n (pc := 14) 0 dX5_tokenOf_14 rfl rfl ?_
    refine jd_bipush (pc := 15) (v := 48) dX5_tokenOf_15 (by decide) ?_
    refine jd_icmp_lt (pc := 17) 28 dX5_tokenOf_17 (by decide) (fun hc => ?_) (fun hc => ?_)
    · have h := h.1 hc
      refine jd_iload_n (pc := 28) 0 dX5_tokenOf_28 rfl rfl ?_
      refine jd_bipush (pc := 29) (v := 59) dX5_tokenOf_29 (by decide) ?_
      refine jd_icmp_ne (pc := 31) 38 dX5_tokenOf_31 (by decide) (fun hc => ?_) (fun hc => ?_)
      · have h := h.1 hc
        refine jd_iconst (pc := 38) (v := 4) dX5_tokenOf_38 (by decide) ?_
        exact jd_iretK (pc := 39) rfl rfl dX5_tokenOf_39 h
      · have h := h.2 hc
        refine jd_iconst (pc := 34) (v := 3) dX5_tokenOf_34 (by decide) ?_
        refine jd_goto (pc := 35) 39 dX5_tokenOf_35 (by decide) ?_
        exact jd_iretK (pc := 39) rfl rfl dX5_tokenOf_39 h
    · have h := h.2 hc
      refine jd_iload_n (pc := 20) 0 dX5_tokenOf_20 rfl rfl ?_
      refine jd_bipush (pc := 21) (v := 57) dX5_tokenOf_21 (by decide) ?_
      refine jd_icmp_gt (pc := 23) 28 dX5_tokenOf_23 (by decide) (fun hc => ?_) (fun hc => ?_)
      · have h := h.1 hc
        refine jd_iload_n (pc := 28) 0 dX5_tokenOf_28 rfl rfl ?_
        refine jd_bipush (pc := 29) (v := 59) dX5_tokenOf_29 (by decide) ?_
        refine jd_icmp_ne (pc := 31) 38 dX5_tokenOf_31 (by decide) (fun hc => ?_) (fun hc => ?_)
        · have h := h.1 hc
          refine jd_iconst (pc := 38) (v := 4) dX5_tokenOf_38 (by decide) ?_
          exact jd_iretK (pc := 39) rfl rfl dX5_tokenOf_39 h
        · have h := h.2 hc
          refine jd_iconst (pc := 34) (v := 3) dX5_tokenOf_34 (by decide) ?_
          refine jd_goto (pc := 35) 39 dX5_tokenOf_35 (by decide) ?_
          exact jd_iretK (pc := 39) rfl rfl dX5_tokenOf_39 h
      · have h := h.2 hc
        refine jd_iconst (pc := 26) (v := 2) dX5_tokenOf_26 (by decide) ?_
        exact jd_iretK (pc := 27) rfl rfl dX5_tokenOf_27 h
  · have h := h.2 hc
    refine jd_iload_n (pc := 6) 0 dX5_tokenOf_6 rfl rfl ?_
    refine jd_bipush (pc := 7) (v := 122) dX5_tokenOf_7 (by decide) ?_
    refine jd_icmp_gt (pc := 9) 14 dX5_tokenOf_9 (by decide) (fun hc => ?_) (fun hc => ?_)
    · have h := h.1 hc
      refine jd_iload_n (pc := 14) 0 dX5_tokenOf_14 rfl rfl ?_
      refine jd_bipush (pc := 15) (v := 48) dX5_tokenOf_15 (by decide) ?_
      refine jd_icmp_lt (pc := 17) 28 dX5_tokenOf_17 (by decide) (fun hc => ?_) (fun hc => ?_)
      · have h := h.1 hc
        refine jd_iload_n (pc := 28) 0 dX5_tokenOf_28 rfl rfl ?_
        refine jd_bipush (pc := 29) (v := 59) dX5_tokenOf_29 (by decide) ?_
        refine jd_icmp_ne (pc := 31) 38 dX5_tokenOf_31 (by decide) (fun hc => ?_) (fun hc => ?_)
        · have h := h.1 hc
          refine jd_iconst (pc := 38) (v := 4) dX5_tokenOf_38 (by decide) ?_
          exact jd_iretK (pc := 39) rfl rfl dX5_tokenOf_39 h
        · have h := h.2 hc
          refine jd_iconst (pc := 34) (v := 3) dX5_tokenOf_34 (by decide) ?_
          refine jd_goto (pc := 35) 39 dX5_tokenOf_35 (by decide) ?_
          exact jd_iretK (pc := 39) rfl rfl dX5_tokenOf_39 h
      · have h := h.2 hc
        refine jd_iload_n (pc := 20) 0 dX5_tokenOf_20 rfl rfl ?_
        refine jd_bipush (pc := 21) (v := 57) dX5_tokenOf_21 (by decide) ?_
        refine jd_icmp_gt (pc := 23) 28 dX5_tokenOf_23 (by decide) (fun hc => ?_) (fun hc => ?_)
        · have h := h.1 hc
          refine jd_iload_n (pc := 28) 0 dX5_tokenOf_28 rfl rfl ?_
          refine jd_bipush (pc := 29) (v := 59) dX5_tokenOf_29 (by decide) ?_
          refine jd_icmp_ne (pc := 31) 38 dX5_tokenOf_31 (by decide) (fun hc => ?_) (fun hc => ?_)
          · have h := h.1 hc
            refine jd_iconst (pc := 38) (v := 4) dX5_tokenOf_38 (by decide) ?_
            exact jd_iretK (pc := 39) rfl rfl dX5_tokenOf_39 h
          · have h := h.2 hc
            refine jd_iconst (pc := 34) (v := 3) dX5_tokenOf_34 (by decide) ?_
            refine jd_goto (pc := 35) 39 dX5_tokenOf_35 (by decide) ?_
            exact jd_iretK (pc := 39) rfl rfl dX5_tokenOf_39 h
        · have h := h.2 hc
          refine jd_iconst (pc := 26) (v := 2) dX5_tokenOf_26 (by decide) ?_
          exact jd_iretK (pc := 27) rfl rfl dX5_tokenOf_27 h
    · have h := h.2 hc
      refine jd_iconst (pc := 12) (v := 1) dX5_tokenOf_12 (by decide) ?_
      exact jd_iretK (pc := 13) rfl rfl dX5_tokenOf_13 h
theorem eX5_tokenOf {G : jdG} {n : Nat} {Z : jdL} {I : jdI} {J : jdJ} {K : Int32 → jdI → jdJ → Prop} {x0 : Int32}  (h : ((x0 < 97 → ((x0 < 48 → ((¬ x0 = 59 → K 4 I J) ∧ (x0 = 59 → K 3 I J))) ∧ (¬ x0 < 48 → ((57 < x0 → ((¬ x0 = 59 → K 4 I J) ∧ (x0 = 59 → K 3 I J))) ∧ (¬ 57 < x0 → K 2 I J))))) ∧ (¬ x0 < 97 → ((122 < x0 → ((x0 < 48 → ((¬ x0 = 59 → K 4 I J) ∧ (x0 = 59 → K 3 I J))) ∧ (¬ x0 < 48 → ((57 < x0 → ((¬ x0 = 59 → K 4 I J) ∧ (x0 = 59 → K 3 I J))) ∧ (¬ 57 < x0 → K 2 I J))))) ∧ (¬ 122 < x0 → K 1 I J))))) : Cl G mX5_tokenOf (n) 0 0 [.int x0] Z I J (qi Z K) :=
  Cl.of (by decide +kernel) (Nat.le_of_ble_eq_true rfl) (rX5_tokenOf_0  h)
set_option maxRecDepth 4000 in
theorem rX5_isWord_0 {G : jdG} {n rc rs : Nat} {Z : jdL} {I : jdI} {J : jdJ} {K : Int32 → jdI → jdJ → Prop} {sA : Nat → Nat} {sV : Nat → Nat} {t : Nat} {u1 : Nat} (hG : gOK G sA sV) (ht : zScribe Z t) (hsi : u1 < 14) (h : ((¬ (I t 2) = 1 → K 0 I J) ∧ ((I t 2) = 1 → Cl G mJ0_length_8abf5 n 0 0 [.ref (sA u1)] Z I J (qi Z (fun v2 I1 J1 => ((((I t 4) - (I t 3)) = v2 → Jd G mX5_isWord (jdFm G (qi Z K)) (n + 1) rc rs 28 [(0, .ref (gb G + t)), (1, .ref (sA u1)), (2, .int 0)] [] Z I1 J1) ∧ (¬ ((I t 4) - (I t 3)) = v2 → K 0 I1 J1))))))) : Jd G mX5_isWord (jdFm G (qi Z K)) (n + 1) rc rs 0 [(0, .ref (gb G + t)), (1, .ref (sA u1))] [] Z I J := by
  refine jd_aload_n (pc := 0) 0 dX5_isWord_0 rfl rfl ?_
  refine jd_getI (pc := 1) (ci := 4) (k := 2) gX5_29 ht.1 rfl dX5_isWord_1 ?_
  refine jd_iconst (pc := 4) (v := 1) dX5_isWord_4 (by decide) ?_
  refine jd_icmp_ne (pc := 5) 24 dX5_isWord_5 (by decide) (fun hc => ?_) (fun hc => ?_)
  · have h := h.1 hc
    refine jd_iconst (pc := 24) (v := 0) dX5_isWord_24 (by decide) ?_
    exact jd_iretK (pc := 25) (ty := .boolean) rfl (by decide) dX5_isWord_25 h
  · have h := h.2 hc
    refine jd_aload_n (pc := 8) 0 dX5_isWord_8 rfl rfl ?_
    refine jd_getI (pc := 9) (ci := 4) (k := 4) gX5_19 ht.1 rfl dX5_isWord_9 ?_
    refine jd_aload_n (pc := 12) 0 dX5_isWord_12 rfl rfl ?_
    refine jd_getI (pc := 13) (ci := 4) (k := 3) gX5_36 ht.1 rfl dX5_isWord_13 ?_
    refine jd_isub (pc := 16) dX5_isWord_16 ?_
    refine jd_aload_n (pc := 17) 1 dX5_isWord_17 rfl rfl ?_
    refine jd_callStr (pc := 18) (M2 := mJ0_length_8abf5) (av := []) hG hsi kJ0_length_8abf5 sJ0_length_8abf5 rfl lX5_46 rfl rfl (Nat.le_of_ble_eq_true rfl) dX5_isWord_18 h ?_
    intro v2 I1 J1 h
    refine jd_icmp_eq (pc := 21) 26 dX5_isWord_21 (by decide) (fun hc => ?_) (fun hc => ?_)
    · have h := h.1 hc
      refine jd_iconst (pc := 26) (v := 0) dX5_isWord_26 (by decide) ?_
      refine jd_istore_n (pc := 27) [(2, .int 0), (0, .ref (gb G + t)), (1, .ref (sA u1))] dX5_isWord_27 rfl (by decide) rfl ?_
      exact jd_lv (lv2 := [(0, .ref (gb G + t)), (1, .ref (sA u1)), (2, .int 0)]) [1, 2, 0] rfl h
    · have h := h.2 hc
      refine jd_iconst (pc := 24) (v := 0) dX5_isWord_24 (by decide) ?_
      exact jd_iretK (pc := 25) (ty := .boolean) rfl (by decide) dX5_isWord_25 h
set_option maxRecDepth 4000 in
theorem rX5_isWord_28 {G : jdG} {n rc rs : Nat} {Z : jdL} {I : jdI} {J : jdJ} {K : Int32 → jdI → jdJ → Prop} {sA : Nat → Nat} {sV : Nat → Nat} {u1 : Nat} {t : Nat} {x2 : Int32} (hG : gOK G sA sV) (ht : zScribe Z t) (hsi : u1 < 14) (h : Cl G mJ0_length_8abf5 n 0 0 [.ref (sA u1)] Z I J (qi Z (fun v2 I1 J1 => ((v2 ≤ x2 → K 1 I1 J1) ∧ (¬ v2 ≤ x2 → (((I1 t 1) ≤ ((I1 t 3) + x2) → K 1 I1 J1) ∧ (¬ (I1 t 1) ≤ ((I1 t 3) + x2) → (vp_in ((I1 t 3) + x2) 250 ∧ Cl G mJ0_charAt_5068e n 0 0 [.ref (sA u1), .int x2] Z I1 J1 (qi Z (fun v5 I4 J4 => (((I1 (t + 1) (Int32.toNatClampNeg ((I1 t 3) + x2))) = v5 → Jd G mX5_isWord (jdFm G (qi Z K)) (n + 1) rc rs 28 [(0, .ref (gb G + t)), (1, .ref (sA u1)), (2, .int (x2 + 1))] [] Z I4 J4) ∧ (¬ (I1 (t + 1) (Int32.toNatClampNeg ((I1 t 3) + x2))) = v5 → K 0 I4 J4)))))))))))) : Jd G mX5_isWord (jdFm G (qi Z K)) (n + 1) rc rs 28 [(0, .ref (gb G + t)), (1, .ref (sA u1)), (2, .int x2)] [] Z I J := by
  refine jd_iload_n (pc := 28) 2 dX5_isWord_28 rfl rfl ?_
  refine jd_aload_n (pc := 29) 1 dX5_isWord_29 rfl rfl ?_
  refine jd_callStr (pc := 30) (M2 := mJ0_length_8abf5) (av := []) hG hsi kJ0_length_8abf5 sJ0_length_8abf5 rfl lX5_46 rfl rfl (Nat.le_of_ble_eq_true rfl) dX5_isWord_30 h ?_
  intro v2 I1 J1 h
  refine jd_icmp_ge (pc := 33) 76 dX5_isWord_33 (by decide) (fun hc => ?_) (fun hc => ?_)
  · have h := h.1 hc
    refine jd_iconst (pc := 76) (v := 1) dX5_isWord_76 (by decide) ?_
    exact jd_iretK (pc := 77) (ty := .boolean) rfl (by decide) dX5_isWord_77 h
  · have h := h.2 hc
    refine jd_aload_n (pc := 36) 0 dX5_isWord_36 rfl rfl ?_
    refine jd_getI (pc := 37) (ci := 4) (k := 3) gX5_36 ht.1 rfl dX5_isWord_37 ?_
    refine jd_iload_n (pc := 40) 2 dX5_isWord_40 rfl rfl ?_
    refine jd_iadd (pc := 41) dX5_isWord_41 ?_
    refine jd_aload_n (pc := 42) 0 dX5_isWord_42 rfl rfl ?_
    refine jd_getI (pc := 43) (ci := 4) (k := 1) gX5_15 ht.1 rfl dX5_isWord_43 ?_
    refine jd_icmp_ge (pc := 46) 76 dX5_isWord_46 (by decide) (fun hc => ?_) (fun hc => ?_)
    · have h := h.1 hc
      refine jd_iconst (pc := 76) (v := 1) dX5_isWord_76 (by decide) ?_
      exact jd_iretK (pc := 77) (ty := .boolean) rfl (by decide) dX5_isWord_77 h
    · have h := h.2 hc
      refine jd_aload_n (pc := 49) 0 dX5_isWord_49 rfl rfl ?_
      refine jd_getR (pc := 50) (ci := 4) (k := 0) (r := (t + 1)) gX5_11 ht.1 rfl (zScribe_p0 ht) dX5_isWord_50 ?_
      refine jd_aload_n (pc := 53) 0 dX5_isWord_53 rfl rfl ?_
      refine jd_getI (pc := 54) (ci := 4) (k := 3) gX5_36 ht.1 rfl dX5_isWord_54 ?_
      refine jd_iload_n (pc := 57) 2 dX5_isWord_57 rfl rfl ?_
      refine jd_iadd (pc := 58) dX5_isWord_58 ?_
      obtain ⟨hv3, h⟩ := h
      refine jd_iald (pc := 59) (len := 250) (zScribe_a0 ht) hv3 dX5_isWord_59 ?_
      refine jd_aload_n (pc := 60) 1 dX5_isWord_60 rfl rfl ?_
      refine jd_iload_n (pc := 61) 2 dX5_isWord_61 rfl rfl ?_
      refine jd_callStr (pc := 62) (M2 := mJ0_charAt_5068e) (av := [.int x2]) hG hsi kJ0_charAt_5068e sJ0_charAt_5068e rfl lX5_52 rfl rfl (Nat.le_of_ble_eq_true rfl) dX5_isWord_62 h ?_
      intro v5 I4 J4 h
      refine jd_icmp_eq (pc := 65) 70 dX5_isWord_65 (by decide) (fun hc => ?_) (fun hc => ?_)
      · have h := h.1 hc
        refine jd_iinc (pc := 70) (v := (x2 + 1)) 2 [(2, .int (x2 + 1)), (0, .ref (gb G + t)), (1, .ref (sA u1))] dX5_isWord_70 rfl rfl (by decide) rfl ?_
        refine jd_goto (pc := 73) 28 dX5_isWord_73 (by decide) ?_
        exact jd_lv (lv2 := [(0, .ref (gb G + t)), (1, .ref (sA u1)), (2, .int (x2 + 1))]) [1, 2, 0] rfl h
      · have h := h.2 hc
        refine jd_iconst (pc := 68) (v := 0) dX5_isWord_68 (by decide) ?_
        exact jd_iretK (pc := 69) (ty := .boolean) rfl (by decide) dX5_isWord_69 h
theorem eX5_isWord {G : jdG} {n : Nat} {Z : jdL} {I : jdI} {J : jdJ} {K : Int32 → jdI → jdJ → Prop} {sA : Nat → Nat} {sV : Nat → Nat} {t : Nat} {u1 : Nat} (hG : gOK G sA sV) (ht : zScribe Z t) (hsi : u1 < 14) (h : ((¬ (I t 2) = 1 → K 0 I J) ∧ ((I t 2) = 1 → Cl G mJ0_length_8abf5 n 0 0 [.ref (sA u1)] Z I J (qi Z (fun v2 I1 J1 => ((((I t 4) - (I t 3)) = v2 → Jd G mX5_isWord (jdFm G (qi Z K)) (n + 1) 0 0 28 [(0, .ref (gb G + t)), (1, .ref (sA u1)), (2, .int 0)] [] Z I1 J1) ∧ (¬ ((I t 4) - (I t 3)) = v2 → K 0 I1 J1))))))) : Cl G mX5_isWord (n + 1) 0 0 [.ref (gb G + t), .ref (sA u1)] Z I J (qi Z K) :=
  Cl.of (by decide +kernel) (Nat.le_of_ble_eq_true rfl) (rX5_isWord_0 hG ht hsi h)
set_option maxRecDepth 4000 in
theorem rX5_readNumber_0 {G : jdG} {n rc rs : Nat} {Z : jdL} {I : jdI} {J : jdJ} {K : Int32 → jdI → jdJ → Prop} {t : Nat} {x1 : Int32} {x2 : Int32} {x3 : Int32} (ht : zScribe Z t) (h : ((¬ (I t 2) = 2 → Cl G mX5_fail n 0 0 [.ref (gb G + t)] Z I J (qi Z (fun v2 I1 J1 => K (-1) I1 J1))) ∧ ((I t 2) = 2 → ((2 < ((I t 4) - (I t 3)) → Cl G mX5_fail n 0 0 [.ref (gb G + t)] Z I J (qi Z (fun v4 I3 J3 => K (-1) I3 J3))) ∧ (¬ 2 < ((I t 4) - (I t 3)) → (((I t 4) ≤ (I t 1) → Jd G mX5_readNumber (jdFm G (qi Z K)) (n + 1) rc rs 48 [(0, .ref (gb G + t)), (1, .int x1), (2, .int x2), (3, .int x3), (4, .int 0), (5, .int (I t 3))] [] Z I J) ∧ (¬ (I t 4) ≤ (I t 1) → Cl G mX5_fail n 0 0 [.ref (gb G + t)] Z I J (qi Z (fun v6 I5 J5 => K (-1) I5 J5))))))))) : Jd G mX5_readNumber (jdFm G (qi Z K)) (n + 1) rc rs 0 [(0, .ref (gb G + t)), (1, .int x1), (2, .int x2), (3, .int x3)] [] Z I J := by
  refine jd_aload_n (pc := 0) 0 dX5_readNumber_0 rfl rfl ?_
  refine jd_getI (pc := 1) (ci := 4) (k := 2) gX5_29 ht.1 rfl dX5_readNumber_1 ?_
  refine jd_iconst (pc := 4) (v := 2) dX5_readNumber_4 (by decide) ?_
  refine jd_icmp_ne (pc := 5) 32 dX5_readNumber_5 (by decide) (fun hc => ?_) (fun hc => ?_)
  · have h := h.1 hc
    refine jd_aload_n (pc := 32) 0 dX5_readNumber_32 rfl rfl ?_
    refine jd_callVi (pc := 33) (M2 := mX5_fail) (id := t) (ci := 4) (T := TX5) (N := 6) (av := []) kX5_fail sX5_fail rfl ht.1 lX5_32 rfl rfl (Nat.le_of_ble_eq_true rfl) dX5_readNumber_33 h ?_
    intro v2 I1 J1 h
    refine jd_pop (pc := 36) dX5_readNumber_36 rfl ?_
    refine jd_iconst (pc := 37) (v := (-1)) dX5_readNumber_37 (by decide) ?_
    exact jd_iretK (pc := 38) rfl rfl dX5_readNumber_38 h
  · have h := h.2 hc
    refine jd_aload_n (pc := 8) 0 dX5_readNumber_8 rfl rfl ?_
    refine jd_getI (pc := 9) (ci := 4) (k := 4) gX5_19 ht.1 rfl dX5_readNumber_9 ?_
    refine jd_aload_n (pc := 12) 0 dX5_readNumber_12 rfl rfl ?_
    refine jd_getI (pc := 13) (ci := 4) (k := 3) gX5_36 ht.1 rfl dX5_readNumber_13 ?_
    refine jd_isub (pc := 16) dX5_readNumber_16 ?_
    refine jd_iconst (pc := 17) (v := 2) dX5_readNumber_17 (by decide) ?_
    refine jd_icmp_gt (pc := 18) 32 dX5_readNumber_18 (by decide) (fun hc => ?_) (fun hc => ?_)
    · have h := h.1 hc
      refine jd_aload_n (pc := 32) 0 dX5_readNumber_32 rfl rfl ?_
      refine jd_callVi (pc := 33) (M2 := mX5_fail) (id := t) (ci := 4) (T := TX5) (N := 6) (av := []) kX5_fail sX5_fail rfl ht.1 lX5_32 rfl rfl (Nat.le_of_ble_eq_true rfl) dX5_readNumber_33 h ?_
      intro v4 I3 J3 h
      refine jd_pop (pc := 36) dX5_readNumber_36 rfl ?_
      refine jd_iconst (pc := 37) (v := (-1)) dX5_readNumber_37 (by decide) ?_
      exact jd_iretK (pc := 38) rfl rfl dX5_readNumber_38 h
    · have h := h.2 hc
      refine jd_aload_n (pc := 21) 0 dX5_readNumber_21 rfl rfl ?_
      refine jd_getI (pc := 22) (ci := 4) (k := 4) gX5_19 ht.1 rfl dX5_readNumber_22 ?_
      refine jd_aload_n (pc := 25) 0 dX5_readNumber_25 rfl rfl ?_
      refine jd_getI (pc := 26) (ci := 4) (k := 1) gX5_15 ht.1 rfl dX5_readNumber_26 ?_
      refine jd_icmp_le (pc := 29) 39 dX5_readNumber_29 (by decide) (fun hc => ?_) (fun hc => ?_)
      · have h := h.1 hc
        refine jd_iconst (pc := 39) (v := 0) dX5_readNumber_39 (by decide) ?_
        refine jd_istore (pc := 40) [(4, .int 0), (0, .ref (gb G + t)), (1, .int x1), (2, .int x2), (3, .int x3)] dX5_readNumber_40 (by decide) rfl ?_
        refine jd_aload_n (pc := 42) 1 dX5_readNumber_42 rfl rfl ?_
        refine jd_getI (pc := 43) (ci := 4) (k := 3) gX5_36 ht.1 rfl dX5_readNumber_43 ?_
        refine jd_istore (pc := 46) [(5, .int (I t 3)), (4, .int 0), (0, .ref (gb G + t)), (1, .int x1), (2, .int x2), (3, .int x3)] dX5_readNumber_46 (by decide) rfl ?_
        exact jd_lv (lv2 := [(0, .ref (gb G + t)), (1, .int x1), (2, .int x2), (3, .int x3), (4, .int 0), (5, .int (I t 3))]) [2, 3, 4, 5, 1, 0] rfl h
      · have h := h.2 hc
        refine jd_aload_n (pc := 32) 0 dX5_readNumber_32 rfl rfl ?_
        refine jd_callVi (pc := 33) (M2 := mX5_fail) (id := t) (ci := 4) (T := TX5) (N := 6) (av := []) kX5_fail sX5_fail rfl ht.1 lX5_32 rfl rfl (Nat.le_of_ble_eq_true rfl) dX5_readNumber_33 h ?_
        intro v6 I5 J5 h
        refine jd_pop (pc := 36) dX5_readNumber_36 rfl ?_
        refine jd_iconst (pc := 37) (v := (-1)) dX5_readNumber_37 (by decide) ?_
        exact jd_iretK (pc := 38) rfl rfl dX5_readNumber_38 h
set_option maxRecDepth 4000 in
theorem rX5_readNumber_48 {G : jdG} {n rc rs : Nat} {Z : jdL} {I : jdI} {J : jdJ} {K : Int32 → jdI → jdJ → Prop} {t : Nat} {x1 : Int32} {x2 : Int32} {x3 : Int32} {x4 : Int32} {x5 : Int32} (ht : zScribe Z t) (h : (((I t 4) ≤ x5 → ((x4 < x1 → Cl G mX5_fail n 0 0 [.ref (gb G + t)] Z I J (qi Z (fun v2 I1 J1 => K (-1) I1 J1))) ∧ (¬ x4 < x1 → ((x2 < x4 → Cl G mX5_fail n 0 0 [.ref (gb G + t)] Z I J (qi Z (fun v4 I3 J3 => K (-1) I3 J3))) ∧ (¬ x2 < x4 → ((x3 = 0 → Cl G mX5_advance n 0 0 [.ref (gb G + t)] Z I J (qv Z (fun I5 J5 => K x4 I5 J5))) ∧ (¬ x3 = 0 → ((((x3 >>> (x4 &&& 31)) &&& 1) = 0 → Cl G mX5_advance n 0 0 [.ref (gb G + t)] Z I J (qv Z (fun I7 J7 => K x4 I7 J7))) ∧ (¬ ((x3 >>> (x4 &&& 31)) &&& 1) = 0 → Cl G mX5_fail n 0 0 [.ref (gb G + t)] Z I J (qi Z (fun v10 I9 J9 => K (-1) I9 J9))))))))))) ∧ (¬ (I t 4) ≤ x5 → (vp_in x5 250 ∧ Jd G mX5_readNumber (jdFm G (qi Z K)) (n + 1) rc rs 48 [(0, .ref (gb G + t)), (1, .int x1), (2, .int x2), (3, .int x3), (4, .int (((10 * x4) + (I (t + 1) (Int32.toNatClampNeg x5))) - 48)), (5, .int (x5 + 1))] [] Z I J)))) : Jd G mX5_readNumber (jdFm G (qi Z K)) (n + 1) rc rs 48 [(0, .ref (gb G + t)), (1, .int x1), (2, .int x2), (3, .int x3), (4, .int x4), (5, .int x5)] [] Z I J := by
  refine jd_iload (pc := 48) 5 dX5_readNumber_48 rfl ?_
  refine jd_aload_n (pc := 50) 0 dX5_readNumber_50 rfl rfl ?_
  refine jd_getI (pc := 51) (ci := 4) (k := 4) gX5_19 ht.1 rfl dX5_readNumber_51 ?_
  refine jd_icmp_ge (pc := 54) 81 dX5_readNumber_54 (by decide) (fun hc => ?_) (fun hc => ?_)
  · have h := h.1 hc
    refine jd_iload (pc := 81) 4 dX5_readNumber_81 rfl ?_
    refine jd_iload_n (pc := 83) 1 dX5_readNumber_83 rfl rfl ?_
    refine jd_icmp_lt (pc := 84) 106 dX5_readNumber_84 (by decide) (fun hc => ?_) (fun hc => ?_)
    · have h := h.1 hc
      refine jd_aload_n (pc := 106) 0 dX5_readNumber_106 rfl rfl ?_
      refine jd_callVi (pc := 107) (M2 := mX5_fail) (id := t) (ci := 4) (T := TX5) (N := 6) (av := []) kX5_fail sX5_fail rfl ht.1 lX5_32 rfl rfl (Nat.le_of_ble_eq_true rfl) dX5_readNumber_107 h ?_
      intro v2 I1 J1 h
      refine jd_pop (pc := 110) dX5_readNumber_110 rfl ?_
      refine jd_iconst (pc := 111) (v := (-1)) dX5_readNumber_111 (by decide) ?_
      exact jd_iretK (pc := 112) rfl rfl dX5_readNumber_112 h
    · have h := h.2 hc
      refine jd_iload (pc := 87) 4 dX5_readNumber_87 rfl ?_
      refine jd_iload_n (pc := 89) 2 dX5_readNumber_89 rfl rfl ?_
      refine jd_icmp_gt (pc := 90) 106 dX5_readNumber_90 (by decide) (fun hc => ?_) (fun hc => ?_)
      · have h := h.1 hc
        refine jd_aload_n (pc := 106) 0 dX5_readNumber_106 rfl rfl ?_
        refine jd_callVi (pc := 107) (M2 := mX5_fail) (id := t) (ci := 4) (T := TX5) (N := 6) (av := []) kX5_fail sX5_fail rfl ht.1 lX5_32 rfl rfl (Nat.le_of_ble_eq_true rfl) dX5_readNumber_107 h ?_
        intro v4 I3 J3 h
        refine jd_pop (pc := 110) dX5_readNumber_110 rfl ?_
        refine jd_iconst (pc := 111) (v := (-1)) dX5_readNumber_111 (by decide) ?_
        exact jd_iretK (pc := 112) rfl rfl dX5_readNumber_112 h
      · have h := h.2 hc
        refine jd_iload_n (pc := 93) 3 dX5_readNumber_93 rfl rfl ?_
        refine jd_if_eq (pc := 94) 113 dX5_readNumber_94 (by decide) (fun hc => ?_) (fun hc => ?_)
        · have h := h.1 hc
          refine jd_aload_n (pc := 113) 0 dX5_readNumber_113 rfl rfl ?_
          refine jd_callVv (pc := 114) (M2 := mX5_advance) (id := t) (ci := 4) (T := TX5) (N := 6) (av := []) kX5_advance sX5_advance rfl ht.1 lX5_22 rfl rfl (Nat.le_of_ble_eq_true rfl) dX5_readNumber_114 h ?_
          intro I5 J5 h
          refine jd_iload (pc := 117) 4 dX5_readNumber_117 rfl ?_
          exact jd_iretK (pc := 119) rfl rfl dX5_readNumber_119 h
        · have h := h.2 hc
          refine jd_iload_n (pc := 97) 3 dX5_readNumber_97 rfl rfl ?_
          refine jd_iload (pc := 98) 4 dX5_readNumber_98 rfl ?_
          refine jd_ishr (pc := 100) dX5_readNumber_100 ?_
          refine jd_iconst (pc := 101) (v := 1) dX5_readNumber_101 (by decide) ?_
          refine jd_iand (pc := 102) dX5_readNumber_102 ?_
          refine jd_if_eq (pc := 103) 113 dX5_readNumber_103 (by decide) (fun hc => ?_) (fun hc => ?_)
          · have h := h.1 hc
            refine jd_aload_n (pc := 113) 0 dX5_readNumber_113 rfl rfl ?_
            refine jd_callVv (pc := 114) (M2 := mX5_advance) (id := t) (ci := 4) (T := TX5) (N := 6) (av := []) kX5_advance sX5_advance rfl ht.1 lX5_22 rfl rfl (Nat.le_of_ble_eq_true rfl) dX5_readNumber_114 h ?_
            intro I7 J7 h
            refine jd_iload (pc := 117) 4 dX5_readNumber_117 rfl ?_
            exact jd_iretK (pc := 119) rfl rfl dX5_readNumber_119 h
          · have h := h.2 hc
            refine jd_aload_n (pc := 106) 0 dX5_readNumber_106 rfl rfl ?_
            refine jd_callVi (pc := 107) (M2 := mX5_fail) (id := t) (ci := 4) (T := TX5) (N := 6) (av := []) kX5_fail sX5_fail rfl ht.1 lX5_32 rfl rfl (Nat.le_of_ble_eq_true rfl) dX5_readNumber_107 h ?_
            intro v10 I9 J9 h
            refine jd_pop (pc := 110) dX5_readNumber_110 rfl ?_
            refine jd_iconst (pc := 111) (v := (-1)) dX5_readNumber_111 (by decide) ?_
            exact jd_iretK (pc := 112) rfl rfl dX5_readNumber_112 h
  · have h := h.2 hc
    refine jd_bipush (pc := 57) (v := 10) dX5_readNumber_57 (by decide) ?_
    refine jd_iload (pc := 59) 4 dX5_readNumber_59 rfl ?_
    refine jd_imul (pc := 61) dX5_readNumber_61 ?_
    refine jd_aload_n (pc := 62) 0 dX5_readNumber_62 rfl rfl ?_
    refine jd_getR (pc := 63) (ci := 4) (k := 0) (r := (t + 1)) gX5_11 ht.1 rfl (zScribe_p0 ht) dX5_readNumber_63 ?_
    refine jd_iload (pc := 66) 5 dX5_readNumber_66 rfl ?_
    obtain ⟨hv11, h⟩ := h
    refine jd_iald (pc := 68) (len := 250) (zScribe_a0 ht) hv11 dX5_readNumber_68 ?_
    refine jd_iadd (pc := 69) dX5_readNumber_69 ?_
    refine jd_bipush (pc := 70) (v := 48) dX5_readNumber_70 (by decide) ?_
    refine jd_isub (pc := 72) dX5_readNumber_72 ?_
    refine jd_istore (pc := 73) [(4, .int (((10 * x4) + (I (t + 1) (Int32.toNatClampNeg x5))) - 48)), (0, .ref (gb G + t)), (1, .int x1), (2, .int x2), (3, .int x3), (5, .int x5)] dX5_readNumber_73 (by decide) rfl ?_
    refine jd_iinc (pc := 75) (v := (x5 + 1)) 5 [(5, .int (x5 + 1)), (4, .int (((10 * x4) + (I (t + 1) (Int32.toNatClampNeg x5))) - 48)), (0, .ref (gb G + t)), (1, .int x1), (2, .int x2), (3, .int x3)] dX5_readNumber_75 rfl rfl (by decide) rfl ?_
    refine jd_goto (pc := 78) 48 dX5_readNumber_78 (by decide) ?_
    exact jd_lv (lv2 := [(0, .ref (gb G + t)), (1, .int x1), (2, .int x2), (3, .int x3), (4, .int (((10 * x4) + (I (t + 1) (Int32.toNatClampNeg x5))) - 48)), (5, .int (x5 + 1))]) [2, 3, 4, 5, 1, 0] rfl h
theorem eX5_readNumber {G : jdG} {n : Nat} {Z : jdL} {I : jdI} {J : jdJ} {K : Int32 → jdI → jdJ → Prop} {t : Nat} {x1 : Int32} {x2 : Int32} {x3 : Int32} (ht : zScribe Z t) (h : ((¬ (I t 2) = 2 → Cl G mX5_fail n 0 0 [.ref (gb G + t)] Z I J (qi Z (fun v2 I1 J1 => K (-1) I1 J1))) ∧ ((I t 2) = 2 → ((2 < ((I t 4) - (I t 3)) → Cl G mX5_fail n 0 0 [.ref (gb G + t)] Z I J (qi Z (fun v4 I3 J3 => K (-1) I3 J3))) ∧ (¬ 2 < ((I t 4) - (I t 3)) → (((I t 4) ≤ (I t 1) → Jd G mX5_readNumber (jdFm G (qi Z K)) (n + 1) 0 0 48 [(0, .ref (gb G + t)), (1, .int x1), (2, .int x2), (3, .int x3), (4, .int 0), (5, .int (I t 3))] [] Z I J) ∧ (¬ (I t 4) ≤ (I t 1) → Cl G mX5_fail n 0 0 [.ref (gb G + t)] Z I J (qi Z (fun v6 I5 J5 => K (-1) I5 J5))))))))) : Cl G mX5_readNumber (n + 1) 0 0 [.ref (gb G + t), .int x1, .int x2, .int x3] Z I J (qi Z K) :=
  Cl.of (by decide +kernel) (Nat.le_of_ble_eq_true rfl) (rX5_readNumber_0 ht h)
set_option maxRecDepth 4000 in
theorem rX5_readStatement_0 {G : jdG} {n rc rs : Nat} {Z : jdL} {I : jdI} {J : jdJ} {K : Int32 → jdI → jdJ → Prop} {sA : Nat → Nat} {sV : Nat → Nat} {t : Nat} {u1 : Nat} (hG : gOK G sA sV) (ht : zScribe Z t) (hu1 : zTown Z u1) (h : Cl G mX5_isWord n 0 0 [.ref (gb G + t), .ref (sA 0)] Z I J (qi Z (fun v2 I1 J1 => ((v2 = 0 → Cl G mX5_isWord n 0 0 [.ref (gb G + t), .ref (sA 1)] Z I1 J1 (qi Z (fun v4 I3 J3 => ((v4 = 0 → Cl G mX5_isWord n 0 0 [.ref (gb G + t), .ref (sA 3)] Z I3 J3 (qi Z (fun v6 I5 J5 => ((v6 = 0 → Cl G mX5_isWord n 0 0 [.ref (gb G + t), .ref (sA 4)] Z I5 J5 (qi Z (fun v8 I7 J7 => ((v8 = 0 → Cl G mX5_isWord n 0 0 [.ref (gb G + t), .ref (sA 5)] Z I7 J7 (qi Z (fun v10 I9 J9 => ((v10 = 0 → Cl G mX5_isWord n 0 0 [.ref (gb G + t), .ref (sA 6)] Z I9 J9 (qi Z (fun v12 I11 J11 => ((v12 = 0 → Cl G mX5_fail n 0 0 [.ref (gb G + t)] Z I11 J11 (qi Z (fun v14 I13 J13 => (narrow .boolean (.int v14) = .int v14 ∧ K v14 I13 J13)))) ∧ (¬ v12 = 0 → Cl G mX5_readMet n 0 0 [.ref (gb G + t), .ref (gb G + u1)] Z I11 J11 (qi Z (fun v16 I15 J15 => (narrow .boolean (.int v16) = .int v16 ∧ K v16 I15 J15)))))))) ∧ (¬ v10 = 0 → Cl G mX5_readMemory n 0 0 [.ref (gb G + t), .ref (gb G + u1)] Z I9 J9 (qi Z (fun v18 I17 J17 => (narrow .boolean (.int v18) = .int v18 ∧ K v18 I17 J17)))))))) ∧ (¬ v8 = 0 → Cl G mX5_readSeats n 0 0 [.ref (gb G + t), .ref (gb G + u1)] Z I7 J7 (qi Z (fun v20 I19 J19 => (narrow .boolean (.int v20) = .int v20 ∧ K v20 I19 J19)))))))) ∧ (¬ v6 = 0 → Cl G mX5_readPair n 0 0 [.ref (gb G + t), .ref (gb G + u1), .int 0] Z I5 J5 (qi Z (fun v22 I21 J21 => (narrow .boolean (.int v22) = .int v22 ∧ K v22 I21 J21)))))))) ∧ (¬ v4 = 0 → Cl G mX5_readPair n 0 0 [.ref (gb G + t), .ref (gb G + u1), .int 1] Z I3 J3 (qi Z (fun v24 I23 J23 => (narrow .boolean (.int v24) = .int v24 ∧ K v24 I23 J23)))))))) ∧ (¬ v2 = 0 → Cl G mX5_readPerson n 0 0 [.ref (gb G + t), .ref (gb G + u1)] Z I1 J1 (qi Z (fun v26 I25 J25 => (narrow .boolean (.int v26) = .int v26 ∧ K v26 I25 J25)))))))) : Jd G mX5_readStatement (jdFm G (qi Z K)) (n + 1) rc rs 0 [(0, .ref (gb G + t)), (1, .ref (gb G + u1))] [] Z I J := by
  refine jd_aload_n (pc := 0) 0 dX5_readStatement_0 rfl rfl ?_
  refine jd_ldcS (pc := 1) (tx := "person") (fun U hU => (gOK_str hG U hU).1) dX5_readStatement_1 ?_
  refine jd_callVi (pc := 3) (M2 := mX5_isWord) (id := t) (ci := 4) (T := TX5) (N := 6) (av := [.ref (sA 0)]) kX5_isWord sX5_isWord rfl ht.1 lX5_58 rfl rfl (Nat.le_of_ble_eq_true rfl) dX5_readStatement_3 h ?_
  intro v2 I1 J1 h
  refine jd_if_eq (pc := 6) 15 dX5_readStatement_6 (by decide) (fun hc => ?_) (fun hc => ?_)
  · have h := h.1 hc
    refine jd_aload_n (pc := 15) 0 dX5_readStatement_15 rfl rfl ?_
    refine jd_ldcS (pc := 16) (tx := "know") (fun U hU => (gOK_str hG U hU).2.1) dX5_readStatement_16 ?_
    refine jd_callVi (pc := 18) (M2 := mX5_isWord) (id := t) (ci := 4) (T := TX5) (N := 6) (av := [.ref (sA 1)]) kX5_isWord sX5_isWord rfl ht.1 lX5_58 rfl rfl (Nat.le_of_ble_eq_true rfl) dX5_readStatement_18 h ?_
    intro v4 I3 J3 h
    refine jd_if_eq (pc := 21) 31 dX5_readStatement_21 (by decide) (fun hc => ?_) (fun hc => ?_)
    · have h := h.1 hc
      refine jd_aload_n (pc := 31) 0 dX5_readStatement_31 rfl rfl ?_
      refine jd_ldcS (pc := 32) (tx := "strange") (fun U hU => (gOK_str hG U hU).2.2.2.1) dX5_readStatement_32 ?_
      refine jd_callVi (pc := 34) (M2 := mX5_isWord) (id := t) (ci := 4) (T := TX5) (N := 6) (av := [.ref (sA 3)]) kX5_isWord sX5_isWord rfl ht.1 lX5_58 rfl rfl (Nat.le_of_ble_eq_true rfl) dX5_readStatement_34 h ?_
      intro v6 I5 J5 h
      refine jd_if_eq (pc := 37) 47 dX5_readStatement_37 (by decide) (fun hc => ?_) (fun hc => ?_)
      · have h := h.1 hc
        refine jd_aload_n (pc := 47) 0 dX5_readStatement_47 rfl rfl ?_
        refine jd_ldcS (pc := 48) (tx := "seats") (fun U hU => (gOK_str hG U hU).2.2.2.2.1) dX5_readStatement_48 ?_
        refine jd_callVi (pc := 50) (M2 := mX5_isWord) (id := t) (ci := 4) (T := TX5) (N := 6) (av := [.ref (sA 4)]) kX5_isWord sX5_isWord rfl ht.1 lX5_58 rfl rfl (Nat.le_of_ble_eq_true rfl) dX5_readStatement_50 h ?_
        intro v8 I7 J7 h
        refine jd_if_eq (pc := 53) 62 dX5_readStatement_53 (by decide) (fun hc => ?_) (fun hc => ?_)
        · have h := h.1 hc
          refine jd_aload_n (pc := 62) 0 dX5_readStatement_62 rfl rfl ?_
          refine jd_ldcS (pc := 63) (tx := "memory") (fun U hU => (gOK_str hG U hU).2.2.2.2.2.1) dX5_readStatement_63 ?_
          refine jd_callVi (pc := 65) (M2 := mX5_isWord) (id := t) (ci := 4) (T := TX5) (N := 6) (av := [.ref (sA 5)]) kX5_isWord sX5_isWord rfl ht.1 lX5_58 rfl rfl (Nat.le_of_ble_eq_true rfl) dX5_readStatement_65 h ?_
          intro v10 I9 J9 h
          refine jd_if_eq (pc := 68) 77 dX5_readStatement_68 (by decide) (fun hc => ?_) (fun hc => ?_)
          · have h := h.1 hc
            refine jd_aload_n (pc := 77) 0 dX5_readStatement_77 rfl rfl ?_
            refine jd_ldcS (pc := 78) (tx := "met") (fun U hU => (gOK_str hG U hU).2.2.2.2.2.2.1) dX5_readStatement_78 ?_
            refine jd_callVi (pc := 80) (M2 := mX5_isWord) (id := t) (ci := 4) (T := TX5) (N := 6) (av := [.ref (sA 6)]) kX5_isWord sX5_isWord rfl ht.1 lX5_58 rfl rfl (Nat.le_of_ble_eq_true rfl) dX5_readStatement_80 h ?_
            intro v12 I11 J11 h
            refine jd_if_eq (pc := 83) 94 dX5_readStatement_83 (by decide) (fun hc => ?_) (fun hc => ?_)
            · have h := h.1 hc
              refine jd_aload_n (pc := 94) 0 dX5_readStatement_94 rfl rfl ?_
              refine jd_callVi (pc := 95) (M2 := mX5_fail) (id := t) (ci := 4) (T := TX5) (N := 6) (av := []) kX5_fail sX5_fail rfl ht.1 lX5_32 rfl rfl (Nat.le_of_ble_eq_true rfl) dX5_readStatement_95 h ?_
              intro v14 I13 J13 h
              exact jd_iretK (pc := 98) (ty := .boolean) rfl h.1 dX5_readStatement_98 h.2
            · have h := h.2 hc
              refine jd_aload_n (pc := 86) 0 dX5_readStatement_86 rfl rfl ?_
              refine jd_aload_n (pc := 87) 1 dX5_readStatement_87 rfl rfl ?_
              refine jd_callVi (pc := 88) (M2 := mX5_readMet) (id := t) (ci := 4) (T := TX5) (N := 6) (av := [.ref (gb G + u1)]) kX5_readMet sX5_readMet rfl ht.1 lX5_85 rfl rfl (Nat.le_of_ble_eq_true rfl) dX5_readStatement_88 h ?_
              intro v16 I15 J15 h
              refine jd_goto (pc := 91) 98 dX5_readStatement_91 (by decide) ?_
              exact jd_iretK (pc := 98) (ty := .boolean) rfl h.1 dX5_readStatement_98 h.2
          · have h := h.2 hc
            refine jd_aload_n (pc := 71) 0 dX5_readStatement_71 rfl rfl ?_
            refine jd_aload_n (pc := 72) 1 dX5_readStatement_72 rfl rfl ?_
            refine jd_callVi (pc := 73) (M2 := mX5_readMemory) (id := t) (ci := 4) (T := TX5) (N := 6) (av := [.ref (gb G + u1)]) kX5_readMemory sX5_readMemory rfl ht.1 lX5_80 rfl rfl (Nat.le_of_ble_eq_true rfl) dX5_readStatement_73 h ?_
            intro v18 I17 J17 h
            exact jd_iretK (pc := 76) (ty := .boolean) rfl h.1 dX5_readStatement_76 h.2
        · have h := h.2 hc
          refine jd_aload_n (pc := 56) 0 dX5_readStatement_56 rfl rfl ?_
          refine jd_aload_n (pc := 57) 1 dX5_readStatement_57 rfl rfl ?_
          refine jd_callVi (pc := 58) (M2 := mX5_readSeats) (id := t) (ci := 4) (T := TX5) (N := 6) (av := [.ref (gb G + u1)]) kX5_readSeats sX5_readSeats rfl ht.1 lX5_75 rfl rfl (Nat.le_of_ble_eq_true rfl) dX5_readStatement_58 h ?_
          intro v20 I19 J19 h
          exact jd_iretK (pc := 61) (ty := .boolean) rfl h.1 dX5_readStatement_61 h.2
      · have h := h.2 hc
        refine jd_aload_n (pc := 40) 0 dX5_readStatement_40 rfl rfl ?_
        refine jd_aload_n (pc := 41) 1 dX5_readStatement_41 rfl rfl ?_
        refine jd_iconst (pc := 42) (v := 0) dX5_readStatement_42 (by decide) ?_
        refine jd_callVi (pc := 43) (M2 := mX5_readPair) (id := t) (ci := 4) (T := TX5) (N := 6) (av := [.ref (gb G + u1), .int 0]) kX5_readPair sX5_readPair rfl ht.1 lX5_67 rfl rfl (Nat.le_of_ble_eq_true rfl) dX5_readStatement_43 h ?_
        intro v22 I21 J21 h
        exact jd_iretK (pc := 46) (ty := .boolean) rfl h.1 dX5_readStatement_46 h.2
    · have h := h.2 hc
      refine jd_aload_n (pc := 24) 0 dX5_readStatement_24 rfl rfl ?_
      refine jd_aload_n (pc := 25) 1 dX5_readStatement_25 rfl rfl ?_
      refine jd_iconst (pc := 26) (v := 1) dX5_readStatement_26 (by decide) ?_
      refine jd_callVi (pc := 27) (M2 := mX5_readPair) (id := t) (ci := 4) (T := TX5) (N := 6) (av := [.ref (gb G + u1), .int 1]) kX5_readPair sX5_readPair rfl ht.1 lX5_67 rfl rfl (Nat.le_of_ble_eq_true rfl) dX5_readStatement_27 h ?_
      intro v24 I23 J23 h
      exact jd_iretK (pc := 30) (ty := .boolean) rfl h.1 dX5_readStatement_30 h.2
  · have h := h.2 hc
    refine jd_aload_n (pc := 9) 0 dX5_readStatement_9 rfl rfl ?_
    refine jd_aload_n (pc := 10) 1 dX5_readStatement_10 rfl rfl ?_
    refine jd_callVi (pc := 11) (M2 := mX5_readPerson) (id := t) (ci := 4) (T := TX5) (N := 6) (av := [.ref (gb G + u1)]) kX5_readPerson sX5_readPerson rfl ht.1 lX5_62 rfl rfl (Nat.le_of_ble_eq_true rfl) dX5_readStatement_11 h ?_
    intro v26 I25 J25 h
    exact jd_iretK (pc := 14) (ty := .boolean) rfl h.1 dX5_readStatement_14 h.2
theorem eX5_readStatement {G : jdG} {n : Nat} {Z : jdL} {I : jdI} {J : jdJ} {K : Int32 → jdI → jdJ → Prop} {sA : Nat → Nat} {sV : Nat → Nat} {t : Nat} {u1 : Nat} (hG : gOK G sA sV) (ht : zScribe Z t) (hu1 : zTown Z u1) (h : Cl G mX5_isWord n 0 0 [.ref (gb G + t), .ref (sA 0)] Z I J (qi Z (fun v2 I1 J1 => ((v2 = 0 → Cl G mX5_isWord n 0 0 [.ref (gb G + t), .ref (sA 1)] Z I1 J1 (qi Z (fun v4 I3 J3 => ((v4 = 0 → Cl G mX5_isWord n 0 0 [.ref (gb G + t), .ref (sA 3)] Z I3 J3 (qi Z (fun v6 I5 J5 => ((v6 = 0 → Cl G mX5_isWord n 0 0 [.ref (gb G + t), .ref (sA 4)] Z I5 J5 (qi Z (fun v8 I7 J7 => ((v8 = 0 → Cl G mX5_isWord n 0 0 [.ref (gb G + t), .ref (sA 5)] Z I7 J7 (qi Z (fun v10 I9 J9 => ((v10 = 0 → Cl G mX5_isWord n 0 0 [.ref (gb G + t), .ref (sA 6)] Z I9 J9 (qi Z (fun v12 I11 J11 => ((v12 = 0 → Cl G mX5_fail n 0 0 [.ref (gb G + t)] Z I11 J11 (qi Z (fun v14 I13 J13 => (narrow .boolean (.int v14) = .int v14 ∧ K v14 I13 J13)))) ∧ (¬ v12 = 0 → Cl G mX5_readMet n 0 0 [.ref (gb G + t), .ref (gb G + u1)] Z I11 J11 (qi Z (fun v16 I15 J15 => (narrow .boolean (.int v16) = .int v16 ∧ K v16 I15 J15)))))))) ∧ (¬ v10 = 0 → Cl G mX5_readMemory n 0 0 [.ref (gb G + t), .ref (gb G + u1)] Z I9 J9 (qi Z (fun v18 I17 J17 => (narrow .boolean (.int v18) = .int v18 ∧ K v18 I17 J17)))))))) ∧ (¬ v8 = 0 → Cl G mX5_readSeats n 0 0 [.ref (gb G + t), .ref (gb G + u1)] Z I7 J7 (qi Z (fun v20 I19 J19 => (narrow .boolean (.int v20) = .int v20 ∧ K v20 I19 J19)))))))) ∧ (¬ v6 = 0 → Cl G mX5_readPair n 0 0 [.ref (gb G + t), .ref (gb G + u1), .int 0] Z I5 J5 (qi Z (fun v22 I21 J21 => (narrow .boolean (.int v22) = .int v22 ∧ K v22 I21 J21)))))))) ∧ (¬ v4 = 0 → Cl G mX5_readPair n 0 0 [.ref (gb G + t), .ref (gb G + u1), .int 1] Z I3 J3 (qi Z (fun v24 I23 J23 => (narrow .boolean (.int v24) = .int v24 ∧ K v24 I23 J23)))))))) ∧ (¬ v2 = 0 → Cl G mX5_readPerson n 0 0 [.ref (gb G + t), .ref (gb G + u1)] Z I1 J1 (qi Z (fun v26 I25 J25 => (narrow .boolean (.int v26) = .int v26 ∧ K v26 I25 J25)))))))) : Cl G mX5_readStatement (n + 1) 0 0 [.ref (gb G + t), .ref (gb G + u1)] Z I J (qi Z K) :=
  Cl.of (by decide +kernel) (Nat.le_of_ble_eq_true rfl) (rX5_readStatement_0 hG ht hu1 h)
set_option maxRecDepth 4000 in
theorem rX5_readPerson_0 {G : jdG} {n rc rs : Nat} {Z : jdL} {I : jdI} {J : jdJ} {K : Int32 → jdI → jdJ → Prop} {t : Nat} {u1 : Nat} (ht : zScribe Z t) (hu1 : zTown Z u1) (h : (((I u1 3) < 7 → Cl G mX5_advance n 0 0 [.ref (gb G + t)] Z I J (qv Z (fun I1 J1 => Cl G mX5_readNumber n 0 0 [.ref (gb G + t), .int 0, .int 23, .int 0] Z I1 J1 (qi Z (fun v4 I3 J3 => ((¬ v4 = (-1) → Cl G mX5_readNumber n 0 0 [.ref (gb G + t), .int 0, .int 9, .int 0] Z I3 J3 (qi Z (fun v6 I5 J5 => ((¬ v6 = (-1) → Cl G mX9_add n 0 0 [.ref (gb G + u1), .int v4, .int v6] Z I5 J5 (qi Z (fun v8 I7 J7 => K 1 I7 J7))) ∧ (v6 = (-1) → K 0 I5 J5))))) ∧ (v4 = (-1) → K 0 I3 J3))))))) ∧ (¬ (I u1 3) < 7 → Cl G mX5_fail n 0 0 [.ref (gb G + t)] Z I J (qi Z (fun v10 I9 J9 => (narrow .boolean (.int v10) = .int v10 ∧ K v10 I9 J9)))))) : Jd G mX5_readPerson (jdFm G (qi Z K)) (n + 1) rc rs 0 [(0, .ref (gb G + t)), (1, .ref (gb G + u1))] [] Z I J := by
  refine jd_aload_n (pc := 0) 1 dX5_readPerson_0 rfl rfl ?_
  refine jd_getI (pc := 1) (ci := 8) (k := 3) gX5_88 hu1.1 rfl dX5_readPerson_1 ?_
  refine jd_bipush (pc := 4) (v := 7) dX5_readPerson_4 (by decide) ?_
  refine jd_icmp_lt (pc := 6) 14 dX5_readPerson_6 (by decide) (fun hc => ?_) (fun hc => ?_)
  · have h := h.1 hc
    refine jd_aload_n (pc := 14) 0 dX5_readPerson_14 rfl rfl ?_
    refine jd_callVv (pc := 15) (M2 := mX5_advance) (id := t) (ci := 4) (T := TX5) (N := 6) (av := []) kX5_advance sX5_advance rfl ht.1 lX5_22 rfl rfl (Nat.le_of_ble_eq_true rfl) dX5_readPerson_15 h ?_
    intro I1 J1 h
    refine jd_aload_n (pc := 18) 0 dX5_readPerson_18 rfl rfl ?_
    refine jd_iconst (pc := 19) (v := 0) dX5_readPerson_19 (by decide) ?_
    refine jd_bipush (pc := 20) (v := 23) dX5_readPerson_20 (by decide) ?_
    refine jd_iconst (pc := 22) (v := 0) dX5_readPerson_22 (by decide) ?_
    refine jd_callVi (pc := 23) (M2 := mX5_readNumber) (id := t) (ci := 4) (T := TX5) (N := 6) (av := [.int 0, .int 23, .int 0]) kX5_readNumber sX5_readNumber rfl ht.1 lX5_93 rfl rfl (Nat.le_of_ble_eq_true rfl) dX5_readPerson_23 h ?_
    intro v4 I3 J3 h
    refine jd_istore_n (pc := 26) [(2, .int v4), (0, .ref (gb G + t)), (1, .ref (gb G + u1))] dX5_readPerson_26 rfl (by decide) rfl ?_
    refine jd_iload_n (pc := 27) 0 dX5_readPerson_27 rfl rfl ?_
    refine jd_iconst (pc := 28) (v := (-1)) dX5_readPerson_28 (by decide) ?_
    refine jd_icmp_ne (pc := 29) 34 dX5_readPerson_29 (by decide) (fun hc => ?_) (fun hc => ?_)
    · have h := h.1 hc
      refine jd_aload_n (pc := 34) 1 dX5_readPerson_34 rfl rfl ?_
      refine jd_iconst (pc := 35) (v := 0) dX5_readPerson_35 (by decide) ?_
      refine jd_bipush (pc := 36) (v := 9) dX5_readPerson_36 (by decide) ?_
      refine jd_iconst (pc := 38) (v := 0) dX5_readPerson_38 (by decide) ?_
      refine jd_callVi (pc := 39) (M2 := mX5_readNumber) (id := t) (ci := 4) (T := TX5) (N := 6) (av := [.int 0, .int 9, .int 0]) kX5_readNumber sX5_readNumber rfl ht.1 lX5_93 rfl rfl (Nat.le_of_ble_eq_true rfl) dX5_readPerson_39 h ?_
      intro v6 I5 J5 h
      refine jd_istore_n (pc := 42) [(3, .int v6), (2, .int v4), (0, .ref (gb G + t)), (1, .ref (gb G + u1))] dX5_readPerson_42 rfl (by decide) rfl ?_
      refine jd_iload_n (pc := 43) 0 dX5_readPerson_43 rfl rfl ?_
      refine jd_iconst (pc := 44) (v := (-1)) dX5_readPerson_44 (by decide) ?_
      refine jd_icmp_ne (pc := 45) 50 dX5_readPerson_45 (by decide) (fun hc => ?_) (fun hc => ?_)
      · have h := h.1 hc
        refine jd_aload_n (pc := 50) 3 dX5_readPerson_50 rfl rfl ?_
        refine jd_iload_n (pc := 51) 1 dX5_readPerson_51 rfl rfl ?_
        refine jd_iload_n (pc := 52) 0 dX5_readPerson_52 rfl rfl ?_
        refine jd_callVi (pc := 53) (M2 := mX9_add) (id := u1) (ci := 8) (T := TX9) (N := 10) (av := [.int v4, .int v6]) kX9_add sX9_add rfl hu1.1 lX5_97 rfl rfl (Nat.le_of_ble_eq_true rfl) dX5_readPerson_53 h ?_
        intro v8 I7 J7 h
        refine jd_pop (pc := 56) dX5_readPerson_56 rfl ?_
        refine jd_iconst (pc := 57) (v := 1) dX5_readPerson_57 (by decide) ?_
        exact jd_iretK (pc := 58) (ty := .boolean) rfl (by decide) dX5_readPerson_58 h
      · have h := h.2 hc
        refine jd_iconst (pc := 48) (v := 0) dX5_readPerson_48 (by decide) ?_
        exact jd_iretK (pc := 49) (ty := .boolean) rfl (by decide) dX5_readPerson_49 h
    · have h := h.2 hc
      refine jd_iconst (pc := 32) (v := 0) dX5_readPerson_32 (by decide) ?_
      exact jd_iretK (pc := 33) (ty := .boolean) rfl (by decide) dX5_readPerson_33 h
  · have h := h.2 hc
    refine jd_aload_n (pc := 9) 0 dX5_readPerson_9 rfl rfl ?_
    refine jd_callVi (pc := 10) (M2 := mX5_fail) (id := t) (ci := 4) (T := TX5) (N := 6) (av := []) kX5_fail sX5_fail rfl ht.1 lX5_32 rfl rfl (Nat.le_of_ble_eq_true rfl) dX5_readPerson_10 h ?_
    intro v10 I9 J9 h
    exact jd_iretK (pc := 13) (ty := .boolean) rfl h.1 dX5_readPerson_13 h.2
theorem eX5_readPerson {G : jdG} {n : Nat} {Z : jdL} {I : jdI} {J : jdJ} {K : Int32 → jdI → jdJ → Prop} {t : Nat} {u1 : Nat} (ht : zScribe Z t) (hu1 : zTown Z u1) (h : (((I u1 3) < 7 → Cl G mX5_advance n 0 0 [.ref (gb G + t)] Z I J (qv Z (fun I1 J1 => Cl G mX5_readNumber n 0 0 [.ref (gb G + t), .int 0, .int 23, .int 0] Z I1 J1 (qi Z (fun v4 I3 J3 => ((¬ v4 = (-1) → Cl G mX5_readNumber n 0 0 [.ref (gb G + t), .int 0, .int 9, .int 0] Z I3 J3 (qi Z (fun v6 I5 J5 => ((¬ v6 = (-1) → Cl G mX9_add n 0 0 [.ref (gb G + u1), .int v4, .int v6] Z I5 J5 (qi Z (fun v8 I7 J7 => K 1 I7 J7))) ∧ (v6 = (-1) → K 0 I5 J5))))) ∧ (v4 = (-1) → K 0 I3 J3))))))) ∧ (¬ (I u1 3) < 7 → Cl G mX5_fail n 0 0 [.ref (gb G + t)] Z I J (qi Z (fun v10 I9 J9 => (narrow .boolean (.int v10) = .int v10 ∧ K v10 I9 J9)))))) : Cl G mX5_readPerson (n + 1) 0 0 [.ref (gb G + t), .ref (gb G + u1)] Z I J (qi Z K) :=
  Cl.of (by decide +kernel) (Nat.le_of_ble_eq_true rfl) (rX5_readPerson_0 ht hu1 h)
set_option maxRecDepth 4000 in
theorem rX5_readPair_0 {G : jdG} {n rc rs : Nat} {Z : jdL} {I : jdI} {J : jdJ} {K : Int32 → jdI → jdJ → Prop} {sA : Nat → Nat} {sV : Nat → Nat} {t : Nat} {u1 : Nat} {x2 : Int32} (hG : gOK G sA sV) (ht : zScribe Z t) (hu1 : zTown Z u1) (h : Cl G mX5_advance n 0 0 [.ref (gb G + t)] Z I J (qv Z (fun I1 J1 => Cl G mX5_readNumber n 0 0 [.ref (gb G + t), .int 0, .int ((I1 u1 3) - 1), .int 0] Z I1 J1 (qi Z (fun v4 I3 J3 => ((¬ v4 = (-1) → Cl G mX5_readNumber n 0 0 [.ref (gb G + t), .int 0, .int ((I3 u1 3) - 1), .int (1 <<< (v4 &&& 31))] Z I3 J3 (qi Z (fun v6 I5 J5 => ((¬ v6 = (-1) → ((x2 = 0 → ((x2 = 0 → Cl G mX9_tie n 0 0 [.ref (gb G + u1), .int v4, .int v6, .int (-1)] Z I5 J5 (qv Z (fun I7 J7 => K 1 I7 J7))) ∧ (¬ x2 = 0 → Cl G mX5_isWord n 0 0 [.ref (gb G + t), .ref (sA 2)] Z I5 J5 (qi Z (fun v10 I9 J9 => ((v10 = 0 → Cl G mX9_tie n 0 0 [.ref (gb G + u1), .int v4, .int v6, .int (-1)] Z I9 J9 (qv Z (fun I11 J11 => K 1 I11 J11))) ∧ (¬ v10 = 0 → Cl G mX5_advance n 0 0 [.ref (gb G + t)] Z I9 J9 (qv Z (fun I13 J13 => Cl G mX5_readNumber n 0 0 [.ref (gb G + t), .int 0, .int 99, .int 0] Z I13 J13 (qi Z (fun v16 I15 J15 => ((¬ v16 = (-1) → Cl G mX9_tie n 0 0 [.ref (gb G + u1), .int v4, .int v6, .int v16] Z I15 J15 (qv Z (fun I17 J17 => K 1 I17 J17))) ∧ (v16 = (-1) → K 0 I15 J15))))))))))))) ∧ (¬ x2 = 0 → ((x2 = 0 → Cl G mX9_tie n 0 0 [.ref (gb G + u1), .int v4, .int v6, .int 0] Z I5 J5 (qv Z (fun I19 J19 => K 1 I19 J19))) ∧ (¬ x2 = 0 → Cl G mX5_isWord n 0 0 [.ref (gb G + t), .ref (sA 2)] Z I5 J5 (qi Z (fun v22 I21 J21 => ((v22 = 0 → Cl G mX9_tie n 0 0 [.ref (gb G + u1), .int v4, .int v6, .int 0] Z I21 J21 (qv Z (fun I23 J23 => K 1 I23 J23))) ∧ (¬ v22 = 0 → Cl G mX5_advance n 0 0 [.ref (gb G + t)] Z I21 J21 (qv Z (fun I25 J25 => Cl G mX5_readNumber n 0 0 [.ref (gb G + t), .int 0, .int 99, .int 0] Z I25 J25 (qi Z (fun v28 I27 J27 => ((¬ v28 = (-1) → Cl G mX9_tie n 0 0 [.ref (gb G + u1), .int v4, .int v6, .int v28] Z I27 J27 (qv Z (fun I29 J29 => K 1 I29 J29))) ∧ (v28 = (-1) → K 0 I27 J27))))))))))))))) ∧ (v6 = (-1) → K 0 I5 J5))))) ∧ (v4 = (-1) → K 0 I3 J3))))))) : Jd G mX5_readPair (jdFm G (qi Z K)) (n + 1) rc rs 0 [(0, .ref (gb G + t)), (1, .ref (gb G + u1)), (2, .int x2)] [] Z I J := by
  refine jd_aload_n (pc := 0) 0 dX5_readPair_0 rfl rfl ?_
  refine jd_callVv (pc := 1) (M2 := mX5_advance) (id := t) (ci := 4) (T := TX5) (N := 6) (av := []) kX5_advance sX5_advance rfl ht.1 lX5_22 rfl rfl (Nat.le_of_ble_eq_true rfl) dX5_readPair_1 h ?_
  intro I1 J1 h
  refine jd_aload_n (pc := 4) 0 dX5_readPair_4 rfl rfl ?_
  refine jd_iconst (pc := 5) (v := 0) dX5_readPair_5 (by decide) ?_
  refine jd_aload_n (pc := 6) 1 dX5_readPair_6 rfl rfl ?_
  refine jd_getI (pc := 7) (ci := 8) (k := 3) gX5_88 hu1.1 rfl dX5_readPair_7 ?_
  refine jd_iconst (pc := 10) (v := 1) dX5_readPair_10 (by decide) ?_
  refine jd_isub (pc := 11) dX5_readPair_11 ?_
  refine jd_iconst (pc := 12) (v := 0) dX5_readPair_12 (by decide) ?_
  refine jd_callVi (pc := 13) (M2 := mX5_readNumber) (id := t) (ci := 4) (T := TX5) (N := 6) (av := [.int 0, .int ((I1 u1 3) - 1), .int 0]) kX5_readNumber sX5_readNumber rfl ht.1 lX5_93 rfl rfl (Nat.le_of_ble_eq_true rfl) dX5_readPair_13 h ?_
  intro v4 I3 J3 h
  refine jd_istore_n (pc := 16) [(3, .int v4), (0, .ref (gb G + t)), (1, .ref (gb G + u1)), (2, .int x2)] dX5_readPair_16 rfl (by decide) rfl ?_
  refine jd_iload_n (pc := 17) 0 dX5_readPair_17 rfl rfl ?_
  refine jd_iconst (pc := 18) (v := (-1)) dX5_readPair_18 (by decide) ?_
  refine jd_icmp_ne (pc := 19) 24 dX5_readPair_19 (by decide) (fun hc => ?_) (fun hc => ?_)
  · have h := h.1 hc
    refine jd_aload_n (pc := 24) 1 dX5_readPair_24 rfl rfl ?_
    refine jd_iconst (pc := 25) (v := 0) dX5_readPair_25 (by decide) ?_
    refine jd_aload_n (pc := 26) 2 dX5_readPair_26 rfl rfl ?_
    refine jd_getI (pc := 27) (ci := 8) (k := 3) gX5_88 hu1.1 rfl dX5_readPair_27 ?_
    refine jd_iconst (pc := 30) (v := 1) dX5_readPair_30 (by decide) ?_
    refine jd_isub (pc := 31) dX5_readPair_31 ?_
    refine jd_iconst (pc := 32) (v := 1) dX5_readPair_32 (by decide) ?_
    refine jd_iload_n (pc := 33) 0 dX5_readPair_33 rfl rfl ?_
    refine jd_ishl (pc := 34) dX5_readPair_34 ?_
    refine jd_callVi (pc := 35) (M2 := mX5_readNumber) (id := t) (ci := 4) (T := TX5) (N := 6) (av := [.int 0, .int ((I3 u1 3) - 1), .int (1 <<< (v4 &&& 31))]) kX5_readNumber sX5_readNumber rfl ht.1 lX5_93 rfl rfl (Nat.le_of_ble_eq_true rfl) dX5_readPair_35 h ?_
    intro v6 I5 J5 h
    refine jd_istore (pc := 38) [(4, .int v6), (3, .int v4), (0, .ref (gb G + t)), (1, .ref (gb G + u1)), (2, .int x2)] dX5_readPair_38 (by decide) rfl ?_
    refine jd_iload (pc := 40) 0 dX5_readPair_40 rfl ?_
    refine jd_iconst (pc := 42) (v := (-1)) dX5_readPair_42 (by decide) ?_
    refine jd_icmp_ne (pc := 43) 48 dX5_readPair_43 (by decide) (fun hc => ?_) (fun hc => ?_)
    · have h := h.1 hc
      refine jd_iload_n (pc := 48) 4 dX5_readPair_48 rfl rfl ?_
      refine jd_if_eq (pc := 49) 56 dX5_readPair_49 (by decide) (fun hc => ?_) (fun hc => ?_)
      · have h := h.1 hc
        refine jd_iconst (pc := 56) (v := (-1)) dX5_readPair_56 (by decide) ?_
        refine jd_istore (pc := 57) [(5, .int (-1)), (4, .int v6), (3, .int v4), (0, .ref (gb G + t)), (1, .ref (gb G + u1)), (2, .int x2)] dX5_readPair_57 (by decide) rfl ?_
        refine jd_iload_n (pc := 59) 5 dX5_readPair_59 rfl rfl ?_
        refine jd_if_eq (pc := 60) 94 dX5_readPair_60 (by decide) (fun hc => ?_) (fun hc => ?_)
        · have h := h.1 hc
          refine jd_aload_n (pc := 94) 4 dX5_readPair_94 rfl rfl ?_
          refine jd_iload_n (pc := 95) 2 dX5_readPair_95 rfl rfl ?_
          refine jd_iload (pc := 96) 1 dX5_readPair_96 rfl ?_
          refine jd_iload (pc := 98) 0 dX5_readPair_98 rfl ?_
          refine jd_callVv (pc := 100) (M2 := mX9_tie) (id := u1) (ci := 8) (T := TX9) (N := 10) (av := [.int v4, .int v6, .int (-1)]) kX9_tie sX9_tie rfl hu1.1 lX5_103 rfl rfl (Nat.le_of_ble_eq_true rfl) dX5_readPair_100 h ?_
          intro I7 J7 h
          refine jd_iconst (pc := 103) (v := 1) dX5_readPair_103 (by decide) ?_
          exact jd_iretK (pc := 104) (ty := .boolean) rfl (by decide) dX5_readPair_104 h
        · have h := h.2 hc
          refine jd_aload_n (pc := 63) 3 dX5_readPair_63 rfl rfl ?_
          refine jd_ldcS (pc := 64) (tx := "since") (fun U hU => (gOK_str hG U hU).2.2.1) dX5_readPair_64 ?_
          refine jd_callVi (pc := 66) (M2 := mX5_isWord) (id := t) (ci := 4) (T := TX5) (N := 6) (av := [.ref (sA 2)]) kX5_isWord sX5_isWord rfl ht.1 lX5_58 rfl rfl (Nat.le_of_ble_eq_true rfl) dX5_readPair_66 h ?_
          intro v10 I9 J9 h
          refine jd_if_eq (pc := 69) 94 dX5_readPair_69 (by decide) (fun hc => ?_) (fun hc => ?_)
          · have h := h.1 hc
            refine jd_aload_n (pc := 94) 4 dX5_readPair_94 rfl rfl ?_
            refine jd_iload_n (pc := 95) 2 dX5_readPair_95 rfl rfl ?_
            refine jd_iload (pc := 96) 1 dX5_readPair_96 rfl ?_
            refine jd_iload (pc := 98) 0 dX5_readPair_98 rfl ?_
            refine jd_callVv (pc := 100) (M2 := mX9_tie) (id := u1) (ci := 8) (T := TX9) (N := 10) (av := [.int v4, .int v6, .int (-1)]) kX9_tie sX9_tie rfl hu1.1 lX5_103 rfl rfl (Nat.le_of_ble_eq_true rfl) dX5_readPair_100 h ?_
            intro I11 J11 h
            refine jd_iconst (pc := 103) (v := 1) dX5_readPair_103 (by decide) ?_
            exact jd_iretK (pc := 104) (ty := .boolean) rfl (by decide) dX5_readPair_104 h
          · have h := h.2 hc
            refine jd_aload_n (pc := 72) 3 dX5_readPair_72 rfl rfl ?_
            refine jd_callVv (pc := 73) (M2 := mX5_advance) (id := t) (ci := 4) (T := TX5) (N := 6) (av := []) kX5_advance sX5_advance rfl ht.1 lX5_22 rfl rfl (Nat.le_of_ble_eq_true rfl) dX5_readPair_73 h ?_
            intro I13 J13 h
            refine jd_aload_n (pc := 76) 3 dX5_readPair_76 rfl rfl ?_
            refine jd_iconst (pc := 77) (v := 0) dX5_readPair_77 (by decide) ?_
            refine jd_bipush (pc := 78) (v := 99) dX5_readPair_78 (by decide) ?_
            refine jd_iconst (pc := 80) (v := 0) dX5_readPair_80 (by decide) ?_
            refine jd_callVi (pc := 81) (M2 := mX5_readNumber) (id := t) (ci := 4) (T := TX5) (N := 6) (av := [.int 0, .int 99, .int 0]) kX5_readNumber sX5_readNumber rfl ht.1 lX5_93 rfl rfl (Nat.le_of_ble_eq_true rfl) dX5_readPair_81 h ?_
            intro v16 I15 J15 h
            refine jd_istore (pc := 84) [(5, .int v16), (4, .int v6), (3, .int v4), (0, .ref (gb G + t)), (1, .ref (gb G + u1)), (2, .int x2)] dX5_readPair_84 (by decide) rfl ?_
            refine jd_iload (pc := 86) 0 dX5_readPair_86 rfl ?_
            refine jd_iconst (pc := 88) (v := (-1)) dX5_readPair_88 (by decide) ?_
            refine jd_icmp_ne (pc := 89) 94 dX5_readPair_89 (by decide) (fun hc => ?_) (fun hc => ?_)
            · have h := h.1 hc
              refine jd_aload_n (pc := 94) 4 dX5_readPair_94 rfl rfl ?_
              refine jd_iload_n (pc := 95) 2 dX5_readPair_95 rfl rfl ?_
              refine jd_iload (pc := 96) 1 dX5_readPair_96 rfl ?_
              refine jd_iload (pc := 98) 0 dX5_readPair_98 rfl ?_
              refine jd_callVv (pc := 100) (M2 := mX9_tie) (id := u1) (ci := 8) (T := TX9) (N := 10) (av := [.int v4, .int v6, .int v16]) kX9_tie sX9_tie rfl hu1.1 lX5_103 rfl rfl (Nat.le_of_ble_eq_true rfl) dX5_readPair_100 h ?_
              intro I17 J17 h
              refine jd_iconst (pc := 103) (v := 1) dX5_readPair_103 (by decide) ?_
              exact jd_iretK (pc := 104) (ty := .boolean) rfl (by decide) dX5_readPair_104 h
            · have h := h.2 hc
              refine jd_iconst (pc := 92) (v := 0) dX5_readPair_92 (by decide) ?_
              exact jd_iretK (pc := 93) (ty := .boolean) rfl (by decide) dX5_readPair_93 h
      · have h := h.2 hc
        refine jd_iconst (pc := 52) (v := 0) dX5_readPair_52 (by decide) ?_
        refine jd_goto (pc := 53) 57 dX5_readPair_53 (by decide) ?_
        refine jd_istore (pc := 57) [(5, .int 0), (4, .int v6), (3, .int v4), (0, .ref (gb G + t)), (1, .ref (gb G + u1)), (2, .int x2)] dX5_readPair_57 (by decide) rfl ?_
        refine jd_iload_n (pc := 59) 5 dX5_readPair_59 rfl rfl ?_
        refine jd_if_eq (pc := 60) 94 dX5_readPair_60 (by decide) (fun hc => ?_) (fun hc => ?_)
        · have h := h.1 hc
          refine jd_aload_n (pc := 94) 4 dX5_readPair_94 rfl rfl ?_
          refine jd_iload_n (pc := 95) 2 dX5_readPair_95 rfl rfl ?_
          refine jd_iload (pc := 96) 1 dX5_readPair_96 rfl ?_
          refine jd_iload (pc := 98) 0 dX5_readPair_98 rfl ?_
          refine jd_callVv (pc := 100) (M2 := mX9_tie) (id := u1) (ci := 8) (T := TX9) (N := 10) (av := [.int v4, .int v6, .int 0]) kX9_tie sX9_tie rfl hu1.1 lX5_103 rfl rfl (Nat.le_of_ble_eq_true rfl) dX5_readPair_100 h ?_
          intro I19 J19 h
          refine jd_iconst (pc := 103) (v := 1) dX5_readPair_103 (by decide) ?_
          exact jd_iretK (pc := 104) (ty := .boolean) rfl (by decide) dX5_readPair_104 h
        · have h := h.2 hc
          refine jd_aload_n (pc := 63) 3 dX5_readPair_63 rfl rfl ?_
          refine jd_ldcS (pc := 64) (tx := "since") (fun U hU => (gOK_str hG U hU).2.2.1) dX5_readPair_64 ?_
          refine jd_callVi (pc := 66) (M2 := mX5_isWord) (id := t) (ci := 4) (T := TX5) (N := 6) (av := [.ref (sA 2)]) kX5_isWord sX5_isWord rfl ht.1 lX5_58 rfl rfl (Nat.le_of_ble_eq_true rfl) dX5_readPair_66 h ?_
          intro v22 I21 J21 h
          refine jd_if_eq (pc := 69) 94 dX5_readPair_69 (by decide) (fun hc => ?_) (fun hc => ?_)
          · have h := h.1 hc
            refine jd_aload_n (pc := 94) 4 dX5_readPair_94 rfl rfl ?_
            refine jd_iload_n (pc := 95) 2 dX5_readPair_95 rfl rfl ?_
            refine jd_iload (pc := 96) 1 dX5_readPair_96 rfl ?_
            refine jd_iload (pc := 98) 0 dX5_readPair_98 rfl ?_
            refine jd_callVv (pc := 100) (M2 := mX9_tie) (id := u1) (ci := 8) (T := TX9) (N := 10) (av := [.int v4, .int v6, .int 0]) kX9_tie sX9_tie rfl hu1.1 lX5_103 rfl rfl (Nat.le_of_ble_eq_true rfl) dX5_readPair_100 h ?_
            intro I23 J23 h
            refine jd_iconst (pc := 103) (v := 1) dX5_readPair_103 (by decide) ?_
            exact jd_iretK (pc := 104) (ty := .boolean) rfl (by decide) dX5_readPair_104 h
          · have h := h.2 hc
            refine jd_aload_n (pc := 72) 3 dX5_readPair_72 rfl rfl ?_
            refine jd_callVv (pc := 73) (M2 := mX5_advance) (id := t) (ci := 4) (T := TX5) (N := 6) (av := []) kX5_advance sX5_advance rfl ht.1 lX5_22 rfl rfl (Nat.le_of_ble_eq_true rfl) dX5_readPair_73 h ?_
            intro I25 J25 h
            refine jd_aload_n (pc := 76) 3 dX5_readPair_76 rfl rfl ?_
            refine jd_iconst (pc := 77) (v := 0) dX5_readPair_77 (by decide) ?_
            refine jd_bipush (pc := 78) (v := 99) dX5_readPair_78 (by decide) ?_
            refine jd_iconst (pc := 80) (v := 0) dX5_readPair_80 (by decide) ?_
            refine jd_callVi (pc := 81) (M2 := mX5_readNumber) (id := t) (ci := 4) (T := TX5) (N := 6) (av := [.int 0, .int 99, .int 0]) kX5_readNumber sX5_readNumber rfl ht.1 lX5_93 rfl rfl (Nat.le_of_ble_eq_true rfl) dX5_readPair_81 h ?_
            intro v28 I27 J27 h
            refine jd_istore (pc := 84) [(5, .int v28), (4, .int v6), (3, .int v4), (0, .ref (gb G + t)), (1, .ref (gb G + u1)), (2, .int x2)] dX5_readPair_84 (by decide) rfl ?_
            refine jd_iload (pc := 86) 0 dX5_readPair_86 rfl ?_
            refine jd_iconst (pc := 88) (v := (-1)) dX5_readPair_88 (by decide) ?_
            refine jd_icmp_ne (pc := 89) 94 dX5_readPair_89 (by decide) (fun hc => ?_) (fun hc => ?_)
            · have h := h.1 hc
              refine jd_aload_n (pc := 94) 4 dX5_readPair_94 rfl rfl ?_
              refine jd_iload_n (pc := 95) 2 dX5_readPair_95 rfl rfl ?_
              refine jd_iload (pc := 96) 1 dX5_readPair_96 rfl ?_
              refine jd_iload (pc := 98) 0 dX5_readPair_98 rfl ?_
              refine jd_callVv (pc := 100) (M2 := mX9_tie) (id := u1) (ci := 8) (T := TX9) (N := 10) (av := [.int v4, .int v6, .int v28]) kX9_tie sX9_tie rfl hu1.1 lX5_103 rfl rfl (Nat.le_of_ble_eq_true rfl) dX5_readPair_100 h ?_
              intro I29 J29 h
              refine jd_iconst (pc := 103) (v := 1) dX5_readPair_103 (by decide) ?_
              exact jd_iretK (pc := 104) (ty := .boolean) rfl (by decide) dX5_readPair_104 h
            · have h := h.2 hc
              refine jd_iconst (pc := 92) (v := 0) dX5_readPair_92 (by decide) ?_
              exact jd_iretK (pc := 93) (ty := .boolean) rfl (by decide) dX5_readPair_93 h
    · have h := h.2 hc
      refine jd_iconst (pc := 46) (v := 0) dX5_readPair_46 (by decide) ?_
      exact jd_iretK (pc := 47) (ty := .boolean) rfl (by decide) dX5_readPair_47 h
  · have h := h.2 hc
    refine jd_iconst (pc := 22) (v := 0) dX5_readPair_22 (by decide) ?_
    exact jd_iretK (pc := 23) (ty := .boolean) rfl (by decide) dX5_readPair_23 h
theorem eX5_readPair {G : jdG} {n : Nat} {Z : jdL} {I : jdI} {J : jdJ} {K : Int32 → jdI → jdJ → Prop} {sA : Nat → Nat} {sV : Nat → Nat} {t : Nat} {u1 : Nat} {x2 : Int32} (hG : gOK G sA sV) (ht : zScribe Z t) (hu1 : zTown Z u1) (h : Cl G mX5_advance n 0 0 [.ref (gb G + t)] Z I J (qv Z (fun I1 J1 => Cl G mX5_readNumber n 0 0 [.ref (gb G + t), .int 0, .int ((I1 u1 3) - 1), .int 0] Z I1 J1 (qi Z (fun v4 I3 J3 => ((¬ v4 = (-1) → Cl G mX5_readNumber n 0 0 [.ref (gb G + t), .int 0, .int ((I3 u1 3) - 1), .int (1 <<< (v4 &&& 31))] Z I3 J3 (qi Z (fun v6 I5 J5 => ((¬ v6 = (-1) → ((x2 = 0 → ((x2 = 0 → Cl G mX9_tie n 0 0 [.ref (gb G + u1), .int v4, .int v6, .int (-1)] Z I5 J5 (qv Z (fun I7 J7 => K 1 I7 J7))) ∧ (¬ x2 = 0 → Cl G mX5_isWord n 0 0 [.ref (gb G + t), .ref (sA 2)] Z I5 J5 (qi Z (fun v10 I9 J9 => ((v10 = 0 → Cl G mX9_tie n 0 0 [.ref (gb G + u1), .int v4, .int v6, .int (-1)] Z I9 J9 (qv Z (fun I11 J11 => K 1 I11 J11))) ∧ (¬ v10 = 0 → Cl G mX5_advance n 0 0 [.ref (gb G + t)] Z I9 J9 (qv Z (fun I13 J13 => Cl G mX5_readNumber n 0 0 [.ref (gb G + t), .int 0, .int 99, .int 0] Z I13 J13 (qi Z (fun v16 I15 J15 => ((¬ v16 = (-1) → Cl G mX9_tie n 0 0 [.ref (gb G + u1), .int v4, .int v6, .int v16] Z I15 J15 (qv Z (fun I17 J17 => K 1 I17 J17))) ∧ (v16 = (-1) → K 0 I15 J15))))))))))))) ∧ (¬ x2 = 0 → ((x2 = 0 → Cl G mX9_tie n 0 0 [.ref (gb G + u1), .int v4, .int v6, .int 0] Z I5 J5 (qv Z (fun I19 J19 => K 1 I19 J19))) ∧ (¬ x2 = 0 → Cl G mX5_isWord n 0 0 [.ref (gb G + t), .ref (sA 2)] Z I5 J5 (qi Z (fun v22 I21 J21 => ((v22 = 0 → Cl G mX9_tie n 0 0 [.ref (gb G + u1), .int v4, .int v6, .int 0] Z I21 J21 (qv Z (fun I23 J23 => K 1 I23 J23))) ∧ (¬ v22 = 0 → Cl G mX5_advance n 0 0 [.ref (gb G + t)] Z I21 J21 (qv Z (fun I25 J25 => Cl G mX5_readNumber n 0 0 [.ref (gb G + t), .int 0, .int 99, .int 0] Z I25 J25 (qi Z (fun v28 I27 J27 => ((¬ v28 = (-1) → Cl G mX9_tie n 0 0 [.ref (gb G + u1), .int v4, .int v6, .int v28] Z I27 J27 (qv Z (fun I29 J29 => K 1 I29 J29))) ∧ (v28 = (-1) → K 0 I27 J27))))))))))))))) ∧ (v6 = (-1) → K 0 I5 J5))))) ∧ (v4 = (-1) → K 0 I3 J3))))))) : Cl G mX5_readPair (n + 1) 0 0 [.ref (gb G + t), .ref (gb G + u1), .int x2] Z I J (qi Z K) :=
  Cl.of (by decide +kernel) (Nat.le_of_ble_eq_true rfl) (rX5_readPair_0 hG ht hu1 h)
set_option maxRecDepth 4000 in
theorem rX5_readSeats_0 {G : jdG} {n rc rs : Nat} {Z : jdL} {I : jdI} {J : jdJ} {K : Int32 → jdI → jdJ → Prop} {t : Nat} {u1 : Nat} (ht : zScribe Z t) (hu1 : zTown Z u1) (h : Cl G mX5_advance n 0 0 [.ref (gb G + t)] Z I J (qv Z (fun I1 J1 => Cl G mX5_readNumber n 0 0 [.ref (gb G + t), .int 2, .int 4, .int 0] Z I1 J1 (qi Z (fun v4 I3 J3 => ((¬ v4 = (-1) → K 1 (uI I3 u1 4 v4) J3) ∧ (v4 = (-1) → K 0 I3 J3))))))) : Jd G mX5_readSeats (jdFm G (qi Z K)) (n + 1) rc rs 0 [(0, .ref (gb G + t)), (1, .ref (gb G + u1))] [] Z I J := by
  refine jd_aload_n (pc := 0) 0 dX5_readSeats_0 rfl rfl ?_
  refine jd_callVv (pc := 1) (M2 := mX5_advance) (id := t) (ci := 4) (T := TX5) (N := 6) (av := []) kX5_advance sX5_advance rfl ht.1 lX5_22 rfl rfl (Nat.le_of_ble_eq_true rfl) dX5_readSeats_1 h ?_
  intro I1 J1 h
  refine jd_aload_n (pc := 4) 0 dX5_readSeats_4 rfl rfl ?_
  refine jd_iconst (pc := 5) (v := 2) dX5_readSeats_5 (by decide) ?_
  refine jd_iconst (pc := 6) (v := 4) dX5_readSeats_6 (by decide) ?_
  refine jd_iconst (pc := 7) (v := 0) dX5_readSeats_7 (by decide) ?_
  refine jd_callVi (pc := 8) (M2 := mX5_readNumber) (id := t) (ci := 4) (T := TX5) (N := 6) (av := [.int 2, .int 4, .int 0]) kX5_readNumber sX5_readNumber rfl ht.1 lX5_93 rfl rfl (Nat.le_of_ble_eq_true rfl) dX5_readSeats_8 h ?_
  intro v4 I3 J3 h
  refine jd_istore_n (pc := 11) [(2, .int v4), (0, .ref (gb G + t)), (1, .ref (gb G + u1))] dX5_readSeats_11 rfl (by decide) rfl ?_
  refine jd_iload_n (pc := 12) 0 dX5_readSeats_12 rfl rfl ?_
  refine jd_iconst (pc := 13) (v := (-1)) dX5_readSeats_13 (by decide) ?_
  refine jd_icmp_ne (pc := 14) 19 dX5_readSeats_14 (by decide) (fun hc => ?_) (fun hc => ?_)
  · have h := h.1 hc
    refine jd_aload_n (pc := 19) 2 dX5_readSeats_19 rfl rfl ?_
    refine jd_iload_n (pc := 20) 0 dX5_readSeats_20 rfl rfl ?_
    refine jd_putI (pc := 21) (ci := 8) (k := 4) pX5_107 hu1.1 rfl rfl rfl dX5_readSeats_21 ?_
    refine jd_iconst (pc := 24) (v := 1) dX5_readSeats_24 (by decide) ?_
    exact jd_iretK (pc := 25) (ty := .boolean) rfl (by decide) dX5_readSeats_25 h
  · have h := h.2 hc
    refine jd_iconst (pc := 17) (v := 0) dX5_readSeats_17 (by decide) ?_
    exact jd_iretK (pc := 18) (ty := .boolean) rfl (by decide) dX5_readSeats_18 h
theorem eX5_readSeats {G : jdG} {n : Nat} {Z : jdL} {I : jdI} {J : jdJ} {K : Int32 → jdI → jdJ → Prop} {t : Nat} {u1 : Nat} (ht : zScribe Z t) (hu1 : zTown Z u1) (h : Cl G mX5_advance n 0 0 [.ref (gb G + t)] Z I J (qv Z (fun I1 J1 => Cl G mX5_readNumber n 0 0 [.ref (gb G + t), .int 2, .int 4, .int 0] Z I1 J1 (qi Z (fun v4 I3 J3 => ((¬ v4 = (-1) → K 1 (uI I3 u1 4 v4) J3) ∧ (v4 = (-1) → K 0 I3 J3))))))) : Cl G mX5_readSeats (n + 1) 0 0 [.ref (gb G + t), .ref (gb G + u1)] Z I J (qi Z K) :=
  Cl.of (by decide +kernel) (Nat.le_of_ble_eq_true rfl) (rX5_readSeats_0 ht hu1 h)
set_option maxRecDepth 4000 in
theorem rX5_readMemory_0 {G : jdG} {n rc rs : Nat} {Z : jdL} {I : jdI} {J : jdJ} {K : Int32 → jdI → jdJ → Prop} {t : Nat} {u1 : Nat} (ht : zScribe Z t) (hu1 : zTown Z u1) (h : Cl G mX5_advance n 0 0 [.ref (gb G + t)] Z I J (qv Z (fun I1 J1 => Cl G mX5_readNumber n 0 0 [.ref (gb G + t), .int 0, .int 99, .int 0] Z I1 J1 (qi Z (fun v4 I3 J3 => ((¬ v4 = (-1) → K 1 (uI I3 u1 5 v4) J3) ∧ (v4 = (-1) → K 0 I3 J3))))))) : Jd G mX5_readMemory (jdFm G (qi Z K)) (n + 1) rc rs 0 [(0, .ref (gb G + t)), (1, .ref (gb G + u1))] [] Z I J := by
  refine jd_aload_n (pc := 0) 0 dX5_readMemory_0 rfl rfl ?_
  refine jd_callVv (pc := 1) (M2 := mX5_advance) (id := t) (ci := 4) (T := TX5) (N := 6) (av := []) kX5_advance sX5_advance rfl ht.1 lX5_22 rfl rfl (Nat.le_of_ble_eq_true rfl) dX5_readMemory_1 h ?_
  intro I1 J1 h
  refine jd_aload_n (pc := 4) 0 dX5_readMemory_4 rfl rfl ?_
  refine jd_iconst (pc := 5) (v := 0) dX5_readMemory_5 (by decide) ?_
  refine jd_bipush (pc := 6) (v := 99) dX5_readMemory_6 (by decide) ?_
  refine jd_iconst (pc := 8) (v := 0) dX5_readMemory_8 (by decide) ?_
  refine jd_callVi (pc := 9) (M2 := mX5_readNumber) (id := t) (ci := 4) (T := TX5) (N := 6) (av := [.int 0, .int 99, .int 0]) kX5_readNumber sX5_readNumber rfl ht.1 lX5_93 rfl rfl (Nat.le_of_ble_eq_true rfl) dX5_readMemory_9 h ?_
  intro v4 I3 J3 h
  refine jd_istore_n (pc := 12) [(2, .int v4), (0, .ref (gb G + t)), (1, .ref (gb G + u1))] dX5_readMemory_12 rfl (by decide) rfl ?_
  refine jd_iload_n (pc := 13) 0 dX5_readMemory_13 rfl rfl ?_
  refine jd_iconst (pc := 14) (v := (-1)) dX5_readMemory_14 (by decide) ?_
  refine jd_icmp_ne (pc := 15) 20 dX5_readMemory_15 (by decide) (fun hc => ?_) (fun hc => ?_)
  · have h := h.1 hc
    refine jd_aload_n (pc := 20) 2 dX5_readMemory_20 rfl rfl ?_
    refine jd_iload_n (pc := 21) 0 dX5_readMemory_21 rfl rfl ?_
    refine jd_putI (pc := 22) (ci := 8) (k := 5) pX5_109 hu1.1 rfl rfl rfl dX5_readMemory_22 ?_
    refine jd_iconst (pc := 25) (v := 1) dX5_readMemory_25 (by decide) ?_
    exact jd_iretK (pc := 26) (ty := .boolean) rfl (by decide) dX5_readMemory_26 h
  · have h := h.2 hc
    refine jd_iconst (pc := 18) (v := 0) dX5_readMemory_18 (by decide) ?_
    exact jd_iretK (pc := 19) (ty := .boolean) rfl (by decide) dX5_readMemory_19 h
theorem eX5_readMemory {G : jdG} {n : Nat} {Z : jdL} {I : jdI} {J : jdJ} {K : Int32 → jdI → jdJ → Prop} {t : Nat} {u1 : Nat} (ht : zScribe Z t) (hu1 : zTown Z u1) (h : Cl G mX5_advance n 0 0 [.ref (gb G + t)] Z I J (qv Z (fun I1 J1 => Cl G mX5_readNumber n 0 0 [.ref (gb G + t), .int 0, .int 99, .int 0] Z I1 J1 (qi Z (fun v4 I3 J3 => ((¬ v4 = (-1) → K 1 (uI I3 u1 5 v4) J3) ∧ (v4 = (-1) → K 0 I3 J3))))))) : Cl G mX5_readMemory (n + 1) 0 0 [.ref (gb G + t), .ref (gb G + u1)] Z I J (qi Z K) :=
  Cl.of (by decide +kernel) (Nat.le_of_ble_eq_true rfl) (rX5_readMemory_0 ht hu1 h)
set_option maxRecDepth 4000 in
theorem rX5_readMet_0 {G : jdG} {n rc rs : Nat} {Z : jdL} {I : jdI} {J : jdJ} {K : Int32 → jdI → jdJ → Prop} {t : Nat} {u1 : Nat} (ht : zScribe Z t) (hu1 : zTown Z u1) (h : Cl G mX5_advance n 0 0 [.ref (gb G + t)] Z I J (qv Z (fun I1 J1 => Jd G mX5_readMet (jdFm G (qi Z K)) (n + 1) rc rs 8 [(0, .ref (gb G + t)), (1, .ref (gb G + u1)), (2, .int 0), (3, .int 0)] [] Z I1 J1))) : Jd G mX5_readMet (jdFm G (qi Z K)) (n + 1) rc rs 0 [(0, .ref (gb G + t)), (1, .ref (gb G + u1))] [] Z I J := by
  refine jd_aload_n (pc := 0) 0 dX5_readMet_0 rfl rfl ?_
  refine jd_callVv (pc := 1) (M2 := mX5_advance) (id := t) (ci := 4) (T := TX5) (N := 6) (av := []) kX5_advance sX5_advance rfl ht.1 lX5_22 rfl rfl (Nat.le_of_ble_eq_true rfl) dX5_readMet_1 h ?_
  intro I1 J1 h
  refine jd_iconst (pc := 4) (v := 0) dX5_readMet_4 (by decide) ?_
  refine jd_istore_n (pc := 5) [(2, .int 0), (0, .ref (gb G + t)), (1, .ref (gb G + u1))] dX5_readMet_5 rfl (by decide) rfl ?_
  refine jd_iconst (pc := 6) (v := 0) dX5_readMet_6 (by decide) ?_
  refine jd_istore_n (pc := 7) [(3, .int 0), (2, .int 0), (0, .ref (gb G + t)), (1, .ref (gb G + u1))] dX5_readMet_7 rfl (by decide) rfl ?_
  exact jd_lv (lv2 := [(0, .ref (gb G + t)), (1, .ref (gb G + u1)), (2, .int 0), (3, .int 0)]) [2, 3, 1, 0] rfl h
set_option maxRecDepth 4000 in
theorem rX5_readMet_8 {G : jdG} {n rc rs : Nat} {Z : jdL} {I : jdI} {J : jdJ} {K : Int32 → jdI → jdJ → Prop} {u1 : Nat} {t : Nat} {x2 : Int32} {x3 : Int32} (ht : zScribe Z t) (hu1 : zTown Z u1) (h : ((7 < x3 → Cl G mX9_acquaint n 0 0 [.ref (gb G + u1), .int x2] Z I J (qi Z (fun v2 I1 J1 => K 1 I1 J1))) ∧ (¬ 7 < x3 → ((x3 = 0 → Cl G mX5_readNumber n 0 0 [.ref (gb G + t), .int 0, .int ((I u1 3) - 1), .int x2] Z I J (qi Z (fun v4 I3 J3 => ((¬ v4 = (-1) → Jd G mX5_readMet (jdFm G (qi Z K)) (n + 1) rc rs 8 [(0, .ref (gb G + t)), (1, .ref (gb G + u1)), (2, .int (x2 ||| (1 <<< (v4 &&& 31)))), (3, .int (x3 + 1))] [] Z I3 J3) ∧ (v4 = (-1) → K 0 I3 J3))))) ∧ (¬ x3 = 0 → ((¬ (I t 2) = 2 → Cl G mX9_acquaint n 0 0 [.ref (gb G + u1), .int x2] Z I J (qi Z (fun v6 I5 J5 => K 1 I5 J5))) ∧ ((I t 2) = 2 → Cl G mX5_readNumber n 0 0 [.ref (gb G + t), .int 0, .int ((I u1 3) - 1), .int x2] Z I J (qi Z (fun v8 I7 J7 => ((¬ v8 = (-1) → Jd G mX5_readMet (jdFm G (qi Z K)) (n + 1) rc rs 8 [(0, .ref (gb G + t)), (1, .ref (gb G + u1)), (2, .int (x2 ||| (1 <<< (v8 &&& 31)))), (3, .int (x3 + 1))] [] Z I7 J7) ∧ (v8 = (-1) → K 0 I7 J7))))))))))) : Jd G mX5_readMet (jdFm G (qi Z K)) (n + 1) rc rs 8 [(0, .ref (gb G + t)), (1, .ref (gb G + u1)), (2, .int x2), (3, .int x3)] [] Z I J := by
  refine jd_iload_n (pc := 8) 3 dX5_readMet_8 rfl rfl ?_
  refine jd_bipush (pc := 9) (v := 7) dX5_readMet_9 (by decide) ?_
  refine jd_icmp_gt (pc := 11) 61 dX5_readMet_11 (by decide) (fun hc => ?_) (fun hc => ?_)
  · have h := h.1 hc
    refine jd_aload_n (pc := 61) 1 dX5_readMet_61 rfl rfl ?_
    refine jd_iload_n (pc := 62) 2 dX5_readMet_62 rfl rfl ?_
    refine jd_callVi (pc := 63) (M2 := mX9_acquaint) (id := u1) (ci := 8) (T := TX9) (N := 10) (av := [.int x2]) kX9_acquaint sX9_acquaint rfl hu1.1 lX5_111 rfl rfl (Nat.le_of_ble_eq_true rfl) dX5_readMet_63 h ?_
    intro v2 I1 J1 h
    refine jd_pop (pc := 66) dX5_readMet_66 rfl ?_
    refine jd_iconst (pc := 67) (v := 1) dX5_readMet_67 (by decide) ?_
    exact jd_iretK (pc := 68) (ty := .boolean) rfl (by decide) dX5_readMet_68 h
  · have h := h.2 hc
    refine jd_iload_n (pc := 14) 3 dX5_readMet_14 rfl rfl ?_
    refine jd_if_eq (pc := 15) 26 dX5_readMet_15 (by decide) (fun hc => ?_) (fun hc => ?_)
    · have h := h.1 hc
      refine jd_aload_n (pc := 26) 0 dX5_readMet_26 rfl rfl ?_
      refine jd_iconst (pc := 27) (v := 0) dX5_readMet_27 (by decide) ?_
      refine jd_aload_n (pc := 28) 1 dX5_readMet_28 rfl rfl ?_
      refine jd_getI (pc := 29) (ci := 8) (k := 3) gX5_88 hu1.1 rfl dX5_readMet_29 ?_
      refine jd_iconst (pc := 32) (v := 1) dX5_readMet_32 (by decide) ?_
      refine jd_isub (pc := 33) dX5_readMet_33 ?_
      refine jd_iload_n (pc := 34) 2 dX5_readMet_34 rfl rfl ?_
      refine jd_callVi (pc := 35) (M2 := mX5_readNumber) (id := t) (ci := 4) (T := TX5) (N := 6) (av := [.int 0, .int ((I u1 3) - 1), .int x2]) kX5_readNumber sX5_readNumber rfl ht.1 lX5_93 rfl rfl (Nat.le_of_ble_eq_true rfl) dX5_readMet_35 h ?_
      intro v4 I3 J3 h
      refine jd_istore (pc := 38) [(4, .int v4), (0, .ref (gb G + t)), (1, .ref (gb G + u1)), (2, .int x2), (3, .int x3)] dX5_readMet_38 (by decide) rfl ?_
      refine jd_iload (pc := 40) 0 dX5_readMet_40 rfl ?_
      refine jd_iconst (pc := 42) (v := (-1)) dX5_readMet_42 (by decide) ?_
      refine jd_icmp_ne (pc := 43) 48 dX5_readMet_43 (by decide) (fun hc => ?_) (fun hc => ?_)
      · have h := h.1 hc
        refine jd_iload_n (pc := 48) 3 dX5_readMet_48 rfl rfl ?_
        refine jd_iconst (pc := 49) (v := 1) dX5_readMet_49 (by decide) ?_
        refine jd_iload (pc := 50) 0 dX5_readMet_50 rfl ?_
        refine jd_ishl (pc := 52) dX5_readMet_52 ?_
        refine jd_ior (pc := 53) dX5_readMet_53 ?_
        refine jd_istore_n (pc := 54) [(2, .int (x2 ||| (1 <<< (v4 &&& 31)))), (4, .int v4), (0, .ref (gb G + t)), (1, .ref (gb G + u1)), (3, .int x3)] dX5_readMet_54 rfl (by decide) rfl ?_
        refine jd_iinc (pc := 55) (v := (x3 + 1)) 4 [(3, .int (x3 + 1)), (2, .int (x2 ||| (1 <<< (v4 &&& 31)))), (4, .int v4), (0, .ref (gb G + t)), (1, .ref (gb G + u1))] dX5_readMet_55 rfl rfl (by decide) rfl ?_
        refine jd_goto (pc := 58) 8 dX5_readMet_58 (by decide) ?_
        exact jd_lv (lv2 := [(0, .ref (gb G + t)), (1, .ref (gb G + u1)), (2, .int (x2 ||| (1 <<< (v4 &&& 31)))), (3, .int (x3 + 1))]) [3, 4, 1, 0] rfl h
      · have h := h.2 hc
        refine jd_iconst (pc := 46) (v := 0) dX5_readMet_46 (by decide) ?_
        exact jd_iretK (pc := 47) (ty := .boolean) rfl (by decide) dX5_readMet_47 h
    · have h := h.2 hc
      refine jd_aload_n (pc := 18) 0 dX5_readMet_18 rfl rfl ?_
      refine jd_getI (pc := 19) (ci := 4) (k := 2) gX5_29 ht.1 rfl dX5_readMet_19 ?_
      refine jd_iconst (pc := 22) (v := 2) dX5_readMet_22 (by decide) ?_
      refine jd_icmp_ne (pc := 23) 61 dX5_readMet_23 (by decide) (fun hc => ?_) (fun hc => ?_)
      · have h := h.1 hc
        refine jd_aload_n (pc := 61) 1 dX5_readMet_61 rfl rfl ?_
        refine jd_iload_n (pc := 62) 2 dX5_readMet_62 rfl rfl ?_
        refine jd_callVi (pc := 63) (M2 := mX9_acquaint) (id := u1) (ci := 8) (T := TX9) (N := 10) (av := [.int x2]) kX9_acquaint sX9_acquaint rfl hu1.1 lX5_111 rfl rfl (Nat.le_of_ble_eq_true rfl) dX5_readMet_63 h ?_
        intro v6 I5 J5 h
        refine jd_pop (pc := 66) dX5_readMet_66 rfl ?_
        refine jd_iconst (pc := 67) (v := 1) dX5_readMet_67 (by decide) ?_
        exact jd_iretK (pc := 68) (ty := .boolean) rfl (by decide) dX5_readMet_68 h
      · have h := h.2 hc
        refine jd_aload_n (pc := 26) 0 dX5_readMet_26 rfl rfl ?_
        refine jd_iconst (pc := 27) (v := 0) dX5_readMet_27 (by decide) ?_
        refine jd_aload_n (pc := 28) 1 dX5_readMet_28 rfl rfl ?_
        refine jd_getI (pc := 29) (ci := 8) (k := 3) gX5_88 hu1.1 rfl dX5_readMet_29 ?_
        refine jd_iconst (pc := 32) (v := 1) dX5_readMet_32 (by decide) ?_
        refine jd_isub (pc := 33) dX5_readMet_33 ?_
        refine jd_iload_n (pc := 34) 2 dX5_readMet_34 rfl rfl ?_
        refine jd_callVi (pc := 35) (M2 := mX5_readNumber) (id := t) (ci := 4) (T := TX5) (N := 6) (av := [.int 0, .int ((I u1 3) - 1), .int x2]) kX5_readNumber sX5_readNumber rfl ht.1 lX5_93 rfl rfl (Nat.le_of_ble_eq_true rfl) dX5_readMet_35 h ?_
        intro v8 I7 J7 h
        refine jd_istore (pc := 38) [(4, .int v8), (0, .ref (gb G + t)), (1, .ref (gb G + u1)), (2, .int x2), (3, .int x3)] dX5_readMet_38 (by decide) rfl ?_
        refine jd_iload (pc := 40) 0 dX5_readMet_40 rfl ?_
        refine jd_iconst (pc := 42) (v := (-1)) dX5_readMet_42 (by decide) ?_
        refine jd_icmp_ne (pc := 43) 48 dX5_readMet_43 (by decide) (fun hc => ?_) (fun hc => ?_)
        · have h := h.1 hc
          refine jd_iload_n (pc := 48) 3 dX5_readMet_48 rfl rfl ?_
          refine jd_iconst (pc := 49) (v := 1) dX5_readMet_49 (by decide) ?_
          refine jd_iload (pc := 50) 0 dX5_readMet_50 rfl ?_
          refine jd_ishl (pc := 52) dX5_readMet_52 ?_
          refine jd_ior (pc := 53) dX5_readMet_53 ?_
          refine jd_istore_n (pc := 54) [(2, .int (x2 ||| (1 <<< (v8 &&& 31)))), (4, .int v8), (0, .ref (gb G + t)), (1, .ref (gb G + u1)), (3, .int x3)] dX5_readMet_54 rfl (by decide) rfl ?_
          refine jd_iinc (pc := 55) (v := (x3 + 1)) 4 [(3, .int (x3 + 1)), (2, .int (x2 ||| (1 <<< (v8 &&& 31)))), (4, .int v8), (0, .ref (gb G + t)), (1, .ref (gb G + u1))] dX5_readMet_55 rfl rfl (by decide) rfl ?_
          refine jd_goto (pc := 58) 8 dX5_readMet_58 (by decide) ?_
          exact jd_lv (lv2 := [(0, .ref (gb G + t)), (1, .ref (gb G + u1)), (2, .int (x2 ||| (1 <<< (v8 &&& 31)))), (3, .int (x3 + 1))]) [3, 4, 1, 0] rfl h
        · have h := h.2 hc
          refine jd_iconst (pc := 46) (v := 0) dX5_readMet_46 (by decide) ?_
          exact jd_iretK (pc := 47) (ty := .boolean) rfl (by decide) dX5_readMet_47 h
theorem eX5_readMet {G : jdG} {n : Nat} {Z : jdL} {I : jdI} {J : jdJ} {K : Int32 → jdI → jdJ → Prop} {t : Nat} {u1 : Nat} (ht : zScribe Z t) (hu1 : zTown Z u1) (h : Cl G mX5_advance n 0 0 [.ref (gb G + t)] Z I J (qv Z (fun I1 J1 => Jd G mX5_readMet (jdFm G (qi Z K)) (n + 1) 0 0 8 [(0, .ref (gb G + t)), (1, .ref (gb G + u1)), (2, .int 0), (3, .int 0)] [] Z I1 J1))) : Cl G mX5_readMet (n + 1) 0 0 [.ref (gb G + t), .ref (gb G + u1)] Z I J (qi Z K) :=
  Cl.of (by decide +kernel) (Nat.le_of_ble_eq_true rfl) (rX5_readMet_0 ht hu1 h)
