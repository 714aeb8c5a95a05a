set_option maxRecDepth 4000 in
theorem rX3_pass_0 {G : jdG} {n rc rs : Nat} {Z : jdL} {I : jdI} {J : jdJ} {K : jdI → jdJ → Prop} {t : Nat} {u1 : Nat} {u2 : Nat} {u3 : Nat} (ht : zDay Z t) (hu1 : zTown Z u1) (hu2 : zTies Z u2) (h : Jd G mX3_pass (jdFm G (qv Z K)) (n + 1) rc rs 19 [(0, .ref (gb G + t)), (1, .ref (gb G + u1)), (2, .ref (gb G + u2)), (3, .ref (gb G + u3)), (4, .int ((uI (uI I t 4 0) t 5 0) u1 3)), (5, .int 0)] [] Z (uI (uI I t 4 0) t 5 0) J) : Jd G mX3_pass (jdFm G (qv Z K)) (n + 1) rc rs 0 [(0, .ref (gb G + t)), (1, .ref (gb G + u1)), (2, .ref (gb G + u2)), (3, .ref (gb G + u3))] [] Z I J := by
  refine jd_aload_n (pc := 0) 0 dX3_pass_0 rfl rfl ?_
  refine jd_iconst (pc := 1) (v := 0) dX3_pass_1 (by decide) ?_
  refine jd_putI (pc := 2) (ci := 2) (k := 4) pX3_26 ht.1 rfl rfl rfl dX3_pass_2 ?_
  refine jd_aload_n (pc := 5) 0 dX3_pass_5 rfl rfl ?_
  refine jd_iconst (pc := 6) (v := 0) dX3_pass_6 (by decide) ?_
  refine jd_putI (pc := 7) (ci := 2) (k := 5) pX3_30 ht.1 rfl rfl rfl dX3_pass_7 ?_
  refine jd_aload_n (pc := 10) 1 dX3_pass_10 rfl rfl ?_
  refine jd_getI (pc := 11) (ci := 8) (k := 3) gX3_33 hu1.1 rfl dX3_pass_11 ?_
  refine jd_istore (pc := 14) [(4, .int ((uI (uI I t 4 0) t 5 0) u1 3)), (0, .ref (gb G + t)), (1, .ref (gb G + u1)), (2, .ref (gb G + u2)), (3, .ref (gb G + u3))] dX3_pass_14 (by decide) rfl ?_
  refine jd_iconst (pc := 16) (v := 0) dX3_pass_16 (by decide) ?_
  refine jd_istore (pc := 17) [(5, .int 0), (4, .int ((uI (uI I t 4 0) t 5 0) u1 3)), (0, .ref (gb G + t)), (1, .ref (gb G + u1)), (2, .ref (gb G + u2)), (3, .ref (gb G + u3))] dX3_pass_17 (by decide) rfl ?_
  exact jd_lv (lv2 := [(0, .ref (gb G + t)), (1, .ref (gb G + u1)), (2, .ref (gb G + u2)), (3, .ref (gb G + u3)), (4, .int ((uI (uI I t 4 0) t 5 0) u1 3)), (5, .int 0)]) [2, 3, 4, 5, 1, 0] rfl h
set_option maxRecDepth 4000 in
theorem rX3_pass_19 {G : jdG} {n rc rs : Nat} {Z : jdL} {I : jdI} {J : jdJ} {K : jdI → jdJ → Prop} {u3 : Nat} {u2 : Nat} {u1 : Nat} {t : Nat} {x4 : Int32} {x5 : Int32} (ht : zDay Z t) (hu1 : zTown Z u1) (hu2 : zTies Z u2) (h : ((24 ≤ x5 → K I J) ∧ (¬ 24 ≤ x5 → Jd G mX3_pass (jdFm G (qv Z K)) (n + 1) rc rs 29 [(0, .ref (gb G + t)), (1, .ref (gb G + u1)), (2, .ref (gb G + u2)), (3, .ref (gb G + u3)), (4, .int x4), (5, .int x5), (6, .int 0)] [] Z I J))) : Jd G mX3_pass (jdFm G (qv Z K)) (n + 1) rc rs 19 [(0, .ref (gb G + t)), (1, .ref (gb G + u1)), (2, .ref (gb G + u2)), (3, .ref (gb G + u3)), (4, .int x4), (5, .int x5)] [] Z I J := by
  refine jd_iload (pc := 19) 5 dX3_pass_19 rfl ?_
  refine jd_bipush (pc := 21) (v := 24) dX3_pass_21 (by decide) ?_
  refine jd_icmp_ge (pc := 23) 88 dX3_pass_23 (by decide) (fun hc => ?_) (fun hc => ?_)
  · have h := h.1 hc
    exact jd_vretK (pc := 88) rfl dX3_pass_88 h
  · have h := h.2 hc
    refine jd_iconst (pc := 26) (v := 0) dX3_pass_26 (by decide) ?_
    refine jd_istore (pc := 27) [(6, .int 0), (0, .ref (gb G + t)), (1, .ref (gb G + u1)), (2, .ref (gb G + u2)), (3, .ref (gb G + u3)), (4, .int x4), (5, .int x5)] dX3_pass_27 (by decide) rfl ?_
    exact jd_lv (lv2 := [(0, .ref (gb G + t)), (1, .ref (gb G + u1)), (2, .ref (gb G + u2)), (3, .ref (gb G + u3)), (4, .int x4), (5, .int x5), (6, .int 0)]) [1, 2, 3, 4, 5, 6, 0] rfl h
set_option maxRecDepth 4000 in
theorem rX3_pass_29 {G : jdG} {n rc rs : Nat} {Z : jdL} {I : jdI} {J : jdJ} {K : jdI → jdJ → Prop} {t : Nat} {u1 : Nat} {u2 : Nat} {u3 : Nat} {x4 : Int32} {x5 : Int32} {x6 : Int32} (ht : zDay Z t) (hu1 : zTown Z u1) (hu2 : zTies Z u2) (h : (((I u1 3) ≤ x6 → Jd G mX3_pass (jdFm G (qv Z K)) (n + 1) rc rs 19 [(0, .ref (gb G + t)), (1, .ref (gb G + u1)), (2, .ref (gb G + u2)), (3, .ref (gb G + u3)), (4, .int x4), (5, .int (x5 + 1))] [] Z I J) ∧ (¬ (I u1 3) ≤ x6 → (vp_in x6 7 ∧ ((¬ (I (u1 + 1) (Int32.toNatClampNeg x6)) = x5 → Jd G mX3_pass (jdFm G (qv Z K)) (n + 1) rc rs 29 [(0, .ref (gb G + t)), (1, .ref (gb G + u1)), (2, .ref (gb G + u2)), (3, .ref (gb G + u3)), (4, .int x4), (5, .int x5), (6, .int (x6 + 1))] [] Z I J) ∧ ((I (u1 + 1) (Int32.toNatClampNeg x6)) = x5 → Cl G mX3_sendAll n 0 0 [.ref (gb G + t), .ref (gb G + u2), .ref (gb G + u3), .int x5, .int (x4 + (-1))] Z (uI I t 5 ((I t 5) ||| (1 <<< (x6 &&& 31)))) J (qv Z (fun I2 J2 => Jd G mX3_pass (jdFm G (qv Z K)) (n + 1) rc rs 29 [(0, .ref (gb G + t)), (1, .ref (gb G + u1)), (2, .ref (gb G + u2)), (3, .ref (gb G + u3)), (4, .int (x4 + (-1))), (5, .int x5), (6, .int (x6 + 1))] [] Z I2 J2)))))))) : Jd G mX3_pass (jdFm G (qv Z K)) (n + 1) rc rs 29 [(0, .ref (gb G + t)), (1, .ref (gb G + u1)), (2, .ref (gb G + u2)), (3, .ref (gb G + u3)), (4, .int x4), (5, .int x5), (6, .int x6)] [] Z I J := by
  refine jd_iload (pc := 29) 6 dX3_pass_29 rfl ?_
  refine jd_aload_n (pc := 31) 1 dX3_pass_31 rfl rfl ?_
  refine jd_getI (pc := 32) (ci := 8) (k := 3) gX3_33 hu1.1 rfl dX3_pass_32 ?_
  refine jd_icmp_ge (pc := 35) 82 dX3_pass_35 (by decide) (fun hc => ?_) (fun hc => ?_)
  · have h := h.1 hc
    refine jd_iinc (pc := 82) (v := (x5 + 1)) 5 [(5, .int (x5 + 1)), (0, .ref (gb G + t)), (1, .ref (gb G + u1)), (2, .ref (gb G + u2)), (3, .ref (gb G + u3)), (4, .int x4), (6, .int x6)] dX3_pass_82 rfl rfl (by decide) rfl ?_
    refine jd_goto (pc := 85) 19 dX3_pass_85 (by decide) ?_
    exact jd_lv (lv2 := [(0, .ref (gb G + t)), (1, .ref (gb G + u1)), (2, .ref (gb G + u2)), (3, .ref (gb G + u3)), (4, .int x4), (5, .int (x5 + 1))]) [1, 2, 3, 4, 5, 0] rfl h
  · have h := h.2 hc
    refine jd_aload_n (pc := 38) 1 dX3_pass_38 rfl rfl ?_
    refine jd_getR (pc := 39) (ci := 8) (k := 0) (r := (u1 + 1)) gX3_38 hu1.1 rfl (zTown_p0 hu1) dX3_pass_39 ?_
    refine jd_iload (pc := 42) 6 dX3_pass_42 rfl ?_
    obtain ⟨hv1, h⟩ := h
    refine jd_iald (pc := 44) (len := 7) (zTown_a0 hu1) hv1 dX3_pass_44 ?_
    refine jd_iload (pc := 45) 5 dX3_pass_45 rfl ?_
    refine jd_icmp_ne (pc := 47) 76 dX3_pass_47 (by decide) (fun hc => ?_) (fun hc => ?_)
    · have h := h.1 hc
      refine jd_iinc (pc := 76) (v := (x6 + 1)) 6 [(6, .int (x6 + 1)), (0, .ref (gb G + t)), (1, .ref (gb G + u1)), (2, .ref (gb G + u2)), (3, .ref (gb G + u3)), (4, .int x4), (5, .int x5)] dX3_pass_76 rfl rfl (by decide) rfl ?_
      refine jd_goto (pc := 79) 29 dX3_pass_79 (by decide) ?_
      exact jd_lv (lv2 := [(0, .ref (gb G + t)), (1, .ref (gb G + u1)), (2, .ref (gb G + u2)), (3, .ref (gb G + u3)), (4, .int x4), (5, .int x5), (6, .int (x6 + 1))]) [1, 2, 3, 4, 5, 6, 0] rfl h
    · have h := h.2 hc
      refine jd_aload_n (pc := 50) 0 dX3_pass_50 rfl rfl ?_
      refine jd_dup (pc := 51) dX3_pass_51 rfl ?_
      refine jd_getI (pc := 52) (ci := 2) (k := 5) gX3_30 ht.1 rfl dX3_pass_52 ?_
      refine jd_iconst (pc := 55) (v := 1) dX3_pass_55 (by decide) ?_
      refine jd_iload (pc := 56) 6 dX3_pass_56 rfl ?_
      refine jd_ishl (pc := 58) dX3_pass_58 ?_
      refine jd_ior (pc := 59) dX3_pass_59 ?_
      refine jd_putI (pc := 60) (ci := 2) (k := 5) pX3_30 ht.1 rfl rfl rfl dX3_pass_60 ?_
      refine jd_iinc (pc := 63) (v := (x4 + (-1))) 4 [(4, .int (x4 + (-1))), (0, .ref (gb G + t)), (1, .ref (gb G + u1)), (2, .ref (gb G + u2)), (3, .ref (gb G + u3)), (5, .int x5), (6, .int x6)] dX3_pass_63 rfl rfl (by decide) rfl ?_
      refine jd_aload_n (pc := 66) 1 dX3_pass_66 rfl rfl ?_
      refine jd_aload_n (pc := 67) 3 dX3_pass_67 rfl rfl ?_
      refine jd_aload_n (pc := 68) 4 dX3_pass_68 rfl rfl ?_
      refine jd_iload (pc := 69) 5 dX3_pass_69 rfl ?_
      refine jd_iload (pc := 71) 0 dX3_pass_71 rfl ?_
      refine jd_callVv (pc := 73) (M2 := mX3_sendAll) (id := t) (ci := 2) (T := TX3) (N := 7) (av := [.ref (gb G + u2), .ref (gb G + u3), .int x5, .int (x4 + (-1))]) kX3_sendAll sX3_sendAll rfl ht.1 lX3_41 rfl rfl (Nat.le_of_ble_eq_true rfl) dX3_pass_73 h ?_
      intro I2 J2 h
      refine jd_iinc (pc := 76) (v := (x6 + 1)) 6 [(6, .int (x6 + 1)), (4, .int (x4 + (-1))), (0, .ref (gb G + t)), (1, .ref (gb G + u1)), (2, .ref (gb G + u2)), (3, .ref (gb G + u3)), (5, .int x5)] dX3_pass_76 rfl rfl (by decide) rfl ?_
      refine jd_goto (pc := 79) 29 dX3_pass_79 (by decide) ?_
      exact jd_lv (lv2 := [(0, .ref (gb G + t)), (1, .ref (gb G + u1)), (2, .ref (gb G + u2)), (3, .ref (gb G + u3)), (4, .int (x4 + (-1))), (5, .int x5), (6, .int (x6 + 1))]) [2, 3, 4, 5, 1, 6, 0] rfl h
theorem eX3_pass {G : jdG} {n : Nat} {Z : jdL} {I : jdI} {J : jdJ} {K : jdI → jdJ → Prop} {t : Nat} {u1 : Nat} {u2 : Nat} {u3 : Nat} (ht : zDay Z t) (hu1 : zTown Z u1) (hu2 : zTies Z u2) (h : Jd G mX3_pass (jdFm G (qv Z K)) (n + 1) 0 0 19 [(0, .ref (gb G + t)), (1, .ref (gb G + u1)), (2, .ref (gb G + u2)), (3, .ref (gb G + u3)), (4, .int ((uI (uI I t 4 0) t 5 0) u1 3)), (5, .int 0)] [] Z (uI (uI I t 4 0) t 5 0) J) : Cl G mX3_pass (n + 1) 0 0 [.ref (gb G + t), .ref (gb G + u1), .ref (gb G + u2), .ref (gb G + u3)] Z I J (qv Z K) :=
  Cl.of (by decide +kernel) (Nat.le_of_ble_eq_true rfl) (rX3_pass_0 ht hu1 hu2 h)
set_option maxRecDepth 4000 in
theorem rX3_sendAll_0 {G : jdG} {n rc rs : Nat} {Z : jdL} {I : jdI} {J : jdJ} {K : jdI → jdJ → Prop} {t : Nat} {u1 : Nat} {u2 : Nat} {x3 : Int32} {x4 : Int32} (ht : zDay Z t) (hu1 : zTies Z u1) (h : Jd G mX3_sendAll (jdFm G (qv Z K)) (n + 1) rc rs 3 [(0, .ref (gb G + t)), (1, .ref (gb G + u1)), (2, .ref (gb G + u2)), (3, .int x3), (4, .int x4), (5, .int 0)] [] Z I J) : Jd G mX3_sendAll (jdFm G (qv Z K)) (n + 1) rc rs 0 [(0, .ref (gb G + t)), (1, .ref (gb G + u1)), (2, .ref (gb G + u2)), (3, .int x3), (4, .int x4)] [] Z I J := by
  refine jd_iconst (pc := 0) (v := 0) dX3_sendAll_0 (by decide) ?_
  refine jd_istore (pc := 1) [(5, .int 0), (0, .ref (gb G + t)), (1, .ref (gb G + u1)), (2, .ref (gb G + u2)), (3, .int x3), (4, .int x4)] dX3_sendAll_1 (by decide) rfl ?_
  exact jd_lv (lv2 := [(0, .ref (gb G + t)), (1, .ref (gb G + u1)), (2, .ref (gb G + u2)), (3, .int x3), (4, .int x4), (5, .int 0)]) [1, 2, 3, 4, 5, 0] rfl h
set_option maxRecDepth 4000 in
theorem rX3_sendAll_3 {G : jdG} {n rc rs : Nat} {Z : jdL} {I : jdI} {J : jdJ} {K : jdI → jdJ → Prop} {u2 : Nat} {u1 : Nat} {t : Nat} {x3 : Int32} {x4 : Int32} {x5 : Int32} (ht : zDay Z t) (hu1 : zTies Z u1) (h : ((7 ≤ x5 → K I J) ∧ (¬ 7 ≤ x5 → ((7 ≤ (I t 4) → K I J) ∧ (¬ 7 ≤ (I t 4) → (zMan Z u2 ∧ ∀ q ∈ a_pick, (Z).1 u2 = some (q.1 + 10, 0) → Cl G q.2 n 0 0 [.ref (gb G + u2), .ref (gb G + u1), .int (I t 5), .int x4] Z I J (qi Z (fun v2 I1 J1 => ((¬ v2 = 0 → (vp_in (I1 t 4) 7 ∧ (vp_in (I1 t 4) 7 ∧ Jd G mX3_sendAll (jdFm G (qv Z K)) (n + 1) rc rs 3 [(0, .ref (gb G + t)), (1, .ref (gb G + u1)), (2, .ref (gb G + u2)), (3, .int x3), (4, .int x4), (5, .int (x5 + 1))] [] Z (uI (uI (uI (uI I1 t 5 ((I1 t 5) &&& (v2 ^^^ (-1)))) (t + 1) (Int32.toNatClampNeg (I1 t 4)) v2) (t + 2) (Int32.toNatClampNeg (I1 t 4)) x3) t 4 ((I1 t 4) + 1)) J1))) ∧ (v2 = 0 → K I1 J1)))))))))) : Jd G mX3_sendAll (jdFm G (qv Z K)) (n + 1) rc rs 3 [(0, .ref (gb G + t)), (1, .ref (gb G + u1)), (2, .ref (gb G + u2)), (3, .int x3), (4, .int x4), (5, .int x5)] [] Z I J := by
  refine jd_iload (pc := 3) 5 dX3_sendAll_3 rfl ?_
  refine jd_bipush (pc := 5) (v := 7) dX3_sendAll_5 (by decide) ?_
  refine jd_icmp_ge (pc := 7) 88 dX3_sendAll_7 (by decide) (fun hc => ?_) (fun hc => ?_)
  · have h := h.1 hc
    exact jd_vretK (pc := 88) rfl dX3_sendAll_88 h
  · have h := h.2 hc
    refine jd_aload_n (pc := 10) 0 dX3_sendAll_10 rfl rfl ?_
    refine jd_getI (pc := 11) (ci := 2) (k := 4) gX3_26 ht.1 rfl dX3_sendAll_11 ?_
    refine jd_bipush (pc := 14) (v := 7) dX3_sendAll_14 (by decide) ?_
    refine jd_icmp_ge (pc := 16) 88 dX3_sendAll_16 (by decide) (fun hc => ?_) (fun hc => ?_)
    · have h := h.1 hc
      exact jd_vretK (pc := 88) rfl dX3_sendAll_88 h
    · have h := h.2 hc
      refine jd_aload_n (pc := 19) 2 dX3_sendAll_19 rfl rfl ?_
      refine jd_aload_n (pc := 20) 1 dX3_sendAll_20 rfl rfl ?_
      refine jd_aload_n (pc := 21) 0 dX3_sendAll_21 rfl rfl ?_
      refine jd_getI (pc := 22) (ci := 2) (k := 5) gX3_30 ht.1 rfl dX3_sendAll_22 ?_
      refine jd_iload (pc := 25) 4 dX3_sendAll_25 rfl ?_
      obtain ⟨hm3, h⟩ := h
      refine jd_vpick (pc := 27) (id := u2) (av := [.ref (gb G + u1), .int (I t 5), .int x4]) hm3 lX3_45 rfl rfl (Nat.le_of_ble_eq_true rfl) dX3_sendAll_27 h ?_
      intro v2 I1 J1 h
      refine jd_istore (pc := 30) [(6, .int v2), (0, .ref (gb G + t)), (1, .ref (gb G + u1)), (2, .ref (gb G + u2)), (3, .int x3), (4, .int x4), (5, .int x5)] dX3_sendAll_30 (by decide) rfl ?_
      refine jd_iload (pc := 32) 0 dX3_sendAll_32 rfl ?_
      refine jd_if_ne (pc := 34) 38 dX3_sendAll_34 (by decide) (fun hc => ?_) (fun hc => ?_)
      · have h := h.1 hc
        refine jd_aload_n (pc := 38) 1 dX3_sendAll_38 rfl rfl ?_
        refine jd_dup (pc := 39) dX3_sendAll_39 rfl ?_
        refine jd_getI (pc := 40) (ci := 2) (k := 5) gX3_30 ht.1 rfl dX3_sendAll_40 ?_
        refine jd_iload (pc := 43) 0 dX3_sendAll_43 rfl ?_
        refine jd_iconst (pc := 45) (v := (-1)) dX3_sendAll_45 (by decide) ?_
        refine jd_ixor (pc := 46) dX3_sendAll_46 ?_
        refine jd_iand (pc := 47) dX3_sendAll_47 ?_
        refine jd_putI (pc := 48) (ci := 2) (k := 5) pX3_30 ht.1 rfl rfl rfl dX3_sendAll_48 ?_
        refine jd_aload_n (pc := 51) 1 dX3_sendAll_51 rfl rfl ?_
        refine jd_getR (pc := 52) (ci := 2) (k := 0) (r := (t + 1)) gX3_9 ht.1 rfl (zDay_p0 ht) dX3_sendAll_52 ?_
        refine jd_aload_n (pc := 55) 1 dX3_sendAll_55 rfl rfl ?_
        refine jd_getIe (pc := 56) (ci := 2) (k := 4) (e := (I1 t 4)) (uI_sk (by decide) rfl) gX3_26 ht.1 rfl dX3_sendAll_56 ?_
        refine jd_iload (pc := 59) 0 dX3_sendAll_59 rfl ?_
        obtain ⟨hv4, h⟩ := h
        refine jd_iast (pc := 61) (len := 7) (zDay_a0 ht) hv4 dX3_sendAll_61 ?_
        refine jd_aload_n (pc := 62) 1 dX3_sendAll_62 rfl rfl ?_
        refine jd_getR (pc := 63) (ci := 2) (k := 1) (r := (t + 2)) gX3_15 ht.1 rfl (zDay_p1 ht) dX3_sendAll_63 ?_
        refine jd_aload_n (pc := 66) 1 dX3_sendAll_66 rfl rfl ?_
        refine jd_getIe (pc := 67) (ci := 2) (k := 4) (e := (I1 t 4)) (uI_ne (by omega) (uI_sk (by decide) rfl)) gX3_26 ht.1 rfl dX3_sendAll_67 ?_
        refine jd_iload_n (pc := 70) 4 dX3_sendAll_70 rfl rfl ?_
        obtain ⟨hv5, h⟩ := h
        refine jd_iast (pc := 71) (len := 7) (zDay_a1 ht) hv5 dX3_sendAll_71 ?_
        refine jd_aload_n (pc := 72) 1 dX3_sendAll_72 rfl rfl ?_
        refine jd_dup (pc := 73) dX3_sendAll_73 rfl ?_
        refine jd_getIe (pc := 74) (ci := 2) (k := 4) (e := (I1 t 4)) (uI_ne (by omega) (uI_ne (by omega) (uI_sk (by decide) rfl))) gX3_26 ht.1 rfl dX3_sendAll_74 ?_
        refine jd_iconst (pc := 77) (v := 1) dX3_sendAll_77 (by decide) ?_
        refine jd_iadd (pc := 78) dX3_sendAll_78 ?_
        refine jd_putI (pc := 79) (ci := 2) (k := 4) pX3_26 ht.1 rfl rfl rfl dX3_sendAll_79 ?_
        refine jd_iinc (pc := 82) (v := (x5 + 1)) 6 [(5, .int (x5 + 1)), (6, .int v2), (0, .ref (gb G + t)), (1, .ref (gb G + u1)), (2, .ref (gb G + u2)), (3, .int x3), (4, .int x4)] dX3_sendAll_82 rfl rfl (by decide) rfl ?_
        refine jd_goto (pc := 85) 3 dX3_sendAll_85 (by decide) ?_
        exact jd_lv (lv2 := [(0, .ref (gb G + t)), (1, .ref (gb G + u1)), (2, .ref (gb G + u2)), (3, .int x3), (4, .int x4), (5, .int (x5 + 1))]) [2, 3, 4, 5, 6, 0] rfl h
      · have h := h.2 hc
        exact jd_vretK (pc := 37) rfl dX3_sendAll_37 h
theorem eX3_sendAll {G : jdG} {n : Nat} {Z : jdL} {I : jdI} {J : jdJ} {K : jdI → jdJ → Prop} {t : Nat} {u1 : Nat} {u2 : Nat} {x3 : Int32} {x4 : Int32} (ht : zDay Z t) (hu1 : zTies Z u1) (h : Jd G mX3_sendAll (jdFm G (qv Z K)) (n + 1) 0 0 3 [(0, .ref (gb G + t)), (1, .ref (gb G + u1)), (2, .ref (gb G + u2)), (3, .int x3), (4, .int x4), (5, .int 0)] [] Z I J) : Cl G mX3_sendAll (n + 1) 0 0 [.ref (gb G + t), .ref (gb G + u1), .ref (gb G + u2), .int x3, .int x4] Z I J (qv Z K) :=
  Cl.of (by decide +kernel) (Nat.le_of_ble_eq_true rfl) (rX3_sendAll_0 ht hu1 h)
set_option maxRecDepth 4000 in
theorem rX3_coachAt_0 {G : jdG} {n rc rs : Nat} {Z : jdL} {I : jdI} {J : jdJ} {K : Int32 → jdI → jdJ → Prop} {t : Nat} {x1 : Int32} (ht : zDay Z t) (h : ((x1 < 0 → K 0 I J) ∧ (¬ x1 < 0 → (((I t 4) ≤ x1 → K 0 I J) ∧ (¬ (I t 4) ≤ x1 → (vp_in x1 7 ∧ K (I (t + 1) (Int32.toNatClampNeg x1)) I J)))))) : Jd G mX3_coachAt (jdFm G (qi Z K)) n rc rs 0 [(0, .ref (gb G + t)), (1, .int x1)] [] Z I J := by
  refine jd_iload_n (pc := 0) 1 dX3_coachAt_0 rfl rfl ?_
  refine jd_if_lt (pc := 1) 21 dX3_coachAt_1 (by decide) (fun hc => ?_) (fun hc => ?_)
  · have h := h.1 hc
    refine jd_iconst (pc := 21) (v := 0) dX3_coachAt_21 (by decide) ?_
    exact jd_iretK (pc := 22) rfl rfl dX3_coachAt_22 h
  · have h := h.2 hc
    refine jd_iload_n (pc := 4) 1 dX3_coachAt_4 rfl rfl ?_
    refine jd_aload_n (pc := 5) 0 dX3_coachAt_5 rfl rfl ?_
    refine jd_getI (pc := 6) (ci := 2) (k := 4) gX3_26 ht.1 rfl dX3_coachAt_6 ?_
    refine jd_icmp_ge (pc := 9) 21 dX3_coachAt_9 (by decide) (fun hc => ?_) (fun hc => ?_)
    · have h := h.1 hc
      refine jd_iconst (pc := 21) (v := 0) dX3_coachAt_21 (by decide) ?_
      exact jd_iretK (pc := 22) rfl rfl dX3_coachAt_22 h
    · have h := h.2 hc
      refine jd_aload_n (pc := 12) 0 dX3_coachAt_12 rfl rfl ?_
      refine jd_getR (pc := 13) (ci := 2) (k := 0) (r := (t + 1)) gX3_9 ht.1 rfl (zDay_p0 ht) dX3_coachAt_13 ?_
      refine jd_iload_n (pc := 16) 1 dX3_coachAt_16 rfl rfl ?_
      obtain ⟨hv1, h⟩ := h
      refine jd_iald (pc := 17) (len := 7) (zDay_a0 ht) hv1 dX3_coachAt_17 ?_
      refine jd_goto (pc := 18) 22 dX3_coachAt_18 (by decide) ?_
      exact jd_iretK (pc := 22) rfl rfl dX3_coachAt_22 h
theorem eX3_coachAt {G : jdG} {n : Nat} {Z : jdL} {I : jdI} {J : jdJ} {K : Int32 → jdI → jdJ → Prop} {t : Nat} {x1 : Int32} (ht : zDay Z t) (h : ((x1 < 0 → K 0 I J) ∧ (¬ x1 < 0 → (((I t 4) ≤ x1 → K 0 I J) ∧ (¬ (I t 4) ≤ x1 → (vp_in x1 7 ∧ K (I (t + 1) (Int32.toNatClampNeg x1)) I J)))))) : Cl G mX3_coachAt (n) 0 0 [.ref (gb G + t), .int x1] Z I J (qi Z K) :=
  Cl.of (by decide +kernel) (Nat.le_of_ble_eq_true rfl) (rX3_coachAt_0 ht h)
set_option maxRecDepth 4000 in
theorem rX3_waitingOf_0 {G : jdG} {n rc rs : Nat} {Z : jdL} {I : jdI} {J : jdJ} {K : Int32 → jdI → jdJ → Prop} {t : Nat} {u1 : Nat} {x2 : Int32} (ht : zDay Z t) (hu1 : zTown Z u1) (h : Jd G mX3_waitingOf (jdFm G (qi Z K)) n rc rs 6 [(0, .ref (gb G + t)), (1, .ref (gb G + u1)), (2, .int x2), (3, .int 24), (4, .int 0)] [] Z I J) : Jd G mX3_waitingOf (jdFm G (qi Z K)) n rc rs 0 [(0, .ref (gb G + t)), (1, .ref (gb G + u1)), (2, .int x2)] [] Z I J := by
  refine jd_bipush (pc := 0) (v := 24) dX3_waitingOf_0 (by decide) ?_
  refine jd_istore_n (pc := 2) [(3, .int 24), (0, .ref (gb G + t)), (1, .ref (gb G + u1)), (2, .int x2)] dX3_waitingOf_2 rfl (by decide) rfl ?_
  refine jd_iconst (pc := 3) (v := 0) dX3_waitingOf_3 (by decide) ?_
  refine jd_istore (pc := 4) [(4, .int 0), (3, .int 24), (0, .ref (gb G + t)), (1, .ref (gb G + u1)), (2, .int x2)] dX3_waitingOf_4 (by decide) rfl ?_
  exact jd_lv (lv2 := [(0, .ref (gb G + t)), (1, .ref (gb G + u1)), (2, .int x2), (3, .int 24), (4, .int 0)]) [2, 3, 4, 1, 0] rfl h
set_option maxRecDepth 4000 in
theorem rX3_waitingOf_6 {G : jdG} {n rc rs : Nat} {Z : jdL} {I : jdI} {J : jdJ} {K : Int32 → jdI → jdJ → Prop} {u1 : Nat} {t : Nat} {x2 : Int32} {x3 : Int32} {x4 : Int32} (ht : zDay Z t) (hu1 : zTown Z u1) (h : (((I t 4) ≤ x4 → (vp_in x2 7 ∧ (vp_in x2 7 ∧ K ((I (u1 + 2) (Int32.toNatClampNeg x2)) * (x3 - (I (u1 + 1) (Int32.toNatClampNeg x2)))) I J))) ∧ (¬ (I t 4) ≤ x4 → (vp_in x4 7 ∧ (((((I (t + 1) (Int32.toNatClampNeg x4)) >>> (x2 &&& 31)) &&& 1) = 0 → Jd G mX3_waitingOf (jdFm G (qi Z K)) n rc rs 6 [(0, .ref (gb G + t)), (1, .ref (gb G + u1)), (2, .int x2), (3, .int x3), (4, .int (x4 + 1))] [] Z I J) ∧ (¬ (((I (t + 1) (Int32.toNatClampNeg x4)) >>> (x2 &&& 31)) &&& 1) = 0 → (vp_in x4 7 ∧ Jd G mX3_waitingOf (jdFm G (qi Z K)) n rc rs 6 [(0, .ref (gb G + t)), (1, .ref (gb G + u1)), (2, .int x2), (3, .int (I (t + 2) (Int32.toNatClampNeg x4))), (4, .int (x4 + 1))] [] Z I J))))))) : Jd G mX3_waitingOf (jdFm G (qi Z K)) n rc rs 6 [(0, .ref (gb G + t)), (1, .ref (gb G + u1)), (2, .int x2), (3, .int x3), (4, .int x4)] [] Z I J := by
  refine jd_iload (pc := 6) 4 dX3_waitingOf_6 rfl ?_
  refine jd_aload_n (pc := 8) 0 dX3_waitingOf_8 rfl rfl ?_
  refine jd_getI (pc := 9) (ci := 2) (k := 4) gX3_26 ht.1 rfl dX3_waitingOf_9 ?_
  refine jd_icmp_ge (pc := 12) 43 dX3_waitingOf_12 (by decide) (fun hc => ?_) (fun hc => ?_)
  · have h := h.1 hc
    refine jd_aload_n (pc := 43) 1 dX3_waitingOf_43 rfl rfl ?_
    refine jd_getR (pc := 44) (ci := 8) (k := 1) (r := (u1 + 2)) gX3_51 hu1.1 rfl (zTown_p1 hu1) dX3_waitingOf_44 ?_
    refine jd_iload_n (pc := 47) 2 dX3_waitingOf_47 rfl rfl ?_
    obtain ⟨hv1, h⟩ := h
    refine jd_iald (pc := 48) (len := 7) (zTown_a1 hu1) hv1 dX3_waitingOf_48 ?_
    refine jd_iload_n (pc := 49) 3 dX3_waitingOf_49 rfl rfl ?_
    refine jd_aload_n (pc := 50) 1 dX3_waitingOf_50 rfl rfl ?_
    refine jd_getR (pc := 51) (ci := 8) (k := 0) (r := (u1 + 1)) gX3_38 hu1.1 rfl (zTown_p0 hu1) dX3_waitingOf_51 ?_
    refine jd_iload_n (pc := 54) 2 dX3_waitingOf_54 rfl rfl ?_
    obtain ⟨hv2, h⟩ := h
    refine jd_iald (pc := 55) (len := 7) (zTown_a0 hu1) hv2 dX3_waitingOf_55 ?_
    refine jd_isub (pc := 56) dX3_waitingOf_56 ?_
    refine jd_imul (pc := 57) dX3_waitingOf_57 ?_
    exact jd_iretK (pc := 58) rfl rfl dX3_waitingOf_58 h
  · have h := h.2 hc
    refine jd_aload_n (pc := 15) 0 dX3_waitingOf_15 rfl rfl ?_
    refine jd_getR (pc := 16) (ci := 2) (k := 0) (r := (t + 1)) gX3_9 ht.1 rfl (zDay_p0 ht) dX3_waitingOf_16 ?_
    refine jd_iload (pc := 19) 4 dX3_waitingOf_19 rfl ?_
    obtain ⟨hv3, h⟩ := h
    refine jd_iald (pc := 21) (len := 7) (zDay_a0 ht) hv3 dX3_waitingOf_21 ?_
    refine jd_iload_n (pc := 22) 2 dX3_waitingOf_22 rfl rfl ?_
    refine jd_ishr (pc := 23) dX3_waitingOf_23 ?_
    refine jd_iconst (pc := 24) (v := 1) dX3_waitingOf_24 (by decide) ?_
    refine jd_iand (pc := 25) dX3_waitingOf_25 ?_
    refine jd_if_eq (pc := 26) 37 dX3_waitingOf_26 (by decide) (fun hc => ?_) (fun hc => ?_)
    · have h := h.1 hc
      refine jd_iinc (pc := 37) (v := (x4 + 1)) 4 [(4, .int (x4 + 1)), (0, .ref (gb G + t)), (1, .ref (gb G + u1)), (2, .int x2), (3, .int x3)] dX3_waitingOf_37 rfl rfl (by decide) rfl ?_
      refine jd_goto (pc := 40) 6 dX3_waitingOf_40 (by decide) ?_
      exact jd_lv (lv2 := [(0, .ref (gb G + t)), (1, .ref (gb G + u1)), (2, .int x2), (3, .int x3), (4, .int (x4 + 1))]) [1, 2, 3, 4, 0] rfl h
    · have h := h.2 hc
      refine jd_aload_n (pc := 29) 0 dX3_waitingOf_29 rfl rfl ?_
      refine jd_getR (pc := 30) (ci := 2) (k := 1) (r := (t + 2)) gX3_15 ht.1 rfl (zDay_p1 ht) dX3_waitingOf_30 ?_
      refine jd_iload (pc := 33) 4 dX3_waitingOf_33 rfl ?_
      obtain ⟨hv4, h⟩ := h
      refine jd_iald (pc := 35) (len := 7) (zDay_a1 ht) hv4 dX3_waitingOf_35 ?_
      refine jd_istore_n (pc := 36) [(3, .int (I (t + 2) (Int32.toNatClampNeg x4))), (0, .ref (gb G + t)), (1, .ref (gb G + u1)), (2, .int x2), (4, .int x4)] dX3_waitingOf_36 rfl (by decide) rfl ?_
      refine jd_iinc (pc := 37) (v := (x4 + 1)) 4 [(4, .int (x4 + 1)), (3, .int (I (t + 2) (Int32.toNatClampNeg x4))), (0, .ref (gb G + t)), (1, .ref (gb G + u1)), (2, .int x2)] dX3_waitingOf_37 rfl rfl (by decide) rfl ?_
      refine jd_goto (pc := 40) 6 dX3_waitingOf_40 (by decide) ?_
      exact jd_lv (lv2 := [(0, .ref (gb G + t)), (1, .ref (gb G + u1)), (2, .int x2), (3, .int (I (t + 2) (Int32.toNatClampNeg x4))), (4, .int (x4 + 1))]) [2, 3, 4, 1, 0] rfl h
theorem eX3_waitingOf {G : jdG} {n : Nat} {Z : jdL} {I : jdI} {J : jdJ} {K : Int32 → jdI → jdJ → Prop} {t : Nat} {u1 : Nat} {x2 : Int32} (ht : zDay Z t) (hu1 : zTown Z u1) (h : Jd G mX3_waitingOf (jdFm G (qi Z K)) n 0 0 6 [(0, .ref (gb G + t)), (1, .ref (gb G + u1)), (2, .int x2), (3, .int 24), (4, .int 0)] [] Z I J) : Cl G mX3_waitingOf (n) 0 0 [.ref (gb G + t), .ref (gb G + u1), .int x2] Z I J (qi Z K) :=
  Cl.of (by decide +kernel) (Nat.le_of_ble_eq_true rfl) (rX3_waitingOf_0 ht hu1 h)
set_option maxRecDepth 4000 in
theorem rX3_waitingOfAll_0 {G : jdG} {n rc rs : Nat} {Z : jdL} {I : jdI} {J : jdJ} {K : Int32 → jdI → jdJ → Prop} {t : Nat} {u1 : Nat} (ht : zDay Z t) (hu1 : zTown Z u1) (h : Jd G mX3_waitingOfAll (jdFm G (qi Z K)) (n + 1) rc rs 4 [(0, .ref (gb G + t)), (1, .ref (gb G + u1)), (2, .int 0), (3, .int 0)] [] Z I J) : Jd G mX3_waitingOfAll (jdFm G (qi Z K)) (n + 1) rc rs 0 [(0, .ref (gb G + t)), (1, .ref (gb G + u1))] [] Z I J := by
  refine jd_iconst (pc := 0) (v := 0) dX3_waitingOfAll_0 (by decide) ?_
  refine jd_istore_n (pc := 1) [(2, .int 0), (0, .ref (gb G + t)), (1, .ref (gb G + u1))] dX3_waitingOfAll_1 rfl (by decide) rfl ?_
  refine jd_iconst (pc := 2) (v := 0) dX3_waitingOfAll_2 (by decide) ?_
  refine jd_istore_n (pc := 3) [(3, .int 0), (2, .int 0), (0, .ref (gb G + t)), (1, .ref (gb G + u1))] dX3_waitingOfAll_3 rfl (by decide) rfl ?_
  exact jd_lv (lv2 := [(0, .ref (gb G + t)), (1, .ref (gb G + u1)), (2, .int 0), (3, .int 0)]) [2, 3, 1, 0] rfl h
set_option maxRecDepth 4000 in
theorem rX3_waitingOfAll_4 {G : jdG} {n rc rs : Nat} {Z : jdL} {I : jdI} {J : jdJ} {K : Int32 → jdI → jdJ → Prop} {u1 : Nat} {t : Nat} {x2 : Int32} {x3 : Int32} (ht : zDay Z t) (hu1 : zTown Z u1) (h : (((I u1 3) ≤ x3 → K x2 I J) ∧ (¬ (I u1 3) ≤ x3 → Cl G mX3_waitingOf n 0 0 [.ref (gb G + t), .ref (gb G + u1), .int x3] Z I J (qi Z (fun v2 I1 J1 => Jd G mX3_waitingOfAll (jdFm G (qi Z K)) (n + 1) rc rs 4 [(0, .ref (gb G + t)), (1, .ref (gb G + u1)), (2, .int (x2 + v2)), (3, .int (x3 + 1))] [] Z I1 J1))))) : Jd G mX3_waitingOfAll (jdFm G (qi Z K)) (n + 1) rc rs 4 [(0, .ref (gb G + t)), (1, .ref (gb G + u1)), (2, .int x2), (3, .int x3)] [] Z I J := by
  refine jd_iload_n (pc := 4) 3 dX3_waitingOfAll_4 rfl rfl ?_
  refine jd_aload_n (pc := 5) 1 dX3_waitingOfAll_5 rfl rfl ?_
  refine jd_getI (pc := 6) (ci := 8) (k := 3) gX3_33 hu1.1 rfl dX3_waitingOfAll_6 ?_
  refine jd_icmp_ge (pc := 9) 27 dX3_waitingOfAll_9 (by decide) (fun hc => ?_) (fun hc => ?_)
  · have h := h.1 hc
    refine jd_iload_n (pc := 27) 2 dX3_waitingOfAll_27 rfl rfl ?_
    exact jd_iretK (pc := 28) rfl rfl dX3_waitingOfAll_28 h
  · have h := h.2 hc
    refine jd_iload_n (pc := 12) 2 dX3_waitingOfAll_12 rfl rfl ?_
    refine jd_aload_n (pc := 13) 0 dX3_waitingOfAll_13 rfl rfl ?_
    refine jd_aload_n (pc := 14) 1 dX3_waitingOfAll_14 rfl rfl ?_
    refine jd_iload_n (pc := 15) 3 dX3_waitingOfAll_15 rfl rfl ?_
    refine jd_callVi (pc := 16) (M2 := mX3_waitingOf) (id := t) (ci := 2) (T := TX3) (N := 7) (av := [.ref (gb G + u1), .int x3]) kX3_waitingOf sX3_waitingOf rfl ht.1 lX3_54 rfl rfl (Nat.le_of_ble_eq_true rfl) dX3_waitingOfAll_16 h ?_
    intro v2 I1 J1 h
    refine jd_iadd (pc := 19) dX3_waitingOfAll_19 ?_
    refine jd_istore_n (pc := 20) [(2, .int (x2 + v2)), (0, .ref (gb G + t)), (1, .ref (gb G + u1)), (3, .int x3)] dX3_waitingOfAll_20 rfl (by decide) rfl ?_
    refine jd_iinc (pc := 21) (v := (x3 + 1)) 3 [(3, .int (x3 + 1)), (2, .int (x2 + v2)), (0, .ref (gb G + t)), (1, .ref (gb G + u1))] dX3_waitingOfAll_21 rfl rfl (by decide) rfl ?_
    refine jd_goto (pc := 24) 4 dX3_waitingOfAll_24 (by decide) ?_
    exact jd_lv (lv2 := [(0, .ref (gb G + t)), (1, .ref (gb G + u1)), (2, .int (x2 + v2)), (3, .int (x3 + 1))]) [2, 3, 1, 0] rfl h
theorem eX3_waitingOfAll {G : jdG} {n : Nat} {Z : jdL} {I : jdI} {J : jdJ} {K : Int32 → jdI → jdJ → Prop} {t : Nat} {u1 : Nat} (ht : zDay Z t) (hu1 : zTown Z u1) (h : Jd G mX3_waitingOfAll (jdFm G (qi Z K)) (n + 1) 0 0 4 [(0, .ref (gb G + t)), (1, .ref (gb G + u1)), (2, .int 0), (3, .int 0)] [] Z I J) : Cl G mX3_waitingOfAll (n + 1) 0 0 [.ref (gb G + t), .ref (gb G + u1)] Z I J (qi Z K) :=
  Cl.of (by decide +kernel) (Nat.le_of_ble_eq_true rfl) (rX3_waitingOfAll_0 ht hu1 h)
set_option maxRecDepth 4000 in
theorem rX3_findLeast_0 {G : jdG} {n rc rs : Nat} {Z : jdL} {I : jdI} {J : jdJ} {K : jdI → jdJ → Prop} {t : Nat} {u1 : Nat} {u2 : Nat} (ht : zDay Z t) (hu1 : zTown Z u1) (hu2 : zTies Z u2) (h : Jd G mX3_findLeast (jdFm G (qv Z K)) (n + 1) rc rs 2 [(0, .ref (gb G + t)), (1, .ref (gb G + u1)), (2, .ref (gb G + u2)), (3, .int 0)] [] Z I J) : Jd G mX3_findLeast (jdFm G (qv Z K)) (n + 1) rc rs 0 [(0, .ref (gb G + t)), (1, .ref (gb G + u1)), (2, .ref (gb G + u2))] [] Z I J := by
  refine jd_iconst (pc := 0) (v := 0) dX3_findLeast_0 (by decide) ?_
  refine jd_istore_n (pc := 1) [(3, .int 0), (0, .ref (gb G + t)), (1, .ref (gb G + u1)), (2, .ref (gb G + u2))] dX3_findLeast_1 rfl (by decide) rfl ?_
  exact jd_lv (lv2 := [(0, .ref (gb G + t)), (1, .ref (gb G + u1)), (2, .ref (gb G + u2)), (3, .int 0)]) [1, 2, 3, 0] rfl h
set_option maxRecDepth 4000 in
theorem rX3_findLeast_2 {G : jdG} {n rc rs : Nat} {Z : jdL} {I : jdI} {J : jdJ} {K : jdI → jdJ → Prop} {u2 : Nat} {u1 : Nat} {t : Nat} {x3 : Int32} (ht : zDay Z t) (hu1 : zTown Z u1) (hu2 : zTies Z u2) (h : (((I u2 8) ≤ x3 → Jd G mX3_findLeast (jdFm G (qv Z K)) (n + 1) rc rs 46 [(0, .ref (gb G + t)), (1, .ref (gb G + u1)), (2, .ref (gb G + u2)), (3, .int 1)] [] Z (uI I (t + 3) 0 0) J) ∧ (¬ (I u2 8) ≤ x3 → (vp_in x3 70 ∧ Cl G mX3_waitingTogether n 0 0 [.ref (gb G + u1), .int (I (u2 + 3) (Int32.toNatClampNeg x3))] Z I J (qi Z (fun v3 I2 J2 => (vp_in x3 70 ∧ Jd G mX3_findLeast (jdFm G (qv Z K)) (n + 1) rc rs 2 [(0, .ref (gb G + t)), (1, .ref (gb G + u1)), (2, .ref (gb G + u2)), (3, .int (x3 + 1))] [] Z (uI I2 (t + 4) (Int32.toNatClampNeg x3) ((16 * v3) - 1)) J2))))))) : Jd G mX3_findLeast (jdFm G (qv Z K)) (n + 1) rc rs 2 [(0, .ref (gb G + t)), (1, .ref (gb G + u1)), (2, .ref (gb G + u2)), (3, .int x3)] [] Z I J := by
  refine jd_iload_n (pc := 2) 3 dX3_findLeast_2 rfl rfl ?_
  refine jd_aload_n (pc := 3) 2 dX3_findLeast_3 rfl rfl ?_
  refine jd_getI (pc := 4) (ci := 7) (k := 8) gX3_58 hu2.1 rfl dX3_findLeast_4 ?_
  refine jd_icmp_ge (pc := 7) 37 dX3_findLeast_7 (by decide) (fun hc => ?_) (fun hc => ?_)
  · have h := h.1 hc
    refine jd_aload_n (pc := 37) 0 dX3_findLeast_37 rfl rfl ?_
    refine jd_getR (pc := 38) (ci := 2) (k := 2) (r := (t + 3)) gX3_18 ht.1 rfl (zDay_p2 ht) dX3_findLeast_38 ?_
    refine jd_iconst (pc := 41) (v := 0) dX3_findLeast_41 (by decide) ?_
    refine jd_iconst (pc := 42) (v := 0) dX3_findLeast_42 (by decide) ?_
    refine jd_iast (pc := 43) (len := 128) (zDay_a2 ht) (by unfold vp_in; decide) dX3_findLeast_43 ?_
    refine jd_iconst (pc := 44) (v := 1) dX3_findLeast_44 (by decide) ?_
    refine jd_istore_n (pc := 45) [(3, .int 1), (0, .ref (gb G + t)), (1, .ref (gb G + u1)), (2, .ref (gb G + u2))] dX3_findLeast_45 rfl (by decide) rfl ?_
    exact jd_lv (lv2 := [(0, .ref (gb G + t)), (1, .ref (gb G + u1)), (2, .ref (gb G + u2)), (3, .int 1)]) [1, 2, 3, 0] rfl h
  · have h := h.2 hc
    refine jd_aload_n (pc := 10) 0 dX3_findLeast_10 rfl rfl ?_
    refine jd_getR (pc := 11) (ci := 2) (k := 3) (r := (t + 4)) gX3_23 ht.1 rfl (zDay_p3 ht) dX3_findLeast_11 ?_
    refine jd_iload_n (pc := 14) 3 dX3_findLeast_14 rfl rfl ?_
    refine jd_bipush (pc := 15) (v := 16) dX3_findLeast_15 (by decide) ?_
    refine jd_aload_n (pc := 17) 1 dX3_findLeast_17 rfl rfl ?_
    refine jd_aload_n (pc := 18) 2 dX3_findLeast_18 rfl rfl ?_
    refine jd_getR (pc := 19) (ci := 7) (k := 2) (r := (u2 + 3)) gX3_61 hu2.1 rfl (zTies_p2 hu2) dX3_findLeast_19 ?_
    refine jd_iload_n (pc := 22) 3 dX3_findLeast_22 rfl rfl ?_
    obtain ⟨hv1, h⟩ := h
    refine jd_iald (pc := 23) (len := 70) (zTies_a2 hu2) hv1 dX3_findLeast_23 ?_
    refine jd_callSi (pc := 24) (M2 := mX3_waitingTogether) (av := [.ref (gb G + u1), .int (I (u2 + 3) (Int32.toNatClampNeg x3))]) kX3_waitingTogether sX3_waitingTogether lX3_64 rfl rfl (Nat.le_of_ble_eq_true rfl) dX3_findLeast_24 h ?_
    intro v3 I2 J2 h
    refine jd_imul (pc := 27) dX3_findLeast_27 ?_
    refine jd_iconst (pc := 28) (v := 1) dX3_findLeast_28 (by decide) ?_
    refine jd_isub (pc := 29) dX3_findLeast_29 ?_
    obtain ⟨hv4, h⟩ := h
    refine jd_iast (pc := 30) (len := 70) (zDay_a3 ht) hv4 dX3_findLeast_30 ?_
    refine jd_iinc (pc := 31) (v := (x3 + 1)) 3 [(3, .int (x3 + 1)), (0, .ref (gb G + t)), (1, .ref (gb G + u1)), (2, .ref (gb G + u2))] dX3_findLeast_31 rfl rfl (by decide) rfl ?_
    refine jd_goto (pc := 34) 2 dX3_findLeast_34 (by decide) ?_
    exact jd_lv (lv2 := [(0, .ref (gb G + t)), (1, .ref (gb G + u1)), (2, .ref (gb G + u2)), (3, .int (x3 + 1))]) [1, 2, 3, 0] rfl h
set_option maxRecDepth 4000 in
theorem rX3_findLeast_46 {G : jdG} {n rc rs : Nat} {Z : jdL} {I : jdI} {J : jdJ} {K : jdI → jdJ → Prop} {t : Nat} {u1 : Nat} {u2 : Nat} {x3 : Int32} (ht : zDay Z t) (hu1 : zTown Z u1) (hu2 : zTies Z u2) (h : Cl G mX9_everybody n 0 0 [.ref (gb G + u1)] Z I J (qi Z (fun v2 I1 J1 => ((v2 < x3 → Cl G mX9_everybody n 0 0 [.ref (gb G + u1)] Z I1 J1 (qi Z (fun v4 I3 J3 => (vp_in v4 128 ∧ K (uI I3 t 6 (I3 (t + 3) (Int32.toNatClampNeg v4))) J3)))) ∧ (¬ v2 < x3 → Cl G mX3_cheapest n 0 0 [.ref (gb G + t), .ref (gb G + u1), .ref (gb G + u2), .int x3] Z I1 J1 (qi Z (fun v7 I6 J6 => (vp_in x3 128 ∧ Jd G mX3_findLeast (jdFm G (qv Z K)) (n + 1) rc rs 46 [(0, .ref (gb G + t)), (1, .ref (gb G + u1)), (2, .ref (gb G + u2)), (3, .int (x3 + 1))] [] Z (uI I6 (t + 3) (Int32.toNatClampNeg x3) v7) J6)))))))) : Jd G mX3_findLeast (jdFm G (qv Z K)) (n + 1) rc rs 46 [(0, .ref (gb G + t)), (1, .ref (gb G + u1)), (2, .ref (gb G + u2)), (3, .int x3)] [] Z I J := by
  refine jd_iload_n (pc := 46) 3 dX3_findLeast_46 rfl rfl ?_
  refine jd_aload_n (pc := 47) 1 dX3_findLeast_47 rfl rfl ?_
  refine jd_callVi (pc := 48) (M2 := mX9_everybody) (id := u1) (ci := 8) (T := TX9) (N := 10) (av := []) kX9_everybody sX9_everybody rfl hu1.1 lX3_67 rfl rfl (Nat.le_of_ble_eq_true rfl) dX3_findLeast_48 h ?_
  intro v2 I1 J1 h
  refine jd_icmp_gt (pc := 51) 73 dX3_findLeast_51 (by decide) (fun hc => ?_) (fun hc => ?_)
  · have h := h.1 hc
    refine jd_aload_n (pc := 73) 0 dX3_findLeast_73 rfl rfl ?_
    refine jd_aload_n (pc := 74) 0 dX3_findLeast_74 rfl rfl ?_
    refine jd_getR (pc := 75) (ci := 2) (k := 2) (r := (t + 3)) gX3_18 ht.1 rfl (zDay_p2 ht) dX3_findLeast_75 ?_
    refine jd_aload_n (pc := 78) 1 dX3_findLeast_78 rfl rfl ?_
    refine jd_callVi (pc := 79) (M2 := mX9_everybody) (id := u1) (ci := 8) (T := TX9) (N := 10) (av := []) kX9_everybody sX9_everybody rfl hu1.1 lX3_67 rfl rfl (Nat.le_of_ble_eq_true rfl) dX3_findLeast_79 h ?_
    intro v4 I3 J3 h
    obtain ⟨hv5, h⟩ := h
    refine jd_iald (pc := 82) (len := 128) (zDay_a2 ht) hv5 dX3_findLeast_82 ?_
    refine jd_putI (pc := 83) (ci := 2) (k := 6) pX3_75 ht.1 rfl rfl rfl dX3_findLeast_83 ?_
    exact jd_vretK (pc := 86) rfl dX3_findLeast_86 h
  · have h := h.2 hc
    refine jd_aload_n (pc := 54) 0 dX3_findLeast_54 rfl rfl ?_
    refine jd_getR (pc := 55) (ci := 2) (k := 2) (r := (t + 3)) gX3_18 ht.1 rfl (zDay_p2 ht) dX3_findLeast_55 ?_
    refine jd_iload_n (pc := 58) 3 dX3_findLeast_58 rfl rfl ?_
    refine jd_aload_n (pc := 59) 0 dX3_findLeast_59 rfl rfl ?_
    refine jd_aload_n (pc := 60) 1 dX3_findLeast_60 rfl rfl ?_
    refine jd_aload_n (pc := 61) 2 dX3_findLeast_61 rfl rfl ?_
    refine jd_iload_n (pc := 62) 3 dX3_findLeast_62 rfl rfl ?_
    refine jd_callVi (pc := 63) (M2 := mX3_cheapest) (id := t) (ci := 2) (T := TX3) (N := 7) (av := [.ref (gb G + u1), .ref (gb G + u2), .int x3]) kX3_cheapest sX3_cheapest rfl ht.1 lX3_71 rfl rfl (Nat.le_of_ble_eq_true rfl) dX3_findLeast_63 h ?_
    intro v7 I6 J6 h
    obtain ⟨hv8, h⟩ := h
    refine jd_iast (pc := 66) (len := 128) (zDay_a2 ht) hv8 dX3_findLeast_66 ?_
    refine jd_iinc (pc := 67) (v := (x3 + 1)) 3 [(3, .int (x3 + 1)), (0, .ref (gb G + t)), (1, .ref (gb G + u1)), (2, .ref (gb G + u2))] dX3_findLeast_67 rfl rfl (by decide) rfl ?_
    refine jd_goto (pc := 70) 46 dX3_findLeast_70 (by decide) ?_
    exact jd_lv (lv2 := [(0, .ref (gb G + t)), (1, .ref (gb G + u1)), (2, .ref (gb G + u2)), (3, .int (x3 + 1))]) [1, 2, 3, 0] rfl h
theorem eX3_findLeast {G : jdG} {n : Nat} {Z : jdL} {I : jdI} {J : jdJ} {K : jdI → jdJ → Prop} {t : Nat} {u1 : Nat} {u2 : Nat} (ht : zDay Z t) (hu1 : zTown Z u1) (hu2 : zTies Z u2) (h : Jd G mX3_findLeast (jdFm G (qv Z K)) (n + 1) 0 0 2 [(0, .ref (gb G + t)), (1, .ref (gb G + u1)), (2, .ref (gb G + u2)), (3, .int 0)] [] Z I J) : Cl G mX3_findLeast (n + 1) 0 0 [.ref (gb G + t), .ref (gb G + u1), .ref (gb G + u2)] Z I J (qv Z K) :=
  Cl.of (by decide +kernel) (Nat.le_of_ble_eq_true rfl) (rX3_findLeast_0 ht hu1 hu2 h)
set_option maxRecDepth 4000 in
theorem rX3_cheapest_0 {G : jdG} {n rc rs : Nat} {Z : jdL} {I : jdI} {J : jdJ} {K : Int32 → jdI → jdJ → Prop} {t : Nat} {u1 : Nat} {u2 : Nat} {x3 : Int32} (ht : zDay Z t) (hu1 : zTown Z u1) (hu2 : zTies Z u2) (h : Cl G mJ6_bitCount_0f7a4 n 0 0 [.int ((x3 &&& (-x3)) - 1)] Z I J (qi Z (fun v2 I1 J1 => ((v2 < (I1 u1 3) → (vp_in v2 7 ∧ (vp_in v2 7 ∧ (vp_in (x3 ^^^ (1 <<< (v2 &&& 31))) 128 ∧ Jd G mX3_cheapest (jdFm G (qi Z K)) (n + 1) rc rs 64 [(0, .ref (gb G + t)), (1, .ref (gb G + u1)), (2, .ref (gb G + u2)), (3, .int x3), (4, .int v2), (5, .int ((16 * (I1 (u1 + 2) (Int32.toNatClampNeg v2))) * (24 - (I1 (u1 + 1) (Int32.toNatClampNeg v2))))), (6, .int ((I1 (t + 3) (Int32.toNatClampNeg (x3 ^^^ (1 <<< (v2 &&& 31))))) + ((16 * (I1 (u1 + 2) (Int32.toNatClampNeg v2))) * (24 - (I1 (u1 + 1) (Int32.toNatClampNeg v2)))))), (7, .int 0)] [] Z I1 J1)))) ∧ (¬ v2 < (I1 u1 3) → K 0 I1 J1))))) : Jd G mX3_cheapest (jdFm G (qi Z K)) (n + 1) rc rs 0 [(0, .ref (gb G + t)), (1, .ref (gb G + u1)), (2, .ref (gb G + u2)), (3, .int x3)] [] Z I J := by
  refine jd_iload_n (pc := 0) 3 dX3_cheapest_0 rfl rfl ?_
  refine jd_iload_n (pc := 1) 3 dX3_cheapest_1 rfl rfl ?_
  refine jd_ineg (pc := 2) dX3_cheapest_2 ?_
  refine jd_iand (pc := 3) dX3_cheapest_3 ?_
  refine jd_iconst (pc := 4) (v := 1) dX3_cheapest_4 (by decide) ?_
  refine jd_isub (pc := 5) dX3_cheapest_5 ?_
  refine jd_callSi (pc := 6) (M2 := mJ6_bitCount_0f7a4) (av := [.int ((x3 &&& (-x3)) - 1)]) kJ6_bitCount_0f7a4 sJ6_bitCount_0f7a4 lX3_78 rfl rfl (Nat.le_of_ble_eq_true rfl) dX3_cheapest_6 h ?_
  intro v2 I1 J1 h
  refine jd_istore (pc := 9) [(4, .int v2), (0, .ref (gb G + t)), (1, .ref (gb G + u1)), (2, .ref (gb G + u2)), (3, .int x3)] dX3_cheapest_9 (by decide) rfl ?_
  refine jd_iload (pc := 11) 0 dX3_cheapest_11 rfl ?_
  refine jd_aload_n (pc := 13) 2 dX3_cheapest_13 rfl rfl ?_
  refine jd_getI (pc := 14) (ci := 8) (k := 3) gX3_33 hu1.1 rfl dX3_cheapest_14 ?_
  refine jd_icmp_lt (pc := 17) 22 dX3_cheapest_17 (by decide) (fun hc => ?_) (fun hc => ?_)
  · have h := h.1 hc
    refine jd_bipush (pc := 22) (v := 16) dX3_cheapest_22 (by decide) ?_
    refine jd_aload_n (pc := 24) 2 dX3_cheapest_24 rfl rfl ?_
    refine jd_getR (pc := 25) (ci := 8) (k := 1) (r := (u1 + 2)) gX3_51 hu1.1 rfl (zTown_p1 hu1) dX3_cheapest_25 ?_
    refine jd_iload (pc := 28) 0 dX3_cheapest_28 rfl ?_
    obtain ⟨hv3, h⟩ := h
    refine jd_iald (pc := 30) (len := 7) (zTown_a1 hu1) hv3 dX3_cheapest_30 ?_
    refine jd_imul (pc := 31) dX3_cheapest_31 ?_
    refine jd_bipush (pc := 32) (v := 24) dX3_cheapest_32 (by decide) ?_
    refine jd_aload_n (pc := 34) 2 dX3_cheapest_34 rfl rfl ?_
    refine jd_getR (pc := 35) (ci := 8) (k := 0) (r := (u1 + 1)) gX3_38 hu1.1 rfl (zTown_p0 hu1) dX3_cheapest_35 ?_
    refine jd_iload (pc := 38) 0 dX3_cheapest_38 rfl ?_
    obtain ⟨hv4, h⟩ := h
    refine jd_iald (pc := 40) (len := 7) (zTown_a0 hu1) hv4 dX3_cheapest_40 ?_
    refine jd_isub (pc := 41) dX3_cheapest_41 ?_
    refine jd_imul (pc := 42) dX3_cheapest_42 ?_
    refine jd_istore (pc := 43) [(5, .int ((16 * (I1 (u1 + 2) (Int32.toNatClampNeg v2))) * (24 - (I1 (u1 + 1) (Int32.toNatClampNeg v2))))), (4, .int v2), (0, .ref (gb G + t)), (1, .ref (gb G + u1)), (2, .ref (gb G + u2)), (3, .int x3)] dX3_cheapest_43 (by decide) rfl ?_
    refine jd_aload_n (pc := 45) 2 dX3_cheapest_45 rfl rfl ?_
    refine jd_getR (pc := 46) (ci := 2) (k := 2) (r := (t + 3)) gX3_18 ht.1 rfl (zDay_p2 ht) dX3_cheapest_46 ?_
    refine jd_iload_n (pc := 49) 5 dX3_cheapest_49 rfl rfl ?_
    refine jd_iconst (pc := 50) (v := 1) dX3_cheapest_50 (by decide) ?_
    refine jd_iload (pc := 51) 1 dX3_cheapest_51 rfl ?_
    refine jd_ishl (pc := 53) dX3_cheapest_53 ?_
    refine jd_ixor (pc := 54) dX3_cheapest_54 ?_
    obtain ⟨hv5, h⟩ := h
    refine jd_iald (pc := 55) (len := 128) (zDay_a2 ht) hv5 dX3_cheapest_55 ?_
    refine jd_iload (pc := 56) 0 dX3_cheapest_56 rfl ?_
    refine jd_iadd (pc := 58) dX3_cheapest_58 ?_
    refine jd_istore (pc := 59) [(6, .int ((I1 (t + 3) (Int32.toNatClampNeg (x3 ^^^ (1 <<< (v2 &&& 31))))) + ((16 * (I1 (u1 + 2) (Int32.toNatClampNeg v2))) * (24 - (I1 (u1 + 1) (Int32.toNatClampNeg v2)))))), (5, .int ((16 * (I1 (u1 + 2) (Int32.toNatClampNeg v2))) * (24 - (I1 (u1 + 1) (Int32.toNatClampNeg v2))))), (4, .int v2), (0, .ref (gb G + t)), (1, .ref (gb G + u1)), (2, .ref (gb G + u2)), (3, .int x3)] dX3_cheapest_59 (by decide) rfl ?_
    refine jd_iconst (pc := 61) (v := 0) dX3_cheapest_61 (by decide) ?_
    refine jd_istore (pc := 62) [(7, .int 0), (6, .int ((I1 (t + 3) (Int32.toNatClampNeg (x3 ^^^ (1 <<< (v2 &&& 31))))) + ((16 * (I1 (u1 + 2) (Int32.toNatClampNeg v2))) * (24 - (I1 (u1 + 1) (Int32.toNatClampNeg v2)))))), (5, .int ((16 * (I1 (u1 + 2) (Int32.toNatClampNeg v2))) * (24 - (I1 (u1 + 1) (Int32.toNatClampNeg v2))))), (4, .int v2), (0, .ref (gb G + t)), (1, .ref (gb G + u1)), (2, .ref (gb G + u2)), (3, .int x3)] dX3_cheapest_62 (by decide) rfl ?_
    exact jd_lv (lv2 := [(0, .ref (gb G + t)), (1, .ref (gb G + u1)), (2, .ref (gb G + u2)), (3, .int x3), (4, .int v2), (5, .int ((16 * (I1 (u1 + 2) (Int32.toNatClampNeg v2))) * (24 - (I1 (u1 + 1) (Int32.toNatClampNeg v2))))), (6, .int ((I1 (t + 3) (Int32.toNatClampNeg (x3 ^^^ (1 <<< (v2 &&& 31))))) + ((16 * (I1 (u1 + 2) (Int32.toNatClampNeg v2))) * (24 - (I1 (u1 + 1) (Int32.toNatClampNeg v2)))))), (7, .int 0)]) [4, 5, 6, 7, 3, 2, 1, 0] rfl h
  · have h := h.2 hc
    refine jd_iconst (pc := 20) (v := 0) dX3_cheapest_20 (by decide) ?_
    exact jd_iretK (pc := 21) rfl rfl dX3_cheapest_21 h
set_option maxRecDepth 4000 in
theorem rX3_cheapest_64 {G : jdG} {n rc rs : Nat} {Z : jdL} {I : jdI} {J : jdJ} {K : Int32 → jdI → jdJ → Prop} {u2 : Nat} {u1 : Nat} {t : Nat} {x3 : Int32} {x4 : Int32} {x5 : Int32} {x6 : Int32} {x7 : Int32} (ht : zDay Z t) (hu1 : zTown Z u1) (hu2 : zTies Z u2) (h : (((I u2 8) ≤ x7 → K x6 I J) ∧ (¬ (I u2 8) ≤ x7 → (vp_in x7 70 ∧ (((((I (u2 + 3) (Int32.toNatClampNeg x7)) >>> (x4 &&& 31)) &&& 1) = 0 → Jd G mX3_cheapest (jdFm G (qi Z K)) (n + 1) rc rs 64 [(0, .ref (gb G + t)), (1, .ref (gb G + u1)), (2, .ref (gb G + u2)), (3, .int x3), (4, .int x4), (5, .int x5), (6, .int x6), (7, .int (x7 + 1))] [] Z I J) ∧ (¬ (((I (u2 + 3) (Int32.toNatClampNeg x7)) >>> (x4 &&& 31)) &&& 1) = 0 → ((¬ ((I (u2 + 3) (Int32.toNatClampNeg x7)) &&& x3) = (I (u2 + 3) (Int32.toNatClampNeg x7)) → Jd G mX3_cheapest (jdFm G (qi Z K)) (n + 1) rc rs 64 [(0, .ref (gb G + t)), (1, .ref (gb G + u1)), (2, .ref (gb G + u2)), (3, .int x3), (4, .int x4), (5, .int x5), (6, .int x6), (7, .int (x7 + 1))] [] Z I J) ∧ (((I (u2 + 3) (Int32.toNatClampNeg x7)) &&& x3) = (I (u2 + 3) (Int32.toNatClampNeg x7)) → (vp_in (x3 ^^^ (I (u2 + 3) (Int32.toNatClampNeg x7))) 128 ∧ (vp_in x7 70 ∧ Jd G mX3_cheapest (jdFm G (qi Z K)) (n + 1) rc rs 64 [(0, .ref (gb G + t)), (1, .ref (gb G + u1)), (2, .ref (gb G + u2)), (3, .int x3), (4, .int x4), (5, .int x5), (6, .int (if ((I (t + 3) (Int32.toNatClampNeg (x3 ^^^ (I (u2 + 3) (Int32.toNatClampNeg x7))))) + (I (t + 4) (Int32.toNatClampNeg x7))) < x6 then ((I (t + 3) (Int32.toNatClampNeg (x3 ^^^ (I (u2 + 3) (Int32.toNatClampNeg x7))))) + (I (t + 4) (Int32.toNatClampNeg x7))) else x6)), (7, .int (x7 + 1))] [] Z I J)))))))))) : Jd G mX3_cheapest (jdFm G (qi Z K)) (n + 1) rc rs 64 [(0, .ref (gb G + t)), (1, .ref (gb G + u1)), (2, .ref (gb G + u2)), (3, .int x3), (4, .int x4), (5, .int x5), (6, .int x6), (7, .int x7)] [] Z I J := by
  refine jd_iload (pc := 64) 7 dX3_cheapest_64 rfl ?_
  refine jd_aload_n (pc := 66) 2 dX3_cheapest_66 rfl rfl ?_
  refine jd_getI (pc := 67) (ci := 7) (k := 8) gX3_58 hu2.1 rfl dX3_cheapest_67 ?_
  refine jd_icmp_ge (pc := 70) 131 dX3_cheapest_70 (by decide) (fun hc => ?_) (fun hc => ?_)
  · have h := h.1 hc
    refine jd_iload (pc := 131) 6 dX3_cheapest_131 rfl ?_
    exact jd_iretK (pc := 133) rfl rfl dX3_cheapest_133 h
  · have h := h.2 hc
    refine jd_aload_n (pc := 73) 2 dX3_cheapest_73 rfl rfl ?_
    refine jd_getR (pc := 74) (ci := 7) (k := 2) (r := (u2 + 3)) gX3_61 hu2.1 rfl (zTies_p2 hu2) dX3_cheapest_74 ?_
    refine jd_iload (pc := 77) 7 dX3_cheapest_77 rfl ?_
    obtain ⟨hv1, h⟩ := h
    refine jd_iald (pc := 79) (len := 70) (zTies_a2 hu2) hv1 dX3_cheapest_79 ?_
    refine jd_istore (pc := 80) [(8, .int (I (u2 + 3) (Int32.toNatClampNeg x7))), (0, .ref (gb G + t)), (1, .ref (gb G + u1)), (2, .ref (gb G + u2)), (3, .int x3), (4, .int x4), (5, .int x5), (6, .int x6), (7, .int x7)] dX3_cheapest_80 (by decide) rfl ?_
    refine jd_iload (pc := 82) 0 dX3_cheapest_82 rfl ?_
    refine jd_iload (pc := 84) 5 dX3_cheapest_84 rfl ?_
    refine jd_ishr (pc := 86) dX3_cheapest_86 ?_
    refine jd_iconst (pc := 87) (v := 1) dX3_cheapest_87 (by decide) ?_
    refine jd_iand (pc := 88) dX3_cheapest_88 ?_
    refine jd_if_eq (pc := 89) 125 dX3_cheapest_89 (by decide) (fun hc => ?_) (fun hc => ?_)
    · have h := h.1 hc
      refine jd_iinc (pc := 125) (v := (x7 + 1)) 8 [(7, .int (x7 + 1)), (8, .int (I (u2 + 3) (Int32.toNatClampNeg x7))), (0, .ref (gb G + t)), (1, .ref (gb G + u1)), (2, .ref (gb G + u2)), (3, .int x3), (4, .int x4), (5, .int x5), (6, .int x6)] dX3_cheapest_125 rfl rfl (by decide) rfl ?_
      refine jd_goto (pc := 128) 64 dX3_cheapest_128 (by decide) ?_
      exact jd_lv (lv2 := [(0, .ref (gb G + t)), (1, .ref (gb G + u1)), (2, .ref (gb G + u2)), (3, .int x3), (4, .int x4), (5, .int x5), (6, .int x6), (7, .int (x7 + 1))]) [2, 3, 4, 5, 6, 7, 8, 0] rfl h
    · have h := h.2 hc
      refine jd_iload (pc := 92) 0 dX3_cheapest_92 rfl ?_
      refine jd_iload_n (pc := 94) 4 dX3_cheapest_94 rfl rfl ?_
      refine jd_iand (pc := 95) dX3_cheapest_95 ?_
      refine jd_iload (pc := 96) 0 dX3_cheapest_96 rfl ?_
      refine jd_icmp_ne (pc := 98) 125 dX3_cheapest_98 (by decide) (fun hc => ?_) (fun hc => ?_)
      · have h := h.1 hc
        refine jd_iinc (pc := 125) (v := (x7 + 1)) 8 [(7, .int (x7 + 1)), (8, .int (I (u2 + 3) (Int32.toNatClampNeg x7))), (0, .ref (gb G + t)), (1, .ref (gb G + u1)), (2, .ref (gb G + u2)), (3, .int x3), (4, .int x4), (5, .int x5), (6, .int x6)] dX3_cheapest_125 rfl rfl (by decide) rfl ?_
        refine jd_goto (pc := 128) 64 dX3_cheapest_128 (by decide) ?_
        exact jd_lv (lv2 := [(0, .ref (gb G + t)), (1, .ref (gb G + u1)), (2, .ref (gb G + u2)), (3, .int x3), (4, .int x4), (5, .int x5), (6, .int x6), (7, .int (x7 + 1))]) [2, 3, 4, 5, 6, 7, 8, 0] rfl h
      · have h := h.2 hc
        refine jd_iload (pc := 101) 7 dX3_cheapest_101 rfl ?_
        refine jd_aload_n (pc := 103) 1 dX3_cheapest_103 rfl rfl ?_
        refine jd_getR (pc := 104) (ci := 2) (k := 2) (r := (t + 3)) gX3_18 ht.1 rfl (zDay_p2 ht) dX3_cheapest_104 ?_
        refine jd_iload_n (pc := 107) 4 dX3_cheapest_107 rfl rfl ?_
        refine jd_iload (pc := 108) 0 dX3_cheapest_108 rfl ?_
        refine jd_ixor (pc := 110) dX3_cheapest_110 ?_
        obtain ⟨hv2, h⟩ := h
        refine jd_iald (pc := 111) (len := 128) (zDay_a2 ht) hv2 dX3_cheapest_111 ?_
        refine jd_aload_n (pc := 112) 1 dX3_cheapest_112 rfl rfl ?_
        refine jd_getR (pc := 113) (ci := 2) (k := 3) (r := (t + 4)) gX3_23 ht.1 rfl (zDay_p3 ht) dX3_cheapest_113 ?_
        refine jd_iload (pc := 116) 8 dX3_cheapest_116 rfl ?_
        obtain ⟨hv3, h⟩ := h
        refine jd_iald (pc := 118) (len := 70) (zDay_a3 ht) hv3 dX3_cheapest_118 ?_
        refine jd_iadd (pc := 119) dX3_cheapest_119 ?_
        refine jd_min (pc := 120) xX3_84 (Nat.le_of_ble_eq_true rfl) dX3_cheapest_120 ?_
        refine jd_istore (pc := 123) [(6, .int (if ((I (t + 3) (Int32.toNatClampNeg (x3 ^^^ (I (u2 + 3) (Int32.toNatClampNeg x7))))) + (I (t + 4) (Int32.toNatClampNeg x7))) < x6 then ((I (t + 3) (Int32.toNatClampNeg (x3 ^^^ (I (u2 + 3) (Int32.toNatClampNeg x7))))) + (I (t + 4) (Int32.toNatClampNeg x7))) else x6)), (8, .int (I (u2 + 3) (Int32.toNatClampNeg x7))), (0, .ref (gb G + t)), (1, .ref (gb G + u1)), (2, .ref (gb G + u2)), (3, .int x3), (4, .int x4), (5, .int x5), (7, .int x7)] dX3_cheapest_123 (by decide) rfl ?_
        refine jd_iinc (pc := 125) (v := (x7 + 1)) 8 [(7, .int (x7 + 1)), (6, .int (if ((I (t + 3) (Int32.toNatClampNeg (x3 ^^^ (I (u2 + 3) (Int32.toNatClampNeg x7))))) + (I (t + 4) (Int32.toNatClampNeg x7))) < x6 then ((I (t + 3) (Int32.toNatClampNeg (x3 ^^^ (I (u2 + 3) (Int32.toNatClampNeg x7))))) + (I (t + 4) (Int32.toNatClampNeg x7))) else x6)), (8, .int (I (u2 + 3) (Int32.toNatClampNeg x7))), (0, .ref (gb G + t)), (1, .ref (gb G + u1)), (2, .ref (gb G + u2)), (3, .int x3), (4, .int x4), (5, .int x5)] dX3_cheapest_125 rfl rfl (by decide) rfl ?_
        refine jd_goto (pc := 128) 64 dX3_cheapest_128 (by decide) ?_
        exact jd_lv (lv2 := [(0, .ref (gb G + t)), (1, .ref (gb G + u1)), (2, .ref (gb G + u2)), (3, .int x3), (4, .int x4), (5, .int x5), (6, .int (if ((I (t + 3) (Int32.toNatClampNeg (x3 ^^^ (I (u2 + 3) (Int32.toNatClampNeg x7))))) + (I (t + 4) (Int32.toNatClampNeg x7))) < x6 then ((I (t + 3) (Int32.toNatClampNeg (x3 ^^^ (I (u2 + 3) (Int32.toNatClampNeg x7))))) + (I (t + 4) (Int32.toNatClampNeg x7))) else x6)), (7, .int (x7 + 1))]) [3, 4, 5, 6, 7, 8, 1, 0] rfl h
theorem eX3_cheapest {G : jdG} {n : Nat} {Z : jdL} {I : jdI} {J : jdJ} {K : Int32 → jdI → jdJ → Prop} {t : Nat} {u1 : Nat} {u2 : Nat} {x3 : Int32} (ht : zDay Z t) (hu1 : zTown Z u1) (hu2 : zTies Z u2) (h : Cl G mJ6_bitCount_0f7a4 n 0 0 [.int ((x3 &&& (-x3)) - 1)] Z I J (qi Z (fun v2 I1 J1 => ((v2 < (I1 u1 3) → (vp_in v2 7 ∧ (vp_in v2 7 ∧ (vp_in (x3 ^^^ (1 <<< (v2 &&& 31))) 128 ∧ Jd G mX3_cheapest (jdFm G (qi Z K)) (n + 1) 0 0 64 [(0, .ref (gb G + t)), (1, .ref (gb G + u1)), (2, .ref (gb G + u2)), (3, .int x3), (4, .int v2), (5, .int ((16 * (I1 (u1 + 2) (Int32.toNatClampNeg v2))) * (24 - (I1 (u1 + 1) (Int32.toNatClampNeg v2))))), (6, .int ((I1 (t + 3) (Int32.toNatClampNeg (x3 ^^^ (1 <<< (v2 &&& 31))))) + ((16 * (I1 (u1 + 2) (Int32.toNatClampNeg v2))) * (24 - (I1 (u1 + 1) (Int32.toNatClampNeg v2)))))), (7, .int 0)] [] Z I1 J1)))) ∧ (¬ v2 < (I1 u1 3) → K 0 I1 J1))))) : Cl G mX3_cheapest (n + 1) 0 0 [.ref (gb G + t), .ref (gb G + u1), .ref (gb G + u2), .int x3] Z I J (qi Z K) :=
  Cl.of (by decide +kernel) (Nat.le_of_ble_eq_true rfl) (rX3_cheapest_0 ht hu1 hu2 h)
set_option maxRecDepth 4000 in
theorem rX3_waitingTogether_0 {G : jdG} {n rc rs : Nat} {Z : jdL} {I : jdI} {J : jdJ} {K : Int32 → jdI → jdJ → Prop} {u0 : Nat} {x1 : Int32} (hu0 : zTown Z u0) (h : Jd G mX3_waitingTogether (jdFm G (qi Z K)) (n + 1) rc rs 4 [(0, .ref (gb G + u0)), (1, .int x1), (2, .int 0), (3, .int 0)] [] Z I J) : Jd G mX3_waitingTogether (jdFm G (qi Z K)) (n + 1) rc rs 0 [(0, .ref (gb G + u0)), (1, .int x1)] [] Z I J := by
  refine jd_iconst (pc := 0) (v := 0) dX3_waitingTogether_0 (by decide) ?_
  refine jd_istore_n (pc := 1) [(2, .int 0), (0, .ref (gb G + u0)), (1, .int x1)] dX3_waitingTogether_1 rfl (by decide) rfl ?_
  refine jd_iconst (pc := 2) (v := 0) dX3_waitingTogether_2 (by decide) ?_
  refine jd_istore_n (pc := 3) [(3, .int 0), (2, .int 0), (0, .ref (gb G + u0)), (1, .int x1)] dX3_waitingTogether_3 rfl (by decide) rfl ?_
  exact jd_lv (lv2 := [(0, .ref (gb G + u0)), (1, .int x1), (2, .int 0), (3, .int 0)]) [2, 3, 1, 0] rfl h
set_option maxRecDepth 4000 in
theorem rX3_waitingTogether_4 {G : jdG} {n rc rs : Nat} {Z : jdL} {I : jdI} {J : jdJ} {K : Int32 → jdI → jdJ → Prop} {u0 : Nat} {x1 : Int32} {x2 : Int32} {x3 : Int32} (hu0 : zTown Z u0) (h : (((I u0 3) ≤ x3 → Jd G mX3_waitingTogether (jdFm G (qi Z K)) (n + 1) rc rs 42 [(0, .ref (gb G + u0)), (1, .int x1), (2, .int x2), (3, .int 0), (4, .int 0)] [] Z I J) ∧ (¬ (I u0 3) ≤ x3 → ((((x1 >>> (x3 &&& 31)) &&& 1) = 0 → Jd G mX3_waitingTogether (jdFm G (qi Z K)) (n + 1) rc rs 4 [(0, .ref (gb G + u0)), (1, .int x1), (2, .int x2), (3, .int (x3 + 1))] [] Z I J) ∧ (¬ ((x1 >>> (x3 &&& 31)) &&& 1) = 0 → (vp_in x3 7 ∧ Jd G mX3_waitingTogether (jdFm G (qi Z K)) (n + 1) rc rs 4 [(0, .ref (gb G + u0)), (1, .int x1), (2, .int (if x2 < (I (u0 + 1) (Int32.toNatClampNeg x3)) then (I (u0 + 1) (Int32.toNatClampNeg x3)) else x2)), (3, .int (x3 + 1))] [] Z I J)))))) : Jd G mX3_waitingTogether (jdFm G (qi Z K)) (n + 1) rc rs 4 [(0, .ref (gb G + u0)), (1, .int x1), (2, .int x2), (3, .int x3)] [] Z I J := by
  refine jd_iload_n (pc := 4) 3 dX3_waitingTogether_4 rfl rfl ?_
  refine jd_aload_n (pc := 5) 0 dX3_waitingTogether_5 rfl rfl ?_
  refine jd_getI (pc := 6) (ci := 8) (k := 3) gX3_33 hu0.1 rfl dX3_waitingTogether_6 ?_
  refine jd_icmp_ge (pc := 9) 37 dX3_waitingTogether_9 (by decide) (fun hc => ?_) (fun hc => ?_)
  · have h := h.1 hc
    refine jd_iconst (pc := 37) (v := 0) dX3_waitingTogether_37 (by decide) ?_
    refine jd_istore_n (pc := 38) [(3, .int 0), (0, .ref (gb G + u0)), (1, .int x1), (2, .int x2)] dX3_waitingTogether_38 rfl (by decide) rfl ?_
    refine jd_iconst (pc := 39) (v := 0) dX3_waitingTogether_39 (by decide) ?_
    refine jd_istore (pc := 40) [(4, .int 0), (3, .int 0), (0, .ref (gb G + u0)), (1, .int x1), (2, .int x2)] dX3_waitingTogether_40 (by decide) rfl ?_
    exact jd_lv (lv2 := [(0, .ref (gb G + u0)), (1, .int x1), (2, .int x2), (3, .int 0), (4, .int 0)]) [2, 3, 4, 1, 0] rfl h
  · have h := h.2 hc
    refine jd_iload_n (pc := 12) 1 dX3_waitingTogether_12 rfl rfl ?_
    refine jd_iload_n (pc := 13) 3 dX3_waitingTogether_13 rfl rfl ?_
    refine jd_ishr (pc := 14) dX3_waitingTogether_14 ?_
    refine jd_iconst (pc := 15) (v := 1) dX3_waitingTogether_15 (by decide) ?_
    refine jd_iand (pc := 16) dX3_waitingTogether_16 ?_
    refine jd_if_eq (pc := 17) 31 dX3_waitingTogether_17 (by decide) (fun hc => ?_) (fun hc => ?_)
    · have h := h.1 hc
      refine jd_iinc (pc := 31) (v := (x3 + 1)) 3 [(3, .int (x3 + 1)), (0, .ref (gb G + u0)), (1, .int x1), (2, .int x2)] dX3_waitingTogether_31 rfl rfl (by decide) rfl ?_
      refine jd_goto (pc := 34) 4 dX3_waitingTogether_34 (by decide) ?_
      exact jd_lv (lv2 := [(0, .ref (gb G + u0)), (1, .int x1), (2, .int x2), (3, .int (x3 + 1))]) [1, 2, 3, 0] rfl h
    · have h := h.2 hc
      refine jd_iload_n (pc := 20) 2 dX3_waitingTogether_20 rfl rfl ?_
      refine jd_aload_n (pc := 21) 0 dX3_waitingTogether_21 rfl rfl ?_
      refine jd_getR (pc := 22) (ci := 8) (k := 0) (r := (u0 + 1)) gX3_38 hu0.1 rfl (zTown_p0 hu0) dX3_waitingTogether_22 ?_
      refine jd_iload_n (pc := 25) 3 dX3_waitingTogether_25 rfl rfl ?_
      obtain ⟨hv1, h⟩ := h
      refine jd_iald (pc := 26) (len := 7) (zTown_a0 hu0) hv1 dX3_waitingTogether_26 ?_
      refine jd_max (pc := 27) xX3_90 (Nat.le_of_ble_eq_true rfl) dX3_waitingTogether_27 ?_
      refine jd_istore_n (pc := 30) [(2, .int (if x2 < (I (u0 + 1) (Int32.toNatClampNeg x3)) then (I (u0 + 1) (Int32.toNatClampNeg x3)) else x2)), (0, .ref (gb G + u0)), (1, .int x1), (3, .int x3)] dX3_waitingTogether_30 rfl (by decide) rfl ?_
      refine jd_iinc (pc := 31) (v := (x3 + 1)) 3 [(3, .int (x3 + 1)), (2, .int (if x2 < (I (u0 + 1) (Int32.toNatClampNeg x3)) then (I (u0 + 1) (Int32.toNatClampNeg x3)) else x2)), (0, .ref (gb G + u0)), (1, .int x1)] dX3_waitingTogether_31 rfl rfl (by decide) rfl ?_
      refine jd_goto (pc := 34) 4 dX3_waitingTogether_34 (by decide) ?_
      exact jd_lv (lv2 := [(0, .ref (gb G + u0)), (1, .int x1), (2, .int (if x2 < (I (u0 + 1) (Int32.toNatClampNeg x3)) then (I (u0 + 1) (Int32.toNatClampNeg x3)) else x2)), (3, .int (x3 + 1))]) [2, 3, 1, 0] rfl h
set_option maxRecDepth 4000 in
theorem rX3_waitingTogether_42 {G : jdG} {n rc rs : Nat} {Z : jdL} {I : jdI} {J : jdJ} {K : Int32 → jdI → jdJ → Prop} {u0 : Nat} {x1 : Int32} {x2 : Int32} {x3 : Int32} {x4 : Int32} (hu0 : zTown Z u0) (h : (((I u0 3) ≤ x4 → K x3 I J) ∧ (¬ (I u0 3) ≤ x4 → ((((x1 >>> (x4 &&& 31)) &&& 1) = 0 → Jd G mX3_waitingTogether (jdFm G (qi Z K)) (n + 1) rc rs 42 [(0, .ref (gb G + u0)), (1, .int x1), (2, .int x2), (3, .int x3), (4, .int (x4 + 1))] [] Z I J) ∧ (¬ ((x1 >>> (x4 &&& 31)) &&& 1) = 0 → (vp_in x4 7 ∧ (vp_in x4 7 ∧ Jd G mX3_waitingTogether (jdFm G (qi Z K)) (n + 1) rc rs 42 [(0, .ref (gb G + u0)), (1, .int x1), (2, .int x2), (3, .int (x3 + ((I (u0 + 2) (Int32.toNatClampNeg x4)) * (x2 - (I (u0 + 1) (Int32.toNatClampNeg x4)))))), (4, .int (x4 + 1))] [] Z I J))))))) : Jd G mX3_waitingTogether (jdFm G (qi Z K)) (n + 1) rc rs 42 [(0, .ref (gb G + u0)), (1, .int x1), (2, .int x2), (3, .int x3), (4, .int x4)] [] Z I J := by
  refine jd_iload (pc := 42) 4 dX3_waitingTogether_42 rfl ?_
  refine jd_aload_n (pc := 44) 0 dX3_waitingTogether_44 rfl rfl ?_
  refine jd_getI (pc := 45) (ci := 8) (k := 3) gX3_33 hu0.1 rfl dX3_waitingTogether_45 ?_
  refine jd_icmp_ge (pc := 48) 86 dX3_waitingTogether_48 (by decide) (fun hc => ?_) (fun hc => ?_)
  · have h := h.1 hc
    refine jd_iload_n (pc := 86) 3 dX3_waitingTogether_86 rfl rfl ?_
    exact jd_iretK (pc := 87) rfl rfl dX3_waitingTogether_87 h
  · have h := h.2 hc
    refine jd_iload_n (pc := 51) 1 dX3_waitingTogether_51 rfl rfl ?_
    refine jd_iload (pc := 52) 4 dX3_waitingTogether_52 rfl ?_
    refine jd_ishr (pc := 54) dX3_waitingTogether_54 ?_
    refine jd_iconst (pc := 55) (v := 1) dX3_waitingTogether_55 (by decide) ?_
    refine jd_iand (pc := 56) dX3_waitingTogether_56 ?_
    refine jd_if_eq (pc := 57) 80 dX3_waitingTogether_57 (by decide) (fun hc => ?_) (fun hc => ?_)
    · have h := h.1 hc
      refine jd_iinc (pc := 80) (v := (x4 + 1)) 4 [(4, .int (x4 + 1)), (0, .ref (gb G + u0)), (1, .int x1), (2, .int x2), (3, .int x3)] dX3_waitingTogether_80 rfl rfl (by decide) rfl ?_
      refine jd_goto (pc := 83) 42 dX3_waitingTogether_83 (by decide) ?_
      exact jd_lv (lv2 := [(0, .ref (gb G + u0)), (1, .int x1), (2, .int x2), (3, .int x3), (4, .int (x4 + 1))]) [1, 2, 3, 4, 0] rfl h
    · have h := h.2 hc
      refine jd_iload_n (pc := 60) 3 dX3_waitingTogether_60 rfl rfl ?_
      refine jd_aload_n (pc := 61) 0 dX3_waitingTogether_61 rfl rfl ?_
      refine jd_getR (pc := 62) (ci := 8) (k := 1) (r := (u0 + 2)) gX3_51 hu0.1 rfl (zTown_p1 hu0) dX3_waitingTogether_62 ?_
      refine jd_iload (pc := 65) 4 dX3_waitingTogether_65 rfl ?_
      obtain ⟨hv1, h⟩ := h
      refine jd_iald (pc := 67) (len := 7) (zTown_a1 hu0) hv1 dX3_waitingTogether_67 ?_
      refine jd_iload_n (pc := 68) 2 dX3_waitingTogether_68 rfl rfl ?_
      refine jd_aload_n (pc := 69) 0 dX3_waitingTogether_69 rfl rfl ?_
      refine jd_getR (pc := 70) (ci := 8) (k := 0) (r := (u0 + 1)) gX3_38 hu0.1 rfl (zTown_p0 hu0) dX3_waitingTogether_70 ?_
      refine jd_iload (pc := 73) 4 dX3_waitingTogether_73 rfl ?_
      obtain ⟨hv2, h⟩ := h
      refine jd_iald (pc := 75) (len := 7) (zTown_a0 hu0) hv2 dX3_waitingTogether_75 ?_
      refine jd_isub (pc := 76) dX3_waitingTogether_76 ?_
      refine jd_imul (pc := 77) dX3_waitingTogether_77 ?_
      refine jd_iadd (pc := 78) dX3_waitingTogether_78 ?_
      refine jd_istore_n (pc := 79) [(3, .int (x3 + ((I (u0 + 2) (Int32.toNatClampNeg x4)) * (x2 - (I (u0 + 1) (Int32.toNatClampNeg x4)))))), (0, .ref (gb G + u0)), (1, .int x1), (2, .int x2), (4, .int x4)] dX3_waitingTogether_79 rfl (by decide) rfl ?_
      refine jd_iinc (pc := 80) (v := (x4 + 1)) 4 [(4, .int (x4 + 1)), (3, .int (x3 + ((I (u0 + 2) (Int32.toNatClampNeg x4)) * (x2 - (I (u0 + 1) (Int32.toNatClampNeg x4)))))), (0, .ref (gb G + u0)), (1, .int x1), (2, .int x2)] dX3_waitingTogether_80 rfl rfl (by decide) rfl ?_
      refine jd_goto (pc := 83) 42 dX3_waitingTogether_83 (by decide) ?_
      exact jd_lv (lv2 := [(0, .ref (gb G + u0)), (1, .int x1), (2, .int x2), (3, .int (x3 + ((I (u0 + 2) (Int32.toNatClampNeg x4)) * (x2 - (I (u0 + 1) (Int32.toNatClampNeg x4)))))), (4, .int (x4 + 1))]) [2, 3, 4, 1, 0] rfl h
theorem eX3_waitingTogether {G : jdG} {n : Nat} {Z : jdL} {I : jdI} {J : jdJ} {K : Int32 → jdI → jdJ → Prop} {u0 : Nat} {x1 : Int32} (hu0 : zTown Z u0) (h : Jd G mX3_waitingTogether (jdFm G (qi Z K)) (n + 1) 0 0 4 [(0, .ref (gb G + u0)), (1, .int x1), (2, .int 0), (3, .int 0)] [] Z I J) : Cl G mX3_waitingTogether (n + 1) 0 0 [.ref (gb G + u0), .int x1] Z I J (qi Z K) :=
  Cl.of (by decide +kernel) (Nat.le_of_ble_eq_true rfl) (rX3_waitingTogether_0 hu0 h)
set_option maxRecDepth 4000 in
theorem rX3_leastWaiting_0 {G : jdG} {n rc rs : Nat} {Z : jdL} {I : jdI} {J : jdJ} {K : Int32 → jdI → jdJ → Prop} {t : Nat} (ht : zDay Z t) (h : K ((((I t 6) + 16) - 1) / 16) I J) : Jd G mX3_leastWaiting (jdFm G (qi Z K)) n rc rs 0 [(0, .ref (gb G + t))] [] Z I J := by
  refine jd_aload_n (pc := 0) 0 dX3_leastWaiting_0 rfl rfl ?_
  refine jd_getI (pc := 1) (ci := 2) (k := 6) gX3_75 ht.1 rfl dX3_leastWaiting_1 ?_
  refine jd_bipush (pc := 4) (v := 16) dX3_leastWaiting_4 (by decide) ?_
  refine jd_iadd (pc := 6) dX3_leastWaiting_6 ?_
  refine jd_iconst (pc := 7) (v := 1) dX3_leastWaiting_7 (by decide) ?_
  refine jd_isub (pc := 8) dX3_leastWaiting_8 ?_
  refine jd_bipush (pc := 9) (v := 16) dX3_leastWaiting_9 (by decide) ?_
  refine jd_idiv (pc := 11) dX3_leastWaiting_11 (by decide) ?_
  exact jd_iretK (pc := 12) rfl rfl dX3_leastWaiting_12 h
theorem eX3_leastWaiting {G : jdG} {n : Nat} {Z : jdL} {I : jdI} {J : jdJ} {K : Int32 → jdI → jdJ → Prop} {t : Nat} (ht : zDay Z t) (h : K ((((I t 6) + 16) - 1) / 16) I J) : Cl G mX3_leastWaiting (n) 0 0 [.ref (gb G + t)] Z I J (qi Z K) :=
  Cl.of (by decide +kernel) (Nat.le_of_ble_eq_true rfl) (rX3_leastWaiting_0 ht h)
set_option maxRecDepth 4000 in
theorem rX3_leastCoaches_0 {G : jdG} {n rc rs : Nat} {Z : jdL} {I : jdI} {J : jdJ} {K : Int32 → jdI → jdJ → Prop} {t : Nat} (ht : zDay Z t) (h : Cl G mX3_leastWaiting n 0 0 [.ref (gb G + t)] Z I J (qi Z (fun v2 I1 J1 => K ((v2 * 16) - (I1 t 6)) I1 J1))) : Jd G mX3_leastCoaches (jdFm G (qi Z K)) (n + 1) rc rs 0 [(0, .ref (gb G + t))] [] Z I J := by
  refine jd_aload_n (pc := 0) 0 dX3_leastCoaches_0 rfl rfl ?_
  refine jd_callVi (pc := 1) (M2 := mX3_leastWaiting) (id := t) (ci := 2) (T := TX3) (N := 7) (av := []) kX3_leastWaiting sX3_leastWaiting rfl ht.1 lX3_93 rfl rfl (Nat.le_of_ble_eq_true rfl) dX3_leastCoaches_1 h ?_
  intro v2 I1 J1 h
  refine jd_bipush (pc := 4) (v := 16) dX3_leastCoaches_4 (by decide) ?_
  refine jd_imul (pc := 6) dX3_leastCoaches_6 ?_
  refine jd_aload_n (pc := 7) 0 dX3_leastCoaches_7 rfl rfl ?_
  refine jd_getI (pc := 8) (ci := 2) (k := 6) gX3_75 ht.1 rfl dX3_leastCoaches_8 ?_
  refine jd_isub (pc := 11) dX3_leastCoaches_11 ?_
  exact jd_iretK (pc := 12) rfl rfl dX3_leastCoaches_12 h
theorem eX3_leastCoaches {G : jdG} {n : Nat} {Z : jdL} {I : jdI} {J : jdJ} {K : Int32 → jdI → jdJ → Prop} {t : Nat} (ht : zDay Z t) (h : Cl G mX3_leastWaiting n 0 0 [.ref (gb G + t)] Z I J (qi Z (fun v2 I1 J1 => K ((v2 * 16) - (I1 t 6)) I1 J1))) : Cl G mX3_leastCoaches (n + 1) 0 0 [.ref (gb G + t)] Z I J (qi Z K) :=
  Cl.of (by decide +kernel) (Nat.le_of_ble_eq_true rfl) (rX3_leastCoaches_0 ht h)
set_option maxRecDepth 4000 in
theorem rX0_kind_0 {G : jdG} {n rc rs : Nat} {Z : jdL} {I : jdI} {J : jdJ} {K : Int32 → jdI → jdJ → Prop} {t : Nat} (ht : Z.1 t = some (0 + 10, 0)) (h : K 5 I J) : Jd G mX0_kind (jdFm G (qi Z K)) n rc rs 0 [(0, .ref (gb G + t))] [] Z I J := by
  refine jd_iconst (pc := 0) (v := 5) dX0_kind_0 (by decide) ?_
  exact jd_iretK (pc := 1) rfl rfl dX0_kind_1 h
theorem eX0_kind {G : jdG} {n : Nat} {Z : jdL} {I : jdI} {J : jdJ} {K : Int32 → jdI → jdJ → Prop} {t : Nat} (ht : Z.1 t = some (0 + 10, 0)) (h : K 5 I J) : Cl G mX0_kind (n) 0 0 [.ref (gb G + t)] Z I J (qi Z K) :=
  Cl.of (by decide +kernel) (Nat.le_of_ble_eq_true rfl) (rX0_kind_0 ht h)
set_option maxRecDepth 4000 in
theorem rX0_worth_0 {G : jdG} {n rc rs : Nat} {Z : jdL} {I : jdI} {J : jdJ} {K : Int32 → jdI → jdJ → Prop} {t : Nat} {u1 : Nat} {x2 : Int32} {x3 : Int32} (ht : Z.1 t = some (0 + 10, 0)) (hu1 : zTies Z u1) (h : Cl G mX8_mostFrom n 0 0 [.ref (gb G + u1), .int (x2 &&& (x3 ^^^ (-1)))] Z I J (qi Z (fun v2 I1 J1 => K v2 I1 J1))) : Jd G mX0_worth (jdFm G (qi Z K)) (n + 1) rc rs 0 [(0, .ref (gb G + t)), (1, .ref (gb G + u1)), (2, .int x2), (3, .int x3)] [] Z I J := by
  refine jd_aload_n (pc := 0) 1 dX0_worth_0 rfl rfl ?_
  refine jd_iload_n (pc := 1) 2 dX0_worth_1 rfl rfl ?_
  refine jd_iload_n (pc := 2) 3 dX0_worth_2 rfl rfl ?_
  refine jd_iconst (pc := 3) (v := (-1)) dX0_worth_3 (by decide) ?_
  refine jd_ixor (pc := 4) dX0_worth_4 ?_
  refine jd_iand (pc := 5) dX0_worth_5 ?_
  refine jd_callVi (pc := 6) (M2 := mX8_mostFrom) (id := u1) (ci := 7) (T := TX8) (N := 11) (av := [.int (x2 &&& (x3 ^^^ (-1)))]) kX8_mostFrom sX8_mostFrom rfl hu1.1 lX0_7 rfl rfl (Nat.le_of_ble_eq_true rfl) dX0_worth_6 h ?_
  intro v2 I1 J1 h
  exact jd_iretK (pc := 9) rfl rfl dX0_worth_9 h
theorem eX0_worth {G : jdG} {n : Nat} {Z : jdL} {I : jdI} {J : jdJ} {K : Int32 → jdI → jdJ → Prop} {t : Nat} {u1 : Nat} {x2 : Int32} {x3 : Int32} (ht : Z.1 t = some (0 + 10, 0)) (hu1 : zTies Z u1) (h : Cl G mX8_mostFrom n 0 0 [.ref (gb G + u1), .int (x2 &&& (x3 ^^^ (-1)))] Z I J (qi Z (fun v2 I1 J1 => K v2 I1 J1))) : Cl G mX0_worth (n + 1) 0 0 [.ref (gb G + t), .ref (gb G + u1), .int x2, .int x3] Z I J (qi Z K) :=
  Cl.of (by decide +kernel) (Nat.le_of_ble_eq_true rfl) (rX0_worth_0 ht hu1 h)
set_option maxRecDepth 4000 in
theorem rX1_kind_0 {G : jdG} {n rc rs : Nat} {Z : jdL} {I : jdI} {J : jdJ} {K : Int32 → jdI → jdJ → Prop} {t : Nat} (ht : Z.1 t = some (1 + 10, 0)) (h : K 2 I J) : Jd G mX1_kind (jdFm G (qi Z K)) n rc rs 0 [(0, .ref (gb G + t))] [] Z I J := by
  refine jd_iconst (pc := 0) (v := 2) dX1_kind_0 (by decide) ?_
  exact jd_iretK (pc := 1) rfl rfl dX1_kind_1 h
theorem eX1_kind {G : jdG} {n : Nat} {Z : jdL} {I : jdI} {J : jdJ} {K : Int32 → jdI → jdJ → Prop} {t : Nat} (ht : Z.1 t = some (1 + 10, 0)) (h : K 2 I J) : Cl G mX1_kind (n) 0 0 [.ref (gb G + t)] Z I J (qi Z K) :=
  Cl.of (by decide +kernel) (Nat.le_of_ble_eq_true rfl) (rX1_kind_0 ht h)
set_option maxRecDepth 4000 in
theorem rX1_worth_0 {G : jdG} {n rc rs : Nat} {Z : jdL} {I : jdI} {J : jdJ} {K : Int32 → jdI → jdJ → Prop} {t : Nat} {u1 : Nat} {x2 : Int32} {x3 : Int32} (ht : Z.1 t = some (1 + 10, 0)) (hu1 : zTies Z u1) (h : Cl G mX8_costTogether n 0 0 [.ref (gb G + u1), .int x3] Z I J (qi Z (fun v2 I1 J1 => K v2 I1 J1))) : Jd G mX1_worth (jdFm G (qi Z K)) (n + 1) rc rs 0 [(0, .ref (gb G + t)), (1, .ref (gb G + u1)), (2, .int x2), (3, .int x3)] [] Z I J := by
  refine jd_aload_n (pc := 0) 1 dX1_worth_0 rfl rfl ?_
  refine jd_iload_n (pc := 1) 3 dX1_worth_1 rfl rfl ?_
  refine jd_callVi (pc := 2) (M2 := mX8_costTogether) (id := u1) (ci := 7) (T := TX8) (N := 11) (av := [.int x3]) kX8_costTogether sX8_costTogether rfl hu1.1 lX1_7 rfl rfl (Nat.le_of_ble_eq_true rfl) dX1_worth_2 h ?_
  intro v2 I1 J1 h
  exact jd_iretK (pc := 5) rfl rfl dX1_worth_5 h
theorem eX1_worth {G : jdG} {n : Nat} {Z : jdL} {I : jdI} {J : jdJ} {K : Int32 → jdI → jdJ → Prop} {t : Nat} {u1 : Nat} {x2 : Int32} {x3 : Int32} (ht : Z.1 t = some (1 + 10, 0)) (hu1 : zTies Z u1) (h : Cl G mX8_costTogether n 0 0 [.ref (gb G + u1), .int x3] Z I J (qi Z (fun v2 I1 J1 => K v2 I1 J1))) : Cl G mX1_worth (n + 1) 0 0 [.ref (gb G + t), .ref (gb G + u1), .int x2, .int x3] Z I J (qi Z K) :=
  Cl.of (by decide +kernel) (Nat.le_of_ble_eq_true rfl) (rX1_worth_0 ht hu1 h)
set_option maxRecDepth 4000 in
theorem rX1_pick_0 {G : jdG} {n rc rs : Nat} {Z : jdL} {I : jdI} {J : jdJ} {K : Int32 → jdI → jdJ → Prop} {t : Nat} {u1 : Nat} {x2 : Int32} {x3 : Int32} (ht : zCho Z t) (hu1 : zTies Z u1) (h : Jd G mX1_pick (jdFm G (qi Z K)) (n + 1) rc rs 9 [(0, .ref (gb G + t)), (1, .ref (gb G + u1)), (2, .int x2), (3, .int x3), (4, .int 0), (5, .int 0), (6, .int 0)] [] Z I J) : Jd G mX1_pick (jdFm G (qi Z K)) (n + 1) rc rs 0 [(0, .ref (gb G + t)), (1, .ref (gb G + u1)), (2, .int x2), (3, .int x3)] [] Z I J := by
  refine jd_iconst (pc := 0) (v := 0) dX1_pick_0 (by decide) ?_
  refine jd_istore (pc := 1) [(4, .int 0), (0, .ref (gb G + t)), (1, .ref (gb G + u1)), (2, .int x2), (3, .int x3)] dX1_pick_1 (by decide) rfl ?_
  refine jd_iconst (pc := 3) (v := 0) dX1_pick_3 (by decide) ?_
  refine jd_istore (pc := 4) [(5, .int 0), (4, .int 0), (0, .ref (gb G + t)), (1, .ref (gb G + u1)), (2, .int x2), (3, .int x3)] dX1_pick_4 (by decide) rfl ?_
  refine jd_iconst (pc := 6) (v := 0) dX1_pick_6 (by decide) ?_
  refine jd_istore (pc := 7) [(6, .int 0), (5, .int 0), (4, .int 0), (0, .ref (gb G + t)), (1, .ref (gb G + u1)), (2, .int x2), (3, .int x3)] dX1_pick_7 (by decide) rfl ?_
  exact jd_lv (lv2 := [(0, .ref (gb G + t)), (1, .ref (gb G + u1)), (2, .int x2), (3, .int x3), (4, .int 0), (5, .int 0), (6, .int 0)]) [3, 4, 5, 6, 2, 1, 0] rfl h
set_option maxRecDepth 4000 in
theorem rX1_pick_9 {G : jdG} {n rc rs : Nat} {Z : jdL} {I : jdI} {J : jdJ} {K : Int32 → jdI → jdJ → Prop} {u1 : Nat} {t : Nat} {x2 : Int32} {x3 : Int32} {x4 : Int32} {x5 : Int32} {x6 : Int32} (ht : zCho Z t) (hu1 : zTies Z u1) (h : (((I u1 8) ≤ x6 → K x4 I J) ∧ (¬ (I u1 8) ≤ x6 → (vp_in x6 70 ∧ ((¬ ((I (u1 + 3) (Int32.toNatClampNeg x6)) &&& x2) = (I (u1 + 3) (Int32.toNatClampNeg x6)) → Jd G mX1_pick (jdFm G (qi Z K)) (n + 1) rc rs 9 [(0, .ref (gb G + t)), (1, .ref (gb G + u1)), (2, .int x2), (3, .int x3), (4, .int x4), (5, .int x5), (6, .int (x6 + 1))] [] Z I J) ∧ (((I (u1 + 3) (Int32.toNatClampNeg x6)) &&& x2) = (I (u1 + 3) (Int32.toNatClampNeg x6)) → (∀ q ∈ a_worth, (Z).1 t = some (q.1 + 10, 0) → Cl G q.2 n 0 0 [.ref (gb G + t), .ref (gb G + u1), .int x2, .int (I (u1 + 3) (Int32.toNatClampNeg x6))] Z I J (qi Z (fun v3 I2 J2 => ((x4 = 0 → Jd G mX1_pick (jdFm G (qi Z K)) (n + 1) rc rs 9 [(0, .ref (gb G + t)), (1, .ref (gb G + u1)), (2, .int x2), (3, .int x3), (4, .int (I (u1 + 3) (Int32.toNatClampNeg x6))), (5, .int v3), (6, .int (x6 + 1))] [] Z I2 J2) ∧ (¬ x4 = 0 → ((v3 ≤ x5 → Jd G mX1_pick (jdFm G (qi Z K)) (n + 1) rc rs 9 [(0, .ref (gb G + t)), (1, .ref (gb G + u1)), (2, .int x2), (3, .int x3), (4, .int x4), (5, .int x5), (6, .int (x6 + 1))] [] Z I2 J2) ∧ (¬ v3 ≤ x5 → Jd G mX1_pick (jdFm G (qi Z K)) (n + 1) rc rs 9 [(0, .ref (gb G + t)), (1, .ref (gb G + u1)), (2, .int x2), (3, .int x3), (4, .int (I (u1 + 3) (Int32.toNatClampNeg x6))), (5, .int v3), (6, .int (x6 + 1))] [] Z I2 J2))))))))))))) : Jd G mX1_pick (jdFm G (qi Z K)) (n + 1) rc rs 9 [(0, .ref (gb G + t)), (1, .ref (gb G + u1)), (2, .int x2), (3, .int x3), (4, .int x4), (5, .int x5), (6, .int x6)] [] Z I J := by
  refine jd_iload (pc := 9) 6 dX1_pick_9 rfl ?_
  refine jd_aload_n (pc := 11) 1 dX1_pick_11 rfl rfl ?_
  refine jd_getI (pc := 12) (ci := 7) (k := 8) gX1_13 hu1.1 rfl dX1_pick_12 ?_
  refine jd_icmp_ge (pc := 15) 72 dX1_pick_15 (by decide) (fun hc => ?_) (fun hc => ?_)
  · have h := h.1 hc
    refine jd_iload (pc := 72) 4 dX1_pick_72 rfl ?_
    exact jd_iretK (pc := 74) rfl rfl dX1_pick_74 h
  · have h := h.2 hc
    refine jd_aload_n (pc := 18) 1 dX1_pick_18 rfl rfl ?_
    refine jd_getR (pc := 19) (ci := 7) (k := 2) (r := (u1 + 3)) gX1_17 hu1.1 rfl (zTies_p2 hu1) dX1_pick_19 ?_
    refine jd_iload (pc := 22) 6 dX1_pick_22 rfl ?_
    obtain ⟨hv1, h⟩ := h
    refine jd_iald (pc := 24) (len := 70) (zTies_a2 hu1) hv1 dX1_pick_24 ?_
    refine jd_istore (pc := 25) [(7, .int (I (u1 + 3) (Int32.toNatClampNeg x6))), (0, .ref (gb G + t)), (1, .ref (gb G + u1)), (2, .int x2), (3, .int x3), (4, .int x4), (5, .int x5), (6, .int x6)] dX1_pick_25 (by decide) rfl ?_
    refine jd_iload (pc := 27) 0 dX1_pick_27 rfl ?_
    refine jd_iload_n (pc := 29) 3 dX1_pick_29 rfl rfl ?_
    refine jd_iand (pc := 30) dX1_pick_30 ?_
    refine jd_iload (pc := 31) 0 dX1_pick_31 rfl ?_
    refine jd_icmp_ne (pc := 33) 66 dX1_pick_33 (by decide) (fun hc => ?_) (fun hc => ?_)
    · have h := h.1 hc
      refine jd_iinc (pc := 66) (v := (x6 + 1)) 7 [(6, .int (x6 + 1)), (7, .int (I (u1 + 3) (Int32.toNatClampNeg x6))), (0, .ref (gb G + t)), (1, .ref (gb G + u1)), (2, .int x2), (3, .int x3), (4, .int x4), (5, .int x5)] dX1_pick_66 rfl rfl (by decide) rfl ?_
      refine jd_goto (pc := 69) 9 dX1_pick_69 (by decide) ?_
      exact jd_lv (lv2 := [(0, .ref (gb G + t)), (1, .ref (gb G + u1)), (2, .int x2), (3, .int x3), (4, .int x4), (5, .int x5), (6, .int (x6 + 1))]) [2, 3, 4, 5, 6, 7, 0] rfl h
    · have h := h.2 hc
      refine jd_aload_n (pc := 36) 1 dX1_pick_36 rfl rfl ?_
      refine jd_aload_n (pc := 37) 2 dX1_pick_37 rfl rfl ?_
      refine jd_iload_n (pc := 38) 3 dX1_pick_38 rfl rfl ?_
      refine jd_iload (pc := 39) 0 dX1_pick_39 rfl ?_
      refine jd_vworth (pc := 41) (id := t) (av := [.ref (gb G + u1), .int x2, .int (I (u1 + 3) (Int32.toNatClampNeg x6))]) ht lX1_21 rfl rfl (Nat.le_of_ble_eq_true rfl) dX1_pick_41 h ?_
      intro v3 I2 J2 h
      refine jd_istore (pc := 44) [(8, .int v3), (7, .int (I (u1 + 3) (Int32.toNatClampNeg x6))), (0, .ref (gb G + t)), (1, .ref (gb G + u1)), (2, .int x2), (3, .int x3), (4, .int x4), (5, .int x5), (6, .int x6)] dX1_pick_44 (by decide) rfl ?_
      refine jd_iload (pc := 46) 6 dX1_pick_46 rfl ?_
      refine jd_if_eq (pc := 48) 58 dX1_pick_48 (by decide) (fun hc => ?_) (fun hc => ?_)
      · have h := h.1 hc
        refine jd_iload (pc := 58) 1 dX1_pick_58 rfl ?_
        refine jd_istore (pc := 60) [(4, .int (I (u1 + 3) (Int32.toNatClampNeg x6))), (8, .int v3), (7, .int (I (u1 + 3) (Int32.toNatClampNeg x6))), (0, .ref (gb G + t)), (1, .ref (gb G + u1)), (2, .int x2), (3, .int x3), (5, .int x5), (6, .int x6)] dX1_pick_60 (by decide) rfl ?_
        refine jd_iload (pc := 62) 1 dX1_pick_62 rfl ?_
        refine jd_istore (pc := 64) [(5, .int v3), (4, .int (I (u1 + 3) (Int32.toNatClampNeg x6))), (8, .int v3), (7, .int (I (u1 + 3) (Int32.toNatClampNeg x6))), (0, .ref (gb G + t)), (1, .ref (gb G + u1)), (2, .int x2), (3, .int x3), (6, .int x6)] dX1_pick_64 (by decide) rfl ?_
        refine jd_iinc (pc := 66) (v := (x6 + 1)) 8 [(6, .int (x6 + 1)), (5, .int v3), (4, .int (I (u1 + 3) (Int32.toNatClampNeg x6))), (8, .int v3), (7, .int (I (u1 + 3) (Int32.toNatClampNeg x6))), (0, .ref (gb G + t)), (1, .ref (gb G + u1)), (2, .int x2), (3, .int x3)] dX1_pick_66 rfl rfl (by decide) rfl ?_
        refine jd_goto (pc := 69) 9 dX1_pick_69 (by decide) ?_
        exact jd_lv (lv2 := [(0, .ref (gb G + t)), (1, .ref (gb G + u1)), (2, .int x2), (3, .int x3), (4, .int (I (u1 + 3) (Int32.toNatClampNeg x6))), (5, .int v3), (6, .int (x6 + 1))]) [5, 6, 7, 8, 2, 1, 0] rfl h
      · have h := h.2 hc
        refine jd_iload (pc := 51) 0 dX1_pick_51 rfl ?_
        refine jd_iload (pc := 53) 7 dX1_pick_53 rfl ?_
        refine jd_icmp_le (pc := 55) 66 dX1_pick_55 (by decide) (fun hc => ?_) (fun hc => ?_)
        · have h := h.1 hc
          refine jd_iinc (pc := 66) (v := (x6 + 1)) 8 [(6, .int (x6 + 1)), (8, .int v3), (7, .int (I (u1 + 3) (Int32.toNatClampNeg x6))), (0, .ref (gb G + t)), (1, .ref (gb G + u1)), (2, .int x2), (3, .int x3), (4, .int x4), (5, .int x5)] dX1_pick_66 rfl rfl (by decide) rfl ?_
          refine jd_goto (pc := 69) 9 dX1_pick_69 (by decide) ?_
          exact jd_lv (lv2 := [(0, .ref (gb G + t)), (1, .ref (gb G + u1)), (2, .int x2), (3, .int x3), (4, .int x4), (5, .int x5), (6, .int (x6 + 1))]) [3, 4, 5, 6, 7, 8, 0] rfl h
        · have h := h.2 hc
          refine jd_iload (pc := 58) 1 dX1_pick_58 rfl ?_
          refine jd_istore (pc := 60) [(4, .int (I (u1 + 3) (Int32.toNatClampNeg x6))), (8, .int v3), (7, .int (I (u1 + 3) (Int32.toNatClampNeg x6))), (0, .ref (gb G + t)), (1, .ref (gb G + u1)), (2, .int x2), (3, .int x3), (5, .int x5), (6, .int x6)] dX1_pick_60 (by decide) rfl ?_
          refine jd_iload (pc := 62) 1 dX1_pick_62 rfl ?_
          refine jd_istore (pc := 64) [(5, .int v3), (4, .int (I (u1 + 3) (Int32.toNatClampNeg x6))), (8, .int v3), (7, .int (I (u1 + 3) (Int32.toNatClampNeg x6))), (0, .ref (gb G + t)), (1, .ref (gb G + u1)), (2, .int x2), (3, .int x3), (6, .int x6)] dX1_pick_64 (by decide) rfl ?_
          refine jd_iinc (pc := 66) (v := (x6 + 1)) 8 [(6, .int (x6 + 1)), (5, .int v3), (4, .int (I (u1 + 3) (Int32.toNatClampNeg x6))), (8, .int v3), (7, .int (I (u1 + 3) (Int32.toNatClampNeg x6))), (0, .ref (gb G + t)), (1, .ref (gb G + u1)), (2, .int x2), (3, .int x3)] dX1_pick_66 rfl rfl (by decide) rfl ?_
          refine jd_goto (pc := 69) 9 dX1_pick_69 (by decide) ?_
          exact jd_lv (lv2 := [(0, .ref (gb G + t)), (1, .ref (gb G + u1)), (2, .int x2), (3, .int x3), (4, .int (I (u1 + 3) (Int32.toNatClampNeg x6))), (5, .int v3), (6, .int (x6 + 1))]) [5, 6, 7, 8, 2, 1, 0] rfl h
theorem eX1_pick {G : jdG} {n : Nat} {Z : jdL} {I : jdI} {J : jdJ} {K : Int32 → jdI → jdJ → Prop} {t : Nat} {u1 : Nat} {x2 : Int32} {x3 : Int32} (ht : zCho Z t) (hu1 : zTies Z u1) (h : Jd G mX1_pick (jdFm G (qi Z K)) (n + 1) 0 0 9 [(0, .ref (gb G + t)), (1, .ref (gb G + u1)), (2, .int x2), (3, .int x3), (4, .int 0), (5, .int 0), (6, .int 0)] [] Z I J) : Cl G mX1_pick (n + 1) 0 0 [.ref (gb G + t), .ref (gb G + u1), .int x2, .int x3] Z I J (qi Z K) :=
  Cl.of (by decide +kernel) (Nat.le_of_ble_eq_true rfl) (rX1_pick_0 ht hu1 h)
set_option maxRecDepth 4000 in
theorem rX4_kind_0 {G : jdG} {n rc rs : Nat} {Z : jdL} {I : jdI} {J : jdJ} {K : Int32 → jdI → jdJ → Prop} {t : Nat} (ht : Z.1 t = some (3 + 10, 0)) (h : K 1 I J) : Jd G mX4_kind (jdFm G (qi Z K)) n rc rs 0 [(0, .ref (gb G + t))] [] Z I J := by
  refine jd_iconst (pc := 0) (v := 1) dX4_kind_0 (by decide) ?_
  exact jd_iretK (pc := 1) rfl rfl dX4_kind_1 h
theorem eX4_kind {G : jdG} {n : Nat} {Z : jdL} {I : jdI} {J : jdJ} {K : Int32 → jdI → jdJ → Prop} {t : Nat} (ht : Z.1 t = some (3 + 10, 0)) (h : K 1 I J) : Cl G mX4_kind (n) 0 0 [.ref (gb G + t)] Z I J (qi Z K) :=
  Cl.of (by decide +kernel) (Nat.le_of_ble_eq_true rfl) (rX4_kind_0 ht h)
set_option maxRecDepth 4000 in
theorem rX4_pick_0 {G : jdG} {n rc rs : Nat} {Z : jdL} {I : jdI} {J : jdJ} {K : Int32 → jdI → jdJ → Prop} {t : Nat} {u1 : Nat} {x2 : Int32} {x3 : Int32} (ht : Z.1 t = some (3 + 10, 0)) (hu1 : zTies Z u1) (h : Cl G mX8_firstIn n 0 0 [.ref (gb G + u1), .int x2] Z I J (qi Z (fun v2 I1 J1 => K v2 I1 J1))) : Jd G mX4_pick (jdFm G (qi Z K)) (n + 1) rc rs 0 [(0, .ref (gb G + t)), (1, .ref (gb G + u1)), (2, .int x2), (3, .int x3)] [] Z I J := by
  refine jd_aload_n (pc := 0) 1 dX4_pick_0 rfl rfl ?_
  refine jd_iload_n (pc := 1) 2 dX4_pick_1 rfl rfl ?_
  refine jd_callVi (pc := 2) (M2 := mX8_firstIn) (id := u1) (ci := 7) (T := TX8) (N := 11) (av := [.int x2]) kX8_firstIn sX8_firstIn rfl hu1.1 lX4_7 rfl rfl (Nat.le_of_ble_eq_true rfl) dX4_pick_2 h ?_
  intro v2 I1 J1 h
  exact jd_iretK (pc := 5) rfl rfl dX4_pick_5 h
theorem eX4_pick {G : jdG} {n : Nat} {Z : jdL} {I : jdI} {J : jdJ} {K : Int32 → jdI → jdJ → Prop} {t : Nat} {u1 : Nat} {x2 : Int32} {x3 : Int32} (ht : Z.1 t = some (3 + 10, 0)) (hu1 : zTies Z u1) (h : Cl G mX8_firstIn n 0 0 [.ref (gb G + u1), .int x2] Z I J (qi Z (fun v2 I1 J1 => K v2 I1 J1))) : Cl G mX4_pick (n + 1) 0 0 [.ref (gb G + t), .ref (gb G + u1), .int x2, .int x3] Z I J (qi Z K) :=
  Cl.of (by decide +kernel) (Nat.le_of_ble_eq_true rfl) (rX4_pick_0 ht hu1 h)
set_option maxRecDepth 4000 in
theorem rX7_kind_0 {G : jdG} {n rc rs : Nat} {Z : jdL} {I : jdI} {J : jdJ} {K : Int32 → jdI → jdJ → Prop} {t : Nat} (ht : Z.1 t = some (6 + 10, 0)) (h : K 4 I J) : Jd G mX7_kind (jdFm G (qi Z K)) n rc rs 0 [(0, .ref (gb G + t))] [] Z I J := by
  refine jd_iconst (pc := 0) (v := 4) dX7_kind_0 (by decide) ?_
  exact jd_iretK (pc := 1) rfl rfl dX7_kind_1 h
theorem eX7_kind {G : jdG} {n : Nat} {Z : jdL} {I : jdI} {J : jdJ} {K : Int32 → jdI → jdJ → Prop} {t : Nat} (ht : Z.1 t = some (6 + 10, 0)) (h : K 4 I J) : Cl G mX7_kind (n) 0 0 [.ref (gb G + t)] Z I J (qi Z K) :=
  Cl.of (by decide +kernel) (Nat.le_of_ble_eq_true rfl) (rX7_kind_0 ht h)
set_option maxRecDepth 4000 in
theorem rX7_worth_0 {G : jdG} {n rc rs : Nat} {Z : jdL} {I : jdI} {J : jdJ} {K : Int32 → jdI → jdJ → Prop} {t : Nat} {u1 : Nat} {x2 : Int32} {x3 : Int32} (ht : Z.1 t = some (6 + 10, 0)) (hu1 : zTies Z u1) (h : Cl G mX8_strangersTogether n 0 0 [.ref (gb G + u1), .int x3] Z I J (qi Z (fun v2 I1 J1 => K (-v2) I1 J1))) : Jd G mX7_worth (jdFm G (qi Z K)) (n + 1) rc rs 0 [(0, .ref (gb G + t)), (1, .ref (gb G + u1)), (2, .int x2), (3, .int x3)] [] Z I J := by
  refine jd_aload_n (pc := 0) 1 dX7_worth_0 rfl rfl ?_
  refine jd_iload_n (pc := 1) 3 dX7_worth_1 rfl rfl ?_
  refine jd_callVi (pc := 2) (M2 := mX8_strangersTogether) (id := u1) (ci := 7) (T := TX8) (N := 11) (av := [.int x3]) kX8_strangersTogether sX8_strangersTogether rfl hu1.1 lX7_7 rfl rfl (Nat.le_of_ble_eq_true rfl) dX7_worth_2 h ?_
  intro v2 I1 J1 h
  refine jd_ineg (pc := 5) dX7_worth_5 ?_
  exact jd_iretK (pc := 6) rfl rfl dX7_worth_6 h
theorem eX7_worth {G : jdG} {n : Nat} {Z : jdL} {I : jdI} {J : jdJ} {K : Int32 → jdI → jdJ → Prop} {t : Nat} {u1 : Nat} {x2 : Int32} {x3 : Int32} (ht : Z.1 t = some (6 + 10, 0)) (hu1 : zTies Z u1) (h : Cl G mX8_strangersTogether n 0 0 [.ref (gb G + u1), .int x3] Z I J (qi Z (fun v2 I1 J1 => K (-v2) I1 J1))) : Cl G mX7_worth (n + 1) 0 0 [.ref (gb G + t), .ref (gb G + u1), .int x2, .int x3] Z I J (qi Z K) :=
  Cl.of (by decide +kernel) (Nat.le_of_ble_eq_true rfl) (rX7_worth_0 ht hu1 h)
set_option maxRecDepth 4000 in
theorem rX10_kind_0 {G : jdG} {n rc rs : Nat} {Z : jdL} {I : jdI} {J : jdJ} {K : Int32 → jdI → jdJ → Prop} {t : Nat} (ht : Z.1 t = some (9 + 10, 0)) (h : K 3 I J) : Jd G mX10_kind (jdFm G (qi Z K)) n rc rs 0 [(0, .ref (gb G + t))] [] Z I J := by
  refine jd_iconst (pc := 0) (v := 3) dX10_kind_0 (by decide) ?_
  exact jd_iretK (pc := 1) rfl rfl dX10_kind_1 h
theorem eX10_kind {G : jdG} {n : Nat} {Z : jdL} {I : jdI} {J : jdJ} {K : Int32 → jdI → jdJ → Prop} {t : Nat} (ht : Z.1 t = some (9 + 10, 0)) (h : K 3 I J) : Cl G mX10_kind (n) 0 0 [.ref (gb G + t)] Z I J (qi Z K) :=
  Cl.of (by decide +kernel) (Nat.le_of_ble_eq_true rfl) (rX10_kind_0 ht h)
set_option maxRecDepth 4000 in
theorem rX10_pick_0 {G : jdG} {n rc rs : Nat} {Z : jdL} {I : jdI} {J : jdJ} {K : Int32 → jdI → jdJ → Prop} {t : Nat} {u1 : Nat} {x2 : Int32} {x3 : Int32} (ht : Z.1 t = some (9 + 10, 0)) (hu1 : zTies Z u1) (h : ((x3 = 0 → Cl G mX8_firstIn n 0 0 [.ref (gb G + u1), .int x2] Z I J (qi Z (fun v2 I1 J1 => K v2 I1 J1))) ∧ (¬ x3 = 0 → Cl G mJ6_bitCount_0f7a4 n 0 0 [.int x2] Z I J (qi Z (fun v4 I3 J3 => Cl G mX2_number n 0 0 [.ref (gb G + t)] Z I3 J3 (qi Z (fun v6 I5 J5 => ((v4 < v6 → K 0 I5 J5) ∧ (¬ v4 < v6 → Cl G mX8_firstIn n 0 0 [.ref (gb G + u1), .int x2] Z I5 J5 (qi Z (fun v8 I7 J7 => K v8 I7 J7))))))))))) : Jd G mX10_pick (jdFm G (qi Z K)) (n + 1) rc rs 0 [(0, .ref (gb G + t)), (1, .ref (gb G + u1)), (2, .int x2), (3, .int x3)] [] Z I J := by
  refine jd_iload_n (pc := 0) 3 dX10_pick_0 rfl rfl ?_
  refine jd_if_eq (pc := 1) 15 dX10_pick_1 (by decide) (fun hc => ?_) (fun hc => ?_)
  · have h := h.1 hc
    refine jd_iconst (pc := 15) (v := 1) dX10_pick_15 (by decide) ?_
    refine jd_goto (pc := 16) 20 dX10_pick_16 (by decide) ?_
    refine jd_istore (pc := 20) [(4, .int 1), (0, .ref (gb G + t)), (1, .ref (gb G + u1)), (2, .int x2), (3, .int x3)] dX10_pick_20 (by decide) rfl ?_
    refine jd_iload (pc := 22) 0 dX10_pick_22 rfl ?_
    refine jd_if_eq (pc := 24) 35 dX10_pick_24 (by decide) (fun hc => absurd hc (by decide)) (fun _ => ?_)
    refine jd_aload_n (pc := 27) 2 dX10_pick_27 rfl rfl ?_
    refine jd_iload_n (pc := 28) 3 dX10_pick_28 rfl rfl ?_
    refine jd_callVi (pc := 29) (M2 := mX8_firstIn) (id := u1) (ci := 7) (T := TX8) (N := 11) (av := [.int x2]) kX8_firstIn sX8_firstIn rfl hu1.1 lX10_19 rfl rfl (Nat.le_of_ble_eq_true rfl) dX10_pick_29 h ?_
    intro v2 I1 J1 h
    refine jd_goto (pc := 32) 36 dX10_pick_32 (by decide) ?_
    exact jd_iretK (pc := 36) rfl rfl dX10_pick_36 h
  · have h := h.2 hc
    refine jd_iload_n (pc := 4) 2 dX10_pick_4 rfl rfl ?_
    refine jd_callSi (pc := 5) (M2 := mJ6_bitCount_0f7a4) (av := [.int x2]) kJ6_bitCount_0f7a4 sJ6_bitCount_0f7a4 lX10_7 rfl rfl (Nat.le_of_ble_eq_true rfl) dX10_pick_5 h ?_
    intro v4 I3 J3 h
    refine jd_aload_n (pc := 8) 0 dX10_pick_8 rfl rfl ?_
    refine jd_callUi (pc := 9) (M2 := mX2_number) (x := ⟨RX10, "number", "()I"⟩) (owner := RX2) (C := RX10) (id := t) (ci := 9) (T := TX10) (N := 1) (av := []) kX2_number wsn_number ⟨by decide +kernel, by decide +kernel, rfl⟩ (Or.inl ⟨wsn_number.1, _, _, _, kX2_number.1⟩) rfl ht lX10_13 rfl rfl (Nat.le_of_ble_eq_true rfl) dX10_pick_9 h ?_
    intro v6 I5 J5 h
    refine jd_icmp_lt (pc := 12) 19 dX10_pick_12 (by decide) (fun hc => ?_) (fun hc => ?_)
    · have h := h.1 hc
      refine jd_iconst (pc := 19) (v := 0) dX10_pick_19 (by decide) ?_
      refine jd_istore (pc := 20) [(4, .int 0), (0, .ref (gb G + t)), (1, .ref (gb G + u1)), (2, .int x2), (3, .int x3)] dX10_pick_20 (by decide) rfl ?_
      refine jd_iload (pc := 22) 0 dX10_pick_22 rfl ?_
      refine jd_if_eq (pc := 24) 35 dX10_pick_24 (by decide) (fun _ => ?_) (fun hc => absurd (show (0 : Int32) = 0 by decide) hc)
      refine jd_iconst (pc := 35) (v := 0) dX10_pick_35 (by decide) ?_
      exact jd_iretK (pc := 36) rfl rfl dX10_pick_36 h
    · have h := h.2 hc
      refine jd_iconst (pc := 15) (v := 1) dX10_pick_15 (by decide) ?_
      refine jd_goto (pc := 16) 20 dX10_pick_16 (by decide) ?_
      refine jd_istore (pc := 20) [(4, .int 1), (0, .ref (gb G + t)), (1, .ref (gb G + u1)), (2, .int x2), (3, .int x3)] dX10_pick_20 (by decide) rfl ?_
      refine jd_iload (pc := 22) 0 dX10_pick_22 rfl ?_
      refine jd_if_eq (pc := 24) 35 dX10_pick_24 (by decide) (fun hc => absurd hc (by decide)) (fun _ => ?_)
      refine jd_aload_n (pc := 27) 2 dX10_pick_27 rfl rfl ?_
      refine jd_iload_n (pc := 28) 3 dX10_pick_28 rfl rfl ?_
      refine jd_callVi (pc := 29) (M2 := mX8_firstIn) (id := u1) (ci := 7) (T := TX8) (N := 11) (av := [.int x2]) kX8_firstIn sX8_firstIn rfl hu1.1 lX10_19 rfl rfl (Nat.le_of_ble_eq_true rfl) dX10_pick_29 h ?_
      intro v8 I7 J7 h
      refine jd_goto (pc := 32) 36 dX10_pick_32 (by decide) ?_
      exact jd_iretK (pc := 36) rfl rfl dX10_pick_36 h
theorem eX10_pick {G : jdG} {n : Nat} {Z : jdL} {I : jdI} {J : jdJ} {K : Int32 → jdI → jdJ → Prop} {t : Nat} {u1 : Nat} {x2 : Int32} {x3 : Int32} (ht : Z.1 t = some (9 + 10, 0)) (hu1 : zTies Z u1) (h : ((x3 = 0 → Cl G mX8_firstIn n 0 0 [.ref (gb G + u1), .int x2] Z I J (qi Z (fun v2 I1 J1 => K v2 I1 J1))) ∧ (¬ x3 = 0 → Cl G mJ6_bitCount_0f7a4 n 0 0 [.int x2] Z I J (qi Z (fun v4 I3 J3 => Cl G mX2_number n 0 0 [.ref (gb G + t)] Z I3 J3 (qi Z (fun v6 I5 J5 => ((v4 < v6 → K 0 I5 J5) ∧ (¬ v4 < v6 → Cl G mX8_firstIn n 0 0 [.ref (gb G + u1), .int x2] Z I5 J5 (qi Z (fun v8 I7 J7 => K v8 I7 J7))))))))))) : Cl G mX10_pick (n + 1) 0 0 [.ref (gb G + t), .ref (gb G + u1), .int x2, .int x3] Z I J (qi Z K) :=
  Cl.of (by decide +kernel) (Nat.le_of_ble_eq_true rfl) (rX10_pick_0 ht hu1 h)
set_option maxRecDepth 4000 in
theorem rJ6_bitCount_0f7a4_0 {G : jdG} {n rc rs : Nat} {Z : jdL} {I : jdI} {J : jdJ} {K : Int32 → jdI → jdJ → Prop} {x0 : Int32}  (h : K ((((((((x0 - ((Int32.toUInt32 x0 >>> (Int32.toUInt32 1 &&& Int32.toUInt32 31)).toInt32 &&& 1431655765)) &&& 858993459) + ((Int32.toUInt32 (x0 - ((Int32.toUInt32 x0 >>> (Int32.toUInt32 1 &&& Int32.toUInt32 31)).toInt32 &&& 1431655765)) >>> (Int32.toUInt32 2 &&& Int32.toUInt32 31)).toInt32 &&& 858993459)) + (Int32.toUInt32 (((x0 - ((Int32.toUInt32 x0 >>> (Int32.toUInt32 1 &&& Int32.toUInt32 31)).toInt32 &&& 1431655765)) &&& 858993459) + ((Int32.toUInt32 (x0 - ((Int32.toUInt32 x0 >>> (Int32.toUInt32 1 &&& Int32.toUInt32 31)).toInt32 &&& 1431655765)) >>> (Int32.toUInt32 2 &&& Int32.toUInt32 31)).toInt32 &&& 858993459)) >>> (Int32.toUInt32 4 &&& Int32.toUInt32 31)).toInt32) &&& 252645135) + (Int32.toUInt32 (((((x0 - ((Int32.toUInt32 x0 >>> (Int32.toUInt32 1 &&& Int32.toUInt32 31)).toInt32 &&& 1431655765)) &&& 858993459) + ((Int32.toUInt32 (x0 - ((Int32.toUInt32 x0 >>> (Int32.toUInt32 1 &&& Int32.toUInt32 31)).toInt32 &&& 1431655765)) >>> (Int32.toUInt32 2 &&& Int32.toUInt32 31)).toInt32 &&& 858993459)) + (Int32.toUInt32 (((x0 - ((Int32.toUInt32 x0 >>> (Int32.toUInt32 1 &&& Int32.toUInt32 31)).toInt32 &&& 1431655765)) &&& 858993459) + ((Int32.toUInt32 (x0 - ((Int32.toUInt32 x0 >>> (Int32.toUInt32 1 &&& Int32.toUInt32 31)).toInt32 &&& 1431655765)) >>> (Int32.toUInt32 2 &&& Int32.toUInt32 31)).toInt32 &&& 858993459)) >>> (Int32.toUInt32 4 &&& Int32.toUInt32 31)).toInt32) &&& 252645135) >>> (Int32.toUInt32 8 &&& Int32.toUInt32 31)).toInt32) + (Int32.toUInt32 ((((((x0 - ((Int32.toUInt32 x0 >>> (Int32.toUInt32 1 &&& Int32.toUInt32 31)).toInt32 &&& 1431655765)) &&& 858993459) + ((Int32.toUInt32 (x0 - ((Int32.toUInt32 x0 >>> (Int32.toUInt32 1 &&& Int32.toUInt32 31)).toInt32 &&& 1431655765)) >>> (Int32.toUInt32 2 &&& Int32.toUInt32 31)).toInt32 &&& 858993459)) + (Int32.toUInt32 (((x0 - ((Int32.toUInt32 x0 >>> (Int32.toUInt32 1 &&& Int32.toUInt32 31)).toInt32 &&& 1431655765)) &&& 858993459) + ((Int32.toUInt32 (x0 - ((Int32.toUInt32 x0 >>> (Int32.toUInt32 1 &&& Int32.toUInt32 31)).toInt32 &&& 1431655765)) >>> (Int32.toUInt32 2 &&& Int32.toUInt32 31)).toInt32 &&& 858993459)) >>> (Int32.toUInt32 4 &&& Int32.toUInt32 31)).toInt32) &&& 252645135) + (Int32.toUInt32 (((((x0 - ((Int32.toUInt32 x0 >>> (Int32.toUInt32 1 &&& Int32.toUInt32 31)).toInt32 &&& 1431655765)) &&& 858993459) + ((Int32.toUInt32 (x0 - ((Int32.toUInt32 x0 >>> (Int32.toUInt32 1 &&& Int32.toUInt32 31)).toInt32 &&& 1431655765)) >>> (Int32.toUInt32 2 &&& Int32.toUInt32 31)).toInt32 &&& 858993459)) + (Int32.toUInt32 (((x0 - ((Int32.toUInt32 x0 >>> (Int32.toUInt32 1 &&& Int32.toUInt32 31)).toInt32 &&& 1431655765)) &&& 858993459) + ((Int32.toUInt32 (x0 - ((Int32.toUInt32 x0 >>> (Int32.toUInt32 1 &&& Int32.toUInt32 31)).toInt32 &&& 1431655765)) >>> (Int32.toUInt32 2 &&& Int32.toUInt32 31)).toInt32 &&& 858993459)) >>> (Int32.toUInt32 4 &&& Int32.toUInt32 31)).toInt32) &&& 252645135) >>> (Int32.toUInt32 8 &&& Int32.toUInt32 31)).toInt32) >>> (Int32.toUInt32 16 &&& Int32.toUInt32 31)).toInt32) &&& 63) I J) : Jd G mJ6_bitCount_0f7a4 (jdFm G (qi Z K)) n rc rs 0 [(0, .int x0)] [] Z I J := by
  refine jd_iload_n (pc := 0) 0 dJ6_bitCount_0f7a4_0 rfl rfl ?_
  refine jd_iload_n (pc := 1) 0 dJ6_bitCount_0f7a4_1 rfl rfl ?_
  refine jd_iconst (pc := 2) (v := 1) dJ6_bitCount_0f7a4_2 (by decide) ?_
  refine jd_iushr (pc := 3) dJ6_bitCount_0f7a4_3 ?_
  refine jd_ldcw (pc := 4) (v := 1431655765) qJ6_265 dJ6_bitCount_0f7a4_4 ?_
  refine jd_iand (pc := 7) dJ6_bitCount_0f7a4_7 ?_
  refine jd_isub (pc := 8) dJ6_bitCount_0f7a4_8 ?_
  refine jd_istore_n (pc := 9) [(0, .int (x0 - ((Int32.toUInt32 x0 >>> (Int32.toUInt32 1 &&& Int32.toUInt32 31)).toInt32 &&& 1431655765)))] dJ6_bitCount_0f7a4_9 rfl (by decide) rfl ?_
  refine jd_iload_n (pc := 10) 0 dJ6_bitCount_0f7a4_10 rfl rfl ?_
  refine jd_ldcw (pc := 11) (v := 858993459) qJ6_266 dJ6_bitCount_0f7a4_11 ?_
  refine jd_iand (pc := 14) dJ6_bitCount_0f7a4_14 ?_
  refine jd_iload_n (pc := 15) 0 dJ6_bitCount_0f7a4_15 rfl rfl ?_
  refine jd_iconst (pc := 16) (v := 2) dJ6_bitCount_0f7a4_16 (by decide) ?_
  refine jd_iushr (pc := 17) dJ6_bitCount_0f7a4_17 ?_
  refine jd_ldcw (pc := 18) (v := 858993459) qJ6_266 dJ6_bitCount_0f7a4_18 ?_
  refine jd_iand (pc := 21) dJ6_bitCount_0f7a4_21 ?_
  refine jd_iadd (pc := 22) dJ6_bitCount_0f7a4_22 ?_
  refine jd_istore_n (pc := 23) [(0, .int (((x0 - ((Int32.toUInt32 x0 >>> (Int32.toUInt32 1 &&& Int32.toUInt32 31)).toInt32 &&& 1431655765)) &&& 858993459) + ((Int32.toUInt32 (x0 - ((Int32.toUInt32 x0 >>> (Int32.toUInt32 1 &&& Int32.toUInt32 31)).toInt32 &&& 1431655765)) >>> (Int32.toUInt32 2 &&& Int32.toUInt32 31)).toInt32 &&& 858993459)))] dJ6_bitCount_0f7a4_23 rfl (by decide) rfl ?_
  refine jd_iload_n (pc := 24) 0 dJ6_bitCount_0f7a4_24 rfl rfl ?_
  refine jd_iload_n (pc := 25) 0 dJ6_bitCount_0f7a4_25 rfl rfl ?_
  refine jd_iconst (pc := 26) (v := 4) dJ6_bitCount_0f7a4_26 (by decide) ?_
  refine jd_iushr (pc := 27) dJ6_bitCount_0f7a4_27 ?_
  refine jd_iadd (pc := 28) dJ6_bitCount_0f7a4_28 ?_
  refine jd_ldcw (pc := 29) (v := 252645135) qJ6_267 dJ6_bitCount_0f7a4_29 ?_
  refine jd_iand (pc := 32) dJ6_bitCount_0f7a4_32 ?_
  refine jd_istore_n (pc := 33) [(0, .int (((((x0 - ((Int32.toUInt32 x0 >>> (Int32.toUInt32 1 &&& Int32.toUInt32 31)).toInt32 &&& 1431655765)) &&& 858993459) + ((Int32.toUInt32 (x0 - ((Int32.toUInt32 x0 >>> (Int32.toUInt32 1 &&& Int32.toUInt32 31)).toInt32 &&& 1431655765)) >>> (Int32.toUInt32 2 &&& Int32.toUInt32 31)).toInt32 &&& 858993459)) + (Int32.toUInt32 (((x0 - ((Int32.toUInt32 x0 >>> (Int32.toUInt32 1 &&& Int32.toUInt32 31)).toInt32 &&& 1431655765)) &&& 858993459) + ((Int32.toUInt32 (x0 - ((Int32.toUInt32 x0 >>> (Int32.toUInt32 1 &&& Int32.toUInt32 31)).toInt32 &&& 1431655765)) >>> (Int32.toUInt32 2 &&& Int32.toUInt32 31)).toInt32 &&& 858993459)) >>> (Int32.toUInt32 4 &&& Int32.toUInt32 31)).toInt32) &&& 252645135))] dJ6_bitCount_0f7a4_33 rfl (by decide) rfl ?_
  refine jd_iload_n (pc := 34) 0 dJ6_bitCount_0f7a4_34 rfl rfl ?_
  refine jd_iload_n (pc := 35) 0 dJ6_bitCount_0f7a4_35 rfl rfl ?_
  refine jd_bipush (pc := 36) (v := 8) dJ6_bitCount_0f7a4_36 (by decide) ?_
  refine jd_iushr (pc := 38) dJ6_bitCount_0f7a4_38 ?_
  refine jd_iadd (pc := 39) dJ6_bitCount_0f7a4_39 ?_
  refine jd_istore_n (pc := 40) [(0, .int ((((((x0 - ((Int32.toUInt32 x0 >>> (Int32.toUInt32 1 &&& Int32.toUInt32 31)).toInt32 &&& 1431655765)) &&& 858993459) + ((Int32.toUInt32 (x0 - ((Int32.toUInt32 x0 >>> (Int32.toUInt32 1 &&& Int32.toUInt32 31)).toInt32 &&& 1431655765)) >>> (Int32.toUInt32 2 &&& Int32.toUInt32 31)).toInt32 &&& 858993459)) + (Int32.toUInt32 (((x0 - ((Int32.toUInt32 x0 >>> (Int32.toUInt32 1 &&& Int32.toUInt32 31)).toInt32 &&& 1431655765)) &&& 858993459) + ((Int32.toUInt32 (x0 - ((Int32.toUInt32 x0 >>> (Int32.toUInt32 1 &&& Int32.toUInt32 31)).toInt32 &&& 1431655765)) >>> (Int32.toUInt32 2 &&& Int32.toUInt32 31)).toInt32 &&& 858993459)) >>> (Int32.toUInt32 4 &&& Int32.toUInt32 31)).toInt32) &&& 252645135) + (Int32.toUInt32 (((((x0 - ((Int32.toUInt32 x0 >>> (Int32.toUInt32 1 &&& Int32.toUInt32 31)).toInt32 &&& 1431655765)) &&& 858993459) + ((Int32.toUInt32 (x0 - ((Int32.toUInt32 x0 >>> (Int32.toUInt32 1 &&& Int32.toUInt32 31)).toInt32 &&& 1431655765)) >>> (Int32.toUInt32 2 &&& Int32.toUInt32 31)).toInt32 &&& 858993459)) + (Int32.toUInt32 (((x0 - ((Int32.toUInt32 x0 >>> (Int32.toUInt32 1 &&& Int32.toUInt32 31)).toInt32 &&& 1431655765)) &&& 858993459) + ((Int32.toUInt32 (x0 - ((Int32.toUInt32 x0 >>> (Int32.toUInt32 1 &&& Int32.toUInt32 31)).toInt32 &&& 1431655765)) >>> (Int32.toUInt32 2 &&& Int32.toUInt32 31)).toInt32 &&& 858993459)) >>> (Int32.toUInt32 4 &&& Int32.toUInt32 31)).toInt32) &&& 252645135) >>> (Int32.toUInt32 8 &&& Int32.toUInt32 31)).toInt32))] dJ6_bitCount_0f7a4_40 rfl (by decide) rfl ?_
  refine jd_iload_n (pc := 41) 0 dJ6_bitCount_0f7a4_41 rfl rfl ?_
  refine jd_iload_n (pc := 42) 0 dJ6_bitCount_0f7a4_42 rfl rfl ?_
  refine jd_bipush (pc := 43) (v := 16) dJ6_bitCount_0f7a4_43 (by decide) ?_
  refine jd_iushr (pc := 45) dJ6_bitCount_0f7a4_45 ?_
  refine jd_iadd (pc := 46) dJ6_bitCount_0f7a4_46 ?_
  refine jd_istore_n (pc := 47) [(0, .int (((((((x0 - ((Int32.toUInt32 x0 >>> (Int32.toUInt32 1 &&& Int32.toUInt32 31)).toInt32 &&& 1431655765)) &&& 858993459) + ((Int32.toUInt32 (x0 - ((Int32.toUInt32 x0 >>> (Int32.toUInt32 1 &&& Int32.toUInt32 31)).toInt32 &&& 1431655765)) >>> (Int32.toUInt32 2 &&& Int32.toUInt32 31)).toInt32 &&& 858993459)) + (Int32.toUInt32 (((x0 - ((Int32.toUInt32 x0 >>> (Int32.toUInt32 1 &&& Int32.toUInt32 31)).toInt32 &&& 1431655765)) &&& 858993459) + ((Int32.toUInt32 (x0 - ((Int32.toUInt32 x0 >>> (Int32.toUInt32 1 &&& Int32.toUInt32 31)).toInt32 &&& 1431655765)) >>> (Int32.toUInt32 2 &&& Int32.toUInt32 31)).toInt32 &&& 858993459)) >>> (Int32.toUInt32 4 &&& Int32.toUInt32 31)).toInt32) &&& 252645135) + (Int32.toUInt32 (((((x0 - ((Int32.toUInt32 x0 >>> (Int32.toUInt32 1 &&& Int32.toUInt32 31)).toInt32 &&& 1431655765)) &&& 858993459) + ((Int32.toUInt32 (x0 - ((Int32.toUInt32 x0 >>> (Int32.toUInt32 1 &&& Int32.toUInt32 31)).toInt32 &&& 1431655765)) >>> (Int32.toUInt32 2 &&& Int32.toUInt32 31)).toInt32 &&& 858993459)) + (Int32.toUInt32 (((x0 - ((Int32.toUInt32 x0 >>> (Int32.toUInt32 1 &&& Int32.toUInt32 31)).toInt32 &&& 1431655765)) &&& 858993459) + ((Int32.toUInt32 (x0 - ((Int32.toUInt32 x0 >>> (Int32.toUInt32 1 &&& Int32.toUInt32 31)).toInt32 &&& 1431655765)) >>> (Int32.toUInt32 2 &&& Int32.toUInt32 31)).toInt32 &&& 858993459)) >>> (Int32.toUInt32 4 &&& Int32.toUInt32 31)).toInt32) &&& 252645135) >>> (Int32.toUInt32 8 &&& Int32.toUInt32 31)).toInt32) + (Int32.toUInt32 ((((((x0 - ((Int32.toUInt32 x0 >>> (Int32.toUInt32 1 &&& Int32.toUInt32 31)).toInt32 &&& 1431655765)) &&& 858993459) + ((Int32.toUInt32 (x0 - ((Int32.toUInt32 x0 >>> (Int32.toUInt32 1 &&& Int32.toUInt32 31)).toInt32 &&& 1431655765)) >>> (Int32.toUInt32 2 &&& Int32.toUInt32 31)).toInt32 &&& 858993459)) + (Int32.toUInt32 (((x0 - ((Int32.toUInt32 x0 >>> (Int32.toUInt32 1 &&& Int32.toUInt32 31)).toInt32 &&& 1431655765)) &&& 858993459) + ((Int32.toUInt32 (x0 - ((Int32.toUInt32 x0 >>> (Int32.toUInt32 1 &&& Int32.toUInt32 31)).toInt32 &&& 1431655765)) >>> (Int32.toUInt32 2 &&& Int32.toUInt32 31)).toInt32 &&& 858993459)) >>> (Int32.toUInt32 4 &&& Int32.toUInt32 31)).toInt32) &&& 252645135) + (Int32.toUInt32 (((((x0 - ((Int32.toUInt32 x0 >>> (Int32.toUInt32 1 &&& Int32.toUInt32 31)).toInt32 &&& 1431655765)) &&& 858993459) + ((Int32.toUInt32 (x0 - ((Int32.toUInt32 x0 >>> (Int32.toUInt32 1 &&& Int32.toUInt32 31)).toInt32 &&& 1431655765)) >>> (Int32.toUInt32 2 &&& Int32.toUInt32 31)).toInt32 &&& 858993459)) + (Int32.toUInt32 (((x0 - ((Int32.toUInt32 x0 >>> (Int32.toUInt32 1 &&& Int32.toUInt32 31)).toInt32 &&& 1431655765)) &&& 858993459) + ((Int32.toUInt32 (x0 - ((Int32.toUInt32 x0 >>> (Int32.toUInt32 1 &&& Int32.toUInt32 31)).toInt32 &&& 1431655765)) >>> (Int32.toUInt32 2 &&& Int32.toUInt32 31)).toInt32 &&& 858993459)) >>> (Int32.toUInt32 4 &&& Int32.toUInt32 31)).toInt32) &&& 252645135) >>> (Int32.toUInt32 8 &&& Int32.toUInt32 31)).toInt32) >>> (Int32.toUInt32 16 &&& Int32.toUInt32 31)).toInt32))] dJ6_bitCount_0f7a4_47 rfl (by decide) rfl ?_
  refine jd_iload_n (pc := 48) 0 dJ6_bitCount_0f7a4_48 rfl rfl ?_
  refine jd_bipush (pc := 49) (v := 63) dJ6_bitCount_0f7a4_49 (by decide) ?_
  refine jd_iand (pc := 51) dJ6_bitCount_0f7a4_51 ?_
  exact jd_iretK (pc := 52) rfl rfl dJ6_bitCount_0f7a4_52 h
theorem eJ6_bitCount_0f7a4 {G : jdG} {n : Nat} {Z : jdL} {I : jdI} {J : jdJ} {K : Int32 → jdI → jdJ → Prop} {x0 : Int32}  (h : K ((((((((x0 - ((Int32.toUInt32 x0 >>> (Int32.toUInt32 1 &&& Int32.toUInt32 31)).toInt32 &&& 1431655765)) &&& 858993459) + ((Int32.toUInt32 (x0 - ((Int32.toUInt32 x0 >>> (Int32.toUInt32 1 &&& Int32.toUInt32 31)).toInt32 &&& 1431655765)) >>> (Int32.toUInt32 2 &&& Int32.toUInt32 31)).toInt32 &&& 858993459)) + (Int32.toUInt32 (((x0 - ((Int32.toUInt32 x0 >>> (Int32.toUInt32 1 &&& Int32.toUInt32 31)).toInt32 &&& 1431655765)) &&& 858993459) + ((Int32.toUInt32 (x0 - ((Int32.toUInt32 x0 >>> (Int32.toUInt32 1 &&& Int32.toUInt32 31)).toInt32 &&& 1431655765)) >>> (Int32.toUInt32 2 &&& Int32.toUInt32 31)).toInt32 &&& 858993459)) >>> (Int32.toUInt32 4 &&& Int32.toUInt32 31)).toInt32) &&& 252645135) + (Int32.toUInt32 (((((x0 - ((Int32.toUInt32 x0 >>> (Int32.toUInt32 1 &&& Int32.toUInt32 31)).toInt32 &&& 1431655765)) &&& 858993459) + ((Int32.toUInt32 (x0 - ((Int32.toUInt32 x0 >>> (Int32.toUInt32 1 &&& Int32.toUInt32 31)).toInt32 &&& 1431655765)) >>> (Int32.toUInt32 2 &&& Int32.toUInt32 31)).toInt32 &&& 858993459)) + (Int32.toUInt32 (((x0 - ((Int32.toUInt32 x0 >>> (Int32.toUInt32 1 &&& Int32.toUInt32 31)).toInt32 &&& 1431655765)) &&& 858993459) + ((Int32.toUInt32 (x0 - ((Int32.toUInt32 x0 >>> (Int32.toUInt32 1 &&& Int32.toUInt32 31)).toInt32 &&& 1431655765)) >>> (Int32.toUInt32 2 &&& Int32.toUInt32 31)).toInt32 &&& 858993459)) >>> (Int32.toUInt32 4 &&& Int32.toUInt32 31)).toInt32) &&& 252645135) >>> (Int32.toUInt32 8 &&& Int32.toUInt32 31)).toInt32) + (Int32.toUInt32 ((((((x0 - ((Int32.toUInt32 x0 >>> (Int32.toUInt32 1 &&& Int32.toUInt32 31)).toInt32 &&& 1431655765)) &&& 858993459) + ((Int32.toUInt32 (x0 - ((Int32.toUInt32 x0 >>> (Int32.toUInt32 1 &&& Int32.toUInt32 31)).toInt32 &&& 1431655765)) >>> (Int32.toUInt32 2 &&& Int32.toUInt32 31)).toInt32 &&& 858993459)) + (Int32.toUInt32 (((x0 - ((Int32.toUInt32 x0 >>> (Int32.toUInt32 1 &&& Int32.toUInt32 31)).toInt32 &&& 1431655765)) &&& 858993459) + ((Int32.toUInt32 (x0 - ((Int32.toUInt32 x0 >>> (Int32.toUInt32 1 &&& Int32.toUInt32 31)).toInt32 &&& 1431655765)) >>> (Int32.toUInt32 2 &&& Int32.toUInt32 31)).toInt32 &&& 858993459)) >>> (Int32.toUInt32 4 &&& Int32.toUInt32 31)).toInt32) &&& 252645135) + (Int32.toUInt32 (((((x0 - ((Int32.toUInt32 x0 >>> (Int32.toUInt32 1 &&& Int32.toUInt32 31)).toInt32 &&& 1431655765)) &&& 858993459) + ((Int32.toUInt32 (x0 - ((Int32.toUInt32 x0 >>> (Int32.toUInt32 1 &&& Int32.toUInt32 31)).toInt32 &&& 1431655765)) >>> (Int32.toUInt32 2 &&& Int32.toUInt32 31)).toInt32 &&& 858993459)) + (Int32.toUInt32 (((x0 - ((Int32.toUInt32 x0 >>> (Int32.toUInt32 1 &&& Int32.toUInt32 31)).toInt32 &&& 1431655765)) &&& 858993459) + ((Int32.toUInt32 (x0 - ((Int32.toUInt32 x0 >>> (Int32.toUInt32 1 &&& Int32.toUInt32 31)).toInt32 &&& 1431655765)) >>> (Int32.toUInt32 2 &&& Int32.toUInt32 31)).toInt32 &&& 858993459)) >>> (Int32.toUInt32 4 &&& Int32.toUInt32 31)).toInt32) &&& 252645135) >>> (Int32.toUInt32 8 &&& Int32.toUInt32 31)).toInt32) >>> (Int32.toUInt32 16 &&& Int32.toUInt32 31)).toInt32) &&& 63) I J) : Cl G mJ6_bitCount_0f7a4 (n) 0 0 [.int x0] Z I J (qi Z K) :=
  Cl.of (by decide +kernel) (Nat.le_of_ble_eq_true rfl) (rJ6_bitCount_0f7a4_0  h)
