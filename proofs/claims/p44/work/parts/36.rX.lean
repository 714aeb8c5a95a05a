set_option maxRecDepth 4000 in
theorem rX11_row_0 {G : jdG} {n rc rs : Nat} {Z : jdL} {I : jdI} {J : jdJ} {Q : jdQ} {x1 : Int32} {x2 : Int32} {x3 : Int32} (hX : zX Z) (h : Cl G mX11_isShelf n 0 0 [.int x1] Z I J (qi Z (fun v2 I1 J1 => ((v2 = 0 → Cl G mX11_refuse n 0 0 [.ref (gb G + 0), .int (-2)] Z I1 J1 (qi Z (fun v4 I3 J3 => Q (some (.int v4)) Z I3 J3))) ∧ (¬ v2 = 0 → ((x2 < 0 → Cl G mX11_refuse n 0 0 [.ref (gb G + 0), .int (-2)] Z I1 J1 (qi Z (fun v6 I5 J5 => Q (some (.int v6)) Z I5 J5))) ∧ (¬ x2 < 0 → ((5 ≤ x2 → Cl G mX11_refuse n 0 0 [.ref (gb G + 0), .int (-2)] Z I1 J1 (qi Z (fun v8 I7 J7 => Q (some (.int v8)) Z I7 J7))) ∧ (¬ 5 ≤ x2 → ((x3 < 0 → Cl G mX11_refuse n 0 0 [.ref (gb G + 0), .int (-2)] Z I1 J1 (qi Z (fun v10 I9 J9 => Q (some (.int v10)) Z I9 J9))) ∧ (¬ x3 < 0 → ((x3 ≤ 40 → (vp_in x1 8 ∧ (∃ mc12 ms12 rc12 rs12 : Nat, mc12 + rc12 ≤ rc ∧ ms12 + rs12 ≤ rs ∧ Cl G mX6_takeRow n mc12 ms12 [.ref (gb G + (29 + 2 * (Int32.toNatClampNeg x1))), .int x2, .int x3] Z I1 J1 (fun r12 Z12 I12 J12 => r12 = none ∧ (zX Z12 ∧ Q (some (.int 1)) Z12 I12 J12))))) ∧ (¬ x3 ≤ 40 → Cl G mX11_refuse n 0 0 [.ref (gb G + 0), .int (-2)] Z I1 J1 (qi Z (fun v14 I13 J13 => Q (some (.int v14)) Z I13 J13))))))))))))))) : Jd G mX11_row (jdFm G Q) (n + 1) rc rs 0 [(0, .ref (gb G + 0)), (1, .int x1), (2, .int x2), (3, .int x3)] [] Z I J := by
  refine jd_iload_n (pc := 0) 1 dX11_row_0 rfl rfl ?_
  refine jd_callSi (pc := 1) (M2 := mX11_isShelf) (av := [.int x1]) kX11_isShelf sX11_isShelf lX11_54 rfl rfl (Nat.le_of_ble_eq_true rfl) dX11_row_1 h ?_
  intro v2 I1 J1 h
  refine jd_if_eq (pc := 4) 26 dX11_row_4 (by decide) (fun hc => ?_) (fun hc => ?_)
  · have h := h.1 hc
    refine jd_aload_n (pc := 26) 0 dX11_row_26 rfl rfl ?_
    refine jd_bipush (pc := 27) (v := (-2)) dX11_row_27 (by decide) ?_
    refine jd_callVi (pc := 29) (M2 := mX11_refuse) (id := 0) (ci := 10) (T := TX11) (N := 9) (av := [.int (-2)]) kX11_refuse sX11_refuse rfl hX.1 lX11_58 rfl rfl (Nat.le_of_ble_eq_true rfl) dX11_row_29 h ?_
    intro v4 I3 J3 h
    exact jd_iret (pc := 32) (ty := .int) rfl rfl dX11_row_32 h
  · have h := h.2 hc
    refine jd_iload_n (pc := 7) 2 dX11_row_7 rfl rfl ?_
    refine jd_if_lt (pc := 8) 26 dX11_row_8 (by decide) (fun hc => ?_) (fun hc => ?_)
    · have h := h.1 hc
      refine jd_aload_n (pc := 26) 0 dX11_row_26 rfl rfl ?_
      refine jd_bipush (pc := 27) (v := (-2)) dX11_row_27 (by decide) ?_
      refine jd_callVi (pc := 29) (M2 := mX11_refuse) (id := 0) (ci := 10) (T := TX11) (N := 9) (av := [.int (-2)]) kX11_refuse sX11_refuse rfl hX.1 lX11_58 rfl rfl (Nat.le_of_ble_eq_true rfl) dX11_row_29 h ?_
      intro v6 I5 J5 h
      exact jd_iret (pc := 32) (ty := .int) rfl rfl dX11_row_32 h
    · have h := h.2 hc
      refine jd_iload_n (pc := 11) 2 dX11_row_11 rfl rfl ?_
      refine jd_iconst (pc := 12) (v := 5) dX11_row_12 (by decide) ?_
      refine jd_icmp_ge (pc := 13) 26 dX11_row_13 (by decide) (fun hc => ?_) (fun hc => ?_)
      · have h := h.1 hc
        refine jd_aload_n (pc := 26) 0 dX11_row_26 rfl rfl ?_
        refine jd_bipush (pc := 27) (v := (-2)) dX11_row_27 (by decide) ?_
        refine jd_callVi (pc := 29) (M2 := mX11_refuse) (id := 0) (ci := 10) (T := TX11) (N := 9) (av := [.int (-2)]) kX11_refuse sX11_refuse rfl hX.1 lX11_58 rfl rfl (Nat.le_of_ble_eq_true rfl) dX11_row_29 h ?_
        intro v8 I7 J7 h
        exact jd_iret (pc := 32) (ty := .int) rfl rfl dX11_row_32 h
      · have h := h.2 hc
        refine jd_iload_n (pc := 16) 3 dX11_row_16 rfl rfl ?_
        refine jd_if_lt (pc := 17) 26 dX11_row_17 (by decide) (fun hc => ?_) (fun hc => ?_)
        · have h := h.1 hc
          refine jd_aload_n (pc := 26) 0 dX11_row_26 rfl rfl ?_
          refine jd_bipush (pc := 27) (v := (-2)) dX11_row_27 (by decide) ?_
          refine jd_callVi (pc := 29) (M2 := mX11_refuse) (id := 0) (ci := 10) (T := TX11) (N := 9) (av := [.int (-2)]) kX11_refuse sX11_refuse rfl hX.1 lX11_58 rfl rfl (Nat.le_of_ble_eq_true rfl) dX11_row_29 h ?_
          intro v10 I9 J9 h
          exact jd_iret (pc := 32) (ty := .int) rfl rfl dX11_row_32 h
        · have h := h.2 hc
          refine jd_iload_n (pc := 20) 3 dX11_row_20 rfl rfl ?_
          refine jd_bipush (pc := 21) (v := 40) dX11_row_21 (by decide) ?_
          refine jd_icmp_le (pc := 23) 33 dX11_row_23 (by decide) (fun hc => ?_) (fun hc => ?_)
          · have h := h.1 hc
            refine jd_aload_n (pc := 33) 0 dX11_row_33 rfl rfl ?_
            refine jd_getR (pc := 34) (ci := 10) (k := 6) (r := 27) gX11_45 hX.1 rfl (zX_p6 hX) dX11_row_34 ?_
            refine jd_iload_n (pc := 37) 1 dX11_row_37 rfl rfl ?_
            obtain ⟨hv11, h⟩ := h
            refine jd_aald (pc := 38) (len := 8) (k := 4) (zX_a6 hX) (by decide) hv11 (zX_sh hX (vp_lt hv11)) dX11_row_38 ?_
            refine jd_iload_n (pc := 39) 2 dX11_row_39 rfl rfl ?_
            refine jd_iload_n (pc := 40) 3 dX11_row_40 rfl rfl ?_
            obtain ⟨mc12, ms12, rc12, rs12, hb1, hb2, h⟩ := h
            refine jd_callV (pc := 41) (M2 := mX6_takeRow) (id := (29 + 2 * (Int32.toNatClampNeg x1))) (ci := 5) (T := TX6) (N := 4) (rc2 := rc12) (rs2 := rs12) (av := [.int x2, .int x3]) kX6_takeRow sX6_takeRow rfl (zX_shelf hX (vp_lt hv11)).1 lX11_62 rfl rfl (Nat.le_of_ble_eq_true rfl) hb1 hb2 dX11_row_41 (Cl.mono h (fun r12 Z12 I12 J12 h => ?_))
            obtain ⟨rfl, h⟩ := h
            obtain ⟨hX, h⟩ := h
            refine jd_iconst (pc := 44) (v := 1) dX11_row_44 (by decide) ?_
            exact jd_iret (pc := 45) (ty := .int) rfl rfl dX11_row_45 h
          · have h := h.2 hc
            refine jd_aload_n (pc := 26) 0 dX11_row_26 rfl rfl ?_
            refine jd_bipush (pc := 27) (v := (-2)) dX11_row_27 (by decide) ?_
            refine jd_callVi (pc := 29) (M2 := mX11_refuse) (id := 0) (ci := 10) (T := TX11) (N := 9) (av := [.int (-2)]) kX11_refuse sX11_refuse rfl hX.1 lX11_58 rfl rfl (Nat.le_of_ble_eq_true rfl) dX11_row_29 h ?_
            intro v14 I13 J13 h
            exact jd_iret (pc := 32) (ty := .int) rfl rfl dX11_row_32 h
theorem eX11_row {G : jdG} {n mc ms : Nat} {Z : jdL} {I : jdI} {J : jdJ} {Q : jdQ} {x1 : Int32} {x2 : Int32} {x3 : Int32} (hX : zX Z) (h : Cl G mX11_isShelf n 0 0 [.int x1] Z I J (qi Z (fun v2 I1 J1 => ((v2 = 0 → Cl G mX11_refuse n 0 0 [.ref (gb G + 0), .int (-2)] Z I1 J1 (qi Z (fun v4 I3 J3 => Q (some (.int v4)) Z I3 J3))) ∧ (¬ v2 = 0 → ((x2 < 0 → Cl G mX11_refuse n 0 0 [.ref (gb G + 0), .int (-2)] Z I1 J1 (qi Z (fun v6 I5 J5 => Q (some (.int v6)) Z I5 J5))) ∧ (¬ x2 < 0 → ((5 ≤ x2 → Cl G mX11_refuse n 0 0 [.ref (gb G + 0), .int (-2)] Z I1 J1 (qi Z (fun v8 I7 J7 => Q (some (.int v8)) Z I7 J7))) ∧ (¬ 5 ≤ x2 → ((x3 < 0 → Cl G mX11_refuse n 0 0 [.ref (gb G + 0), .int (-2)] Z I1 J1 (qi Z (fun v10 I9 J9 => Q (some (.int v10)) Z I9 J9))) ∧ (¬ x3 < 0 → ((x3 ≤ 40 → (vp_in x1 8 ∧ (∃ mc12 ms12 rc12 rs12 : Nat, mc12 + rc12 ≤ mc ∧ ms12 + rs12 ≤ ms ∧ Cl G mX6_takeRow n mc12 ms12 [.ref (gb G + (29 + 2 * (Int32.toNatClampNeg x1))), .int x2, .int x3] Z I1 J1 (fun r12 Z12 I12 J12 => r12 = none ∧ (zX Z12 ∧ Q (some (.int 1)) Z12 I12 J12))))) ∧ (¬ x3 ≤ 40 → Cl G mX11_refuse n 0 0 [.ref (gb G + 0), .int (-2)] Z I1 J1 (qi Z (fun v14 I13 J13 => Q (some (.int v14)) Z I13 J13))))))))))))))) : Cl G mX11_row (n + 1) mc ms [.ref (gb G + 0), .int x1, .int x2, .int x3] Z I J Q :=
  Cl.of (by decide +kernel) (Nat.le_of_ble_eq_true rfl) (rX11_row_0 hX h)
set_option maxRecDepth 4000 in
theorem rX11_set_0 {G : jdG} {n rc rs : Nat} {Z : jdL} {I : jdI} {J : jdJ} {K : Int32 → jdI → jdJ → Prop} {x1 : Int32} {x2 : Int32} {y3 : Int64} (hX : zX Z) (h : Cl G mX11_holdsRow n 0 0 [.ref (gb G + 0), .int x1] Z I J (qi Z (fun v2 I1 J1 => ((¬ v2 = 0 → ((x2 < 0 → Cl G mX11_refuse n 0 0 [.ref (gb G + 0), .int (-2)] Z I1 J1 (qi Z (fun v4 I3 J3 => K v4 I3 J3))) ∧ (¬ x2 < 0 → (vp_in x1 8 ∧ ((x2 < (I1 (29 + 2 * (Int32.toNatClampNeg x1)) 2) → (vp_in x1 8 ∧ Cl G mX6_put n 0 0 [.ref (gb G + (29 + 2 * (Int32.toNatClampNeg x1))), .int x2, .long y3] Z I1 J1 (qv Z (fun I7 J7 => K 1 I7 J7)))) ∧ (¬ x2 < (I1 (29 + 2 * (Int32.toNatClampNeg x1)) 2) → Cl G mX11_refuse n 0 0 [.ref (gb G + 0), .int (-2)] Z I1 J1 (qi Z (fun v10 I9 J9 => K v10 I9 J9)))))))) ∧ (v2 = 0 → Cl G mX11_whyNoRow n 0 0 [.ref (gb G + 0), .int x1] Z I1 J1 (qi Z (fun v12 I11 J11 => Cl G mX11_refuse n 0 0 [.ref (gb G + 0), .int v12] Z I11 J11 (qi Z (fun v14 I13 J13 => K v14 I13 J13))))))))) : Jd G mX11_set (jdFm G (qi Z K)) (n + 1) rc rs 0 [(0, .ref (gb G + 0)), (1, .int x1), (2, .int x2), (3, .long y3)] [] Z I J := by
  refine jd_aload_n (pc := 0) 0 dX11_set_0 rfl rfl ?_
  refine jd_iload_n (pc := 1) 1 dX11_set_1 rfl rfl ?_
  refine jd_callVi (pc := 2) (M2 := mX11_holdsRow) (id := 0) (ci := 10) (T := TX11) (N := 9) (av := [.int x1]) kX11_holdsRow sX11_holdsRow rfl hX.1 lX11_66 rfl rfl (Nat.le_of_ble_eq_true rfl) dX11_set_2 h ?_
  intro v2 I1 J1 h
  refine jd_if_ne (pc := 5) 18 dX11_set_5 (by decide) (fun hc => ?_) (fun hc => ?_)
  · have h := h.1 hc
    refine jd_iload_n (pc := 18) 2 dX11_set_18 rfl rfl ?_
    refine jd_if_lt (pc := 19) 35 dX11_set_19 (by decide) (fun hc => ?_) (fun hc => ?_)
    · have h := h.1 hc
      refine jd_aload_n (pc := 35) 0 dX11_set_35 rfl rfl ?_
      refine jd_bipush (pc := 36) (v := (-2)) dX11_set_36 (by decide) ?_
      refine jd_callVi (pc := 38) (M2 := mX11_refuse) (id := 0) (ci := 10) (T := TX11) (N := 9) (av := [.int (-2)]) kX11_refuse sX11_refuse rfl hX.1 lX11_58 rfl rfl (Nat.le_of_ble_eq_true rfl) dX11_set_38 h ?_
      intro v4 I3 J3 h
      exact jd_iretK (pc := 41) rfl rfl dX11_set_41 h
    · have h := h.2 hc
      refine jd_iload_n (pc := 22) 2 dX11_set_22 rfl rfl ?_
      refine jd_aload_n (pc := 23) 0 dX11_set_23 rfl rfl ?_
      refine jd_getR (pc := 24) (ci := 10) (k := 6) (r := 27) gX11_45 hX.1 rfl (zX_p6 hX) dX11_set_24 ?_
      refine jd_iload_n (pc := 27) 1 dX11_set_27 rfl rfl ?_
      obtain ⟨hv5, h⟩ := h
      refine jd_aald (pc := 28) (len := 8) (k := 4) (zX_a6 hX) (by decide) hv5 (zX_sh hX (vp_lt hv5)) dX11_set_28 ?_
      refine jd_getI (pc := 29) (ci := 5) (k := 2) gX11_72 (zX_shelf hX (vp_lt hv5)).1 rfl dX11_set_29 ?_
      refine jd_icmp_lt (pc := 32) 42 dX11_set_32 (by decide) (fun hc => ?_) (fun hc => ?_)
      · have h := h.1 hc
        refine jd_aload_n (pc := 42) 0 dX11_set_42 rfl rfl ?_
        refine jd_getR (pc := 43) (ci := 10) (k := 6) (r := 27) gX11_45 hX.1 rfl (zX_p6 hX) dX11_set_43 ?_
        refine jd_iload_n (pc := 46) 1 dX11_set_46 rfl rfl ?_
        obtain ⟨hv6, h⟩ := h
        refine jd_aald (pc := 47) (len := 8) (k := 4) (zX_a6 hX) (by decide) hv6 (zX_sh hX (vp_lt hv6)) dX11_set_47 ?_
        refine jd_iload_n (pc := 48) 2 dX11_set_48 rfl rfl ?_
        refine jd_lload_n (pc := 49) 3 dX11_set_49 rfl rfl ?_
        refine jd_callVv (pc := 50) (M2 := mX6_put) (id := (29 + 2 * (Int32.toNatClampNeg x1))) (ci := 5) (T := TX6) (N := 4) (av := [.int x2, .long y3]) kX6_put sX6_put rfl (zX_shelf hX (vp_lt hv6)).1 lX11_76 rfl rfl (Nat.le_of_ble_eq_true rfl) dX11_set_50 h ?_
        intro I7 J7 h
        refine jd_iconst (pc := 53) (v := 1) dX11_set_53 (by decide) ?_
        exact jd_iretK (pc := 54) rfl rfl dX11_set_54 h
      · have h := h.2 hc
        refine jd_aload_n (pc := 35) 0 dX11_set_35 rfl rfl ?_
        refine jd_bipush (pc := 36) (v := (-2)) dX11_set_36 (by decide) ?_
        refine jd_callVi (pc := 38) (M2 := mX11_refuse) (id := 0) (ci := 10) (T := TX11) (N := 9) (av := [.int (-2)]) kX11_refuse sX11_refuse rfl hX.1 lX11_58 rfl rfl (Nat.le_of_ble_eq_true rfl) dX11_set_38 h ?_
        intro v10 I9 J9 h
        exact jd_iretK (pc := 41) rfl rfl dX11_set_41 h
  · have h := h.2 hc
    refine jd_aload_n (pc := 8) 0 dX11_set_8 rfl rfl ?_
    refine jd_aload_n (pc := 9) 0 dX11_set_9 rfl rfl ?_
    refine jd_iload_n (pc := 10) 1 dX11_set_10 rfl rfl ?_
    refine jd_callVi (pc := 11) (M2 := mX11_whyNoRow) (id := 0) (ci := 10) (T := TX11) (N := 9) (av := [.int x1]) kX11_whyNoRow sX11_whyNoRow rfl hX.1 lX11_69 rfl rfl (Nat.le_of_ble_eq_true rfl) dX11_set_11 h ?_
    intro v12 I11 J11 h
    refine jd_callVi (pc := 14) (M2 := mX11_refuse) (id := 0) (ci := 10) (T := TX11) (N := 9) (av := [.int v12]) kX11_refuse sX11_refuse rfl hX.1 lX11_58 rfl rfl (Nat.le_of_ble_eq_true rfl) dX11_set_14 h ?_
    intro v14 I13 J13 h
    exact jd_iretK (pc := 17) rfl rfl dX11_set_17 h
theorem eX11_set {G : jdG} {n : Nat} {Z : jdL} {I : jdI} {J : jdJ} {K : Int32 → jdI → jdJ → Prop} {x1 : Int32} {x2 : Int32} {y3 : Int64} (hX : zX Z) (h : Cl G mX11_holdsRow n 0 0 [.ref (gb G + 0), .int x1] Z I J (qi Z (fun v2 I1 J1 => ((¬ v2 = 0 → ((x2 < 0 → Cl G mX11_refuse n 0 0 [.ref (gb G + 0), .int (-2)] Z I1 J1 (qi Z (fun v4 I3 J3 => K v4 I3 J3))) ∧ (¬ x2 < 0 → (vp_in x1 8 ∧ ((x2 < (I1 (29 + 2 * (Int32.toNatClampNeg x1)) 2) → (vp_in x1 8 ∧ Cl G mX6_put n 0 0 [.ref (gb G + (29 + 2 * (Int32.toNatClampNeg x1))), .int x2, .long y3] Z I1 J1 (qv Z (fun I7 J7 => K 1 I7 J7)))) ∧ (¬ x2 < (I1 (29 + 2 * (Int32.toNatClampNeg x1)) 2) → Cl G mX11_refuse n 0 0 [.ref (gb G + 0), .int (-2)] Z I1 J1 (qi Z (fun v10 I9 J9 => K v10 I9 J9)))))))) ∧ (v2 = 0 → Cl G mX11_whyNoRow n 0 0 [.ref (gb G + 0), .int x1] Z I1 J1 (qi Z (fun v12 I11 J11 => Cl G mX11_refuse n 0 0 [.ref (gb G + 0), .int v12] Z I11 J11 (qi Z (fun v14 I13 J13 => K v14 I13 J13))))))))) : Cl G mX11_set (n + 1) 0 0 [.ref (gb G + 0), .int x1, .int x2, .long y3] Z I J (qi Z K) :=
  Cl.of (by decide +kernel) (Nat.le_of_ble_eq_true rfl) (rX11_set_0 hX h)
set_option maxRecDepth 4000 in
theorem rX11_copy_0 {G : jdG} {n rc rs : Nat} {Z : jdL} {I : jdI} {J : jdJ} {K : Int32 → jdI → jdJ → Prop} {x1 : Int32} {x2 : Int32} {x3 : Int32} {x4 : Int32} {x5 : Int32} (hX : zX Z) (h : Cl G mX11_isShelf n 0 0 [.int x1] Z I J (qi Z (fun v2 I1 J1 => ((v2 = 0 → Cl G mX11_refuse n 0 0 [.ref (gb G + 0), .int (-2)] Z I1 J1 (qi Z (fun v4 I3 J3 => K v4 I3 J3))) ∧ (¬ v2 = 0 → Cl G mX11_isShelf n 0 0 [.int x2] Z I1 J1 (qi Z (fun v6 I5 J5 => ((¬ v6 = 0 → (vp_in x1 8 ∧ (vp_in x2 8 ∧ Cl G mX6_isRow n 0 0 [.ref (gb G + (29 + 2 * (Int32.toNatClampNeg x1)))] Z I5 J5 (qi Z (fun v10 I9 J9 => ((v10 = 0 → (((Z).2.1 (29 + 2 * (Int32.toNatClampNeg x1)) 3 = none → (((Z).2.1 (29 + 2 * (Int32.toNatClampNeg x2)) 3 = none → Cl G mX11_refuse n 0 0 [.ref (gb G + 0), .int (-4)] Z I9 J9 (qi Z (fun v16 I15 J15 => K v16 I15 J15))) ∧ (∀ w14, (Z).2.1 (29 + 2 * (Int32.toNatClampNeg x2)) 3 = some w14 → Cl G mX11_refuse n 0 0 [.ref (gb G + 0), .int (-3)] Z I9 J9 (qi Z (fun v18 I17 J17 => K v18 I17 J17))))) ∧ (∀ w12, (Z).2.1 (29 + 2 * (Int32.toNatClampNeg x1)) 3 = some w12 → Cl G mX11_refuse n 0 0 [.ref (gb G + 0), .int (-3)] Z I9 J9 (qi Z (fun v20 I19 J19 => K v20 I19 J19))))) ∧ (¬ v10 = 0 → Cl G mX6_isRow n 0 0 [.ref (gb G + (29 + 2 * (Int32.toNatClampNeg x2)))] Z I9 J9 (qi Z (fun v22 I21 J21 => ((v22 = 0 → (((Z).2.1 (29 + 2 * (Int32.toNatClampNeg x1)) 3 = none → (((Z).2.1 (29 + 2 * (Int32.toNatClampNeg x2)) 3 = none → Cl G mX11_refuse n 0 0 [.ref (gb G + 0), .int (-4)] Z I21 J21 (qi Z (fun v28 I27 J27 => K v28 I27 J27))) ∧ (∀ w26, (Z).2.1 (29 + 2 * (Int32.toNatClampNeg x2)) 3 = some w26 → Cl G mX11_refuse n 0 0 [.ref (gb G + 0), .int (-3)] Z I21 J21 (qi Z (fun v30 I29 J29 => K v30 I29 J29))))) ∧ (∀ w24, (Z).2.1 (29 + 2 * (Int32.toNatClampNeg x1)) 3 = some w24 → Cl G mX11_refuse n 0 0 [.ref (gb G + 0), .int (-3)] Z I21 J21 (qi Z (fun v32 I31 J31 => K v32 I31 J31))))) ∧ (¬ v22 = 0 → (((Z).2.1 (29 + 2 * (Int32.toNatClampNeg x1)) 3 = none → (((Z).2.1 (29 + 2 * (Int32.toNatClampNeg x2)) 3 = none → (((I21 (29 + 2 * (Int32.toNatClampNeg x1)) 1) = (I21 (29 + 2 * (Int32.toNatClampNeg x2)) 1) → ((x3 < 0 → Cl G mX11_refuse n 0 0 [.ref (gb G + 0), .int (-2)] Z I21 J21 (qi Z (fun v38 I37 J37 => K v38 I37 J37))) ∧ (¬ x3 < 0 → ((x4 < 0 → Cl G mX11_refuse n 0 0 [.ref (gb G + 0), .int (-2)] Z I21 J21 (qi Z (fun v40 I39 J39 => K v40 I39 J39))) ∧ (¬ x4 < 0 → ((x5 < 0 → Cl G mX11_refuse n 0 0 [.ref (gb G + 0), .int (-2)] Z I21 J21 (qi Z (fun v42 I41 J41 => K v42 I41 J41))) ∧ (¬ x5 < 0 → ((((I21 (29 + 2 * (Int32.toNatClampNeg x1)) 2) - x3) < x5 → Cl G mX11_refuse n 0 0 [.ref (gb G + 0), .int (-2)] Z I21 J21 (qi Z (fun v44 I43 J43 => K v44 I43 J43))) ∧ (¬ ((I21 (29 + 2 * (Int32.toNatClampNeg x1)) 2) - x3) < x5 → ((x5 ≤ ((I21 (29 + 2 * (Int32.toNatClampNeg x2)) 2) - x4) → (¬ x3 < 0 ∧ (¬ x4 < 0 ∧ (¬ x5 < 0 ∧ ((Int32.toNatClampNeg x3) + (Int32.toNatClampNeg x5) ≤ 40 ∧ ((Int32.toNatClampNeg x4) + (Int32.toNatClampNeg x5) ≤ 40 ∧ K x5 I21 (cJ J21 ((29 + 2 * (Int32.toNatClampNeg x1)) + 1) ((29 + 2 * (Int32.toNatClampNeg x2)) + 1) (Int32.toNatClampNeg x3) (Int32.toNatClampNeg x4) (Int32.toNatClampNeg x5)))))))) ∧ (¬ x5 ≤ ((I21 (29 + 2 * (Int32.toNatClampNeg x2)) 2) - x4) → Cl G mX11_refuse n 0 0 [.ref (gb G + 0), .int (-2)] Z I21 J21 (qi Z (fun v51 I50 J50 => K v51 I50 J50))))))))))))) ∧ (¬ (I21 (29 + 2 * (Int32.toNatClampNeg x1)) 1) = (I21 (29 + 2 * (Int32.toNatClampNeg x2)) 1) → Cl G mX11_refuse n 0 0 [.ref (gb G + 0), .int (-3)] Z I21 J21 (qi Z (fun v53 I52 J52 => K v53 I52 J52))))) ∧ (∀ w36, (Z).2.1 (29 + 2 * (Int32.toNatClampNeg x2)) 3 = some w36 → Cl G mX11_refuse n 0 0 [.ref (gb G + 0), .int (-3)] Z I21 J21 (qi Z (fun v55 I54 J54 => K v55 I54 J54))))) ∧ (∀ w34, (Z).2.1 (29 + 2 * (Int32.toNatClampNeg x1)) 3 = some w34 → Cl G mX11_refuse n 0 0 [.ref (gb G + 0), .int (-3)] Z I21 J21 (qi Z (fun v57 I56 J56 => K v57 I56 J56))))))))))))))) ∧ (v6 = 0 → Cl G mX11_refuse n 0 0 [.ref (gb G + 0), .int (-2)] Z I5 J5 (qi Z (fun v59 I58 J58 => K v59 I58 J58))))))))))) : Jd G mX11_copy (jdFm G (qi Z K)) (n + 1) rc rs 0 [(0, .ref (gb G + 0)), (1, .int x1), (2, .int x2), (3, .int x3), (4, .int x4), (5, .int x5)] [] Z I J := by
  refine jd_iload_n (pc := 0) 1 dX11_copy_0 rfl rfl ?_
  refine jd_callSi (pc := 1) (M2 := mX11_isShelf) (av := [.int x1]) kX11_isShelf sX11_isShelf lX11_54 rfl rfl (Nat.le_of_ble_eq_true rfl) dX11_copy_1 h ?_
  intro v2 I1 J1 h
  refine jd_if_eq (pc := 4) 14 dX11_copy_4 (by decide) (fun hc => ?_) (fun hc => ?_)
  · have h := h.1 hc
    refine jd_aload_n (pc := 14) 0 dX11_copy_14 rfl rfl ?_
    refine jd_bipush (pc := 15) (v := (-2)) dX11_copy_15 (by decide) ?_
    refine jd_callVi (pc := 17) (M2 := mX11_refuse) (id := 0) (ci := 10) (T := TX11) (N := 9) (av := [.int (-2)]) kX11_refuse sX11_refuse rfl hX.1 lX11_58 rfl rfl (Nat.le_of_ble_eq_true rfl) dX11_copy_17 h ?_
    intro v4 I3 J3 h
    exact jd_iretK (pc := 20) rfl rfl dX11_copy_20 h
  · have h := h.2 hc
    refine jd_iload_n (pc := 7) 2 dX11_copy_7 rfl rfl ?_
    refine jd_callSi (pc := 8) (M2 := mX11_isShelf) (av := [.int x2]) kX11_isShelf sX11_isShelf lX11_54 rfl rfl (Nat.le_of_ble_eq_true rfl) dX11_copy_8 h ?_
    intro v6 I5 J5 h
    refine jd_if_ne (pc := 11) 21 dX11_copy_11 (by decide) (fun hc => ?_) (fun hc => ?_)
    · have h := h.1 hc
      refine jd_aload_n (pc := 21) 0 dX11_copy_21 rfl rfl ?_
      refine jd_getR (pc := 22) (ci := 10) (k := 6) (r := 27) gX11_45 hX.1 rfl (zX_p6 hX) dX11_copy_22 ?_
      refine jd_iload_n (pc := 25) 1 dX11_copy_25 rfl rfl ?_
      obtain ⟨hv7, h⟩ := h
      refine jd_aald (pc := 26) (len := 8) (k := 4) (zX_a6 hX) (by decide) hv7 (zX_sh hX (vp_lt hv7)) dX11_copy_26 ?_
      refine jd_astore (pc := 27) [(6, .ref (gb G + (29 + 2 * (Int32.toNatClampNeg x1)))), (0, .ref (gb G + 0)), (1, .int x1), (2, .int x2), (3, .int x3), (4, .int x4), (5, .int x5)] dX11_copy_27 (by decide) rfl ?_
      refine jd_aload_n (pc := 29) 1 dX11_copy_29 rfl rfl ?_
      refine jd_getR (pc := 30) (ci := 10) (k := 6) (r := 27) gX11_45 hX.1 rfl (zX_p6 hX) dX11_copy_30 ?_
      refine jd_iload_n (pc := 33) 3 dX11_copy_33 rfl rfl ?_
      obtain ⟨hv8, h⟩ := h
      refine jd_aald (pc := 34) (len := 8) (k := 4) (zX_a6 hX) (by decide) hv8 (zX_sh hX (vp_lt hv8)) dX11_copy_34 ?_
      refine jd_astore (pc := 35) [(7, .ref (gb G + (29 + 2 * (Int32.toNatClampNeg x2)))), (6, .ref (gb G + (29 + 2 * (Int32.toNatClampNeg x1)))), (0, .ref (gb G + 0)), (1, .int x1), (2, .int x2), (3, .int x3), (4, .int x4), (5, .int x5)] dX11_copy_35 (by decide) rfl ?_
      refine jd_aload (pc := 37) 1 dX11_copy_37 rfl ?_
      refine jd_callVi (pc := 39) (M2 := mX6_isRow) (id := (29 + 2 * (Int32.toNatClampNeg x1))) (ci := 5) (T := TX6) (N := 4) (av := []) kX6_isRow sX6_isRow rfl (zX_shelf hX (vp_lt hv7)).1 lX11_80 rfl rfl (Nat.le_of_ble_eq_true rfl) dX11_copy_39 h ?_
      intro v10 I9 J9 h
      refine jd_if_eq (pc := 42) 57 dX11_copy_42 (by decide) (fun hc => ?_) (fun hc => ?_)
      · have h := h.1 hc
        refine jd_iconst (pc := 57) (v := 0) dX11_copy_57 (by decide) ?_
        refine jd_istore (pc := 58) [(8, .int 0), (7, .ref (gb G + (29 + 2 * (Int32.toNatClampNeg x2)))), (6, .ref (gb G + (29 + 2 * (Int32.toNatClampNeg x1)))), (0, .ref (gb G + 0)), (1, .int x1), (2, .int x2), (3, .int x3), (4, .int x4), (5, .int x5)] dX11_copy_58 (by decide) rfl ?_
        refine jd_aload (pc := 60) 2 dX11_copy_60 rfl ?_
        rcases hq11 : (Z).2.1 (29 + 2 * (Int32.toNatClampNeg x1)) 3 with _ | w12
        · have h := h.1 hq11
          refine jd_getN (pc := 62) (ci := 5) (k := 3) gX11_84 (zX_shelf hX (vp_lt hv7)).1 rfl hq11 dX11_copy_62 ?_
          refine jd_ifnonnullN (pc := 65) dX11_copy_65 ?_
          refine jd_aload (pc := 68) 1 dX11_copy_68 rfl ?_
          rcases hq13 : (Z).2.1 (29 + 2 * (Int32.toNatClampNeg x2)) 3 with _ | w14
          · have h := h.1 hq13
            refine jd_getN (pc := 70) (ci := 5) (k := 3) gX11_84 (zX_shelf hX (vp_lt hv8)).1 rfl hq13 dX11_copy_70 ?_
            refine jd_ifnonnullN (pc := 73) dX11_copy_73 ?_
            refine jd_iload (pc := 76) 0 dX11_copy_76 rfl ?_
            refine jd_if_eq (pc := 78) 101 dX11_copy_78 (by decide) (fun _ => ?_) (fun hc => absurd (show (0 : Int32) = 0 by decide) hc)
            refine jd_iload (pc := 101) 0 dX11_copy_101 rfl ?_
            refine jd_if_ne (pc := 103) 113 dX11_copy_103 (by decide) (fun hc => absurd (show (0 : Int32) = 0 by decide) hc) (fun _ => ?_)
            refine jd_aload_n (pc := 106) 3 dX11_copy_106 rfl rfl ?_
            refine jd_bipush (pc := 107) (v := (-4)) dX11_copy_107 (by decide) ?_
            refine jd_callVi (pc := 109) (M2 := mX11_refuse) (id := 0) (ci := 10) (T := TX11) (N := 9) (av := [.int (-4)]) kX11_refuse sX11_refuse rfl hX.1 lX11_58 rfl rfl (Nat.le_of_ble_eq_true rfl) dX11_copy_109 h ?_
            intro v16 I15 J15 h
            exact jd_iretK (pc := 112) rfl rfl dX11_copy_112 h
          · have h := h.2 w14 hq13
            refine jd_getR (pc := 70) (ci := 5) (k := 3) (r := w14) gX11_84 (zX_shelf hX (vp_lt hv8)).1 rfl hq13 dX11_copy_70 ?_
            refine jd_ifnonnull (pc := 73) 94 dX11_copy_73 (by decide) ?_
            refine jd_aload_n (pc := 94) 3 dX11_copy_94 rfl rfl ?_
            refine jd_bipush (pc := 95) (v := (-3)) dX11_copy_95 (by decide) ?_
            refine jd_callVi (pc := 97) (M2 := mX11_refuse) (id := 0) (ci := 10) (T := TX11) (N := 9) (av := [.int (-3)]) kX11_refuse sX11_refuse rfl hX.1 lX11_58 rfl rfl (Nat.le_of_ble_eq_true rfl) dX11_copy_97 h ?_
            intro v18 I17 J17 h
            exact jd_iretK (pc := 100) rfl rfl dX11_copy_100 h
        · have h := h.2 w12 hq11
          refine jd_getR (pc := 62) (ci := 5) (k := 3) (r := w12) gX11_84 (zX_shelf hX (vp_lt hv7)).1 rfl hq11 dX11_copy_62 ?_
          refine jd_ifnonnull (pc := 65) 94 dX11_copy_65 (by decide) ?_
          refine jd_aload_n (pc := 94) 3 dX11_copy_94 rfl rfl ?_
          refine jd_bipush (pc := 95) (v := (-3)) dX11_copy_95 (by decide) ?_
          refine jd_callVi (pc := 97) (M2 := mX11_refuse) (id := 0) (ci := 10) (T := TX11) (N := 9) (av := [.int (-3)]) kX11_refuse sX11_refuse rfl hX.1 lX11_58 rfl rfl (Nat.le_of_ble_eq_true rfl) dX11_copy_97 h ?_
          intro v20 I19 J19 h
          exact jd_iretK (pc := 100) rfl rfl dX11_copy_100 h
      · have h := h.2 hc
        refine jd_aload (pc := 45) 0 dX11_copy_45 rfl ?_
        refine jd_callVi (pc := 47) (M2 := mX6_isRow) (id := (29 + 2 * (Int32.toNatClampNeg x2))) (ci := 5) (T := TX6) (N := 4) (av := []) kX6_isRow sX6_isRow rfl (zX_shelf hX (vp_lt hv8)).1 lX11_80 rfl rfl (Nat.le_of_ble_eq_true rfl) dX11_copy_47 h ?_
        intro v22 I21 J21 h
        refine jd_if_eq (pc := 50) 57 dX11_copy_50 (by decide) (fun hc => ?_) (fun hc => ?_)
        · have h := h.1 hc
          refine jd_iconst (pc := 57) (v := 0) dX11_copy_57 (by decide) ?_
          refine jd_istore (pc := 58) [(8, .int 0), (7, .ref (gb G + (29 + 2 * (Int32.toNatClampNeg x2)))), (6, .ref (gb G + (29 + 2 * (Int32.toNatClampNeg x1)))), (0, .ref (gb G + 0)), (1, .int x1), (2, .int x2), (3, .int x3), (4, .int x4), (5, .int x5)] dX11_copy_58 (by decide) rfl ?_
          refine jd_aload (pc := 60) 2 dX11_copy_60 rfl ?_
          rcases hq23 : (Z).2.1 (29 + 2 * (Int32.toNatClampNeg x1)) 3 with _ | w24
          · have h := h.1 hq23
            refine jd_getN (pc := 62) (ci := 5) (k := 3) gX11_84 (zX_shelf hX (vp_lt hv7)).1 rfl hq23 dX11_copy_62 ?_
            refine jd_ifnonnullN (pc := 65) dX11_copy_65 ?_
            refine jd_aload (pc := 68) 1 dX11_copy_68 rfl ?_
            rcases hq25 : (Z).2.1 (29 + 2 * (Int32.toNatClampNeg x2)) 3 with _ | w26
            · have h := h.1 hq25
              refine jd_getN (pc := 70) (ci := 5) (k := 3) gX11_84 (zX_shelf hX (vp_lt hv8)).1 rfl hq25 dX11_copy_70 ?_
              refine jd_ifnonnullN (pc := 73) dX11_copy_73 ?_
              refine jd_iload (pc := 76) 0 dX11_copy_76 rfl ?_
              refine jd_if_eq (pc := 78) 101 dX11_copy_78 (by decide) (fun _ => ?_) (fun hc => absurd (show (0 : Int32) = 0 by decide) hc)
              refine jd_iload (pc := 101) 0 dX11_copy_101 rfl ?_
              refine jd_if_ne (pc := 103) 113 dX11_copy_103 (by decide) (fun hc => absurd (show (0 : Int32) = 0 by decide) hc) (fun _ => ?_)
              refine jd_aload_n (pc := 106) 3 dX11_copy_106 rfl rfl ?_
              refine jd_bipush (pc := 107) (v := (-4)) dX11_copy_107 (by decide) ?_
              refine jd_callVi (pc := 109) (M2 := mX11_refuse) (id := 0) (ci := 10) (T := TX11) (N := 9) (av := [.int (-4)]) kX11_refuse sX11_refuse rfl hX.1 lX11_58 rfl rfl (Nat.le_of_ble_eq_true rfl) dX11_copy_109 h ?_
              intro v28 I27 J27 h
              exact jd_iretK (pc := 112) rfl rfl dX11_copy_112 h
            · have h := h.2 w26 hq25
              refine jd_getR (pc := 70) (ci := 5) (k := 3) (r := w26) gX11_84 (zX_shelf hX (vp_lt hv8)).1 rfl hq25 dX11_copy_70 ?_
              refine jd_ifnonnull (pc := 73) 94 dX11_copy_73 (by decide) ?_
              refine jd_aload_n (pc := 94) 3 dX11_copy_94 rfl rfl ?_
              refine jd_bipush (pc := 95) (v := (-3)) dX11_copy_95 (by decide) ?_
              refine jd_callVi (pc := 97) (M2 := mX11_refuse) (id := 0) (ci := 10) (T := TX11) (N := 9) (av := [.int (-3)]) kX11_refuse sX11_refuse rfl hX.1 lX11_58 rfl rfl (Nat.le_of_ble_eq_true rfl) dX11_copy_97 h ?_
              intro v30 I29 J29 h
              exact jd_iretK (pc := 100) rfl rfl dX11_copy_100 h
          · have h := h.2 w24 hq23
            refine jd_getR (pc := 62) (ci := 5) (k := 3) (r := w24) gX11_84 (zX_shelf hX (vp_lt hv7)).1 rfl hq23 dX11_copy_62 ?_
            refine jd_ifnonnull (pc := 65) 94 dX11_copy_65 (by decide) ?_
            refine jd_aload_n (pc := 94) 3 dX11_copy_94 rfl rfl ?_
            refine jd_bipush (pc := 95) (v := (-3)) dX11_copy_95 (by decide) ?_
            refine jd_callVi (pc := 97) (M2 := mX11_refuse) (id := 0) (ci := 10) (T := TX11) (N := 9) (av := [.int (-3)]) kX11_refuse sX11_refuse rfl hX.1 lX11_58 rfl rfl (Nat.le_of_ble_eq_true rfl) dX11_copy_97 h ?_
            intro v32 I31 J31 h
            exact jd_iretK (pc := 100) rfl rfl dX11_copy_100 h
        · have h := h.2 hc
          refine jd_iconst (pc := 53) (v := 1) dX11_copy_53 (by decide) ?_
          refine jd_goto (pc := 54) 58 dX11_copy_54 (by decide) ?_
          refine jd_istore (pc := 58) [(8, .int 1), (7, .ref (gb G + (29 + 2 * (Int32.toNatClampNeg x2)))), (6, .ref (gb G + (29 + 2 * (Int32.toNatClampNeg x1)))), (0, .ref (gb G + 0)), (1, .int x1), (2, .int x2), (3, .int x3), (4, .int x4), (5, .int x5)] dX11_copy_58 (by decide) rfl ?_
          refine jd_aload (pc := 60) 2 dX11_copy_60 rfl ?_
          rcases hq33 : (Z).2.1 (29 + 2 * (Int32.toNatClampNeg x1)) 3 with _ | w34
          · have h := h.1 hq33
            refine jd_getN (pc := 62) (ci := 5) (k := 3) gX11_84 (zX_shelf hX (vp_lt hv7)).1 rfl hq33 dX11_copy_62 ?_
            refine jd_ifnonnullN (pc := 65) dX11_copy_65 ?_
            refine jd_aload (pc := 68) 1 dX11_copy_68 rfl ?_
            rcases hq35 : (Z).2.1 (29 + 2 * (Int32.toNatClampNeg x2)) 3 with _ | w36
            · have h := h.1 hq35
              refine jd_getN (pc := 70) (ci := 5) (k := 3) gX11_84 (zX_shelf hX (vp_lt hv8)).1 rfl hq35 dX11_copy_70 ?_
              refine jd_ifnonnullN (pc := 73) dX11_copy_73 ?_
              refine jd_iload (pc := 76) 0 dX11_copy_76 rfl ?_
              refine jd_if_eq (pc := 78) 101 dX11_copy_78 (by decide) (fun hc => absurd hc (by decide)) (fun _ => ?_)
              refine jd_aload (pc := 81) 2 dX11_copy_81 rfl ?_
              refine jd_getI (pc := 83) (ci := 5) (k := 1) gX11_88 (zX_shelf hX (vp_lt hv7)).1 rfl dX11_copy_83 ?_
              refine jd_aload (pc := 86) 1 dX11_copy_86 rfl ?_
              refine jd_getI (pc := 88) (ci := 5) (k := 1) gX11_88 (zX_shelf hX (vp_lt hv8)).1 rfl dX11_copy_88 ?_
              refine jd_icmp_eq (pc := 91) 101 dX11_copy_91 (by decide) (fun hc => ?_) (fun hc => ?_)
              · have h := h.1 hc
                refine jd_iload (pc := 101) 0 dX11_copy_101 rfl ?_
                refine jd_if_ne (pc := 103) 113 dX11_copy_103 (by decide) (fun _ => ?_) (fun hc => absurd hc (by decide))
                refine jd_iload_n (pc := 113) 6 dX11_copy_113 rfl rfl ?_
                refine jd_if_lt (pc := 114) 152 dX11_copy_114 (by decide) (fun hc => ?_) (fun hc => ?_)
                · have h := h.1 hc
                  refine jd_aload_n (pc := 152) 3 dX11_copy_152 rfl rfl ?_
                  refine jd_bipush (pc := 153) (v := (-2)) dX11_copy_153 (by decide) ?_
                  refine jd_callVi (pc := 155) (M2 := mX11_refuse) (id := 0) (ci := 10) (T := TX11) (N := 9) (av := [.int (-2)]) kX11_refuse sX11_refuse rfl hX.1 lX11_58 rfl rfl (Nat.le_of_ble_eq_true rfl) dX11_copy_155 h ?_
                  intro v38 I37 J37 h
                  exact jd_iretK (pc := 158) rfl rfl dX11_copy_158 h
                · have h := h.2 hc
                  refine jd_iload (pc := 117) 7 dX11_copy_117 rfl ?_
                  refine jd_if_lt (pc := 119) 152 dX11_copy_119 (by decide) (fun hc => ?_) (fun hc => ?_)
                  · have h := h.1 hc
                    refine jd_aload_n (pc := 152) 3 dX11_copy_152 rfl rfl ?_
                    refine jd_bipush (pc := 153) (v := (-2)) dX11_copy_153 (by decide) ?_
                    refine jd_callVi (pc := 155) (M2 := mX11_refuse) (id := 0) (ci := 10) (T := TX11) (N := 9) (av := [.int (-2)]) kX11_refuse sX11_refuse rfl hX.1 lX11_58 rfl rfl (Nat.le_of_ble_eq_true rfl) dX11_copy_155 h ?_
                    intro v40 I39 J39 h
                    exact jd_iretK (pc := 158) rfl rfl dX11_copy_158 h
                  · have h := h.2 hc
                    refine jd_iload (pc := 122) 8 dX11_copy_122 rfl ?_
                    refine jd_if_lt (pc := 124) 152 dX11_copy_124 (by decide) (fun hc => ?_) (fun hc => ?_)
                    · have h := h.1 hc
                      refine jd_aload_n (pc := 152) 3 dX11_copy_152 rfl rfl ?_
                      refine jd_bipush (pc := 153) (v := (-2)) dX11_copy_153 (by decide) ?_
                      refine jd_callVi (pc := 155) (M2 := mX11_refuse) (id := 0) (ci := 10) (T := TX11) (N := 9) (av := [.int (-2)]) kX11_refuse sX11_refuse rfl hX.1 lX11_58 rfl rfl (Nat.le_of_ble_eq_true rfl) dX11_copy_155 h ?_
                      intro v42 I41 J41 h
                      exact jd_iretK (pc := 158) rfl rfl dX11_copy_158 h
                    · have h := h.2 hc
                      refine jd_iload (pc := 127) 8 dX11_copy_127 rfl ?_
                      refine jd_aload (pc := 129) 2 dX11_copy_129 rfl ?_
                      refine jd_getI (pc := 131) (ci := 5) (k := 2) gX11_72 (zX_shelf hX (vp_lt hv7)).1 rfl dX11_copy_131 ?_
                      refine jd_iload_n (pc := 134) 6 dX11_copy_134 rfl rfl ?_
                      refine jd_isub (pc := 135) dX11_copy_135 ?_
                      refine jd_icmp_gt (pc := 136) 152 dX11_copy_136 (by decide) (fun hc => ?_) (fun hc => ?_)
                      · have h := h.1 hc
                        refine jd_aload_n (pc := 152) 3 dX11_copy_152 rfl rfl ?_
                        refine jd_bipush (pc := 153) (v := (-2)) dX11_copy_153 (by decide) ?_
                        refine jd_callVi (pc := 155) (M2 := mX11_refuse) (id := 0) (ci := 10) (T := TX11) (N := 9) (av := [.int (-2)]) kX11_refuse sX11_refuse rfl hX.1 lX11_58 rfl rfl (Nat.le_of_ble_eq_true rfl) dX11_copy_155 h ?_
                        intro v44 I43 J43 h
                        exact jd_iretK (pc := 158) rfl rfl dX11_copy_158 h
                      · have h := h.2 hc
                        refine jd_iload (pc := 139) 8 dX11_copy_139 rfl ?_
                        refine jd_aload (pc := 141) 1 dX11_copy_141 rfl ?_
                        refine jd_getI (pc := 143) (ci := 5) (k := 2) gX11_72 (zX_shelf hX (vp_lt hv8)).1 rfl dX11_copy_143 ?_
                        refine jd_iload (pc := 146) 7 dX11_copy_146 rfl ?_
                        refine jd_isub (pc := 148) dX11_copy_148 ?_
                        refine jd_icmp_le (pc := 149) 159 dX11_copy_149 (by decide) (fun hc => ?_) (fun hc => ?_)
                        · have h := h.1 hc
                          refine jd_aload (pc := 159) 2 dX11_copy_159 rfl ?_
                          refine jd_getR (pc := 161) (ci := 5) (k := 0) (r := ((29 + 2 * (Int32.toNatClampNeg x1)) + 1)) gX11_91 (zX_shelf hX (vp_lt hv7)).1 rfl (zShelf_p0 (zX_shelf hX (vp_lt hv7))) dX11_copy_161 ?_
                          refine jd_iload_n (pc := 164) 6 dX11_copy_164 rfl rfl ?_
                          refine jd_aload (pc := 165) 1 dX11_copy_165 rfl ?_
                          refine jd_getR (pc := 167) (ci := 5) (k := 0) (r := ((29 + 2 * (Int32.toNatClampNeg x2)) + 1)) gX11_91 (zX_shelf hX (vp_lt hv8)).1 rfl (zShelf_p0 (zX_shelf hX (vp_lt hv8))) dX11_copy_167 ?_
                          refine jd_iload (pc := 170) 7 dX11_copy_170 rfl ?_
                          refine jd_iload (pc := 172) 8 dX11_copy_172 rfl ?_
                          obtain ⟨hv45, h⟩ := h
                          obtain ⟨hv46, h⟩ := h
                          obtain ⟨hv47, h⟩ := h
                          obtain ⟨hv48, h⟩ := h
                          obtain ⟨hv49, h⟩ := h
                          refine jd_copyJ (pc := 174) (n0 := 40) (n1 := 40) cX11_95 (zShelf_a0 (zX_shelf hX (vp_lt hv7))) (zShelf_a0 (zX_shelf hX (vp_lt hv8))) (Nat.le_of_ble_eq_true rfl) hv45 hv46 hv47 hv48 hv49 dX11_copy_174 ?_
                          refine jd_iload (pc := 177) 8 dX11_copy_177 rfl ?_
                          exact jd_iretK (pc := 179) rfl rfl dX11_copy_179 h
                        · have h := h.2 hc
                          refine jd_aload_n (pc := 152) 3 dX11_copy_152 rfl rfl ?_
                          refine jd_bipush (pc := 153) (v := (-2)) dX11_copy_153 (by decide) ?_
                          refine jd_callVi (pc := 155) (M2 := mX11_refuse) (id := 0) (ci := 10) (T := TX11) (N := 9) (av := [.int (-2)]) kX11_refuse sX11_refuse rfl hX.1 lX11_58 rfl rfl (Nat.le_of_ble_eq_true rfl) dX11_copy_155 h ?_
                          intro v51 I50 J50 h
                          exact jd_iretK (pc := 158) rfl rfl dX11_copy_158 h
              · have h := h.2 hc
                refine jd_aload_n (pc := 94) 3 dX11_copy_94 rfl rfl ?_
                refine jd_bipush (pc := 95) (v := (-3)) dX11_copy_95 (by decide) ?_
                refine jd_callVi (pc := 97) (M2 := mX11_refuse) (id := 0) (ci := 10) (T := TX11) (N := 9) (av := [.int (-3)]) kX11_refuse sX11_refuse rfl hX.1 lX11_58 rfl rfl (Nat.le_of_ble_eq_true rfl) dX11_copy_97 h ?_
                intro v53 I52 J52 h
                exact jd_iretK (pc := 100) rfl rfl dX11_copy_100 h
            · have h := h.2 w36 hq35
              refine jd_getR (pc := 70) (ci := 5) (k := 3) (r := w36) gX11_84 (zX_shelf hX (vp_lt hv8)).1 rfl hq35 dX11_copy_70 ?_
              refine jd_ifnonnull (pc := 73) 94 dX11_copy_73 (by decide) ?_
              refine jd_aload_n (pc := 94) 3 dX11_copy_94 rfl rfl ?_
              refine jd_bipush (pc := 95) (v := (-3)) dX11_copy_95 (by decide) ?_
              refine jd_callVi (pc := 97) (M2 := mX11_refuse) (id := 0) (ci := 10) (T := TX11) (N := 9) (av := [.int (-3)]) kX11_refuse sX11_refuse rfl hX.1 lX11_58 rfl rfl (Nat.le_of_ble_eq_true rfl) dX11_copy_97 h ?_
              intro v55 I54 J54 h
              exact jd_iretK (pc := 100) rfl rfl dX11_copy_100 h
          · have h := h.2 w34 hq33
            refine jd_getR (pc := 62) (ci := 5) (k := 3) (r := w34) gX11_84 (zX_shelf hX (vp_lt hv7)).1 rfl hq33 dX11_copy_62 ?_
            refine jd_ifnonnull (pc := 65) 94 dX11_copy_65 (by decide) ?_
            refine jd_aload_n (pc := 94) 3 dX11_copy_94 rfl rfl ?_
            refine jd_bipush (pc := 95) (v := (-3)) dX11_copy_95 (by decide) ?_
            refine jd_callVi (pc := 97) (M2 := mX11_refuse) (id := 0) (ci := 10) (T := TX11) (N := 9) (av := [.int (-3)]) kX11_refuse sX11_refuse rfl hX.1 lX11_58 rfl rfl (Nat.le_of_ble_eq_true rfl) dX11_copy_97 h ?_
            intro v57 I56 J56 h
            exact jd_iretK (pc := 100) rfl rfl dX11_copy_100 h
    · have h := h.2 hc
      refine jd_aload_n (pc := 14) 0 dX11_copy_14 rfl rfl ?_
      refine jd_bipush (pc := 15) (v := (-2)) dX11_copy_15 (by decide) ?_
      refine jd_callVi (pc := 17) (M2 := mX11_refuse) (id := 0) (ci := 10) (T := TX11) (N := 9) (av := [.int (-2)]) kX11_refuse sX11_refuse rfl hX.1 lX11_58 rfl rfl (Nat.le_of_ble_eq_true rfl) dX11_copy_17 h ?_
      intro v59 I58 J58 h
      exact jd_iretK (pc := 20) rfl rfl dX11_copy_20 h
theorem eX11_copy {G : jdG} {n : Nat} {Z : jdL} {I : jdI} {J : jdJ} {K : Int32 → jdI → jdJ → Prop} {x1 : Int32} {x2 : Int32} {x3 : Int32} {x4 : Int32} {x5 : Int32} (hX : zX Z) (h : Cl G mX11_isShelf n 0 0 [.int x1] Z I J (qi Z (fun v2 I1 J1 => ((v2 = 0 → Cl G mX11_refuse n 0 0 [.ref (gb G + 0), .int (-2)] Z I1 J1 (qi Z (fun v4 I3 J3 => K v4 I3 J3))) ∧ (¬ v2 = 0 → Cl G mX11_isShelf n 0 0 [.int x2] Z I1 J1 (qi Z (fun v6 I5 J5 => ((¬ v6 = 0 → (vp_in x1 8 ∧ (vp_in x2 8 ∧ Cl G mX6_isRow n 0 0 [.ref (gb G + (29 + 2 * (Int32.toNatClampNeg x1)))] Z I5 J5 (qi Z (fun v10 I9 J9 => ((v10 = 0 → (((Z).2.1 (29 + 2 * (Int32.toNatClampNeg x1)) 3 = none → (((Z).2.1 (29 + 2 * (Int32.toNatClampNeg x2)) 3 = none → Cl G mX11_refuse n 0 0 [.ref (gb G + 0), .int (-4)] Z I9 J9 (qi Z (fun v16 I15 J15 => K v16 I15 J15))) ∧ (∀ w14, (Z).2.1 (29 + 2 * (Int32.toNatClampNeg x2)) 3 = some w14 → Cl G mX11_refuse n 0 0 [.ref (gb G + 0), .int (-3)] Z I9 J9 (qi Z (fun v18 I17 J17 => K v18 I17 J17))))) ∧ (∀ w12, (Z).2.1 (29 + 2 * (Int32.toNatClampNeg x1)) 3 = some w12 → Cl G mX11_refuse n 0 0 [.ref (gb G + 0), .int (-3)] Z I9 J9 (qi Z (fun v20 I19 J19 => K v20 I19 J19))))) ∧ (¬ v10 = 0 → Cl G mX6_isRow n 0 0 [.ref (gb G + (29 + 2 * (Int32.toNatClampNeg x2)))] Z I9 J9 (qi Z (fun v22 I21 J21 => ((v22 = 0 → (((Z).2.1 (29 + 2 * (Int32.toNatClampNeg x1)) 3 = none → (((Z).2.1 (29 + 2 * (Int32.toNatClampNeg x2)) 3 = none → Cl G mX11_refuse n 0 0 [.ref (gb G + 0), .int (-4)] Z I21 J21 (qi Z (fun v28 I27 J27 => K v28 I27 J27))) ∧ (∀ w26, (Z).2.1 (29 + 2 * (Int32.toNatClampNeg x2)) 3 = some w26 → Cl G mX11_refuse n 0 0 [.ref (gb G + 0), .int (-3)] Z I21 J21 (qi Z (fun v30 I29 J29 => K v30 I29 J29))))) ∧ (∀ w24, (Z).2.1 (29 + 2 * (Int32.toNatClampNeg x1)) 3 = some w24 → Cl G mX11_refuse n 0 0 [.ref (gb G + 0), .int (-3)] Z I21 J21 (qi Z (fun v32 I31 J31 => K v32 I31 J31))))) ∧ (¬ v22 = 0 → (((Z).2.1 (29 + 2 * (Int32.toNatClampNeg x1)) 3 = none → (((Z).2.1 (29 + 2 * (Int32.toNatClampNeg x2)) 3 = none → (((I21 (29 + 2 * (Int32.toNatClampNeg x1)) 1) = (I21 (29 + 2 * (Int32.toNatClampNeg x2)) 1) → ((x3 < 0 → Cl G mX11_refuse n 0 0 [.ref (gb G + 0), .int (-2)] Z I21 J21 (qi Z (fun v38 I37 J37 => K v38 I37 J37))) ∧ (¬ x3 < 0 → ((x4 < 0 → Cl G mX11_refuse n 0 0 [.ref (gb G + 0), .int (-2)] Z I21 J21 (qi Z (fun v40 I39 J39 => K v40 I39 J39))) ∧ (¬ x4 < 0 → ((x5 < 0 → Cl G mX11_refuse n 0 0 [.ref (gb G + 0), .int (-2)] Z I21 J21 (qi Z (fun v42 I41 J41 => K v42 I41 J41))) ∧ (¬ x5 < 0 → ((((I21 (29 + 2 * (Int32.toNatClampNeg x1)) 2) - x3) < x5 → Cl G mX11_refuse n 0 0 [.ref (gb G + 0), .int (-2)] Z I21 J21 (qi Z (fun v44 I43 J43 => K v44 I43 J43))) ∧ (¬ ((I21 (29 + 2 * (Int32.toNatClampNeg x1)) 2) - x3) < x5 → ((x5 ≤ ((I21 (29 + 2 * (Int32.toNatClampNeg x2)) 2) - x4) → (¬ x3 < 0 ∧ (¬ x4 < 0 ∧ (¬ x5 < 0 ∧ ((Int32.toNatClampNeg x3) + (Int32.toNatClampNeg x5) ≤ 40 ∧ ((Int32.toNatClampNeg x4) + (Int32.toNatClampNeg x5) ≤ 40 ∧ K x5 I21 (cJ J21 ((29 + 2 * (Int32.toNatClampNeg x1)) + 1) ((29 + 2 * (Int32.toNatClampNeg x2)) + 1) (Int32.toNatClampNeg x3) (Int32.toNatClampNeg x4) (Int32.toNatClampNeg x5)))))))) ∧ (¬ x5 ≤ ((I21 (29 + 2 * (Int32.toNatClampNeg x2)) 2) - x4) → Cl G mX11_refuse n 0 0 [.ref (gb G + 0), .int (-2)] Z I21 J21 (qi Z (fun v51 I50 J50 => K v51 I50 J50))))))))))))) ∧ (¬ (I21 (29 + 2 * (Int32.toNatClampNeg x1)) 1) = (I21 (29 + 2 * (Int32.toNatClampNeg x2)) 1) → Cl G mX11_refuse n 0 0 [.ref (gb G + 0), .int (-3)] Z I21 J21 (qi Z (fun v53 I52 J52 => K v53 I52 J52))))) ∧ (∀ w36, (Z).2.1 (29 + 2 * (Int32.toNatClampNeg x2)) 3 = some w36 → Cl G mX11_refuse n 0 0 [.ref (gb G + 0), .int (-3)] Z I21 J21 (qi Z (fun v55 I54 J54 => K v55 I54 J54))))) ∧ (∀ w34, (Z).2.1 (29 + 2 * (Int32.toNatClampNeg x1)) 3 = some w34 → Cl G mX11_refuse n 0 0 [.ref (gb G + 0), .int (-3)] Z I21 J21 (qi Z (fun v57 I56 J56 => K v57 I56 J56))))))))))))))) ∧ (v6 = 0 → Cl G mX11_refuse n 0 0 [.ref (gb G + 0), .int (-2)] Z I5 J5 (qi Z (fun v59 I58 J58 => K v59 I58 J58))))))))))) : Cl G mX11_copy (n + 1) 0 0 [.ref (gb G + 0), .int x1, .int x2, .int x3, .int x4, .int x5] Z I J (qi Z K) :=
  Cl.of (by decide +kernel) (Nat.le_of_ble_eq_true rfl) (rX11_copy_0 hX h)
set_option maxRecDepth 4000 in
theorem rX11_element_0 {G : jdG} {n rc rs : Nat} {Z : jdL} {I : jdI} {J : jdJ} {K : Int64 → jdI → jdJ → Prop} {x1 : Int32} {x2 : Int32} (hX : zX Z) (h : Cl G mX11_holdsRow n 0 0 [.ref (gb G + 0), .int x1] Z I J (qi Z (fun v2 I1 J1 => ((v2 = 0 → K 0 I1 J1) ∧ (¬ v2 = 0 → ((x2 < 0 → K 0 I1 J1) ∧ (¬ x2 < 0 → (vp_in x1 8 ∧ ((x2 < (I1 (29 + 2 * (Int32.toNatClampNeg x1)) 2) → (vp_in x1 8 ∧ (vp_in x2 40 ∧ K (J1 ((29 + 2 * (Int32.toNatClampNeg x1)) + 1) (Int32.toNatClampNeg x2)) I1 J1))) ∧ (¬ x2 < (I1 (29 + 2 * (Int32.toNatClampNeg x1)) 2) → K 0 I1 J1)))))))))) : Jd G mX11_element (jdFm G (ql Z K)) (n + 1) rc rs 0 [(0, .ref (gb G + 0)), (1, .int x1), (2, .int x2)] [] Z I J := by
  refine jd_aload_n (pc := 0) 0 dX11_element_0 rfl rfl ?_
  refine jd_iload_n (pc := 1) 1 dX11_element_1 rfl rfl ?_
  refine jd_callVi (pc := 2) (M2 := mX11_holdsRow) (id := 0) (ci := 10) (T := TX11) (N := 9) (av := [.int x1]) kX11_holdsRow sX11_holdsRow rfl hX.1 lX11_66 rfl rfl (Nat.le_of_ble_eq_true rfl) dX11_element_2 h ?_
  intro v2 I1 J1 h
  refine jd_if_eq (pc := 5) 25 dX11_element_5 (by decide) (fun hc => ?_) (fun hc => ?_)
  · have h := h.1 hc
    refine jd_lconst (pc := 25) (v := 0) dX11_element_25 (by decide) ?_
    exact jd_lretK (pc := 26) rfl dX11_element_26 h
  · have h := h.2 hc
    refine jd_iload_n (pc := 8) 2 dX11_element_8 rfl rfl ?_
    refine jd_if_lt (pc := 9) 25 dX11_element_9 (by decide) (fun hc => ?_) (fun hc => ?_)
    · have h := h.1 hc
      refine jd_lconst (pc := 25) (v := 0) dX11_element_25 (by decide) ?_
      exact jd_lretK (pc := 26) rfl dX11_element_26 h
    · have h := h.2 hc
      refine jd_iload_n (pc := 12) 2 dX11_element_12 rfl rfl ?_
      refine jd_aload_n (pc := 13) 0 dX11_element_13 rfl rfl ?_
      refine jd_getR (pc := 14) (ci := 10) (k := 6) (r := 27) gX11_45 hX.1 rfl (zX_p6 hX) dX11_element_14 ?_
      refine jd_iload_n (pc := 17) 1 dX11_element_17 rfl rfl ?_
      obtain ⟨hv3, h⟩ := h
      refine jd_aald (pc := 18) (len := 8) (k := 4) (zX_a6 hX) (by decide) hv3 (zX_sh hX (vp_lt hv3)) dX11_element_18 ?_
      refine jd_getI (pc := 19) (ci := 5) (k := 2) gX11_72 (zX_shelf hX (vp_lt hv3)).1 rfl dX11_element_19 ?_
      refine jd_icmp_lt (pc := 22) 27 dX11_element_22 (by decide) (fun hc => ?_) (fun hc => ?_)
      · have h := h.1 hc
        refine jd_aload_n (pc := 27) 0 dX11_element_27 rfl rfl ?_
        refine jd_getR (pc := 28) (ci := 10) (k := 6) (r := 27) gX11_45 hX.1 rfl (zX_p6 hX) dX11_element_28 ?_
        refine jd_iload_n (pc := 31) 1 dX11_element_31 rfl rfl ?_
        obtain ⟨hv4, h⟩ := h
        refine jd_aald (pc := 32) (len := 8) (k := 4) (zX_a6 hX) (by decide) hv4 (zX_sh hX (vp_lt hv4)) dX11_element_32 ?_
        refine jd_getR (pc := 33) (ci := 5) (k := 0) (r := ((29 + 2 * (Int32.toNatClampNeg x1)) + 1)) gX11_91 (zX_shelf hX (vp_lt hv4)).1 rfl (zShelf_p0 (zX_shelf hX (vp_lt hv4))) dX11_element_33 ?_
        refine jd_iload_n (pc := 36) 2 dX11_element_36 rfl rfl ?_
        obtain ⟨hv5, h⟩ := h
        refine jd_lald (pc := 37) (len := 40) (zShelf_a0 (zX_shelf hX (vp_lt hv4))) hv5 dX11_element_37 ?_
        exact jd_lretK (pc := 38) rfl dX11_element_38 h
      · have h := h.2 hc
        refine jd_lconst (pc := 25) (v := 0) dX11_element_25 (by decide) ?_
        exact jd_lretK (pc := 26) rfl dX11_element_26 h
theorem eX11_element {G : jdG} {n : Nat} {Z : jdL} {I : jdI} {J : jdJ} {K : Int64 → jdI → jdJ → Prop} {x1 : Int32} {x2 : Int32} (hX : zX Z) (h : Cl G mX11_holdsRow n 0 0 [.ref (gb G + 0), .int x1] Z I J (qi Z (fun v2 I1 J1 => ((v2 = 0 → K 0 I1 J1) ∧ (¬ v2 = 0 → ((x2 < 0 → K 0 I1 J1) ∧ (¬ x2 < 0 → (vp_in x1 8 ∧ ((x2 < (I1 (29 + 2 * (Int32.toNatClampNeg x1)) 2) → (vp_in x1 8 ∧ (vp_in x2 40 ∧ K (J1 ((29 + 2 * (Int32.toNatClampNeg x1)) + 1) (Int32.toNatClampNeg x2)) I1 J1))) ∧ (¬ x2 < (I1 (29 + 2 * (Int32.toNatClampNeg x1)) 2) → K 0 I1 J1)))))))))) : Cl G mX11_element (n + 1) 0 0 [.ref (gb G + 0), .int x1, .int x2] Z I J (ql Z K) :=
  Cl.of (by decide +kernel) (Nat.le_of_ble_eq_true rfl) (rX11_element_0 hX h)
set_option maxRecDepth 4000 in
theorem rX11_holds_0 {G : jdG} {n rc rs : Nat} {Z : jdL} {I : jdI} {J : jdJ} {K : Int32 → jdI → jdJ → Prop} {sA : Nat → Nat} {sV : Nat → Nat} {x1 : Int32} (hG : gOK G sA sV) (hX : zX Z) (h : Cl G mX11_isShelf n 0 0 [.int x1] Z I J (qi Z (fun v2 I1 J1 => ((¬ v2 = 0 → (vp_in x1 8 ∧ (((Z).2.1 (29 + 2 * (Int32.toNatClampNeg x1)) 3 = none → (vp_in x1 8 ∧ K (I1 (29 + 2 * (Int32.toNatClampNeg x1)) 1) I1 J1)) ∧ (∀ w5, (Z).2.1 (29 + 2 * (Int32.toNatClampNeg x1)) 3 = some w5 → (zMan Z w5 ∧ ∀ q ∈ a_kind, (Z).1 w5 = some (q.1 + 10, 0) → Cl G q.2 n 0 0 [.ref (gb G + w5)] Z I1 J1 (qi Z (fun v8 I7 J7 => K (10 + v8) I7 J7))))))) ∧ (v2 = 0 → K (-1) I1 J1))))) : Jd G mX11_holds (jdFm G (qi Z K)) (n + 1) rc rs 0 [(0, .ref (gb G + 0)), (1, .int x1)] [] Z I J := by
  refine jd_iload_n (pc := 0) 1 dX11_holds_0 rfl rfl ?_
  refine jd_callSi (pc := 1) (M2 := mX11_isShelf) (av := [.int x1]) kX11_isShelf sX11_isShelf lX11_54 rfl rfl (Nat.le_of_ble_eq_true rfl) dX11_holds_1 h ?_
  intro v2 I1 J1 h
  refine jd_if_ne (pc := 4) 9 dX11_holds_4 (by decide) (fun hc => ?_) (fun hc => ?_)
  · have h := h.1 hc
    refine jd_aload_n (pc := 9) 0 dX11_holds_9 rfl rfl ?_
    refine jd_getR (pc := 10) (ci := 10) (k := 6) (r := 27) gX11_45 hX.1 rfl (zX_p6 hX) dX11_holds_10 ?_
    refine jd_iload_n (pc := 13) 1 dX11_holds_13 rfl rfl ?_
    obtain ⟨hv3, h⟩ := h
    refine jd_aald (pc := 14) (len := 8) (k := 4) (zX_a6 hX) (by decide) hv3 (zX_sh hX (vp_lt hv3)) dX11_holds_14 ?_
    rcases hq4 : (Z).2.1 (29 + 2 * (Int32.toNatClampNeg x1)) 3 with _ | w5
    · have h := h.1 hq4
      refine jd_getN (pc := 15) (ci := 5) (k := 3) gX11_84 (zX_shelf hX (vp_lt hv3)).1 rfl hq4 dX11_holds_15 ?_
      refine jd_astore_nN (pc := 18) [(2, .null), (0, .ref (gb G + 0)), (1, .int x1)] dX11_holds_18 rfl (by decide) rfl ?_
      refine jd_aload_nN (pc := 19) 0 dX11_holds_19 rfl rfl ?_
      refine jd_ifnonnullN (pc := 20) dX11_holds_20 ?_
      refine jd_aload_n (pc := 23) 1 dX11_holds_23 rfl rfl ?_
      refine jd_getR (pc := 24) (ci := 10) (k := 6) (r := 27) gX11_45 hX.1 rfl (zX_p6 hX) dX11_holds_24 ?_
      refine jd_iload_n (pc := 27) 2 dX11_holds_27 rfl rfl ?_
      obtain ⟨hv6, h⟩ := h
      refine jd_aald (pc := 28) (len := 8) (k := 4) (zX_a6 hX) (by decide) hv6 (zX_sh hX (vp_lt hv6)) dX11_holds_28 ?_
      refine jd_getI (pc := 29) (ci := 5) (k := 1) gX11_88 (zX_shelf hX (vp_lt hv6)).1 rfl dX11_holds_29 ?_
      refine jd_goto (pc := 32) 42 dX11_holds_32 (by decide) ?_
      exact jd_iretK (pc := 42) rfl rfl dX11_holds_42 h
    · have h := h.2 w5 hq4
      refine jd_getR (pc := 15) (ci := 5) (k := 3) (r := w5) gX11_84 (zX_shelf hX (vp_lt hv3)).1 rfl hq4 dX11_holds_15 ?_
      refine jd_astore_n (pc := 18) [(2, .ref (gb G + w5)), (0, .ref (gb G + 0)), (1, .int x1)] dX11_holds_18 rfl (by decide) rfl ?_
      refine jd_aload_n (pc := 19) 0 dX11_holds_19 rfl rfl ?_
      refine jd_ifnonnull (pc := 20) 35 dX11_holds_20 (by decide) ?_
      refine jd_bipush (pc := 35) (v := 10) dX11_holds_35 (by decide) ?_
      refine jd_aload_n (pc := 37) 0 dX11_holds_37 rfl rfl ?_
      obtain ⟨hm9, h⟩ := h
      refine jd_vkind (pc := 38) (id := w5) (av := []) hG hm9 lX11_101 rfl rfl (Nat.le_of_ble_eq_true rfl) dX11_holds_38 h ?_
      intro v8 I7 J7 h
      refine jd_iadd (pc := 41) dX11_holds_41 ?_
      exact jd_iretK (pc := 42) rfl rfl dX11_holds_42 h
  · have h := h.2 hc
    refine jd_iconst (pc := 7) (v := (-1)) dX11_holds_7 (by decide) ?_
    exact jd_iretK (pc := 8) rfl rfl dX11_holds_8 h
theorem eX11_holds {G : jdG} {n : Nat} {Z : jdL} {I : jdI} {J : jdJ} {K : Int32 → jdI → jdJ → Prop} {sA : Nat → Nat} {sV : Nat → Nat} {x1 : Int32} (hG : gOK G sA sV) (hX : zX Z) (h : Cl G mX11_isShelf n 0 0 [.int x1] Z I J (qi Z (fun v2 I1 J1 => ((¬ v2 = 0 → (vp_in x1 8 ∧ (((Z).2.1 (29 + 2 * (Int32.toNatClampNeg x1)) 3 = none → (vp_in x1 8 ∧ K (I1 (29 + 2 * (Int32.toNatClampNeg x1)) 1) I1 J1)) ∧ (∀ w5, (Z).2.1 (29 + 2 * (Int32.toNatClampNeg x1)) 3 = some w5 → (zMan Z w5 ∧ ∀ q ∈ a_kind, (Z).1 w5 = some (q.1 + 10, 0) → Cl G q.2 n 0 0 [.ref (gb G + w5)] Z I1 J1 (qi Z (fun v8 I7 J7 => K (10 + v8) I7 J7))))))) ∧ (v2 = 0 → K (-1) I1 J1))))) : Cl G mX11_holds (n + 1) 0 0 [.ref (gb G + 0), .int x1] Z I J (qi Z K) :=
  Cl.of (by decide +kernel) (Nat.le_of_ble_eq_true rfl) (rX11_holds_0 hG hX h)
set_option maxRecDepth 4000 in
theorem rX11_coachman_0 {G : jdG} {n rc rs : Nat} {Z : jdL} {I : jdI} {J : jdJ} {Q : jdQ} {x1 : Int32} {x2 : Int32} {x3 : Int32} (hX : zX Z) (h : Cl G mX11_isShelf n 0 0 [.int x1] Z I J (qi Z (fun v2 I1 J1 => ((v2 = 0 → Cl G mX11_refuse n 0 0 [.ref (gb G + 0), .int (-2)] Z I1 J1 (qi Z (fun v4 I3 J3 => Q (some (.int v4)) Z I3 J3))) ∧ (¬ v2 = 0 → ((x2 < 1 → Cl G mX11_refuse n 0 0 [.ref (gb G + 0), .int (-2)] Z I1 J1 (qi Z (fun v6 I5 J5 => Q (some (.int v6)) Z I5 J5))) ∧ (¬ x2 < 1 → ((6 ≤ x2 → Cl G mX11_refuse n 0 0 [.ref (gb G + 0), .int (-2)] Z I1 J1 (qi Z (fun v8 I7 J7 => Q (some (.int v8)) Z I7 J7))) ∧ (¬ 6 ≤ x2 → ((x3 < 0 → Cl G mX11_refuse n 0 0 [.ref (gb G + 0), .int (-2)] Z I1 J1 (qi Z (fun v10 I9 J9 => Q (some (.int v10)) Z I9 J9))) ∧ (¬ x3 < 0 → ((x3 ≤ 9 → (vp_in x1 8 ∧ (∃ mc12 ms12 rc12 rs12 : Nat, mc12 + rc12 ≤ rc ∧ ms12 + rs12 ≤ rs ∧ Cl G mX11_newCoachman n mc12 ms12 [.int x2, .int x3] Z I1 J1 (fun r12 Z12 I12 J12 => ∃ w12 : Nat, r12 = some (.ref (gb G + w12)) ∧ (zX Z12 ∧ (∃ mc13 ms13 rc13 rs13 : Nat, mc13 + rc13 ≤ rc12 ∧ ms13 + rs13 ≤ rs12 ∧ Cl G mX6_takeMan n mc13 ms13 [.ref (gb G + (29 + 2 * (Int32.toNatClampNeg x1))), .ref (gb G + w12)] Z12 I12 J12 (fun r13 Z13 I13 J13 => r13 = none ∧ (zX Z13 ∧ Q (some (.int 1)) Z13 I13 J13)))))))) ∧ (¬ x3 ≤ 9 → Cl G mX11_refuse n 0 0 [.ref (gb G + 0), .int (-2)] Z I1 J1 (qi Z (fun v15 I14 J14 => Q (some (.int v15)) Z I14 J14))))))))))))))) : Jd G mX11_coachman (jdFm G Q) (n + 1) rc rs 0 [(0, .ref (gb G + 0)), (1, .int x1), (2, .int x2), (3, .int x3)] [] Z I J := by
  refine jd_iload_n (pc := 0) 1 dX11_coachman_0 rfl rfl ?_
  refine jd_callSi (pc := 1) (M2 := mX11_isShelf) (av := [.int x1]) kX11_isShelf sX11_isShelf lX11_54 rfl rfl (Nat.le_of_ble_eq_true rfl) dX11_coachman_1 h ?_
  intro v2 I1 J1 h
  refine jd_if_eq (pc := 4) 28 dX11_coachman_4 (by decide) (fun hc => ?_) (fun hc => ?_)
  · have h := h.1 hc
    refine jd_aload_n (pc := 28) 0 dX11_coachman_28 rfl rfl ?_
    refine jd_bipush (pc := 29) (v := (-2)) dX11_coachman_29 (by decide) ?_
    refine jd_callVi (pc := 31) (M2 := mX11_refuse) (id := 0) (ci := 10) (T := TX11) (N := 9) (av := [.int (-2)]) kX11_refuse sX11_refuse rfl hX.1 lX11_58 rfl rfl (Nat.le_of_ble_eq_true rfl) dX11_coachman_31 h ?_
    intro v4 I3 J3 h
    exact jd_iret (pc := 34) (ty := .int) rfl rfl dX11_coachman_34 h
  · have h := h.2 hc
    refine jd_iload_n (pc := 7) 2 dX11_coachman_7 rfl rfl ?_
    refine jd_iconst (pc := 8) (v := 1) dX11_coachman_8 (by decide) ?_
    refine jd_icmp_lt (pc := 9) 28 dX11_coachman_9 (by decide) (fun hc => ?_) (fun hc => ?_)
    · have h := h.1 hc
      refine jd_aload_n (pc := 28) 0 dX11_coachman_28 rfl rfl ?_
      refine jd_bipush (pc := 29) (v := (-2)) dX11_coachman_29 (by decide) ?_
      refine jd_callVi (pc := 31) (M2 := mX11_refuse) (id := 0) (ci := 10) (T := TX11) (N := 9) (av := [.int (-2)]) kX11_refuse sX11_refuse rfl hX.1 lX11_58 rfl rfl (Nat.le_of_ble_eq_true rfl) dX11_coachman_31 h ?_
      intro v6 I5 J5 h
      exact jd_iret (pc := 34) (ty := .int) rfl rfl dX11_coachman_34 h
    · have h := h.2 hc
      refine jd_iload_n (pc := 12) 2 dX11_coachman_12 rfl rfl ?_
      refine jd_bipush (pc := 13) (v := 6) dX11_coachman_13 (by decide) ?_
      refine jd_icmp_ge (pc := 15) 28 dX11_coachman_15 (by decide) (fun hc => ?_) (fun hc => ?_)
      · have h := h.1 hc
        refine jd_aload_n (pc := 28) 0 dX11_coachman_28 rfl rfl ?_
        refine jd_bipush (pc := 29) (v := (-2)) dX11_coachman_29 (by decide) ?_
        refine jd_callVi (pc := 31) (M2 := mX11_refuse) (id := 0) (ci := 10) (T := TX11) (N := 9) (av := [.int (-2)]) kX11_refuse sX11_refuse rfl hX.1 lX11_58 rfl rfl (Nat.le_of_ble_eq_true rfl) dX11_coachman_31 h ?_
        intro v8 I7 J7 h
        exact jd_iret (pc := 34) (ty := .int) rfl rfl dX11_coachman_34 h
      · have h := h.2 hc
        refine jd_iload_n (pc := 18) 3 dX11_coachman_18 rfl rfl ?_
        refine jd_if_lt (pc := 19) 28 dX11_coachman_19 (by decide) (fun hc => ?_) (fun hc => ?_)
        · have h := h.1 hc
          refine jd_aload_n (pc := 28) 0 dX11_coachman_28 rfl rfl ?_
          refine jd_bipush (pc := 29) (v := (-2)) dX11_coachman_29 (by decide) ?_
          refine jd_callVi (pc := 31) (M2 := mX11_refuse) (id := 0) (ci := 10) (T := TX11) (N := 9) (av := [.int (-2)]) kX11_refuse sX11_refuse rfl hX.1 lX11_58 rfl rfl (Nat.le_of_ble_eq_true rfl) dX11_coachman_31 h ?_
          intro v10 I9 J9 h
          exact jd_iret (pc := 34) (ty := .int) rfl rfl dX11_coachman_34 h
        · have h := h.2 hc
          refine jd_iload_n (pc := 22) 3 dX11_coachman_22 rfl rfl ?_
          refine jd_bipush (pc := 23) (v := 9) dX11_coachman_23 (by decide) ?_
          refine jd_icmp_le (pc := 25) 35 dX11_coachman_25 (by decide) (fun hc => ?_) (fun hc => ?_)
          · have h := h.1 hc
            refine jd_aload_n (pc := 35) 0 dX11_coachman_35 rfl rfl ?_
            refine jd_getR (pc := 36) (ci := 10) (k := 6) (r := 27) gX11_45 hX.1 rfl (zX_p6 hX) dX11_coachman_36 ?_
            refine jd_iload_n (pc := 39) 1 dX11_coachman_39 rfl rfl ?_
            obtain ⟨hv11, h⟩ := h
            refine jd_aald (pc := 40) (len := 8) (k := 4) (zX_a6 hX) (by decide) hv11 (zX_sh hX (vp_lt hv11)) dX11_coachman_40 ?_
            refine jd_iload_n (pc := 41) 2 dX11_coachman_41 rfl rfl ?_
            refine jd_iload_n (pc := 42) 3 dX11_coachman_42 rfl rfl ?_
            obtain ⟨mc12, ms12, rc12, rs12, hb1, hb2, h⟩ := h
            refine jd_callS (pc := 43) (M2 := mX11_newCoachman) (rc2 := rc12) (rs2 := rs12) (av := [.int x2, .int x3]) kX11_newCoachman sX11_newCoachman lX11_107 rfl rfl (Nat.le_of_ble_eq_true rfl) hb1 hb2 dX11_coachman_43 (Cl.mono h (fun r12 Z12 I12 J12 h => ?_))
            obtain ⟨w12, rfl, h⟩ := h
            obtain ⟨hX, h⟩ := h
            obtain ⟨mc13, ms13, rc13, rs13, hb1, hb2, h⟩ := h
            refine jd_callV (pc := 46) (M2 := mX6_takeMan) (id := (29 + 2 * (Int32.toNatClampNeg x1))) (ci := 5) (T := TX6) (N := 4) (rc2 := rc13) (rs2 := rs13) (av := [.ref (gb G + w12)]) kX6_takeMan sX6_takeMan rfl (zX_shelf hX (vp_lt hv11)).1 lX11_111 rfl rfl (Nat.le_of_ble_eq_true rfl) hb1 hb2 dX11_coachman_46 (Cl.mono h (fun r13 Z13 I13 J13 h => ?_))
            obtain ⟨rfl, h⟩ := h
            obtain ⟨hX, h⟩ := h
            refine jd_iconst (pc := 49) (v := 1) dX11_coachman_49 (by decide) ?_
            exact jd_iret (pc := 50) (ty := .int) rfl rfl dX11_coachman_50 h
          · have h := h.2 hc
            refine jd_aload_n (pc := 28) 0 dX11_coachman_28 rfl rfl ?_
            refine jd_bipush (pc := 29) (v := (-2)) dX11_coachman_29 (by decide) ?_
            refine jd_callVi (pc := 31) (M2 := mX11_refuse) (id := 0) (ci := 10) (T := TX11) (N := 9) (av := [.int (-2)]) kX11_refuse sX11_refuse rfl hX.1 lX11_58 rfl rfl (Nat.le_of_ble_eq_true rfl) dX11_coachman_31 h ?_
            intro v15 I14 J14 h
            exact jd_iret (pc := 34) (ty := .int) rfl rfl dX11_coachman_34 h
theorem eX11_coachman {G : jdG} {n mc ms : Nat} {Z : jdL} {I : jdI} {J : jdJ} {Q : jdQ} {x1 : Int32} {x2 : Int32} {x3 : Int32} (hX : zX Z) (h : Cl G mX11_isShelf n 0 0 [.int x1] Z I J (qi Z (fun v2 I1 J1 => ((v2 = 0 → Cl G mX11_refuse n 0 0 [.ref (gb G + 0), .int (-2)] Z I1 J1 (qi Z (fun v4 I3 J3 => Q (some (.int v4)) Z I3 J3))) ∧ (¬ v2 = 0 → ((x2 < 1 → Cl G mX11_refuse n 0 0 [.ref (gb G + 0), .int (-2)] Z I1 J1 (qi Z (fun v6 I5 J5 => Q (some (.int v6)) Z I5 J5))) ∧ (¬ x2 < 1 → ((6 ≤ x2 → Cl G mX11_refuse n 0 0 [.ref (gb G + 0), .int (-2)] Z I1 J1 (qi Z (fun v8 I7 J7 => Q (some (.int v8)) Z I7 J7))) ∧ (¬ 6 ≤ x2 → ((x3 < 0 → Cl G mX11_refuse n 0 0 [.ref (gb G + 0), .int (-2)] Z I1 J1 (qi Z (fun v10 I9 J9 => Q (some (.int v10)) Z I9 J9))) ∧ (¬ x3 < 0 → ((x3 ≤ 9 → (vp_in x1 8 ∧ (∃ mc12 ms12 rc12 rs12 : Nat, mc12 + rc12 ≤ mc ∧ ms12 + rs12 ≤ ms ∧ Cl G mX11_newCoachman n mc12 ms12 [.int x2, .int x3] Z I1 J1 (fun r12 Z12 I12 J12 => ∃ w12 : Nat, r12 = some (.ref (gb G + w12)) ∧ (zX Z12 ∧ (∃ mc13 ms13 rc13 rs13 : Nat, mc13 + rc13 ≤ rc12 ∧ ms13 + rs13 ≤ rs12 ∧ Cl G mX6_takeMan n mc13 ms13 [.ref (gb G + (29 + 2 * (Int32.toNatClampNeg x1))), .ref (gb G + w12)] Z12 I12 J12 (fun r13 Z13 I13 J13 => r13 = none ∧ (zX Z13 ∧ Q (some (.int 1)) Z13 I13 J13)))))))) ∧ (¬ x3 ≤ 9 → Cl G mX11_refuse n 0 0 [.ref (gb G + 0), .int (-2)] Z I1 J1 (qi Z (fun v15 I14 J14 => Q (some (.int v15)) Z I14 J14))))))))))))))) : Cl G mX11_coachman (n + 1) mc ms [.ref (gb G + 0), .int x1, .int x2, .int x3] Z I J Q :=
  Cl.of (by decide +kernel) (Nat.le_of_ble_eq_true rfl) (rX11_coachman_0 hX h)
set_option maxRecDepth 4000 in
theorem rX11_says_0 {G : jdG} {n rc rs : Nat} {Z : jdL} {I : jdI} {J : jdJ} {K : Int32 → jdI → jdJ → Prop} {x1 : Int32} {x2 : Int32} (hX : zX Z) (h : Cl G mX11_isShelf n 0 0 [.int x1] Z I J (qi Z (fun v2 I1 J1 => ((v2 = 0 → Cl G mX11_refuse n 0 0 [.ref (gb G + 0), .int (-2)] Z I1 J1 (qi Z (fun v4 I3 J3 => K v4 I3 J3))) ∧ (¬ v2 = 0 → ((x2 < 0 → Cl G mX11_refuse n 0 0 [.ref (gb G + 0), .int (-2)] Z I1 J1 (qi Z (fun v6 I5 J5 => K v6 I5 J5))) ∧ (¬ x2 < 0 → ((x2 < 6 → Cl G mX11_manIn n 0 0 [.ref (gb G + 0), .int x1] Z I1 J1 (qm G Z (fun o I7 J7 => (o = none → Cl G mX11_whyNoMan n 0 0 [.ref (gb G + 0), .int x1] Z I7 J7 (qi Z (fun v10 I9 J9 => Cl G mX11_refuse n 0 0 [.ref (gb G + 0), .int v10] Z I9 J9 (qi Z (fun v12 I11 J11 => K v12 I11 J11))))) ∧ (∀ w8, o = some w8 → (zMan Z w8 ∧ ∀ q ∈ a_isOf, (Z).1 w8 = some (q.1 + 10, 0) → Cl G q.2 n 0 0 [.ref (gb G + w8), .int x2] Z I7 J7 (qi Z (fun v14 I13 J13 => ((¬ v14 = 0 → ((¬ x2 = 0 → Cl G mX8_load n 0 0 [.ref (gb G + 13), .ref (gb G + 1)] Z I13 J13 (qv Z (fun I16 J16 => Cl G mX9_everybody n 0 0 [.ref (gb G + 1)] Z I16 J16 (qi Z (fun v19 I18 J18 => (zMan Z w8 ∧ ∀ q ∈ a_pick, (Z).1 w8 = some (q.1 + 10, 0) → Cl G q.2 n 0 0 [.ref (gb G + w8), .ref (gb G + 13), .int v19, .int 0] Z I18 J18 (qi Z (fun v21 I20 J20 => K v21 I20 J20)))))))) ∧ (x2 = 0 → (zMan Z w8 ∧ ∀ q ∈ a_number, (Z).1 w8 = some (q.1 + 10, 0) → Cl G q.2 n 0 0 [.ref (gb G + w8)] Z I13 J13 (qi Z (fun v24 I23 J23 => K v24 I23 J23)))))) ∧ (v14 = 0 → Cl G mX11_refuse n 0 0 [.ref (gb G + 0), .int (-3)] Z I13 J13 (qi Z (fun v27 I26 J26 => K v27 I26 J26))))))))))) ∧ (¬ x2 < 6 → Cl G mX11_refuse n 0 0 [.ref (gb G + 0), .int (-2)] Z I1 J1 (qi Z (fun v29 I28 J28 => K v29 I28 J28))))))))))) : Jd G mX11_says (jdFm G (qi Z K)) (n + 1) rc rs 0 [(0, .ref (gb G + 0)), (1, .int x1), (2, .int x2)] [] Z I J := by
  refine jd_iload_n (pc := 0) 1 dX11_says_0 rfl rfl ?_
  refine jd_callSi (pc := 1) (M2 := mX11_isShelf) (av := [.int x1]) kX11_isShelf sX11_isShelf lX11_54 rfl rfl (Nat.le_of_ble_eq_true rfl) dX11_says_1 h ?_
  intro v2 I1 J1 h
  refine jd_if_eq (pc := 4) 17 dX11_says_4 (by decide) (fun hc => ?_) (fun hc => ?_)
  · have h := h.1 hc
    refine jd_aload_n (pc := 17) 0 dX11_says_17 rfl rfl ?_
    refine jd_bipush (pc := 18) (v := (-2)) dX11_says_18 (by decide) ?_
    refine jd_callVi (pc := 20) (M2 := mX11_refuse) (id := 0) (ci := 10) (T := TX11) (N := 9) (av := [.int (-2)]) kX11_refuse sX11_refuse rfl hX.1 lX11_58 rfl rfl (Nat.le_of_ble_eq_true rfl) dX11_says_20 h ?_
    intro v4 I3 J3 h
    exact jd_iretK (pc := 23) rfl rfl dX11_says_23 h
  · have h := h.2 hc
    refine jd_iload_n (pc := 7) 2 dX11_says_7 rfl rfl ?_
    refine jd_if_lt (pc := 8) 17 dX11_says_8 (by decide) (fun hc => ?_) (fun hc => ?_)
    · have h := h.1 hc
      refine jd_aload_n (pc := 17) 0 dX11_says_17 rfl rfl ?_
      refine jd_bipush (pc := 18) (v := (-2)) dX11_says_18 (by decide) ?_
      refine jd_callVi (pc := 20) (M2 := mX11_refuse) (id := 0) (ci := 10) (T := TX11) (N := 9) (av := [.int (-2)]) kX11_refuse sX11_refuse rfl hX.1 lX11_58 rfl rfl (Nat.le_of_ble_eq_true rfl) dX11_says_20 h ?_
      intro v6 I5 J5 h
      exact jd_iretK (pc := 23) rfl rfl dX11_says_23 h
    · have h := h.2 hc
      refine jd_iload_n (pc := 11) 2 dX11_says_11 rfl rfl ?_
      refine jd_bipush (pc := 12) (v := 6) dX11_says_12 (by decide) ?_
      refine jd_icmp_lt (pc := 14) 24 dX11_says_14 (by decide) (fun hc => ?_) (fun hc => ?_)
      · have h := h.1 hc
        refine jd_aload_n (pc := 24) 0 dX11_says_24 rfl rfl ?_
        refine jd_iload_n (pc := 25) 1 dX11_says_25 rfl rfl ?_
        refine jd_callVm (pc := 26) (M2 := mX11_manIn) (id := 0) (ci := 10) (T := TX11) (N := 9) (av := [.int x1]) kX11_manIn sX11_manIn rfl hX.1 lX11_115 rfl rfl (Nat.le_of_ble_eq_true rfl) dX11_says_26 h ?_ ?_
        · intro I7 J7 h
          have h := h.1 rfl
          refine jd_astore_nN (pc := 29) [(3, .null), (0, .ref (gb G + 0)), (1, .int x1), (2, .int x2)] dX11_says_29 rfl (by decide) rfl ?_
          refine jd_aload_nN (pc := 30) 0 dX11_says_30 rfl rfl ?_
          refine jd_ifnonnullN (pc := 31) dX11_says_31 ?_
          refine jd_aload_n (pc := 34) 1 dX11_says_34 rfl rfl ?_
          refine jd_aload_n (pc := 35) 1 dX11_says_35 rfl rfl ?_
          refine jd_iload_n (pc := 36) 2 dX11_says_36 rfl rfl ?_
          refine jd_callVi (pc := 37) (M2 := mX11_whyNoMan) (id := 0) (ci := 10) (T := TX11) (N := 9) (av := [.int x1]) kX11_whyNoMan sX11_whyNoMan rfl hX.1 lX11_119 rfl rfl (Nat.le_of_ble_eq_true rfl) dX11_says_37 h ?_
          intro v10 I9 J9 h
          refine jd_callVi (pc := 40) (M2 := mX11_refuse) (id := 0) (ci := 10) (T := TX11) (N := 9) (av := [.int v10]) kX11_refuse sX11_refuse rfl hX.1 lX11_58 rfl rfl (Nat.le_of_ble_eq_true rfl) dX11_says_40 h ?_
          intro v12 I11 J11 h
          exact jd_iretK (pc := 43) rfl rfl dX11_says_43 h
        · intro w8 I7 J7 h
          have h := h.2 w8 rfl
          refine jd_astore_n (pc := 29) [(3, .ref (gb G + w8)), (0, .ref (gb G + 0)), (1, .int x1), (2, .int x2)] dX11_says_29 rfl (by decide) rfl ?_
          refine jd_aload_n (pc := 30) 0 dX11_says_30 rfl rfl ?_
          refine jd_ifnonnull (pc := 31) 44 dX11_says_31 (by decide) ?_
          refine jd_aload_n (pc := 44) 0 dX11_says_44 rfl rfl ?_
          refine jd_iload_n (pc := 45) 3 dX11_says_45 rfl rfl ?_
          obtain ⟨hm15, h⟩ := h
          refine jd_visOf (pc := 46) (id := w8) (av := [.int x2]) hm15 lX11_122 rfl rfl (Nat.le_of_ble_eq_true rfl) dX11_says_46 h ?_
          intro v14 I13 J13 h
          refine jd_if_ne (pc := 49) 59 dX11_says_49 (by decide) (fun hc => ?_) (fun hc => ?_)
          · have h := h.1 hc
            refine jd_iload_n (pc := 59) 3 dX11_says_59 rfl rfl ?_
            refine jd_if_ne (pc := 60) 68 dX11_says_60 (by decide) (fun hc => ?_) (fun hc => ?_)
            · have h := h.1 hc
              refine jd_aload_n (pc := 68) 1 dX11_says_68 rfl rfl ?_
              refine jd_getR (pc := 69) (ci := 10) (k := 3) (r := 13) gX11_25 hX.1 rfl (zX_p3 hX) dX11_says_69 ?_
              refine jd_aload_n (pc := 72) 1 dX11_says_72 rfl rfl ?_
              refine jd_getR (pc := 73) (ci := 10) (k := 0) (r := 1) gX11_10 hX.1 rfl (zX_p0 hX) dX11_says_73 ?_
              refine jd_callVv (pc := 76) (M2 := mX8_load) (id := 13) (ci := 7) (T := TX8) (N := 11) (av := [.ref (gb G + 1)]) kX8_load sX8_load rfl (zX_o3 hX).1 lX11_128 rfl rfl (Nat.le_of_ble_eq_true rfl) dX11_says_76 h ?_
              intro I16 J16 h
              refine jd_aload_n (pc := 79) 0 dX11_says_79 rfl rfl ?_
              refine jd_aload_n (pc := 80) 1 dX11_says_80 rfl rfl ?_
              refine jd_getR (pc := 81) (ci := 10) (k := 3) (r := 13) gX11_25 hX.1 rfl (zX_p3 hX) dX11_says_81 ?_
              refine jd_aload_n (pc := 84) 1 dX11_says_84 rfl rfl ?_
              refine jd_getR (pc := 85) (ci := 10) (k := 0) (r := 1) gX11_10 hX.1 rfl (zX_p0 hX) dX11_says_85 ?_
              refine jd_callVi (pc := 88) (M2 := mX9_everybody) (id := 1) (ci := 8) (T := TX9) (N := 10) (av := []) kX9_everybody sX9_everybody rfl (zX_o0 hX).1 lX11_132 rfl rfl (Nat.le_of_ble_eq_true rfl) dX11_says_88 h ?_
              intro v19 I18 J18 h
              refine jd_iconst (pc := 91) (v := 0) dX11_says_91 (by decide) ?_
              obtain ⟨hm22, h⟩ := h
              refine jd_vpick (pc := 92) (id := w8) (av := [.ref (gb G + 13), .int v19, .int 0]) hm22 lX11_135 rfl rfl (Nat.le_of_ble_eq_true rfl) dX11_says_92 h ?_
              intro v21 I20 J20 h
              exact jd_iretK (pc := 95) rfl rfl dX11_says_95 h
            · have h := h.2 hc
              refine jd_aload_n (pc := 63) 0 dX11_says_63 rfl rfl ?_
              obtain ⟨hm25, h⟩ := h
              refine jd_vnumber (pc := 64) (id := w8) (av := []) hm25 lX11_125 rfl rfl (Nat.le_of_ble_eq_true rfl) dX11_says_64 h ?_
              intro v24 I23 J23 h
              exact jd_iretK (pc := 67) rfl rfl dX11_says_67 h
          · have h := h.2 hc
            refine jd_aload_n (pc := 52) 1 dX11_says_52 rfl rfl ?_
            refine jd_bipush (pc := 53) (v := (-3)) dX11_says_53 (by decide) ?_
            refine jd_callVi (pc := 55) (M2 := mX11_refuse) (id := 0) (ci := 10) (T := TX11) (N := 9) (av := [.int (-3)]) kX11_refuse sX11_refuse rfl hX.1 lX11_58 rfl rfl (Nat.le_of_ble_eq_true rfl) dX11_says_55 h ?_
            intro v27 I26 J26 h
            exact jd_iretK (pc := 58) rfl rfl dX11_says_58 h
      · have h := h.2 hc
        refine jd_aload_n (pc := 17) 0 dX11_says_17 rfl rfl ?_
        refine jd_bipush (pc := 18) (v := (-2)) dX11_says_18 (by decide) ?_
        refine jd_callVi (pc := 20) (M2 := mX11_refuse) (id := 0) (ci := 10) (T := TX11) (N := 9) (av := [.int (-2)]) kX11_refuse sX11_refuse rfl hX.1 lX11_58 rfl rfl (Nat.le_of_ble_eq_true rfl) dX11_says_20 h ?_
        intro v29 I28 J28 h
        exact jd_iretK (pc := 23) rfl rfl dX11_says_23 h
theorem eX11_says {G : jdG} {n : Nat} {Z : jdL} {I : jdI} {J : jdJ} {K : Int32 → jdI → jdJ → Prop} {x1 : Int32} {x2 : Int32} (hX : zX Z) (h : Cl G mX11_isShelf n 0 0 [.int x1] Z I J (qi Z (fun v2 I1 J1 => ((v2 = 0 → Cl G mX11_refuse n 0 0 [.ref (gb G + 0), .int (-2)] Z I1 J1 (qi Z (fun v4 I3 J3 => K v4 I3 J3))) ∧ (¬ v2 = 0 → ((x2 < 0 → Cl G mX11_refuse n 0 0 [.ref (gb G + 0), .int (-2)] Z I1 J1 (qi Z (fun v6 I5 J5 => K v6 I5 J5))) ∧ (¬ x2 < 0 → ((x2 < 6 → Cl G mX11_manIn n 0 0 [.ref (gb G + 0), .int x1] Z I1 J1 (qm G Z (fun o I7 J7 => (o = none → Cl G mX11_whyNoMan n 0 0 [.ref (gb G + 0), .int x1] Z I7 J7 (qi Z (fun v10 I9 J9 => Cl G mX11_refuse n 0 0 [.ref (gb G + 0), .int v10] Z I9 J9 (qi Z (fun v12 I11 J11 => K v12 I11 J11))))) ∧ (∀ w8, o = some w8 → (zMan Z w8 ∧ ∀ q ∈ a_isOf, (Z).1 w8 = some (q.1 + 10, 0) → Cl G q.2 n 0 0 [.ref (gb G + w8), .int x2] Z I7 J7 (qi Z (fun v14 I13 J13 => ((¬ v14 = 0 → ((¬ x2 = 0 → Cl G mX8_load n 0 0 [.ref (gb G + 13), .ref (gb G + 1)] Z I13 J13 (qv Z (fun I16 J16 => Cl G mX9_everybody n 0 0 [.ref (gb G + 1)] Z I16 J16 (qi Z (fun v19 I18 J18 => (zMan Z w8 ∧ ∀ q ∈ a_pick, (Z).1 w8 = some (q.1 + 10, 0) → Cl G q.2 n 0 0 [.ref (gb G + w8), .ref (gb G + 13), .int v19, .int 0] Z I18 J18 (qi Z (fun v21 I20 J20 => K v21 I20 J20)))))))) ∧ (x2 = 0 → (zMan Z w8 ∧ ∀ q ∈ a_number, (Z).1 w8 = some (q.1 + 10, 0) → Cl G q.2 n 0 0 [.ref (gb G + w8)] Z I13 J13 (qi Z (fun v24 I23 J23 => K v24 I23 J23)))))) ∧ (v14 = 0 → Cl G mX11_refuse n 0 0 [.ref (gb G + 0), .int (-3)] Z I13 J13 (qi Z (fun v27 I26 J26 => K v27 I26 J26))))))))))) ∧ (¬ x2 < 6 → Cl G mX11_refuse n 0 0 [.ref (gb G + 0), .int (-2)] Z I1 J1 (qi Z (fun v29 I28 J28 => K v29 I28 J28))))))))))) : Cl G mX11_says (n + 1) 0 0 [.ref (gb G + 0), .int x1, .int x2] Z I J (qi Z K) :=
  Cl.of (by decide +kernel) (Nat.le_of_ble_eq_true rfl) (rX11_says_0 hX h)
set_option maxRecDepth 4000 in
theorem rX11_person_0 {G : jdG} {n rc rs : Nat} {Z : jdL} {I : jdI} {J : jdJ} {K : Int32 → jdI → jdJ → Prop} {x1 : Int32} {x2 : Int32} (hX : zX Z) (h : Cl G mX11_isHour n 0 0 [.int x1] Z I J (qi Z (fun v2 I1 J1 => ((v2 = 0 → Cl G mX11_refuse n 0 0 [.ref (gb G + 0), .int (-2)] Z I1 J1 (qi Z (fun v4 I3 J3 => K v4 I3 J3))) ∧ (¬ v2 = 0 → Cl G mX11_isCost n 0 0 [.int x2] Z I1 J1 (qi Z (fun v6 I5 J5 => ((¬ v6 = 0 → (((I5 1 3) < 7 → Cl G mX9_add n 0 0 [.ref (gb G + 1), .int x1, .int x2] Z I5 J5 (qi Z (fun v8 I7 J7 => K v8 I7 J7))) ∧ (¬ (I5 1 3) < 7 → Cl G mX11_refuse n 0 0 [.ref (gb G + 0), .int (-6)] Z I5 J5 (qi Z (fun v10 I9 J9 => K v10 I9 J9))))) ∧ (v6 = 0 → Cl G mX11_refuse n 0 0 [.ref (gb G + 0), .int (-2)] Z I5 J5 (qi Z (fun v12 I11 J11 => K v12 I11 J11))))))))))) : Jd G mX11_person (jdFm G (qi Z K)) (n + 1) rc rs 0 [(0, .ref (gb G + 0)), (1, .int x1), (2, .int x2)] [] Z I J := by
  refine jd_iload_n (pc := 0) 1 dX11_person_0 rfl rfl ?_
  refine jd_callSi (pc := 1) (M2 := mX11_isHour) (av := [.int x1]) kX11_isHour sX11_isHour lX11_139 rfl rfl (Nat.le_of_ble_eq_true rfl) dX11_person_1 h ?_
  intro v2 I1 J1 h
  refine jd_if_eq (pc := 4) 14 dX11_person_4 (by decide) (fun hc => ?_) (fun hc => ?_)
  · have h := h.1 hc
    refine jd_aload_n (pc := 14) 0 dX11_person_14 rfl rfl ?_
    refine jd_bipush (pc := 15) (v := (-2)) dX11_person_15 (by decide) ?_
    refine jd_callVi (pc := 17) (M2 := mX11_refuse) (id := 0) (ci := 10) (T := TX11) (N := 9) (av := [.int (-2)]) kX11_refuse sX11_refuse rfl hX.1 lX11_58 rfl rfl (Nat.le_of_ble_eq_true rfl) dX11_person_17 h ?_
    intro v4 I3 J3 h
    exact jd_iretK (pc := 20) rfl rfl dX11_person_20 h
  · have h := h.2 hc
    refine jd_iload_n (pc := 7) 2 dX11_person_7 rfl rfl ?_
    refine jd_callSi (pc := 8) (M2 := mX11_isCost) (av := [.int x2]) kX11_isCost sX11_isCost lX11_142 rfl rfl (Nat.le_of_ble_eq_true rfl) dX11_person_8 h ?_
    intro v6 I5 J5 h
    refine jd_if_ne (pc := 11) 21 dX11_person_11 (by decide) (fun hc => ?_) (fun hc => ?_)
    · have h := h.1 hc
      refine jd_aload_n (pc := 21) 0 dX11_person_21 rfl rfl ?_
      refine jd_getR (pc := 22) (ci := 10) (k := 0) (r := 1) gX11_10 hX.1 rfl (zX_p0 hX) dX11_person_22 ?_
      refine jd_getI (pc := 25) (ci := 8) (k := 3) gX11_145 (zX_o0 hX).1 rfl dX11_person_25 ?_
      refine jd_bipush (pc := 28) (v := 7) dX11_person_28 (by decide) ?_
      refine jd_icmp_lt (pc := 30) 40 dX11_person_30 (by decide) (fun hc => ?_) (fun hc => ?_)
      · have h := h.1 hc
        refine jd_aload_n (pc := 40) 0 dX11_person_40 rfl rfl ?_
        refine jd_getR (pc := 41) (ci := 10) (k := 0) (r := 1) gX11_10 hX.1 rfl (zX_p0 hX) dX11_person_41 ?_
        refine jd_iload_n (pc := 44) 1 dX11_person_44 rfl rfl ?_
        refine jd_iload_n (pc := 45) 2 dX11_person_45 rfl rfl ?_
        refine jd_callVi (pc := 46) (M2 := mX9_add) (id := 1) (ci := 8) (T := TX9) (N := 10) (av := [.int x1, .int x2]) kX9_add sX9_add rfl (zX_o0 hX).1 lX11_148 rfl rfl (Nat.le_of_ble_eq_true rfl) dX11_person_46 h ?_
        intro v8 I7 J7 h
        exact jd_iretK (pc := 49) rfl rfl dX11_person_49 h
      · have h := h.2 hc
        refine jd_aload_n (pc := 33) 0 dX11_person_33 rfl rfl ?_
        refine jd_bipush (pc := 34) (v := (-6)) dX11_person_34 (by decide) ?_
        refine jd_callVi (pc := 36) (M2 := mX11_refuse) (id := 0) (ci := 10) (T := TX11) (N := 9) (av := [.int (-6)]) kX11_refuse sX11_refuse rfl hX.1 lX11_58 rfl rfl (Nat.le_of_ble_eq_true rfl) dX11_person_36 h ?_
        intro v10 I9 J9 h
        exact jd_iretK (pc := 39) rfl rfl dX11_person_39 h
    · have h := h.2 hc
      refine jd_aload_n (pc := 14) 0 dX11_person_14 rfl rfl ?_
      refine jd_bipush (pc := 15) (v := (-2)) dX11_person_15 (by decide) ?_
      refine jd_callVi (pc := 17) (M2 := mX11_refuse) (id := 0) (ci := 10) (T := TX11) (N := 9) (av := [.int (-2)]) kX11_refuse sX11_refuse rfl hX.1 lX11_58 rfl rfl (Nat.le_of_ble_eq_true rfl) dX11_person_17 h ?_
      intro v12 I11 J11 h
      exact jd_iretK (pc := 20) rfl rfl dX11_person_20 h
theorem eX11_person {G : jdG} {n : Nat} {Z : jdL} {I : jdI} {J : jdJ} {K : Int32 → jdI → jdJ → Prop} {x1 : Int32} {x2 : Int32} (hX : zX Z) (h : Cl G mX11_isHour n 0 0 [.int x1] Z I J (qi Z (fun v2 I1 J1 => ((v2 = 0 → Cl G mX11_refuse n 0 0 [.ref (gb G + 0), .int (-2)] Z I1 J1 (qi Z (fun v4 I3 J3 => K v4 I3 J3))) ∧ (¬ v2 = 0 → Cl G mX11_isCost n 0 0 [.int x2] Z I1 J1 (qi Z (fun v6 I5 J5 => ((¬ v6 = 0 → (((I5 1 3) < 7 → Cl G mX9_add n 0 0 [.ref (gb G + 1), .int x1, .int x2] Z I5 J5 (qi Z (fun v8 I7 J7 => K v8 I7 J7))) ∧ (¬ (I5 1 3) < 7 → Cl G mX11_refuse n 0 0 [.ref (gb G + 0), .int (-6)] Z I5 J5 (qi Z (fun v10 I9 J9 => K v10 I9 J9))))) ∧ (v6 = 0 → Cl G mX11_refuse n 0 0 [.ref (gb G + 0), .int (-2)] Z I5 J5 (qi Z (fun v12 I11 J11 => K v12 I11 J11))))))))))) : Cl G mX11_person (n + 1) 0 0 [.ref (gb G + 0), .int x1, .int x2] Z I J (qi Z K) :=
  Cl.of (by decide +kernel) (Nat.le_of_ble_eq_true rfl) (rX11_person_0 hX h)
set_option maxRecDepth 4000 in
theorem rX11_change_0 {G : jdG} {n rc rs : Nat} {Z : jdL} {I : jdI} {J : jdJ} {K : Int32 → jdI → jdJ → Prop} {x1 : Int32} {x2 : Int32} {x3 : Int32} (hX : zX Z) (h : ((¬ x2 = 0 → ((¬ x2 = 1 → Cl G mX9_has n 0 0 [.ref (gb G + 1), .int x1] Z I J (qi Z (fun v2 I1 J1 => ((v2 = 0 → Cl G mX11_refuse n 0 0 [.ref (gb G + 0), .int (-2)] Z I1 J1 (qi Z (fun v4 I3 J3 => K v4 I3 J3))) ∧ (¬ v2 = 0 → Cl G mX11_refuse n 0 0 [.ref (gb G + 0), .int (-2)] Z I1 J1 (qi Z (fun v6 I5 J5 => K v6 I5 J5))))))) ∧ (x2 = 1 → Cl G mX11_isCost n 0 0 [.int x3] Z I J (qi Z (fun v8 I7 J7 => ((v8 = 0 → Cl G mX9_has n 0 0 [.ref (gb G + 1), .int x1] Z I7 J7 (qi Z (fun v10 I9 J9 => ((v10 = 0 → Cl G mX11_refuse n 0 0 [.ref (gb G + 0), .int (-2)] Z I9 J9 (qi Z (fun v12 I11 J11 => K v12 I11 J11))) ∧ (¬ v10 = 0 → Cl G mX11_refuse n 0 0 [.ref (gb G + 0), .int (-2)] Z I9 J9 (qi Z (fun v14 I13 J13 => K v14 I13 J13))))))) ∧ (¬ v8 = 0 → Cl G mX9_has n 0 0 [.ref (gb G + 1), .int x1] Z I7 J7 (qi Z (fun v16 I15 J15 => ((v16 = 0 → Cl G mX11_refuse n 0 0 [.ref (gb G + 0), .int (-2)] Z I15 J15 (qi Z (fun v18 I17 J17 => K v18 I17 J17))) ∧ (¬ v16 = 0 → ((¬ x2 = 0 → (vp_in x1 7 ∧ (vp_in x1 7 ∧ K (I15 (1 + 2) (Int32.toNatClampNeg x1)) (uI I15 (1 + 2) (Int32.toNatClampNeg x1) x3) J15))) ∧ (x2 = 0 → (vp_in x1 7 ∧ (vp_in x1 7 ∧ K (I15 (1 + 1) (Int32.toNatClampNeg x1)) (uI I15 (1 + 1) (Int32.toNatClampNeg x1) x3) J15))))))))))))))) ∧ (x2 = 0 → Cl G mX11_isHour n 0 0 [.int x3] Z I J (qi Z (fun v24 I23 J23 => Cl G mX9_has n 0 0 [.ref (gb G + 1), .int x1] Z I23 J23 (qi Z (fun v26 I25 J25 => ((v26 = 0 → Cl G mX11_refuse n 0 0 [.ref (gb G + 0), .int (-2)] Z I25 J25 (qi Z (fun v28 I27 J27 => K v28 I27 J27))) ∧ (¬ v26 = 0 → ((¬ v24 = 0 → ((¬ x2 = 0 → (vp_in x1 7 ∧ (vp_in x1 7 ∧ K (I25 (1 + 2) (Int32.toNatClampNeg x1)) (uI I25 (1 + 2) (Int32.toNatClampNeg x1) x3) J25))) ∧ (x2 = 0 → (vp_in x1 7 ∧ (vp_in x1 7 ∧ K (I25 (1 + 1) (Int32.toNatClampNeg x1)) (uI I25 (1 + 1) (Int32.toNatClampNeg x1) x3) J25))))) ∧ (v24 = 0 → Cl G mX11_refuse n 0 0 [.ref (gb G + 0), .int (-2)] Z I25 J25 (qi Z (fun v34 I33 J33 => K v34 I33 J33))))))))))))) : Jd G mX11_change (jdFm G (qi Z K)) (n + 1) rc rs 0 [(0, .ref (gb G + 0)), (1, .int x1), (2, .int x2), (3, .int x3)] [] Z I J := by
  refine jd_iload_n (pc := 0) 2 dX11_change_0 rfl rfl ?_
  refine jd_if_ne (pc := 1) 11 dX11_change_1 (by decide) (fun hc => ?_) (fun hc => ?_)
  · have h := h.1 hc
    refine jd_iload_n (pc := 11) 2 dX11_change_11 rfl rfl ?_
    refine jd_iconst (pc := 12) (v := 1) dX11_change_12 (by decide) ?_
    refine jd_icmp_ne (pc := 13) 27 dX11_change_13 (by decide) (fun hc => ?_) (fun hc => ?_)
    · have h := h.1 hc
      refine jd_iconst (pc := 27) (v := 0) dX11_change_27 (by decide) ?_
      refine jd_istore (pc := 28) [(4, .int 0), (0, .ref (gb G + 0)), (1, .int x1), (2, .int x2), (3, .int x3)] dX11_change_28 (by decide) rfl ?_
      refine jd_aload_n (pc := 30) 1 dX11_change_30 rfl rfl ?_
      refine jd_getR (pc := 31) (ci := 10) (k := 0) (r := 1) gX11_10 hX.1 rfl (zX_p0 hX) dX11_change_31 ?_
      refine jd_iload_n (pc := 34) 2 dX11_change_34 rfl rfl ?_
      refine jd_callVi (pc := 35) (M2 := mX9_has) (id := 1) (ci := 8) (T := TX9) (N := 10) (av := [.int x1]) kX9_has sX9_has rfl (zX_o0 hX).1 lX11_152 rfl rfl (Nat.le_of_ble_eq_true rfl) dX11_change_35 h ?_
      intro v2 I1 J1 h
      refine jd_if_eq (pc := 38) 46 dX11_change_38 (by decide) (fun hc => ?_) (fun hc => ?_)
      · have h := h.1 hc
        refine jd_aload_n (pc := 46) 1 dX11_change_46 rfl rfl ?_
        refine jd_bipush (pc := 47) (v := (-2)) dX11_change_47 (by decide) ?_
        refine jd_callVi (pc := 49) (M2 := mX11_refuse) (id := 0) (ci := 10) (T := TX11) (N := 9) (av := [.int (-2)]) kX11_refuse sX11_refuse rfl hX.1 lX11_58 rfl rfl (Nat.le_of_ble_eq_true rfl) dX11_change_49 h ?_
        intro v4 I3 J3 h
        exact jd_iretK (pc := 52) rfl rfl dX11_change_52 h
      · have h := h.2 hc
        refine jd_iload (pc := 41) 0 dX11_change_41 rfl ?_
        refine jd_if_ne (pc := 43) 53 dX11_change_43 (by decide) (fun hc => absurd (show (0 : Int32) = 0 by decide) hc) (fun _ => ?_)
        refine jd_aload_n (pc := 46) 1 dX11_change_46 rfl rfl ?_
        refine jd_bipush (pc := 47) (v := (-2)) dX11_change_47 (by decide) ?_
        refine jd_callVi (pc := 49) (M2 := mX11_refuse) (id := 0) (ci := 10) (T := TX11) (N := 9) (av := [.int (-2)]) kX11_refuse sX11_refuse rfl hX.1 lX11_58 rfl rfl (Nat.le_of_ble_eq_true rfl) dX11_change_49 h ?_
        intro v6 I5 J5 h
        exact jd_iretK (pc := 52) rfl rfl dX11_change_52 h
    · have h := h.2 hc
      refine jd_iload_n (pc := 16) 3 dX11_change_16 rfl rfl ?_
      refine jd_callSi (pc := 17) (M2 := mX11_isCost) (av := [.int x3]) kX11_isCost sX11_isCost lX11_142 rfl rfl (Nat.le_of_ble_eq_true rfl) dX11_change_17 h ?_
      intro v8 I7 J7 h
      refine jd_if_eq (pc := 20) 27 dX11_change_20 (by decide) (fun hc => ?_) (fun hc => ?_)
      · have h := h.1 hc
        refine jd_iconst (pc := 27) (v := 0) dX11_change_27 (by decide) ?_
        refine jd_istore (pc := 28) [(4, .int 0), (0, .ref (gb G + 0)), (1, .int x1), (2, .int x2), (3, .int x3)] dX11_change_28 (by decide) rfl ?_
        refine jd_aload_n (pc := 30) 1 dX11_change_30 rfl rfl ?_
        refine jd_getR (pc := 31) (ci := 10) (k := 0) (r := 1) gX11_10 hX.1 rfl (zX_p0 hX) dX11_change_31 ?_
        refine jd_iload_n (pc := 34) 2 dX11_change_34 rfl rfl ?_
        refine jd_callVi (pc := 35) (M2 := mX9_has) (id := 1) (ci := 8) (T := TX9) (N := 10) (av := [.int x1]) kX9_has sX9_has rfl (zX_o0 hX).1 lX11_152 rfl rfl (Nat.le_of_ble_eq_true rfl) dX11_change_35 h ?_
        intro v10 I9 J9 h
        refine jd_if_eq (pc := 38) 46 dX11_change_38 (by decide) (fun hc => ?_) (fun hc => ?_)
        · have h := h.1 hc
          refine jd_aload_n (pc := 46) 1 dX11_change_46 rfl rfl ?_
          refine jd_bipush (pc := 47) (v := (-2)) dX11_change_47 (by decide) ?_
          refine jd_callVi (pc := 49) (M2 := mX11_refuse) (id := 0) (ci := 10) (T := TX11) (N := 9) (av := [.int (-2)]) kX11_refuse sX11_refuse rfl hX.1 lX11_58 rfl rfl (Nat.le_of_ble_eq_true rfl) dX11_change_49 h ?_
          intro v12 I11 J11 h
          exact jd_iretK (pc := 52) rfl rfl dX11_change_52 h
        · have h := h.2 hc
          refine jd_iload (pc := 41) 0 dX11_change_41 rfl ?_
          refine jd_if_ne (pc := 43) 53 dX11_change_43 (by decide) (fun hc => absurd (show (0 : Int32) = 0 by decide) hc) (fun _ => ?_)
          refine jd_aload_n (pc := 46) 1 dX11_change_46 rfl rfl ?_
          refine jd_bipush (pc := 47) (v := (-2)) dX11_change_47 (by decide) ?_
          refine jd_callVi (pc := 49) (M2 := mX11_refuse) (id := 0) (ci := 10) (T := TX11) (N := 9) (av := [.int (-2)]) kX11_refuse sX11_refuse rfl hX.1 lX11_58 rfl rfl (Nat.le_of_ble_eq_true rfl) dX11_change_49 h ?_
          intro v14 I13 J13 h
          exact jd_iretK (pc := 52) rfl rfl dX11_change_52 h
      · have h := h.2 hc
        refine jd_iconst (pc := 23) (v := 1) dX11_change_23 (by decide) ?_
        refine jd_goto (pc := 24) 28 dX11_change_24 (by decide) ?_
        refine jd_istore (pc := 28) [(4, .int 1), (0, .ref (gb G + 0)), (1, .int x1), (2, .int x2), (3, .int x3)] dX11_change_28 (by decide) rfl ?_
        refine jd_aload_n (pc := 30) 1 dX11_change_30 rfl rfl ?_
        refine jd_getR (pc := 31) (ci := 10) (k := 0) (r := 1) gX11_10 hX.1 rfl (zX_p0 hX) dX11_change_31 ?_
        refine jd_iload_n (pc := 34) 2 dX11_change_34 rfl rfl ?_
        refine jd_callVi (pc := 35) (M2 := mX9_has) (id := 1) (ci := 8) (T := TX9) (N := 10) (av := [.int x1]) kX9_has sX9_has rfl (zX_o0 hX).1 lX11_152 rfl rfl (Nat.le_of_ble_eq_true rfl) dX11_change_35 h ?_
        intro v16 I15 J15 h
        refine jd_if_eq (pc := 38) 46 dX11_change_38 (by decide) (fun hc => ?_) (fun hc => ?_)
        · have h := h.1 hc
          refine jd_aload_n (pc := 46) 1 dX11_change_46 rfl rfl ?_
          refine jd_bipush (pc := 47) (v := (-2)) dX11_change_47 (by decide) ?_
          refine jd_callVi (pc := 49) (M2 := mX11_refuse) (id := 0) (ci := 10) (T := TX11) (N := 9) (av := [.int (-2)]) kX11_refuse sX11_refuse rfl hX.1 lX11_58 rfl rfl (Nat.le_of_ble_eq_true rfl) dX11_change_49 h ?_
          intro v18 I17 J17 h
          exact jd_iretK (pc := 52) rfl rfl dX11_change_52 h
        · have h := h.2 hc
          refine jd_iload (pc := 41) 0 dX11_change_41 rfl ?_
          refine jd_if_ne (pc := 43) 53 dX11_change_43 (by decide) (fun _ => ?_) (fun hc => absurd hc (by decide))
          refine jd_iload_n (pc := 53) 3 dX11_change_53 rfl rfl ?_
          refine jd_if_ne (pc := 54) 67 dX11_change_54 (by decide) (fun hc => ?_) (fun hc => ?_)
          · have h := h.1 hc
            refine jd_aload_n (pc := 67) 1 dX11_change_67 rfl rfl ?_
            refine jd_getR (pc := 68) (ci := 10) (k := 0) (r := 1) gX11_10 hX.1 rfl (zX_p0 hX) dX11_change_68 ?_
            refine jd_getR (pc := 71) (ci := 8) (k := 1) (r := (1 + 2)) gX11_158 (zX_o0 hX).1 rfl (zTown_p1 (zX_o0 hX)) dX11_change_71 ?_
            refine jd_astore (pc := 74) [(5, .ref (gb G + (1 + 2))), (4, .int 1), (0, .ref (gb G + 0)), (1, .int x1), (2, .int x2), (3, .int x3)] dX11_change_74 (by decide) rfl ?_
            refine jd_aload (pc := 76) 0 dX11_change_76 rfl ?_
            refine jd_iload_n (pc := 78) 3 dX11_change_78 rfl rfl ?_
            obtain ⟨hv19, h⟩ := h
            refine jd_iald (pc := 79) (len := 7) (zTown_a1 (zX_o0 hX)) hv19 dX11_change_79 ?_
            refine jd_istore (pc := 80) [(6, .int (I15 (1 + 2) (Int32.toNatClampNeg x1))), (5, .ref (gb G + (1 + 2))), (4, .int 1), (0, .ref (gb G + 0)), (1, .int x1), (2, .int x2), (3, .int x3)] dX11_change_80 (by decide) rfl ?_
            refine jd_aload (pc := 82) 1 dX11_change_82 rfl ?_
            refine jd_iload_n (pc := 84) 4 dX11_change_84 rfl rfl ?_
            refine jd_iload_n (pc := 85) 6 dX11_change_85 rfl rfl ?_
            obtain ⟨hv20, h⟩ := h
            refine jd_iast (pc := 86) (len := 7) (zTown_a1 (zX_o0 hX)) hv20 dX11_change_86 ?_
            refine jd_iload (pc := 87) 0 dX11_change_87 rfl ?_
            exact jd_iretK (pc := 89) rfl rfl dX11_change_89 h
          · have h := h.2 hc
            refine jd_aload_n (pc := 57) 1 dX11_change_57 rfl rfl ?_
            refine jd_getR (pc := 58) (ci := 10) (k := 0) (r := 1) gX11_10 hX.1 rfl (zX_p0 hX) dX11_change_58 ?_
            refine jd_getR (pc := 61) (ci := 8) (k := 0) (r := (1 + 1)) gX11_155 (zX_o0 hX).1 rfl (zTown_p0 (zX_o0 hX)) dX11_change_61 ?_
            refine jd_goto (pc := 64) 74 dX11_change_64 (by decide) ?_
            refine jd_astore (pc := 74) [(5, .ref (gb G + (1 + 1))), (4, .int 1), (0, .ref (gb G + 0)), (1, .int x1), (2, .int x2), (3, .int x3)] dX11_change_74 (by decide) rfl ?_
            refine jd_aload (pc := 76) 0 dX11_change_76 rfl ?_
            refine jd_iload_n (pc := 78) 3 dX11_change_78 rfl rfl ?_
            obtain ⟨hv21, h⟩ := h
            refine jd_iald (pc := 79) (len := 7) (zTown_a0 (zX_o0 hX)) hv21 dX11_change_79 ?_
            refine jd_istore (pc := 80) [(6, .int (I15 (1 + 1) (Int32.toNatClampNeg x1))), (5, .ref (gb G + (1 + 1))), (4, .int 1), (0, .ref (gb G + 0)), (1, .int x1), (2, .int x2), (3, .int x3)] dX11_change_80 (by decide) rfl ?_
            refine jd_aload (pc := 82) 1 dX11_change_82 rfl ?_
            refine jd_iload_n (pc := 84) 4 dX11_change_84 rfl rfl ?_
            refine jd_iload_n (pc := 85) 6 dX11_change_85 rfl rfl ?_
            obtain ⟨hv22, h⟩ := h
            refine jd_iast (pc := 86) (len := 7) (zTown_a0 (zX_o0 hX)) hv22 dX11_change_86 ?_
            refine jd_iload (pc := 87) 0 dX11_change_87 rfl ?_
            exact jd_iretK (pc := 89) rfl rfl dX11_change_89 h
  · have h := h.2 hc
    refine jd_iload_n (pc := 4) 3 dX11_change_4 rfl rfl ?_
    refine jd_callSi (pc := 5) (M2 := mX11_isHour) (av := [.int x3]) kX11_isHour sX11_isHour lX11_139 rfl rfl (Nat.le_of_ble_eq_true rfl) dX11_change_5 h ?_
    intro v24 I23 J23 h
    refine jd_goto (pc := 8) 28 dX11_change_8 (by decide) ?_
    refine jd_istore (pc := 28) [(4, .int v24), (0, .ref (gb G + 0)), (1, .int x1), (2, .int x2), (3, .int x3)] dX11_change_28 (by decide) rfl ?_
    refine jd_aload_n (pc := 30) 1 dX11_change_30 rfl rfl ?_
    refine jd_getR (pc := 31) (ci := 10) (k := 0) (r := 1) gX11_10 hX.1 rfl (zX_p0 hX) dX11_change_31 ?_
    refine jd_iload_n (pc := 34) 2 dX11_change_34 rfl rfl ?_
    refine jd_callVi (pc := 35) (M2 := mX9_has) (id := 1) (ci := 8) (T := TX9) (N := 10) (av := [.int x1]) kX9_has sX9_has rfl (zX_o0 hX).1 lX11_152 rfl rfl (Nat.le_of_ble_eq_true rfl) dX11_change_35 h ?_
    intro v26 I25 J25 h
    refine jd_if_eq (pc := 38) 46 dX11_change_38 (by decide) (fun hc => ?_) (fun hc => ?_)
    · have h := h.1 hc
      refine jd_aload_n (pc := 46) 1 dX11_change_46 rfl rfl ?_
      refine jd_bipush (pc := 47) (v := (-2)) dX11_change_47 (by decide) ?_
      refine jd_callVi (pc := 49) (M2 := mX11_refuse) (id := 0) (ci := 10) (T := TX11) (N := 9) (av := [.int (-2)]) kX11_refuse sX11_refuse rfl hX.1 lX11_58 rfl rfl (Nat.le_of_ble_eq_true rfl) dX11_change_49 h ?_
      intro v28 I27 J27 h
      exact jd_iretK (pc := 52) rfl rfl dX11_change_52 h
    · have h := h.2 hc
      refine jd_iload (pc := 41) 0 dX11_change_41 rfl ?_
      refine jd_if_ne (pc := 43) 53 dX11_change_43 (by decide) (fun hc => ?_) (fun hc => ?_)
      · have h := h.1 hc
        refine jd_iload_n (pc := 53) 3 dX11_change_53 rfl rfl ?_
        refine jd_if_ne (pc := 54) 67 dX11_change_54 (by decide) (fun hc => ?_) (fun hc => ?_)
        · have h := h.1 hc
          refine jd_aload_n (pc := 67) 1 dX11_change_67 rfl rfl ?_
          refine jd_getR (pc := 68) (ci := 10) (k := 0) (r := 1) gX11_10 hX.1 rfl (zX_p0 hX) dX11_change_68 ?_
          refine jd_getR (pc := 71) (ci := 8) (k := 1) (r := (1 + 2)) gX11_158 (zX_o0 hX).1 rfl (zTown_p1 (zX_o0 hX)) dX11_change_71 ?_
          refine jd_astore (pc := 74) [(5, .ref (gb G + (1 + 2))), (4, .int v24), (0, .ref (gb G + 0)), (1, .int x1), (2, .int x2), (3, .int x3)] dX11_change_74 (by decide) rfl ?_
          refine jd_aload (pc := 76) 0 dX11_change_76 rfl ?_
          refine jd_iload_n (pc := 78) 3 dX11_change_78 rfl rfl ?_
          obtain ⟨hv29, h⟩ := h
          refine jd_iald (pc := 79) (len := 7) (zTown_a1 (zX_o0 hX)) hv29 dX11_change_79 ?_
          refine jd_istore (pc := 80) [(6, .int (I25 (1 + 2) (Int32.toNatClampNeg x1))), (5, .ref (gb G + (1 + 2))), (4, .int v24), (0, .ref (gb G + 0)), (1, .int x1), (2, .int x2), (3, .int x3)] dX11_change_80 (by decide) rfl ?_
          refine jd_aload (pc := 82) 1 dX11_change_82 rfl ?_
          refine jd_iload_n (pc := 84) 4 dX11_change_84 rfl rfl ?_
          refine jd_iload_n (pc := 85) 6 dX11_change_85 rfl rfl ?_
          obtain ⟨hv30, h⟩ := h
          refine jd_iast (pc := 86) (len := 7) (zTown_a1 (zX_o0 hX)) hv30 dX11_change_86 ?_
          refine jd_iload (pc := 87) 0 dX11_change_87 rfl ?_
          exact jd_iretK (pc := 89) rfl rfl dX11_change_89 h
        · have h := h.2 hc
          refine jd_aload_n (pc := 57) 1 dX11_change_57 rfl rfl ?_
          refine jd_getR (pc := 58) (ci := 10) (k := 0) (r := 1) gX11_10 hX.1 rfl (zX_p0 hX) dX11_change_58 ?_
          refine jd_getR (pc := 61) (ci := 8) (k := 0) (r := (1 + 1)) gX11_155 (zX_o0 hX).1 rfl (zTown_p0 (zX_o0 hX)) dX11_change_61 ?_
          refine jd_goto (pc := 64) 74 dX11_change_64 (by decide) ?_
          refine jd_astore (pc := 74) [(5, .ref (gb G + (1 + 1))), (4, .int v24), (0, .ref (gb G + 0)), (1, .int x1), (2, .int x2), (3, .int x3)] dX11_change_74 (by decide) rfl ?_
          refine jd_aload (pc := 76) 0 dX11_change_76 rfl ?_
          refine jd_iload_n (pc := 78) 3 dX11_change_78 rfl rfl ?_
          obtain ⟨hv31, h⟩ := h
          refine jd_iald (pc := 79) (len := 7) (zTown_a0 (zX_o0 hX)) hv31 dX11_change_79 ?_
          refine jd_istore (pc := 80) [(6, .int (I25 (1 + 1) (Int32.toNatClampNeg x1))), (5, .ref (gb G + (1 + 1))), (4, .int v24), (0, .ref (gb G + 0)), (1, .int x1), (2, .int x2), (3, .int x3)] dX11_change_80 (by decide) rfl ?_
          refine jd_aload (pc := 82) 1 dX11_change_82 rfl ?_
          refine jd_iload_n (pc := 84) 4 dX11_change_84 rfl rfl ?_
          refine jd_iload_n (pc := 85) 6 dX11_change_85 rfl rfl ?_
          obtain ⟨hv32, h⟩ := h
          refine jd_iast (pc := 86) (len := 7) (zTown_a0 (zX_o0 hX)) hv32 dX11_change_86 ?_
          refine jd_iload (pc := 87) 0 dX11_change_87 rfl ?_
          exact jd_iretK (pc := 89) rfl rfl dX11_change_89 h
      · have h := h.2 hc
        refine jd_aload_n (pc := 46) 1 dX11_change_46 rfl rfl ?_
        refine jd_bipush (pc := 47) (v := (-2)) dX11_change_47 (by decide) ?_
        refine jd_callVi (pc := 49) (M2 := mX11_refuse) (id := 0) (ci := 10) (T := TX11) (N := 9) (av := [.int (-2)]) kX11_refuse sX11_refuse rfl hX.1 lX11_58 rfl rfl (Nat.le_of_ble_eq_true rfl) dX11_change_49 h ?_
        intro v34 I33 J33 h
        exact jd_iretK (pc := 52) rfl rfl dX11_change_52 h
theorem eX11_change {G : jdG} {n : Nat} {Z : jdL} {I : jdI} {J : jdJ} {K : Int32 → jdI → jdJ → Prop} {x1 : Int32} {x2 : Int32} {x3 : Int32} (hX : zX Z) (h : ((¬ x2 = 0 → ((¬ x2 = 1 → Cl G mX9_has n 0 0 [.ref (gb G + 1), .int x1] Z I J (qi Z (fun v2 I1 J1 => ((v2 = 0 → Cl G mX11_refuse n 0 0 [.ref (gb G + 0), .int (-2)] Z I1 J1 (qi Z (fun v4 I3 J3 => K v4 I3 J3))) ∧ (¬ v2 = 0 → Cl G mX11_refuse n 0 0 [.ref (gb G + 0), .int (-2)] Z I1 J1 (qi Z (fun v6 I5 J5 => K v6 I5 J5))))))) ∧ (x2 = 1 → Cl G mX11_isCost n 0 0 [.int x3] Z I J (qi Z (fun v8 I7 J7 => ((v8 = 0 → Cl G mX9_has n 0 0 [.ref (gb G + 1), .int x1] Z I7 J7 (qi Z (fun v10 I9 J9 => ((v10 = 0 → Cl G mX11_refuse n 0 0 [.ref (gb G + 0), .int (-2)] Z I9 J9 (qi Z (fun v12 I11 J11 => K v12 I11 J11))) ∧ (¬ v10 = 0 → Cl G mX11_refuse n 0 0 [.ref (gb G + 0), .int (-2)] Z I9 J9 (qi Z (fun v14 I13 J13 => K v14 I13 J13))))))) ∧ (¬ v8 = 0 → Cl G mX9_has n 0 0 [.ref (gb G + 1), .int x1] Z I7 J7 (qi Z (fun v16 I15 J15 => ((v16 = 0 → Cl G mX11_refuse n 0 0 [.ref (gb G + 0), .int (-2)] Z I15 J15 (qi Z (fun v18 I17 J17 => K v18 I17 J17))) ∧ (¬ v16 = 0 → ((¬ x2 = 0 → (vp_in x1 7 ∧ (vp_in x1 7 ∧ K (I15 (1 + 2) (Int32.toNatClampNeg x1)) (uI I15 (1 + 2) (Int32.toNatClampNeg x1) x3) J15))) ∧ (x2 = 0 → (vp_in x1 7 ∧ (vp_in x1 7 ∧ K (I15 (1 + 1) (Int32.toNatClampNeg x1)) (uI I15 (1 + 1) (Int32.toNatClampNeg x1) x3) J15))))))))))))))) ∧ (x2 = 0 → Cl G mX11_isHour n 0 0 [.int x3] Z I J (qi Z (fun v24 I23 J23 => Cl G mX9_has n 0 0 [.ref (gb G + 1), .int x1] Z I23 J23 (qi Z (fun v26 I25 J25 => ((v26 = 0 → Cl G mX11_refuse n 0 0 [.ref (gb G + 0), .int (-2)] Z I25 J25 (qi Z (fun v28 I27 J27 => K v28 I27 J27))) ∧ (¬ v26 = 0 → ((¬ v24 = 0 → ((¬ x2 = 0 → (vp_in x1 7 ∧ (vp_in x1 7 ∧ K (I25 (1 + 2) (Int32.toNatClampNeg x1)) (uI I25 (1 + 2) (Int32.toNatClampNeg x1) x3) J25))) ∧ (x2 = 0 → (vp_in x1 7 ∧ (vp_in x1 7 ∧ K (I25 (1 + 1) (Int32.toNatClampNeg x1)) (uI I25 (1 + 1) (Int32.toNatClampNeg x1) x3) J25))))) ∧ (v24 = 0 → Cl G mX11_refuse n 0 0 [.ref (gb G + 0), .int (-2)] Z I25 J25 (qi Z (fun v34 I33 J33 => K v34 I33 J33))))))))))))) : Cl G mX11_change (n + 1) 0 0 [.ref (gb G + 0), .int x1, .int x2, .int x3] Z I J (qi Z K) :=
  Cl.of (by decide +kernel) (Nat.le_of_ble_eq_true rfl) (rX11_change_0 hX h)
set_option maxRecDepth 4000 in
theorem rX11_know_0 {G : jdG} {n rc rs : Nat} {Z : jdL} {I : jdI} {J : jdJ} {K : Int32 → jdI → jdJ → Prop} {x1 : Int32} {x2 : Int32} {x3 : Int32} (hX : zX Z) (h : Cl G mX9_hasTwo n 0 0 [.ref (gb G + 1), .int x1, .int x2] Z I J (qi Z (fun v2 I1 J1 => ((v2 = 0 → Cl G mX11_refuse n 0 0 [.ref (gb G + 0), .int (-2)] Z I1 J1 (qi Z (fun v4 I3 J3 => K v4 I3 J3))) ∧ (¬ v2 = 0 → ((x3 < (-1) → Cl G mX11_refuse n 0 0 [.ref (gb G + 0), .int (-2)] Z I1 J1 (qi Z (fun v6 I5 J5 => K v6 I5 J5))) ∧ (¬ x3 < (-1) → ((x3 ≤ 99 → Cl G mX9_since n 0 0 [.ref (gb G + 1), .int x1, .int x2] Z I1 J1 (qi Z (fun v8 I7 J7 => Cl G mX9_tie n 0 0 [.ref (gb G + 1), .int x1, .int x2, .int x3] Z I7 J7 (qv Z (fun I9 J9 => K v8 I9 J9))))) ∧ (¬ x3 ≤ 99 → Cl G mX11_refuse n 0 0 [.ref (gb G + 0), .int (-2)] Z I1 J1 (qi Z (fun v12 I11 J11 => K v12 I11 J11))))))))))) : Jd G mX11_know (jdFm G (qi Z K)) (n + 1) rc rs 0 [(0, .ref (gb G + 0)), (1, .int x1), (2, .int x2), (3, .int x3)] [] Z I J := by
  refine jd_aload_n (pc := 0) 0 dX11_know_0 rfl rfl ?_
  refine jd_getR (pc := 1) (ci := 10) (k := 0) (r := 1) gX11_10 hX.1 rfl (zX_p0 hX) dX11_know_1 ?_
  refine jd_iload_n (pc := 4) 1 dX11_know_4 rfl rfl ?_
  refine jd_iload_n (pc := 5) 2 dX11_know_5 rfl rfl ?_
  refine jd_callVi (pc := 6) (M2 := mX9_hasTwo) (id := 1) (ci := 8) (T := TX9) (N := 10) (av := [.int x1, .int x2]) kX9_hasTwo sX9_hasTwo rfl (zX_o0 hX).1 lX11_161 rfl rfl (Nat.le_of_ble_eq_true rfl) dX11_know_6 h ?_
  intro v2 I1 J1 h
  refine jd_if_eq (pc := 9) 23 dX11_know_9 (by decide) (fun hc => ?_) (fun hc => ?_)
  · have h := h.1 hc
    refine jd_aload_n (pc := 23) 0 dX11_know_23 rfl rfl ?_
    refine jd_bipush (pc := 24) (v := (-2)) dX11_know_24 (by decide) ?_
    refine jd_callVi (pc := 26) (M2 := mX11_refuse) (id := 0) (ci := 10) (T := TX11) (N := 9) (av := [.int (-2)]) kX11_refuse sX11_refuse rfl hX.1 lX11_58 rfl rfl (Nat.le_of_ble_eq_true rfl) dX11_know_26 h ?_
    intro v4 I3 J3 h
    exact jd_iretK (pc := 29) rfl rfl dX11_know_29 h
  · have h := h.2 hc
    refine jd_iload_n (pc := 12) 3 dX11_know_12 rfl rfl ?_
    refine jd_iconst (pc := 13) (v := (-1)) dX11_know_13 (by decide) ?_
    refine jd_icmp_lt (pc := 14) 23 dX11_know_14 (by decide) (fun hc => ?_) (fun hc => ?_)
    · have h := h.1 hc
      refine jd_aload_n (pc := 23) 0 dX11_know_23 rfl rfl ?_
      refine jd_bipush (pc := 24) (v := (-2)) dX11_know_24 (by decide) ?_
      refine jd_callVi (pc := 26) (M2 := mX11_refuse) (id := 0) (ci := 10) (T := TX11) (N := 9) (av := [.int (-2)]) kX11_refuse sX11_refuse rfl hX.1 lX11_58 rfl rfl (Nat.le_of_ble_eq_true rfl) dX11_know_26 h ?_
      intro v6 I5 J5 h
      exact jd_iretK (pc := 29) rfl rfl dX11_know_29 h
    · have h := h.2 hc
      refine jd_iload_n (pc := 17) 3 dX11_know_17 rfl rfl ?_
      refine jd_bipush (pc := 18) (v := 99) dX11_know_18 (by decide) ?_
      refine jd_icmp_le (pc := 20) 30 dX11_know_20 (by decide) (fun hc => ?_) (fun hc => ?_)
      · have h := h.1 hc
        refine jd_aload_n (pc := 30) 0 dX11_know_30 rfl rfl ?_
        refine jd_getR (pc := 31) (ci := 10) (k := 0) (r := 1) gX11_10 hX.1 rfl (zX_p0 hX) dX11_know_31 ?_
        refine jd_iload_n (pc := 34) 1 dX11_know_34 rfl rfl ?_
        refine jd_iload_n (pc := 35) 2 dX11_know_35 rfl rfl ?_
        refine jd_callVi (pc := 36) (M2 := mX9_since) (id := 1) (ci := 8) (T := TX9) (N := 10) (av := [.int x1, .int x2]) kX9_since sX9_since rfl (zX_o0 hX).1 lX11_165 rfl rfl (Nat.le_of_ble_eq_true rfl) dX11_know_36 h ?_
        intro v8 I7 J7 h
        refine jd_istore (pc := 39) [(4, .int v8), (0, .ref (gb G + 0)), (1, .int x1), (2, .int x2), (3, .int x3)] dX11_know_39 (by decide) rfl ?_
        refine jd_aload_n (pc := 41) 1 dX11_know_41 rfl rfl ?_
        refine jd_getR (pc := 42) (ci := 10) (k := 0) (r := 1) gX11_10 hX.1 rfl (zX_p0 hX) dX11_know_42 ?_
        refine jd_iload_n (pc := 45) 2 dX11_know_45 rfl rfl ?_
        refine jd_iload_n (pc := 46) 3 dX11_know_46 rfl rfl ?_
        refine jd_iload_n (pc := 47) 4 dX11_know_47 rfl rfl ?_
        refine jd_callVv (pc := 48) (M2 := mX9_tie) (id := 1) (ci := 8) (T := TX9) (N := 10) (av := [.int x1, .int x2, .int x3]) kX9_tie sX9_tie rfl (zX_o0 hX).1 lX11_168 rfl rfl (Nat.le_of_ble_eq_true rfl) dX11_know_48 h ?_
        intro I9 J9 h
        refine jd_iload (pc := 51) 0 dX11_know_51 rfl ?_
        exact jd_iretK (pc := 53) rfl rfl dX11_know_53 h
      · have h := h.2 hc
        refine jd_aload_n (pc := 23) 0 dX11_know_23 rfl rfl ?_
        refine jd_bipush (pc := 24) (v := (-2)) dX11_know_24 (by decide) ?_
        refine jd_callVi (pc := 26) (M2 := mX11_refuse) (id := 0) (ci := 10) (T := TX11) (N := 9) (av := [.int (-2)]) kX11_refuse sX11_refuse rfl hX.1 lX11_58 rfl rfl (Nat.le_of_ble_eq_true rfl) dX11_know_26 h ?_
        intro v12 I11 J11 h
        exact jd_iretK (pc := 29) rfl rfl dX11_know_29 h
theorem eX11_know {G : jdG} {n : Nat} {Z : jdL} {I : jdI} {J : jdJ} {K : Int32 → jdI → jdJ → Prop} {x1 : Int32} {x2 : Int32} {x3 : Int32} (hX : zX Z) (h : Cl G mX9_hasTwo n 0 0 [.ref (gb G + 1), .int x1, .int x2] Z I J (qi Z (fun v2 I1 J1 => ((v2 = 0 → Cl G mX11_refuse n 0 0 [.ref (gb G + 0), .int (-2)] Z I1 J1 (qi Z (fun v4 I3 J3 => K v4 I3 J3))) ∧ (¬ v2 = 0 → ((x3 < (-1) → Cl G mX11_refuse n 0 0 [.ref (gb G + 0), .int (-2)] Z I1 J1 (qi Z (fun v6 I5 J5 => K v6 I5 J5))) ∧ (¬ x3 < (-1) → ((x3 ≤ 99 → Cl G mX9_since n 0 0 [.ref (gb G + 1), .int x1, .int x2] Z I1 J1 (qi Z (fun v8 I7 J7 => Cl G mX9_tie n 0 0 [.ref (gb G + 1), .int x1, .int x2, .int x3] Z I7 J7 (qv Z (fun I9 J9 => K v8 I9 J9))))) ∧ (¬ x3 ≤ 99 → Cl G mX11_refuse n 0 0 [.ref (gb G + 0), .int (-2)] Z I1 J1 (qi Z (fun v12 I11 J11 => K v12 I11 J11))))))))))) : Cl G mX11_know (n + 1) 0 0 [.ref (gb G + 0), .int x1, .int x2, .int x3] Z I J (qi Z K) :=
  Cl.of (by decide +kernel) (Nat.le_of_ble_eq_true rfl) (rX11_know_0 hX h)
set_option maxRecDepth 4000 in
theorem rX11_ask_0 {G : jdG} {n rc rs : Nat} {Z : jdL} {I : jdI} {J : jdJ} {K : Int32 → jdI → jdJ → Prop} {x1 : Int32} {x2 : Int32} (hX : zX Z) (h : ((¬ x1 = 0 → ((¬ x1 = 1 → Cl G mX11_refuse n 0 0 [.ref (gb G + 0), .int (-2)] Z I J (qi Z (fun v2 I1 J1 => K v2 I1 J1))) ∧ (x1 = 1 → ((x2 < 0 → Cl G mX11_refuse n 0 0 [.ref (gb G + 0), .int (-2)] Z I J (qi Z (fun v4 I3 J3 => K v4 I3 J3))) ∧ (¬ x2 < 0 → ((99 < x2 → Cl G mX11_refuse n 0 0 [.ref (gb G + 0), .int (-2)] Z I J (qi Z (fun v6 I5 J5 => K v6 I5 J5))) ∧ (¬ 99 < x2 → K (I 1 5) (uI I 1 5 x2) J))))))) ∧ (x1 = 0 → ((x2 < 2 → ((¬ x1 = 1 → Cl G mX11_refuse n 0 0 [.ref (gb G + 0), .int (-2)] Z I J (qi Z (fun v8 I7 J7 => K v8 I7 J7))) ∧ (x1 = 1 → ((x2 < 0 → Cl G mX11_refuse n 0 0 [.ref (gb G + 0), .int (-2)] Z I J (qi Z (fun v10 I9 J9 => K v10 I9 J9))) ∧ (¬ x2 < 0 → ((99 < x2 → Cl G mX11_refuse n 0 0 [.ref (gb G + 0), .int (-2)] Z I J (qi Z (fun v12 I11 J11 => K v12 I11 J11))) ∧ (¬ 99 < x2 → K (I 1 5) (uI I 1 5 x2) J))))))) ∧ (¬ x2 < 2 → ((4 < x2 → ((¬ x1 = 1 → Cl G mX11_refuse n 0 0 [.ref (gb G + 0), .int (-2)] Z I J (qi Z (fun v14 I13 J13 => K v14 I13 J13))) ∧ (x1 = 1 → ((x2 < 0 → Cl G mX11_refuse n 0 0 [.ref (gb G + 0), .int (-2)] Z I J (qi Z (fun v16 I15 J15 => K v16 I15 J15))) ∧ (¬ x2 < 0 → ((99 < x2 → Cl G mX11_refuse n 0 0 [.ref (gb G + 0), .int (-2)] Z I J (qi Z (fun v18 I17 J17 => K v18 I17 J17))) ∧ (¬ 99 < x2 → K (I 1 5) (uI I 1 5 x2) J))))))) ∧ (¬ 4 < x2 → K (I 1 4) (uI I 1 4 x2) J))))))) : Jd G mX11_ask (jdFm G (qi Z K)) (n + 1) rc rs 0 [(0, .ref (gb G + 0)), (1, .int x1), (2, .int x2)] [] Z I J := by
  refine jd_iload_n (pc := 0) 1 dX11_ask_0 rfl rfl ?_
  refine jd_if_ne (pc := 1) 32 dX11_ask_1 (by decide) (fun hc => ?_) (fun hc => ?_)
  · have h := h.1 hc
    refine jd_iload_n (pc := 32) 1 dX11_ask_32 rfl rfl ?_
    refine jd_iconst (pc := 33) (v := 1) dX11_ask_33 (by decide) ?_
    refine jd_icmp_ne (pc := 34) 65 dX11_ask_34 (by decide) (fun hc => ?_) (fun hc => ?_)
    · have h := h.1 hc
      refine jd_aload_n (pc := 65) 0 dX11_ask_65 rfl rfl ?_
      refine jd_bipush (pc := 66) (v := (-2)) dX11_ask_66 (by decide) ?_
      refine jd_callVi (pc := 68) (M2 := mX11_refuse) (id := 0) (ci := 10) (T := TX11) (N := 9) (av := [.int (-2)]) kX11_refuse sX11_refuse rfl hX.1 lX11_58 rfl rfl (Nat.le_of_ble_eq_true rfl) dX11_ask_68 h ?_
      intro v2 I1 J1 h
      exact jd_iretK (pc := 71) rfl rfl dX11_ask_71 h
    · have h := h.2 hc
      refine jd_iload_n (pc := 37) 2 dX11_ask_37 rfl rfl ?_
      refine jd_if_lt (pc := 38) 65 dX11_ask_38 (by decide) (fun hc => ?_) (fun hc => ?_)
      · have h := h.1 hc
        refine jd_aload_n (pc := 65) 0 dX11_ask_65 rfl rfl ?_
        refine jd_bipush (pc := 66) (v := (-2)) dX11_ask_66 (by decide) ?_
        refine jd_callVi (pc := 68) (M2 := mX11_refuse) (id := 0) (ci := 10) (T := TX11) (N := 9) (av := [.int (-2)]) kX11_refuse sX11_refuse rfl hX.1 lX11_58 rfl rfl (Nat.le_of_ble_eq_true rfl) dX11_ask_68 h ?_
        intro v4 I3 J3 h
        exact jd_iretK (pc := 71) rfl rfl dX11_ask_71 h
      · have h := h.2 hc
        refine jd_iload_n (pc := 41) 2 dX11_ask_41 rfl rfl ?_
        refine jd_bipush (pc := 42) (v := 99) dX11_ask_42 (by decide) ?_
        refine jd_icmp_gt (pc := 44) 65 dX11_ask_44 (by decide) (fun hc => ?_) (fun hc => ?_)
        · have h := h.1 hc
          refine jd_aload_n (pc := 65) 0 dX11_ask_65 rfl rfl ?_
          refine jd_bipush (pc := 66) (v := (-2)) dX11_ask_66 (by decide) ?_
          refine jd_callVi (pc := 68) (M2 := mX11_refuse) (id := 0) (ci := 10) (T := TX11) (N := 9) (av := [.int (-2)]) kX11_refuse sX11_refuse rfl hX.1 lX11_58 rfl rfl (Nat.le_of_ble_eq_true rfl) dX11_ask_68 h ?_
          intro v6 I5 J5 h
          exact jd_iretK (pc := 71) rfl rfl dX11_ask_71 h
        · have h := h.2 hc
          refine jd_aload_n (pc := 47) 0 dX11_ask_47 rfl rfl ?_
          refine jd_getR (pc := 48) (ci := 10) (k := 0) (r := 1) gX11_10 hX.1 rfl (zX_p0 hX) dX11_ask_48 ?_
          refine jd_getI (pc := 51) (ci := 8) (k := 5) gX11_175 (zX_o0 hX).1 rfl dX11_ask_51 ?_
          refine jd_istore_n (pc := 54) [(3, .int (I 1 5)), (0, .ref (gb G + 0)), (1, .int x1), (2, .int x2)] dX11_ask_54 rfl (by decide) rfl ?_
          refine jd_aload_n (pc := 55) 1 dX11_ask_55 rfl rfl ?_
          refine jd_getR (pc := 56) (ci := 10) (k := 0) (r := 1) gX11_10 hX.1 rfl (zX_p0 hX) dX11_ask_56 ?_
          refine jd_iload_n (pc := 59) 3 dX11_ask_59 rfl rfl ?_
          refine jd_putI (pc := 60) (ci := 8) (k := 5) pX11_175 (zX_o0 hX).1 rfl rfl rfl dX11_ask_60 ?_
          refine jd_iload_n (pc := 63) 0 dX11_ask_63 rfl rfl ?_
          exact jd_iretK (pc := 64) rfl rfl dX11_ask_64 h
  · have h := h.2 hc
    refine jd_iload_n (pc := 4) 2 dX11_ask_4 rfl rfl ?_
    refine jd_iconst (pc := 5) (v := 2) dX11_ask_5 (by decide) ?_
    refine jd_icmp_lt (pc := 6) 32 dX11_ask_6 (by decide) (fun hc => ?_) (fun hc => ?_)
    · have h := h.1 hc
      refine jd_iload_n (pc := 32) 1 dX11_ask_32 rfl rfl ?_
      refine jd_iconst (pc := 33) (v := 1) dX11_ask_33 (by decide) ?_
      refine jd_icmp_ne (pc := 34) 65 dX11_ask_34 (by decide) (fun hc => ?_) (fun hc => ?_)
      · have h := h.1 hc
        refine jd_aload_n (pc := 65) 0 dX11_ask_65 rfl rfl ?_
        refine jd_bipush (pc := 66) (v := (-2)) dX11_ask_66 (by decide) ?_
        refine jd_callVi (pc := 68) (M2 := mX11_refuse) (id := 0) (ci := 10) (T := TX11) (N := 9) (av := [.int (-2)]) kX11_refuse sX11_refuse rfl hX.1 lX11_58 rfl rfl (Nat.le_of_ble_eq_true rfl) dX11_ask_68 h ?_
        intro v8 I7 J7 h
        exact jd_iretK (pc := 71) rfl rfl dX11_ask_71 h
      · have h := h.2 hc
        refine jd_iload_n (pc := 37) 2 dX11_ask_37 rfl rfl ?_
        refine jd_if_lt (pc := 38) 65 dX11_ask_38 (by decide) (fun hc => ?_) (fun hc => ?_)
        · have h := h.1 hc
          refine jd_aload_n (pc := 65) 0 dX11_ask_65 rfl rfl ?_
          refine jd_bipush (pc := 66) (v := (-2)) dX11_ask_66 (by decide) ?_
          refine jd_callVi (pc := 68) (M2 := mX11_refuse) (id := 0) (ci := 10) (T := TX11) (N := 9) (av := [.int (-2)]) kX11_refuse sX11_refuse rfl hX.1 lX11_58 rfl rfl (Nat.le_of_ble_eq_true rfl) dX11_ask_68 h ?_
          intro v10 I9 J9 h
          exact jd_iretK (pc := 71) rfl rfl dX11_ask_71 h
        · have h := h.2 hc
          refine jd_iload_n (pc := 41) 2 dX11_ask_41 rfl rfl ?_
          refine jd_bipush (pc := 42) (v := 99) dX11_ask_42 (by decide) ?_
          refine jd_icmp_gt (pc := 44) 65 dX11_ask_44 (by decide) (fun hc => ?_) (fun hc => ?_)
          · have h := h.1 hc
            refine jd_aload_n (pc := 65) 0 dX11_ask_65 rfl rfl ?_
            refine jd_bipush (pc := 66) (v := (-2)) dX11_ask_66 (by decide) ?_
            refine jd_callVi (pc := 68) (M2 := mX11_refuse) (id := 0) (ci := 10) (T := TX11) (N := 9) (av := [.int (-2)]) kX11_refuse sX11_refuse rfl hX.1 lX11_58 rfl rfl (Nat.le_of_ble_eq_true rfl) dX11_ask_68 h ?_
            intro v12 I11 J11 h
            exact jd_iretK (pc := 71) rfl rfl dX11_ask_71 h
          · have h := h.2 hc
            refine jd_aload_n (pc := 47) 0 dX11_ask_47 rfl rfl ?_
            refine jd_getR (pc := 48) (ci := 10) (k := 0) (r := 1) gX11_10 hX.1 rfl (zX_p0 hX) dX11_ask_48 ?_
            refine jd_getI (pc := 51) (ci := 8) (k := 5) gX11_175 (zX_o0 hX).1 rfl dX11_ask_51 ?_
            refine jd_istore_n (pc := 54) [(3, .int (I 1 5)), (0, .ref (gb G + 0)), (1, .int x1), (2, .int x2)] dX11_ask_54 rfl (by decide) rfl ?_
            refine jd_aload_n (pc := 55) 1 dX11_ask_55 rfl rfl ?_
            refine jd_getR (pc := 56) (ci := 10) (k := 0) (r := 1) gX11_10 hX.1 rfl (zX_p0 hX) dX11_ask_56 ?_
            refine jd_iload_n (pc := 59) 3 dX11_ask_59 rfl rfl ?_
            refine jd_putI (pc := 60) (ci := 8) (k := 5) pX11_175 (zX_o0 hX).1 rfl rfl rfl dX11_ask_60 ?_
            refine jd_iload_n (pc := 63) 0 dX11_ask_63 rfl rfl ?_
            exact jd_iretK (pc := 64) rfl rfl dX11_ask_64 h
    · have h := h.2 hc
      refine jd_iload_n (pc := 9) 2 dX11_ask_9 rfl rfl ?_
      refine jd_iconst (pc := 10) (v := 4) dX11_ask_10 (by decide) ?_
      refine jd_icmp_gt (pc := 11) 32 dX11_ask_11 (by decide) (fun hc => ?_) (fun hc => ?_)
      · have h := h.1 hc
        refine jd_iload_n (pc := 32) 1 dX11_ask_32 rfl rfl ?_
        refine jd_iconst (pc := 33) (v := 1) dX11_ask_33 (by decide) ?_
        refine jd_icmp_ne (pc := 34) 65 dX11_ask_34 (by decide) (fun hc => ?_) (fun hc => ?_)
        · have h := h.1 hc
          refine jd_aload_n (pc := 65) 0 dX11_ask_65 rfl rfl ?_
          refine jd_bipush (pc := 66) (v := (-2)) dX11_ask_66 (by decide) ?_
          refine jd_callVi (pc := 68) (M2 := mX11_refuse) (id := 0) (ci := 10) (T := TX11) (N := 9) (av := [.int (-2)]) kX11_refuse sX11_refuse rfl hX.1 lX11_58 rfl rfl (Nat.le_of_ble_eq_true rfl) dX11_ask_68 h ?_
          intro v14 I13 J13 h
          exact jd_iretK (pc := 71) rfl rfl dX11_ask_71 h
        · have h := h.2 hc
          refine jd_iload_n (pc := 37) 2 dX11_ask_37 rfl rfl ?_
          refine jd_if_lt (pc := 38) 65 dX11_ask_38 (by decide) (fun hc => ?_) (fun hc => ?_)
          · have h := h.1 hc
            refine jd_aload_n (pc := 65) 0 dX11_ask_65 rfl rfl ?_
            refine jd_bipush (pc := 66) (v := (-2)) dX11_ask_66 (by decide) ?_
            refine jd_callVi (pc := 68) (M2 := mX11_refuse) (id := 0) (ci := 10) (T := TX11) (N := 9) (av := [.int (-2)]) kX11_refuse sX11_refuse rfl hX.1 lX11_58 rfl rfl (Nat.le_of_ble_eq_true rfl) dX11_ask_68 h ?_
            intro v16 I15 J15 h
            exact jd_iretK (pc := 71) rfl rfl dX11_ask_71 h
          · have h := h.2 hc
            refine jd_iload_n (pc := 41) 2 dX11_ask_41 rfl rfl ?_
            refine jd_bipush (pc := 42) (v := 99) dX11_ask_42 (by decide) ?_
            refine jd_icmp_gt (pc := 44) 65 dX11_ask_44 (by decide) (fun hc => ?_) (fun hc => ?_)
            · have h := h.1 hc
              refine jd_aload_n (pc := 65) 0 dX11_ask_65 rfl rfl ?_
              refine jd_bipush (pc := 66) (v := (-2)) dX11_ask_66 (by decide) ?_
              refine jd_callVi (pc := 68) (M2 := mX11_refuse) (id := 0) (ci := 10) (T := TX11) (N := 9) (av := [.int (-2)]) kX11_refuse sX11_refuse rfl hX.1 lX11_58 rfl rfl (Nat.le_of_ble_eq_true rfl) dX11_ask_68 h ?_
              intro v18 I17 J17 h
              exact jd_iretK (pc := 71) rfl rfl dX11_ask_71 h
            · have h := h.2 hc
              refine jd_aload_n (pc := 47) 0 dX11_ask_47 rfl rfl ?_
              refine jd_getR (pc := 48) (ci := 10) (k := 0) (r := 1) gX11_10 hX.1 rfl (zX_p0 hX) dX11_ask_48 ?_
              refine jd_getI (pc := 51) (ci := 8) (k := 5) gX11_175 (zX_o0 hX).1 rfl dX11_ask_51 ?_
              refine jd_istore_n (pc := 54) [(3, .int (I 1 5)), (0, .ref (gb G + 0)), (1, .int x1), (2, .int x2)] dX11_ask_54 rfl (by decide) rfl ?_
              refine jd_aload_n (pc := 55) 1 dX11_ask_55 rfl rfl ?_
              refine jd_getR (pc := 56) (ci := 10) (k := 0) (r := 1) gX11_10 hX.1 rfl (zX_p0 hX) dX11_ask_56 ?_
              refine jd_iload_n (pc := 59) 3 dX11_ask_59 rfl rfl ?_
              refine jd_putI (pc := 60) (ci := 8) (k := 5) pX11_175 (zX_o0 hX).1 rfl rfl rfl dX11_ask_60 ?_
              refine jd_iload_n (pc := 63) 0 dX11_ask_63 rfl rfl ?_
              exact jd_iretK (pc := 64) rfl rfl dX11_ask_64 h
      · have h := h.2 hc
        refine jd_aload_n (pc := 14) 0 dX11_ask_14 rfl rfl ?_
        refine jd_getR (pc := 15) (ci := 10) (k := 0) (r := 1) gX11_10 hX.1 rfl (zX_p0 hX) dX11_ask_15 ?_
        refine jd_getI (pc := 18) (ci := 8) (k := 4) gX11_172 (zX_o0 hX).1 rfl dX11_ask_18 ?_
        refine jd_istore_n (pc := 21) [(3, .int (I 1 4)), (0, .ref (gb G + 0)), (1, .int x1), (2, .int x2)] dX11_ask_21 rfl (by decide) rfl ?_
        refine jd_aload_n (pc := 22) 1 dX11_ask_22 rfl rfl ?_
        refine jd_getR (pc := 23) (ci := 10) (k := 0) (r := 1) gX11_10 hX.1 rfl (zX_p0 hX) dX11_ask_23 ?_
        refine jd_iload_n (pc := 26) 3 dX11_ask_26 rfl rfl ?_
        refine jd_putI (pc := 27) (ci := 8) (k := 4) pX11_172 (zX_o0 hX).1 rfl rfl rfl dX11_ask_27 ?_
        refine jd_iload_n (pc := 30) 0 dX11_ask_30 rfl rfl ?_
        exact jd_iretK (pc := 31) rfl rfl dX11_ask_31 h
theorem eX11_ask {G : jdG} {n : Nat} {Z : jdL} {I : jdI} {J : jdJ} {K : Int32 → jdI → jdJ → Prop} {x1 : Int32} {x2 : Int32} (hX : zX Z) (h : ((¬ x1 = 0 → ((¬ x1 = 1 → Cl G mX11_refuse n 0 0 [.ref (gb G + 0), .int (-2)] Z I J (qi Z (fun v2 I1 J1 => K v2 I1 J1))) ∧ (x1 = 1 → ((x2 < 0 → Cl G mX11_refuse n 0 0 [.ref (gb G + 0), .int (-2)] Z I J (qi Z (fun v4 I3 J3 => K v4 I3 J3))) ∧ (¬ x2 < 0 → ((99 < x2 → Cl G mX11_refuse n 0 0 [.ref (gb G + 0), .int (-2)] Z I J (qi Z (fun v6 I5 J5 => K v6 I5 J5))) ∧ (¬ 99 < x2 → K (I 1 5) (uI I 1 5 x2) J))))))) ∧ (x1 = 0 → ((x2 < 2 → ((¬ x1 = 1 → Cl G mX11_refuse n 0 0 [.ref (gb G + 0), .int (-2)] Z I J (qi Z (fun v8 I7 J7 => K v8 I7 J7))) ∧ (x1 = 1 → ((x2 < 0 → Cl G mX11_refuse n 0 0 [.ref (gb G + 0), .int (-2)] Z I J (qi Z (fun v10 I9 J9 => K v10 I9 J9))) ∧ (¬ x2 < 0 → ((99 < x2 → Cl G mX11_refuse n 0 0 [.ref (gb G + 0), .int (-2)] Z I J (qi Z (fun v12 I11 J11 => K v12 I11 J11))) ∧ (¬ 99 < x2 → K (I 1 5) (uI I 1 5 x2) J))))))) ∧ (¬ x2 < 2 → ((4 < x2 → ((¬ x1 = 1 → Cl G mX11_refuse n 0 0 [.ref (gb G + 0), .int (-2)] Z I J (qi Z (fun v14 I13 J13 => K v14 I13 J13))) ∧ (x1 = 1 → ((x2 < 0 → Cl G mX11_refuse n 0 0 [.ref (gb G + 0), .int (-2)] Z I J (qi Z (fun v16 I15 J15 => K v16 I15 J15))) ∧ (¬ x2 < 0 → ((99 < x2 → Cl G mX11_refuse n 0 0 [.ref (gb G + 0), .int (-2)] Z I J (qi Z (fun v18 I17 J17 => K v18 I17 J17))) ∧ (¬ 99 < x2 → K (I 1 5) (uI I 1 5 x2) J))))))) ∧ (¬ 4 < x2 → K (I 1 4) (uI I 1 4 x2) J))))))) : Cl G mX11_ask (n + 1) 0 0 [.ref (gb G + 0), .int x1, .int x2] Z I J (qi Z K) :=
  Cl.of (by decide +kernel) (Nat.le_of_ble_eq_true rfl) (rX11_ask_0 hX h)
set_option maxRecDepth 4000 in
theorem rX11_feed_0 {G : jdG} {n rc rs : Nat} {Z : jdL} {I : jdI} {J : jdJ} {K : Int32 → jdI → jdJ → Prop} {x1 : Int32} (hX : zX Z) (h : ((x1 < 0 → Cl G mX11_refuse n 0 0 [.ref (gb G + 0), .int (-2)] Z I J (qi Z (fun v2 I1 J1 => K v2 I1 J1))) ∧ (¬ x1 < 0 → ((x1 ≤ 255 → Cl G mX5_isFull n 0 0 [.ref (gb G + 25)] Z I J (qi Z (fun v4 I3 J3 => ((v4 = 0 → Cl G mX5_append n 0 0 [.ref (gb G + 25), .int x1] Z I3 J3 (qv Z (fun I5 J5 => K (I5 25 1) I5 J5))) ∧ (¬ v4 = 0 → Cl G mX11_refuse n 0 0 [.ref (gb G + 0), .int (-6)] Z I3 J3 (qi Z (fun v8 I7 J7 => K v8 I7 J7))))))) ∧ (¬ x1 ≤ 255 → Cl G mX11_refuse n 0 0 [.ref (gb G + 0), .int (-2)] Z I J (qi Z (fun v10 I9 J9 => K v10 I9 J9))))))) : Jd G mX11_feed (jdFm G (qi Z K)) (n + 1) rc rs 0 [(0, .ref (gb G + 0)), (1, .int x1)] [] Z I J := by
  refine jd_iload_n (pc := 0) 1 dX11_feed_0 rfl rfl ?_
  refine jd_if_lt (pc := 1) 11 dX11_feed_1 (by decide) (fun hc => ?_) (fun hc => ?_)
  · have h := h.1 hc
    refine jd_aload_n (pc := 11) 0 dX11_feed_11 rfl rfl ?_
    refine jd_bipush (pc := 12) (v := (-2)) dX11_feed_12 (by decide) ?_
    refine jd_callVi (pc := 14) (M2 := mX11_refuse) (id := 0) (ci := 10) (T := TX11) (N := 9) (av := [.int (-2)]) kX11_refuse sX11_refuse rfl hX.1 lX11_58 rfl rfl (Nat.le_of_ble_eq_true rfl) dX11_feed_14 h ?_
    intro v2 I1 J1 h
    exact jd_iretK (pc := 17) rfl rfl dX11_feed_17 h
  · have h := h.2 hc
    refine jd_iload_n (pc := 4) 1 dX11_feed_4 rfl rfl ?_
    refine jd_sipush (pc := 5) (v := 255) dX11_feed_5 (by decide) ?_
    refine jd_icmp_le (pc := 8) 18 dX11_feed_8 (by decide) (fun hc => ?_) (fun hc => ?_)
    · have h := h.1 hc
      refine jd_aload_n (pc := 18) 0 dX11_feed_18 rfl rfl ?_
      refine jd_getR (pc := 19) (ci := 10) (k := 5) (r := 25) gX11_39 hX.1 rfl (zX_p5 hX) dX11_feed_19 ?_
      refine jd_callVi (pc := 22) (M2 := mX5_isFull) (id := 25) (ci := 4) (T := TX5) (N := 6) (av := []) kX5_isFull sX5_isFull rfl (zX_o5 hX).1 lX11_178 rfl rfl (Nat.le_of_ble_eq_true rfl) dX11_feed_22 h ?_
      intro v4 I3 J3 h
      refine jd_if_eq (pc := 25) 35 dX11_feed_25 (by decide) (fun hc => ?_) (fun hc => ?_)
      · have h := h.1 hc
        refine jd_aload_n (pc := 35) 0 dX11_feed_35 rfl rfl ?_
        refine jd_getR (pc := 36) (ci := 10) (k := 5) (r := 25) gX11_39 hX.1 rfl (zX_p5 hX) dX11_feed_36 ?_
        refine jd_iload_n (pc := 39) 1 dX11_feed_39 rfl rfl ?_
        refine jd_callVv (pc := 40) (M2 := mX5_append) (id := 25) (ci := 4) (T := TX5) (N := 6) (av := [.int x1]) kX5_append sX5_append rfl (zX_o5 hX).1 lX11_181 rfl rfl (Nat.le_of_ble_eq_true rfl) dX11_feed_40 h ?_
        intro I5 J5 h
        refine jd_aload_n (pc := 43) 0 dX11_feed_43 rfl rfl ?_
        refine jd_getR (pc := 44) (ci := 10) (k := 5) (r := 25) gX11_39 hX.1 rfl (zX_p5 hX) dX11_feed_44 ?_
        refine jd_getI (pc := 47) (ci := 4) (k := 1) gX11_185 (zX_o5 hX).1 rfl dX11_feed_47 ?_
        exact jd_iretK (pc := 50) rfl rfl dX11_feed_50 h
      · have h := h.2 hc
        refine jd_aload_n (pc := 28) 0 dX11_feed_28 rfl rfl ?_
        refine jd_bipush (pc := 29) (v := (-6)) dX11_feed_29 (by decide) ?_
        refine jd_callVi (pc := 31) (M2 := mX11_refuse) (id := 0) (ci := 10) (T := TX11) (N := 9) (av := [.int (-6)]) kX11_refuse sX11_refuse rfl hX.1 lX11_58 rfl rfl (Nat.le_of_ble_eq_true rfl) dX11_feed_31 h ?_
        intro v8 I7 J7 h
        exact jd_iretK (pc := 34) rfl rfl dX11_feed_34 h
    · have h := h.2 hc
      refine jd_aload_n (pc := 11) 0 dX11_feed_11 rfl rfl ?_
      refine jd_bipush (pc := 12) (v := (-2)) dX11_feed_12 (by decide) ?_
      refine jd_callVi (pc := 14) (M2 := mX11_refuse) (id := 0) (ci := 10) (T := TX11) (N := 9) (av := [.int (-2)]) kX11_refuse sX11_refuse rfl hX.1 lX11_58 rfl rfl (Nat.le_of_ble_eq_true rfl) dX11_feed_14 h ?_
      intro v10 I9 J9 h
      exact jd_iretK (pc := 17) rfl rfl dX11_feed_17 h
theorem eX11_feed {G : jdG} {n : Nat} {Z : jdL} {I : jdI} {J : jdJ} {K : Int32 → jdI → jdJ → Prop} {x1 : Int32} (hX : zX Z) (h : ((x1 < 0 → Cl G mX11_refuse n 0 0 [.ref (gb G + 0), .int (-2)] Z I J (qi Z (fun v2 I1 J1 => K v2 I1 J1))) ∧ (¬ x1 < 0 → ((x1 ≤ 255 → Cl G mX5_isFull n 0 0 [.ref (gb G + 25)] Z I J (qi Z (fun v4 I3 J3 => ((v4 = 0 → Cl G mX5_append n 0 0 [.ref (gb G + 25), .int x1] Z I3 J3 (qv Z (fun I5 J5 => K (I5 25 1) I5 J5))) ∧ (¬ v4 = 0 → Cl G mX11_refuse n 0 0 [.ref (gb G + 0), .int (-6)] Z I3 J3 (qi Z (fun v8 I7 J7 => K v8 I7 J7))))))) ∧ (¬ x1 ≤ 255 → Cl G mX11_refuse n 0 0 [.ref (gb G + 0), .int (-2)] Z I J (qi Z (fun v10 I9 J9 => K v10 I9 J9))))))) : Cl G mX11_feed (n + 1) 0 0 [.ref (gb G + 0), .int x1] Z I J (qi Z K) :=
  Cl.of (by decide +kernel) (Nat.le_of_ble_eq_true rfl) (rX11_feed_0 hX h)
set_option maxRecDepth 4000 in
theorem rX11_wipe_0 {G : jdG} {n rc rs : Nat} {Z : jdL} {I : jdI} {J : jdJ} {K : Int32 → jdI → jdJ → Prop}  (hX : zX Z) (h : Cl G mX5_clear n 0 0 [.ref (gb G + 25)] Z I J (qv Z (fun I1 J1 => K (I 25 1) I1 J1))) : Jd G mX11_wipe (jdFm G (qi Z K)) (n + 1) rc rs 0 [(0, .ref (gb G + 0))] [] Z I J := by
  refine jd_aload_n (pc := 0) 0 dX11_wipe_0 rfl rfl ?_
  refine jd_getR (pc := 1) (ci := 10) (k := 5) (r := 25) gX11_39 hX.1 rfl (zX_p5 hX) dX11_wipe_1 ?_
  refine jd_getI (pc := 4) (ci := 4) (k := 1) gX11_185 (zX_o5 hX).1 rfl dX11_wipe_4 ?_
  refine jd_istore_n (pc := 7) [(1, .int (I 25 1)), (0, .ref (gb G + 0))] dX11_wipe_7 rfl (by decide) rfl ?_
  refine jd_aload_n (pc := 8) 1 dX11_wipe_8 rfl rfl ?_
  refine jd_getR (pc := 9) (ci := 10) (k := 5) (r := 25) gX11_39 hX.1 rfl (zX_p5 hX) dX11_wipe_9 ?_
  refine jd_callVv (pc := 12) (M2 := mX5_clear) (id := 25) (ci := 4) (T := TX5) (N := 6) (av := []) kX5_clear sX5_clear rfl (zX_o5 hX).1 lX11_186 rfl rfl (Nat.le_of_ble_eq_true rfl) dX11_wipe_12 h ?_
  intro I1 J1 h
  refine jd_iload_n (pc := 15) 0 dX11_wipe_15 rfl rfl ?_
  exact jd_iretK (pc := 16) rfl rfl dX11_wipe_16 h
theorem eX11_wipe {G : jdG} {n : Nat} {Z : jdL} {I : jdI} {J : jdJ} {K : Int32 → jdI → jdJ → Prop}  (hX : zX Z) (h : Cl G mX5_clear n 0 0 [.ref (gb G + 25)] Z I J (qv Z (fun I1 J1 => K (I 25 1) I1 J1))) : Cl G mX11_wipe (n + 1) 0 0 [.ref (gb G + 0)] Z I J (qi Z K) :=
  Cl.of (by decide +kernel) (Nat.le_of_ble_eq_true rfl) (rX11_wipe_0 hX h)
set_option maxRecDepth 4000 in
theorem rX11_town_0 {G : jdG} {n rc rs : Nat} {Z : jdL} {I : jdI} {J : jdJ} {K : Int32 → jdI → jdJ → Prop}  (hX : zX Z) (h : Cl G mX9_become n 0 0 [.ref (gb G + 9), .ref (gb G + 1)] Z I J (qv Z (fun I1 J1 => Cl G mX5_read n 0 0 [.ref (gb G + 25), .ref (gb G + 9)] Z I1 J1 (qi Z (fun v4 I3 J3 => Cl G mX5_clear n 0 0 [.ref (gb G + 25)] Z I3 J3 (qv Z (fun I5 J5 => ((¬ v4 = (-1) → Cl G mX9_become n 0 0 [.ref (gb G + 1), .ref (gb G + 9)] Z I5 J5 (qv Z (fun I7 J7 => K v4 I7 J7))) ∧ (v4 = (-1) → Cl G mX11_refuse n 0 0 [.ref (gb G + 0), .int (-2)] Z I5 J5 (qi Z (fun v10 I9 J9 => K ((-20) - (I9 25 5)) I9 J9))))))))))) : Jd G mX11_town (jdFm G (qi Z K)) (n + 1) rc rs 0 [(0, .ref (gb G + 0))] [] Z I J := by
  refine jd_aload_n (pc := 0) 0 dX11_town_0 rfl rfl ?_
  refine jd_getR (pc := 1) (ci := 10) (k := 2) (r := 9) gX11_19 hX.1 rfl (zX_p2 hX) dX11_town_1 ?_
  refine jd_aload_n (pc := 4) 0 dX11_town_4 rfl rfl ?_
  refine jd_getR (pc := 5) (ci := 10) (k := 0) (r := 1) gX11_10 hX.1 rfl (zX_p0 hX) dX11_town_5 ?_
  refine jd_callVv (pc := 8) (M2 := mX9_become) (id := 9) (ci := 8) (T := TX9) (N := 10) (av := [.ref (gb G + 1)]) kX9_become sX9_become rfl (zX_o2 hX).1 lX11_189 rfl rfl (Nat.le_of_ble_eq_true rfl) dX11_town_8 h ?_
  intro I1 J1 h
  refine jd_aload_n (pc := 11) 0 dX11_town_11 rfl rfl ?_
  refine jd_getR (pc := 12) (ci := 10) (k := 5) (r := 25) gX11_39 hX.1 rfl (zX_p5 hX) dX11_town_12 ?_
  refine jd_aload_n (pc := 15) 0 dX11_town_15 rfl rfl ?_
  refine jd_getR (pc := 16) (ci := 10) (k := 2) (r := 9) gX11_19 hX.1 rfl (zX_p2 hX) dX11_town_16 ?_
  refine jd_callVi (pc := 19) (M2 := mX5_read) (id := 25) (ci := 4) (T := TX5) (N := 6) (av := [.ref (gb G + 9)]) kX5_read sX5_read rfl (zX_o5 hX).1 lX11_192 rfl rfl (Nat.le_of_ble_eq_true rfl) dX11_town_19 h ?_
  intro v4 I3 J3 h
  refine jd_istore_n (pc := 22) [(1, .int v4), (0, .ref (gb G + 0))] dX11_town_22 rfl (by decide) rfl ?_
  refine jd_aload_n (pc := 23) 1 dX11_town_23 rfl rfl ?_
  refine jd_getR (pc := 24) (ci := 10) (k := 5) (r := 25) gX11_39 hX.1 rfl (zX_p5 hX) dX11_town_24 ?_
  refine jd_callVv (pc := 27) (M2 := mX5_clear) (id := 25) (ci := 4) (T := TX5) (N := 6) (av := []) kX5_clear sX5_clear rfl (zX_o5 hX).1 lX11_186 rfl rfl (Nat.le_of_ble_eq_true rfl) dX11_town_27 h ?_
  intro I5 J5 h
  refine jd_iload_n (pc := 30) 0 dX11_town_30 rfl rfl ?_
  refine jd_iconst (pc := 31) (v := (-1)) dX11_town_31 (by decide) ?_
  refine jd_icmp_ne (pc := 32) 53 dX11_town_32 (by decide) (fun hc => ?_) (fun hc => ?_)
  · have h := h.1 hc
    refine jd_aload_n (pc := 53) 1 dX11_town_53 rfl rfl ?_
    refine jd_getR (pc := 54) (ci := 10) (k := 0) (r := 1) gX11_10 hX.1 rfl (zX_p0 hX) dX11_town_54 ?_
    refine jd_aload_n (pc := 57) 1 dX11_town_57 rfl rfl ?_
    refine jd_getR (pc := 58) (ci := 10) (k := 2) (r := 9) gX11_19 hX.1 rfl (zX_p2 hX) dX11_town_58 ?_
    refine jd_callVv (pc := 61) (M2 := mX9_become) (id := 1) (ci := 8) (T := TX9) (N := 10) (av := [.ref (gb G + 9)]) kX9_become sX9_become rfl (zX_o0 hX).1 lX11_189 rfl rfl (Nat.le_of_ble_eq_true rfl) dX11_town_61 h ?_
    intro I7 J7 h
    refine jd_iload_n (pc := 64) 0 dX11_town_64 rfl rfl ?_
    exact jd_iretK (pc := 65) rfl rfl dX11_town_65 h
  · have h := h.2 hc
    refine jd_aload_n (pc := 35) 1 dX11_town_35 rfl rfl ?_
    refine jd_bipush (pc := 36) (v := (-2)) dX11_town_36 (by decide) ?_
    refine jd_callVi (pc := 38) (M2 := mX11_refuse) (id := 0) (ci := 10) (T := TX11) (N := 9) (av := [.int (-2)]) kX11_refuse sX11_refuse rfl hX.1 lX11_58 rfl rfl (Nat.le_of_ble_eq_true rfl) dX11_town_38 h ?_
    intro v10 I9 J9 h
    refine jd_pop (pc := 41) dX11_town_41 rfl ?_
    refine jd_bipush (pc := 42) (v := (-20)) dX11_town_42 (by decide) ?_
    refine jd_aload_n (pc := 44) 1 dX11_town_44 rfl rfl ?_
    refine jd_getR (pc := 45) (ci := 10) (k := 5) (r := 25) gX11_39 hX.1 rfl (zX_p5 hX) dX11_town_45 ?_
    refine jd_getI (pc := 48) (ci := 4) (k := 5) gX11_196 (zX_o5 hX).1 rfl dX11_town_48 ?_
    refine jd_isub (pc := 51) dX11_town_51 ?_
    exact jd_iretK (pc := 52) rfl rfl dX11_town_52 h
theorem eX11_town {G : jdG} {n : Nat} {Z : jdL} {I : jdI} {J : jdJ} {K : Int32 → jdI → jdJ → Prop}  (hX : zX Z) (h : Cl G mX9_become n 0 0 [.ref (gb G + 9), .ref (gb G + 1)] Z I J (qv Z (fun I1 J1 => Cl G mX5_read n 0 0 [.ref (gb G + 25), .ref (gb G + 9)] Z I1 J1 (qi Z (fun v4 I3 J3 => Cl G mX5_clear n 0 0 [.ref (gb G + 25)] Z I3 J3 (qv Z (fun I5 J5 => ((¬ v4 = (-1) → Cl G mX9_become n 0 0 [.ref (gb G + 1), .ref (gb G + 9)] Z I5 J5 (qv Z (fun I7 J7 => K v4 I7 J7))) ∧ (v4 = (-1) → Cl G mX11_refuse n 0 0 [.ref (gb G + 0), .int (-2)] Z I5 J5 (qi Z (fun v10 I9 J9 => K ((-20) - (I9 25 5)) I9 J9))))))))))) : Cl G mX11_town (n + 1) 0 0 [.ref (gb G + 0)] Z I J (qi Z K) :=
  Cl.of (by decide +kernel) (Nat.le_of_ble_eq_true rfl) (rX11_town_0 hX h)
set_option maxRecDepth 4000 in
theorem rX11_personOf_0 {G : jdG} {n rc rs : Nat} {Z : jdL} {I : jdI} {J : jdJ} {K : Int32 → jdI → jdJ → Prop} {x1 : Int32} {x2 : Int32} (hX : zX Z) (h : Cl G mX9_has n 0 0 [.ref (gb G + 1), .int x1] Z I J (qi Z (fun v2 I1 J1 => ((¬ v2 = 0 → (((x2 : Int32).toInt < 0 ∨ 3 < (x2 : Int32).toInt → Cl G mX11_refuse n 0 0 [.ref (gb G + 0), .int (-2)] Z I1 J1 (qi Z (fun v4 I3 J3 => K v4 I3 J3))) ∧ ((x2 : Int32).toInt = 0 → (vp_in x1 7 ∧ K (I1 (1 + 1) (Int32.toNatClampNeg x1)) I1 J1)) ∧ ((x2 : Int32).toInt = 1 → (vp_in x1 7 ∧ K (I1 (1 + 2) (Int32.toNatClampNeg x1)) I1 J1)) ∧ ((x2 : Int32).toInt = 2 → Cl G mX9_strangersTo n 0 0 [.ref (gb G + 1), .int x1] Z I1 J1 (qi Z (fun v8 I7 J7 => K v8 I7 J7))) ∧ ((x2 : Int32).toInt = 3 → Cl G mX9_strangersTo n 0 0 [.ref (gb G + 1), .int x1] Z I1 J1 (qi Z (fun v10 I9 J9 => Cl G mJ6_bitCount_0f7a4 n 0 0 [.int v10] Z I9 J9 (qi Z (fun v12 I11 J11 => K v12 I11 J11))))))) ∧ (v2 = 0 → Cl G mX11_refuse n 0 0 [.ref (gb G + 0), .int (-2)] Z I1 J1 (qi Z (fun v14 I13 J13 => K v14 I13 J13))))))) : Jd G mX11_personOf (jdFm G (qi Z K)) (n + 1) rc rs 0 [(0, .ref (gb G + 0)), (1, .int x1), (2, .int x2)] [] Z I J := by
  refine jd_aload_n (pc := 0) 0 dX11_personOf_0 rfl rfl ?_
  refine jd_getR (pc := 1) (ci := 10) (k := 0) (r := 1) gX11_10 hX.1 rfl (zX_p0 hX) dX11_personOf_1 ?_
  refine jd_iload_n (pc := 4) 1 dX11_personOf_4 rfl rfl ?_
  refine jd_callVi (pc := 5) (M2 := mX9_has) (id := 1) (ci := 8) (T := TX9) (N := 10) (av := [.int x1]) kX9_has sX9_has rfl (zX_o0 hX).1 lX11_152 rfl rfl (Nat.le_of_ble_eq_true rfl) dX11_personOf_5 h ?_
  intro v2 I1 J1 h
  refine jd_if_ne (pc := 8) 18 dX11_personOf_8 (by decide) (fun hc => ?_) (fun hc => ?_)
  · have h := h.1 hc
    refine jd_iload_n (pc := 18) 2 dX11_personOf_18 rfl rfl ?_
    by_cases hs : (x2 : Int32).toInt < 0 ∨ 3 < (x2 : Int32).toInt
    · have h := h.1 hs
      refine jd_tableOut (pc := 19) 89 dX11_personOf_19 hs (by decide) ?_
      refine jd_aload_n (pc := 89) 0 dX11_personOf_89 rfl rfl ?_
      refine jd_bipush (pc := 90) (v := (-2)) dX11_personOf_90 (by decide) ?_
      refine jd_callVi (pc := 92) (M2 := mX11_refuse) (id := 0) (ci := 10) (T := TX11) (N := 9) (av := [.int (-2)]) kX11_refuse sX11_refuse rfl hX.1 lX11_58 rfl rfl (Nat.le_of_ble_eq_true rfl) dX11_personOf_92 h ?_
      intro v4 I3 J3 h
      exact jd_iretK (pc := 95) rfl rfl dX11_personOf_95 h
    · have h := h.2
      have hs2 : (x2 : Int32).toInt = 0 ∨ (x2 : Int32).toInt = 1 ∨ (x2 : Int32).toInt = 2 ∨ (x2 : Int32).toInt = 3 := by omega
      rcases hs2 with hq | hq | hq | hq
      · have h := h.1 hq
        refine jd_tableIn (pc := 19) 48 dX11_personOf_19 (by omega) (by omega) (by rw [hq]; rfl) (by decide) ?_
        refine jd_aload_n (pc := 48) 0 dX11_personOf_48 rfl rfl ?_
        refine jd_getR (pc := 49) (ci := 10) (k := 0) (r := 1) gX11_10 hX.1 rfl (zX_p0 hX) dX11_personOf_49 ?_
        refine jd_getR (pc := 52) (ci := 8) (k := 0) (r := (1 + 1)) gX11_155 (zX_o0 hX).1 rfl (zTown_p0 (zX_o0 hX)) dX11_personOf_52 ?_
        refine jd_iload_n (pc := 55) 1 dX11_personOf_55 rfl rfl ?_
        obtain ⟨hv5, h⟩ := h
        refine jd_iald (pc := 56) (len := 7) (zTown_a0 (zX_o0 hX)) hv5 dX11_personOf_56 ?_
        exact jd_iretK (pc := 57) rfl rfl dX11_personOf_57 h
      · have h := h.2.1 hq
        refine jd_tableIn (pc := 19) 58 dX11_personOf_19 (by omega) (by omega) (by rw [hq]; rfl) (by decide) ?_
        refine jd_aload_n (pc := 58) 0 dX11_personOf_58 rfl rfl ?_
        refine jd_getR (pc := 59) (ci := 10) (k := 0) (r := 1) gX11_10 hX.1 rfl (zX_p0 hX) dX11_personOf_59 ?_
        refine jd_getR (pc := 62) (ci := 8) (k := 1) (r := (1 + 2)) gX11_158 (zX_o0 hX).1 rfl (zTown_p1 (zX_o0 hX)) dX11_personOf_62 ?_
        refine jd_iload_n (pc := 65) 1 dX11_personOf_65 rfl rfl ?_
        obtain ⟨hv6, h⟩ := h
        refine jd_iald (pc := 66) (len := 7) (zTown_a1 (zX_o0 hX)) hv6 dX11_personOf_66 ?_
        exact jd_iretK (pc := 67) rfl rfl dX11_personOf_67 h
      · have h := h.2.2.1 hq
        refine jd_tableIn (pc := 19) 68 dX11_personOf_19 (by omega) (by omega) (by rw [hq]; rfl) (by decide) ?_
        refine jd_aload_n (pc := 68) 0 dX11_personOf_68 rfl rfl ?_
        refine jd_getR (pc := 69) (ci := 10) (k := 0) (r := 1) gX11_10 hX.1 rfl (zX_p0 hX) dX11_personOf_69 ?_
        refine jd_iload_n (pc := 72) 1 dX11_personOf_72 rfl rfl ?_
        refine jd_callVi (pc := 73) (M2 := mX9_strangersTo) (id := 1) (ci := 8) (T := TX9) (N := 10) (av := [.int x1]) kX9_strangersTo sX9_strangersTo rfl (zX_o0 hX).1 lX11_199 rfl rfl (Nat.le_of_ble_eq_true rfl) dX11_personOf_73 h ?_
        intro v8 I7 J7 h
        exact jd_iretK (pc := 76) rfl rfl dX11_personOf_76 h
      · have h := h.2.2.2 hq
        refine jd_tableIn (pc := 19) 77 dX11_personOf_19 (by omega) (by omega) (by rw [hq]; rfl) (by decide) ?_
        refine jd_aload_n (pc := 77) 0 dX11_personOf_77 rfl rfl ?_
        refine jd_getR (pc := 78) (ci := 10) (k := 0) (r := 1) gX11_10 hX.1 rfl (zX_p0 hX) dX11_personOf_78 ?_
        refine jd_iload_n (pc := 81) 1 dX11_personOf_81 rfl rfl ?_
        refine jd_callVi (pc := 82) (M2 := mX9_strangersTo) (id := 1) (ci := 8) (T := TX9) (N := 10) (av := [.int x1]) kX9_strangersTo sX9_strangersTo rfl (zX_o0 hX).1 lX11_199 rfl rfl (Nat.le_of_ble_eq_true rfl) dX11_personOf_82 h ?_
        intro v10 I9 J9 h
        refine jd_callSi (pc := 85) (M2 := mJ6_bitCount_0f7a4) (av := [.int v10]) kJ6_bitCount_0f7a4 sJ6_bitCount_0f7a4 lX11_202 rfl rfl (Nat.le_of_ble_eq_true rfl) dX11_personOf_85 h ?_
        intro v12 I11 J11 h
        exact jd_iretK (pc := 88) rfl rfl dX11_personOf_88 h
  · have h := h.2 hc
    refine jd_aload_n (pc := 11) 0 dX11_personOf_11 rfl rfl ?_
    refine jd_bipush (pc := 12) (v := (-2)) dX11_personOf_12 (by decide) ?_
    refine jd_callVi (pc := 14) (M2 := mX11_refuse) (id := 0) (ci := 10) (T := TX11) (N := 9) (av := [.int (-2)]) kX11_refuse sX11_refuse rfl hX.1 lX11_58 rfl rfl (Nat.le_of_ble_eq_true rfl) dX11_personOf_14 h ?_
    intro v14 I13 J13 h
    exact jd_iretK (pc := 17) rfl rfl dX11_personOf_17 h
theorem eX11_personOf {G : jdG} {n : Nat} {Z : jdL} {I : jdI} {J : jdJ} {K : Int32 → jdI → jdJ → Prop} {x1 : Int32} {x2 : Int32} (hX : zX Z) (h : Cl G mX9_has n 0 0 [.ref (gb G + 1), .int x1] Z I J (qi Z (fun v2 I1 J1 => ((¬ v2 = 0 → (((x2 : Int32).toInt < 0 ∨ 3 < (x2 : Int32).toInt → Cl G mX11_refuse n 0 0 [.ref (gb G + 0), .int (-2)] Z I1 J1 (qi Z (fun v4 I3 J3 => K v4 I3 J3))) ∧ ((x2 : Int32).toInt = 0 → (vp_in x1 7 ∧ K (I1 (1 + 1) (Int32.toNatClampNeg x1)) I1 J1)) ∧ ((x2 : Int32).toInt = 1 → (vp_in x1 7 ∧ K (I1 (1 + 2) (Int32.toNatClampNeg x1)) I1 J1)) ∧ ((x2 : Int32).toInt = 2 → Cl G mX9_strangersTo n 0 0 [.ref (gb G + 1), .int x1] Z I1 J1 (qi Z (fun v8 I7 J7 => K v8 I7 J7))) ∧ ((x2 : Int32).toInt = 3 → Cl G mX9_strangersTo n 0 0 [.ref (gb G + 1), .int x1] Z I1 J1 (qi Z (fun v10 I9 J9 => Cl G mJ6_bitCount_0f7a4 n 0 0 [.int v10] Z I9 J9 (qi Z (fun v12 I11 J11 => K v12 I11 J11))))))) ∧ (v2 = 0 → Cl G mX11_refuse n 0 0 [.ref (gb G + 0), .int (-2)] Z I1 J1 (qi Z (fun v14 I13 J13 => K v14 I13 J13))))))) : Cl G mX11_personOf (n + 1) 0 0 [.ref (gb G + 0), .int x1, .int x2] Z I J (qi Z K) :=
  Cl.of (by decide +kernel) (Nat.le_of_ble_eq_true rfl) (rX11_personOf_0 hX h)
set_option maxRecDepth 4000 in
theorem rX11_knownOf_0 {G : jdG} {n rc rs : Nat} {Z : jdL} {I : jdI} {J : jdJ} {K : Int32 → jdI → jdJ → Prop} {x1 : Int32} {x2 : Int32} (hX : zX Z) (h : Cl G mX9_hasTwo n 0 0 [.ref (gb G + 1), .int x1, .int x2] Z I J (qi Z (fun v2 I1 J1 => ((v2 = 0 → Cl G mX11_refuse n 0 0 [.ref (gb G + 0), .int (-2)] Z I1 J1 (qi Z (fun v4 I3 J3 => K v4 I3 J3))) ∧ (¬ v2 = 0 → Cl G mX9_since n 0 0 [.ref (gb G + 1), .int x1, .int x2] Z I1 J1 (qi Z (fun v6 I5 J5 => K v6 I5 J5))))))) : Jd G mX11_knownOf (jdFm G (qi Z K)) (n + 1) rc rs 0 [(0, .ref (gb G + 0)), (1, .int x1), (2, .int x2)] [] Z I J := by
  refine jd_aload_n (pc := 0) 0 dX11_knownOf_0 rfl rfl ?_
  refine jd_getR (pc := 1) (ci := 10) (k := 0) (r := 1) gX11_10 hX.1 rfl (zX_p0 hX) dX11_knownOf_1 ?_
  refine jd_iload_n (pc := 4) 1 dX11_knownOf_4 rfl rfl ?_
  refine jd_iload_n (pc := 5) 2 dX11_knownOf_5 rfl rfl ?_
  refine jd_callVi (pc := 6) (M2 := mX9_hasTwo) (id := 1) (ci := 8) (T := TX9) (N := 10) (av := [.int x1, .int x2]) kX9_hasTwo sX9_hasTwo rfl (zX_o0 hX).1 lX11_161 rfl rfl (Nat.le_of_ble_eq_true rfl) dX11_knownOf_6 h ?_
  intro v2 I1 J1 h
  refine jd_if_eq (pc := 9) 24 dX11_knownOf_9 (by decide) (fun hc => ?_) (fun hc => ?_)
  · have h := h.1 hc
    refine jd_aload_n (pc := 24) 0 dX11_knownOf_24 rfl rfl ?_
    refine jd_bipush (pc := 25) (v := (-2)) dX11_knownOf_25 (by decide) ?_
    refine jd_callVi (pc := 27) (M2 := mX11_refuse) (id := 0) (ci := 10) (T := TX11) (N := 9) (av := [.int (-2)]) kX11_refuse sX11_refuse rfl hX.1 lX11_58 rfl rfl (Nat.le_of_ble_eq_true rfl) dX11_knownOf_27 h ?_
    intro v4 I3 J3 h
    exact jd_iretK (pc := 30) rfl rfl dX11_knownOf_30 h
  · have h := h.2 hc
    refine jd_aload_n (pc := 12) 0 dX11_knownOf_12 rfl rfl ?_
    refine jd_getR (pc := 13) (ci := 10) (k := 0) (r := 1) gX11_10 hX.1 rfl (zX_p0 hX) dX11_knownOf_13 ?_
    refine jd_iload_n (pc := 16) 1 dX11_knownOf_16 rfl rfl ?_
    refine jd_iload_n (pc := 17) 2 dX11_knownOf_17 rfl rfl ?_
    refine jd_callVi (pc := 18) (M2 := mX9_since) (id := 1) (ci := 8) (T := TX9) (N := 10) (av := [.int x1, .int x2]) kX9_since sX9_since rfl (zX_o0 hX).1 lX11_165 rfl rfl (Nat.le_of_ble_eq_true rfl) dX11_knownOf_18 h ?_
    intro v6 I5 J5 h
    refine jd_goto (pc := 21) 30 dX11_knownOf_21 (by decide) ?_
    exact jd_iretK (pc := 30) rfl rfl dX11_knownOf_30 h
theorem eX11_knownOf {G : jdG} {n : Nat} {Z : jdL} {I : jdI} {J : jdJ} {K : Int32 → jdI → jdJ → Prop} {x1 : Int32} {x2 : Int32} (hX : zX Z) (h : Cl G mX9_hasTwo n 0 0 [.ref (gb G + 1), .int x1, .int x2] Z I J (qi Z (fun v2 I1 J1 => ((v2 = 0 → Cl G mX11_refuse n 0 0 [.ref (gb G + 0), .int (-2)] Z I1 J1 (qi Z (fun v4 I3 J3 => K v4 I3 J3))) ∧ (¬ v2 = 0 → Cl G mX9_since n 0 0 [.ref (gb G + 1), .int x1, .int x2] Z I1 J1 (qi Z (fun v6 I5 J5 => K v6 I5 J5))))))) : Cl G mX11_knownOf (n + 1) 0 0 [.ref (gb G + 0), .int x1, .int x2] Z I J (qi Z K) :=
  Cl.of (by decide +kernel) (Nat.le_of_ble_eq_true rfl) (rX11_knownOf_0 hX h)
set_option maxRecDepth 4000 in
theorem rX11_isGroup_0 {G : jdG} {n rc rs : Nat} {Z : jdL} {I : jdI} {J : jdJ} {K : Int32 → jdI → jdJ → Prop} {x1 : Int32} (hX : zX Z) (h : Cl G mX9_hasAll n 0 0 [.ref (gb G + 1), .int x1] Z I J (qi Z (fun v2 I1 J1 => ((¬ v2 = 0 → Cl G mX8_load n 0 0 [.ref (gb G + 13), .ref (gb G + 1)] Z I1 J1 (qv Z (fun I3 J3 => Cl G mX8_isOne n 0 0 [.ref (gb G + 13), .int x1] Z I3 J3 (qi Z (fun v6 I5 J5 => ((v6 = 0 → K 0 I5 J5) ∧ (¬ v6 = 0 → K 1 I5 J5))))))) ∧ (v2 = 0 → Cl G mX11_refuse n 0 0 [.ref (gb G + 0), .int (-2)] Z I1 J1 (qi Z (fun v8 I7 J7 => K v8 I7 J7))))))) : Jd G mX11_isGroup (jdFm G (qi Z K)) (n + 1) rc rs 0 [(0, .ref (gb G + 0)), (1, .int x1)] [] Z I J := by
  refine jd_aload_n (pc := 0) 0 dX11_isGroup_0 rfl rfl ?_
  refine jd_getR (pc := 1) (ci := 10) (k := 0) (r := 1) gX11_10 hX.1 rfl (zX_p0 hX) dX11_isGroup_1 ?_
  refine jd_iload_n (pc := 4) 1 dX11_isGroup_4 rfl rfl ?_
  refine jd_callVi (pc := 5) (M2 := mX9_hasAll) (id := 1) (ci := 8) (T := TX9) (N := 10) (av := [.int x1]) kX9_hasAll sX9_hasAll rfl (zX_o0 hX).1 lX11_207 rfl rfl (Nat.le_of_ble_eq_true rfl) dX11_isGroup_5 h ?_
  intro v2 I1 J1 h
  refine jd_if_ne (pc := 8) 18 dX11_isGroup_8 (by decide) (fun hc => ?_) (fun hc => ?_)
  · have h := h.1 hc
    refine jd_aload_n (pc := 18) 0 dX11_isGroup_18 rfl rfl ?_
    refine jd_getR (pc := 19) (ci := 10) (k := 3) (r := 13) gX11_25 hX.1 rfl (zX_p3 hX) dX11_isGroup_19 ?_
    refine jd_aload_n (pc := 22) 0 dX11_isGroup_22 rfl rfl ?_
    refine jd_getR (pc := 23) (ci := 10) (k := 0) (r := 1) gX11_10 hX.1 rfl (zX_p0 hX) dX11_isGroup_23 ?_
    refine jd_callVv (pc := 26) (M2 := mX8_load) (id := 13) (ci := 7) (T := TX8) (N := 11) (av := [.ref (gb G + 1)]) kX8_load sX8_load rfl (zX_o3 hX).1 lX11_128 rfl rfl (Nat.le_of_ble_eq_true rfl) dX11_isGroup_26 h ?_
    intro I3 J3 h
    refine jd_aload_n (pc := 29) 0 dX11_isGroup_29 rfl rfl ?_
    refine jd_getR (pc := 30) (ci := 10) (k := 3) (r := 13) gX11_25 hX.1 rfl (zX_p3 hX) dX11_isGroup_30 ?_
    refine jd_iload_n (pc := 33) 1 dX11_isGroup_33 rfl rfl ?_
    refine jd_callVi (pc := 34) (M2 := mX8_isOne) (id := 13) (ci := 7) (T := TX8) (N := 11) (av := [.int x1]) kX8_isOne sX8_isOne rfl (zX_o3 hX).1 lX11_210 rfl rfl (Nat.le_of_ble_eq_true rfl) dX11_isGroup_34 h ?_
    intro v6 I5 J5 h
    refine jd_if_eq (pc := 37) 44 dX11_isGroup_37 (by decide) (fun hc => ?_) (fun hc => ?_)
    · have h := h.1 hc
      refine jd_iconst (pc := 44) (v := 0) dX11_isGroup_44 (by decide) ?_
      exact jd_iretK (pc := 45) rfl rfl dX11_isGroup_45 h
    · have h := h.2 hc
      refine jd_iconst (pc := 40) (v := 1) dX11_isGroup_40 (by decide) ?_
      refine jd_goto (pc := 41) 45 dX11_isGroup_41 (by decide) ?_
      exact jd_iretK (pc := 45) rfl rfl dX11_isGroup_45 h
  · have h := h.2 hc
    refine jd_aload_n (pc := 11) 0 dX11_isGroup_11 rfl rfl ?_
    refine jd_bipush (pc := 12) (v := (-2)) dX11_isGroup_12 (by decide) ?_
    refine jd_callVi (pc := 14) (M2 := mX11_refuse) (id := 0) (ci := 10) (T := TX11) (N := 9) (av := [.int (-2)]) kX11_refuse sX11_refuse rfl hX.1 lX11_58 rfl rfl (Nat.le_of_ble_eq_true rfl) dX11_isGroup_14 h ?_
    intro v8 I7 J7 h
    exact jd_iretK (pc := 17) rfl rfl dX11_isGroup_17 h
theorem eX11_isGroup {G : jdG} {n : Nat} {Z : jdL} {I : jdI} {J : jdJ} {K : Int32 → jdI → jdJ → Prop} {x1 : Int32} (hX : zX Z) (h : Cl G mX9_hasAll n 0 0 [.ref (gb G + 1), .int x1] Z I J (qi Z (fun v2 I1 J1 => ((¬ v2 = 0 → Cl G mX8_load n 0 0 [.ref (gb G + 13), .ref (gb G + 1)] Z I1 J1 (qv Z (fun I3 J3 => Cl G mX8_isOne n 0 0 [.ref (gb G + 13), .int x1] Z I3 J3 (qi Z (fun v6 I5 J5 => ((v6 = 0 → K 0 I5 J5) ∧ (¬ v6 = 0 → K 1 I5 J5))))))) ∧ (v2 = 0 → Cl G mX11_refuse n 0 0 [.ref (gb G + 0), .int (-2)] Z I1 J1 (qi Z (fun v8 I7 J7 => K v8 I7 J7))))))) : Cl G mX11_isGroup (n + 1) 0 0 [.ref (gb G + 0), .int x1] Z I J (qi Z K) :=
  Cl.of (by decide +kernel) (Nat.le_of_ble_eq_true rfl) (rX11_isGroup_0 hX h)
set_option maxRecDepth 4000 in
theorem rX11_groups_0 {G : jdG} {n rc rs : Nat} {Z : jdL} {I : jdI} {J : jdJ} {K : Int32 → jdI → jdJ → Prop} {x1 : Int32} (hX : zX Z) (h : Cl G mX9_hasAll n 0 0 [.ref (gb G + 1), .int x1] Z I J (qi Z (fun v2 I1 J1 => ((¬ v2 = 0 → Cl G mX8_load n 0 0 [.ref (gb G + 13), .ref (gb G + 1)] Z I1 J1 (qv Z (fun I3 J3 => Cl G mX8_countIn n 0 0 [.ref (gb G + 13), .int x1] Z I3 J3 (qi Z (fun v6 I5 J5 => K v6 I5 J5))))) ∧ (v2 = 0 → Cl G mX11_refuse n 0 0 [.ref (gb G + 0), .int (-2)] Z I1 J1 (qi Z (fun v8 I7 J7 => K v8 I7 J7))))))) : Jd G mX11_groups (jdFm G (qi Z K)) (n + 1) rc rs 0 [(0, .ref (gb G + 0)), (1, .int x1)] [] Z I J := by
  refine jd_aload_n (pc := 0) 0 dX11_groups_0 rfl rfl ?_
  refine jd_getR (pc := 1) (ci := 10) (k := 0) (r := 1) gX11_10 hX.1 rfl (zX_p0 hX) dX11_groups_1 ?_
  refine jd_iload_n (pc := 4) 1 dX11_groups_4 rfl rfl ?_
  refine jd_callVi (pc := 5) (M2 := mX9_hasAll) (id := 1) (ci := 8) (T := TX9) (N := 10) (av := [.int x1]) kX9_hasAll sX9_hasAll rfl (zX_o0 hX).1 lX11_207 rfl rfl (Nat.le_of_ble_eq_true rfl) dX11_groups_5 h ?_
  intro v2 I1 J1 h
  refine jd_if_ne (pc := 8) 18 dX11_groups_8 (by decide) (fun hc => ?_) (fun hc => ?_)
  · have h := h.1 hc
    refine jd_aload_n (pc := 18) 0 dX11_groups_18 rfl rfl ?_
    refine jd_getR (pc := 19) (ci := 10) (k := 3) (r := 13) gX11_25 hX.1 rfl (zX_p3 hX) dX11_groups_19 ?_
    refine jd_aload_n (pc := 22) 0 dX11_groups_22 rfl rfl ?_
    refine jd_getR (pc := 23) (ci := 10) (k := 0) (r := 1) gX11_10 hX.1 rfl (zX_p0 hX) dX11_groups_23 ?_
    refine jd_callVv (pc := 26) (M2 := mX8_load) (id := 13) (ci := 7) (T := TX8) (N := 11) (av := [.ref (gb G + 1)]) kX8_load sX8_load rfl (zX_o3 hX).1 lX11_128 rfl rfl (Nat.le_of_ble_eq_true rfl) dX11_groups_26 h ?_
    intro I3 J3 h
    refine jd_aload_n (pc := 29) 0 dX11_groups_29 rfl rfl ?_
    refine jd_getR (pc := 30) (ci := 10) (k := 3) (r := 13) gX11_25 hX.1 rfl (zX_p3 hX) dX11_groups_30 ?_
    refine jd_iload_n (pc := 33) 1 dX11_groups_33 rfl rfl ?_
    refine jd_callVi (pc := 34) (M2 := mX8_countIn) (id := 13) (ci := 7) (T := TX8) (N := 11) (av := [.int x1]) kX8_countIn sX8_countIn rfl (zX_o3 hX).1 lX11_213 rfl rfl (Nat.le_of_ble_eq_true rfl) dX11_groups_34 h ?_
    intro v6 I5 J5 h
    exact jd_iretK (pc := 37) rfl rfl dX11_groups_37 h
  · have h := h.2 hc
    refine jd_aload_n (pc := 11) 0 dX11_groups_11 rfl rfl ?_
    refine jd_bipush (pc := 12) (v := (-2)) dX11_groups_12 (by decide) ?_
    refine jd_callVi (pc := 14) (M2 := mX11_refuse) (id := 0) (ci := 10) (T := TX11) (N := 9) (av := [.int (-2)]) kX11_refuse sX11_refuse rfl hX.1 lX11_58 rfl rfl (Nat.le_of_ble_eq_true rfl) dX11_groups_14 h ?_
    intro v8 I7 J7 h
    exact jd_iretK (pc := 17) rfl rfl dX11_groups_17 h
theorem eX11_groups {G : jdG} {n : Nat} {Z : jdL} {I : jdI} {J : jdJ} {K : Int32 → jdI → jdJ → Prop} {x1 : Int32} (hX : zX Z) (h : Cl G mX9_hasAll n 0 0 [.ref (gb G + 1), .int x1] Z I J (qi Z (fun v2 I1 J1 => ((¬ v2 = 0 → Cl G mX8_load n 0 0 [.ref (gb G + 13), .ref (gb G + 1)] Z I1 J1 (qv Z (fun I3 J3 => Cl G mX8_countIn n 0 0 [.ref (gb G + 13), .int x1] Z I3 J3 (qi Z (fun v6 I5 J5 => K v6 I5 J5))))) ∧ (v2 = 0 → Cl G mX11_refuse n 0 0 [.ref (gb G + 0), .int (-2)] Z I1 J1 (qi Z (fun v8 I7 J7 => K v8 I7 J7))))))) : Cl G mX11_groups (n + 1) 0 0 [.ref (gb G + 0), .int x1] Z I J (qi Z K) :=
  Cl.of (by decide +kernel) (Nat.le_of_ble_eq_true rfl) (rX11_groups_0 hX h)
set_option maxRecDepth 4000 in
theorem rX11_firstOf_0 {G : jdG} {n rc rs : Nat} {Z : jdL} {I : jdI} {J : jdJ} {K : Int32 → jdI → jdJ → Prop} {x1 : Int32} (hX : zX Z) (h : Cl G mX9_hasAll n 0 0 [.ref (gb G + 1), .int x1] Z I J (qi Z (fun v2 I1 J1 => ((¬ v2 = 0 → Cl G mX8_load n 0 0 [.ref (gb G + 13), .ref (gb G + 1)] Z I1 J1 (qv Z (fun I3 J3 => Cl G mX8_firstIn n 0 0 [.ref (gb G + 13), .int x1] Z I3 J3 (qi Z (fun v6 I5 J5 => K v6 I5 J5))))) ∧ (v2 = 0 → Cl G mX11_refuse n 0 0 [.ref (gb G + 0), .int (-2)] Z I1 J1 (qi Z (fun v8 I7 J7 => K v8 I7 J7))))))) : Jd G mX11_firstOf (jdFm G (qi Z K)) (n + 1) rc rs 0 [(0, .ref (gb G + 0)), (1, .int x1)] [] Z I J := by
  refine jd_aload_n (pc := 0) 0 dX11_firstOf_0 rfl rfl ?_
  refine jd_getR (pc := 1) (ci := 10) (k := 0) (r := 1) gX11_10 hX.1 rfl (zX_p0 hX) dX11_firstOf_1 ?_
  refine jd_iload_n (pc := 4) 1 dX11_firstOf_4 rfl rfl ?_
  refine jd_callVi (pc := 5) (M2 := mX9_hasAll) (id := 1) (ci := 8) (T := TX9) (N := 10) (av := [.int x1]) kX9_hasAll sX9_hasAll rfl (zX_o0 hX).1 lX11_207 rfl rfl (Nat.le_of_ble_eq_true rfl) dX11_firstOf_5 h ?_
  intro v2 I1 J1 h
  refine jd_if_ne (pc := 8) 18 dX11_firstOf_8 (by decide) (fun hc => ?_) (fun hc => ?_)
  · have h := h.1 hc
    refine jd_aload_n (pc := 18) 0 dX11_firstOf_18 rfl rfl ?_
    refine jd_getR (pc := 19) (ci := 10) (k := 3) (r := 13) gX11_25 hX.1 rfl (zX_p3 hX) dX11_firstOf_19 ?_
    refine jd_aload_n (pc := 22) 0 dX11_firstOf_22 rfl rfl ?_
    refine jd_getR (pc := 23) (ci := 10) (k := 0) (r := 1) gX11_10 hX.1 rfl (zX_p0 hX) dX11_firstOf_23 ?_
    refine jd_callVv (pc := 26) (M2 := mX8_load) (id := 13) (ci := 7) (T := TX8) (N := 11) (av := [.ref (gb G + 1)]) kX8_load sX8_load rfl (zX_o3 hX).1 lX11_128 rfl rfl (Nat.le_of_ble_eq_true rfl) dX11_firstOf_26 h ?_
    intro I3 J3 h
    refine jd_aload_n (pc := 29) 0 dX11_firstOf_29 rfl rfl ?_
    refine jd_getR (pc := 30) (ci := 10) (k := 3) (r := 13) gX11_25 hX.1 rfl (zX_p3 hX) dX11_firstOf_30 ?_
    refine jd_iload_n (pc := 33) 1 dX11_firstOf_33 rfl rfl ?_
    refine jd_callVi (pc := 34) (M2 := mX8_firstIn) (id := 13) (ci := 7) (T := TX8) (N := 11) (av := [.int x1]) kX8_firstIn sX8_firstIn rfl (zX_o3 hX).1 lX11_216 rfl rfl (Nat.le_of_ble_eq_true rfl) dX11_firstOf_34 h ?_
    intro v6 I5 J5 h
    exact jd_iretK (pc := 37) rfl rfl dX11_firstOf_37 h
  · have h := h.2 hc
    refine jd_aload_n (pc := 11) 0 dX11_firstOf_11 rfl rfl ?_
    refine jd_bipush (pc := 12) (v := (-2)) dX11_firstOf_12 (by decide) ?_
    refine jd_callVi (pc := 14) (M2 := mX11_refuse) (id := 0) (ci := 10) (T := TX11) (N := 9) (av := [.int (-2)]) kX11_refuse sX11_refuse rfl hX.1 lX11_58 rfl rfl (Nat.le_of_ble_eq_true rfl) dX11_firstOf_14 h ?_
    intro v8 I7 J7 h
    exact jd_iretK (pc := 17) rfl rfl dX11_firstOf_17 h
theorem eX11_firstOf {G : jdG} {n : Nat} {Z : jdL} {I : jdI} {J : jdJ} {K : Int32 → jdI → jdJ → Prop} {x1 : Int32} (hX : zX Z) (h : Cl G mX9_hasAll n 0 0 [.ref (gb G + 1), .int x1] Z I J (qi Z (fun v2 I1 J1 => ((¬ v2 = 0 → Cl G mX8_load n 0 0 [.ref (gb G + 13), .ref (gb G + 1)] Z I1 J1 (qv Z (fun I3 J3 => Cl G mX8_firstIn n 0 0 [.ref (gb G + 13), .int x1] Z I3 J3 (qi Z (fun v6 I5 J5 => K v6 I5 J5))))) ∧ (v2 = 0 → Cl G mX11_refuse n 0 0 [.ref (gb G + 0), .int (-2)] Z I1 J1 (qi Z (fun v8 I7 J7 => K v8 I7 J7))))))) : Cl G mX11_firstOf (n + 1) 0 0 [.ref (gb G + 0), .int x1] Z I J (qi Z K) :=
  Cl.of (by decide +kernel) (Nat.le_of_ble_eq_true rfl) (rX11_firstOf_0 hX h)
set_option maxRecDepth 4000 in
theorem rX11_most_0 {G : jdG} {n rc rs : Nat} {Z : jdL} {I : jdI} {J : jdJ} {K : Int32 → jdI → jdJ → Prop} {x1 : Int32} (hX : zX Z) (h : Cl G mX9_hasAll n 0 0 [.ref (gb G + 1), .int x1] Z I J (qi Z (fun v2 I1 J1 => ((¬ v2 = 0 → Cl G mX8_load n 0 0 [.ref (gb G + 13), .ref (gb G + 1)] Z I1 J1 (qv Z (fun I3 J3 => Cl G mX8_mostFrom n 0 0 [.ref (gb G + 13), .int x1] Z I3 J3 (qi Z (fun v6 I5 J5 => K v6 I5 J5))))) ∧ (v2 = 0 → Cl G mX11_refuse n 0 0 [.ref (gb G + 0), .int (-2)] Z I1 J1 (qi Z (fun v8 I7 J7 => K v8 I7 J7))))))) : Jd G mX11_most (jdFm G (qi Z K)) (n + 1) rc rs 0 [(0, .ref (gb G + 0)), (1, .int x1)] [] Z I J := by
  refine jd_aload_n (pc := 0) 0 dX11_most_0 rfl rfl ?_
  refine jd_getR (pc := 1) (ci := 10) (k := 0) (r := 1) gX11_10 hX.1 rfl (zX_p0 hX) dX11_most_1 ?_
  refine jd_iload_n (pc := 4) 1 dX11_most_4 rfl rfl ?_
  refine jd_callVi (pc := 5) (M2 := mX9_hasAll) (id := 1) (ci := 8) (T := TX9) (N := 10) (av := [.int x1]) kX9_hasAll sX9_hasAll rfl (zX_o0 hX).1 lX11_207 rfl rfl (Nat.le_of_ble_eq_true rfl) dX11_most_5 h ?_
  intro v2 I1 J1 h
  refine jd_if_ne (pc := 8) 18 dX11_most_8 (by decide) (fun hc => ?_) (fun hc => ?_)
  · have h := h.1 hc
    refine jd_aload_n (pc := 18) 0 dX11_most_18 rfl rfl ?_
    refine jd_getR (pc := 19) (ci := 10) (k := 3) (r := 13) gX11_25 hX.1 rfl (zX_p3 hX) dX11_most_19 ?_
    refine jd_aload_n (pc := 22) 0 dX11_most_22 rfl rfl ?_
    refine jd_getR (pc := 23) (ci := 10) (k := 0) (r := 1) gX11_10 hX.1 rfl (zX_p0 hX) dX11_most_23 ?_
    refine jd_callVv (pc := 26) (M2 := mX8_load) (id := 13) (ci := 7) (T := TX8) (N := 11) (av := [.ref (gb G + 1)]) kX8_load sX8_load rfl (zX_o3 hX).1 lX11_128 rfl rfl (Nat.le_of_ble_eq_true rfl) dX11_most_26 h ?_
    intro I3 J3 h
    refine jd_aload_n (pc := 29) 0 dX11_most_29 rfl rfl ?_
    refine jd_getR (pc := 30) (ci := 10) (k := 3) (r := 13) gX11_25 hX.1 rfl (zX_p3 hX) dX11_most_30 ?_
    refine jd_iload_n (pc := 33) 1 dX11_most_33 rfl rfl ?_
    refine jd_callVi (pc := 34) (M2 := mX8_mostFrom) (id := 13) (ci := 7) (T := TX8) (N := 11) (av := [.int x1]) kX8_mostFrom sX8_mostFrom rfl (zX_o3 hX).1 lX11_219 rfl rfl (Nat.le_of_ble_eq_true rfl) dX11_most_34 h ?_
    intro v6 I5 J5 h
    exact jd_iretK (pc := 37) rfl rfl dX11_most_37 h
  · have h := h.2 hc
    refine jd_aload_n (pc := 11) 0 dX11_most_11 rfl rfl ?_
    refine jd_bipush (pc := 12) (v := (-2)) dX11_most_12 (by decide) ?_
    refine jd_callVi (pc := 14) (M2 := mX11_refuse) (id := 0) (ci := 10) (T := TX11) (N := 9) (av := [.int (-2)]) kX11_refuse sX11_refuse rfl hX.1 lX11_58 rfl rfl (Nat.le_of_ble_eq_true rfl) dX11_most_14 h ?_
    intro v8 I7 J7 h
    exact jd_iretK (pc := 17) rfl rfl dX11_most_17 h
theorem eX11_most {G : jdG} {n : Nat} {Z : jdL} {I : jdI} {J : jdJ} {K : Int32 → jdI → jdJ → Prop} {x1 : Int32} (hX : zX Z) (h : Cl G mX9_hasAll n 0 0 [.ref (gb G + 1), .int x1] Z I J (qi Z (fun v2 I1 J1 => ((¬ v2 = 0 → Cl G mX8_load n 0 0 [.ref (gb G + 13), .ref (gb G + 1)] Z I1 J1 (qv Z (fun I3 J3 => Cl G mX8_mostFrom n 0 0 [.ref (gb G + 13), .int x1] Z I3 J3 (qi Z (fun v6 I5 J5 => K v6 I5 J5))))) ∧ (v2 = 0 → Cl G mX11_refuse n 0 0 [.ref (gb G + 0), .int (-2)] Z I1 J1 (qi Z (fun v8 I7 J7 => K v8 I7 J7))))))) : Cl G mX11_most (n + 1) 0 0 [.ref (gb G + 0), .int x1] Z I J (qi Z K) :=
  Cl.of (by decide +kernel) (Nat.le_of_ble_eq_true rfl) (rX11_most_0 hX h)
set_option maxRecDepth 4000 in
theorem rX11_mostOf_0 {G : jdG} {n rc rs : Nat} {Z : jdL} {I : jdI} {J : jdJ} {K : Int32 → jdI → jdJ → Prop} {x1 : Int32} {x2 : Int32} (hX : zX Z) (h : Cl G mX9_hasAll n 0 0 [.ref (gb G + 1), .int x1] Z I J (qi Z (fun v2 I1 J1 => ((v2 = 0 → Cl G mX11_refuse n 0 0 [.ref (gb G + 0), .int (-2)] Z I1 J1 (qi Z (fun v4 I3 J3 => K v4 I3 J3))) ∧ (¬ v2 = 0 → ((0 ≤ x2 → Cl G mX8_load n 0 0 [.ref (gb G + 13), .ref (gb G + 1)] Z I1 J1 (qv Z (fun I5 J5 => Cl G mX8_mostFrom n 0 0 [.ref (gb G + 13), .int x1] Z I5 J5 (qi Z (fun v8 I7 J7 => ((x2 < v8 → Cl G mX8_mostRow n 0 0 [.ref (gb G + 13), .int x1, .int x2] Z I7 J7 (qi Z (fun v10 I9 J9 => K v10 I9 J9))) ∧ (¬ x2 < v8 → Cl G mX11_refuse n 0 0 [.ref (gb G + 0), .int (-5)] Z I7 J7 (qi Z (fun v12 I11 J11 => K v12 I11 J11))))))))) ∧ (¬ 0 ≤ x2 → Cl G mX11_refuse n 0 0 [.ref (gb G + 0), .int (-2)] Z I1 J1 (qi Z (fun v14 I13 J13 => K v14 I13 J13))))))))) : Jd G mX11_mostOf (jdFm G (qi Z K)) (n + 1) rc rs 0 [(0, .ref (gb G + 0)), (1, .int x1), (2, .int x2)] [] Z I J := by
  refine jd_aload_n (pc := 0) 0 dX11_mostOf_0 rfl rfl ?_
  refine jd_getR (pc := 1) (ci := 10) (k := 0) (r := 1) gX11_10 hX.1 rfl (zX_p0 hX) dX11_mostOf_1 ?_
  refine jd_iload_n (pc := 4) 1 dX11_mostOf_4 rfl rfl ?_
  refine jd_callVi (pc := 5) (M2 := mX9_hasAll) (id := 1) (ci := 8) (T := TX9) (N := 10) (av := [.int x1]) kX9_hasAll sX9_hasAll rfl (zX_o0 hX).1 lX11_207 rfl rfl (Nat.le_of_ble_eq_true rfl) dX11_mostOf_5 h ?_
  intro v2 I1 J1 h
  refine jd_if_eq (pc := 8) 15 dX11_mostOf_8 (by decide) (fun hc => ?_) (fun hc => ?_)
  · have h := h.1 hc
    refine jd_aload_n (pc := 15) 0 dX11_mostOf_15 rfl rfl ?_
    refine jd_bipush (pc := 16) (v := (-2)) dX11_mostOf_16 (by decide) ?_
    refine jd_callVi (pc := 18) (M2 := mX11_refuse) (id := 0) (ci := 10) (T := TX11) (N := 9) (av := [.int (-2)]) kX11_refuse sX11_refuse rfl hX.1 lX11_58 rfl rfl (Nat.le_of_ble_eq_true rfl) dX11_mostOf_18 h ?_
    intro v4 I3 J3 h
    exact jd_iretK (pc := 21) rfl rfl dX11_mostOf_21 h
  · have h := h.2 hc
    refine jd_iload_n (pc := 11) 2 dX11_mostOf_11 rfl rfl ?_
    refine jd_if_ge (pc := 12) 22 dX11_mostOf_12 (by decide) (fun hc => ?_) (fun hc => ?_)
    · have h := h.1 hc
      refine jd_aload_n (pc := 22) 0 dX11_mostOf_22 rfl rfl ?_
      refine jd_getR (pc := 23) (ci := 10) (k := 3) (r := 13) gX11_25 hX.1 rfl (zX_p3 hX) dX11_mostOf_23 ?_
      refine jd_aload_n (pc := 26) 0 dX11_mostOf_26 rfl rfl ?_
      refine jd_getR (pc := 27) (ci := 10) (k := 0) (r := 1) gX11_10 hX.1 rfl (zX_p0 hX) dX11_mostOf_27 ?_
      refine jd_callVv (pc := 30) (M2 := mX8_load) (id := 13) (ci := 7) (T := TX8) (N := 11) (av := [.ref (gb G + 1)]) kX8_load sX8_load rfl (zX_o3 hX).1 lX11_128 rfl rfl (Nat.le_of_ble_eq_true rfl) dX11_mostOf_30 h ?_
      intro I5 J5 h
      refine jd_iload_n (pc := 33) 2 dX11_mostOf_33 rfl rfl ?_
      refine jd_aload_n (pc := 34) 0 dX11_mostOf_34 rfl rfl ?_
      refine jd_getR (pc := 35) (ci := 10) (k := 3) (r := 13) gX11_25 hX.1 rfl (zX_p3 hX) dX11_mostOf_35 ?_
      refine jd_iload_n (pc := 38) 1 dX11_mostOf_38 rfl rfl ?_
      refine jd_callVi (pc := 39) (M2 := mX8_mostFrom) (id := 13) (ci := 7) (T := TX8) (N := 11) (av := [.int x1]) kX8_mostFrom sX8_mostFrom rfl (zX_o3 hX).1 lX11_219 rfl rfl (Nat.le_of_ble_eq_true rfl) dX11_mostOf_39 h ?_
      intro v8 I7 J7 h
      refine jd_icmp_lt (pc := 42) 52 dX11_mostOf_42 (by decide) (fun hc => ?_) (fun hc => ?_)
      · have h := h.1 hc
        refine jd_aload_n (pc := 52) 0 dX11_mostOf_52 rfl rfl ?_
        refine jd_getR (pc := 53) (ci := 10) (k := 3) (r := 13) gX11_25 hX.1 rfl (zX_p3 hX) dX11_mostOf_53 ?_
        refine jd_iload_n (pc := 56) 1 dX11_mostOf_56 rfl rfl ?_
        refine jd_iload_n (pc := 57) 2 dX11_mostOf_57 rfl rfl ?_
        refine jd_callVi (pc := 58) (M2 := mX8_mostRow) (id := 13) (ci := 7) (T := TX8) (N := 11) (av := [.int x1, .int x2]) kX8_mostRow sX8_mostRow rfl (zX_o3 hX).1 lX11_222 rfl rfl (Nat.le_of_ble_eq_true rfl) dX11_mostOf_58 h ?_
        intro v10 I9 J9 h
        exact jd_iretK (pc := 61) rfl rfl dX11_mostOf_61 h
      · have h := h.2 hc
        refine jd_aload_n (pc := 45) 0 dX11_mostOf_45 rfl rfl ?_
        refine jd_bipush (pc := 46) (v := (-5)) dX11_mostOf_46 (by decide) ?_
        refine jd_callVi (pc := 48) (M2 := mX11_refuse) (id := 0) (ci := 10) (T := TX11) (N := 9) (av := [.int (-5)]) kX11_refuse sX11_refuse rfl hX.1 lX11_58 rfl rfl (Nat.le_of_ble_eq_true rfl) dX11_mostOf_48 h ?_
        intro v12 I11 J11 h
        exact jd_iretK (pc := 51) rfl rfl dX11_mostOf_51 h
    · have h := h.2 hc
      refine jd_aload_n (pc := 15) 0 dX11_mostOf_15 rfl rfl ?_
      refine jd_bipush (pc := 16) (v := (-2)) dX11_mostOf_16 (by decide) ?_
      refine jd_callVi (pc := 18) (M2 := mX11_refuse) (id := 0) (ci := 10) (T := TX11) (N := 9) (av := [.int (-2)]) kX11_refuse sX11_refuse rfl hX.1 lX11_58 rfl rfl (Nat.le_of_ble_eq_true rfl) dX11_mostOf_18 h ?_
      intro v14 I13 J13 h
      exact jd_iretK (pc := 21) rfl rfl dX11_mostOf_21 h
theorem eX11_mostOf {G : jdG} {n : Nat} {Z : jdL} {I : jdI} {J : jdJ} {K : Int32 → jdI → jdJ → Prop} {x1 : Int32} {x2 : Int32} (hX : zX Z) (h : Cl G mX9_hasAll n 0 0 [.ref (gb G + 1), .int x1] Z I J (qi Z (fun v2 I1 J1 => ((v2 = 0 → Cl G mX11_refuse n 0 0 [.ref (gb G + 0), .int (-2)] Z I1 J1 (qi Z (fun v4 I3 J3 => K v4 I3 J3))) ∧ (¬ v2 = 0 → ((0 ≤ x2 → Cl G mX8_load n 0 0 [.ref (gb G + 13), .ref (gb G + 1)] Z I1 J1 (qv Z (fun I5 J5 => Cl G mX8_mostFrom n 0 0 [.ref (gb G + 13), .int x1] Z I5 J5 (qi Z (fun v8 I7 J7 => ((x2 < v8 → Cl G mX8_mostRow n 0 0 [.ref (gb G + 13), .int x1, .int x2] Z I7 J7 (qi Z (fun v10 I9 J9 => K v10 I9 J9))) ∧ (¬ x2 < v8 → Cl G mX11_refuse n 0 0 [.ref (gb G + 0), .int (-5)] Z I7 J7 (qi Z (fun v12 I11 J11 => K v12 I11 J11))))))))) ∧ (¬ 0 ≤ x2 → Cl G mX11_refuse n 0 0 [.ref (gb G + 0), .int (-2)] Z I1 J1 (qi Z (fun v14 I13 J13 => K v14 I13 J13))))))))) : Cl G mX11_mostOf (n + 1) 0 0 [.ref (gb G + 0), .int x1, .int x2] Z I J (qi Z K) :=
  Cl.of (by decide +kernel) (Nat.le_of_ble_eq_true rfl) (rX11_mostOf_0 hX h)
set_option maxRecDepth 4000 in
theorem rX11_sends_0 {G : jdG} {n rc rs : Nat} {Z : jdL} {I : jdI} {J : jdJ} {K : Int32 → jdI → jdJ → Prop} {x1 : Int32} {x2 : Int32} {x3 : Int32} (hX : zX Z) (h : Cl G mX9_hasAll n 0 0 [.ref (gb G + 1), .int x2] Z I J (qi Z (fun v2 I1 J1 => ((v2 = 0 → Cl G mX11_refuse n 0 0 [.ref (gb G + 0), .int (-2)] Z I1 J1 (qi Z (fun v4 I3 J3 => K v4 I3 J3))) ∧ (¬ v2 = 0 → ((x3 < 0 → Cl G mX11_refuse n 0 0 [.ref (gb G + 0), .int (-2)] Z I1 J1 (qi Z (fun v6 I5 J5 => K v6 I5 J5))) ∧ (¬ x3 < 0 → ((x3 ≤ 7 → Cl G mX11_manIn n 0 0 [.ref (gb G + 0), .int x1] Z I1 J1 (qm G Z (fun o I7 J7 => (o = none → Cl G mX11_whyNoMan n 0 0 [.ref (gb G + 0), .int x1] Z I7 J7 (qi Z (fun v10 I9 J9 => Cl G mX11_refuse n 0 0 [.ref (gb G + 0), .int v10] Z I9 J9 (qi Z (fun v12 I11 J11 => K v12 I11 J11))))) ∧ (∀ w8, o = some w8 → Cl G mX8_load n 0 0 [.ref (gb G + 13), .ref (gb G + 1)] Z I7 J7 (qv Z (fun I13 J13 => (zMan Z w8 ∧ ∀ q ∈ a_pick, (Z).1 w8 = some (q.1 + 10, 0) → Cl G q.2 n 0 0 [.ref (gb G + w8), .ref (gb G + 13), .int x2, .int x3] Z I13 J13 (qi Z (fun v16 I15 J15 => K v16 I15 J15))))))))) ∧ (¬ x3 ≤ 7 → Cl G mX11_refuse n 0 0 [.ref (gb G + 0), .int (-2)] Z I1 J1 (qi Z (fun v19 I18 J18 => K v19 I18 J18))))))))))) : Jd G mX11_sends (jdFm G (qi Z K)) (n + 1) rc rs 0 [(0, .ref (gb G + 0)), (1, .int x1), (2, .int x2), (3, .int x3)] [] Z I J := by
  refine jd_aload_n (pc := 0) 0 dX11_sends_0 rfl rfl ?_
  refine jd_getR (pc := 1) (ci := 10) (k := 0) (r := 1) gX11_10 hX.1 rfl (zX_p0 hX) dX11_sends_1 ?_
  refine jd_iload_n (pc := 4) 2 dX11_sends_4 rfl rfl ?_
  refine jd_callVi (pc := 5) (M2 := mX9_hasAll) (id := 1) (ci := 8) (T := TX9) (N := 10) (av := [.int x2]) kX9_hasAll sX9_hasAll rfl (zX_o0 hX).1 lX11_207 rfl rfl (Nat.le_of_ble_eq_true rfl) dX11_sends_5 h ?_
  intro v2 I1 J1 h
  refine jd_if_eq (pc := 8) 21 dX11_sends_8 (by decide) (fun hc => ?_) (fun hc => ?_)
  · have h := h.1 hc
    refine jd_aload_n (pc := 21) 0 dX11_sends_21 rfl rfl ?_
    refine jd_bipush (pc := 22) (v := (-2)) dX11_sends_22 (by decide) ?_
    refine jd_callVi (pc := 24) (M2 := mX11_refuse) (id := 0) (ci := 10) (T := TX11) (N := 9) (av := [.int (-2)]) kX11_refuse sX11_refuse rfl hX.1 lX11_58 rfl rfl (Nat.le_of_ble_eq_true rfl) dX11_sends_24 h ?_
    intro v4 I3 J3 h
    exact jd_iretK (pc := 27) rfl rfl dX11_sends_27 h
  · have h := h.2 hc
    refine jd_iload_n (pc := 11) 3 dX11_sends_11 rfl rfl ?_
    refine jd_if_lt (pc := 12) 21 dX11_sends_12 (by decide) (fun hc => ?_) (fun hc => ?_)
    · have h := h.1 hc
      refine jd_aload_n (pc := 21) 0 dX11_sends_21 rfl rfl ?_
      refine jd_bipush (pc := 22) (v := (-2)) dX11_sends_22 (by decide) ?_
      refine jd_callVi (pc := 24) (M2 := mX11_refuse) (id := 0) (ci := 10) (T := TX11) (N := 9) (av := [.int (-2)]) kX11_refuse sX11_refuse rfl hX.1 lX11_58 rfl rfl (Nat.le_of_ble_eq_true rfl) dX11_sends_24 h ?_
      intro v6 I5 J5 h
      exact jd_iretK (pc := 27) rfl rfl dX11_sends_27 h
    · have h := h.2 hc
      refine jd_iload_n (pc := 15) 3 dX11_sends_15 rfl rfl ?_
      refine jd_bipush (pc := 16) (v := 7) dX11_sends_16 (by decide) ?_
      refine jd_icmp_le (pc := 18) 28 dX11_sends_18 (by decide) (fun hc => ?_) (fun hc => ?_)
      · have h := h.1 hc
        refine jd_aload_n (pc := 28) 0 dX11_sends_28 rfl rfl ?_
        refine jd_iload_n (pc := 29) 1 dX11_sends_29 rfl rfl ?_
        refine jd_callVm (pc := 30) (M2 := mX11_manIn) (id := 0) (ci := 10) (T := TX11) (N := 9) (av := [.int x1]) kX11_manIn sX11_manIn rfl hX.1 lX11_115 rfl rfl (Nat.le_of_ble_eq_true rfl) dX11_sends_30 h ?_ ?_
        · intro I7 J7 h
          have h := h.1 rfl
          refine jd_astoreN (pc := 33) [(4, .null), (0, .ref (gb G + 0)), (1, .int x1), (2, .int x2), (3, .int x3)] dX11_sends_33 (by decide) rfl ?_
          refine jd_aloadN (pc := 35) 0 dX11_sends_35 rfl ?_
          refine jd_ifnonnullN (pc := 37) dX11_sends_37 ?_
          refine jd_aload_n (pc := 40) 1 dX11_sends_40 rfl rfl ?_
          refine jd_aload_n (pc := 41) 1 dX11_sends_41 rfl rfl ?_
          refine jd_iload_n (pc := 42) 2 dX11_sends_42 rfl rfl ?_
          refine jd_callVi (pc := 43) (M2 := mX11_whyNoMan) (id := 0) (ci := 10) (T := TX11) (N := 9) (av := [.int x1]) kX11_whyNoMan sX11_whyNoMan rfl hX.1 lX11_119 rfl rfl (Nat.le_of_ble_eq_true rfl) dX11_sends_43 h ?_
          intro v10 I9 J9 h
          refine jd_callVi (pc := 46) (M2 := mX11_refuse) (id := 0) (ci := 10) (T := TX11) (N := 9) (av := [.int v10]) kX11_refuse sX11_refuse rfl hX.1 lX11_58 rfl rfl (Nat.le_of_ble_eq_true rfl) dX11_sends_46 h ?_
          intro v12 I11 J11 h
          exact jd_iretK (pc := 49) rfl rfl dX11_sends_49 h
        · intro w8 I7 J7 h
          have h := h.2 w8 rfl
          refine jd_astore (pc := 33) [(4, .ref (gb G + w8)), (0, .ref (gb G + 0)), (1, .int x1), (2, .int x2), (3, .int x3)] dX11_sends_33 (by decide) rfl ?_
          refine jd_aload (pc := 35) 0 dX11_sends_35 rfl ?_
          refine jd_ifnonnull (pc := 37) 50 dX11_sends_37 (by decide) ?_
          refine jd_aload_n (pc := 50) 1 dX11_sends_50 rfl rfl ?_
          refine jd_getR (pc := 51) (ci := 10) (k := 3) (r := 13) gX11_25 hX.1 rfl (zX_p3 hX) dX11_sends_51 ?_
          refine jd_aload_n (pc := 54) 1 dX11_sends_54 rfl rfl ?_
          refine jd_getR (pc := 55) (ci := 10) (k := 0) (r := 1) gX11_10 hX.1 rfl (zX_p0 hX) dX11_sends_55 ?_
          refine jd_callVv (pc := 58) (M2 := mX8_load) (id := 13) (ci := 7) (T := TX8) (N := 11) (av := [.ref (gb G + 1)]) kX8_load sX8_load rfl (zX_o3 hX).1 lX11_128 rfl rfl (Nat.le_of_ble_eq_true rfl) dX11_sends_58 h ?_
          intro I13 J13 h
          refine jd_aload (pc := 61) 0 dX11_sends_61 rfl ?_
          refine jd_aload_n (pc := 63) 1 dX11_sends_63 rfl rfl ?_
          refine jd_getR (pc := 64) (ci := 10) (k := 3) (r := 13) gX11_25 hX.1 rfl (zX_p3 hX) dX11_sends_64 ?_
          refine jd_iload_n (pc := 67) 3 dX11_sends_67 rfl rfl ?_
          refine jd_iload_n (pc := 68) 4 dX11_sends_68 rfl rfl ?_
          obtain ⟨hm17, h⟩ := h
          refine jd_vpick (pc := 69) (id := w8) (av := [.ref (gb G + 13), .int x2, .int x3]) hm17 lX11_135 rfl rfl (Nat.le_of_ble_eq_true rfl) dX11_sends_69 h ?_
          intro v16 I15 J15 h
          exact jd_iretK (pc := 72) rfl rfl dX11_sends_72 h
      · have h := h.2 hc
        refine jd_aload_n (pc := 21) 0 dX11_sends_21 rfl rfl ?_
        refine jd_bipush (pc := 22) (v := (-2)) dX11_sends_22 (by decide) ?_
        refine jd_callVi (pc := 24) (M2 := mX11_refuse) (id := 0) (ci := 10) (T := TX11) (N := 9) (av := [.int (-2)]) kX11_refuse sX11_refuse rfl hX.1 lX11_58 rfl rfl (Nat.le_of_ble_eq_true rfl) dX11_sends_24 h ?_
        intro v19 I18 J18 h
        exact jd_iretK (pc := 27) rfl rfl dX11_sends_27 h
theorem eX11_sends {G : jdG} {n : Nat} {Z : jdL} {I : jdI} {J : jdJ} {K : Int32 → jdI → jdJ → Prop} {x1 : Int32} {x2 : Int32} {x3 : Int32} (hX : zX Z) (h : Cl G mX9_hasAll n 0 0 [.ref (gb G + 1), .int x2] Z I J (qi Z (fun v2 I1 J1 => ((v2 = 0 → Cl G mX11_refuse n 0 0 [.ref (gb G + 0), .int (-2)] Z I1 J1 (qi Z (fun v4 I3 J3 => K v4 I3 J3))) ∧ (¬ v2 = 0 → ((x3 < 0 → Cl G mX11_refuse n 0 0 [.ref (gb G + 0), .int (-2)] Z I1 J1 (qi Z (fun v6 I5 J5 => K v6 I5 J5))) ∧ (¬ x3 < 0 → ((x3 ≤ 7 → Cl G mX11_manIn n 0 0 [.ref (gb G + 0), .int x1] Z I1 J1 (qm G Z (fun o I7 J7 => (o = none → Cl G mX11_whyNoMan n 0 0 [.ref (gb G + 0), .int x1] Z I7 J7 (qi Z (fun v10 I9 J9 => Cl G mX11_refuse n 0 0 [.ref (gb G + 0), .int v10] Z I9 J9 (qi Z (fun v12 I11 J11 => K v12 I11 J11))))) ∧ (∀ w8, o = some w8 → Cl G mX8_load n 0 0 [.ref (gb G + 13), .ref (gb G + 1)] Z I7 J7 (qv Z (fun I13 J13 => (zMan Z w8 ∧ ∀ q ∈ a_pick, (Z).1 w8 = some (q.1 + 10, 0) → Cl G q.2 n 0 0 [.ref (gb G + w8), .ref (gb G + 13), .int x2, .int x3] Z I13 J13 (qi Z (fun v16 I15 J15 => K v16 I15 J15))))))))) ∧ (¬ x3 ≤ 7 → Cl G mX11_refuse n 0 0 [.ref (gb G + 0), .int (-2)] Z I1 J1 (qi Z (fun v19 I18 J18 => K v19 I18 J18))))))))))) : Cl G mX11_sends (n + 1) 0 0 [.ref (gb G + 0), .int x1, .int x2, .int x3] Z I J (qi Z K) :=
  Cl.of (by decide +kernel) (Nat.le_of_ble_eq_true rfl) (rX11_sends_0 hX h)
set_option maxRecDepth 4000 in
theorem rX11_run_0 {G : jdG} {n rc rs : Nat} {Z : jdL} {I : jdI} {J : jdJ} {K : Int32 → jdI → jdJ → Prop} {x1 : Int32} (hX : zX Z) (h : Cl G mX11_manIn n 0 0 [.ref (gb G + 0), .int x1] Z I J (qm G Z (fun o I1 J1 => (o = none → Cl G mX11_whyNoMan n 0 0 [.ref (gb G + 0), .int x1] Z I1 J1 (qi Z (fun v4 I3 J3 => Cl G mX11_refuse n 0 0 [.ref (gb G + 0), .int v4] Z I3 J3 (qi Z (fun v6 I5 J5 => K v6 I5 J5))))) ∧ (∀ w2, o = some w2 → Cl G mX11_think n 0 0 [.ref (gb G + 0), .ref (gb G + w2)] Z I1 J1 (qv Z (fun I7 J7 => K (I7 20 4) I7 J7)))))) : Jd G mX11_run (jdFm G (qi Z K)) (n + 1) rc rs 0 [(0, .ref (gb G + 0)), (1, .int x1)] [] Z I J := by
  refine jd_aload_n (pc := 0) 0 dX11_run_0 rfl rfl ?_
  refine jd_iload_n (pc := 1) 1 dX11_run_1 rfl rfl ?_
  refine jd_callVm (pc := 2) (M2 := mX11_manIn) (id := 0) (ci := 10) (T := TX11) (N := 9) (av := [.int x1]) kX11_manIn sX11_manIn rfl hX.1 lX11_115 rfl rfl (Nat.le_of_ble_eq_true rfl) dX11_run_2 h ?_ ?_
  · intro I1 J1 h
    have h := h.1 rfl
    refine jd_astore_nN (pc := 5) [(2, .null), (0, .ref (gb G + 0)), (1, .int x1)] dX11_run_5 rfl (by decide) rfl ?_
    refine jd_aload_nN (pc := 6) 0 dX11_run_6 rfl rfl ?_
    refine jd_ifnonnullN (pc := 7) dX11_run_7 ?_
    refine jd_aload_n (pc := 10) 1 dX11_run_10 rfl rfl ?_
    refine jd_aload_n (pc := 11) 1 dX11_run_11 rfl rfl ?_
    refine jd_iload_n (pc := 12) 2 dX11_run_12 rfl rfl ?_
    refine jd_callVi (pc := 13) (M2 := mX11_whyNoMan) (id := 0) (ci := 10) (T := TX11) (N := 9) (av := [.int x1]) kX11_whyNoMan sX11_whyNoMan rfl hX.1 lX11_119 rfl rfl (Nat.le_of_ble_eq_true rfl) dX11_run_13 h ?_
    intro v4 I3 J3 h
    refine jd_callVi (pc := 16) (M2 := mX11_refuse) (id := 0) (ci := 10) (T := TX11) (N := 9) (av := [.int v4]) kX11_refuse sX11_refuse rfl hX.1 lX11_58 rfl rfl (Nat.le_of_ble_eq_true rfl) dX11_run_16 h ?_
    intro v6 I5 J5 h
    exact jd_iretK (pc := 19) rfl rfl dX11_run_19 h
  · intro w2 I1 J1 h
    have h := h.2 w2 rfl
    refine jd_astore_n (pc := 5) [(2, .ref (gb G + w2)), (0, .ref (gb G + 0)), (1, .int x1)] dX11_run_5 rfl (by decide) rfl ?_
    refine jd_aload_n (pc := 6) 0 dX11_run_6 rfl rfl ?_
    refine jd_ifnonnull (pc := 7) 20 dX11_run_7 (by decide) ?_
    refine jd_aload_n (pc := 20) 1 dX11_run_20 rfl rfl ?_
    refine jd_aload_n (pc := 21) 0 dX11_run_21 rfl rfl ?_
    refine jd_callVv (pc := 22) (M2 := mX11_think) (id := 0) (ci := 10) (T := TX11) (N := 9) (av := [.ref (gb G + w2)]) kX11_think sX11_think rfl hX.1 lX11_225 rfl rfl (Nat.le_of_ble_eq_true rfl) dX11_run_22 h ?_
    intro I7 J7 h
    refine jd_aload_n (pc := 25) 1 dX11_run_25 rfl rfl ?_
    refine jd_getR (pc := 26) (ci := 10) (k := 4) (r := 20) gX11_32 hX.1 rfl (zX_p4 hX) dX11_run_26 ?_
    refine jd_getI (pc := 29) (ci := 2) (k := 4) gX11_228 (zX_o4 hX).1 rfl dX11_run_29 ?_
    exact jd_iretK (pc := 32) rfl rfl dX11_run_32 h
theorem eX11_run {G : jdG} {n : Nat} {Z : jdL} {I : jdI} {J : jdJ} {K : Int32 → jdI → jdJ → Prop} {x1 : Int32} (hX : zX Z) (h : Cl G mX11_manIn n 0 0 [.ref (gb G + 0), .int x1] Z I J (qm G Z (fun o I1 J1 => (o = none → Cl G mX11_whyNoMan n 0 0 [.ref (gb G + 0), .int x1] Z I1 J1 (qi Z (fun v4 I3 J3 => Cl G mX11_refuse n 0 0 [.ref (gb G + 0), .int v4] Z I3 J3 (qi Z (fun v6 I5 J5 => K v6 I5 J5))))) ∧ (∀ w2, o = some w2 → Cl G mX11_think n 0 0 [.ref (gb G + 0), .ref (gb G + w2)] Z I1 J1 (qv Z (fun I7 J7 => K (I7 20 4) I7 J7)))))) : Cl G mX11_run (n + 1) 0 0 [.ref (gb G + 0), .int x1] Z I J (qi Z K) :=
  Cl.of (by decide +kernel) (Nat.le_of_ble_eq_true rfl) (rX11_run_0 hX h)
set_option maxRecDepth 4000 in
theorem rX11_coach_0 {G : jdG} {n rc rs : Nat} {Z : jdL} {I : jdI} {J : jdJ} {K : Int32 → jdI → jdJ → Prop} {x1 : Int32} {x2 : Int32} (hX : zX Z) (h : ((0 ≤ x2 → Cl G mX11_manIn n 0 0 [.ref (gb G + 0), .int x1] Z I J (qm G Z (fun o I1 J1 => (o = none → Cl G mX11_whyNoMan n 0 0 [.ref (gb G + 0), .int x1] Z I1 J1 (qi Z (fun v4 I3 J3 => Cl G mX11_refuse n 0 0 [.ref (gb G + 0), .int v4] Z I3 J3 (qi Z (fun v6 I5 J5 => K v6 I5 J5))))) ∧ (∀ w2, o = some w2 → Cl G mX11_think n 0 0 [.ref (gb G + 0), .ref (gb G + w2)] Z I1 J1 (qv Z (fun I7 J7 => ((x2 < (I7 20 4) → Cl G mX3_coachAt n 0 0 [.ref (gb G + 20), .int x2] Z I7 J7 (qi Z (fun v10 I9 J9 => K v10 I9 J9))) ∧ (¬ x2 < (I7 20 4) → Cl G mX11_refuse n 0 0 [.ref (gb G + 0), .int (-5)] Z I7 J7 (qi Z (fun v12 I11 J11 => K v12 I11 J11)))))))))) ∧ (¬ 0 ≤ x2 → Cl G mX11_refuse n 0 0 [.ref (gb G + 0), .int (-2)] Z I J (qi Z (fun v14 I13 J13 => K v14 I13 J13))))) : Jd G mX11_coach (jdFm G (qi Z K)) (n + 1) rc rs 0 [(0, .ref (gb G + 0)), (1, .int x1), (2, .int x2)] [] Z I J := by
  refine jd_iload_n (pc := 0) 2 dX11_coach_0 rfl rfl ?_
  refine jd_if_ge (pc := 1) 11 dX11_coach_1 (by decide) (fun hc => ?_) (fun hc => ?_)
  · have h := h.1 hc
    refine jd_aload_n (pc := 11) 0 dX11_coach_11 rfl rfl ?_
    refine jd_iload_n (pc := 12) 1 dX11_coach_12 rfl rfl ?_
    refine jd_callVm (pc := 13) (M2 := mX11_manIn) (id := 0) (ci := 10) (T := TX11) (N := 9) (av := [.int x1]) kX11_manIn sX11_manIn rfl hX.1 lX11_115 rfl rfl (Nat.le_of_ble_eq_true rfl) dX11_coach_13 h ?_ ?_
    · intro I1 J1 h
      have h := h.1 rfl
      refine jd_astore_nN (pc := 16) [(3, .null), (0, .ref (gb G + 0)), (1, .int x1), (2, .int x2)] dX11_coach_16 rfl (by decide) rfl ?_
      refine jd_aload_nN (pc := 17) 0 dX11_coach_17 rfl rfl ?_
      refine jd_ifnonnullN (pc := 18) dX11_coach_18 ?_
      refine jd_aload_n (pc := 21) 1 dX11_coach_21 rfl rfl ?_
      refine jd_aload_n (pc := 22) 1 dX11_coach_22 rfl rfl ?_
      refine jd_iload_n (pc := 23) 2 dX11_coach_23 rfl rfl ?_
      refine jd_callVi (pc := 24) (M2 := mX11_whyNoMan) (id := 0) (ci := 10) (T := TX11) (N := 9) (av := [.int x1]) kX11_whyNoMan sX11_whyNoMan rfl hX.1 lX11_119 rfl rfl (Nat.le_of_ble_eq_true rfl) dX11_coach_24 h ?_
      intro v4 I3 J3 h
      refine jd_callVi (pc := 27) (M2 := mX11_refuse) (id := 0) (ci := 10) (T := TX11) (N := 9) (av := [.int v4]) kX11_refuse sX11_refuse rfl hX.1 lX11_58 rfl rfl (Nat.le_of_ble_eq_true rfl) dX11_coach_27 h ?_
      intro v6 I5 J5 h
      exact jd_iretK (pc := 30) rfl rfl dX11_coach_30 h
    · intro w2 I1 J1 h
      have h := h.2 w2 rfl
      refine jd_astore_n (pc := 16) [(3, .ref (gb G + w2)), (0, .ref (gb G + 0)), (1, .int x1), (2, .int x2)] dX11_coach_16 rfl (by decide) rfl ?_
      refine jd_aload_n (pc := 17) 0 dX11_coach_17 rfl rfl ?_
      refine jd_ifnonnull (pc := 18) 31 dX11_coach_18 (by decide) ?_
      refine jd_aload_n (pc := 31) 1 dX11_coach_31 rfl rfl ?_
      refine jd_aload_n (pc := 32) 0 dX11_coach_32 rfl rfl ?_
      refine jd_callVv (pc := 33) (M2 := mX11_think) (id := 0) (ci := 10) (T := TX11) (N := 9) (av := [.ref (gb G + w2)]) kX11_think sX11_think rfl hX.1 lX11_225 rfl rfl (Nat.le_of_ble_eq_true rfl) dX11_coach_33 h ?_
      intro I7 J7 h
      refine jd_iload_n (pc := 36) 3 dX11_coach_36 rfl rfl ?_
      refine jd_aload_n (pc := 37) 1 dX11_coach_37 rfl rfl ?_
      refine jd_getR (pc := 38) (ci := 10) (k := 4) (r := 20) gX11_32 hX.1 rfl (zX_p4 hX) dX11_coach_38 ?_
      refine jd_getI (pc := 41) (ci := 2) (k := 4) gX11_228 (zX_o4 hX).1 rfl dX11_coach_41 ?_
      refine jd_icmp_lt (pc := 44) 54 dX11_coach_44 (by decide) (fun hc => ?_) (fun hc => ?_)
      · have h := h.1 hc
        refine jd_aload_n (pc := 54) 1 dX11_coach_54 rfl rfl ?_
        refine jd_getR (pc := 55) (ci := 10) (k := 4) (r := 20) gX11_32 hX.1 rfl (zX_p4 hX) dX11_coach_55 ?_
        refine jd_iload_n (pc := 58) 3 dX11_coach_58 rfl rfl ?_
        refine jd_callVi (pc := 59) (M2 := mX3_coachAt) (id := 20) (ci := 2) (T := TX3) (N := 7) (av := [.int x2]) kX3_coachAt sX3_coachAt rfl (zX_o4 hX).1 lX11_231 rfl rfl (Nat.le_of_ble_eq_true rfl) dX11_coach_59 h ?_
        intro v10 I9 J9 h
        exact jd_iretK (pc := 62) rfl rfl dX11_coach_62 h
      · have h := h.2 hc
        refine jd_aload_n (pc := 47) 1 dX11_coach_47 rfl rfl ?_
        refine jd_bipush (pc := 48) (v := (-5)) dX11_coach_48 (by decide) ?_
        refine jd_callVi (pc := 50) (M2 := mX11_refuse) (id := 0) (ci := 10) (T := TX11) (N := 9) (av := [.int (-5)]) kX11_refuse sX11_refuse rfl hX.1 lX11_58 rfl rfl (Nat.le_of_ble_eq_true rfl) dX11_coach_50 h ?_
        intro v12 I11 J11 h
        exact jd_iretK (pc := 53) rfl rfl dX11_coach_53 h
  · have h := h.2 hc
    refine jd_aload_n (pc := 4) 0 dX11_coach_4 rfl rfl ?_
    refine jd_bipush (pc := 5) (v := (-2)) dX11_coach_5 (by decide) ?_
    refine jd_callVi (pc := 7) (M2 := mX11_refuse) (id := 0) (ci := 10) (T := TX11) (N := 9) (av := [.int (-2)]) kX11_refuse sX11_refuse rfl hX.1 lX11_58 rfl rfl (Nat.le_of_ble_eq_true rfl) dX11_coach_7 h ?_
    intro v14 I13 J13 h
    exact jd_iretK (pc := 10) rfl rfl dX11_coach_10 h
theorem eX11_coach {G : jdG} {n : Nat} {Z : jdL} {I : jdI} {J : jdJ} {K : Int32 → jdI → jdJ → Prop} {x1 : Int32} {x2 : Int32} (hX : zX Z) (h : ((0 ≤ x2 → Cl G mX11_manIn n 0 0 [.ref (gb G + 0), .int x1] Z I J (qm G Z (fun o I1 J1 => (o = none → Cl G mX11_whyNoMan n 0 0 [.ref (gb G + 0), .int x1] Z I1 J1 (qi Z (fun v4 I3 J3 => Cl G mX11_refuse n 0 0 [.ref (gb G + 0), .int v4] Z I3 J3 (qi Z (fun v6 I5 J5 => K v6 I5 J5))))) ∧ (∀ w2, o = some w2 → Cl G mX11_think n 0 0 [.ref (gb G + 0), .ref (gb G + w2)] Z I1 J1 (qv Z (fun I7 J7 => ((x2 < (I7 20 4) → Cl G mX3_coachAt n 0 0 [.ref (gb G + 20), .int x2] Z I7 J7 (qi Z (fun v10 I9 J9 => K v10 I9 J9))) ∧ (¬ x2 < (I7 20 4) → Cl G mX11_refuse n 0 0 [.ref (gb G + 0), .int (-5)] Z I7 J7 (qi Z (fun v12 I11 J11 => K v12 I11 J11)))))))))) ∧ (¬ 0 ≤ x2 → Cl G mX11_refuse n 0 0 [.ref (gb G + 0), .int (-2)] Z I J (qi Z (fun v14 I13 J13 => K v14 I13 J13))))) : Cl G mX11_coach (n + 1) 0 0 [.ref (gb G + 0), .int x1, .int x2] Z I J (qi Z K) :=
  Cl.of (by decide +kernel) (Nat.le_of_ble_eq_true rfl) (rX11_coach_0 hX h)
set_option maxRecDepth 4000 in
theorem rX11_left_0 {G : jdG} {n rc rs : Nat} {Z : jdL} {I : jdI} {J : jdJ} {K : Int32 → jdI → jdJ → Prop} {x1 : Int32} (hX : zX Z) (h : Cl G mX11_manIn n 0 0 [.ref (gb G + 0), .int x1] Z I J (qm G Z (fun o I1 J1 => (o = none → Cl G mX11_whyNoMan n 0 0 [.ref (gb G + 0), .int x1] Z I1 J1 (qi Z (fun v4 I3 J3 => Cl G mX11_refuse n 0 0 [.ref (gb G + 0), .int v4] Z I3 J3 (qi Z (fun v6 I5 J5 => K v6 I5 J5))))) ∧ (∀ w2, o = some w2 → Cl G mX11_think n 0 0 [.ref (gb G + 0), .ref (gb G + w2)] Z I1 J1 (qv Z (fun I7 J7 => K (I7 20 5) I7 J7)))))) : Jd G mX11_left (jdFm G (qi Z K)) (n + 1) rc rs 0 [(0, .ref (gb G + 0)), (1, .int x1)] [] Z I J := by
  refine jd_aload_n (pc := 0) 0 dX11_left_0 rfl rfl ?_
  refine jd_iload_n (pc := 1) 1 dX11_left_1 rfl rfl ?_
  refine jd_callVm (pc := 2) (M2 := mX11_manIn) (id := 0) (ci := 10) (T := TX11) (N := 9) (av := [.int x1]) kX11_manIn sX11_manIn rfl hX.1 lX11_115 rfl rfl (Nat.le_of_ble_eq_true rfl) dX11_left_2 h ?_ ?_
  · intro I1 J1 h
    have h := h.1 rfl
    refine jd_astore_nN (pc := 5) [(2, .null), (0, .ref (gb G + 0)), (1, .int x1)] dX11_left_5 rfl (by decide) rfl ?_
    refine jd_aload_nN (pc := 6) 0 dX11_left_6 rfl rfl ?_
    refine jd_ifnonnullN (pc := 7) dX11_left_7 ?_
    refine jd_aload_n (pc := 10) 1 dX11_left_10 rfl rfl ?_
    refine jd_aload_n (pc := 11) 1 dX11_left_11 rfl rfl ?_
    refine jd_iload_n (pc := 12) 2 dX11_left_12 rfl rfl ?_
    refine jd_callVi (pc := 13) (M2 := mX11_whyNoMan) (id := 0) (ci := 10) (T := TX11) (N := 9) (av := [.int x1]) kX11_whyNoMan sX11_whyNoMan rfl hX.1 lX11_119 rfl rfl (Nat.le_of_ble_eq_true rfl) dX11_left_13 h ?_
    intro v4 I3 J3 h
    refine jd_callVi (pc := 16) (M2 := mX11_refuse) (id := 0) (ci := 10) (T := TX11) (N := 9) (av := [.int v4]) kX11_refuse sX11_refuse rfl hX.1 lX11_58 rfl rfl (Nat.le_of_ble_eq_true rfl) dX11_left_16 h ?_
    intro v6 I5 J5 h
    exact jd_iretK (pc := 19) rfl rfl dX11_left_19 h
  · intro w2 I1 J1 h
    have h := h.2 w2 rfl
    refine jd_astore_n (pc := 5) [(2, .ref (gb G + w2)), (0, .ref (gb G + 0)), (1, .int x1)] dX11_left_5 rfl (by decide) rfl ?_
    refine jd_aload_n (pc := 6) 0 dX11_left_6 rfl rfl ?_
    refine jd_ifnonnull (pc := 7) 20 dX11_left_7 (by decide) ?_
    refine jd_aload_n (pc := 20) 1 dX11_left_20 rfl rfl ?_
    refine jd_aload_n (pc := 21) 0 dX11_left_21 rfl rfl ?_
    refine jd_callVv (pc := 22) (M2 := mX11_think) (id := 0) (ci := 10) (T := TX11) (N := 9) (av := [.ref (gb G + w2)]) kX11_think sX11_think rfl hX.1 lX11_225 rfl rfl (Nat.le_of_ble_eq_true rfl) dX11_left_22 h ?_
    intro I7 J7 h
    refine jd_aload_n (pc := 25) 1 dX11_left_25 rfl rfl ?_
    refine jd_getR (pc := 26) (ci := 10) (k := 4) (r := 20) gX11_32 hX.1 rfl (zX_p4 hX) dX11_left_26 ?_
    refine jd_getI (pc := 29) (ci := 2) (k := 5) gX11_234 (zX_o4 hX).1 rfl dX11_left_29 ?_
    exact jd_iretK (pc := 32) rfl rfl dX11_left_32 h
theorem eX11_left {G : jdG} {n : Nat} {Z : jdL} {I : jdI} {J : jdJ} {K : Int32 → jdI → jdJ → Prop} {x1 : Int32} (hX : zX Z) (h : Cl G mX11_manIn n 0 0 [.ref (gb G + 0), .int x1] Z I J (qm G Z (fun o I1 J1 => (o = none → Cl G mX11_whyNoMan n 0 0 [.ref (gb G + 0), .int x1] Z I1 J1 (qi Z (fun v4 I3 J3 => Cl G mX11_refuse n 0 0 [.ref (gb G + 0), .int v4] Z I3 J3 (qi Z (fun v6 I5 J5 => K v6 I5 J5))))) ∧ (∀ w2, o = some w2 → Cl G mX11_think n 0 0 [.ref (gb G + 0), .ref (gb G + w2)] Z I1 J1 (qv Z (fun I7 J7 => K (I7 20 5) I7 J7)))))) : Cl G mX11_left (n + 1) 0 0 [.ref (gb G + 0), .int x1] Z I J (qi Z K) :=
  Cl.of (by decide +kernel) (Nat.le_of_ble_eq_true rfl) (rX11_left_0 hX h)
set_option maxRecDepth 4000 in
theorem rX11_waits_0 {G : jdG} {n rc rs : Nat} {Z : jdL} {I : jdI} {J : jdJ} {K : Int32 → jdI → jdJ → Prop} {x1 : Int32} {x2 : Int32} (hX : zX Z) (h : ((x2 = (-1) → Cl G mX11_manIn n 0 0 [.ref (gb G + 0), .int x1] Z I J (qm G Z (fun o I1 J1 => (o = none → Cl G mX11_whyNoMan n 0 0 [.ref (gb G + 0), .int x1] Z I1 J1 (qi Z (fun v4 I3 J3 => Cl G mX11_refuse n 0 0 [.ref (gb G + 0), .int v4] Z I3 J3 (qi Z (fun v6 I5 J5 => K v6 I5 J5))))) ∧ (∀ w2, o = some w2 → Cl G mX11_think n 0 0 [.ref (gb G + 0), .ref (gb G + w2)] Z I1 J1 (qv Z (fun I7 J7 => ((¬ x2 = (-1) → Cl G mX3_waitingOf n 0 0 [.ref (gb G + 20), .ref (gb G + 1), .int x2] Z I7 J7 (qi Z (fun v10 I9 J9 => K v10 I9 J9))) ∧ (x2 = (-1) → Cl G mX3_waitingOfAll n 0 0 [.ref (gb G + 20), .ref (gb G + 1)] Z I7 J7 (qi Z (fun v12 I11 J11 => K v12 I11 J11)))))))))) ∧ (¬ x2 = (-1) → Cl G mX9_has n 0 0 [.ref (gb G + 1), .int x2] Z I J (qi Z (fun v14 I13 J13 => ((¬ v14 = 0 → Cl G mX11_manIn n 0 0 [.ref (gb G + 0), .int x1] Z I13 J13 (qm G Z (fun o I15 J15 => (o = none → Cl G mX11_whyNoMan n 0 0 [.ref (gb G + 0), .int x1] Z I15 J15 (qi Z (fun v18 I17 J17 => Cl G mX11_refuse n 0 0 [.ref (gb G + 0), .int v18] Z I17 J17 (qi Z (fun v20 I19 J19 => K v20 I19 J19))))) ∧ (∀ w16, o = some w16 → Cl G mX11_think n 0 0 [.ref (gb G + 0), .ref (gb G + w16)] Z I15 J15 (qv Z (fun I21 J21 => ((¬ x2 = (-1) → Cl G mX3_waitingOf n 0 0 [.ref (gb G + 20), .ref (gb G + 1), .int x2] Z I21 J21 (qi Z (fun v24 I23 J23 => K v24 I23 J23))) ∧ (x2 = (-1) → Cl G mX3_waitingOfAll n 0 0 [.ref (gb G + 20), .ref (gb G + 1)] Z I21 J21 (qi Z (fun v26 I25 J25 => K v26 I25 J25)))))))))) ∧ (v14 = 0 → Cl G mX11_refuse n 0 0 [.ref (gb G + 0), .int (-2)] Z I13 J13 (qi Z (fun v28 I27 J27 => K v28 I27 J27))))))))) : Jd G mX11_waits (jdFm G (qi Z K)) (n + 1) rc rs 0 [(0, .ref (gb G + 0)), (1, .int x1), (2, .int x2)] [] Z I J := by
  refine jd_iload_n (pc := 0) 2 dX11_waits_0 rfl rfl ?_
  refine jd_iconst (pc := 1) (v := (-1)) dX11_waits_1 (by decide) ?_
  refine jd_icmp_eq (pc := 2) 23 dX11_waits_2 (by decide) (fun hc => ?_) (fun hc => ?_)
  · have h := h.1 hc
    refine jd_aload_n (pc := 23) 0 dX11_waits_23 rfl rfl ?_
    refine jd_iload_n (pc := 24) 1 dX11_waits_24 rfl rfl ?_
    refine jd_callVm (pc := 25) (M2 := mX11_manIn) (id := 0) (ci := 10) (T := TX11) (N := 9) (av := [.int x1]) kX11_manIn sX11_manIn rfl hX.1 lX11_115 rfl rfl (Nat.le_of_ble_eq_true rfl) dX11_waits_25 h ?_ ?_
    · intro I1 J1 h
      have h := h.1 rfl
      refine jd_astore_nN (pc := 28) [(3, .null), (0, .ref (gb G + 0)), (1, .int x1), (2, .int x2)] dX11_waits_28 rfl (by decide) rfl ?_
      refine jd_aload_nN (pc := 29) 0 dX11_waits_29 rfl rfl ?_
      refine jd_ifnonnullN (pc := 30) dX11_waits_30 ?_
      refine jd_aload_n (pc := 33) 1 dX11_waits_33 rfl rfl ?_
      refine jd_aload_n (pc := 34) 1 dX11_waits_34 rfl rfl ?_
      refine jd_iload_n (pc := 35) 2 dX11_waits_35 rfl rfl ?_
      refine jd_callVi (pc := 36) (M2 := mX11_whyNoMan) (id := 0) (ci := 10) (T := TX11) (N := 9) (av := [.int x1]) kX11_whyNoMan sX11_whyNoMan rfl hX.1 lX11_119 rfl rfl (Nat.le_of_ble_eq_true rfl) dX11_waits_36 h ?_
      intro v4 I3 J3 h
      refine jd_callVi (pc := 39) (M2 := mX11_refuse) (id := 0) (ci := 10) (T := TX11) (N := 9) (av := [.int v4]) kX11_refuse sX11_refuse rfl hX.1 lX11_58 rfl rfl (Nat.le_of_ble_eq_true rfl) dX11_waits_39 h ?_
      intro v6 I5 J5 h
      exact jd_iretK (pc := 42) rfl rfl dX11_waits_42 h
    · intro w2 I1 J1 h
      have h := h.2 w2 rfl
      refine jd_astore_n (pc := 28) [(3, .ref (gb G + w2)), (0, .ref (gb G + 0)), (1, .int x1), (2, .int x2)] dX11_waits_28 rfl (by decide) rfl ?_
      refine jd_aload_n (pc := 29) 0 dX11_waits_29 rfl rfl ?_
      refine jd_ifnonnull (pc := 30) 43 dX11_waits_30 (by decide) ?_
      refine jd_aload_n (pc := 43) 1 dX11_waits_43 rfl rfl ?_
      refine jd_aload_n (pc := 44) 0 dX11_waits_44 rfl rfl ?_
      refine jd_callVv (pc := 45) (M2 := mX11_think) (id := 0) (ci := 10) (T := TX11) (N := 9) (av := [.ref (gb G + w2)]) kX11_think sX11_think rfl hX.1 lX11_225 rfl rfl (Nat.le_of_ble_eq_true rfl) dX11_waits_45 h ?_
      intro I7 J7 h
      refine jd_iload_n (pc := 48) 3 dX11_waits_48 rfl rfl ?_
      refine jd_iconst (pc := 49) (v := (-1)) dX11_waits_49 (by decide) ?_
      refine jd_icmp_ne (pc := 50) 67 dX11_waits_50 (by decide) (fun hc => ?_) (fun hc => ?_)
      · have h := h.1 hc
        refine jd_aload_n (pc := 67) 1 dX11_waits_67 rfl rfl ?_
        refine jd_getR (pc := 68) (ci := 10) (k := 4) (r := 20) gX11_32 hX.1 rfl (zX_p4 hX) dX11_waits_68 ?_
        refine jd_aload_n (pc := 71) 1 dX11_waits_71 rfl rfl ?_
        refine jd_getR (pc := 72) (ci := 10) (k := 0) (r := 1) gX11_10 hX.1 rfl (zX_p0 hX) dX11_waits_72 ?_
        refine jd_iload_n (pc := 75) 3 dX11_waits_75 rfl rfl ?_
        refine jd_callVi (pc := 76) (M2 := mX3_waitingOf) (id := 20) (ci := 2) (T := TX3) (N := 7) (av := [.ref (gb G + 1), .int x2]) kX3_waitingOf sX3_waitingOf rfl (zX_o4 hX).1 lX11_240 rfl rfl (Nat.le_of_ble_eq_true rfl) dX11_waits_76 h ?_
        intro v10 I9 J9 h
        exact jd_iretK (pc := 79) rfl rfl dX11_waits_79 h
      · have h := h.2 hc
        refine jd_aload_n (pc := 53) 1 dX11_waits_53 rfl rfl ?_
        refine jd_getR (pc := 54) (ci := 10) (k := 4) (r := 20) gX11_32 hX.1 rfl (zX_p4 hX) dX11_waits_54 ?_
        refine jd_aload_n (pc := 57) 1 dX11_waits_57 rfl rfl ?_
        refine jd_getR (pc := 58) (ci := 10) (k := 0) (r := 1) gX11_10 hX.1 rfl (zX_p0 hX) dX11_waits_58 ?_
        refine jd_callVi (pc := 61) (M2 := mX3_waitingOfAll) (id := 20) (ci := 2) (T := TX3) (N := 7) (av := [.ref (gb G + 1)]) kX3_waitingOfAll sX3_waitingOfAll rfl (zX_o4 hX).1 lX11_237 rfl rfl (Nat.le_of_ble_eq_true rfl) dX11_waits_61 h ?_
        intro v12 I11 J11 h
        refine jd_goto (pc := 64) 79 dX11_waits_64 (by decide) ?_
        exact jd_iretK (pc := 79) rfl rfl dX11_waits_79 h
  · have h := h.2 hc
    refine jd_aload_n (pc := 5) 0 dX11_waits_5 rfl rfl ?_
    refine jd_getR (pc := 6) (ci := 10) (k := 0) (r := 1) gX11_10 hX.1 rfl (zX_p0 hX) dX11_waits_6 ?_
    refine jd_iload_n (pc := 9) 2 dX11_waits_9 rfl rfl ?_
    refine jd_callVi (pc := 10) (M2 := mX9_has) (id := 1) (ci := 8) (T := TX9) (N := 10) (av := [.int x2]) kX9_has sX9_has rfl (zX_o0 hX).1 lX11_152 rfl rfl (Nat.le_of_ble_eq_true rfl) dX11_waits_10 h ?_
    intro v14 I13 J13 h
    refine jd_if_ne (pc := 13) 23 dX11_waits_13 (by decide) (fun hc => ?_) (fun hc => ?_)
    · have h := h.1 hc
      refine jd_aload_n (pc := 23) 0 dX11_waits_23 rfl rfl ?_
      refine jd_iload_n (pc := 24) 1 dX11_waits_24 rfl rfl ?_
      refine jd_callVm (pc := 25) (M2 := mX11_manIn) (id := 0) (ci := 10) (T := TX11) (N := 9) (av := [.int x1]) kX11_manIn sX11_manIn rfl hX.1 lX11_115 rfl rfl (Nat.le_of_ble_eq_true rfl) dX11_waits_25 h ?_ ?_
      · intro I15 J15 h
        have h := h.1 rfl
        refine jd_astore_nN (pc := 28) [(3, .null), (0, .ref (gb G + 0)), (1, .int x1), (2, .int x2)] dX11_waits_28 rfl (by decide) rfl ?_
        refine jd_aload_nN (pc := 29) 0 dX11_waits_29 rfl rfl ?_
        refine jd_ifnonnullN (pc := 30) dX11_waits_30 ?_
        refine jd_aload_n (pc := 33) 1 dX11_waits_33 rfl rfl ?_
        refine jd_aload_n (pc := 34) 1 dX11_waits_34 rfl rfl ?_
        refine jd_iload_n (pc := 35) 2 dX11_waits_35 rfl rfl ?_
        refine jd_callVi (pc := 36) (M2 := mX11_whyNoMan) (id := 0) (ci := 10) (T := TX11) (N := 9) (av := [.int x1]) kX11_whyNoMan sX11_whyNoMan rfl hX.1 lX11_119 rfl rfl (Nat.le_of_ble_eq_true rfl) dX11_waits_36 h ?_
        intro v18 I17 J17 h
        refine jd_callVi (pc := 39) (M2 := mX11_refuse) (id := 0) (ci := 10) (T := TX11) (N := 9) (av := [.int v18]) kX11_refuse sX11_refuse rfl hX.1 lX11_58 rfl rfl (Nat.le_of_ble_eq_true rfl) dX11_waits_39 h ?_
        intro v20 I19 J19 h
        exact jd_iretK (pc := 42) rfl rfl dX11_waits_42 h
      · intro w16 I15 J15 h
        have h := h.2 w16 rfl
        refine jd_astore_n (pc := 28) [(3, .ref (gb G + w16)), (0, .ref (gb G + 0)), (1, .int x1), (2, .int x2)] dX11_waits_28 rfl (by decide) rfl ?_
        refine jd_aload_n (pc := 29) 0 dX11_waits_29 rfl rfl ?_
        refine jd_ifnonnull (pc := 30) 43 dX11_waits_30 (by decide) ?_
        refine jd_aload_n (pc := 43) 1 dX11_waits_43 rfl rfl ?_
        refine jd_aload_n (pc := 44) 0 dX11_waits_44 rfl rfl ?_
        refine jd_callVv (pc := 45) (M2 := mX11_think) (id := 0) (ci := 10) (T := TX11) (N := 9) (av := [.ref (gb G + w16)]) kX11_think sX11_think rfl hX.1 lX11_225 rfl rfl (Nat.le_of_ble_eq_true rfl) dX11_waits_45 h ?_
        intro I21 J21 h
        refine jd_iload_n (pc := 48) 3 dX11_waits_48 rfl rfl ?_
        refine jd_iconst (pc := 49) (v := (-1)) dX11_waits_49 (by decide) ?_
        refine jd_icmp_ne (pc := 50) 67 dX11_waits_50 (by decide) (fun hc => ?_) (fun hc => ?_)
        · have h := h.1 hc
          refine jd_aload_n (pc := 67) 1 dX11_waits_67 rfl rfl ?_
          refine jd_getR (pc := 68) (ci := 10) (k := 4) (r := 20) gX11_32 hX.1 rfl (zX_p4 hX) dX11_waits_68 ?_
          refine jd_aload_n (pc := 71) 1 dX11_waits_71 rfl rfl ?_
          refine jd_getR (pc := 72) (ci := 10) (k := 0) (r := 1) gX11_10 hX.1 rfl (zX_p0 hX) dX11_waits_72 ?_
          refine jd_iload_n (pc := 75) 3 dX11_waits_75 rfl rfl ?_
          refine jd_callVi (pc := 76) (M2 := mX3_waitingOf) (id := 20) (ci := 2) (T := TX3) (N := 7) (av := [.ref (gb G + 1), .int x2]) kX3_waitingOf sX3_waitingOf rfl (zX_o4 hX).1 lX11_240 rfl rfl (Nat.le_of_ble_eq_true rfl) dX11_waits_76 h ?_
          intro v24 I23 J23 h
          exact jd_iretK (pc := 79) rfl rfl dX11_waits_79 h
        · have h := h.2 hc
          refine jd_aload_n (pc := 53) 1 dX11_waits_53 rfl rfl ?_
          refine jd_getR (pc := 54) (ci := 10) (k := 4) (r := 20) gX11_32 hX.1 rfl (zX_p4 hX) dX11_waits_54 ?_
          refine jd_aload_n (pc := 57) 1 dX11_waits_57 rfl rfl ?_
          refine jd_getR (pc := 58) (ci := 10) (k := 0) (r := 1) gX11_10 hX.1 rfl (zX_p0 hX) dX11_waits_58 ?_
          refine jd_callVi (pc := 61) (M2 := mX3_waitingOfAll) (id := 20) (ci := 2) (T := TX3) (N := 7) (av := [.ref (gb G + 1)]) kX3_waitingOfAll sX3_waitingOfAll rfl (zX_o4 hX).1 lX11_237 rfl rfl (Nat.le_of_ble_eq_true rfl) dX11_waits_61 h ?_
          intro v26 I25 J25 h
          refine jd_goto (pc := 64) 79 dX11_waits_64 (by decide) ?_
          exact jd_iretK (pc := 79) rfl rfl dX11_waits_79 h
    · have h := h.2 hc
      refine jd_aload_n (pc := 16) 0 dX11_waits_16 rfl rfl ?_
      refine jd_bipush (pc := 17) (v := (-2)) dX11_waits_17 (by decide) ?_
      refine jd_callVi (pc := 19) (M2 := mX11_refuse) (id := 0) (ci := 10) (T := TX11) (N := 9) (av := [.int (-2)]) kX11_refuse sX11_refuse rfl hX.1 lX11_58 rfl rfl (Nat.le_of_ble_eq_true rfl) dX11_waits_19 h ?_
      intro v28 I27 J27 h
      exact jd_iretK (pc := 22) rfl rfl dX11_waits_22 h
theorem eX11_waits {G : jdG} {n : Nat} {Z : jdL} {I : jdI} {J : jdJ} {K : Int32 → jdI → jdJ → Prop} {x1 : Int32} {x2 : Int32} (hX : zX Z) (h : ((x2 = (-1) → Cl G mX11_manIn n 0 0 [.ref (gb G + 0), .int x1] Z I J (qm G Z (fun o I1 J1 => (o = none → Cl G mX11_whyNoMan n 0 0 [.ref (gb G + 0), .int x1] Z I1 J1 (qi Z (fun v4 I3 J3 => Cl G mX11_refuse n 0 0 [.ref (gb G + 0), .int v4] Z I3 J3 (qi Z (fun v6 I5 J5 => K v6 I5 J5))))) ∧ (∀ w2, o = some w2 → Cl G mX11_think n 0 0 [.ref (gb G + 0), .ref (gb G + w2)] Z I1 J1 (qv Z (fun I7 J7 => ((¬ x2 = (-1) → Cl G mX3_waitingOf n 0 0 [.ref (gb G + 20), .ref (gb G + 1), .int x2] Z I7 J7 (qi Z (fun v10 I9 J9 => K v10 I9 J9))) ∧ (x2 = (-1) → Cl G mX3_waitingOfAll n 0 0 [.ref (gb G + 20), .ref (gb G + 1)] Z I7 J7 (qi Z (fun v12 I11 J11 => K v12 I11 J11)))))))))) ∧ (¬ x2 = (-1) → Cl G mX9_has n 0 0 [.ref (gb G + 1), .int x2] Z I J (qi Z (fun v14 I13 J13 => ((¬ v14 = 0 → Cl G mX11_manIn n 0 0 [.ref (gb G + 0), .int x1] Z I13 J13 (qm G Z (fun o I15 J15 => (o = none → Cl G mX11_whyNoMan n 0 0 [.ref (gb G + 0), .int x1] Z I15 J15 (qi Z (fun v18 I17 J17 => Cl G mX11_refuse n 0 0 [.ref (gb G + 0), .int v18] Z I17 J17 (qi Z (fun v20 I19 J19 => K v20 I19 J19))))) ∧ (∀ w16, o = some w16 → Cl G mX11_think n 0 0 [.ref (gb G + 0), .ref (gb G + w16)] Z I15 J15 (qv Z (fun I21 J21 => ((¬ x2 = (-1) → Cl G mX3_waitingOf n 0 0 [.ref (gb G + 20), .ref (gb G + 1), .int x2] Z I21 J21 (qi Z (fun v24 I23 J23 => K v24 I23 J23))) ∧ (x2 = (-1) → Cl G mX3_waitingOfAll n 0 0 [.ref (gb G + 20), .ref (gb G + 1)] Z I21 J21 (qi Z (fun v26 I25 J25 => K v26 I25 J25)))))))))) ∧ (v14 = 0 → Cl G mX11_refuse n 0 0 [.ref (gb G + 0), .int (-2)] Z I13 J13 (qi Z (fun v28 I27 J27 => K v28 I27 J27))))))))) : Cl G mX11_waits (n + 1) 0 0 [.ref (gb G + 0), .int x1, .int x2] Z I J (qi Z K) :=
  Cl.of (by decide +kernel) (Nat.le_of_ble_eq_true rfl) (rX11_waits_0 hX h)
set_option maxRecDepth 4000 in
theorem rX11_least_0 {G : jdG} {n rc rs : Nat} {Z : jdL} {I : jdI} {J : jdJ} {K : Int32 → jdI → jdJ → Prop} {x1 : Int32} (hX : zX Z) (h : ((x1 = 0 → Cl G mX8_load n 0 0 [.ref (gb G + 13), .ref (gb G + 1)] Z I J (qv Z (fun I1 J1 => Cl G mX3_findLeast n 0 0 [.ref (gb G + 20), .ref (gb G + 1), .ref (gb G + 13)] Z I1 J1 (qv Z (fun I3 J3 => ((¬ x1 = 0 → Cl G mX3_leastCoaches n 0 0 [.ref (gb G + 20)] Z I3 J3 (qi Z (fun v6 I5 J5 => K v6 I5 J5))) ∧ (x1 = 0 → Cl G mX3_leastWaiting n 0 0 [.ref (gb G + 20)] Z I3 J3 (qi Z (fun v8 I7 J7 => K v8 I7 J7))))))))) ∧ (¬ x1 = 0 → ((x1 = 1 → Cl G mX8_load n 0 0 [.ref (gb G + 13), .ref (gb G + 1)] Z I J (qv Z (fun I9 J9 => Cl G mX3_findLeast n 0 0 [.ref (gb G + 20), .ref (gb G + 1), .ref (gb G + 13)] Z I9 J9 (qv Z (fun I11 J11 => ((¬ x1 = 0 → Cl G mX3_leastCoaches n 0 0 [.ref (gb G + 20)] Z I11 J11 (qi Z (fun v14 I13 J13 => K v14 I13 J13))) ∧ (x1 = 0 → Cl G mX3_leastWaiting n 0 0 [.ref (gb G + 20)] Z I11 J11 (qi Z (fun v16 I15 J15 => K v16 I15 J15))))))))) ∧ (¬ x1 = 1 → Cl G mX11_refuse n 0 0 [.ref (gb G + 0), .int (-2)] Z I J (qi Z (fun v18 I17 J17 => K v18 I17 J17))))))) : Jd G mX11_least (jdFm G (qi Z K)) (n + 1) rc rs 0 [(0, .ref (gb G + 0)), (1, .int x1)] [] Z I J := by
  refine jd_iload_n (pc := 0) 1 dX11_least_0 rfl rfl ?_
  refine jd_if_eq (pc := 1) 16 dX11_least_1 (by decide) (fun hc => ?_) (fun hc => ?_)
  · have h := h.1 hc
    refine jd_aload_n (pc := 16) 0 dX11_least_16 rfl rfl ?_
    refine jd_getR (pc := 17) (ci := 10) (k := 3) (r := 13) gX11_25 hX.1 rfl (zX_p3 hX) dX11_least_17 ?_
    refine jd_aload_n (pc := 20) 0 dX11_least_20 rfl rfl ?_
    refine jd_getR (pc := 21) (ci := 10) (k := 0) (r := 1) gX11_10 hX.1 rfl (zX_p0 hX) dX11_least_21 ?_
    refine jd_callVv (pc := 24) (M2 := mX8_load) (id := 13) (ci := 7) (T := TX8) (N := 11) (av := [.ref (gb G + 1)]) kX8_load sX8_load rfl (zX_o3 hX).1 lX11_128 rfl rfl (Nat.le_of_ble_eq_true rfl) dX11_least_24 h ?_
    intro I1 J1 h
    refine jd_aload_n (pc := 27) 0 dX11_least_27 rfl rfl ?_
    refine jd_getR (pc := 28) (ci := 10) (k := 4) (r := 20) gX11_32 hX.1 rfl (zX_p4 hX) dX11_least_28 ?_
    refine jd_aload_n (pc := 31) 0 dX11_least_31 rfl rfl ?_
    refine jd_getR (pc := 32) (ci := 10) (k := 0) (r := 1) gX11_10 hX.1 rfl (zX_p0 hX) dX11_least_32 ?_
    refine jd_aload_n (pc := 35) 0 dX11_least_35 rfl rfl ?_
    refine jd_getR (pc := 36) (ci := 10) (k := 3) (r := 13) gX11_25 hX.1 rfl (zX_p3 hX) dX11_least_36 ?_
    refine jd_callVv (pc := 39) (M2 := mX3_findLeast) (id := 20) (ci := 2) (T := TX3) (N := 7) (av := [.ref (gb G + 1), .ref (gb G + 13)]) kX3_findLeast sX3_findLeast rfl (zX_o4 hX).1 lX11_244 rfl rfl (Nat.le_of_ble_eq_true rfl) dX11_least_39 h ?_
    intro I3 J3 h
    refine jd_iload_n (pc := 42) 1 dX11_least_42 rfl rfl ?_
    refine jd_if_ne (pc := 43) 56 dX11_least_43 (by decide) (fun hc => ?_) (fun hc => ?_)
    · have h := h.1 hc
      refine jd_aload_n (pc := 56) 0 dX11_least_56 rfl rfl ?_
      refine jd_getR (pc := 57) (ci := 10) (k := 4) (r := 20) gX11_32 hX.1 rfl (zX_p4 hX) dX11_least_57 ?_
      refine jd_callVi (pc := 60) (M2 := mX3_leastCoaches) (id := 20) (ci := 2) (T := TX3) (N := 7) (av := []) kX3_leastCoaches sX3_leastCoaches rfl (zX_o4 hX).1 lX11_251 rfl rfl (Nat.le_of_ble_eq_true rfl) dX11_least_60 h ?_
      intro v6 I5 J5 h
      exact jd_iretK (pc := 63) rfl rfl dX11_least_63 h
    · have h := h.2 hc
      refine jd_aload_n (pc := 46) 0 dX11_least_46 rfl rfl ?_
      refine jd_getR (pc := 47) (ci := 10) (k := 4) (r := 20) gX11_32 hX.1 rfl (zX_p4 hX) dX11_least_47 ?_
      refine jd_callVi (pc := 50) (M2 := mX3_leastWaiting) (id := 20) (ci := 2) (T := TX3) (N := 7) (av := []) kX3_leastWaiting sX3_leastWaiting rfl (zX_o4 hX).1 lX11_248 rfl rfl (Nat.le_of_ble_eq_true rfl) dX11_least_50 h ?_
      intro v8 I7 J7 h
      refine jd_goto (pc := 53) 63 dX11_least_53 (by decide) ?_
      exact jd_iretK (pc := 63) rfl rfl dX11_least_63 h
  · have h := h.2 hc
    refine jd_iload_n (pc := 4) 1 dX11_least_4 rfl rfl ?_
    refine jd_iconst (pc := 5) (v := 1) dX11_least_5 (by decide) ?_
    refine jd_icmp_eq (pc := 6) 16 dX11_least_6 (by decide) (fun hc => ?_) (fun hc => ?_)
    · have h := h.1 hc
      refine jd_aload_n (pc := 16) 0 dX11_least_16 rfl rfl ?_
      refine jd_getR (pc := 17) (ci := 10) (k := 3) (r := 13) gX11_25 hX.1 rfl (zX_p3 hX) dX11_least_17 ?_
      refine jd_aload_n (pc := 20) 0 dX11_least_20 rfl rfl ?_
      refine jd_getR (pc := 21) (ci := 10) (k := 0) (r := 1) gX11_10 hX.1 rfl (zX_p0 hX) dX11_least_21 ?_
      refine jd_callVv (pc := 24) (M2 := mX8_load) (id := 13) (ci := 7) (T := TX8) (N := 11) (av := [.ref (gb G + 1)]) kX8_load sX8_load rfl (zX_o3 hX).1 lX11_128 rfl rfl (Nat.le_of_ble_eq_true rfl) dX11_least_24 h ?_
      intro I9 J9 h
      refine jd_aload_n (pc := 27) 0 dX11_least_27 rfl rfl ?_
      refine jd_getR (pc := 28) (ci := 10) (k := 4) (r := 20) gX11_32 hX.1 rfl (zX_p4 hX) dX11_least_28 ?_
      refine jd_aload_n (pc := 31) 0 dX11_least_31 rfl rfl ?_
      refine jd_getR (pc := 32) (ci := 10) (k := 0) (r := 1) gX11_10 hX.1 rfl (zX_p0 hX) dX11_least_32 ?_
      refine jd_aload_n (pc := 35) 0 dX11_least_35 rfl rfl ?_
      refine jd_getR (pc := 36) (ci := 10) (k := 3) (r := 13) gX11_25 hX.1 rfl (zX_p3 hX) dX11_least_36 ?_
      refine jd_callVv (pc := 39) (M2 := mX3_findLeast) (id := 20) (ci := 2) (T := TX3) (N := 7) (av := [.ref (gb G + 1), .ref (gb G + 13)]) kX3_findLeast sX3_findLeast rfl (zX_o4 hX).1 lX11_244 rfl rfl (Nat.le_of_ble_eq_true rfl) dX11_least_39 h ?_
      intro I11 J11 h
      refine jd_iload_n (pc := 42) 1 dX11_least_42 rfl rfl ?_
      refine jd_if_ne (pc := 43) 56 dX11_least_43 (by decide) (fun hc => ?_) (fun hc => ?_)
      · have h := h.1 hc
        refine jd_aload_n (pc := 56) 0 dX11_least_56 rfl rfl ?_
        refine jd_getR (pc := 57) (ci := 10) (k := 4) (r := 20) gX11_32 hX.1 rfl (zX_p4 hX) dX11_least_57 ?_
        refine jd_callVi (pc := 60) (M2 := mX3_leastCoaches) (id := 20) (ci := 2) (T := TX3) (N := 7) (av := []) kX3_leastCoaches sX3_leastCoaches rfl (zX_o4 hX).1 lX11_251 rfl rfl (Nat.le_of_ble_eq_true rfl) dX11_least_60 h ?_
        intro v14 I13 J13 h
        exact jd_iretK (pc := 63) rfl rfl dX11_least_63 h
      · have h := h.2 hc
        refine jd_aload_n (pc := 46) 0 dX11_least_46 rfl rfl ?_
        refine jd_getR (pc := 47) (ci := 10) (k := 4) (r := 20) gX11_32 hX.1 rfl (zX_p4 hX) dX11_least_47 ?_
        refine jd_callVi (pc := 50) (M2 := mX3_leastWaiting) (id := 20) (ci := 2) (T := TX3) (N := 7) (av := []) kX3_leastWaiting sX3_leastWaiting rfl (zX_o4 hX).1 lX11_248 rfl rfl (Nat.le_of_ble_eq_true rfl) dX11_least_50 h ?_
        intro v16 I15 J15 h
        refine jd_goto (pc := 53) 63 dX11_least_53 (by decide) ?_
        exact jd_iretK (pc := 63) rfl rfl dX11_least_63 h
    · have h := h.2 hc
      refine jd_aload_n (pc := 9) 0 dX11_least_9 rfl rfl ?_
      refine jd_bipush (pc := 10) (v := (-2)) dX11_least_10 (by decide) ?_
      refine jd_callVi (pc := 12) (M2 := mX11_refuse) (id := 0) (ci := 10) (T := TX11) (N := 9) (av := [.int (-2)]) kX11_refuse sX11_refuse rfl hX.1 lX11_58 rfl rfl (Nat.le_of_ble_eq_true rfl) dX11_least_12 h ?_
      intro v18 I17 J17 h
      exact jd_iretK (pc := 15) rfl rfl dX11_least_15 h
theorem eX11_least {G : jdG} {n : Nat} {Z : jdL} {I : jdI} {J : jdJ} {K : Int32 → jdI → jdJ → Prop} {x1 : Int32} (hX : zX Z) (h : ((x1 = 0 → Cl G mX8_load n 0 0 [.ref (gb G + 13), .ref (gb G + 1)] Z I J (qv Z (fun I1 J1 => Cl G mX3_findLeast n 0 0 [.ref (gb G + 20), .ref (gb G + 1), .ref (gb G + 13)] Z I1 J1 (qv Z (fun I3 J3 => ((¬ x1 = 0 → Cl G mX3_leastCoaches n 0 0 [.ref (gb G + 20)] Z I3 J3 (qi Z (fun v6 I5 J5 => K v6 I5 J5))) ∧ (x1 = 0 → Cl G mX3_leastWaiting n 0 0 [.ref (gb G + 20)] Z I3 J3 (qi Z (fun v8 I7 J7 => K v8 I7 J7))))))))) ∧ (¬ x1 = 0 → ((x1 = 1 → Cl G mX8_load n 0 0 [.ref (gb G + 13), .ref (gb G + 1)] Z I J (qv Z (fun I9 J9 => Cl G mX3_findLeast n 0 0 [.ref (gb G + 20), .ref (gb G + 1), .ref (gb G + 13)] Z I9 J9 (qv Z (fun I11 J11 => ((¬ x1 = 0 → Cl G mX3_leastCoaches n 0 0 [.ref (gb G + 20)] Z I11 J11 (qi Z (fun v14 I13 J13 => K v14 I13 J13))) ∧ (x1 = 0 → Cl G mX3_leastWaiting n 0 0 [.ref (gb G + 20)] Z I11 J11 (qi Z (fun v16 I15 J15 => K v16 I15 J15))))))))) ∧ (¬ x1 = 1 → Cl G mX11_refuse n 0 0 [.ref (gb G + 0), .int (-2)] Z I J (qi Z (fun v18 I17 J17 => K v18 I17 J17))))))) : Cl G mX11_least (n + 1) 0 0 [.ref (gb G + 0), .int x1] Z I J (qi Z K) :=
  Cl.of (by decide +kernel) (Nat.le_of_ble_eq_true rfl) (rX11_least_0 hX h)
set_option maxRecDepth 4000 in
theorem rX11_head_0 {G : jdG} {n rc rs : Nat} {Z : jdL} {I : jdI} {J : jdJ} {K : Int32 → jdI → jdJ → Prop}  (hX : zX Z) (h : Jd G mX11_head (jdFm G (qi Z K)) (n + 1) rc rs 6 [(0, .ref (gb G + 0)), (1, .int (-1)), (2, .int 0), (3, .int 0)] [] Z I J) : Jd G mX11_head (jdFm G (qi Z K)) (n + 1) rc rs 0 [(0, .ref (gb G + 0))] [] Z I J := by
  refine jd_iconst (pc := 0) (v := (-1)) dX11_head_0 (by decide) ?_
  refine jd_istore_n (pc := 1) [(1, .int (-1)), (0, .ref (gb G + 0))] dX11_head_1 rfl (by decide) rfl ?_
  refine jd_iconst (pc := 2) (v := 0) dX11_head_2 (by decide) ?_
  refine jd_istore_n (pc := 3) [(2, .int 0), (1, .int (-1)), (0, .ref (gb G + 0))] dX11_head_3 rfl (by decide) rfl ?_
  refine jd_iconst (pc := 4) (v := 0) dX11_head_4 (by decide) ?_
  refine jd_istore_n (pc := 5) [(3, .int 0), (2, .int 0), (1, .int (-1)), (0, .ref (gb G + 0))] dX11_head_5 rfl (by decide) rfl ?_
  exact jd_lv (lv2 := [(0, .ref (gb G + 0)), (1, .int (-1)), (2, .int 0), (3, .int 0)]) [3, 2, 1, 0] rfl h
set_option maxRecDepth 4000 in
theorem rX11_head_6 {G : jdG} {n rc rs : Nat} {Z : jdL} {I : jdI} {J : jdJ} {K : Int32 → jdI → jdJ → Prop} {x1 : Int32} {x2 : Int32} {x3 : Int32} (hX : zX Z) (h : ((8 ≤ x3 → ((¬ x1 = (-1) → K x1 I J) ∧ (x1 = (-1) → Cl G mX11_refuse n 0 0 [.ref (gb G + 0), .int (-5)] Z I J (qi Z (fun v2 I1 J1 => K v2 I1 J1))))) ∧ (¬ 8 ≤ x3 → (vp_in x3 8 ∧ (((Z).2.1 (29 + 2 * (Int32.toNatClampNeg x3)) 3 = none → Jd G mX11_head (jdFm G (qi Z K)) (n + 1) rc rs 6 [(0, .ref (gb G + 0)), (1, .int x1), (2, .int x2), (3, .int (x3 + 1))] [] Z I J) ∧ (∀ w5, (Z).2.1 (29 + 2 * (Int32.toNatClampNeg x3)) 3 = some w5 → Cl G mX11_think n 0 0 [.ref (gb G + 0), .ref (gb G + w5)] Z I J (qv Z (fun I6 J6 => Cl G mX3_waitingOfAll n 0 0 [.ref (gb G + 20), .ref (gb G + 1)] Z I6 J6 (qi Z (fun v9 I8 J8 => ((x1 = (-1) → Jd G mX11_head (jdFm G (qi Z K)) (n + 1) rc rs 6 [(0, .ref (gb G + 0)), (1, .int x3), (2, .int v9), (3, .int (x3 + 1))] [] Z I8 J8) ∧ (¬ x1 = (-1) → ((x2 ≤ v9 → Jd G mX11_head (jdFm G (qi Z K)) (n + 1) rc rs 6 [(0, .ref (gb G + 0)), (1, .int x1), (2, .int x2), (3, .int (x3 + 1))] [] Z I8 J8) ∧ (¬ x2 ≤ v9 → Jd G mX11_head (jdFm G (qi Z K)) (n + 1) rc rs 6 [(0, .ref (gb G + 0)), (1, .int x3), (2, .int v9), (3, .int (x3 + 1))] [] Z I8 J8)))))))))))))) : Jd G mX11_head (jdFm G (qi Z K)) (n + 1) rc rs 6 [(0, .ref (gb G + 0)), (1, .int x1), (2, .int x2), (3, .int x3)] [] Z I J := by
  refine jd_iload_n (pc := 6) 3 dX11_head_6 rfl rfl ?_
  refine jd_bipush (pc := 7) (v := 8) dX11_head_7 (by decide) ?_
  refine jd_icmp_ge (pc := 9) 69 dX11_head_9 (by decide) (fun hc => ?_) (fun hc => ?_)
  · have h := h.1 hc
    refine jd_iload_n (pc := 69) 1 dX11_head_69 rfl rfl ?_
    refine jd_iconst (pc := 70) (v := (-1)) dX11_head_70 (by decide) ?_
    refine jd_icmp_ne (pc := 71) 83 dX11_head_71 (by decide) (fun hc => ?_) (fun hc => ?_)
    · have h := h.1 hc
      refine jd_iload_n (pc := 83) 1 dX11_head_83 rfl rfl ?_
      exact jd_iretK (pc := 84) rfl rfl dX11_head_84 h
    · have h := h.2 hc
      refine jd_aload_n (pc := 74) 0 dX11_head_74 rfl rfl ?_
      refine jd_bipush (pc := 75) (v := (-5)) dX11_head_75 (by decide) ?_
      refine jd_callVi (pc := 77) (M2 := mX11_refuse) (id := 0) (ci := 10) (T := TX11) (N := 9) (av := [.int (-5)]) kX11_refuse sX11_refuse rfl hX.1 lX11_58 rfl rfl (Nat.le_of_ble_eq_true rfl) dX11_head_77 h ?_
      intro v2 I1 J1 h
      refine jd_goto (pc := 80) 84 dX11_head_80 (by decide) ?_
      exact jd_iretK (pc := 84) rfl rfl dX11_head_84 h
  · have h := h.2 hc
    refine jd_aload_n (pc := 12) 0 dX11_head_12 rfl rfl ?_
    refine jd_getR (pc := 13) (ci := 10) (k := 6) (r := 27) gX11_45 hX.1 rfl (zX_p6 hX) dX11_head_13 ?_
    refine jd_iload_n (pc := 16) 3 dX11_head_16 rfl rfl ?_
    obtain ⟨hv3, h⟩ := h
    refine jd_aald (pc := 17) (len := 8) (k := 4) (zX_a6 hX) (by decide) hv3 (zX_sh hX (vp_lt hv3)) dX11_head_17 ?_
    rcases hq4 : (Z).2.1 (29 + 2 * (Int32.toNatClampNeg x3)) 3 with _ | w5
    · have h := h.1 hq4
      refine jd_getN (pc := 18) (ci := 5) (k := 3) gX11_84 (zX_shelf hX (vp_lt hv3)).1 rfl hq4 dX11_head_18 ?_
      refine jd_astoreN (pc := 21) [(4, .null), (0, .ref (gb G + 0)), (1, .int x1), (2, .int x2), (3, .int x3)] dX11_head_21 (by decide) rfl ?_
      refine jd_aloadN (pc := 23) 0 dX11_head_23 rfl ?_
      refine jd_ifnullN (pc := 25) 63 dX11_head_25 (by decide) ?_
      refine jd_iinc (pc := 63) (v := (x3 + 1)) 4 [(3, .int (x3 + 1)), (4, .null), (0, .ref (gb G + 0)), (1, .int x1), (2, .int x2)] dX11_head_63 rfl rfl (by decide) rfl ?_
      refine jd_goto (pc := 66) 6 dX11_head_66 (by decide) ?_
      exact jd_lv (lv2 := [(0, .ref (gb G + 0)), (1, .int x1), (2, .int x2), (3, .int (x3 + 1))]) [2, 3, 4, 0] rfl h
    · have h := h.2 w5 hq4
      refine jd_getR (pc := 18) (ci := 5) (k := 3) (r := w5) gX11_84 (zX_shelf hX (vp_lt hv3)).1 rfl hq4 dX11_head_18 ?_
      refine jd_astore (pc := 21) [(4, .ref (gb G + w5)), (0, .ref (gb G + 0)), (1, .int x1), (2, .int x2), (3, .int x3)] dX11_head_21 (by decide) rfl ?_
      refine jd_aload (pc := 23) 0 dX11_head_23 rfl ?_
      refine jd_ifnull (pc := 25) dX11_head_25 ?_
      refine jd_aload_n (pc := 28) 1 dX11_head_28 rfl rfl ?_
      refine jd_aload (pc := 29) 0 dX11_head_29 rfl ?_
      refine jd_callVv (pc := 31) (M2 := mX11_think) (id := 0) (ci := 10) (T := TX11) (N := 9) (av := [.ref (gb G + w5)]) kX11_think sX11_think rfl hX.1 lX11_225 rfl rfl (Nat.le_of_ble_eq_true rfl) dX11_head_31 h ?_
      intro I6 J6 h
      refine jd_aload_n (pc := 34) 1 dX11_head_34 rfl rfl ?_
      refine jd_getR (pc := 35) (ci := 10) (k := 4) (r := 20) gX11_32 hX.1 rfl (zX_p4 hX) dX11_head_35 ?_
      refine jd_aload_n (pc := 38) 1 dX11_head_38 rfl rfl ?_
      refine jd_getR (pc := 39) (ci := 10) (k := 0) (r := 1) gX11_10 hX.1 rfl (zX_p0 hX) dX11_head_39 ?_
      refine jd_callVi (pc := 42) (M2 := mX3_waitingOfAll) (id := 20) (ci := 2) (T := TX3) (N := 7) (av := [.ref (gb G + 1)]) kX3_waitingOfAll sX3_waitingOfAll rfl (zX_o4 hX).1 lX11_237 rfl rfl (Nat.le_of_ble_eq_true rfl) dX11_head_42 h ?_
      intro v9 I8 J8 h
      refine jd_istore (pc := 45) [(5, .int v9), (4, .ref (gb G + w5)), (0, .ref (gb G + 0)), (1, .int x1), (2, .int x2), (3, .int x3)] dX11_head_45 (by decide) rfl ?_
      refine jd_iload_n (pc := 47) 3 dX11_head_47 rfl rfl ?_
      refine jd_iconst (pc := 48) (v := (-1)) dX11_head_48 (by decide) ?_
      refine jd_icmp_eq (pc := 49) 58 dX11_head_49 (by decide) (fun hc => ?_) (fun hc => ?_)
      · have h := h.1 hc
        refine jd_iload_n (pc := 58) 5 dX11_head_58 rfl rfl ?_
        refine jd_istore_n (pc := 59) [(1, .int x3), (5, .int v9), (4, .ref (gb G + w5)), (0, .ref (gb G + 0)), (2, .int x2), (3, .int x3)] dX11_head_59 rfl (by decide) rfl ?_
        refine jd_iload (pc := 60) 1 dX11_head_60 rfl ?_
        refine jd_istore_n (pc := 62) [(2, .int v9), (1, .int x3), (5, .int v9), (4, .ref (gb G + w5)), (0, .ref (gb G + 0)), (3, .int x3)] dX11_head_62 rfl (by decide) rfl ?_
        refine jd_iinc (pc := 63) (v := (x3 + 1)) 5 [(3, .int (x3 + 1)), (2, .int v9), (1, .int x3), (5, .int v9), (4, .ref (gb G + w5)), (0, .ref (gb G + 0))] dX11_head_63 rfl rfl (by decide) rfl ?_
        refine jd_goto (pc := 66) 6 dX11_head_66 (by decide) ?_
        exact jd_lv (lv2 := [(0, .ref (gb G + 0)), (1, .int x3), (2, .int v9), (3, .int (x3 + 1))]) [5, 2, 1, 0] rfl h
      · have h := h.2 hc
        refine jd_iload (pc := 52) 0 dX11_head_52 rfl ?_
        refine jd_iload_n (pc := 54) 4 dX11_head_54 rfl rfl ?_
        refine jd_icmp_ge (pc := 55) 63 dX11_head_55 (by decide) (fun hc => ?_) (fun hc => ?_)
        · have h := h.1 hc
          refine jd_iinc (pc := 63) (v := (x3 + 1)) 5 [(3, .int (x3 + 1)), (5, .int v9), (4, .ref (gb G + w5)), (0, .ref (gb G + 0)), (1, .int x1), (2, .int x2)] dX11_head_63 rfl rfl (by decide) rfl ?_
          refine jd_goto (pc := 66) 6 dX11_head_66 (by decide) ?_
          exact jd_lv (lv2 := [(0, .ref (gb G + 0)), (1, .int x1), (2, .int x2), (3, .int (x3 + 1))]) [3, 4, 5, 0] rfl h
        · have h := h.2 hc
          refine jd_iload_n (pc := 58) 5 dX11_head_58 rfl rfl ?_
          refine jd_istore_n (pc := 59) [(1, .int x3), (5, .int v9), (4, .ref (gb G + w5)), (0, .ref (gb G + 0)), (2, .int x2), (3, .int x3)] dX11_head_59 rfl (by decide) rfl ?_
          refine jd_iload (pc := 60) 1 dX11_head_60 rfl ?_
          refine jd_istore_n (pc := 62) [(2, .int v9), (1, .int x3), (5, .int v9), (4, .ref (gb G + w5)), (0, .ref (gb G + 0)), (3, .int x3)] dX11_head_62 rfl (by decide) rfl ?_
          refine jd_iinc (pc := 63) (v := (x3 + 1)) 5 [(3, .int (x3 + 1)), (2, .int v9), (1, .int x3), (5, .int v9), (4, .ref (gb G + w5)), (0, .ref (gb G + 0))] dX11_head_63 rfl rfl (by decide) rfl ?_
          refine jd_goto (pc := 66) 6 dX11_head_66 (by decide) ?_
          exact jd_lv (lv2 := [(0, .ref (gb G + 0)), (1, .int x3), (2, .int v9), (3, .int (x3 + 1))]) [5, 2, 1, 0] rfl h
theorem eX11_head {G : jdG} {n : Nat} {Z : jdL} {I : jdI} {J : jdJ} {K : Int32 → jdI → jdJ → Prop}  (hX : zX Z) (h : Jd G mX11_head (jdFm G (qi Z K)) (n + 1) 0 0 6 [(0, .ref (gb G + 0)), (1, .int (-1)), (2, .int 0), (3, .int 0)] [] Z I J) : Cl G mX11_head (n + 1) 0 0 [.ref (gb G + 0)] Z I J (qi Z K) :=
  Cl.of (by decide +kernel) (Nat.le_of_ble_eq_true rfl) (rX11_head_0 hX h)
set_option maxRecDepth 4000 in
theorem rX11_days_0 {G : jdG} {n rc rs : Nat} {Z : jdL} {I : jdI} {J : jdJ} {K : Int32 → jdI → jdJ → Prop} {x1 : Int32} (hX : zX Z) (h : Cl G mX11_manIn n 0 0 [.ref (gb G + 0), .int x1] Z I J (qm G Z (fun o I1 J1 => (o = none → Cl G mX11_whyNoMan n 0 0 [.ref (gb G + 0), .int x1] Z I1 J1 (qi Z (fun v4 I3 J3 => Cl G mX11_refuse n 0 0 [.ref (gb G + 0), .int v4] Z I3 J3 (qi Z (fun v6 I5 J5 => K v6 I5 J5))))) ∧ (∀ w2, o = some w2 → Cl G mX8_load n 0 0 [.ref (gb G + 13), .ref (gb G + 1)] Z I1 J1 (qv Z (fun I7 J7 => Jd G mX11_days (jdFm G (qi Z K)) (n + 1) rc rs 33 [(0, .ref (gb G + 0)), (1, .int x1), (2, .ref (gb G + w2)), (3, .int 0)] [] Z I7 J7)))))) : Jd G mX11_days (jdFm G (qi Z K)) (n + 1) rc rs 0 [(0, .ref (gb G + 0)), (1, .int x1)] [] Z I J := by
  refine jd_aload_n (pc := 0) 0 dX11_days_0 rfl rfl ?_
  refine jd_iload_n (pc := 1) 1 dX11_days_1 rfl rfl ?_
  refine jd_callVm (pc := 2) (M2 := mX11_manIn) (id := 0) (ci := 10) (T := TX11) (N := 9) (av := [.int x1]) kX11_manIn sX11_manIn rfl hX.1 lX11_115 rfl rfl (Nat.le_of_ble_eq_true rfl) dX11_days_2 h ?_ ?_
  · intro I1 J1 h
    have h := h.1 rfl
    refine jd_astore_nN (pc := 5) [(2, .null), (0, .ref (gb G + 0)), (1, .int x1)] dX11_days_5 rfl (by decide) rfl ?_
    refine jd_aload_nN (pc := 6) 0 dX11_days_6 rfl rfl ?_
    refine jd_ifnonnullN (pc := 7) dX11_days_7 ?_
    refine jd_aload_n (pc := 10) 1 dX11_days_10 rfl rfl ?_
    refine jd_aload_n (pc := 11) 1 dX11_days_11 rfl rfl ?_
    refine jd_iload_n (pc := 12) 2 dX11_days_12 rfl rfl ?_
    refine jd_callVi (pc := 13) (M2 := mX11_whyNoMan) (id := 0) (ci := 10) (T := TX11) (N := 9) (av := [.int x1]) kX11_whyNoMan sX11_whyNoMan rfl hX.1 lX11_119 rfl rfl (Nat.le_of_ble_eq_true rfl) dX11_days_13 h ?_
    intro v4 I3 J3 h
    refine jd_callVi (pc := 16) (M2 := mX11_refuse) (id := 0) (ci := 10) (T := TX11) (N := 9) (av := [.int v4]) kX11_refuse sX11_refuse rfl hX.1 lX11_58 rfl rfl (Nat.le_of_ble_eq_true rfl) dX11_days_16 h ?_
    intro v6 I5 J5 h
    exact jd_iretK (pc := 19) rfl rfl dX11_days_19 h
  · intro w2 I1 J1 h
    have h := h.2 w2 rfl
    refine jd_astore_n (pc := 5) [(2, .ref (gb G + w2)), (0, .ref (gb G + 0)), (1, .int x1)] dX11_days_5 rfl (by decide) rfl ?_
    refine jd_aload_n (pc := 6) 0 dX11_days_6 rfl rfl ?_
    refine jd_ifnonnull (pc := 7) 20 dX11_days_7 (by decide) ?_
    refine jd_aload_n (pc := 20) 1 dX11_days_20 rfl rfl ?_
    refine jd_getR (pc := 21) (ci := 10) (k := 3) (r := 13) gX11_25 hX.1 rfl (zX_p3 hX) dX11_days_21 ?_
    refine jd_aload_n (pc := 24) 1 dX11_days_24 rfl rfl ?_
    refine jd_getR (pc := 25) (ci := 10) (k := 0) (r := 1) gX11_10 hX.1 rfl (zX_p0 hX) dX11_days_25 ?_
    refine jd_callVv (pc := 28) (M2 := mX8_load) (id := 13) (ci := 7) (T := TX8) (N := 11) (av := [.ref (gb G + 1)]) kX8_load sX8_load rfl (zX_o3 hX).1 lX11_128 rfl rfl (Nat.le_of_ble_eq_true rfl) dX11_days_28 h ?_
    intro I7 J7 h
    refine jd_iconst (pc := 31) (v := 0) dX11_days_31 (by decide) ?_
    refine jd_istore_n (pc := 32) [(3, .int 0), (2, .ref (gb G + w2)), (0, .ref (gb G + 0)), (1, .int x1)] dX11_days_32 rfl (by decide) rfl ?_
    exact jd_lv (lv2 := [(0, .ref (gb G + 0)), (1, .int x1), (2, .ref (gb G + w2)), (3, .int 0)]) [2, 3, 1, 0] rfl h
set_option maxRecDepth 4000 in
theorem rX11_days_33 {G : jdG} {n rc rs : Nat} {Z : jdL} {I : jdI} {J : jdJ} {K : Int32 → jdI → jdJ → Prop} {x1 : Int32} {u2 : Nat} {x3 : Int32} (hX : zX Z) (h : ((30 ≤ x3 → K 30 I J) ∧ (¬ 30 ≤ x3 → Cl G mX3_pass n 0 0 [.ref (gb G + 20), .ref (gb G + 1), .ref (gb G + 13), .ref (gb G + u2)] Z I J (qv Z (fun I1 J1 => ((¬ (I1 20 4) = 0 → Jd G mX11_days (jdFm G (qi Z K)) (n + 1) rc rs 70 [(0, .ref (gb G + 0)), (1, .int x1), (2, .ref (gb G + u2)), (3, .int x3), (4, .int 0)] [] Z I1 J1) ∧ ((I1 20 4) = 0 → K x3 I1 J1))))))) : Jd G mX11_days (jdFm G (qi Z K)) (n + 1) rc rs 33 [(0, .ref (gb G + 0)), (1, .int x1), (2, .ref (gb G + u2)), (3, .int x3)] [] Z I J := by
  refine jd_iload_n (pc := 33) 3 dX11_days_33 rfl rfl ?_
  refine jd_bipush (pc := 34) (v := 30) dX11_days_34 (by decide) ?_
  refine jd_icmp_ge (pc := 36) 110 dX11_days_36 (by decide) (fun hc => ?_) (fun hc => ?_)
  · have h := h.1 hc
    refine jd_bipush (pc := 110) (v := 30) dX11_days_110 (by decide) ?_
    exact jd_iretK (pc := 112) rfl rfl dX11_days_112 h
  · have h := h.2 hc
    refine jd_aload_n (pc := 39) 0 dX11_days_39 rfl rfl ?_
    refine jd_getR (pc := 40) (ci := 10) (k := 4) (r := 20) gX11_32 hX.1 rfl (zX_p4 hX) dX11_days_40 ?_
    refine jd_aload_n (pc := 43) 0 dX11_days_43 rfl rfl ?_
    refine jd_getR (pc := 44) (ci := 10) (k := 0) (r := 1) gX11_10 hX.1 rfl (zX_p0 hX) dX11_days_44 ?_
    refine jd_aload_n (pc := 47) 0 dX11_days_47 rfl rfl ?_
    refine jd_getR (pc := 48) (ci := 10) (k := 3) (r := 13) gX11_25 hX.1 rfl (zX_p3 hX) dX11_days_48 ?_
    refine jd_aload_n (pc := 51) 2 dX11_days_51 rfl rfl ?_
    refine jd_callVv (pc := 52) (M2 := mX3_pass) (id := 20) (ci := 2) (T := TX3) (N := 7) (av := [.ref (gb G + 1), .ref (gb G + 13), .ref (gb G + u2)]) kX3_pass sX3_pass rfl (zX_o4 hX).1 lX11_254 rfl rfl (Nat.le_of_ble_eq_true rfl) dX11_days_52 h ?_
    intro I1 J1 h
    refine jd_aload_n (pc := 55) 0 dX11_days_55 rfl rfl ?_
    refine jd_getR (pc := 56) (ci := 10) (k := 4) (r := 20) gX11_32 hX.1 rfl (zX_p4 hX) dX11_days_56 ?_
    refine jd_getI (pc := 59) (ci := 2) (k := 4) gX11_228 (zX_o4 hX).1 rfl dX11_days_59 ?_
    refine jd_if_ne (pc := 62) 67 dX11_days_62 (by decide) (fun hc => ?_) (fun hc => ?_)
    · have h := h.1 hc
      refine jd_iconst (pc := 67) (v := 0) dX11_days_67 (by decide) ?_
      refine jd_istore (pc := 68) [(4, .int 0), (0, .ref (gb G + 0)), (1, .int x1), (2, .ref (gb G + u2)), (3, .int x3)] dX11_days_68 (by decide) rfl ?_
      exact jd_lv (lv2 := [(0, .ref (gb G + 0)), (1, .int x1), (2, .ref (gb G + u2)), (3, .int x3), (4, .int 0)]) [1, 2, 3, 4, 0] rfl h
    · have h := h.2 hc
      refine jd_iload_n (pc := 65) 3 dX11_days_65 rfl rfl ?_
      exact jd_iretK (pc := 66) rfl rfl dX11_days_66 h
set_option maxRecDepth 4000 in
theorem rX11_days_70 {G : jdG} {n rc rs : Nat} {Z : jdL} {I : jdI} {J : jdJ} {K : Int32 → jdI → jdJ → Prop} {u2 : Nat} {x1 : Int32} {x3 : Int32} {x4 : Int32} (hX : zX Z) (h : (((I 20 4) ≤ x4 → Jd G mX11_days (jdFm G (qi Z K)) (n + 1) rc rs 33 [(0, .ref (gb G + 0)), (1, .int x1), (2, .ref (gb G + u2)), (3, .int (x3 + 1))] [] Z I J) ∧ (¬ (I 20 4) ≤ x4 → Cl G mX3_coachAt n 0 0 [.ref (gb G + 20), .int x4] Z I J (qi Z (fun v2 I1 J1 => Cl G mX8_acquaint n 0 0 [.ref (gb G + 13), .int v2] Z I1 J1 (qv Z (fun I3 J3 => Jd G mX11_days (jdFm G (qi Z K)) (n + 1) rc rs 70 [(0, .ref (gb G + 0)), (1, .int x1), (2, .ref (gb G + u2)), (3, .int x3), (4, .int (x4 + 1))] [] Z I3 J3))))))) : Jd G mX11_days (jdFm G (qi Z K)) (n + 1) rc rs 70 [(0, .ref (gb G + 0)), (1, .int x1), (2, .ref (gb G + u2)), (3, .int x3), (4, .int x4)] [] Z I J := by
  refine jd_iload (pc := 70) 4 dX11_days_70 rfl ?_
  refine jd_aload_n (pc := 72) 0 dX11_days_72 rfl rfl ?_
  refine jd_getR (pc := 73) (ci := 10) (k := 4) (r := 20) gX11_32 hX.1 rfl (zX_p4 hX) dX11_days_73 ?_
  refine jd_getI (pc := 76) (ci := 2) (k := 4) gX11_228 (zX_o4 hX).1 rfl dX11_days_76 ?_
  refine jd_icmp_ge (pc := 79) 104 dX11_days_79 (by decide) (fun hc => ?_) (fun hc => ?_)
  · have h := h.1 hc
    refine jd_iinc (pc := 104) (v := (x3 + 1)) 3 [(3, .int (x3 + 1)), (0, .ref (gb G + 0)), (1, .int x1), (2, .ref (gb G + u2)), (4, .int x4)] dX11_days_104 rfl rfl (by decide) rfl ?_
    refine jd_goto (pc := 107) 33 dX11_days_107 (by decide) ?_
    exact jd_lv (lv2 := [(0, .ref (gb G + 0)), (1, .int x1), (2, .ref (gb G + u2)), (3, .int (x3 + 1))]) [1, 2, 3, 0] rfl h
  · have h := h.2 hc
    refine jd_aload_n (pc := 82) 0 dX11_days_82 rfl rfl ?_
    refine jd_getR (pc := 83) (ci := 10) (k := 3) (r := 13) gX11_25 hX.1 rfl (zX_p3 hX) dX11_days_83 ?_
    refine jd_aload_n (pc := 86) 0 dX11_days_86 rfl rfl ?_
    refine jd_getR (pc := 87) (ci := 10) (k := 4) (r := 20) gX11_32 hX.1 rfl (zX_p4 hX) dX11_days_87 ?_
    refine jd_iload (pc := 90) 4 dX11_days_90 rfl ?_
    refine jd_callVi (pc := 92) (M2 := mX3_coachAt) (id := 20) (ci := 2) (T := TX3) (N := 7) (av := [.int x4]) kX3_coachAt sX3_coachAt rfl (zX_o4 hX).1 lX11_231 rfl rfl (Nat.le_of_ble_eq_true rfl) dX11_days_92 h ?_
    intro v2 I1 J1 h
    refine jd_callVv (pc := 95) (M2 := mX8_acquaint) (id := 13) (ci := 7) (T := TX8) (N := 11) (av := [.int v2]) kX8_acquaint sX8_acquaint rfl (zX_o3 hX).1 lX11_258 rfl rfl (Nat.le_of_ble_eq_true rfl) dX11_days_95 h ?_
    intro I3 J3 h
    refine jd_iinc (pc := 98) (v := (x4 + 1)) 4 [(4, .int (x4 + 1)), (0, .ref (gb G + 0)), (1, .int x1), (2, .ref (gb G + u2)), (3, .int x3)] dX11_days_98 rfl rfl (by decide) rfl ?_
    refine jd_goto (pc := 101) 70 dX11_days_101 (by decide) ?_
    exact jd_lv (lv2 := [(0, .ref (gb G + 0)), (1, .int x1), (2, .ref (gb G + u2)), (3, .int x3), (4, .int (x4 + 1))]) [1, 2, 3, 4, 0] rfl h
theorem eX11_days {G : jdG} {n : Nat} {Z : jdL} {I : jdI} {J : jdJ} {K : Int32 → jdI → jdJ → Prop} {x1 : Int32} (hX : zX Z) (h : Cl G mX11_manIn n 0 0 [.ref (gb G + 0), .int x1] Z I J (qm G Z (fun o I1 J1 => (o = none → Cl G mX11_whyNoMan n 0 0 [.ref (gb G + 0), .int x1] Z I1 J1 (qi Z (fun v4 I3 J3 => Cl G mX11_refuse n 0 0 [.ref (gb G + 0), .int v4] Z I3 J3 (qi Z (fun v6 I5 J5 => K v6 I5 J5))))) ∧ (∀ w2, o = some w2 → Cl G mX8_load n 0 0 [.ref (gb G + 13), .ref (gb G + 1)] Z I1 J1 (qv Z (fun I7 J7 => Jd G mX11_days (jdFm G (qi Z K)) (n + 1) 0 0 33 [(0, .ref (gb G + 0)), (1, .int x1), (2, .ref (gb G + w2)), (3, .int 0)] [] Z I7 J7)))))) : Cl G mX11_days (n + 1) 0 0 [.ref (gb G + 0), .int x1] Z I J (qi Z K) :=
  Cl.of (by decide +kernel) (Nat.le_of_ble_eq_true rfl) (rX11_days_0 hX h)
set_option maxRecDepth 4000 in
theorem rX11_ever_0 {G : jdG} {n rc rs : Nat} {Z : jdL} {I : jdI} {J : jdJ} {K : Int32 → jdI → jdJ → Prop} {x1 : Int32} (hX : zX Z) (h : ((x1 = 0 → Cl G mX8_load n 0 0 [.ref (gb G + 13), .ref (gb G + 1)] Z I J (qv Z (fun I1 J1 => ((¬ x1 = 0 → Cl G mX8_soonest n 0 0 [.ref (gb G + 13)] Z I1 J1 (qi Z (fun v4 I3 J3 => K v4 I3 J3))) ∧ (x1 = 0 → Cl G mX8_longest n 0 0 [.ref (gb G + 13)] Z I1 J1 (qi Z (fun v6 I5 J5 => K v6 I5 J5))))))) ∧ (¬ x1 = 0 → ((x1 = 1 → Cl G mX8_load n 0 0 [.ref (gb G + 13), .ref (gb G + 1)] Z I J (qv Z (fun I7 J7 => ((¬ x1 = 0 → Cl G mX8_soonest n 0 0 [.ref (gb G + 13)] Z I7 J7 (qi Z (fun v10 I9 J9 => K v10 I9 J9))) ∧ (x1 = 0 → Cl G mX8_longest n 0 0 [.ref (gb G + 13)] Z I7 J7 (qi Z (fun v12 I11 J11 => K v12 I11 J11))))))) ∧ (¬ x1 = 1 → Cl G mX11_refuse n 0 0 [.ref (gb G + 0), .int (-2)] Z I J (qi Z (fun v14 I13 J13 => K v14 I13 J13))))))) : Jd G mX11_ever (jdFm G (qi Z K)) (n + 1) rc rs 0 [(0, .ref (gb G + 0)), (1, .int x1)] [] Z I J := by
  refine jd_iload_n (pc := 0) 1 dX11_ever_0 rfl rfl ?_
  refine jd_if_eq (pc := 1) 16 dX11_ever_1 (by decide) (fun hc => ?_) (fun hc => ?_)
  · have h := h.1 hc
    refine jd_aload_n (pc := 16) 0 dX11_ever_16 rfl rfl ?_
    refine jd_getR (pc := 17) (ci := 10) (k := 3) (r := 13) gX11_25 hX.1 rfl (zX_p3 hX) dX11_ever_17 ?_
    refine jd_aload_n (pc := 20) 0 dX11_ever_20 rfl rfl ?_
    refine jd_getR (pc := 21) (ci := 10) (k := 0) (r := 1) gX11_10 hX.1 rfl (zX_p0 hX) dX11_ever_21 ?_
    refine jd_callVv (pc := 24) (M2 := mX8_load) (id := 13) (ci := 7) (T := TX8) (N := 11) (av := [.ref (gb G + 1)]) kX8_load sX8_load rfl (zX_o3 hX).1 lX11_128 rfl rfl (Nat.le_of_ble_eq_true rfl) dX11_ever_24 h ?_
    intro I1 J1 h
    refine jd_iload_n (pc := 27) 1 dX11_ever_27 rfl rfl ?_
    refine jd_if_ne (pc := 28) 41 dX11_ever_28 (by decide) (fun hc => ?_) (fun hc => ?_)
    · have h := h.1 hc
      refine jd_aload_n (pc := 41) 0 dX11_ever_41 rfl rfl ?_
      refine jd_getR (pc := 42) (ci := 10) (k := 3) (r := 13) gX11_25 hX.1 rfl (zX_p3 hX) dX11_ever_42 ?_
      refine jd_callVi (pc := 45) (M2 := mX8_soonest) (id := 13) (ci := 7) (T := TX8) (N := 11) (av := []) kX8_soonest sX8_soonest rfl (zX_o3 hX).1 lX11_264 rfl rfl (Nat.le_of_ble_eq_true rfl) dX11_ever_45 h ?_
      intro v4 I3 J3 h
      exact jd_iretK (pc := 48) rfl rfl dX11_ever_48 h
    · have h := h.2 hc
      refine jd_aload_n (pc := 31) 0 dX11_ever_31 rfl rfl ?_
      refine jd_getR (pc := 32) (ci := 10) (k := 3) (r := 13) gX11_25 hX.1 rfl (zX_p3 hX) dX11_ever_32 ?_
      refine jd_callVi (pc := 35) (M2 := mX8_longest) (id := 13) (ci := 7) (T := TX8) (N := 11) (av := []) kX8_longest sX8_longest rfl (zX_o3 hX).1 lX11_261 rfl rfl (Nat.le_of_ble_eq_true rfl) dX11_ever_35 h ?_
      intro v6 I5 J5 h
      refine jd_goto (pc := 38) 48 dX11_ever_38 (by decide) ?_
      exact jd_iretK (pc := 48) rfl rfl dX11_ever_48 h
  · have h := h.2 hc
    refine jd_iload_n (pc := 4) 1 dX11_ever_4 rfl rfl ?_
    refine jd_iconst (pc := 5) (v := 1) dX11_ever_5 (by decide) ?_
    refine jd_icmp_eq (pc := 6) 16 dX11_ever_6 (by decide) (fun hc => ?_) (fun hc => ?_)
    · have h := h.1 hc
      refine jd_aload_n (pc := 16) 0 dX11_ever_16 rfl rfl ?_
      refine jd_getR (pc := 17) (ci := 10) (k := 3) (r := 13) gX11_25 hX.1 rfl (zX_p3 hX) dX11_ever_17 ?_
      refine jd_aload_n (pc := 20) 0 dX11_ever_20 rfl rfl ?_
      refine jd_getR (pc := 21) (ci := 10) (k := 0) (r := 1) gX11_10 hX.1 rfl (zX_p0 hX) dX11_ever_21 ?_
      refine jd_callVv (pc := 24) (M2 := mX8_load) (id := 13) (ci := 7) (T := TX8) (N := 11) (av := [.ref (gb G + 1)]) kX8_load sX8_load rfl (zX_o3 hX).1 lX11_128 rfl rfl (Nat.le_of_ble_eq_true rfl) dX11_ever_24 h ?_
      intro I7 J7 h
      refine jd_iload_n (pc := 27) 1 dX11_ever_27 rfl rfl ?_
      refine jd_if_ne (pc := 28) 41 dX11_ever_28 (by decide) (fun hc => ?_) (fun hc => ?_)
      · have h := h.1 hc
        refine jd_aload_n (pc := 41) 0 dX11_ever_41 rfl rfl ?_
        refine jd_getR (pc := 42) (ci := 10) (k := 3) (r := 13) gX11_25 hX.1 rfl (zX_p3 hX) dX11_ever_42 ?_
        refine jd_callVi (pc := 45) (M2 := mX8_soonest) (id := 13) (ci := 7) (T := TX8) (N := 11) (av := []) kX8_soonest sX8_soonest rfl (zX_o3 hX).1 lX11_264 rfl rfl (Nat.le_of_ble_eq_true rfl) dX11_ever_45 h ?_
        intro v10 I9 J9 h
        exact jd_iretK (pc := 48) rfl rfl dX11_ever_48 h
      · have h := h.2 hc
        refine jd_aload_n (pc := 31) 0 dX11_ever_31 rfl rfl ?_
        refine jd_getR (pc := 32) (ci := 10) (k := 3) (r := 13) gX11_25 hX.1 rfl (zX_p3 hX) dX11_ever_32 ?_
        refine jd_callVi (pc := 35) (M2 := mX8_longest) (id := 13) (ci := 7) (T := TX8) (N := 11) (av := []) kX8_longest sX8_longest rfl (zX_o3 hX).1 lX11_261 rfl rfl (Nat.le_of_ble_eq_true rfl) dX11_ever_35 h ?_
        intro v12 I11 J11 h
        refine jd_goto (pc := 38) 48 dX11_ever_38 (by decide) ?_
        exact jd_iretK (pc := 48) rfl rfl dX11_ever_48 h
    · have h := h.2 hc
      refine jd_aload_n (pc := 9) 0 dX11_ever_9 rfl rfl ?_
      refine jd_bipush (pc := 10) (v := (-2)) dX11_ever_10 (by decide) ?_
      refine jd_callVi (pc := 12) (M2 := mX11_refuse) (id := 0) (ci := 10) (T := TX11) (N := 9) (av := [.int (-2)]) kX11_refuse sX11_refuse rfl hX.1 lX11_58 rfl rfl (Nat.le_of_ble_eq_true rfl) dX11_ever_12 h ?_
      intro v14 I13 J13 h
      exact jd_iretK (pc := 15) rfl rfl dX11_ever_15 h
theorem eX11_ever {G : jdG} {n : Nat} {Z : jdL} {I : jdI} {J : jdJ} {K : Int32 → jdI → jdJ → Prop} {x1 : Int32} (hX : zX Z) (h : ((x1 = 0 → Cl G mX8_load n 0 0 [.ref (gb G + 13), .ref (gb G + 1)] Z I J (qv Z (fun I1 J1 => ((¬ x1 = 0 → Cl G mX8_soonest n 0 0 [.ref (gb G + 13)] Z I1 J1 (qi Z (fun v4 I3 J3 => K v4 I3 J3))) ∧ (x1 = 0 → Cl G mX8_longest n 0 0 [.ref (gb G + 13)] Z I1 J1 (qi Z (fun v6 I5 J5 => K v6 I5 J5))))))) ∧ (¬ x1 = 0 → ((x1 = 1 → Cl G mX8_load n 0 0 [.ref (gb G + 13), .ref (gb G + 1)] Z I J (qv Z (fun I7 J7 => ((¬ x1 = 0 → Cl G mX8_soonest n 0 0 [.ref (gb G + 13)] Z I7 J7 (qi Z (fun v10 I9 J9 => K v10 I9 J9))) ∧ (x1 = 0 → Cl G mX8_longest n 0 0 [.ref (gb G + 13)] Z I7 J7 (qi Z (fun v12 I11 J11 => K v12 I11 J11))))))) ∧ (¬ x1 = 1 → Cl G mX11_refuse n 0 0 [.ref (gb G + 0), .int (-2)] Z I J (qi Z (fun v14 I13 J13 => K v14 I13 J13))))))) : Cl G mX11_ever (n + 1) 0 0 [.ref (gb G + 0), .int x1] Z I J (qi Z K) :=
  Cl.of (by decide +kernel) (Nat.le_of_ble_eq_true rfl) (rX11_ever_0 hX h)
set_option maxRecDepth 4000 in
theorem rX11_hire_0 {G : jdG} {n rc rs : Nat} {Z : jdL} {I : jdI} {J : jdJ} {K : Int32 → jdI → jdJ → Prop}  (hX : zX Z) (h : Cl G mX8_load n 0 0 [.ref (gb G + 13), .ref (gb G + 1)] Z I J (qv Z (fun I1 J1 => Cl G mX9_everybody n 0 0 [.ref (gb G + 1)] Z I1 J1 (qi Z (fun v4 I3 J3 => Cl G mX8_mostFrom n 0 0 [.ref (gb G + 13), .int v4] Z I3 J3 (qi Z (fun v6 I5 J5 => Cl G mX8_addStranger n 0 0 [.ref (gb G + 13)] Z I5 J5 (qv Z (fun I7 J7 => Cl G mX9_everybody n 0 0 [.ref (gb G + 1)] Z I7 J7 (qi Z (fun v10 I9 J9 => Cl G mX8_mostFrom n 0 0 [.ref (gb G + 13), .int (v10 ||| (1 <<< ((I9 1 3) &&& 31)))] Z I9 J9 (qi Z (fun v12 I11 J11 => K (v12 - v6) I11 J11))))))))))))) : Jd G mX11_hire (jdFm G (qi Z K)) (n + 1) rc rs 0 [(0, .ref (gb G + 0))] [] Z I J := by
  refine jd_aload_n (pc := 0) 0 dX11_hire_0 rfl rfl ?_
  refine jd_getR (pc := 1) (ci := 10) (k := 3) (r := 13) gX11_25 hX.1 rfl (zX_p3 hX) dX11_hire_1 ?_
  refine jd_aload_n (pc := 4) 0 dX11_hire_4 rfl rfl ?_
  refine jd_getR (pc := 5) (ci := 10) (k := 0) (r := 1) gX11_10 hX.1 rfl (zX_p0 hX) dX11_hire_5 ?_
  refine jd_callVv (pc := 8) (M2 := mX8_load) (id := 13) (ci := 7) (T := TX8) (N := 11) (av := [.ref (gb G + 1)]) kX8_load sX8_load rfl (zX_o3 hX).1 lX11_128 rfl rfl (Nat.le_of_ble_eq_true rfl) dX11_hire_8 h ?_
  intro I1 J1 h
  refine jd_aload_n (pc := 11) 0 dX11_hire_11 rfl rfl ?_
  refine jd_getR (pc := 12) (ci := 10) (k := 3) (r := 13) gX11_25 hX.1 rfl (zX_p3 hX) dX11_hire_12 ?_
  refine jd_aload_n (pc := 15) 0 dX11_hire_15 rfl rfl ?_
  refine jd_getR (pc := 16) (ci := 10) (k := 0) (r := 1) gX11_10 hX.1 rfl (zX_p0 hX) dX11_hire_16 ?_
  refine jd_callVi (pc := 19) (M2 := mX9_everybody) (id := 1) (ci := 8) (T := TX9) (N := 10) (av := []) kX9_everybody sX9_everybody rfl (zX_o0 hX).1 lX11_132 rfl rfl (Nat.le_of_ble_eq_true rfl) dX11_hire_19 h ?_
  intro v4 I3 J3 h
  refine jd_callVi (pc := 22) (M2 := mX8_mostFrom) (id := 13) (ci := 7) (T := TX8) (N := 11) (av := [.int v4]) kX8_mostFrom sX8_mostFrom rfl (zX_o3 hX).1 lX11_219 rfl rfl (Nat.le_of_ble_eq_true rfl) dX11_hire_22 h ?_
  intro v6 I5 J5 h
  refine jd_istore_n (pc := 25) [(1, .int v6), (0, .ref (gb G + 0))] dX11_hire_25 rfl (by decide) rfl ?_
  refine jd_aload_n (pc := 26) 1 dX11_hire_26 rfl rfl ?_
  refine jd_getR (pc := 27) (ci := 10) (k := 3) (r := 13) gX11_25 hX.1 rfl (zX_p3 hX) dX11_hire_27 ?_
  refine jd_callVv (pc := 30) (M2 := mX8_addStranger) (id := 13) (ci := 7) (T := TX8) (N := 11) (av := []) kX8_addStranger sX8_addStranger rfl (zX_o3 hX).1 lX11_267 rfl rfl (Nat.le_of_ble_eq_true rfl) dX11_hire_30 h ?_
  intro I7 J7 h
  refine jd_aload_n (pc := 33) 1 dX11_hire_33 rfl rfl ?_
  refine jd_getR (pc := 34) (ci := 10) (k := 3) (r := 13) gX11_25 hX.1 rfl (zX_p3 hX) dX11_hire_34 ?_
  refine jd_aload_n (pc := 37) 1 dX11_hire_37 rfl rfl ?_
  refine jd_getR (pc := 38) (ci := 10) (k := 0) (r := 1) gX11_10 hX.1 rfl (zX_p0 hX) dX11_hire_38 ?_
  refine jd_callVi (pc := 41) (M2 := mX9_everybody) (id := 1) (ci := 8) (T := TX9) (N := 10) (av := []) kX9_everybody sX9_everybody rfl (zX_o0 hX).1 lX11_132 rfl rfl (Nat.le_of_ble_eq_true rfl) dX11_hire_41 h ?_
  intro v10 I9 J9 h
  refine jd_iconst (pc := 44) (v := 1) dX11_hire_44 (by decide) ?_
  refine jd_aload_n (pc := 45) 1 dX11_hire_45 rfl rfl ?_
  refine jd_getR (pc := 46) (ci := 10) (k := 0) (r := 1) gX11_10 hX.1 rfl (zX_p0 hX) dX11_hire_46 ?_
  refine jd_getI (pc := 49) (ci := 8) (k := 3) gX11_145 (zX_o0 hX).1 rfl dX11_hire_49 ?_
  refine jd_ishl (pc := 52) dX11_hire_52 ?_
  refine jd_ior (pc := 53) dX11_hire_53 ?_
  refine jd_callVi (pc := 54) (M2 := mX8_mostFrom) (id := 13) (ci := 7) (T := TX8) (N := 11) (av := [.int (v10 ||| (1 <<< ((I9 1 3) &&& 31)))]) kX8_mostFrom sX8_mostFrom rfl (zX_o3 hX).1 lX11_219 rfl rfl (Nat.le_of_ble_eq_true rfl) dX11_hire_54 h ?_
  intro v12 I11 J11 h
  refine jd_iload_n (pc := 57) 0 dX11_hire_57 rfl rfl ?_
  refine jd_isub (pc := 58) dX11_hire_58 ?_
  exact jd_iretK (pc := 59) rfl rfl dX11_hire_59 h
theorem eX11_hire {G : jdG} {n : Nat} {Z : jdL} {I : jdI} {J : jdJ} {K : Int32 → jdI → jdJ → Prop}  (hX : zX Z) (h : Cl G mX8_load n 0 0 [.ref (gb G + 13), .ref (gb G + 1)] Z I J (qv Z (fun I1 J1 => Cl G mX9_everybody n 0 0 [.ref (gb G + 1)] Z I1 J1 (qi Z (fun v4 I3 J3 => Cl G mX8_mostFrom n 0 0 [.ref (gb G + 13), .int v4] Z I3 J3 (qi Z (fun v6 I5 J5 => Cl G mX8_addStranger n 0 0 [.ref (gb G + 13)] Z I5 J5 (qv Z (fun I7 J7 => Cl G mX9_everybody n 0 0 [.ref (gb G + 1)] Z I7 J7 (qi Z (fun v10 I9 J9 => Cl G mX8_mostFrom n 0 0 [.ref (gb G + 13), .int (v10 ||| (1 <<< ((I9 1 3) &&& 31)))] Z I9 J9 (qi Z (fun v12 I11 J11 => K (v12 - v6) I11 J11))))))))))))) : Cl G mX11_hire (n + 1) 0 0 [.ref (gb G + 0)] Z I J (qi Z K) :=
  Cl.of (by decide +kernel) (Nat.le_of_ble_eq_true rfl) (rX11_hire_0 hX h)
set_option maxRecDepth 4000 in
theorem rX11_feast_0 {G : jdG} {n rc rs : Nat} {Z : jdL} {I : jdI} {J : jdJ} {K : Int32 → jdI → jdJ → Prop} {x1 : Int32} (hX : zX Z) (h : Cl G mX9_hasAll n 0 0 [.ref (gb G + 1), .int x1] Z I J (qi Z (fun v2 I1 J1 => ((¬ v2 = 0 → Cl G mX8_load n 0 0 [.ref (gb G + 13), .ref (gb G + 1)] Z I1 J1 (qv Z (fun I3 J3 => Cl G mX8_longest n 0 0 [.ref (gb G + 13)] Z I3 J3 (qi Z (fun v6 I5 J5 => Cl G mX8_acquaint n 0 0 [.ref (gb G + 13), .int x1] Z I5 J5 (qv Z (fun I7 J7 => Cl G mX8_longest n 0 0 [.ref (gb G + 13)] Z I7 J7 (qi Z (fun v10 I9 J9 => K (v6 - v10) I9 J9))))))))) ∧ (v2 = 0 → Cl G mX11_refuse n 0 0 [.ref (gb G + 0), .int (-2)] Z I1 J1 (qi Z (fun v12 I11 J11 => K v12 I11 J11))))))) : Jd G mX11_feast (jdFm G (qi Z K)) (n + 1) rc rs 0 [(0, .ref (gb G + 0)), (1, .int x1)] [] Z I J := by
  refine jd_aload_n (pc := 0) 0 dX11_feast_0 rfl rfl ?_
  refine jd_getR (pc := 1) (ci := 10) (k := 0) (r := 1) gX11_10 hX.1 rfl (zX_p0 hX) dX11_feast_1 ?_
  refine jd_iload_n (pc := 4) 1 dX11_feast_4 rfl rfl ?_
  refine jd_callVi (pc := 5) (M2 := mX9_hasAll) (id := 1) (ci := 8) (T := TX9) (N := 10) (av := [.int x1]) kX9_hasAll sX9_hasAll rfl (zX_o0 hX).1 lX11_207 rfl rfl (Nat.le_of_ble_eq_true rfl) dX11_feast_5 h ?_
  intro v2 I1 J1 h
  refine jd_if_ne (pc := 8) 18 dX11_feast_8 (by decide) (fun hc => ?_) (fun hc => ?_)
  · have h := h.1 hc
    refine jd_aload_n (pc := 18) 0 dX11_feast_18 rfl rfl ?_
    refine jd_getR (pc := 19) (ci := 10) (k := 3) (r := 13) gX11_25 hX.1 rfl (zX_p3 hX) dX11_feast_19 ?_
    refine jd_aload_n (pc := 22) 0 dX11_feast_22 rfl rfl ?_
    refine jd_getR (pc := 23) (ci := 10) (k := 0) (r := 1) gX11_10 hX.1 rfl (zX_p0 hX) dX11_feast_23 ?_
    refine jd_callVv (pc := 26) (M2 := mX8_load) (id := 13) (ci := 7) (T := TX8) (N := 11) (av := [.ref (gb G + 1)]) kX8_load sX8_load rfl (zX_o3 hX).1 lX11_128 rfl rfl (Nat.le_of_ble_eq_true rfl) dX11_feast_26 h ?_
    intro I3 J3 h
    refine jd_aload_n (pc := 29) 0 dX11_feast_29 rfl rfl ?_
    refine jd_getR (pc := 30) (ci := 10) (k := 3) (r := 13) gX11_25 hX.1 rfl (zX_p3 hX) dX11_feast_30 ?_
    refine jd_callVi (pc := 33) (M2 := mX8_longest) (id := 13) (ci := 7) (T := TX8) (N := 11) (av := []) kX8_longest sX8_longest rfl (zX_o3 hX).1 lX11_261 rfl rfl (Nat.le_of_ble_eq_true rfl) dX11_feast_33 h ?_
    intro v6 I5 J5 h
    refine jd_istore_n (pc := 36) [(2, .int v6), (0, .ref (gb G + 0)), (1, .int x1)] dX11_feast_36 rfl (by decide) rfl ?_
    refine jd_aload_n (pc := 37) 1 dX11_feast_37 rfl rfl ?_
    refine jd_getR (pc := 38) (ci := 10) (k := 3) (r := 13) gX11_25 hX.1 rfl (zX_p3 hX) dX11_feast_38 ?_
    refine jd_iload_n (pc := 41) 2 dX11_feast_41 rfl rfl ?_
    refine jd_callVv (pc := 42) (M2 := mX8_acquaint) (id := 13) (ci := 7) (T := TX8) (N := 11) (av := [.int x1]) kX8_acquaint sX8_acquaint rfl (zX_o3 hX).1 lX11_258 rfl rfl (Nat.le_of_ble_eq_true rfl) dX11_feast_42 h ?_
    intro I7 J7 h
    refine jd_iload_n (pc := 45) 0 dX11_feast_45 rfl rfl ?_
    refine jd_aload_n (pc := 46) 1 dX11_feast_46 rfl rfl ?_
    refine jd_getR (pc := 47) (ci := 10) (k := 3) (r := 13) gX11_25 hX.1 rfl (zX_p3 hX) dX11_feast_47 ?_
    refine jd_callVi (pc := 50) (M2 := mX8_longest) (id := 13) (ci := 7) (T := TX8) (N := 11) (av := []) kX8_longest sX8_longest rfl (zX_o3 hX).1 lX11_261 rfl rfl (Nat.le_of_ble_eq_true rfl) dX11_feast_50 h ?_
    intro v10 I9 J9 h
    refine jd_isub (pc := 53) dX11_feast_53 ?_
    exact jd_iretK (pc := 54) rfl rfl dX11_feast_54 h
  · have h := h.2 hc
    refine jd_aload_n (pc := 11) 0 dX11_feast_11 rfl rfl ?_
    refine jd_bipush (pc := 12) (v := (-2)) dX11_feast_12 (by decide) ?_
    refine jd_callVi (pc := 14) (M2 := mX11_refuse) (id := 0) (ci := 10) (T := TX11) (N := 9) (av := [.int (-2)]) kX11_refuse sX11_refuse rfl hX.1 lX11_58 rfl rfl (Nat.le_of_ble_eq_true rfl) dX11_feast_14 h ?_
    intro v12 I11 J11 h
    exact jd_iretK (pc := 17) rfl rfl dX11_feast_17 h
theorem eX11_feast {G : jdG} {n : Nat} {Z : jdL} {I : jdI} {J : jdJ} {K : Int32 → jdI → jdJ → Prop} {x1 : Int32} (hX : zX Z) (h : Cl G mX9_hasAll n 0 0 [.ref (gb G + 1), .int x1] Z I J (qi Z (fun v2 I1 J1 => ((¬ v2 = 0 → Cl G mX8_load n 0 0 [.ref (gb G + 13), .ref (gb G + 1)] Z I1 J1 (qv Z (fun I3 J3 => Cl G mX8_longest n 0 0 [.ref (gb G + 13)] Z I3 J3 (qi Z (fun v6 I5 J5 => Cl G mX8_acquaint n 0 0 [.ref (gb G + 13), .int x1] Z I5 J5 (qv Z (fun I7 J7 => Cl G mX8_longest n 0 0 [.ref (gb G + 13)] Z I7 J7 (qi Z (fun v10 I9 J9 => K (v6 - v10) I9 J9))))))))) ∧ (v2 = 0 → Cl G mX11_refuse n 0 0 [.ref (gb G + 0), .int (-2)] Z I1 J1 (qi Z (fun v12 I11 J11 => K v12 I11 J11))))))) : Cl G mX11_feast (n + 1) 0 0 [.ref (gb G + 0), .int x1] Z I J (qi Z K) :=
  Cl.of (by decide +kernel) (Nat.le_of_ble_eq_true rfl) (rX11_feast_0 hX h)
set_option maxRecDepth 4000 in
theorem rX11_closes_0 {G : jdG} {n rc rs : Nat} {Z : jdL} {I : jdI} {J : jdJ} {K : Int32 → jdI → jdJ → Prop} {x1 : Int32} {x2 : Int32} (hX : zX Z) (h : Cl G mX9_hasTwo n 0 0 [.ref (gb G + 1), .int x1, .int x2] Z I J (qi Z (fun v2 I1 J1 => ((¬ v2 = 0 → Cl G mX8_load n 0 0 [.ref (gb G + 13), .ref (gb G + 1)] Z I1 J1 (qv Z (fun I3 J3 => Cl G mX8_countWith n 0 0 [.ref (gb G + 13), .int ((1 <<< (x1 &&& 31)) ||| (1 <<< (x2 &&& 31)))] Z I3 J3 (qi Z (fun v6 I5 J5 => K v6 I5 J5))))) ∧ (v2 = 0 → Cl G mX11_refuse n 0 0 [.ref (gb G + 0), .int (-2)] Z I1 J1 (qi Z (fun v8 I7 J7 => K v8 I7 J7))))))) : Jd G mX11_closes (jdFm G (qi Z K)) (n + 1) rc rs 0 [(0, .ref (gb G + 0)), (1, .int x1), (2, .int x2)] [] Z I J := by
  refine jd_aload_n (pc := 0) 0 dX11_closes_0 rfl rfl ?_
  refine jd_getR (pc := 1) (ci := 10) (k := 0) (r := 1) gX11_10 hX.1 rfl (zX_p0 hX) dX11_closes_1 ?_
  refine jd_iload_n (pc := 4) 1 dX11_closes_4 rfl rfl ?_
  refine jd_iload_n (pc := 5) 2 dX11_closes_5 rfl rfl ?_
  refine jd_callVi (pc := 6) (M2 := mX9_hasTwo) (id := 1) (ci := 8) (T := TX9) (N := 10) (av := [.int x1, .int x2]) kX9_hasTwo sX9_hasTwo rfl (zX_o0 hX).1 lX11_161 rfl rfl (Nat.le_of_ble_eq_true rfl) dX11_closes_6 h ?_
  intro v2 I1 J1 h
  refine jd_if_ne (pc := 9) 19 dX11_closes_9 (by decide) (fun hc => ?_) (fun hc => ?_)
  · have h := h.1 hc
    refine jd_aload_n (pc := 19) 0 dX11_closes_19 rfl rfl ?_
    refine jd_getR (pc := 20) (ci := 10) (k := 3) (r := 13) gX11_25 hX.1 rfl (zX_p3 hX) dX11_closes_20 ?_
    refine jd_aload_n (pc := 23) 0 dX11_closes_23 rfl rfl ?_
    refine jd_getR (pc := 24) (ci := 10) (k := 0) (r := 1) gX11_10 hX.1 rfl (zX_p0 hX) dX11_closes_24 ?_
    refine jd_callVv (pc := 27) (M2 := mX8_load) (id := 13) (ci := 7) (T := TX8) (N := 11) (av := [.ref (gb G + 1)]) kX8_load sX8_load rfl (zX_o3 hX).1 lX11_128 rfl rfl (Nat.le_of_ble_eq_true rfl) dX11_closes_27 h ?_
    intro I3 J3 h
    refine jd_aload_n (pc := 30) 0 dX11_closes_30 rfl rfl ?_
    refine jd_getR (pc := 31) (ci := 10) (k := 3) (r := 13) gX11_25 hX.1 rfl (zX_p3 hX) dX11_closes_31 ?_
    refine jd_iconst (pc := 34) (v := 1) dX11_closes_34 (by decide) ?_
    refine jd_iload_n (pc := 35) 1 dX11_closes_35 rfl rfl ?_
    refine jd_ishl (pc := 36) dX11_closes_36 ?_
    refine jd_iconst (pc := 37) (v := 1) dX11_closes_37 (by decide) ?_
    refine jd_iload_n (pc := 38) 2 dX11_closes_38 rfl rfl ?_
    refine jd_ishl (pc := 39) dX11_closes_39 ?_
    refine jd_ior (pc := 40) dX11_closes_40 ?_
    refine jd_callVi (pc := 41) (M2 := mX8_countWith) (id := 13) (ci := 7) (T := TX8) (N := 11) (av := [.int ((1 <<< (x1 &&& 31)) ||| (1 <<< (x2 &&& 31)))]) kX8_countWith sX8_countWith rfl (zX_o3 hX).1 lX11_270 rfl rfl (Nat.le_of_ble_eq_true rfl) dX11_closes_41 h ?_
    intro v6 I5 J5 h
    exact jd_iretK (pc := 44) rfl rfl dX11_closes_44 h
  · have h := h.2 hc
    refine jd_aload_n (pc := 12) 0 dX11_closes_12 rfl rfl ?_
    refine jd_bipush (pc := 13) (v := (-2)) dX11_closes_13 (by decide) ?_
    refine jd_callVi (pc := 15) (M2 := mX11_refuse) (id := 0) (ci := 10) (T := TX11) (N := 9) (av := [.int (-2)]) kX11_refuse sX11_refuse rfl hX.1 lX11_58 rfl rfl (Nat.le_of_ble_eq_true rfl) dX11_closes_15 h ?_
    intro v8 I7 J7 h
    exact jd_iretK (pc := 18) rfl rfl dX11_closes_18 h
theorem eX11_closes {G : jdG} {n : Nat} {Z : jdL} {I : jdI} {J : jdJ} {K : Int32 → jdI → jdJ → Prop} {x1 : Int32} {x2 : Int32} (hX : zX Z) (h : Cl G mX9_hasTwo n 0 0 [.ref (gb G + 1), .int x1, .int x2] Z I J (qi Z (fun v2 I1 J1 => ((¬ v2 = 0 → Cl G mX8_load n 0 0 [.ref (gb G + 13), .ref (gb G + 1)] Z I1 J1 (qv Z (fun I3 J3 => Cl G mX8_countWith n 0 0 [.ref (gb G + 13), .int ((1 <<< (x1 &&& 31)) ||| (1 <<< (x2 &&& 31)))] Z I3 J3 (qi Z (fun v6 I5 J5 => K v6 I5 J5))))) ∧ (v2 = 0 → Cl G mX11_refuse n 0 0 [.ref (gb G + 0), .int (-2)] Z I1 J1 (qi Z (fun v8 I7 J7 => K v8 I7 J7))))))) : Cl G mX11_closes (n + 1) 0 0 [.ref (gb G + 0), .int x1, .int x2] Z I J (qi Z K) :=
  Cl.of (by decide +kernel) (Nat.le_of_ble_eq_true rfl) (rX11_closes_0 hX h)
set_option maxRecDepth 4000 in
theorem rX11_worst_0 {G : jdG} {n rc rs : Nat} {Z : jdL} {I : jdI} {J : jdJ} {K : Int32 → jdI → jdJ → Prop}  (hX : zX Z) (h : Cl G mX8_load n 0 0 [.ref (gb G + 13), .ref (gb G + 1)] Z I J (qv Z (fun I1 J1 => Cl G mX8_closest n 0 0 [.ref (gb G + 13)] Z I1 J1 (qi Z (fun v4 I3 J3 => ((¬ v4 = (-1) → K v4 I3 J3) ∧ (v4 = (-1) → Cl G mX11_refuse n 0 0 [.ref (gb G + 0), .int (-5)] Z I3 J3 (qi Z (fun v6 I5 J5 => K v6 I5 J5))))))))) : Jd G mX11_worst (jdFm G (qi Z K)) (n + 1) rc rs 0 [(0, .ref (gb G + 0))] [] Z I J := by
  refine jd_aload_n (pc := 0) 0 dX11_worst_0 rfl rfl ?_
  refine jd_getR (pc := 1) (ci := 10) (k := 3) (r := 13) gX11_25 hX.1 rfl (zX_p3 hX) dX11_worst_1 ?_
  refine jd_aload_n (pc := 4) 0 dX11_worst_4 rfl rfl ?_
  refine jd_getR (pc := 5) (ci := 10) (k := 0) (r := 1) gX11_10 hX.1 rfl (zX_p0 hX) dX11_worst_5 ?_
  refine jd_callVv (pc := 8) (M2 := mX8_load) (id := 13) (ci := 7) (T := TX8) (N := 11) (av := [.ref (gb G + 1)]) kX8_load sX8_load rfl (zX_o3 hX).1 lX11_128 rfl rfl (Nat.le_of_ble_eq_true rfl) dX11_worst_8 h ?_
  intro I1 J1 h
  refine jd_aload_n (pc := 11) 0 dX11_worst_11 rfl rfl ?_
  refine jd_getR (pc := 12) (ci := 10) (k := 3) (r := 13) gX11_25 hX.1 rfl (zX_p3 hX) dX11_worst_12 ?_
  refine jd_callVi (pc := 15) (M2 := mX8_closest) (id := 13) (ci := 7) (T := TX8) (N := 11) (av := []) kX8_closest sX8_closest rfl (zX_o3 hX).1 lX11_273 rfl rfl (Nat.le_of_ble_eq_true rfl) dX11_worst_15 h ?_
  intro v4 I3 J3 h
  refine jd_istore_n (pc := 18) [(1, .int v4), (0, .ref (gb G + 0))] dX11_worst_18 rfl (by decide) rfl ?_
  refine jd_iload_n (pc := 19) 0 dX11_worst_19 rfl rfl ?_
  refine jd_iconst (pc := 20) (v := (-1)) dX11_worst_20 (by decide) ?_
  refine jd_icmp_ne (pc := 21) 33 dX11_worst_21 (by decide) (fun hc => ?_) (fun hc => ?_)
  · have h := h.1 hc
    refine jd_iload_n (pc := 33) 0 dX11_worst_33 rfl rfl ?_
    exact jd_iretK (pc := 34) rfl rfl dX11_worst_34 h
  · have h := h.2 hc
    refine jd_aload_n (pc := 24) 1 dX11_worst_24 rfl rfl ?_
    refine jd_bipush (pc := 25) (v := (-5)) dX11_worst_25 (by decide) ?_
    refine jd_callVi (pc := 27) (M2 := mX11_refuse) (id := 0) (ci := 10) (T := TX11) (N := 9) (av := [.int (-5)]) kX11_refuse sX11_refuse rfl hX.1 lX11_58 rfl rfl (Nat.le_of_ble_eq_true rfl) dX11_worst_27 h ?_
    intro v6 I5 J5 h
    refine jd_goto (pc := 30) 34 dX11_worst_30 (by decide) ?_
    exact jd_iretK (pc := 34) rfl rfl dX11_worst_34 h
theorem eX11_worst {G : jdG} {n : Nat} {Z : jdL} {I : jdI} {J : jdJ} {K : Int32 → jdI → jdJ → Prop}  (hX : zX Z) (h : Cl G mX8_load n 0 0 [.ref (gb G + 13), .ref (gb G + 1)] Z I J (qv Z (fun I1 J1 => Cl G mX8_closest n 0 0 [.ref (gb G + 13)] Z I1 J1 (qi Z (fun v4 I3 J3 => ((¬ v4 = (-1) → K v4 I3 J3) ∧ (v4 = (-1) → Cl G mX11_refuse n 0 0 [.ref (gb G + 0), .int (-5)] Z I3 J3 (qi Z (fun v6 I5 J5 => K v6 I5 J5))))))))) : Cl G mX11_worst (n + 1) 0 0 [.ref (gb G + 0)] Z I J (qi Z K) :=
  Cl.of (by decide +kernel) (Nat.le_of_ble_eq_true rfl) (rX11_worst_0 hX h)
set_option maxRecDepth 4000 in
theorem rX11_fits_0 {G : jdG} {n rc rs : Nat} {Z : jdL} {I : jdI} {J : jdJ} {K : Int32 → jdI → jdJ → Prop} {x1 : Int32} (hX : zX Z) (h : Cl G mX11_canBeSecret n 0 0 [.ref (gb G + 0), .int x1] Z I J (qi Z (fun v2 I1 J1 => ((¬ v2 = 0 → Cl G mX8_load n 0 0 [.ref (gb G + 13), .ref (gb G + 1)] Z I1 J1 (qv Z (fun I3 J3 => Cl G mX8_countWays n 0 0 [.ref (gb G + 13), .int x1] Z I3 J3 (qi Z (fun v6 I5 J5 => K v6 I5 J5))))) ∧ (v2 = 0 → Cl G mX11_refuse n 0 0 [.ref (gb G + 0), .int (-2)] Z I1 J1 (qi Z (fun v8 I7 J7 => K v8 I7 J7))))))) : Jd G mX11_fits (jdFm G (qi Z K)) (n + 1) rc rs 0 [(0, .ref (gb G + 0)), (1, .int x1)] [] Z I J := by
  refine jd_aload_n (pc := 0) 0 dX11_fits_0 rfl rfl ?_
  refine jd_iload_n (pc := 1) 1 dX11_fits_1 rfl rfl ?_
  refine jd_callVi (pc := 2) (M2 := mX11_canBeSecret) (id := 0) (ci := 10) (T := TX11) (N := 9) (av := [.int x1]) kX11_canBeSecret sX11_canBeSecret rfl hX.1 lX11_276 rfl rfl (Nat.le_of_ble_eq_true rfl) dX11_fits_2 h ?_
  intro v2 I1 J1 h
  refine jd_if_ne (pc := 5) 15 dX11_fits_5 (by decide) (fun hc => ?_) (fun hc => ?_)
  · have h := h.1 hc
    refine jd_aload_n (pc := 15) 0 dX11_fits_15 rfl rfl ?_
    refine jd_getR (pc := 16) (ci := 10) (k := 3) (r := 13) gX11_25 hX.1 rfl (zX_p3 hX) dX11_fits_16 ?_
    refine jd_aload_n (pc := 19) 0 dX11_fits_19 rfl rfl ?_
    refine jd_getR (pc := 20) (ci := 10) (k := 0) (r := 1) gX11_10 hX.1 rfl (zX_p0 hX) dX11_fits_20 ?_
    refine jd_callVv (pc := 23) (M2 := mX8_load) (id := 13) (ci := 7) (T := TX8) (N := 11) (av := [.ref (gb G + 1)]) kX8_load sX8_load rfl (zX_o3 hX).1 lX11_128 rfl rfl (Nat.le_of_ble_eq_true rfl) dX11_fits_23 h ?_
    intro I3 J3 h
    refine jd_aload_n (pc := 26) 0 dX11_fits_26 rfl rfl ?_
    refine jd_getR (pc := 27) (ci := 10) (k := 3) (r := 13) gX11_25 hX.1 rfl (zX_p3 hX) dX11_fits_27 ?_
    refine jd_iload_n (pc := 30) 1 dX11_fits_30 rfl rfl ?_
    refine jd_callVi (pc := 31) (M2 := mX8_countWays) (id := 13) (ci := 7) (T := TX8) (N := 11) (av := [.int x1]) kX8_countWays sX8_countWays rfl (zX_o3 hX).1 lX11_279 rfl rfl (Nat.le_of_ble_eq_true rfl) dX11_fits_31 h ?_
    intro v6 I5 J5 h
    exact jd_iretK (pc := 34) rfl rfl dX11_fits_34 h
  · have h := h.2 hc
    refine jd_aload_n (pc := 8) 0 dX11_fits_8 rfl rfl ?_
    refine jd_bipush (pc := 9) (v := (-2)) dX11_fits_9 (by decide) ?_
    refine jd_callVi (pc := 11) (M2 := mX11_refuse) (id := 0) (ci := 10) (T := TX11) (N := 9) (av := [.int (-2)]) kX11_refuse sX11_refuse rfl hX.1 lX11_58 rfl rfl (Nat.le_of_ble_eq_true rfl) dX11_fits_11 h ?_
    intro v8 I7 J7 h
    exact jd_iretK (pc := 14) rfl rfl dX11_fits_14 h
theorem eX11_fits {G : jdG} {n : Nat} {Z : jdL} {I : jdI} {J : jdJ} {K : Int32 → jdI → jdJ → Prop} {x1 : Int32} (hX : zX Z) (h : Cl G mX11_canBeSecret n 0 0 [.ref (gb G + 0), .int x1] Z I J (qi Z (fun v2 I1 J1 => ((¬ v2 = 0 → Cl G mX8_load n 0 0 [.ref (gb G + 13), .ref (gb G + 1)] Z I1 J1 (qv Z (fun I3 J3 => Cl G mX8_countWays n 0 0 [.ref (gb G + 13), .int x1] Z I3 J3 (qi Z (fun v6 I5 J5 => K v6 I5 J5))))) ∧ (v2 = 0 → Cl G mX11_refuse n 0 0 [.ref (gb G + 0), .int (-2)] Z I1 J1 (qi Z (fun v8 I7 J7 => K v8 I7 J7))))))) : Cl G mX11_fits (n + 1) 0 0 [.ref (gb G + 0), .int x1] Z I J (qi Z K) :=
  Cl.of (by decide +kernel) (Nat.le_of_ble_eq_true rfl) (rX11_fits_0 hX h)
set_option maxRecDepth 4000 in
theorem rX11_sure_0 {G : jdG} {n rc rs : Nat} {Z : jdL} {I : jdI} {J : jdJ} {K : Int32 → jdI → jdJ → Prop} {x1 : Int32} (hX : zX Z) (h : Cl G mX11_canBeSecret n 0 0 [.ref (gb G + 0), .int x1] Z I J (qi Z (fun v2 I1 J1 => ((¬ v2 = 0 → Cl G mX8_load n 0 0 [.ref (gb G + 13), .ref (gb G + 1)] Z I1 J1 (qv Z (fun I3 J3 => Cl G mX8_surest n 0 0 [.ref (gb G + 13), .int x1] Z I3 J3 (qi Z (fun v6 I5 J5 => ((¬ v6 = (-1) → K v6 I5 J5) ∧ (v6 = (-1) → Cl G mX11_refuse n 0 0 [.ref (gb G + 0), .int (-5)] Z I5 J5 (qi Z (fun v8 I7 J7 => K v8 I7 J7))))))))) ∧ (v2 = 0 → Cl G mX11_refuse n 0 0 [.ref (gb G + 0), .int (-2)] Z I1 J1 (qi Z (fun v10 I9 J9 => K v10 I9 J9))))))) : Jd G mX11_sure (jdFm G (qi Z K)) (n + 1) rc rs 0 [(0, .ref (gb G + 0)), (1, .int x1)] [] Z I J := by
  refine jd_aload_n (pc := 0) 0 dX11_sure_0 rfl rfl ?_
  refine jd_iload_n (pc := 1) 1 dX11_sure_1 rfl rfl ?_
  refine jd_callVi (pc := 2) (M2 := mX11_canBeSecret) (id := 0) (ci := 10) (T := TX11) (N := 9) (av := [.int x1]) kX11_canBeSecret sX11_canBeSecret rfl hX.1 lX11_276 rfl rfl (Nat.le_of_ble_eq_true rfl) dX11_sure_2 h ?_
  intro v2 I1 J1 h
  refine jd_if_ne (pc := 5) 15 dX11_sure_5 (by decide) (fun hc => ?_) (fun hc => ?_)
  · have h := h.1 hc
    refine jd_aload_n (pc := 15) 0 dX11_sure_15 rfl rfl ?_
    refine jd_getR (pc := 16) (ci := 10) (k := 3) (r := 13) gX11_25 hX.1 rfl (zX_p3 hX) dX11_sure_16 ?_
    refine jd_aload_n (pc := 19) 0 dX11_sure_19 rfl rfl ?_
    refine jd_getR (pc := 20) (ci := 10) (k := 0) (r := 1) gX11_10 hX.1 rfl (zX_p0 hX) dX11_sure_20 ?_
    refine jd_callVv (pc := 23) (M2 := mX8_load) (id := 13) (ci := 7) (T := TX8) (N := 11) (av := [.ref (gb G + 1)]) kX8_load sX8_load rfl (zX_o3 hX).1 lX11_128 rfl rfl (Nat.le_of_ble_eq_true rfl) dX11_sure_23 h ?_
    intro I3 J3 h
    refine jd_aload_n (pc := 26) 0 dX11_sure_26 rfl rfl ?_
    refine jd_getR (pc := 27) (ci := 10) (k := 3) (r := 13) gX11_25 hX.1 rfl (zX_p3 hX) dX11_sure_27 ?_
    refine jd_iload_n (pc := 30) 1 dX11_sure_30 rfl rfl ?_
    refine jd_callVi (pc := 31) (M2 := mX8_surest) (id := 13) (ci := 7) (T := TX8) (N := 11) (av := [.int x1]) kX8_surest sX8_surest rfl (zX_o3 hX).1 lX11_282 rfl rfl (Nat.le_of_ble_eq_true rfl) dX11_sure_31 h ?_
    intro v6 I5 J5 h
    refine jd_istore_n (pc := 34) [(2, .int v6), (0, .ref (gb G + 0)), (1, .int x1)] dX11_sure_34 rfl (by decide) rfl ?_
    refine jd_iload_n (pc := 35) 0 dX11_sure_35 rfl rfl ?_
    refine jd_iconst (pc := 36) (v := (-1)) dX11_sure_36 (by decide) ?_
    refine jd_icmp_ne (pc := 37) 49 dX11_sure_37 (by decide) (fun hc => ?_) (fun hc => ?_)
    · have h := h.1 hc
      refine jd_iload_n (pc := 49) 0 dX11_sure_49 rfl rfl ?_
      exact jd_iretK (pc := 50) rfl rfl dX11_sure_50 h
    · have h := h.2 hc
      refine jd_aload_n (pc := 40) 1 dX11_sure_40 rfl rfl ?_
      refine jd_bipush (pc := 41) (v := (-5)) dX11_sure_41 (by decide) ?_
      refine jd_callVi (pc := 43) (M2 := mX11_refuse) (id := 0) (ci := 10) (T := TX11) (N := 9) (av := [.int (-5)]) kX11_refuse sX11_refuse rfl hX.1 lX11_58 rfl rfl (Nat.le_of_ble_eq_true rfl) dX11_sure_43 h ?_
      intro v8 I7 J7 h
      refine jd_goto (pc := 46) 50 dX11_sure_46 (by decide) ?_
      exact jd_iretK (pc := 50) rfl rfl dX11_sure_50 h
  · have h := h.2 hc
    refine jd_aload_n (pc := 8) 0 dX11_sure_8 rfl rfl ?_
    refine jd_bipush (pc := 9) (v := (-2)) dX11_sure_9 (by decide) ?_
    refine jd_callVi (pc := 11) (M2 := mX11_refuse) (id := 0) (ci := 10) (T := TX11) (N := 9) (av := [.int (-2)]) kX11_refuse sX11_refuse rfl hX.1 lX11_58 rfl rfl (Nat.le_of_ble_eq_true rfl) dX11_sure_11 h ?_
    intro v10 I9 J9 h
    exact jd_iretK (pc := 14) rfl rfl dX11_sure_14 h
theorem eX11_sure {G : jdG} {n : Nat} {Z : jdL} {I : jdI} {J : jdJ} {K : Int32 → jdI → jdJ → Prop} {x1 : Int32} (hX : zX Z) (h : Cl G mX11_canBeSecret n 0 0 [.ref (gb G + 0), .int x1] Z I J (qi Z (fun v2 I1 J1 => ((¬ v2 = 0 → Cl G mX8_load n 0 0 [.ref (gb G + 13), .ref (gb G + 1)] Z I1 J1 (qv Z (fun I3 J3 => Cl G mX8_surest n 0 0 [.ref (gb G + 13), .int x1] Z I3 J3 (qi Z (fun v6 I5 J5 => ((¬ v6 = (-1) → K v6 I5 J5) ∧ (v6 = (-1) → Cl G mX11_refuse n 0 0 [.ref (gb G + 0), .int (-5)] Z I5 J5 (qi Z (fun v8 I7 J7 => K v8 I7 J7))))))))) ∧ (v2 = 0 → Cl G mX11_refuse n 0 0 [.ref (gb G + 0), .int (-2)] Z I1 J1 (qi Z (fun v10 I9 J9 => K v10 I9 J9))))))) : Cl G mX11_sure (n + 1) 0 0 [.ref (gb G + 0), .int x1] Z I J (qi Z K) :=
  Cl.of (by decide +kernel) (Nat.le_of_ble_eq_true rfl) (rX11_sure_0 hX h)
set_option maxRecDepth 4000 in
theorem rX11_judge_0 {G : jdG} {n rc rs : Nat} {Z : jdL} {I : jdI} {J : jdJ} {K : Int32 → jdI → jdJ → Prop} {x1 : Int32} {x2 : Int32} (hX : zX Z) (h : Cl G mX11_whyNotTold n 0 0 [.ref (gb G + 0), .int x1, .int x2] Z I J (qi Z (fun v2 I1 J1 => ((v2 = 0 → Cl G mX11_firstWrong n 0 0 [.ref (gb G + 0), .int x1, .int x2] Z I1 J1 (qi Z (fun v4 I3 J3 => K v4 I3 J3))) ∧ (¬ v2 = 0 → Cl G mX11_refuse n 0 0 [.ref (gb G + 0), .int v2] Z I1 J1 (qi Z (fun v6 I5 J5 => K v6 I5 J5))))))) : Jd G mX11_judge (jdFm G (qi Z K)) (n + 1) rc rs 0 [(0, .ref (gb G + 0)), (1, .int x1), (2, .int x2)] [] Z I J := by
  refine jd_aload_n (pc := 0) 0 dX11_judge_0 rfl rfl ?_
  refine jd_iload_n (pc := 1) 1 dX11_judge_1 rfl rfl ?_
  refine jd_iload_n (pc := 2) 2 dX11_judge_2 rfl rfl ?_
  refine jd_callVi (pc := 3) (M2 := mX11_whyNotTold) (id := 0) (ci := 10) (T := TX11) (N := 9) (av := [.int x1, .int x2]) kX11_whyNotTold sX11_whyNotTold rfl hX.1 lX11_285 rfl rfl (Nat.le_of_ble_eq_true rfl) dX11_judge_3 h ?_
  intro v2 I1 J1 h
  refine jd_istore_n (pc := 6) [(3, .int v2), (0, .ref (gb G + 0)), (1, .int x1), (2, .int x2)] dX11_judge_6 rfl (by decide) rfl ?_
  refine jd_iload_n (pc := 7) 0 dX11_judge_7 rfl rfl ?_
  refine jd_if_eq (pc := 8) 19 dX11_judge_8 (by decide) (fun hc => ?_) (fun hc => ?_)
  · have h := h.1 hc
    refine jd_aload_n (pc := 19) 1 dX11_judge_19 rfl rfl ?_
    refine jd_iload_n (pc := 20) 2 dX11_judge_20 rfl rfl ?_
    refine jd_iload_n (pc := 21) 3 dX11_judge_21 rfl rfl ?_
    refine jd_callVi (pc := 22) (M2 := mX11_firstWrong) (id := 0) (ci := 10) (T := TX11) (N := 9) (av := [.int x1, .int x2]) kX11_firstWrong sX11_firstWrong rfl hX.1 lX11_288 rfl rfl (Nat.le_of_ble_eq_true rfl) dX11_judge_22 h ?_
    intro v4 I3 J3 h
    exact jd_iretK (pc := 25) rfl rfl dX11_judge_25 h
  · have h := h.2 hc
    refine jd_aload_n (pc := 11) 1 dX11_judge_11 rfl rfl ?_
    refine jd_iload_n (pc := 12) 0 dX11_judge_12 rfl rfl ?_
    refine jd_callVi (pc := 13) (M2 := mX11_refuse) (id := 0) (ci := 10) (T := TX11) (N := 9) (av := [.int v2]) kX11_refuse sX11_refuse rfl hX.1 lX11_58 rfl rfl (Nat.le_of_ble_eq_true rfl) dX11_judge_13 h ?_
    intro v6 I5 J5 h
    refine jd_goto (pc := 16) 25 dX11_judge_16 (by decide) ?_
    exact jd_iretK (pc := 25) rfl rfl dX11_judge_25 h
theorem eX11_judge {G : jdG} {n : Nat} {Z : jdL} {I : jdI} {J : jdJ} {K : Int32 → jdI → jdJ → Prop} {x1 : Int32} {x2 : Int32} (hX : zX Z) (h : Cl G mX11_whyNotTold n 0 0 [.ref (gb G + 0), .int x1, .int x2] Z I J (qi Z (fun v2 I1 J1 => ((v2 = 0 → Cl G mX11_firstWrong n 0 0 [.ref (gb G + 0), .int x1, .int x2] Z I1 J1 (qi Z (fun v4 I3 J3 => K v4 I3 J3))) ∧ (¬ v2 = 0 → Cl G mX11_refuse n 0 0 [.ref (gb G + 0), .int v2] Z I1 J1 (qi Z (fun v6 I5 J5 => K v6 I5 J5))))))) : Cl G mX11_judge (n + 1) 0 0 [.ref (gb G + 0), .int x1, .int x2] Z I J (qi Z K) :=
  Cl.of (by decide +kernel) (Nat.le_of_ble_eq_true rfl) (rX11_judge_0 hX h)
set_option maxRecDepth 4000 in
theorem rX11_behind_0 {G : jdG} {n rc rs : Nat} {Z : jdL} {I : jdI} {J : jdJ} {K : Int32 → jdI → jdJ → Prop} {x1 : Int32} {x2 : Int32} {x3 : Int32} (hX : zX Z) (h : ((x3 = 0 → Cl G mX11_whyNotRidden n 0 0 [.ref (gb G + 0), .int x1, .int x2] Z I J (qi Z (fun v2 I1 J1 => ((v2 = 0 → Cl G mX9_everybody n 0 0 [.ref (gb G + 1)] Z I1 J1 (qi Z (fun v4 I3 J3 => Jd G mX11_behind (jdFm G (qi Z K)) (n + 1) rc rs 48 [(0, .ref (gb G + 0)), (1, .int x1), (2, .int x2), (3, .int x3), (4, .int v2), (5, .int v4), (6, .int 0)] [] Z I3 J3))) ∧ (¬ v2 = 0 → Cl G mX11_refuse n 0 0 [.ref (gb G + 0), .int v2] Z I1 J1 (qi Z (fun v6 I5 J5 => K v6 I5 J5))))))) ∧ (¬ x3 = 0 → ((x3 = 1 → Cl G mX11_whyNotRidden n 0 0 [.ref (gb G + 0), .int x1, .int x2] Z I J (qi Z (fun v8 I7 J7 => ((v8 = 0 → Cl G mX9_everybody n 0 0 [.ref (gb G + 1)] Z I7 J7 (qi Z (fun v10 I9 J9 => Jd G mX11_behind (jdFm G (qi Z K)) (n + 1) rc rs 48 [(0, .ref (gb G + 0)), (1, .int x1), (2, .int x2), (3, .int x3), (4, .int v8), (5, .int v10), (6, .int 0)] [] Z I9 J9))) ∧ (¬ v8 = 0 → Cl G mX11_refuse n 0 0 [.ref (gb G + 0), .int v8] Z I7 J7 (qi Z (fun v12 I11 J11 => K v12 I11 J11))))))) ∧ (¬ x3 = 1 → Cl G mX11_refuse n 0 0 [.ref (gb G + 0), .int (-2)] Z I J (qi Z (fun v14 I13 J13 => K v14 I13 J13))))))) : Jd G mX11_behind (jdFm G (qi Z K)) (n + 1) rc rs 0 [(0, .ref (gb G + 0)), (1, .int x1), (2, .int x2), (3, .int x3)] [] Z I J := by
  refine jd_iload_n (pc := 0) 3 dX11_behind_0 rfl rfl ?_
  refine jd_if_eq (pc := 1) 16 dX11_behind_1 (by decide) (fun hc => ?_) (fun hc => ?_)
  · have h := h.1 hc
    refine jd_aload_n (pc := 16) 0 dX11_behind_16 rfl rfl ?_
    refine jd_iload_n (pc := 17) 1 dX11_behind_17 rfl rfl ?_
    refine jd_iload_n (pc := 18) 2 dX11_behind_18 rfl rfl ?_
    refine jd_callVi (pc := 19) (M2 := mX11_whyNotRidden) (id := 0) (ci := 10) (T := TX11) (N := 9) (av := [.int x1, .int x2]) kX11_whyNotRidden sX11_whyNotRidden rfl hX.1 lX11_291 rfl rfl (Nat.le_of_ble_eq_true rfl) dX11_behind_19 h ?_
    intro v2 I1 J1 h
    refine jd_istore (pc := 22) [(4, .int v2), (0, .ref (gb G + 0)), (1, .int x1), (2, .int x2), (3, .int x3)] dX11_behind_22 (by decide) rfl ?_
    refine jd_iload (pc := 24) 0 dX11_behind_24 rfl ?_
    refine jd_if_eq (pc := 26) 36 dX11_behind_26 (by decide) (fun hc => ?_) (fun hc => ?_)
    · have h := h.1 hc
      refine jd_aload_n (pc := 36) 1 dX11_behind_36 rfl rfl ?_
      refine jd_getR (pc := 37) (ci := 10) (k := 0) (r := 1) gX11_10 hX.1 rfl (zX_p0 hX) dX11_behind_37 ?_
      refine jd_callVi (pc := 40) (M2 := mX9_everybody) (id := 1) (ci := 8) (T := TX9) (N := 10) (av := []) kX9_everybody sX9_everybody rfl (zX_o0 hX).1 lX11_132 rfl rfl (Nat.le_of_ble_eq_true rfl) dX11_behind_40 h ?_
      intro v4 I3 J3 h
      refine jd_istore (pc := 43) [(5, .int v4), (4, .int v2), (0, .ref (gb G + 0)), (1, .int x1), (2, .int x2), (3, .int x3)] dX11_behind_43 (by decide) rfl ?_
      refine jd_iconst (pc := 45) (v := 0) dX11_behind_45 (by decide) ?_
      refine jd_istore (pc := 46) [(6, .int 0), (5, .int v4), (4, .int v2), (0, .ref (gb G + 0)), (1, .int x1), (2, .int x2), (3, .int x3)] dX11_behind_46 (by decide) rfl ?_
      exact jd_lv (lv2 := [(0, .ref (gb G + 0)), (1, .int x1), (2, .int x2), (3, .int x3), (4, .int v2), (5, .int v4), (6, .int 0)]) [3, 4, 5, 6, 2, 1, 0] rfl h
    · have h := h.2 hc
      refine jd_aload_n (pc := 29) 1 dX11_behind_29 rfl rfl ?_
      refine jd_iload (pc := 30) 0 dX11_behind_30 rfl ?_
      refine jd_callVi (pc := 32) (M2 := mX11_refuse) (id := 0) (ci := 10) (T := TX11) (N := 9) (av := [.int v2]) kX11_refuse sX11_refuse rfl hX.1 lX11_58 rfl rfl (Nat.le_of_ble_eq_true rfl) dX11_behind_32 h ?_
      intro v6 I5 J5 h
      exact jd_iretK (pc := 35) rfl rfl dX11_behind_35 h
  · have h := h.2 hc
    refine jd_iload_n (pc := 4) 3 dX11_behind_4 rfl rfl ?_
    refine jd_iconst (pc := 5) (v := 1) dX11_behind_5 (by decide) ?_
    refine jd_icmp_eq (pc := 6) 16 dX11_behind_6 (by decide) (fun hc => ?_) (fun hc => ?_)
    · have h := h.1 hc
      refine jd_aload_n (pc := 16) 0 dX11_behind_16 rfl rfl ?_
      refine jd_iload_n (pc := 17) 1 dX11_behind_17 rfl rfl ?_
      refine jd_iload_n (pc := 18) 2 dX11_behind_18 rfl rfl ?_
      refine jd_callVi (pc := 19) (M2 := mX11_whyNotRidden) (id := 0) (ci := 10) (T := TX11) (N := 9) (av := [.int x1, .int x2]) kX11_whyNotRidden sX11_whyNotRidden rfl hX.1 lX11_291 rfl rfl (Nat.le_of_ble_eq_true rfl) dX11_behind_19 h ?_
      intro v8 I7 J7 h
      refine jd_istore (pc := 22) [(4, .int v8), (0, .ref (gb G + 0)), (1, .int x1), (2, .int x2), (3, .int x3)] dX11_behind_22 (by decide) rfl ?_
      refine jd_iload (pc := 24) 0 dX11_behind_24 rfl ?_
      refine jd_if_eq (pc := 26) 36 dX11_behind_26 (by decide) (fun hc => ?_) (fun hc => ?_)
      · have h := h.1 hc
        refine jd_aload_n (pc := 36) 1 dX11_behind_36 rfl rfl ?_
        refine jd_getR (pc := 37) (ci := 10) (k := 0) (r := 1) gX11_10 hX.1 rfl (zX_p0 hX) dX11_behind_37 ?_
        refine jd_callVi (pc := 40) (M2 := mX9_everybody) (id := 1) (ci := 8) (T := TX9) (N := 10) (av := []) kX9_everybody sX9_everybody rfl (zX_o0 hX).1 lX11_132 rfl rfl (Nat.le_of_ble_eq_true rfl) dX11_behind_40 h ?_
        intro v10 I9 J9 h
        refine jd_istore (pc := 43) [(5, .int v10), (4, .int v8), (0, .ref (gb G + 0)), (1, .int x1), (2, .int x2), (3, .int x3)] dX11_behind_43 (by decide) rfl ?_
        refine jd_iconst (pc := 45) (v := 0) dX11_behind_45 (by decide) ?_
        refine jd_istore (pc := 46) [(6, .int 0), (5, .int v10), (4, .int v8), (0, .ref (gb G + 0)), (1, .int x1), (2, .int x2), (3, .int x3)] dX11_behind_46 (by decide) rfl ?_
        exact jd_lv (lv2 := [(0, .ref (gb G + 0)), (1, .int x1), (2, .int x2), (3, .int x3), (4, .int v8), (5, .int v10), (6, .int 0)]) [3, 4, 5, 6, 2, 1, 0] rfl h
      · have h := h.2 hc
        refine jd_aload_n (pc := 29) 1 dX11_behind_29 rfl rfl ?_
        refine jd_iload (pc := 30) 0 dX11_behind_30 rfl ?_
        refine jd_callVi (pc := 32) (M2 := mX11_refuse) (id := 0) (ci := 10) (T := TX11) (N := 9) (av := [.int v8]) kX11_refuse sX11_refuse rfl hX.1 lX11_58 rfl rfl (Nat.le_of_ble_eq_true rfl) dX11_behind_32 h ?_
        intro v12 I11 J11 h
        exact jd_iretK (pc := 35) rfl rfl dX11_behind_35 h
    · have h := h.2 hc
      refine jd_aload_n (pc := 9) 0 dX11_behind_9 rfl rfl ?_
      refine jd_bipush (pc := 10) (v := (-2)) dX11_behind_10 (by decide) ?_
      refine jd_callVi (pc := 12) (M2 := mX11_refuse) (id := 0) (ci := 10) (T := TX11) (N := 9) (av := [.int (-2)]) kX11_refuse sX11_refuse rfl hX.1 lX11_58 rfl rfl (Nat.le_of_ble_eq_true rfl) dX11_behind_12 h ?_
      intro v14 I13 J13 h
      exact jd_iretK (pc := 15) rfl rfl dX11_behind_15 h
set_option maxRecDepth 4000 in
theorem rX11_behind_48 {G : jdG} {n rc rs : Nat} {Z : jdL} {I : jdI} {J : jdJ} {K : Int32 → jdI → jdJ → Prop} {x1 : Int32} {x2 : Int32} {x3 : Int32} {x4 : Int32} {x5 : Int32} {x6 : Int32} (hX : zX Z) (h : ((x2 ≤ x6 → ((¬ x3 = 0 → Cl G mX9_everybody n 0 0 [.ref (gb G + 1)] Z I J (qi Z (fun v2 I1 J1 => Cl G mX8_countIn n 0 0 [.ref (gb G + 13), .int v2] Z I1 J1 (qi Z (fun v4 I3 J3 => K v4 I3 J3))))) ∧ (x3 = 0 → K x5 I J))) ∧ (¬ x2 ≤ x6 → (vp_in x1 8 ∧ (vp_in x6 40 ∧ Cl G mX8_acquaint n 0 0 [.ref (gb G + 13), .int (Int64.toInt32 (J ((29 + 2 * (Int32.toNatClampNeg x1)) + 1) (Int32.toNatClampNeg x6)))] Z I J (qv Z (fun I7 J7 => Jd G mX11_behind (jdFm G (qi Z K)) (n + 1) rc rs 48 [(0, .ref (gb G + 0)), (1, .int x1), (2, .int x2), (3, .int x3), (4, .int x4), (5, .int (x5 &&& ((Int64.toInt32 (J ((29 + 2 * (Int32.toNatClampNeg x1)) + 1) (Int32.toNatClampNeg x6))) ^^^ (-1)))), (6, .int (x6 + 1))] [] Z I7 J7))))))) : Jd G mX11_behind (jdFm G (qi Z K)) (n + 1) rc rs 48 [(0, .ref (gb G + 0)), (1, .int x1), (2, .int x2), (3, .int x3), (4, .int x4), (5, .int x5), (6, .int x6)] [] Z I J := by
  refine jd_iload (pc := 48) 6 dX11_behind_48 rfl ?_
  refine jd_iload_n (pc := 50) 2 dX11_behind_50 rfl rfl ?_
  refine jd_icmp_ge (pc := 51) 93 dX11_behind_51 (by decide) (fun hc => ?_) (fun hc => ?_)
  · have h := h.1 hc
    refine jd_iload_n (pc := 93) 3 dX11_behind_93 rfl rfl ?_
    refine jd_if_ne (pc := 94) 102 dX11_behind_94 (by decide) (fun hc => ?_) (fun hc => ?_)
    · have h := h.1 hc
      refine jd_aload_n (pc := 102) 0 dX11_behind_102 rfl rfl ?_
      refine jd_getR (pc := 103) (ci := 10) (k := 3) (r := 13) gX11_25 hX.1 rfl (zX_p3 hX) dX11_behind_103 ?_
      refine jd_aload_n (pc := 106) 0 dX11_behind_106 rfl rfl ?_
      refine jd_getR (pc := 107) (ci := 10) (k := 0) (r := 1) gX11_10 hX.1 rfl (zX_p0 hX) dX11_behind_107 ?_
      refine jd_callVi (pc := 110) (M2 := mX9_everybody) (id := 1) (ci := 8) (T := TX9) (N := 10) (av := []) kX9_everybody sX9_everybody rfl (zX_o0 hX).1 lX11_132 rfl rfl (Nat.le_of_ble_eq_true rfl) dX11_behind_110 h ?_
      intro v2 I1 J1 h
      refine jd_callVi (pc := 113) (M2 := mX8_countIn) (id := 13) (ci := 7) (T := TX8) (N := 11) (av := [.int v2]) kX8_countIn sX8_countIn rfl (zX_o3 hX).1 lX11_213 rfl rfl (Nat.le_of_ble_eq_true rfl) dX11_behind_113 h ?_
      intro v4 I3 J3 h
      exact jd_iretK (pc := 116) rfl rfl dX11_behind_116 h
    · have h := h.2 hc
      refine jd_iload (pc := 97) 5 dX11_behind_97 rfl ?_
      refine jd_goto (pc := 99) 116 dX11_behind_99 (by decide) ?_
      exact jd_iretK (pc := 116) rfl rfl dX11_behind_116 h
  · have h := h.2 hc
    refine jd_aload_n (pc := 54) 0 dX11_behind_54 rfl rfl ?_
    refine jd_getR (pc := 55) (ci := 10) (k := 6) (r := 27) gX11_45 hX.1 rfl (zX_p6 hX) dX11_behind_55 ?_
    refine jd_iload_n (pc := 58) 1 dX11_behind_58 rfl rfl ?_
    obtain ⟨hv5, h⟩ := h
    refine jd_aald (pc := 59) (len := 8) (k := 4) (zX_a6 hX) (by decide) hv5 (zX_sh hX (vp_lt hv5)) dX11_behind_59 ?_
    refine jd_getR (pc := 60) (ci := 5) (k := 0) (r := ((29 + 2 * (Int32.toNatClampNeg x1)) + 1)) gX11_91 (zX_shelf hX (vp_lt hv5)).1 rfl (zShelf_p0 (zX_shelf hX (vp_lt hv5))) dX11_behind_60 ?_
    refine jd_iload (pc := 63) 6 dX11_behind_63 rfl ?_
    obtain ⟨hv6, h⟩ := h
    refine jd_lald (pc := 65) (len := 40) (zShelf_a0 (zX_shelf hX (vp_lt hv5))) hv6 dX11_behind_65 ?_
    refine jd_l2i (pc := 66) dX11_behind_66 ?_
    refine jd_istore (pc := 67) [(7, .int (Int64.toInt32 (J ((29 + 2 * (Int32.toNatClampNeg x1)) + 1) (Int32.toNatClampNeg x6)))), (0, .ref (gb G + 0)), (1, .int x1), (2, .int x2), (3, .int x3), (4, .int x4), (5, .int x5), (6, .int x6)] dX11_behind_67 (by decide) rfl ?_
    refine jd_iload (pc := 69) 6 dX11_behind_69 rfl ?_
    refine jd_iload (pc := 71) 0 dX11_behind_71 rfl ?_
    refine jd_iconst (pc := 73) (v := (-1)) dX11_behind_73 (by decide) ?_
    refine jd_ixor (pc := 74) dX11_behind_74 ?_
    refine jd_iand (pc := 75) dX11_behind_75 ?_
    refine jd_istore (pc := 76) [(5, .int (x5 &&& ((Int64.toInt32 (J ((29 + 2 * (Int32.toNatClampNeg x1)) + 1) (Int32.toNatClampNeg x6))) ^^^ (-1)))), (7, .int (Int64.toInt32 (J ((29 + 2 * (Int32.toNatClampNeg x1)) + 1) (Int32.toNatClampNeg x6)))), (0, .ref (gb G + 0)), (1, .int x1), (2, .int x2), (3, .int x3), (4, .int x4), (6, .int x6)] dX11_behind_76 (by decide) rfl ?_
    refine jd_aload_n (pc := 78) 2 dX11_behind_78 rfl rfl ?_
    refine jd_getR (pc := 79) (ci := 10) (k := 3) (r := 13) gX11_25 hX.1 rfl (zX_p3 hX) dX11_behind_79 ?_
    refine jd_iload (pc := 82) 1 dX11_behind_82 rfl ?_
    refine jd_callVv (pc := 84) (M2 := mX8_acquaint) (id := 13) (ci := 7) (T := TX8) (N := 11) (av := [.int (Int64.toInt32 (J ((29 + 2 * (Int32.toNatClampNeg x1)) + 1) (Int32.toNatClampNeg x6)))]) kX8_acquaint sX8_acquaint rfl (zX_o3 hX).1 lX11_258 rfl rfl (Nat.le_of_ble_eq_true rfl) dX11_behind_84 h ?_
    intro I7 J7 h
    refine jd_iinc (pc := 87) (v := (x6 + 1)) 7 [(6, .int (x6 + 1)), (5, .int (x5 &&& ((Int64.toInt32 (J ((29 + 2 * (Int32.toNatClampNeg x1)) + 1) (Int32.toNatClampNeg x6))) ^^^ (-1)))), (7, .int (Int64.toInt32 (J ((29 + 2 * (Int32.toNatClampNeg x1)) + 1) (Int32.toNatClampNeg x6)))), (0, .ref (gb G + 0)), (1, .int x1), (2, .int x2), (3, .int x3), (4, .int x4)] dX11_behind_87 rfl rfl (by decide) rfl ?_
    refine jd_goto (pc := 90) 48 dX11_behind_90 (by decide) ?_
    exact jd_lv (lv2 := [(0, .ref (gb G + 0)), (1, .int x1), (2, .int x2), (3, .int x3), (4, .int x4), (5, .int (x5 &&& ((Int64.toInt32 (J ((29 + 2 * (Int32.toNatClampNeg x1)) + 1) (Int32.toNatClampNeg x6))) ^^^ (-1)))), (6, .int (x6 + 1))]) [3, 4, 5, 6, 7, 1, 0] rfl h
theorem eX11_behind {G : jdG} {n : Nat} {Z : jdL} {I : jdI} {J : jdJ} {K : Int32 → jdI → jdJ → Prop} {x1 : Int32} {x2 : Int32} {x3 : Int32} (hX : zX Z) (h : ((x3 = 0 → Cl G mX11_whyNotRidden n 0 0 [.ref (gb G + 0), .int x1, .int x2] Z I J (qi Z (fun v2 I1 J1 => ((v2 = 0 → Cl G mX9_everybody n 0 0 [.ref (gb G + 1)] Z I1 J1 (qi Z (fun v4 I3 J3 => Jd G mX11_behind (jdFm G (qi Z K)) (n + 1) 0 0 48 [(0, .ref (gb G + 0)), (1, .int x1), (2, .int x2), (3, .int x3), (4, .int v2), (5, .int v4), (6, .int 0)] [] Z I3 J3))) ∧ (¬ v2 = 0 → Cl G mX11_refuse n 0 0 [.ref (gb G + 0), .int v2] Z I1 J1 (qi Z (fun v6 I5 J5 => K v6 I5 J5))))))) ∧ (¬ x3 = 0 → ((x3 = 1 → Cl G mX11_whyNotRidden n 0 0 [.ref (gb G + 0), .int x1, .int x2] Z I J (qi Z (fun v8 I7 J7 => ((v8 = 0 → Cl G mX9_everybody n 0 0 [.ref (gb G + 1)] Z I7 J7 (qi Z (fun v10 I9 J9 => Jd G mX11_behind (jdFm G (qi Z K)) (n + 1) 0 0 48 [(0, .ref (gb G + 0)), (1, .int x1), (2, .int x2), (3, .int x3), (4, .int v8), (5, .int v10), (6, .int 0)] [] Z I9 J9))) ∧ (¬ v8 = 0 → Cl G mX11_refuse n 0 0 [.ref (gb G + 0), .int v8] Z I7 J7 (qi Z (fun v12 I11 J11 => K v12 I11 J11))))))) ∧ (¬ x3 = 1 → Cl G mX11_refuse n 0 0 [.ref (gb G + 0), .int (-2)] Z I J (qi Z (fun v14 I13 J13 => K v14 I13 J13))))))) : Cl G mX11_behind (n + 1) 0 0 [.ref (gb G + 0), .int x1, .int x2, .int x3] Z I J (qi Z K) :=
  Cl.of (by decide +kernel) (Nat.le_of_ble_eq_true rfl) (rX11_behind_0 hX h)
set_option maxRecDepth 4000 in
theorem rX11_rides_0 {G : jdG} {n rc rs : Nat} {Z : jdL} {I : jdI} {J : jdJ} {K : Int32 → jdI → jdJ → Prop} {x1 : Int32} {x2 : Int32} (hX : zX Z) (h : Cl G mX11_whyNotRidden n 0 0 [.ref (gb G + 0), .int x1, .int x2] Z I J (qi Z (fun v2 I1 J1 => ((v2 = 0 → Jd G mX11_rides (jdFm G (qi Z K)) (n + 1) rc rs 20 [(0, .ref (gb G + 0)), (1, .int x1), (2, .int x2), (3, .int v2), (4, .int 0)] [] Z I1 J1) ∧ (¬ v2 = 0 → Cl G mX11_refuse n 0 0 [.ref (gb G + 0), .int v2] Z I1 J1 (qi Z (fun v4 I3 J3 => K v4 I3 J3))))))) : Jd G mX11_rides (jdFm G (qi Z K)) (n + 1) rc rs 0 [(0, .ref (gb G + 0)), (1, .int x1), (2, .int x2)] [] Z I J := by
  refine jd_aload_n (pc := 0) 0 dX11_rides_0 rfl rfl ?_
  refine jd_iload_n (pc := 1) 1 dX11_rides_1 rfl rfl ?_
  refine jd_iload_n (pc := 2) 2 dX11_rides_2 rfl rfl ?_
  refine jd_callVi (pc := 3) (M2 := mX11_whyNotRidden) (id := 0) (ci := 10) (T := TX11) (N := 9) (av := [.int x1, .int x2]) kX11_whyNotRidden sX11_whyNotRidden rfl hX.1 lX11_291 rfl rfl (Nat.le_of_ble_eq_true rfl) dX11_rides_3 h ?_
  intro v2 I1 J1 h
  refine jd_istore_n (pc := 6) [(3, .int v2), (0, .ref (gb G + 0)), (1, .int x1), (2, .int x2)] dX11_rides_6 rfl (by decide) rfl ?_
  refine jd_iload_n (pc := 7) 0 dX11_rides_7 rfl rfl ?_
  refine jd_if_eq (pc := 8) 17 dX11_rides_8 (by decide) (fun hc => ?_) (fun hc => ?_)
  · have h := h.1 hc
    refine jd_iconst (pc := 17) (v := 0) dX11_rides_17 (by decide) ?_
    refine jd_istore (pc := 18) [(4, .int 0), (3, .int v2), (0, .ref (gb G + 0)), (1, .int x1), (2, .int x2)] dX11_rides_18 (by decide) rfl ?_
    exact jd_lv (lv2 := [(0, .ref (gb G + 0)), (1, .int x1), (2, .int x2), (3, .int v2), (4, .int 0)]) [2, 3, 4, 1, 0] rfl h
  · have h := h.2 hc
    refine jd_aload_n (pc := 11) 1 dX11_rides_11 rfl rfl ?_
    refine jd_iload_n (pc := 12) 0 dX11_rides_12 rfl rfl ?_
    refine jd_callVi (pc := 13) (M2 := mX11_refuse) (id := 0) (ci := 10) (T := TX11) (N := 9) (av := [.int v2]) kX11_refuse sX11_refuse rfl hX.1 lX11_58 rfl rfl (Nat.le_of_ble_eq_true rfl) dX11_rides_13 h ?_
    intro v4 I3 J3 h
    exact jd_iretK (pc := 16) rfl rfl dX11_rides_16 h
set_option maxRecDepth 4000 in
theorem rX11_rides_20 {G : jdG} {n rc rs : Nat} {Z : jdL} {I : jdI} {J : jdJ} {K : Int32 → jdI → jdJ → Prop} {x1 : Int32} {x2 : Int32} {x3 : Int32} {x4 : Int32} (hX : zX Z) (h : ((x2 ≤ x4 → Cl G mX9_endDay n 0 0 [.ref (gb G + 1), .int x2] Z I J (qv Z (fun I1 J1 => K x2 I1 J1))) ∧ (¬ x2 ≤ x4 → (vp_in x1 8 ∧ (vp_in x4 40 ∧ Cl G mX9_acquaint n 0 0 [.ref (gb G + 1), .int (Int64.toInt32 (J ((29 + 2 * (Int32.toNatClampNeg x1)) + 1) (Int32.toNatClampNeg x4)))] Z I J (qi Z (fun v6 I5 J5 => Jd G mX11_rides (jdFm G (qi Z K)) (n + 1) rc rs 20 [(0, .ref (gb G + 0)), (1, .int x1), (2, .int x2), (3, .int x3), (4, .int (x4 + 1))] [] Z I5 J5))))))) : Jd G mX11_rides (jdFm G (qi Z K)) (n + 1) rc rs 20 [(0, .ref (gb G + 0)), (1, .int x1), (2, .int x2), (3, .int x3), (4, .int x4)] [] Z I J := by
  refine jd_iload (pc := 20) 4 dX11_rides_20 rfl ?_
  refine jd_iload_n (pc := 22) 2 dX11_rides_22 rfl rfl ?_
  refine jd_icmp_ge (pc := 23) 53 dX11_rides_23 (by decide) (fun hc => ?_) (fun hc => ?_)
  · have h := h.1 hc
    refine jd_aload_n (pc := 53) 0 dX11_rides_53 rfl rfl ?_
    refine jd_getR (pc := 54) (ci := 10) (k := 0) (r := 1) gX11_10 hX.1 rfl (zX_p0 hX) dX11_rides_54 ?_
    refine jd_iload_n (pc := 57) 2 dX11_rides_57 rfl rfl ?_
    refine jd_callVv (pc := 58) (M2 := mX9_endDay) (id := 1) (ci := 8) (T := TX9) (N := 10) (av := [.int x2]) kX9_endDay sX9_endDay rfl (zX_o0 hX).1 lX11_296 rfl rfl (Nat.le_of_ble_eq_true rfl) dX11_rides_58 h ?_
    intro I1 J1 h
    refine jd_iload_n (pc := 61) 2 dX11_rides_61 rfl rfl ?_
    exact jd_iretK (pc := 62) rfl rfl dX11_rides_62 h
  · have h := h.2 hc
    refine jd_aload_n (pc := 26) 0 dX11_rides_26 rfl rfl ?_
    refine jd_getR (pc := 27) (ci := 10) (k := 0) (r := 1) gX11_10 hX.1 rfl (zX_p0 hX) dX11_rides_27 ?_
    refine jd_aload_n (pc := 30) 0 dX11_rides_30 rfl rfl ?_
    refine jd_getR (pc := 31) (ci := 10) (k := 6) (r := 27) gX11_45 hX.1 rfl (zX_p6 hX) dX11_rides_31 ?_
    refine jd_iload_n (pc := 34) 1 dX11_rides_34 rfl rfl ?_
    obtain ⟨hv3, h⟩ := h
    refine jd_aald (pc := 35) (len := 8) (k := 4) (zX_a6 hX) (by decide) hv3 (zX_sh hX (vp_lt hv3)) dX11_rides_35 ?_
    refine jd_getR (pc := 36) (ci := 5) (k := 0) (r := ((29 + 2 * (Int32.toNatClampNeg x1)) + 1)) gX11_91 (zX_shelf hX (vp_lt hv3)).1 rfl (zShelf_p0 (zX_shelf hX (vp_lt hv3))) dX11_rides_36 ?_
    refine jd_iload (pc := 39) 4 dX11_rides_39 rfl ?_
    obtain ⟨hv4, h⟩ := h
    refine jd_lald (pc := 41) (len := 40) (zShelf_a0 (zX_shelf hX (vp_lt hv3))) hv4 dX11_rides_41 ?_
    refine jd_l2i (pc := 42) dX11_rides_42 ?_
    refine jd_callVi (pc := 43) (M2 := mX9_acquaint) (id := 1) (ci := 8) (T := TX9) (N := 10) (av := [.int (Int64.toInt32 (J ((29 + 2 * (Int32.toNatClampNeg x1)) + 1) (Int32.toNatClampNeg x4)))]) kX9_acquaint sX9_acquaint rfl (zX_o0 hX).1 lX11_294 rfl rfl (Nat.le_of_ble_eq_true rfl) dX11_rides_43 h ?_
    intro v6 I5 J5 h
    refine jd_pop (pc := 46) dX11_rides_46 rfl ?_
    refine jd_iinc (pc := 47) (v := (x4 + 1)) 4 [(4, .int (x4 + 1)), (0, .ref (gb G + 0)), (1, .int x1), (2, .int x2), (3, .int x3)] dX11_rides_47 rfl rfl (by decide) rfl ?_
    refine jd_goto (pc := 50) 20 dX11_rides_50 (by decide) ?_
    exact jd_lv (lv2 := [(0, .ref (gb G + 0)), (1, .int x1), (2, .int x2), (3, .int x3), (4, .int (x4 + 1))]) [1, 2, 3, 4, 0] rfl h
theorem eX11_rides {G : jdG} {n : Nat} {Z : jdL} {I : jdI} {J : jdJ} {K : Int32 → jdI → jdJ → Prop} {x1 : Int32} {x2 : Int32} (hX : zX Z) (h : Cl G mX11_whyNotRidden n 0 0 [.ref (gb G + 0), .int x1, .int x2] Z I J (qi Z (fun v2 I1 J1 => ((v2 = 0 → Jd G mX11_rides (jdFm G (qi Z K)) (n + 1) 0 0 20 [(0, .ref (gb G + 0)), (1, .int x1), (2, .int x2), (3, .int v2), (4, .int 0)] [] Z I1 J1) ∧ (¬ v2 = 0 → Cl G mX11_refuse n 0 0 [.ref (gb G + 0), .int v2] Z I1 J1 (qi Z (fun v4 I3 J3 => K v4 I3 J3))))))) : Cl G mX11_rides (n + 1) 0 0 [.ref (gb G + 0), .int x1, .int x2] Z I J (qi Z K) :=
  Cl.of (by decide +kernel) (Nat.le_of_ble_eq_true rfl) (rX11_rides_0 hX h)
set_option maxRecDepth 4000 in
theorem rX11_day_0 {G : jdG} {n rc rs : Nat} {Z : jdL} {I : jdI} {J : jdJ} {K : Int32 → jdI → jdJ → Prop} {x1 : Int32} (hX : zX Z) (h : Cl G mX11_manIn n 0 0 [.ref (gb G + 0), .int x1] Z I J (qm G Z (fun o I1 J1 => (o = none → Cl G mX11_whyNoMan n 0 0 [.ref (gb G + 0), .int x1] Z I1 J1 (qi Z (fun v4 I3 J3 => Cl G mX11_refuse n 0 0 [.ref (gb G + 0), .int v4] Z I3 J3 (qi Z (fun v6 I5 J5 => K v6 I5 J5))))) ∧ (∀ w2, o = some w2 → Cl G mX11_think n 0 0 [.ref (gb G + 0), .ref (gb G + w2)] Z I1 J1 (qv Z (fun I7 J7 => Jd G mX11_day (jdFm G (qi Z K)) (n + 1) rc rs 27 [(0, .ref (gb G + 0)), (1, .int x1), (2, .ref (gb G + w2)), (3, .int 0)] [] Z I7 J7)))))) : Jd G mX11_day (jdFm G (qi Z K)) (n + 1) rc rs 0 [(0, .ref (gb G + 0)), (1, .int x1)] [] Z I J := by
  refine jd_aload_n (pc := 0) 0 dX11_day_0 rfl rfl ?_
  refine jd_iload_n (pc := 1) 1 dX11_day_1 rfl rfl ?_
  refine jd_callVm (pc := 2) (M2 := mX11_manIn) (id := 0) (ci := 10) (T := TX11) (N := 9) (av := [.int x1]) kX11_manIn sX11_manIn rfl hX.1 lX11_115 rfl rfl (Nat.le_of_ble_eq_true rfl) dX11_day_2 h ?_ ?_
  · intro I1 J1 h
    have h := h.1 rfl
    refine jd_astore_nN (pc := 5) [(2, .null), (0, .ref (gb G + 0)), (1, .int x1)] dX11_day_5 rfl (by decide) rfl ?_
    refine jd_aload_nN (pc := 6) 0 dX11_day_6 rfl rfl ?_
    refine jd_ifnonnullN (pc := 7) dX11_day_7 ?_
    refine jd_aload_n (pc := 10) 1 dX11_day_10 rfl rfl ?_
    refine jd_aload_n (pc := 11) 1 dX11_day_11 rfl rfl ?_
    refine jd_iload_n (pc := 12) 2 dX11_day_12 rfl rfl ?_
    refine jd_callVi (pc := 13) (M2 := mX11_whyNoMan) (id := 0) (ci := 10) (T := TX11) (N := 9) (av := [.int x1]) kX11_whyNoMan sX11_whyNoMan rfl hX.1 lX11_119 rfl rfl (Nat.le_of_ble_eq_true rfl) dX11_day_13 h ?_
    intro v4 I3 J3 h
    refine jd_callVi (pc := 16) (M2 := mX11_refuse) (id := 0) (ci := 10) (T := TX11) (N := 9) (av := [.int v4]) kX11_refuse sX11_refuse rfl hX.1 lX11_58 rfl rfl (Nat.le_of_ble_eq_true rfl) dX11_day_16 h ?_
    intro v6 I5 J5 h
    exact jd_iretK (pc := 19) rfl rfl dX11_day_19 h
  · intro w2 I1 J1 h
    have h := h.2 w2 rfl
    refine jd_astore_n (pc := 5) [(2, .ref (gb G + w2)), (0, .ref (gb G + 0)), (1, .int x1)] dX11_day_5 rfl (by decide) rfl ?_
    refine jd_aload_n (pc := 6) 0 dX11_day_6 rfl rfl ?_
    refine jd_ifnonnull (pc := 7) 20 dX11_day_7 (by decide) ?_
    refine jd_aload_n (pc := 20) 1 dX11_day_20 rfl rfl ?_
    refine jd_aload_n (pc := 21) 0 dX11_day_21 rfl rfl ?_
    refine jd_callVv (pc := 22) (M2 := mX11_think) (id := 0) (ci := 10) (T := TX11) (N := 9) (av := [.ref (gb G + w2)]) kX11_think sX11_think rfl hX.1 lX11_225 rfl rfl (Nat.le_of_ble_eq_true rfl) dX11_day_22 h ?_
    intro I7 J7 h
    refine jd_iconst (pc := 25) (v := 0) dX11_day_25 (by decide) ?_
    refine jd_istore_n (pc := 26) [(3, .int 0), (2, .ref (gb G + w2)), (0, .ref (gb G + 0)), (1, .int x1)] dX11_day_26 rfl (by decide) rfl ?_
    exact jd_lv (lv2 := [(0, .ref (gb G + 0)), (1, .int x1), (2, .ref (gb G + w2)), (3, .int 0)]) [2, 3, 1, 0] rfl h
set_option maxRecDepth 4000 in
theorem rX11_day_27 {G : jdG} {n rc rs : Nat} {Z : jdL} {I : jdI} {J : jdJ} {K : Int32 → jdI → jdJ → Prop} {x1 : Int32} {u2 : Nat} {x3 : Int32} (hX : zX Z) (h : (((I 20 4) ≤ x3 → Cl G mX9_endDay n 0 0 [.ref (gb G + 1), .int (I 20 4)] Z I J (qv Z (fun I1 J1 => K (I1 20 4) I1 J1))) ∧ (¬ (I 20 4) ≤ x3 → Cl G mX3_coachAt n 0 0 [.ref (gb G + 20), .int x3] Z I J (qi Z (fun v4 I3 J3 => Cl G mX9_acquaint n 0 0 [.ref (gb G + 1), .int v4] Z I3 J3 (qi Z (fun v6 I5 J5 => Jd G mX11_day (jdFm G (qi Z K)) (n + 1) rc rs 27 [(0, .ref (gb G + 0)), (1, .int x1), (2, .ref (gb G + u2)), (3, .int (x3 + 1))] [] Z I5 J5))))))) : Jd G mX11_day (jdFm G (qi Z K)) (n + 1) rc rs 27 [(0, .ref (gb G + 0)), (1, .int x1), (2, .ref (gb G + u2)), (3, .int x3)] [] Z I J := by
  refine jd_iload_n (pc := 27) 3 dX11_day_27 rfl rfl ?_
  refine jd_aload_n (pc := 28) 0 dX11_day_28 rfl rfl ?_
  refine jd_getR (pc := 29) (ci := 10) (k := 4) (r := 20) gX11_32 hX.1 rfl (zX_p4 hX) dX11_day_29 ?_
  refine jd_getI (pc := 32) (ci := 2) (k := 4) gX11_228 (zX_o4 hX).1 rfl dX11_day_32 ?_
  refine jd_icmp_ge (pc := 35) 60 dX11_day_35 (by decide) (fun hc => ?_) (fun hc => ?_)
  · have h := h.1 hc
    refine jd_aload_n (pc := 60) 0 dX11_day_60 rfl rfl ?_
    refine jd_getR (pc := 61) (ci := 10) (k := 0) (r := 1) gX11_10 hX.1 rfl (zX_p0 hX) dX11_day_61 ?_
    refine jd_aload_n (pc := 64) 0 dX11_day_64 rfl rfl ?_
    refine jd_getR (pc := 65) (ci := 10) (k := 4) (r := 20) gX11_32 hX.1 rfl (zX_p4 hX) dX11_day_65 ?_
    refine jd_getI (pc := 68) (ci := 2) (k := 4) gX11_228 (zX_o4 hX).1 rfl dX11_day_68 ?_
    refine jd_callVv (pc := 71) (M2 := mX9_endDay) (id := 1) (ci := 8) (T := TX9) (N := 10) (av := [.int (I 20 4)]) kX9_endDay sX9_endDay rfl (zX_o0 hX).1 lX11_296 rfl rfl (Nat.le_of_ble_eq_true rfl) dX11_day_71 h ?_
    intro I1 J1 h
    refine jd_aload_n (pc := 74) 0 dX11_day_74 rfl rfl ?_
    refine jd_getR (pc := 75) (ci := 10) (k := 4) (r := 20) gX11_32 hX.1 rfl (zX_p4 hX) dX11_day_75 ?_
    refine jd_getI (pc := 78) (ci := 2) (k := 4) gX11_228 (zX_o4 hX).1 rfl dX11_day_78 ?_
    exact jd_iretK (pc := 81) rfl rfl dX11_day_81 h
  · have h := h.2 hc
    refine jd_aload_n (pc := 38) 0 dX11_day_38 rfl rfl ?_
    refine jd_getR (pc := 39) (ci := 10) (k := 0) (r := 1) gX11_10 hX.1 rfl (zX_p0 hX) dX11_day_39 ?_
    refine jd_aload_n (pc := 42) 0 dX11_day_42 rfl rfl ?_
    refine jd_getR (pc := 43) (ci := 10) (k := 4) (r := 20) gX11_32 hX.1 rfl (zX_p4 hX) dX11_day_43 ?_
    refine jd_iload_n (pc := 46) 3 dX11_day_46 rfl rfl ?_
    refine jd_callVi (pc := 47) (M2 := mX3_coachAt) (id := 20) (ci := 2) (T := TX3) (N := 7) (av := [.int x3]) kX3_coachAt sX3_coachAt rfl (zX_o4 hX).1 lX11_231 rfl rfl (Nat.le_of_ble_eq_true rfl) dX11_day_47 h ?_
    intro v4 I3 J3 h
    refine jd_callVi (pc := 50) (M2 := mX9_acquaint) (id := 1) (ci := 8) (T := TX9) (N := 10) (av := [.int v4]) kX9_acquaint sX9_acquaint rfl (zX_o0 hX).1 lX11_294 rfl rfl (Nat.le_of_ble_eq_true rfl) dX11_day_50 h ?_
    intro v6 I5 J5 h
    refine jd_pop (pc := 53) dX11_day_53 rfl ?_
    refine jd_iinc (pc := 54) (v := (x3 + 1)) 3 [(3, .int (x3 + 1)), (0, .ref (gb G + 0)), (1, .int x1), (2, .ref (gb G + u2))] dX11_day_54 rfl rfl (by decide) rfl ?_
    refine jd_goto (pc := 57) 27 dX11_day_57 (by decide) ?_
    exact jd_lv (lv2 := [(0, .ref (gb G + 0)), (1, .int x1), (2, .ref (gb G + u2)), (3, .int (x3 + 1))]) [1, 2, 3, 0] rfl h
theorem eX11_day {G : jdG} {n : Nat} {Z : jdL} {I : jdI} {J : jdJ} {K : Int32 → jdI → jdJ → Prop} {x1 : Int32} (hX : zX Z) (h : Cl G mX11_manIn n 0 0 [.ref (gb G + 0), .int x1] Z I J (qm G Z (fun o I1 J1 => (o = none → Cl G mX11_whyNoMan n 0 0 [.ref (gb G + 0), .int x1] Z I1 J1 (qi Z (fun v4 I3 J3 => Cl G mX11_refuse n 0 0 [.ref (gb G + 0), .int v4] Z I3 J3 (qi Z (fun v6 I5 J5 => K v6 I5 J5))))) ∧ (∀ w2, o = some w2 → Cl G mX11_think n 0 0 [.ref (gb G + 0), .ref (gb G + w2)] Z I1 J1 (qv Z (fun I7 J7 => Jd G mX11_day (jdFm G (qi Z K)) (n + 1) 0 0 27 [(0, .ref (gb G + 0)), (1, .int x1), (2, .ref (gb G + w2)), (3, .int 0)] [] Z I7 J7)))))) : Cl G mX11_day (n + 1) 0 0 [.ref (gb G + 0), .int x1] Z I J (qi Z K) :=
  Cl.of (by decide +kernel) (Nat.le_of_ble_eq_true rfl) (rX11_day_0 hX h)
set_option maxRecDepth 4000 in
theorem rX11_meet_0 {G : jdG} {n rc rs : Nat} {Z : jdL} {I : jdI} {J : jdJ} {K : Int32 → jdI → jdJ → Prop} {x1 : Int32} (hX : zX Z) (h : Cl G mX9_hasAll n 0 0 [.ref (gb G + 1), .int x1] Z I J (qi Z (fun v2 I1 J1 => ((v2 = 0 → Cl G mX11_refuse n 0 0 [.ref (gb G + 0), .int (-2)] Z I1 J1 (qi Z (fun v4 I3 J3 => K v4 I3 J3))) ∧ (¬ v2 = 0 → Cl G mX9_acquaint n 0 0 [.ref (gb G + 1), .int x1] Z I1 J1 (qi Z (fun v6 I5 J5 => K v6 I5 J5))))))) : Jd G mX11_meet (jdFm G (qi Z K)) (n + 1) rc rs 0 [(0, .ref (gb G + 0)), (1, .int x1)] [] Z I J := by
  refine jd_aload_n (pc := 0) 0 dX11_meet_0 rfl rfl ?_
  refine jd_getR (pc := 1) (ci := 10) (k := 0) (r := 1) gX11_10 hX.1 rfl (zX_p0 hX) dX11_meet_1 ?_
  refine jd_iload_n (pc := 4) 1 dX11_meet_4 rfl rfl ?_
  refine jd_callVi (pc := 5) (M2 := mX9_hasAll) (id := 1) (ci := 8) (T := TX9) (N := 10) (av := [.int x1]) kX9_hasAll sX9_hasAll rfl (zX_o0 hX).1 lX11_207 rfl rfl (Nat.le_of_ble_eq_true rfl) dX11_meet_5 h ?_
  intro v2 I1 J1 h
  refine jd_if_eq (pc := 8) 22 dX11_meet_8 (by decide) (fun hc => ?_) (fun hc => ?_)
  · have h := h.1 hc
    refine jd_aload_n (pc := 22) 0 dX11_meet_22 rfl rfl ?_
    refine jd_bipush (pc := 23) (v := (-2)) dX11_meet_23 (by decide) ?_
    refine jd_callVi (pc := 25) (M2 := mX11_refuse) (id := 0) (ci := 10) (T := TX11) (N := 9) (av := [.int (-2)]) kX11_refuse sX11_refuse rfl hX.1 lX11_58 rfl rfl (Nat.le_of_ble_eq_true rfl) dX11_meet_25 h ?_
    intro v4 I3 J3 h
    exact jd_iretK (pc := 28) rfl rfl dX11_meet_28 h
  · have h := h.2 hc
    refine jd_aload_n (pc := 11) 0 dX11_meet_11 rfl rfl ?_
    refine jd_getR (pc := 12) (ci := 10) (k := 0) (r := 1) gX11_10 hX.1 rfl (zX_p0 hX) dX11_meet_12 ?_
    refine jd_iload_n (pc := 15) 1 dX11_meet_15 rfl rfl ?_
    refine jd_callVi (pc := 16) (M2 := mX9_acquaint) (id := 1) (ci := 8) (T := TX9) (N := 10) (av := [.int x1]) kX9_acquaint sX9_acquaint rfl (zX_o0 hX).1 lX11_294 rfl rfl (Nat.le_of_ble_eq_true rfl) dX11_meet_16 h ?_
    intro v6 I5 J5 h
    refine jd_goto (pc := 19) 28 dX11_meet_19 (by decide) ?_
    exact jd_iretK (pc := 28) rfl rfl dX11_meet_28 h
theorem eX11_meet {G : jdG} {n : Nat} {Z : jdL} {I : jdI} {J : jdJ} {K : Int32 → jdI → jdJ → Prop} {x1 : Int32} (hX : zX Z) (h : Cl G mX9_hasAll n 0 0 [.ref (gb G + 1), .int x1] Z I J (qi Z (fun v2 I1 J1 => ((v2 = 0 → Cl G mX11_refuse n 0 0 [.ref (gb G + 0), .int (-2)] Z I1 J1 (qi Z (fun v4 I3 J3 => K v4 I3 J3))) ∧ (¬ v2 = 0 → Cl G mX9_acquaint n 0 0 [.ref (gb G + 1), .int x1] Z I1 J1 (qi Z (fun v6 I5 J5 => K v6 I5 J5))))))) : Cl G mX11_meet (n + 1) 0 0 [.ref (gb G + 0), .int x1] Z I J (qi Z K) :=
  Cl.of (by decide +kernel) (Nat.le_of_ble_eq_true rfl) (rX11_meet_0 hX h)
set_option maxRecDepth 4000 in
theorem rX11_year_0 {G : jdG} {n rc rs : Nat} {Z : jdL} {I : jdI} {J : jdJ} {K : Int32 → jdI → jdJ → Prop}  (hX : zX Z) (h : Cl G mX9_age n 0 0 [.ref (gb G + 1)] Z I J (qi Z (fun v2 I1 J1 => K v2 I1 J1))) : Jd G mX11_year (jdFm G (qi Z K)) (n + 1) rc rs 0 [(0, .ref (gb G + 0))] [] Z I J := by
  refine jd_aload_n (pc := 0) 0 dX11_year_0 rfl rfl ?_
  refine jd_getR (pc := 1) (ci := 10) (k := 0) (r := 1) gX11_10 hX.1 rfl (zX_p0 hX) dX11_year_1 ?_
  refine jd_callVi (pc := 4) (M2 := mX9_age) (id := 1) (ci := 8) (T := TX9) (N := 10) (av := []) kX9_age sX9_age rfl (zX_o0 hX).1 lX11_299 rfl rfl (Nat.le_of_ble_eq_true rfl) dX11_year_4 h ?_
  intro v2 I1 J1 h
  exact jd_iretK (pc := 7) rfl rfl dX11_year_7 h
theorem eX11_year {G : jdG} {n : Nat} {Z : jdL} {I : jdI} {J : jdJ} {K : Int32 → jdI → jdJ → Prop}  (hX : zX Z) (h : Cl G mX9_age n 0 0 [.ref (gb G + 1)] Z I J (qi Z (fun v2 I1 J1 => K v2 I1 J1))) : Cl G mX11_year (n + 1) 0 0 [.ref (gb G + 0)] Z I J (qi Z K) :=
  Cl.of (by decide +kernel) (Nat.le_of_ble_eq_true rfl) (rX11_year_0 hX h)
set_option maxRecDepth 4000 in
theorem rX11_come_0 {G : jdG} {n rc rs : Nat} {Z : jdL} {I : jdI} {J : jdJ} {K : Int32 → jdI → jdJ → Prop} {x1 : Int32} (hX : zX Z) (h : ((x1 < 1 → Cl G mX11_refuse n 0 0 [.ref (gb G + 0), .int (-2)] Z I J (qi Z (fun v2 I1 J1 => K v2 I1 J1))) ∧ (¬ x1 < 1 → ((x1 ≤ 7 → Jd G mX11_come (jdFm G (qi Z K)) (n + 1) rc rs 35 [(0, .ref (gb G + 0)), (1, .int x1), (2, .int (if (7 - (I 1 3)) < x1 then (7 - (I 1 3)) else x1)), (3, .int 0)] [] Z I J) ∧ (¬ x1 ≤ 7 → Cl G mX11_refuse n 0 0 [.ref (gb G + 0), .int (-2)] Z I J (qi Z (fun v4 I3 J3 => K v4 I3 J3))))))) : Jd G mX11_come (jdFm G (qi Z K)) (n + 1) rc rs 0 [(0, .ref (gb G + 0)), (1, .int x1)] [] Z I J := by
  refine jd_iload_n (pc := 0) 1 dX11_come_0 rfl rfl ?_
  refine jd_iconst (pc := 1) (v := 1) dX11_come_1 (by decide) ?_
  refine jd_icmp_lt (pc := 2) 11 dX11_come_2 (by decide) (fun hc => ?_) (fun hc => ?_)
  · have h := h.1 hc
    refine jd_aload_n (pc := 11) 0 dX11_come_11 rfl rfl ?_
    refine jd_bipush (pc := 12) (v := (-2)) dX11_come_12 (by decide) ?_
    refine jd_callVi (pc := 14) (M2 := mX11_refuse) (id := 0) (ci := 10) (T := TX11) (N := 9) (av := [.int (-2)]) kX11_refuse sX11_refuse rfl hX.1 lX11_58 rfl rfl (Nat.le_of_ble_eq_true rfl) dX11_come_14 h ?_
    intro v2 I1 J1 h
    exact jd_iretK (pc := 17) rfl rfl dX11_come_17 h
  · have h := h.2 hc
    refine jd_iload_n (pc := 5) 1 dX11_come_5 rfl rfl ?_
    refine jd_bipush (pc := 6) (v := 7) dX11_come_6 (by decide) ?_
    refine jd_icmp_le (pc := 8) 18 dX11_come_8 (by decide) (fun hc => ?_) (fun hc => ?_)
    · have h := h.1 hc
      refine jd_iload_n (pc := 18) 1 dX11_come_18 rfl rfl ?_
      refine jd_bipush (pc := 19) (v := 7) dX11_come_19 (by decide) ?_
      refine jd_aload_n (pc := 21) 0 dX11_come_21 rfl rfl ?_
      refine jd_getR (pc := 22) (ci := 10) (k := 0) (r := 1) gX11_10 hX.1 rfl (zX_p0 hX) dX11_come_22 ?_
      refine jd_getI (pc := 25) (ci := 8) (k := 3) gX11_145 (zX_o0 hX).1 rfl dX11_come_25 ?_
      refine jd_isub (pc := 28) dX11_come_28 ?_
      refine jd_min (pc := 29) xX11_302 (Nat.le_of_ble_eq_true rfl) dX11_come_29 ?_
      refine jd_istore_n (pc := 32) [(2, .int (if (7 - (I 1 3)) < x1 then (7 - (I 1 3)) else x1)), (0, .ref (gb G + 0)), (1, .int x1)] dX11_come_32 rfl (by decide) rfl ?_
      refine jd_iconst (pc := 33) (v := 0) dX11_come_33 (by decide) ?_
      refine jd_istore_n (pc := 34) [(3, .int 0), (2, .int (if (7 - (I 1 3)) < x1 then (7 - (I 1 3)) else x1)), (0, .ref (gb G + 0)), (1, .int x1)] dX11_come_34 rfl (by decide) rfl ?_
      exact jd_lv (lv2 := [(0, .ref (gb G + 0)), (1, .int x1), (2, .int (if (7 - (I 1 3)) < x1 then (7 - (I 1 3)) else x1)), (3, .int 0)]) [2, 3, 1, 0] rfl h
    · have h := h.2 hc
      refine jd_aload_n (pc := 11) 0 dX11_come_11 rfl rfl ?_
      refine jd_bipush (pc := 12) (v := (-2)) dX11_come_12 (by decide) ?_
      refine jd_callVi (pc := 14) (M2 := mX11_refuse) (id := 0) (ci := 10) (T := TX11) (N := 9) (av := [.int (-2)]) kX11_refuse sX11_refuse rfl hX.1 lX11_58 rfl rfl (Nat.le_of_ble_eq_true rfl) dX11_come_14 h ?_
      intro v4 I3 J3 h
      exact jd_iretK (pc := 17) rfl rfl dX11_come_17 h
set_option maxRecDepth 4000 in
theorem rX11_come_35 {G : jdG} {n rc rs : Nat} {Z : jdL} {I : jdI} {J : jdJ} {K : Int32 → jdI → jdJ → Prop} {x1 : Int32} {x2 : Int32} {x3 : Int32} (hX : zX Z) (h : ((x2 ≤ x3 → K x2 I J) ∧ (¬ x2 ≤ x3 → Cl G mX9_addByDraws n 0 0 [.ref (gb G + 1)] Z I J (qv Z (fun I1 J1 => Jd G mX11_come (jdFm G (qi Z K)) (n + 1) rc rs 35 [(0, .ref (gb G + 0)), (1, .int x1), (2, .int x2), (3, .int (x3 + 1))] [] Z I1 J1))))) : Jd G mX11_come (jdFm G (qi Z K)) (n + 1) rc rs 35 [(0, .ref (gb G + 0)), (1, .int x1), (2, .int x2), (3, .int x3)] [] Z I J := by
  refine jd_iload_n (pc := 35) 3 dX11_come_35 rfl rfl ?_
  refine jd_iload_n (pc := 36) 2 dX11_come_36 rfl rfl ?_
  refine jd_icmp_ge (pc := 37) 53 dX11_come_37 (by decide) (fun hc => ?_) (fun hc => ?_)
  · have h := h.1 hc
    refine jd_iload_n (pc := 53) 2 dX11_come_53 rfl rfl ?_
    exact jd_iretK (pc := 54) rfl rfl dX11_come_54 h
  · have h := h.2 hc
    refine jd_aload_n (pc := 40) 0 dX11_come_40 rfl rfl ?_
    refine jd_getR (pc := 41) (ci := 10) (k := 0) (r := 1) gX11_10 hX.1 rfl (zX_p0 hX) dX11_come_41 ?_
    refine jd_callVv (pc := 44) (M2 := mX9_addByDraws) (id := 1) (ci := 8) (T := TX9) (N := 10) (av := []) kX9_addByDraws sX9_addByDraws rfl (zX_o0 hX).1 lX11_307 rfl rfl (Nat.le_of_ble_eq_true rfl) dX11_come_44 h ?_
    intro I1 J1 h
    refine jd_iinc (pc := 47) (v := (x3 + 1)) 3 [(3, .int (x3 + 1)), (0, .ref (gb G + 0)), (1, .int x1), (2, .int x2)] dX11_come_47 rfl rfl (by decide) rfl ?_
    refine jd_goto (pc := 50) 35 dX11_come_50 (by decide) ?_
    exact jd_lv (lv2 := [(0, .ref (gb G + 0)), (1, .int x1), (2, .int x2), (3, .int (x3 + 1))]) [1, 2, 3, 0] rfl h
theorem eX11_come {G : jdG} {n : Nat} {Z : jdL} {I : jdI} {J : jdJ} {K : Int32 → jdI → jdJ → Prop} {x1 : Int32} (hX : zX Z) (h : ((x1 < 1 → Cl G mX11_refuse n 0 0 [.ref (gb G + 0), .int (-2)] Z I J (qi Z (fun v2 I1 J1 => K v2 I1 J1))) ∧ (¬ x1 < 1 → ((x1 ≤ 7 → Jd G mX11_come (jdFm G (qi Z K)) (n + 1) 0 0 35 [(0, .ref (gb G + 0)), (1, .int x1), (2, .int (if (7 - (I 1 3)) < x1 then (7 - (I 1 3)) else x1)), (3, .int 0)] [] Z I J) ∧ (¬ x1 ≤ 7 → Cl G mX11_refuse n 0 0 [.ref (gb G + 0), .int (-2)] Z I J (qi Z (fun v4 I3 J3 => K v4 I3 J3))))))) : Cl G mX11_come (n + 1) 0 0 [.ref (gb G + 0), .int x1] Z I J (qi Z K) :=
  Cl.of (by decide +kernel) (Nat.le_of_ble_eq_true rfl) (rX11_come_0 hX h)
set_option maxRecDepth 4000 in
theorem rX11_seed_0 {G : jdG} {n rc rs : Nat} {Z : jdL} {I : jdI} {J : jdJ} {K : Int32 → jdI → jdJ → Prop} {x1 : Int32} (hX : zX Z) (h : K (I 1 6) (uI I 1 6 x1) J) : Jd G mX11_seed (jdFm G (qi Z K)) n rc rs 0 [(0, .ref (gb G + 0)), (1, .int x1)] [] Z I J := by
  refine jd_aload_n (pc := 0) 0 dX11_seed_0 rfl rfl ?_
  refine jd_getR (pc := 1) (ci := 10) (k := 0) (r := 1) gX11_10 hX.1 rfl (zX_p0 hX) dX11_seed_1 ?_
  refine jd_getI (pc := 4) (ci := 8) (k := 6) gX11_310 (zX_o0 hX).1 rfl dX11_seed_4 ?_
  refine jd_istore_n (pc := 7) [(2, .int (I 1 6)), (0, .ref (gb G + 0)), (1, .int x1)] dX11_seed_7 rfl (by decide) rfl ?_
  refine jd_aload_n (pc := 8) 1 dX11_seed_8 rfl rfl ?_
  refine jd_getR (pc := 9) (ci := 10) (k := 0) (r := 1) gX11_10 hX.1 rfl (zX_p0 hX) dX11_seed_9 ?_
  refine jd_iload_n (pc := 12) 2 dX11_seed_12 rfl rfl ?_
  refine jd_putI (pc := 13) (ci := 8) (k := 6) pX11_310 (zX_o0 hX).1 rfl rfl rfl dX11_seed_13 ?_
  refine jd_iload_n (pc := 16) 0 dX11_seed_16 rfl rfl ?_
  exact jd_iretK (pc := 17) rfl rfl dX11_seed_17 h
theorem eX11_seed {G : jdG} {n : Nat} {Z : jdL} {I : jdI} {J : jdJ} {K : Int32 → jdI → jdJ → Prop} {x1 : Int32} (hX : zX Z) (h : K (I 1 6) (uI I 1 6 x1) J) : Cl G mX11_seed (n) 0 0 [.ref (gb G + 0), .int x1] Z I J (qi Z K) :=
  Cl.of (by decide +kernel) (Nat.le_of_ble_eq_true rfl) (rX11_seed_0 hX h)
set_option maxRecDepth 4000 in
theorem rX11_image_0 {G : jdG} {n rc rs : Nat} {Z : jdL} {I : jdI} {J : jdJ} {K : Int32 → jdI → jdJ → Prop}  (hX : zX Z) (h : Cl G mX9_become n 0 0 [.ref (gb G + 5), .ref (gb G + 1)] Z I J (qv Z (fun I1 J1 => K 1 (uI I1 0 8 1) J1))) : Jd G mX11_image (jdFm G (qi Z K)) (n + 1) rc rs 0 [(0, .ref (gb G + 0))] [] Z I J := by
  refine jd_aload_n (pc := 0) 0 dX11_image_0 rfl rfl ?_
  refine jd_getR (pc := 1) (ci := 10) (k := 1) (r := 5) gX11_16 hX.1 rfl (zX_p1 hX) dX11_image_1 ?_
  refine jd_aload_n (pc := 4) 0 dX11_image_4 rfl rfl ?_
  refine jd_getR (pc := 5) (ci := 10) (k := 0) (r := 1) gX11_10 hX.1 rfl (zX_p0 hX) dX11_image_5 ?_
  refine jd_callVv (pc := 8) (M2 := mX9_become) (id := 5) (ci := 8) (T := TX9) (N := 10) (av := [.ref (gb G + 1)]) kX9_become sX9_become rfl (zX_o1 hX).1 lX11_189 rfl rfl (Nat.le_of_ble_eq_true rfl) dX11_image_8 h ?_
  intro I1 J1 h
  refine jd_aload_n (pc := 11) 0 dX11_image_11 rfl rfl ?_
  refine jd_iconst (pc := 12) (v := 1) dX11_image_12 (by decide) ?_
  refine jd_putI (pc := 13) (ci := 10) (k := 8) pX11_313 hX.1 rfl (by decide) (by decide) dX11_image_13 ?_
  refine jd_iconst (pc := 16) (v := 1) dX11_image_16 (by decide) ?_
  exact jd_iretK (pc := 17) rfl rfl dX11_image_17 h
theorem eX11_image {G : jdG} {n : Nat} {Z : jdL} {I : jdI} {J : jdJ} {K : Int32 → jdI → jdJ → Prop}  (hX : zX Z) (h : Cl G mX9_become n 0 0 [.ref (gb G + 5), .ref (gb G + 1)] Z I J (qv Z (fun I1 J1 => K 1 (uI I1 0 8 1) J1))) : Cl G mX11_image (n + 1) 0 0 [.ref (gb G + 0)] Z I J (qi Z K) :=
  Cl.of (by decide +kernel) (Nat.le_of_ble_eq_true rfl) (rX11_image_0 hX h)
set_option maxRecDepth 4000 in
theorem rX11_back_0 {G : jdG} {n rc rs : Nat} {Z : jdL} {I : jdI} {J : jdJ} {K : Int32 → jdI → jdJ → Prop}  (hX : zX Z) (h : ((¬ (I 0 8) = 0 → Cl G mX9_become n 0 0 [.ref (gb G + 1), .ref (gb G + 5)] Z I J (qv Z (fun I1 J1 => K 1 I1 J1))) ∧ ((I 0 8) = 0 → Cl G mX11_refuse n 0 0 [.ref (gb G + 0), .int (-5)] Z I J (qi Z (fun v4 I3 J3 => K v4 I3 J3))))) : Jd G mX11_back (jdFm G (qi Z K)) (n + 1) rc rs 0 [(0, .ref (gb G + 0))] [] Z I J := by
  refine jd_aload_n (pc := 0) 0 dX11_back_0 rfl rfl ?_
  refine jd_getI (pc := 1) (ci := 10) (k := 8) gX11_313 hX.1 rfl dX11_back_1 ?_
  refine jd_if_ne (pc := 4) 14 dX11_back_4 (by decide) (fun hc => ?_) (fun hc => ?_)
  · have h := h.1 hc
    refine jd_aload_n (pc := 14) 0 dX11_back_14 rfl rfl ?_
    refine jd_getR (pc := 15) (ci := 10) (k := 0) (r := 1) gX11_10 hX.1 rfl (zX_p0 hX) dX11_back_15 ?_
    refine jd_aload_n (pc := 18) 0 dX11_back_18 rfl rfl ?_
    refine jd_getR (pc := 19) (ci := 10) (k := 1) (r := 5) gX11_16 hX.1 rfl (zX_p1 hX) dX11_back_19 ?_
    refine jd_callVv (pc := 22) (M2 := mX9_become) (id := 1) (ci := 8) (T := TX9) (N := 10) (av := [.ref (gb G + 5)]) kX9_become sX9_become rfl (zX_o0 hX).1 lX11_189 rfl rfl (Nat.le_of_ble_eq_true rfl) dX11_back_22 h ?_
    intro I1 J1 h
    refine jd_iconst (pc := 25) (v := 1) dX11_back_25 (by decide) ?_
    exact jd_iretK (pc := 26) rfl rfl dX11_back_26 h
  · have h := h.2 hc
    refine jd_aload_n (pc := 7) 0 dX11_back_7 rfl rfl ?_
    refine jd_bipush (pc := 8) (v := (-5)) dX11_back_8 (by decide) ?_
    refine jd_callVi (pc := 10) (M2 := mX11_refuse) (id := 0) (ci := 10) (T := TX11) (N := 9) (av := [.int (-5)]) kX11_refuse sX11_refuse rfl hX.1 lX11_58 rfl rfl (Nat.le_of_ble_eq_true rfl) dX11_back_10 h ?_
    intro v4 I3 J3 h
    exact jd_iretK (pc := 13) rfl rfl dX11_back_13 h
theorem eX11_back {G : jdG} {n : Nat} {Z : jdL} {I : jdI} {J : jdJ} {K : Int32 → jdI → jdJ → Prop}  (hX : zX Z) (h : ((¬ (I 0 8) = 0 → Cl G mX9_become n 0 0 [.ref (gb G + 1), .ref (gb G + 5)] Z I J (qv Z (fun I1 J1 => K 1 I1 J1))) ∧ ((I 0 8) = 0 → Cl G mX11_refuse n 0 0 [.ref (gb G + 0), .int (-5)] Z I J (qi Z (fun v4 I3 J3 => K v4 I3 J3))))) : Cl G mX11_back (n + 1) 0 0 [.ref (gb G + 0)] Z I J (qi Z K) :=
  Cl.of (by decide +kernel) (Nat.le_of_ble_eq_true rfl) (rX11_back_0 hX h)
set_option maxRecDepth 4000 in
theorem rX11_status_0 {G : jdG} {n rc rs : Nat} {Z : jdL} {I : jdI} {J : jdJ} {K : Int32 → jdI → jdJ → Prop} {x1 : Int32} (hX : zX Z) (h : (((x1 : Int32).toInt < 0 ∨ 9 < (x1 : Int32).toInt → ((x1 < 12 → K (-1) I J) ∧ (¬ x1 < 12 → ((16 < x1 → K (-1) I J) ∧ (¬ 16 < x1 → (vp_in (x1 - 10) 7 ∧ K (I 28 (Int32.toNatClampNeg (x1 - 10))) I J)))))) ∧ ((x1 : Int32).toInt = 0 → K (I 1 3) I J) ∧ ((x1 : Int32).toInt = 1 → K (I 1 4) I J) ∧ ((x1 : Int32).toInt = 2 → K (I 1 5) I J) ∧ ((x1 : Int32).toInt = 3 → Cl G mX9_countStrangers n 0 0 [.ref (gb G + 1)] Z I J (qi Z (fun v3 I2 J2 => K v3 I2 J2))) ∧ ((x1 : Int32).toInt = 4 → K (I 1 7) I J) ∧ ((x1 : Int32).toInt = 5 → K (I 1 8) I J) ∧ ((x1 : Int32).toInt = 6 → K (I 1 9) I J) ∧ ((x1 : Int32).toInt = 7 → K (I 25 1) I J) ∧ ((x1 : Int32).toInt = 8 → K (I 1 6) I J) ∧ ((x1 : Int32).toInt = 9 → Cl G mX11_countHeld n 0 0 [.ref (gb G + 0)] Z I J (qi Z (fun v5 I4 J4 => K v5 I4 J4))))) : Jd G mX11_status (jdFm G (qi Z K)) (n + 1) rc rs 0 [(0, .ref (gb G + 0)), (1, .int x1)] [] Z I J := by
  refine jd_iload_n (pc := 0) 1 dX11_status_0 rfl rfl ?_
  by_cases hs : (x1 : Int32).toInt < 0 ∨ 9 < (x1 : Int32).toInt
  · have h := h.1 hs
    refine jd_tableOut (pc := 1) 133 dX11_status_1 hs (by decide) ?_
    refine jd_iload_n (pc := 133) 1 dX11_status_133 rfl rfl ?_
    refine jd_bipush (pc := 134) (v := 12) dX11_status_134 (by decide) ?_
    refine jd_icmp_lt (pc := 136) 157 dX11_status_136 (by decide) (fun hc => ?_) (fun hc => ?_)
    · have h := h.1 hc
      refine jd_iconst (pc := 157) (v := (-1)) dX11_status_157 (by decide) ?_
      exact jd_iretK (pc := 158) rfl rfl dX11_status_158 h
    · have h := h.2 hc
      refine jd_iload_n (pc := 139) 1 dX11_status_139 rfl rfl ?_
      refine jd_bipush (pc := 140) (v := 16) dX11_status_140 (by decide) ?_
      refine jd_icmp_gt (pc := 142) 157 dX11_status_142 (by decide) (fun hc => ?_) (fun hc => ?_)
      · have h := h.1 hc
        refine jd_iconst (pc := 157) (v := (-1)) dX11_status_157 (by decide) ?_
        exact jd_iretK (pc := 158) rfl rfl dX11_status_158 h
      · have h := h.2 hc
        refine jd_aload_n (pc := 145) 0 dX11_status_145 rfl rfl ?_
        refine jd_getR (pc := 146) (ci := 10) (k := 7) (r := 28) gX11_49 hX.1 rfl (zX_p7 hX) dX11_status_146 ?_
        refine jd_iload_n (pc := 149) 1 dX11_status_149 rfl rfl ?_
        refine jd_bipush (pc := 150) (v := 10) dX11_status_150 (by decide) ?_
        refine jd_isub (pc := 152) dX11_status_152 ?_
        obtain ⟨hv1, h⟩ := h
        refine jd_iald (pc := 153) (len := 7) (zX_a7 hX) hv1 dX11_status_153 ?_
        refine jd_goto (pc := 154) 158 dX11_status_154 (by decide) ?_
        exact jd_iretK (pc := 158) rfl rfl dX11_status_158 h
  · have h := h.2
    have hs2 : (x1 : Int32).toInt = 0 ∨ (x1 : Int32).toInt = 1 ∨ (x1 : Int32).toInt = 2 ∨ (x1 : Int32).toInt = 3 ∨ (x1 : Int32).toInt = 4 ∨ (x1 : Int32).toInt = 5 ∨ (x1 : Int32).toInt = 6 ∨ (x1 : Int32).toInt = 7 ∨ (x1 : Int32).toInt = 8 ∨ (x1 : Int32).toInt = 9 := by omega
    rcases hs2 with hq | hq | hq | hq | hq | hq | hq | hq | hq | hq
    · have h := h.1 hq
      refine jd_tableIn (pc := 1) 56 dX11_status_1 (by omega) (by omega) (by rw [hq]; rfl) (by decide) ?_
      refine jd_aload_n (pc := 56) 0 dX11_status_56 rfl rfl ?_
      refine jd_getR (pc := 57) (ci := 10) (k := 0) (r := 1) gX11_10 hX.1 rfl (zX_p0 hX) dX11_status_57 ?_
      refine jd_getI (pc := 60) (ci := 8) (k := 3) gX11_145 (zX_o0 hX).1 rfl dX11_status_60 ?_
      exact jd_iretK (pc := 63) rfl rfl dX11_status_63 h
    · have h := h.2.1 hq
      refine jd_tableIn (pc := 1) 64 dX11_status_1 (by omega) (by omega) (by rw [hq]; rfl) (by decide) ?_
      refine jd_aload_n (pc := 64) 0 dX11_status_64 rfl rfl ?_
      refine jd_getR (pc := 65) (ci := 10) (k := 0) (r := 1) gX11_10 hX.1 rfl (zX_p0 hX) dX11_status_65 ?_
      refine jd_getI (pc := 68) (ci := 8) (k := 4) gX11_172 (zX_o0 hX).1 rfl dX11_status_68 ?_
      exact jd_iretK (pc := 71) rfl rfl dX11_status_71 h
    · have h := h.2.2.1 hq
      refine jd_tableIn (pc := 1) 72 dX11_status_1 (by omega) (by omega) (by rw [hq]; rfl) (by decide) ?_
      refine jd_aload_n (pc := 72) 0 dX11_status_72 rfl rfl ?_
      refine jd_getR (pc := 73) (ci := 10) (k := 0) (r := 1) gX11_10 hX.1 rfl (zX_p0 hX) dX11_status_73 ?_
      refine jd_getI (pc := 76) (ci := 8) (k := 5) gX11_175 (zX_o0 hX).1 rfl dX11_status_76 ?_
      exact jd_iretK (pc := 79) rfl rfl dX11_status_79 h
    · have h := h.2.2.2.1 hq
      refine jd_tableIn (pc := 1) 80 dX11_status_1 (by omega) (by omega) (by rw [hq]; rfl) (by decide) ?_
      refine jd_aload_n (pc := 80) 0 dX11_status_80 rfl rfl ?_
      refine jd_getR (pc := 81) (ci := 10) (k := 0) (r := 1) gX11_10 hX.1 rfl (zX_p0 hX) dX11_status_81 ?_
      refine jd_callVi (pc := 84) (M2 := mX9_countStrangers) (id := 1) (ci := 8) (T := TX9) (N := 10) (av := []) kX9_countStrangers sX9_countStrangers rfl (zX_o0 hX).1 lX11_317 rfl rfl (Nat.le_of_ble_eq_true rfl) dX11_status_84 h ?_
      intro v3 I2 J2 h
      exact jd_iretK (pc := 87) rfl rfl dX11_status_87 h
    · have h := h.2.2.2.2.1 hq
      refine jd_tableIn (pc := 1) 88 dX11_status_1 (by omega) (by omega) (by rw [hq]; rfl) (by decide) ?_
      refine jd_aload_n (pc := 88) 0 dX11_status_88 rfl rfl ?_
      refine jd_getR (pc := 89) (ci := 10) (k := 0) (r := 1) gX11_10 hX.1 rfl (zX_p0 hX) dX11_status_89 ?_
      refine jd_getI (pc := 92) (ci := 8) (k := 7) gX11_320 (zX_o0 hX).1 rfl dX11_status_92 ?_
      exact jd_iretK (pc := 95) rfl rfl dX11_status_95 h
    · have h := h.2.2.2.2.2.1 hq
      refine jd_tableIn (pc := 1) 96 dX11_status_1 (by omega) (by omega) (by rw [hq]; rfl) (by decide) ?_
      refine jd_aload_n (pc := 96) 0 dX11_status_96 rfl rfl ?_
      refine jd_getR (pc := 97) (ci := 10) (k := 0) (r := 1) gX11_10 hX.1 rfl (zX_p0 hX) dX11_status_97 ?_
      refine jd_getI (pc := 100) (ci := 8) (k := 8) gX11_323 (zX_o0 hX).1 rfl dX11_status_100 ?_
      exact jd_iretK (pc := 103) rfl rfl dX11_status_103 h
    · have h := h.2.2.2.2.2.2.1 hq
      refine jd_tableIn (pc := 1) 104 dX11_status_1 (by omega) (by omega) (by rw [hq]; rfl) (by decide) ?_
      refine jd_aload_n (pc := 104) 0 dX11_status_104 rfl rfl ?_
      refine jd_getR (pc := 105) (ci := 10) (k := 0) (r := 1) gX11_10 hX.1 rfl (zX_p0 hX) dX11_status_105 ?_
      refine jd_getI (pc := 108) (ci := 8) (k := 9) gX11_326 (zX_o0 hX).1 rfl dX11_status_108 ?_
      exact jd_iretK (pc := 111) rfl rfl dX11_status_111 h
    · have h := h.2.2.2.2.2.2.2.1 hq
      refine jd_tableIn (pc := 1) 112 dX11_status_1 (by omega) (by omega) (by rw [hq]; rfl) (by decide) ?_
      refine jd_aload_n (pc := 112) 0 dX11_status_112 rfl rfl ?_
      refine jd_getR (pc := 113) (ci := 10) (k := 5) (r := 25) gX11_39 hX.1 rfl (zX_p5 hX) dX11_status_113 ?_
      refine jd_getI (pc := 116) (ci := 4) (k := 1) gX11_185 (zX_o5 hX).1 rfl dX11_status_116 ?_
      exact jd_iretK (pc := 119) rfl rfl dX11_status_119 h
    · have h := h.2.2.2.2.2.2.2.2.1 hq
      refine jd_tableIn (pc := 1) 120 dX11_status_1 (by omega) (by omega) (by rw [hq]; rfl) (by decide) ?_
      refine jd_aload_n (pc := 120) 0 dX11_status_120 rfl rfl ?_
      refine jd_getR (pc := 121) (ci := 10) (k := 0) (r := 1) gX11_10 hX.1 rfl (zX_p0 hX) dX11_status_121 ?_
      refine jd_getI (pc := 124) (ci := 8) (k := 6) gX11_310 (zX_o0 hX).1 rfl dX11_status_124 ?_
      exact jd_iretK (pc := 127) rfl rfl dX11_status_127 h
    · have h := h.2.2.2.2.2.2.2.2.2 hq
      refine jd_tableIn (pc := 1) 128 dX11_status_1 (by omega) (by omega) (by rw [hq]; rfl) (by decide) ?_
      refine jd_aload_n (pc := 128) 0 dX11_status_128 rfl rfl ?_
      refine jd_callVi (pc := 129) (M2 := mX11_countHeld) (id := 0) (ci := 10) (T := TX11) (N := 9) (av := []) kX11_countHeld sX11_countHeld rfl hX.1 lX11_329 rfl rfl (Nat.le_of_ble_eq_true rfl) dX11_status_129 h ?_
      intro v5 I4 J4 h
      exact jd_iretK (pc := 132) rfl rfl dX11_status_132 h
theorem eX11_status {G : jdG} {n : Nat} {Z : jdL} {I : jdI} {J : jdJ} {K : Int32 → jdI → jdJ → Prop} {x1 : Int32} (hX : zX Z) (h : (((x1 : Int32).toInt < 0 ∨ 9 < (x1 : Int32).toInt → ((x1 < 12 → K (-1) I J) ∧ (¬ x1 < 12 → ((16 < x1 → K (-1) I J) ∧ (¬ 16 < x1 → (vp_in (x1 - 10) 7 ∧ K (I 28 (Int32.toNatClampNeg (x1 - 10))) I J)))))) ∧ ((x1 : Int32).toInt = 0 → K (I 1 3) I J) ∧ ((x1 : Int32).toInt = 1 → K (I 1 4) I J) ∧ ((x1 : Int32).toInt = 2 → K (I 1 5) I J) ∧ ((x1 : Int32).toInt = 3 → Cl G mX9_countStrangers n 0 0 [.ref (gb G + 1)] Z I J (qi Z (fun v3 I2 J2 => K v3 I2 J2))) ∧ ((x1 : Int32).toInt = 4 → K (I 1 7) I J) ∧ ((x1 : Int32).toInt = 5 → K (I 1 8) I J) ∧ ((x1 : Int32).toInt = 6 → K (I 1 9) I J) ∧ ((x1 : Int32).toInt = 7 → K (I 25 1) I J) ∧ ((x1 : Int32).toInt = 8 → K (I 1 6) I J) ∧ ((x1 : Int32).toInt = 9 → Cl G mX11_countHeld n 0 0 [.ref (gb G + 0)] Z I J (qi Z (fun v5 I4 J4 => K v5 I4 J4))))) : Cl G mX11_status (n + 1) 0 0 [.ref (gb G + 0), .int x1] Z I J (qi Z K) :=
  Cl.of (by decide +kernel) (Nat.le_of_ble_eq_true rfl) (rX11_status_0 hX h)
set_option maxRecDepth 4000 in
theorem rX11_refuse_0 {G : jdG} {n rc rs : Nat} {Z : jdL} {I : jdI} {J : jdJ} {K : Int32 → jdI → jdJ → Prop} {x1 : Int32} (hX : zX Z) (h : (((-2) < x1 → K x1 I J) ∧ (¬ (-2) < x1 → ((x1 < (-6) → K x1 I J) ∧ (¬ x1 < (-6) → (vp_in (-x1) 7 ∧ (vp_in (-x1) 7 ∧ K x1 (uI I 28 (Int32.toNatClampNeg (-x1)) ((I 28 (Int32.toNatClampNeg (-x1))) + 1)) J))))))) : Jd G mX11_refuse (jdFm G (qi Z K)) n rc rs 0 [(0, .ref (gb G + 0)), (1, .int x1)] [] Z I J := by
  refine jd_iload_n (pc := 0) 1 dX11_refuse_0 rfl rfl ?_
  refine jd_bipush (pc := 1) (v := (-2)) dX11_refuse_1 (by decide) ?_
  refine jd_icmp_gt (pc := 3) 23 dX11_refuse_3 (by decide) (fun hc => ?_) (fun hc => ?_)
  · have h := h.1 hc
    refine jd_iload_n (pc := 23) 1 dX11_refuse_23 rfl rfl ?_
    exact jd_iretK (pc := 24) rfl rfl dX11_refuse_24 h
  · have h := h.2 hc
    refine jd_iload_n (pc := 6) 1 dX11_refuse_6 rfl rfl ?_
    refine jd_bipush (pc := 7) (v := (-6)) dX11_refuse_7 (by decide) ?_
    refine jd_icmp_lt (pc := 9) 23 dX11_refuse_9 (by decide) (fun hc => ?_) (fun hc => ?_)
    · have h := h.1 hc
      refine jd_iload_n (pc := 23) 1 dX11_refuse_23 rfl rfl ?_
      exact jd_iretK (pc := 24) rfl rfl dX11_refuse_24 h
    · have h := h.2 hc
      refine jd_aload_n (pc := 12) 0 dX11_refuse_12 rfl rfl ?_
      refine jd_getR (pc := 13) (ci := 10) (k := 7) (r := 28) gX11_49 hX.1 rfl (zX_p7 hX) dX11_refuse_13 ?_
      refine jd_iload_n (pc := 16) 1 dX11_refuse_16 rfl rfl ?_
      refine jd_ineg (pc := 17) dX11_refuse_17 ?_
      refine jd_dup2 (pc := 18) dX11_refuse_18 rfl rfl ?_
      obtain ⟨hv1, h⟩ := h
      refine jd_iald (pc := 19) (len := 7) (zX_a7 hX) hv1 dX11_refuse_19 ?_
      refine jd_iconst (pc := 20) (v := 1) dX11_refuse_20 (by decide) ?_
      refine jd_iadd (pc := 21) dX11_refuse_21 ?_
      obtain ⟨hv2, h⟩ := h
      refine jd_iast (pc := 22) (len := 7) (zX_a7 hX) hv2 dX11_refuse_22 ?_
      refine jd_iload_n (pc := 23) 1 dX11_refuse_23 rfl rfl ?_
      exact jd_iretK (pc := 24) rfl rfl dX11_refuse_24 h
theorem eX11_refuse {G : jdG} {n : Nat} {Z : jdL} {I : jdI} {J : jdJ} {K : Int32 → jdI → jdJ → Prop} {x1 : Int32} (hX : zX Z) (h : (((-2) < x1 → K x1 I J) ∧ (¬ (-2) < x1 → ((x1 < (-6) → K x1 I J) ∧ (¬ x1 < (-6) → (vp_in (-x1) 7 ∧ (vp_in (-x1) 7 ∧ K x1 (uI I 28 (Int32.toNatClampNeg (-x1)) ((I 28 (Int32.toNatClampNeg (-x1))) + 1)) J))))))) : Cl G mX11_refuse (n) 0 0 [.ref (gb G + 0), .int x1] Z I J (qi Z K) :=
  Cl.of (by decide +kernel) (Nat.le_of_ble_eq_true rfl) (rX11_refuse_0 hX h)
set_option maxRecDepth 4000 in
theorem rX11_isShelf_0 {G : jdG} {n rc rs : Nat} {Z : jdL} {I : jdI} {J : jdJ} {K : Int32 → jdI → jdJ → Prop} {x0 : Int32}  (h : ((x0 < 0 → K 0 I J) ∧ (¬ x0 < 0 → ((8 ≤ x0 → K 0 I J) ∧ (¬ 8 ≤ x0 → K 1 I J))))) : Jd G mX11_isShelf (jdFm G (qi Z K)) n rc rs 0 [(0, .int x0)] [] Z I J := by
  refine jd_iload_n (pc := 0) 0 dX11_isShelf_0 rfl rfl ?_
  refine jd_if_lt (pc := 1) 14 dX11_isShelf_1 (by decide) (fun hc => ?_) (fun hc => ?_)
  · have h := h.1 hc
    refine jd_iconst (pc := 14) (v := 0) dX11_isShelf_14 (by decide) ?_
    exact jd_iretK (pc := 15) (ty := .boolean) rfl (by decide) dX11_isShelf_15 h
  · have h := h.2 hc
    refine jd_iload_n (pc := 4) 0 dX11_isShelf_4 rfl rfl ?_
    refine jd_bipush (pc := 5) (v := 8) dX11_isShelf_5 (by decide) ?_
    refine jd_icmp_ge (pc := 7) 14 dX11_isShelf_7 (by decide) (fun hc => ?_) (fun hc => ?_)
    · have h := h.1 hc
      refine jd_iconst (pc := 14) (v := 0) dX11_isShelf_14 (by decide) ?_
      exact jd_iretK (pc := 15) (ty := .boolean) rfl (by decide) dX11_isShelf_15 h
    · have h := h.2 hc
      refine jd_iconst (pc := 10) (v := 1) dX11_isShelf_10 (by decide) ?_
      refine jd_goto (pc := 11) 15 dX11_isShelf_11 (by decide) ?_
      exact jd_iretK (pc := 15) (ty := .boolean) rfl (by decide) dX11_isShelf_15 h
theorem eX11_isShelf {G : jdG} {n : Nat} {Z : jdL} {I : jdI} {J : jdJ} {K : Int32 → jdI → jdJ → Prop} {x0 : Int32}  (h : ((x0 < 0 → K 0 I J) ∧ (¬ x0 < 0 → ((8 ≤ x0 → K 0 I J) ∧ (¬ 8 ≤ x0 → K 1 I J))))) : Cl G mX11_isShelf (n) 0 0 [.int x0] Z I J (qi Z K) :=
  Cl.of (by decide +kernel) (Nat.le_of_ble_eq_true rfl) (rX11_isShelf_0  h)
set_option maxRecDepth 4000 in
theorem rX11_isHour_0 {G : jdG} {n rc rs : Nat} {Z : jdL} {I : jdI} {J : jdJ} {K : Int32 → jdI → jdJ → Prop} {x0 : Int32}  (h : ((x0 < 0 → K 0 I J) ∧ (¬ x0 < 0 → ((24 ≤ x0 → K 0 I J) ∧ (¬ 24 ≤ x0 → K 1 I J))))) : Jd G mX11_isHour (jdFm G (qi Z K)) n rc rs 0 [(0, .int x0)] [] Z I J := by
  refine jd_iload_n (pc := 0) 0 dX11_isHour_0 rfl rfl ?_
  refine jd_if_lt (pc := 1) 14 dX11_isHour_1 (by decide) (fun hc => ?_) (fun hc => ?_)
  · have h := h.1 hc
    refine jd_iconst (pc := 14) (v := 0) dX11_isHour_14 (by decide) ?_
    exact jd_iretK (pc := 15) (ty := .boolean) rfl (by decide) dX11_isHour_15 h
  · have h := h.2 hc
    refine jd_iload_n (pc := 4) 0 dX11_isHour_4 rfl rfl ?_
    refine jd_bipush (pc := 5) (v := 24) dX11_isHour_5 (by decide) ?_
    refine jd_icmp_ge (pc := 7) 14 dX11_isHour_7 (by decide) (fun hc => ?_) (fun hc => ?_)
    · have h := h.1 hc
      refine jd_iconst (pc := 14) (v := 0) dX11_isHour_14 (by decide) ?_
      exact jd_iretK (pc := 15) (ty := .boolean) rfl (by decide) dX11_isHour_15 h
    · have h := h.2 hc
      refine jd_iconst (pc := 10) (v := 1) dX11_isHour_10 (by decide) ?_
      refine jd_goto (pc := 11) 15 dX11_isHour_11 (by decide) ?_
      exact jd_iretK (pc := 15) (ty := .boolean) rfl (by decide) dX11_isHour_15 h
theorem eX11_isHour {G : jdG} {n : Nat} {Z : jdL} {I : jdI} {J : jdJ} {K : Int32 → jdI → jdJ → Prop} {x0 : Int32}  (h : ((x0 < 0 → K 0 I J) ∧ (¬ x0 < 0 → ((24 ≤ x0 → K 0 I J) ∧ (¬ 24 ≤ x0 → K 1 I J))))) : Cl G mX11_isHour (n) 0 0 [.int x0] Z I J (qi Z K) :=
  Cl.of (by decide +kernel) (Nat.le_of_ble_eq_true rfl) (rX11_isHour_0  h)
set_option maxRecDepth 4000 in
theorem rX11_isCost_0 {G : jdG} {n rc rs : Nat} {Z : jdL} {I : jdI} {J : jdJ} {K : Int32 → jdI → jdJ → Prop} {x0 : Int32}  (h : ((x0 < 0 → K 0 I J) ∧ (¬ x0 < 0 → ((10 ≤ x0 → K 0 I J) ∧ (¬ 10 ≤ x0 → K 1 I J))))) : Jd G mX11_isCost (jdFm G (qi Z K)) n rc rs 0 [(0, .int x0)] [] Z I J := by
  refine jd_iload_n (pc := 0) 0 dX11_isCost_0 rfl rfl ?_
  refine jd_if_lt (pc := 1) 14 dX11_isCost_1 (by decide) (fun hc => ?_) (fun hc => ?_)
  · have h := h.1 hc
    refine jd_iconst (pc := 14) (v := 0) dX11_isCost_14 (by decide) ?_
    exact jd_iretK (pc := 15) (ty := .boolean) rfl (by decide) dX11_isCost_15 h
  · have h := h.2 hc
    refine jd_iload_n (pc := 4) 0 dX11_isCost_4 rfl rfl ?_
    refine jd_bipush (pc := 5) (v := 10) dX11_isCost_5 (by decide) ?_
    refine jd_icmp_ge (pc := 7) 14 dX11_isCost_7 (by decide) (fun hc => ?_) (fun hc => ?_)
    · have h := h.1 hc
      refine jd_iconst (pc := 14) (v := 0) dX11_isCost_14 (by decide) ?_
      exact jd_iretK (pc := 15) (ty := .boolean) rfl (by decide) dX11_isCost_15 h
    · have h := h.2 hc
      refine jd_iconst (pc := 10) (v := 1) dX11_isCost_10 (by decide) ?_
      refine jd_goto (pc := 11) 15 dX11_isCost_11 (by decide) ?_
      exact jd_iretK (pc := 15) (ty := .boolean) rfl (by decide) dX11_isCost_15 h
theorem eX11_isCost {G : jdG} {n : Nat} {Z : jdL} {I : jdI} {J : jdJ} {K : Int32 → jdI → jdJ → Prop} {x0 : Int32}  (h : ((x0 < 0 → K 0 I J) ∧ (¬ x0 < 0 → ((10 ≤ x0 → K 0 I J) ∧ (¬ 10 ≤ x0 → K 1 I J))))) : Cl G mX11_isCost (n) 0 0 [.int x0] Z I J (qi Z K) :=
  Cl.of (by decide +kernel) (Nat.le_of_ble_eq_true rfl) (rX11_isCost_0  h)
set_option maxRecDepth 4000 in
theorem rX11_canBeSecret_0 {G : jdG} {n rc rs : Nat} {Z : jdL} {I : jdI} {J : jdJ} {K : Int32 → jdI → jdJ → Prop} {x1 : Int32} (hX : zX Z) (h : Cl G mX9_hasAll n 0 0 [.ref (gb G + 1), .int x1] Z I J (qi Z (fun v2 I1 J1 => ((v2 = 0 → K 0 I1 J1) ∧ (¬ v2 = 0 → Cl G mJ6_bitCount_0f7a4 n 0 0 [.int x1] Z I1 J1 (qi Z (fun v4 I3 J3 => ((5 < v4 → K 0 I3 J3) ∧ (¬ 5 < v4 → K 1 I3 J3))))))))) : Jd G mX11_canBeSecret (jdFm G (qi Z K)) (n + 1) rc rs 0 [(0, .ref (gb G + 0)), (1, .int x1)] [] Z I J := by
  refine jd_aload_n (pc := 0) 0 dX11_canBeSecret_0 rfl rfl ?_
  refine jd_getR (pc := 1) (ci := 10) (k := 0) (r := 1) gX11_10 hX.1 rfl (zX_p0 hX) dX11_canBeSecret_1 ?_
  refine jd_iload_n (pc := 4) 1 dX11_canBeSecret_4 rfl rfl ?_
  refine jd_callVi (pc := 5) (M2 := mX9_hasAll) (id := 1) (ci := 8) (T := TX9) (N := 10) (av := [.int x1]) kX9_hasAll sX9_hasAll rfl (zX_o0 hX).1 lX11_207 rfl rfl (Nat.le_of_ble_eq_true rfl) dX11_canBeSecret_5 h ?_
  intro v2 I1 J1 h
  refine jd_if_eq (pc := 8) 23 dX11_canBeSecret_8 (by decide) (fun hc => ?_) (fun hc => ?_)
  · have h := h.1 hc
    refine jd_iconst (pc := 23) (v := 0) dX11_canBeSecret_23 (by decide) ?_
    exact jd_iretK (pc := 24) (ty := .boolean) rfl (by decide) dX11_canBeSecret_24 h
  · have h := h.2 hc
    refine jd_iload_n (pc := 11) 1 dX11_canBeSecret_11 rfl rfl ?_
    refine jd_callSi (pc := 12) (M2 := mJ6_bitCount_0f7a4) (av := [.int x1]) kJ6_bitCount_0f7a4 sJ6_bitCount_0f7a4 lX11_202 rfl rfl (Nat.le_of_ble_eq_true rfl) dX11_canBeSecret_12 h ?_
    intro v4 I3 J3 h
    refine jd_iconst (pc := 15) (v := 5) dX11_canBeSecret_15 (by decide) ?_
    refine jd_icmp_gt (pc := 16) 23 dX11_canBeSecret_16 (by decide) (fun hc => ?_) (fun hc => ?_)
    · have h := h.1 hc
      refine jd_iconst (pc := 23) (v := 0) dX11_canBeSecret_23 (by decide) ?_
      exact jd_iretK (pc := 24) (ty := .boolean) rfl (by decide) dX11_canBeSecret_24 h
    · have h := h.2 hc
      refine jd_iconst (pc := 19) (v := 1) dX11_canBeSecret_19 (by decide) ?_
      refine jd_goto (pc := 20) 24 dX11_canBeSecret_20 (by decide) ?_
      exact jd_iretK (pc := 24) (ty := .boolean) rfl (by decide) dX11_canBeSecret_24 h
theorem eX11_canBeSecret {G : jdG} {n : Nat} {Z : jdL} {I : jdI} {J : jdJ} {K : Int32 → jdI → jdJ → Prop} {x1 : Int32} (hX : zX Z) (h : Cl G mX9_hasAll n 0 0 [.ref (gb G + 1), .int x1] Z I J (qi Z (fun v2 I1 J1 => ((v2 = 0 → K 0 I1 J1) ∧ (¬ v2 = 0 → Cl G mJ6_bitCount_0f7a4 n 0 0 [.int x1] Z I1 J1 (qi Z (fun v4 I3 J3 => ((5 < v4 → K 0 I3 J3) ∧ (¬ 5 < v4 → K 1 I3 J3))))))))) : Cl G mX11_canBeSecret (n + 1) 0 0 [.ref (gb G + 0), .int x1] Z I J (qi Z K) :=
  Cl.of (by decide +kernel) (Nat.le_of_ble_eq_true rfl) (rX11_canBeSecret_0 hX h)
set_option maxRecDepth 4000 in
theorem rX11_holdsRow_0 {G : jdG} {n rc rs : Nat} {Z : jdL} {I : jdI} {J : jdJ} {K : Int32 → jdI → jdJ → Prop} {x1 : Int32} (hX : zX Z) (h : Cl G mX11_isShelf n 0 0 [.int x1] Z I J (qi Z (fun v2 I1 J1 => ((v2 = 0 → K 0 I1 J1) ∧ (¬ v2 = 0 → (vp_in x1 8 ∧ Cl G mX6_isRow n 0 0 [.ref (gb G + (29 + 2 * (Int32.toNatClampNeg x1)))] Z I1 J1 (qi Z (fun v5 I4 J4 => ((v5 = 0 → K 0 I4 J4) ∧ (¬ v5 = 0 → K 1 I4 J4)))))))))) : Jd G mX11_holdsRow (jdFm G (qi Z K)) (n + 1) rc rs 0 [(0, .ref (gb G + 0)), (1, .int x1)] [] Z I J := by
  refine jd_iload_n (pc := 0) 1 dX11_holdsRow_0 rfl rfl ?_
  refine jd_callSi (pc := 1) (M2 := mX11_isShelf) (av := [.int x1]) kX11_isShelf sX11_isShelf lX11_54 rfl rfl (Nat.le_of_ble_eq_true rfl) dX11_holdsRow_1 h ?_
  intro v2 I1 J1 h
  refine jd_if_eq (pc := 4) 23 dX11_holdsRow_4 (by decide) (fun hc => ?_) (fun hc => ?_)
  · have h := h.1 hc
    refine jd_iconst (pc := 23) (v := 0) dX11_holdsRow_23 (by decide) ?_
    exact jd_iretK (pc := 24) (ty := .boolean) rfl (by decide) dX11_holdsRow_24 h
  · have h := h.2 hc
    refine jd_aload_n (pc := 7) 0 dX11_holdsRow_7 rfl rfl ?_
    refine jd_getR (pc := 8) (ci := 10) (k := 6) (r := 27) gX11_45 hX.1 rfl (zX_p6 hX) dX11_holdsRow_8 ?_
    refine jd_iload_n (pc := 11) 1 dX11_holdsRow_11 rfl rfl ?_
    obtain ⟨hv3, h⟩ := h
    refine jd_aald (pc := 12) (len := 8) (k := 4) (zX_a6 hX) (by decide) hv3 (zX_sh hX (vp_lt hv3)) dX11_holdsRow_12 ?_
    refine jd_callVi (pc := 13) (M2 := mX6_isRow) (id := (29 + 2 * (Int32.toNatClampNeg x1))) (ci := 5) (T := TX6) (N := 4) (av := []) kX6_isRow sX6_isRow rfl (zX_shelf hX (vp_lt hv3)).1 lX11_80 rfl rfl (Nat.le_of_ble_eq_true rfl) dX11_holdsRow_13 h ?_
    intro v5 I4 J4 h
    refine jd_if_eq (pc := 16) 23 dX11_holdsRow_16 (by decide) (fun hc => ?_) (fun hc => ?_)
    · have h := h.1 hc
      refine jd_iconst (pc := 23) (v := 0) dX11_holdsRow_23 (by decide) ?_
      exact jd_iretK (pc := 24) (ty := .boolean) rfl (by decide) dX11_holdsRow_24 h
    · have h := h.2 hc
      refine jd_iconst (pc := 19) (v := 1) dX11_holdsRow_19 (by decide) ?_
      refine jd_goto (pc := 20) 24 dX11_holdsRow_20 (by decide) ?_
      exact jd_iretK (pc := 24) (ty := .boolean) rfl (by decide) dX11_holdsRow_24 h
theorem eX11_holdsRow {G : jdG} {n : Nat} {Z : jdL} {I : jdI} {J : jdJ} {K : Int32 → jdI → jdJ → Prop} {x1 : Int32} (hX : zX Z) (h : Cl G mX11_isShelf n 0 0 [.int x1] Z I J (qi Z (fun v2 I1 J1 => ((v2 = 0 → K 0 I1 J1) ∧ (¬ v2 = 0 → (vp_in x1 8 ∧ Cl G mX6_isRow n 0 0 [.ref (gb G + (29 + 2 * (Int32.toNatClampNeg x1)))] Z I1 J1 (qi Z (fun v5 I4 J4 => ((v5 = 0 → K 0 I4 J4) ∧ (¬ v5 = 0 → K 1 I4 J4)))))))))) : Cl G mX11_holdsRow (n + 1) 0 0 [.ref (gb G + 0), .int x1] Z I J (qi Z K) :=
  Cl.of (by decide +kernel) (Nat.le_of_ble_eq_true rfl) (rX11_holdsRow_0 hX h)
set_option maxRecDepth 4000 in
theorem rX11_whyNoRow_0 {G : jdG} {n rc rs : Nat} {Z : jdL} {I : jdI} {J : jdJ} {K : Int32 → jdI → jdJ → Prop} {x1 : Int32} (hX : zX Z) (h : Cl G mX11_isShelf n 0 0 [.int x1] Z I J (qi Z (fun v2 I1 J1 => ((¬ v2 = 0 → (vp_in x1 8 ∧ (((Z).2.1 (29 + 2 * (Int32.toNatClampNeg x1)) 3 = none → K (-4) I1 J1) ∧ (∀ w5, (Z).2.1 (29 + 2 * (Int32.toNatClampNeg x1)) 3 = some w5 → K (-3) I1 J1)))) ∧ (v2 = 0 → K (-2) I1 J1))))) : Jd G mX11_whyNoRow (jdFm G (qi Z K)) (n + 1) rc rs 0 [(0, .ref (gb G + 0)), (1, .int x1)] [] Z I J := by
  refine jd_iload_n (pc := 0) 1 dX11_whyNoRow_0 rfl rfl ?_
  refine jd_callSi (pc := 1) (M2 := mX11_isShelf) (av := [.int x1]) kX11_isShelf sX11_isShelf lX11_54 rfl rfl (Nat.le_of_ble_eq_true rfl) dX11_whyNoRow_1 h ?_
  intro v2 I1 J1 h
  refine jd_if_ne (pc := 4) 10 dX11_whyNoRow_4 (by decide) (fun hc => ?_) (fun hc => ?_)
  · have h := h.1 hc
    refine jd_aload_n (pc := 10) 0 dX11_whyNoRow_10 rfl rfl ?_
    refine jd_getR (pc := 11) (ci := 10) (k := 6) (r := 27) gX11_45 hX.1 rfl (zX_p6 hX) dX11_whyNoRow_11 ?_
    refine jd_iload_n (pc := 14) 1 dX11_whyNoRow_14 rfl rfl ?_
    obtain ⟨hv3, h⟩ := h
    refine jd_aald (pc := 15) (len := 8) (k := 4) (zX_a6 hX) (by decide) hv3 (zX_sh hX (vp_lt hv3)) dX11_whyNoRow_15 ?_
    rcases hq4 : (Z).2.1 (29 + 2 * (Int32.toNatClampNeg x1)) 3 with _ | w5
    · have h := h.1 hq4
      refine jd_getN (pc := 16) (ci := 5) (k := 3) gX11_84 (zX_shelf hX (vp_lt hv3)).1 rfl hq4 dX11_whyNoRow_16 ?_
      refine jd_ifnullN (pc := 19) 27 dX11_whyNoRow_19 (by decide) ?_
      refine jd_bipush (pc := 27) (v := (-4)) dX11_whyNoRow_27 (by decide) ?_
      exact jd_iretK (pc := 29) rfl rfl dX11_whyNoRow_29 h
    · have h := h.2 w5 hq4
      refine jd_getR (pc := 16) (ci := 5) (k := 3) (r := w5) gX11_84 (zX_shelf hX (vp_lt hv3)).1 rfl hq4 dX11_whyNoRow_16 ?_
      refine jd_ifnull (pc := 19) dX11_whyNoRow_19 ?_
      refine jd_bipush (pc := 22) (v := (-3)) dX11_whyNoRow_22 (by decide) ?_
      refine jd_goto (pc := 24) 29 dX11_whyNoRow_24 (by decide) ?_
      exact jd_iretK (pc := 29) rfl rfl dX11_whyNoRow_29 h
  · have h := h.2 hc
    refine jd_bipush (pc := 7) (v := (-2)) dX11_whyNoRow_7 (by decide) ?_
    exact jd_iretK (pc := 9) rfl rfl dX11_whyNoRow_9 h
theorem eX11_whyNoRow {G : jdG} {n : Nat} {Z : jdL} {I : jdI} {J : jdJ} {K : Int32 → jdI → jdJ → Prop} {x1 : Int32} (hX : zX Z) (h : Cl G mX11_isShelf n 0 0 [.int x1] Z I J (qi Z (fun v2 I1 J1 => ((¬ v2 = 0 → (vp_in x1 8 ∧ (((Z).2.1 (29 + 2 * (Int32.toNatClampNeg x1)) 3 = none → K (-4) I1 J1) ∧ (∀ w5, (Z).2.1 (29 + 2 * (Int32.toNatClampNeg x1)) 3 = some w5 → K (-3) I1 J1)))) ∧ (v2 = 0 → K (-2) I1 J1))))) : Cl G mX11_whyNoRow (n + 1) 0 0 [.ref (gb G + 0), .int x1] Z I J (qi Z K) :=
  Cl.of (by decide +kernel) (Nat.le_of_ble_eq_true rfl) (rX11_whyNoRow_0 hX h)
set_option maxRecDepth 4000 in
theorem rX11_manIn_0 {G : jdG} {n rc rs : Nat} {Z : jdL} {I : jdI} {J : jdJ} {Q : jdQ} {x1 : Int32} (hX : zX Z) (h : Cl G mX11_isShelf n 0 0 [.int x1] Z I J (qi Z (fun v2 I1 J1 => ((v2 = 0 → Q (some .null) Z I1 J1) ∧ (¬ v2 = 0 → (vp_in x1 8 ∧ (((Z).2.1 (29 + 2 * (Int32.toNatClampNeg x1)) 3 = none → Q (some .null) Z I1 J1) ∧ (∀ w5, (Z).2.1 (29 + 2 * (Int32.toNatClampNeg x1)) 3 = some w5 → Q (some (.ref (gb G + w5))) Z I1 J1)))))))) : Jd G mX11_manIn (jdFm G Q) (n + 1) rc rs 0 [(0, .ref (gb G + 0)), (1, .int x1)] [] Z I J := by
  refine jd_iload_n (pc := 0) 1 dX11_manIn_0 rfl rfl ?_
  refine jd_callSi (pc := 1) (M2 := mX11_isShelf) (av := [.int x1]) kX11_isShelf sX11_isShelf lX11_54 rfl rfl (Nat.le_of_ble_eq_true rfl) dX11_manIn_1 h ?_
  intro v2 I1 J1 h
  refine jd_if_eq (pc := 4) 19 dX11_manIn_4 (by decide) (fun hc => ?_) (fun hc => ?_)
  · have h := h.1 hc
    refine jd_null (pc := 19) dX11_manIn_19 ?_
    exact jd_aret (pc := 20) rfl (Or.inl rfl) dX11_manIn_20 h
  · have h := h.2 hc
    refine jd_aload_n (pc := 7) 0 dX11_manIn_7 rfl rfl ?_
    refine jd_getR (pc := 8) (ci := 10) (k := 6) (r := 27) gX11_45 hX.1 rfl (zX_p6 hX) dX11_manIn_8 ?_
    refine jd_iload_n (pc := 11) 1 dX11_manIn_11 rfl rfl ?_
    obtain ⟨hv3, h⟩ := h
    refine jd_aald (pc := 12) (len := 8) (k := 4) (zX_a6 hX) (by decide) hv3 (zX_sh hX (vp_lt hv3)) dX11_manIn_12 ?_
    rcases hq4 : (Z).2.1 (29 + 2 * (Int32.toNatClampNeg x1)) 3 with _ | w5
    · have h := h.1 hq4
      refine jd_getN (pc := 13) (ci := 5) (k := 3) gX11_84 (zX_shelf hX (vp_lt hv3)).1 rfl hq4 dX11_manIn_13 ?_
      refine jd_goto (pc := 16) 20 dX11_manIn_16 (by decide) ?_
      exact jd_aret (pc := 20) rfl (Or.inl rfl) dX11_manIn_20 h
    · have h := h.2 w5 hq4
      refine jd_getR (pc := 13) (ci := 5) (k := 3) (r := w5) gX11_84 (zX_shelf hX (vp_lt hv3)).1 rfl hq4 dX11_manIn_13 ?_
      refine jd_goto (pc := 16) 20 dX11_manIn_16 (by decide) ?_
      exact jd_aret (pc := 20) rfl (Or.inr ⟨_, rfl⟩) dX11_manIn_20 h
theorem eX11_manIn {G : jdG} {n : Nat} {Z : jdL} {I : jdI} {J : jdJ} {Q : jdQ} {x1 : Int32} (hX : zX Z) (h : Cl G mX11_isShelf n 0 0 [.int x1] Z I J (qi Z (fun v2 I1 J1 => ((v2 = 0 → Q (some .null) Z I1 J1) ∧ (¬ v2 = 0 → (vp_in x1 8 ∧ (((Z).2.1 (29 + 2 * (Int32.toNatClampNeg x1)) 3 = none → Q (some .null) Z I1 J1) ∧ (∀ w5, (Z).2.1 (29 + 2 * (Int32.toNatClampNeg x1)) 3 = some w5 → Q (some (.ref (gb G + w5))) Z I1 J1)))))))) : Cl G mX11_manIn (n + 1) 0 0 [.ref (gb G + 0), .int x1] Z I J Q :=
  Cl.of (by decide +kernel) (Nat.le_of_ble_eq_true rfl) (rX11_manIn_0 (rc := 0) (rs := 0) hX h)
set_option maxRecDepth 4000 in
theorem rX11_whyNoMan_0 {G : jdG} {n rc rs : Nat} {Z : jdL} {I : jdI} {J : jdJ} {K : Int32 → jdI → jdJ → Prop} {x1 : Int32} (hX : zX Z) (h : Cl G mX11_isShelf n 0 0 [.int x1] Z I J (qi Z (fun v2 I1 J1 => ((¬ v2 = 0 → (vp_in x1 8 ∧ Cl G mX6_isRow n 0 0 [.ref (gb G + (29 + 2 * (Int32.toNatClampNeg x1)))] Z I1 J1 (qi Z (fun v5 I4 J4 => ((v5 = 0 → K (-4) I4 J4) ∧ (¬ v5 = 0 → K (-3) I4 J4)))))) ∧ (v2 = 0 → K (-2) I1 J1))))) : Jd G mX11_whyNoMan (jdFm G (qi Z K)) (n + 1) rc rs 0 [(0, .ref (gb G + 0)), (1, .int x1)] [] Z I J := by
  refine jd_iload_n (pc := 0) 1 dX11_whyNoMan_0 rfl rfl ?_
  refine jd_callSi (pc := 1) (M2 := mX11_isShelf) (av := [.int x1]) kX11_isShelf sX11_isShelf lX11_54 rfl rfl (Nat.le_of_ble_eq_true rfl) dX11_whyNoMan_1 h ?_
  intro v2 I1 J1 h
  refine jd_if_ne (pc := 4) 10 dX11_whyNoMan_4 (by decide) (fun hc => ?_) (fun hc => ?_)
  · have h := h.1 hc
    refine jd_aload_n (pc := 10) 0 dX11_whyNoMan_10 rfl rfl ?_
    refine jd_getR (pc := 11) (ci := 10) (k := 6) (r := 27) gX11_45 hX.1 rfl (zX_p6 hX) dX11_whyNoMan_11 ?_
    refine jd_iload_n (pc := 14) 1 dX11_whyNoMan_14 rfl rfl ?_
    obtain ⟨hv3, h⟩ := h
    refine jd_aald (pc := 15) (len := 8) (k := 4) (zX_a6 hX) (by decide) hv3 (zX_sh hX (vp_lt hv3)) dX11_whyNoMan_15 ?_
    refine jd_callVi (pc := 16) (M2 := mX6_isRow) (id := (29 + 2 * (Int32.toNatClampNeg x1))) (ci := 5) (T := TX6) (N := 4) (av := []) kX6_isRow sX6_isRow rfl (zX_shelf hX (vp_lt hv3)).1 lX11_80 rfl rfl (Nat.le_of_ble_eq_true rfl) dX11_whyNoMan_16 h ?_
    intro v5 I4 J4 h
    refine jd_if_eq (pc := 19) 27 dX11_whyNoMan_19 (by decide) (fun hc => ?_) (fun hc => ?_)
    · have h := h.1 hc
      refine jd_bipush (pc := 27) (v := (-4)) dX11_whyNoMan_27 (by decide) ?_
      exact jd_iretK (pc := 29) rfl rfl dX11_whyNoMan_29 h
    · have h := h.2 hc
      refine jd_bipush (pc := 22) (v := (-3)) dX11_whyNoMan_22 (by decide) ?_
      refine jd_goto (pc := 24) 29 dX11_whyNoMan_24 (by decide) ?_
      exact jd_iretK (pc := 29) rfl rfl dX11_whyNoMan_29 h
  · have h := h.2 hc
    refine jd_bipush (pc := 7) (v := (-2)) dX11_whyNoMan_7 (by decide) ?_
    exact jd_iretK (pc := 9) rfl rfl dX11_whyNoMan_9 h
theorem eX11_whyNoMan {G : jdG} {n : Nat} {Z : jdL} {I : jdI} {J : jdJ} {K : Int32 → jdI → jdJ → Prop} {x1 : Int32} (hX : zX Z) (h : Cl G mX11_isShelf n 0 0 [.int x1] Z I J (qi Z (fun v2 I1 J1 => ((¬ v2 = 0 → (vp_in x1 8 ∧ Cl G mX6_isRow n 0 0 [.ref (gb G + (29 + 2 * (Int32.toNatClampNeg x1)))] Z I1 J1 (qi Z (fun v5 I4 J4 => ((v5 = 0 → K (-4) I4 J4) ∧ (¬ v5 = 0 → K (-3) I4 J4)))))) ∧ (v2 = 0 → K (-2) I1 J1))))) : Cl G mX11_whyNoMan (n + 1) 0 0 [.ref (gb G + 0), .int x1] Z I J (qi Z K) :=
  Cl.of (by decide +kernel) (Nat.le_of_ble_eq_true rfl) (rX11_whyNoMan_0 hX h)
set_option maxRecDepth 4000 in
theorem rX11_countHeld_0 {G : jdG} {n rc rs : Nat} {Z : jdL} {I : jdI} {J : jdJ} {K : Int32 → jdI → jdJ → Prop}  (hX : zX Z) (h : Jd G mX11_countHeld (jdFm G (qi Z K)) (n + 1) rc rs 4 [(0, .ref (gb G + 0)), (1, .int 0), (2, .int 0)] [] Z I J) : Jd G mX11_countHeld (jdFm G (qi Z K)) (n + 1) rc rs 0 [(0, .ref (gb G + 0))] [] Z I J := by
  refine jd_iconst (pc := 0) (v := 0) dX11_countHeld_0 (by decide) ?_
  refine jd_istore_n (pc := 1) [(1, .int 0), (0, .ref (gb G + 0))] dX11_countHeld_1 rfl (by decide) rfl ?_
  refine jd_iconst (pc := 2) (v := 0) dX11_countHeld_2 (by decide) ?_
  refine jd_istore_n (pc := 3) [(2, .int 0), (1, .int 0), (0, .ref (gb G + 0))] dX11_countHeld_3 rfl (by decide) rfl ?_
  exact jd_lv (lv2 := [(0, .ref (gb G + 0)), (1, .int 0), (2, .int 0)]) [2, 1, 0] rfl h
set_option maxRecDepth 4000 in
theorem rX11_countHeld_4 {G : jdG} {n rc rs : Nat} {Z : jdL} {I : jdI} {J : jdJ} {K : Int32 → jdI → jdJ → Prop} {x1 : Int32} {x2 : Int32} (hX : zX Z) (h : ((8 ≤ x2 → K x1 I J) ∧ (¬ 8 ≤ x2 → (vp_in x2 8 ∧ (((Z).2.1 (29 + 2 * (Int32.toNatClampNeg x2)) 3 = none → (vp_in x2 8 ∧ Cl G mX6_isRow n 0 0 [.ref (gb G + (29 + 2 * (Int32.toNatClampNeg x2)))] Z I J (qi Z (fun v6 I5 J5 => ((v6 = 0 → Jd G mX11_countHeld (jdFm G (qi Z K)) (n + 1) rc rs 4 [(0, .ref (gb G + 0)), (1, .int x1), (2, .int (x2 + 1))] [] Z I5 J5) ∧ (¬ v6 = 0 → Jd G mX11_countHeld (jdFm G (qi Z K)) (n + 1) rc rs 4 [(0, .ref (gb G + 0)), (1, .int (x1 + 1)), (2, .int (x2 + 1))] [] Z I5 J5)))))) ∧ (∀ w3, (Z).2.1 (29 + 2 * (Int32.toNatClampNeg x2)) 3 = some w3 → Jd G mX11_countHeld (jdFm G (qi Z K)) (n + 1) rc rs 4 [(0, .ref (gb G + 0)), (1, .int (x1 + 1)), (2, .int (x2 + 1))] [] Z I J)))))) : Jd G mX11_countHeld (jdFm G (qi Z K)) (n + 1) rc rs 4 [(0, .ref (gb G + 0)), (1, .int x1), (2, .int x2)] [] Z I J := by
  refine jd_iload_n (pc := 4) 2 dX11_countHeld_4 rfl rfl ?_
  refine jd_bipush (pc := 5) (v := 8) dX11_countHeld_5 (by decide) ?_
  refine jd_icmp_ge (pc := 7) 43 dX11_countHeld_7 (by decide) (fun hc => ?_) (fun hc => ?_)
  · have h := h.1 hc
    refine jd_iload_n (pc := 43) 1 dX11_countHeld_43 rfl rfl ?_
    exact jd_iretK (pc := 44) rfl rfl dX11_countHeld_44 h
  · have h := h.2 hc
    refine jd_aload_n (pc := 10) 0 dX11_countHeld_10 rfl rfl ?_
    refine jd_getR (pc := 11) (ci := 10) (k := 6) (r := 27) gX11_45 hX.1 rfl (zX_p6 hX) dX11_countHeld_11 ?_
    refine jd_iload_n (pc := 14) 2 dX11_countHeld_14 rfl rfl ?_
    obtain ⟨hv1, h⟩ := h
    refine jd_aald (pc := 15) (len := 8) (k := 4) (zX_a6 hX) (by decide) hv1 (zX_sh hX (vp_lt hv1)) dX11_countHeld_15 ?_
    rcases hq2 : (Z).2.1 (29 + 2 * (Int32.toNatClampNeg x2)) 3 with _ | w3
    · have h := h.1 hq2
      refine jd_getN (pc := 16) (ci := 5) (k := 3) gX11_84 (zX_shelf hX (vp_lt hv1)).1 rfl hq2 dX11_countHeld_16 ?_
      refine jd_ifnonnullN (pc := 19) dX11_countHeld_19 ?_
      refine jd_aload_n (pc := 22) 0 dX11_countHeld_22 rfl rfl ?_
      refine jd_getR (pc := 23) (ci := 10) (k := 6) (r := 27) gX11_45 hX.1 rfl (zX_p6 hX) dX11_countHeld_23 ?_
      refine jd_iload_n (pc := 26) 2 dX11_countHeld_26 rfl rfl ?_
      obtain ⟨hv4, h⟩ := h
      refine jd_aald (pc := 27) (len := 8) (k := 4) (zX_a6 hX) (by decide) hv4 (zX_sh hX (vp_lt hv4)) dX11_countHeld_27 ?_
      refine jd_callVi (pc := 28) (M2 := mX6_isRow) (id := (29 + 2 * (Int32.toNatClampNeg x2))) (ci := 5) (T := TX6) (N := 4) (av := []) kX6_isRow sX6_isRow rfl (zX_shelf hX (vp_lt hv4)).1 lX11_80 rfl rfl (Nat.le_of_ble_eq_true rfl) dX11_countHeld_28 h ?_
      intro v6 I5 J5 h
      refine jd_if_eq (pc := 31) 37 dX11_countHeld_31 (by decide) (fun hc => ?_) (fun hc => ?_)
      · have h := h.1 hc
        refine jd_iinc (pc := 37) (v := (x2 + 1)) 2 [(2, .int (x2 + 1)), (0, .ref (gb G + 0)), (1, .int x1)] dX11_countHeld_37 rfl rfl (by decide) rfl ?_
        refine jd_goto (pc := 40) 4 dX11_countHeld_40 (by decide) ?_
        exact jd_lv (lv2 := [(0, .ref (gb G + 0)), (1, .int x1), (2, .int (x2 + 1))]) [1, 2, 0] rfl h
      · have h := h.2 hc
        refine jd_iinc (pc := 34) (v := (x1 + 1)) 1 [(1, .int (x1 + 1)), (0, .ref (gb G + 0)), (2, .int x2)] dX11_countHeld_34 rfl rfl (by decide) rfl ?_
        refine jd_iinc (pc := 37) (v := (x2 + 1)) 2 [(2, .int (x2 + 1)), (1, .int (x1 + 1)), (0, .ref (gb G + 0))] dX11_countHeld_37 rfl rfl (by decide) rfl ?_
        refine jd_goto (pc := 40) 4 dX11_countHeld_40 (by decide) ?_
        exact jd_lv (lv2 := [(0, .ref (gb G + 0)), (1, .int (x1 + 1)), (2, .int (x2 + 1))]) [2, 1, 0] rfl h
    · have h := h.2 w3 hq2
      refine jd_getR (pc := 16) (ci := 5) (k := 3) (r := w3) gX11_84 (zX_shelf hX (vp_lt hv1)).1 rfl hq2 dX11_countHeld_16 ?_
      refine jd_ifnonnull (pc := 19) 34 dX11_countHeld_19 (by decide) ?_
      refine jd_iinc (pc := 34) (v := (x1 + 1)) 1 [(1, .int (x1 + 1)), (0, .ref (gb G + 0)), (2, .int x2)] dX11_countHeld_34 rfl rfl (by decide) rfl ?_
      refine jd_iinc (pc := 37) (v := (x2 + 1)) 2 [(2, .int (x2 + 1)), (1, .int (x1 + 1)), (0, .ref (gb G + 0))] dX11_countHeld_37 rfl rfl (by decide) rfl ?_
      refine jd_goto (pc := 40) 4 dX11_countHeld_40 (by decide) ?_
      exact jd_lv (lv2 := [(0, .ref (gb G + 0)), (1, .int (x1 + 1)), (2, .int (x2 + 1))]) [2, 1, 0] rfl h
theorem eX11_countHeld {G : jdG} {n : Nat} {Z : jdL} {I : jdI} {J : jdJ} {K : Int32 → jdI → jdJ → Prop}  (hX : zX Z) (h : Jd G mX11_countHeld (jdFm G (qi Z K)) (n + 1) 0 0 4 [(0, .ref (gb G + 0)), (1, .int 0), (2, .int 0)] [] Z I J) : Cl G mX11_countHeld (n + 1) 0 0 [.ref (gb G + 0)] Z I J (qi Z K) :=
  Cl.of (by decide +kernel) (Nat.le_of_ble_eq_true rfl) (rX11_countHeld_0 hX h)
set_option maxRecDepth 4000 in
theorem rX11_newCoachman_0 {G : jdG} {n rc rs : Nat} {Z : jdL} {I : jdI} {J : jdJ} {Q : jdQ} {x0 : Int32} {x1 : Int32}  (h : (((x0 : Int32).toInt < 1 ∨ 4 < (x0 : Int32).toInt → (∃ rc1 rs1 : Nat, 1 + rc1 ≤ rc ∧ 1 + rs1 ≤ rs ∧ (∃ mc2 ms2 rc2 rs2 : Nat, mc2 + rc2 ≤ rc1 ∧ ms2 + rs2 ≤ rs1 ∧ Cl G mX0_init n mc2 ms2 [.ref (gb G + (Z).2.2), .int x1] (nZ Z (0 + 10, 0)) (zI I (Z).2.2) J (fun r2 Z2 I2 J2 => r2 = none ∧ Q (some (.ref (gb G + (Z).2.2))) Z2 I2 J2)))) ∧ ((x0 : Int32).toInt = 1 → (∃ rc3 rs3 : Nat, 1 + rc3 ≤ rc ∧ 1 + rs3 ≤ rs ∧ (∃ mc4 ms4 rc4 rs4 : Nat, mc4 + rc4 ≤ rc3 ∧ ms4 + rs4 ≤ rs3 ∧ Cl G mX4_init n mc4 ms4 [.ref (gb G + (Z).2.2), .int x1] (nZ Z (3 + 10, 0)) (zI I (Z).2.2) J (fun r4 Z4 I4 J4 => r4 = none ∧ Q (some (.ref (gb G + (Z).2.2))) Z4 I4 J4)))) ∧ ((x0 : Int32).toInt = 2 → (∃ rc5 rs5 : Nat, 1 + rc5 ≤ rc ∧ 1 + rs5 ≤ rs ∧ (∃ mc6 ms6 rc6 rs6 : Nat, mc6 + rc6 ≤ rc5 ∧ ms6 + rs6 ≤ rs5 ∧ Cl G mX1_init n mc6 ms6 [.ref (gb G + (Z).2.2), .int x1] (nZ Z (1 + 10, 0)) (zI I (Z).2.2) J (fun r6 Z6 I6 J6 => r6 = none ∧ Q (some (.ref (gb G + (Z).2.2))) Z6 I6 J6)))) ∧ ((x0 : Int32).toInt = 3 → (∃ rc7 rs7 : Nat, 1 + rc7 ≤ rc ∧ 1 + rs7 ≤ rs ∧ (∃ mc8 ms8 rc8 rs8 : Nat, mc8 + rc8 ≤ rc7 ∧ ms8 + rs8 ≤ rs7 ∧ Cl G mX10_init n mc8 ms8 [.ref (gb G + (Z).2.2), .int x1] (nZ Z (9 + 10, 0)) (zI I (Z).2.2) J (fun r8 Z8 I8 J8 => r8 = none ∧ Q (some (.ref (gb G + (Z).2.2))) Z8 I8 J8)))) ∧ ((x0 : Int32).toInt = 4 → (∃ rc9 rs9 : Nat, 1 + rc9 ≤ rc ∧ 1 + rs9 ≤ rs ∧ (∃ mc10 ms10 rc10 rs10 : Nat, mc10 + rc10 ≤ rc9 ∧ ms10 + rs10 ≤ rs9 ∧ Cl G mX7_init n mc10 ms10 [.ref (gb G + (Z).2.2), .int x1] (nZ Z (6 + 10, 0)) (zI I (Z).2.2) J (fun r10 Z10 I10 J10 => r10 = none ∧ Q (some (.ref (gb G + (Z).2.2))) Z10 I10 J10)))))) : Jd G mX11_newCoachman (jdFm G Q) (n + 1) rc rs 0 [(0, .int x0), (1, .int x1)] [] Z I J := by
  refine jd_iload_n (pc := 0) 0 dX11_newCoachman_0 rfl rfl ?_
  by_cases hs : (x0 : Int32).toInt < 1 ∨ 4 < (x0 : Int32).toInt
  · have h := h.1 hs
    refine jd_tableOut (pc := 1) 68 dX11_newCoachman_1 hs (by decide) ?_
    obtain ⟨rc1, rs1, hb1, hb2, h⟩ := h
    refine jd_new (pc := 68) (ci := 0) (N := 1) nX11_345 hb1 hb2 dX11_newCoachman_68 ?_
    refine jd_dup (pc := 71) dX11_newCoachman_71 rfl ?_
    refine jd_iload_n (pc := 72) 1 dX11_newCoachman_72 rfl rfl ?_
    obtain ⟨mc2, ms2, rc2, rs2, hb1, hb2, h⟩ := h
    refine jd_callI (pc := 73) (M2 := mX0_init) (id := (Z).2.2) (rc2 := rc2) (rs2 := rs2) (av := [.int x1]) kX0_init sX0_init lX11_347 rfl rfl (Nat.le_of_ble_eq_true rfl) hb1 hb2 dX11_newCoachman_73 (Cl.mono h (fun r2 Z2 I2 J2 h => ?_))
    obtain ⟨rfl, h⟩ := h
    exact jd_aret (pc := 76) rfl (Or.inr ⟨_, rfl⟩) dX11_newCoachman_76 h
  · have h := h.2
    have hs2 : (x0 : Int32).toInt = 1 ∨ (x0 : Int32).toInt = 2 ∨ (x0 : Int32).toInt = 3 ∨ (x0 : Int32).toInt = 4 := by omega
    rcases hs2 with hq | hq | hq | hq
    · have h := h.1 hq
      refine jd_tableIn (pc := 1) 32 dX11_newCoachman_1 (by omega) (by omega) (by rw [hq]; rfl) (by decide) ?_
      obtain ⟨rc3, rs3, hb1, hb2, h⟩ := h
      refine jd_new (pc := 32) (ci := 3) (N := 1) nX11_332 hb1 hb2 dX11_newCoachman_32 ?_
      refine jd_dup (pc := 35) dX11_newCoachman_35 rfl ?_
      refine jd_iload_n (pc := 36) 1 dX11_newCoachman_36 rfl rfl ?_
      obtain ⟨mc4, ms4, rc4, rs4, hb1, hb2, h⟩ := h
      refine jd_callI (pc := 37) (M2 := mX4_init) (id := (Z).2.2) (rc2 := rc4) (rs2 := rs4) (av := [.int x1]) kX4_init sX4_init lX11_334 rfl rfl (Nat.le_of_ble_eq_true rfl) hb1 hb2 dX11_newCoachman_37 (Cl.mono h (fun r4 Z4 I4 J4 h => ?_))
      obtain ⟨rfl, h⟩ := h
      exact jd_aret (pc := 40) rfl (Or.inr ⟨_, rfl⟩) dX11_newCoachman_40 h
    · have h := h.2.1 hq
      refine jd_tableIn (pc := 1) 41 dX11_newCoachman_1 (by omega) (by omega) (by rw [hq]; rfl) (by decide) ?_
      obtain ⟨rc5, rs5, hb1, hb2, h⟩ := h
      refine jd_new (pc := 41) (ci := 1) (N := 1) nX11_336 hb1 hb2 dX11_newCoachman_41 ?_
      refine jd_dup (pc := 44) dX11_newCoachman_44 rfl ?_
      refine jd_iload_n (pc := 45) 1 dX11_newCoachman_45 rfl rfl ?_
      obtain ⟨mc6, ms6, rc6, rs6, hb1, hb2, h⟩ := h
      refine jd_callI (pc := 46) (M2 := mX1_init) (id := (Z).2.2) (rc2 := rc6) (rs2 := rs6) (av := [.int x1]) kX1_init sX1_init lX11_338 rfl rfl (Nat.le_of_ble_eq_true rfl) hb1 hb2 dX11_newCoachman_46 (Cl.mono h (fun r6 Z6 I6 J6 h => ?_))
      obtain ⟨rfl, h⟩ := h
      exact jd_aret (pc := 49) rfl (Or.inr ⟨_, rfl⟩) dX11_newCoachman_49 h
    · have h := h.2.2.1 hq
      refine jd_tableIn (pc := 1) 50 dX11_newCoachman_1 (by omega) (by omega) (by rw [hq]; rfl) (by decide) ?_
      obtain ⟨rc7, rs7, hb1, hb2, h⟩ := h
      refine jd_new (pc := 50) (ci := 9) (N := 1) nX11_339 hb1 hb2 dX11_newCoachman_50 ?_
      refine jd_dup (pc := 53) dX11_newCoachman_53 rfl ?_
      refine jd_iload_n (pc := 54) 1 dX11_newCoachman_54 rfl rfl ?_
      obtain ⟨mc8, ms8, rc8, rs8, hb1, hb2, h⟩ := h
      refine jd_callI (pc := 55) (M2 := mX10_init) (id := (Z).2.2) (rc2 := rc8) (rs2 := rs8) (av := [.int x1]) kX10_init sX10_init lX11_341 rfl rfl (Nat.le_of_ble_eq_true rfl) hb1 hb2 dX11_newCoachman_55 (Cl.mono h (fun r8 Z8 I8 J8 h => ?_))
      obtain ⟨rfl, h⟩ := h
      exact jd_aret (pc := 58) rfl (Or.inr ⟨_, rfl⟩) dX11_newCoachman_58 h
    · have h := h.2.2.2 hq
      refine jd_tableIn (pc := 1) 59 dX11_newCoachman_1 (by omega) (by omega) (by rw [hq]; rfl) (by decide) ?_
      obtain ⟨rc9, rs9, hb1, hb2, h⟩ := h
      refine jd_new (pc := 59) (ci := 6) (N := 1) nX11_342 hb1 hb2 dX11_newCoachman_59 ?_
      refine jd_dup (pc := 62) dX11_newCoachman_62 rfl ?_
      refine jd_iload_n (pc := 63) 1 dX11_newCoachman_63 rfl rfl ?_
      obtain ⟨mc10, ms10, rc10, rs10, hb1, hb2, h⟩ := h
      refine jd_callI (pc := 64) (M2 := mX7_init) (id := (Z).2.2) (rc2 := rc10) (rs2 := rs10) (av := [.int x1]) kX7_init sX7_init lX11_344 rfl rfl (Nat.le_of_ble_eq_true rfl) hb1 hb2 dX11_newCoachman_64 (Cl.mono h (fun r10 Z10 I10 J10 h => ?_))
      obtain ⟨rfl, h⟩ := h
      exact jd_aret (pc := 67) rfl (Or.inr ⟨_, rfl⟩) dX11_newCoachman_67 h
theorem eX11_newCoachman {G : jdG} {n mc ms : Nat} {Z : jdL} {I : jdI} {J : jdJ} {Q : jdQ} {x0 : Int32} {x1 : Int32}  (h : (((x0 : Int32).toInt < 1 ∨ 4 < (x0 : Int32).toInt → (∃ rc1 rs1 : Nat, 1 + rc1 ≤ mc ∧ 1 + rs1 ≤ ms ∧ (∃ mc2 ms2 rc2 rs2 : Nat, mc2 + rc2 ≤ rc1 ∧ ms2 + rs2 ≤ rs1 ∧ Cl G mX0_init n mc2 ms2 [.ref (gb G + (Z).2.2), .int x1] (nZ Z (0 + 10, 0)) (zI I (Z).2.2) J (fun r2 Z2 I2 J2 => r2 = none ∧ Q (some (.ref (gb G + (Z).2.2))) Z2 I2 J2)))) ∧ ((x0 : Int32).toInt = 1 → (∃ rc3 rs3 : Nat, 1 + rc3 ≤ mc ∧ 1 + rs3 ≤ ms ∧ (∃ mc4 ms4 rc4 rs4 : Nat, mc4 + rc4 ≤ rc3 ∧ ms4 + rs4 ≤ rs3 ∧ Cl G mX4_init n mc4 ms4 [.ref (gb G + (Z).2.2), .int x1] (nZ Z (3 + 10, 0)) (zI I (Z).2.2) J (fun r4 Z4 I4 J4 => r4 = none ∧ Q (some (.ref (gb G + (Z).2.2))) Z4 I4 J4)))) ∧ ((x0 : Int32).toInt = 2 → (∃ rc5 rs5 : Nat, 1 + rc5 ≤ mc ∧ 1 + rs5 ≤ ms ∧ (∃ mc6 ms6 rc6 rs6 : Nat, mc6 + rc6 ≤ rc5 ∧ ms6 + rs6 ≤ rs5 ∧ Cl G mX1_init n mc6 ms6 [.ref (gb G + (Z).2.2), .int x1] (nZ Z (1 + 10, 0)) (zI I (Z).2.2) J (fun r6 Z6 I6 J6 => r6 = none ∧ Q (some (.ref (gb G + (Z).2.2))) Z6 I6 J6)))) ∧ ((x0 : Int32).toInt = 3 → (∃ rc7 rs7 : Nat, 1 + rc7 ≤ mc ∧ 1 + rs7 ≤ ms ∧ (∃ mc8 ms8 rc8 rs8 : Nat, mc8 + rc8 ≤ rc7 ∧ ms8 + rs8 ≤ rs7 ∧ Cl G mX10_init n mc8 ms8 [.ref (gb G + (Z).2.2), .int x1] (nZ Z (9 + 10, 0)) (zI I (Z).2.2) J (fun r8 Z8 I8 J8 => r8 = none ∧ Q (some (.ref (gb G + (Z).2.2))) Z8 I8 J8)))) ∧ ((x0 : Int32).toInt = 4 → (∃ rc9 rs9 : Nat, 1 + rc9 ≤ mc ∧ 1 + rs9 ≤ ms ∧ (∃ mc10 ms10 rc10 rs10 : Nat, mc10 + rc10 ≤ rc9 ∧ ms10 + rs10 ≤ rs9 ∧ Cl G mX7_init n mc10 ms10 [.ref (gb G + (Z).2.2), .int x1] (nZ Z (6 + 10, 0)) (zI I (Z).2.2) J (fun r10 Z10 I10 J10 => r10 = none ∧ Q (some (.ref (gb G + (Z).2.2))) Z10 I10 J10)))))) : Cl G mX11_newCoachman (n + 1) mc ms [.int x0, .int x1] Z I J Q :=
  Cl.of (by decide +kernel) (Nat.le_of_ble_eq_true rfl) (rX11_newCoachman_0  h)
set_option maxRecDepth 4000 in
theorem rX11_think_0 {G : jdG} {n rc rs : Nat} {Z : jdL} {I : jdI} {J : jdJ} {K : jdI → jdJ → Prop} {u1 : Nat} (hX : zX Z) (h : Cl G mX8_load n 0 0 [.ref (gb G + 13), .ref (gb G + 1)] Z I J (qv Z (fun I1 J1 => Cl G mX3_pass n 0 0 [.ref (gb G + 20), .ref (gb G + 1), .ref (gb G + 13), .ref (gb G + u1)] Z I1 J1 (qv Z (fun I3 J3 => K I3 J3))))) : Jd G mX11_think (jdFm G (qv Z K)) (n + 1) rc rs 0 [(0, .ref (gb G + 0)), (1, .ref (gb G + u1))] [] Z I J := by
  refine jd_aload_n (pc := 0) 0 dX11_think_0 rfl rfl ?_
  refine jd_getR (pc := 1) (ci := 10) (k := 3) (r := 13) gX11_25 hX.1 rfl (zX_p3 hX) dX11_think_1 ?_
  refine jd_aload_n (pc := 4) 0 dX11_think_4 rfl rfl ?_
  refine jd_getR (pc := 5) (ci := 10) (k := 0) (r := 1) gX11_10 hX.1 rfl (zX_p0 hX) dX11_think_5 ?_
  refine jd_callVv (pc := 8) (M2 := mX8_load) (id := 13) (ci := 7) (T := TX8) (N := 11) (av := [.ref (gb G + 1)]) kX8_load sX8_load rfl (zX_o3 hX).1 lX11_128 rfl rfl (Nat.le_of_ble_eq_true rfl) dX11_think_8 h ?_
  intro I1 J1 h
  refine jd_aload_n (pc := 11) 0 dX11_think_11 rfl rfl ?_
  refine jd_getR (pc := 12) (ci := 10) (k := 4) (r := 20) gX11_32 hX.1 rfl (zX_p4 hX) dX11_think_12 ?_
  refine jd_aload_n (pc := 15) 0 dX11_think_15 rfl rfl ?_
  refine jd_getR (pc := 16) (ci := 10) (k := 0) (r := 1) gX11_10 hX.1 rfl (zX_p0 hX) dX11_think_16 ?_
  refine jd_aload_n (pc := 19) 0 dX11_think_19 rfl rfl ?_
  refine jd_getR (pc := 20) (ci := 10) (k := 3) (r := 13) gX11_25 hX.1 rfl (zX_p3 hX) dX11_think_20 ?_
  refine jd_aload_n (pc := 23) 1 dX11_think_23 rfl rfl ?_
  refine jd_callVv (pc := 24) (M2 := mX3_pass) (id := 20) (ci := 2) (T := TX3) (N := 7) (av := [.ref (gb G + 1), .ref (gb G + 13), .ref (gb G + u1)]) kX3_pass sX3_pass rfl (zX_o4 hX).1 lX11_254 rfl rfl (Nat.le_of_ble_eq_true rfl) dX11_think_24 h ?_
  intro I3 J3 h
  exact jd_vretK (pc := 27) rfl dX11_think_27 h
theorem eX11_think {G : jdG} {n : Nat} {Z : jdL} {I : jdI} {J : jdJ} {K : jdI → jdJ → Prop} {u1 : Nat} (hX : zX Z) (h : Cl G mX8_load n 0 0 [.ref (gb G + 13), .ref (gb G + 1)] Z I J (qv Z (fun I1 J1 => Cl G mX3_pass n 0 0 [.ref (gb G + 20), .ref (gb G + 1), .ref (gb G + 13), .ref (gb G + u1)] Z I1 J1 (qv Z (fun I3 J3 => K I3 J3))))) : Cl G mX11_think (n + 1) 0 0 [.ref (gb G + 0), .ref (gb G + u1)] Z I J (qv Z K) :=
  Cl.of (by decide +kernel) (Nat.le_of_ble_eq_true rfl) (rX11_think_0 hX h)
set_option maxRecDepth 4000 in
theorem rX11_whyNotTold_0 {G : jdG} {n rc rs : Nat} {Z : jdL} {I : jdI} {J : jdJ} {K : Int32 → jdI → jdJ → Prop} {x1 : Int32} {x2 : Int32} (hX : zX Z) (h : Cl G mX11_isShelf n 0 0 [.int x1] Z I J (qi Z (fun v2 I1 J1 => ((v2 = 0 → K (-2) I1 J1) ∧ (¬ v2 = 0 → ((x2 < 0 → K (-2) I1 J1) ∧ (¬ x2 < 0 → ((x2 ≤ 7 → Cl G mX11_holdsRow n 0 0 [.ref (gb G + 0), .int x1] Z I1 J1 (qi Z (fun v4 I3 J3 => ((¬ v4 = 0 → (vp_in x1 8 ∧ ((x2 ≤ (I3 (29 + 2 * (Int32.toNatClampNeg x1)) 2) → K 0 I3 J3) ∧ (¬ x2 ≤ (I3 (29 + 2 * (Int32.toNatClampNeg x1)) 2) → K (-2) I3 J3)))) ∧ (v4 = 0 → Cl G mX11_whyNoRow n 0 0 [.ref (gb G + 0), .int x1] Z I3 J3 (qi Z (fun v7 I6 J6 => K v7 I6 J6))))))) ∧ (¬ x2 ≤ 7 → K (-2) I1 J1))))))))) : Jd G mX11_whyNotTold (jdFm G (qi Z K)) (n + 1) rc rs 0 [(0, .ref (gb G + 0)), (1, .int x1), (2, .int x2)] [] Z I J := by
  refine jd_iload_n (pc := 0) 1 dX11_whyNotTold_0 rfl rfl ?_
  refine jd_callSi (pc := 1) (M2 := mX11_isShelf) (av := [.int x1]) kX11_isShelf sX11_isShelf lX11_54 rfl rfl (Nat.le_of_ble_eq_true rfl) dX11_whyNotTold_1 h ?_
  intro v2 I1 J1 h
  refine jd_if_eq (pc := 4) 17 dX11_whyNotTold_4 (by decide) (fun hc => ?_) (fun hc => ?_)
  · have h := h.1 hc
    refine jd_bipush (pc := 17) (v := (-2)) dX11_whyNotTold_17 (by decide) ?_
    exact jd_iretK (pc := 19) rfl rfl dX11_whyNotTold_19 h
  · have h := h.2 hc
    refine jd_iload_n (pc := 7) 2 dX11_whyNotTold_7 rfl rfl ?_
    refine jd_if_lt (pc := 8) 17 dX11_whyNotTold_8 (by decide) (fun hc => ?_) (fun hc => ?_)
    · have h := h.1 hc
      refine jd_bipush (pc := 17) (v := (-2)) dX11_whyNotTold_17 (by decide) ?_
      exact jd_iretK (pc := 19) rfl rfl dX11_whyNotTold_19 h
    · have h := h.2 hc
      refine jd_iload_n (pc := 11) 2 dX11_whyNotTold_11 rfl rfl ?_
      refine jd_bipush (pc := 12) (v := 7) dX11_whyNotTold_12 (by decide) ?_
      refine jd_icmp_le (pc := 14) 20 dX11_whyNotTold_14 (by decide) (fun hc => ?_) (fun hc => ?_)
      · have h := h.1 hc
        refine jd_aload_n (pc := 20) 0 dX11_whyNotTold_20 rfl rfl ?_
        refine jd_iload_n (pc := 21) 1 dX11_whyNotTold_21 rfl rfl ?_
        refine jd_callVi (pc := 22) (M2 := mX11_holdsRow) (id := 0) (ci := 10) (T := TX11) (N := 9) (av := [.int x1]) kX11_holdsRow sX11_holdsRow rfl hX.1 lX11_66 rfl rfl (Nat.le_of_ble_eq_true rfl) dX11_whyNotTold_22 h ?_
        intro v4 I3 J3 h
        refine jd_if_ne (pc := 25) 34 dX11_whyNotTold_25 (by decide) (fun hc => ?_) (fun hc => ?_)
        · have h := h.1 hc
          refine jd_iload_n (pc := 34) 2 dX11_whyNotTold_34 rfl rfl ?_
          refine jd_aload_n (pc := 35) 0 dX11_whyNotTold_35 rfl rfl ?_
          refine jd_getR (pc := 36) (ci := 10) (k := 6) (r := 27) gX11_45 hX.1 rfl (zX_p6 hX) dX11_whyNotTold_36 ?_
          refine jd_iload_n (pc := 39) 1 dX11_whyNotTold_39 rfl rfl ?_
          obtain ⟨hv5, h⟩ := h
          refine jd_aald (pc := 40) (len := 8) (k := 4) (zX_a6 hX) (by decide) hv5 (zX_sh hX (vp_lt hv5)) dX11_whyNotTold_40 ?_
          refine jd_getI (pc := 41) (ci := 5) (k := 2) gX11_72 (zX_shelf hX (vp_lt hv5)).1 rfl dX11_whyNotTold_41 ?_
          refine jd_icmp_le (pc := 44) 52 dX11_whyNotTold_44 (by decide) (fun hc => ?_) (fun hc => ?_)
          · have h := h.1 hc
            refine jd_iconst (pc := 52) (v := 0) dX11_whyNotTold_52 (by decide) ?_
            exact jd_iretK (pc := 53) rfl rfl dX11_whyNotTold_53 h
          · have h := h.2 hc
            refine jd_bipush (pc := 47) (v := (-2)) dX11_whyNotTold_47 (by decide) ?_
            refine jd_goto (pc := 49) 53 dX11_whyNotTold_49 (by decide) ?_
            exact jd_iretK (pc := 53) rfl rfl dX11_whyNotTold_53 h
        · have h := h.2 hc
          refine jd_aload_n (pc := 28) 0 dX11_whyNotTold_28 rfl rfl ?_
          refine jd_iload_n (pc := 29) 1 dX11_whyNotTold_29 rfl rfl ?_
          refine jd_callVi (pc := 30) (M2 := mX11_whyNoRow) (id := 0) (ci := 10) (T := TX11) (N := 9) (av := [.int x1]) kX11_whyNoRow sX11_whyNoRow rfl hX.1 lX11_69 rfl rfl (Nat.le_of_ble_eq_true rfl) dX11_whyNotTold_30 h ?_
          intro v7 I6 J6 h
          exact jd_iretK (pc := 33) rfl rfl dX11_whyNotTold_33 h
      · have h := h.2 hc
        refine jd_bipush (pc := 17) (v := (-2)) dX11_whyNotTold_17 (by decide) ?_
        exact jd_iretK (pc := 19) rfl rfl dX11_whyNotTold_19 h
theorem eX11_whyNotTold {G : jdG} {n : Nat} {Z : jdL} {I : jdI} {J : jdJ} {K : Int32 → jdI → jdJ → Prop} {x1 : Int32} {x2 : Int32} (hX : zX Z) (h : Cl G mX11_isShelf n 0 0 [.int x1] Z I J (qi Z (fun v2 I1 J1 => ((v2 = 0 → K (-2) I1 J1) ∧ (¬ v2 = 0 → ((x2 < 0 → K (-2) I1 J1) ∧ (¬ x2 < 0 → ((x2 ≤ 7 → Cl G mX11_holdsRow n 0 0 [.ref (gb G + 0), .int x1] Z I1 J1 (qi Z (fun v4 I3 J3 => ((¬ v4 = 0 → (vp_in x1 8 ∧ ((x2 ≤ (I3 (29 + 2 * (Int32.toNatClampNeg x1)) 2) → K 0 I3 J3) ∧ (¬ x2 ≤ (I3 (29 + 2 * (Int32.toNatClampNeg x1)) 2) → K (-2) I3 J3)))) ∧ (v4 = 0 → Cl G mX11_whyNoRow n 0 0 [.ref (gb G + 0), .int x1] Z I3 J3 (qi Z (fun v7 I6 J6 => K v7 I6 J6))))))) ∧ (¬ x2 ≤ 7 → K (-2) I1 J1))))))))) : Cl G mX11_whyNotTold (n + 1) 0 0 [.ref (gb G + 0), .int x1, .int x2] Z I J (qi Z K) :=
  Cl.of (by decide +kernel) (Nat.le_of_ble_eq_true rfl) (rX11_whyNotTold_0 hX h)
set_option maxRecDepth 4000 in
theorem rX11_whyNotRidden_0 {G : jdG} {n rc rs : Nat} {Z : jdL} {I : jdI} {J : jdJ} {K : Int32 → jdI → jdJ → Prop} {x1 : Int32} {x2 : Int32} (hX : zX Z) (h : Cl G mX11_whyNotTold n 0 0 [.ref (gb G + 0), .int x1, .int x2] Z I J (qi Z (fun v2 I1 J1 => ((v2 = 0 → Cl G mX11_firstWrong n 0 0 [.ref (gb G + 0), .int x1, .int x2] Z I1 J1 (qi Z (fun v4 I3 J3 => ((v4 = (-1) → K 0 I3 J3) ∧ (¬ v4 = (-1) → K (-5) I3 J3))))) ∧ (¬ v2 = 0 → K v2 I1 J1))))) : Jd G mX11_whyNotRidden (jdFm G (qi Z K)) (n + 1) rc rs 0 [(0, .ref (gb G + 0)), (1, .int x1), (2, .int x2)] [] Z I J := by
  refine jd_aload_n (pc := 0) 0 dX11_whyNotRidden_0 rfl rfl ?_
  refine jd_iload_n (pc := 1) 1 dX11_whyNotRidden_1 rfl rfl ?_
  refine jd_iload_n (pc := 2) 2 dX11_whyNotRidden_2 rfl rfl ?_
  refine jd_callVi (pc := 3) (M2 := mX11_whyNotTold) (id := 0) (ci := 10) (T := TX11) (N := 9) (av := [.int x1, .int x2]) kX11_whyNotTold sX11_whyNotTold rfl hX.1 lX11_285 rfl rfl (Nat.le_of_ble_eq_true rfl) dX11_whyNotRidden_3 h ?_
  intro v2 I1 J1 h
  refine jd_istore_n (pc := 6) [(3, .int v2), (0, .ref (gb G + 0)), (1, .int x1), (2, .int x2)] dX11_whyNotRidden_6 rfl (by decide) rfl ?_
  refine jd_iload_n (pc := 7) 0 dX11_whyNotRidden_7 rfl rfl ?_
  refine jd_if_eq (pc := 8) 13 dX11_whyNotRidden_8 (by decide) (fun hc => ?_) (fun hc => ?_)
  · have h := h.1 hc
    refine jd_aload_n (pc := 13) 1 dX11_whyNotRidden_13 rfl rfl ?_
    refine jd_iload_n (pc := 14) 2 dX11_whyNotRidden_14 rfl rfl ?_
    refine jd_iload_n (pc := 15) 3 dX11_whyNotRidden_15 rfl rfl ?_
    refine jd_callVi (pc := 16) (M2 := mX11_firstWrong) (id := 0) (ci := 10) (T := TX11) (N := 9) (av := [.int x1, .int x2]) kX11_firstWrong sX11_firstWrong rfl hX.1 lX11_288 rfl rfl (Nat.le_of_ble_eq_true rfl) dX11_whyNotRidden_16 h ?_
    intro v4 I3 J3 h
    refine jd_iconst (pc := 19) (v := (-1)) dX11_whyNotRidden_19 (by decide) ?_
    refine jd_icmp_eq (pc := 20) 28 dX11_whyNotRidden_20 (by decide) (fun hc => ?_) (fun hc => ?_)
    · have h := h.1 hc
      refine jd_iconst (pc := 28) (v := 0) dX11_whyNotRidden_28 (by decide) ?_
      exact jd_iretK (pc := 29) rfl rfl dX11_whyNotRidden_29 h
    · have h := h.2 hc
      refine jd_bipush (pc := 23) (v := (-5)) dX11_whyNotRidden_23 (by decide) ?_
      refine jd_goto (pc := 25) 29 dX11_whyNotRidden_25 (by decide) ?_
      exact jd_iretK (pc := 29) rfl rfl dX11_whyNotRidden_29 h
  · have h := h.2 hc
    refine jd_iload_n (pc := 11) 0 dX11_whyNotRidden_11 rfl rfl ?_
    exact jd_iretK (pc := 12) rfl rfl dX11_whyNotRidden_12 h
theorem eX11_whyNotRidden {G : jdG} {n : Nat} {Z : jdL} {I : jdI} {J : jdJ} {K : Int32 → jdI → jdJ → Prop} {x1 : Int32} {x2 : Int32} (hX : zX Z) (h : Cl G mX11_whyNotTold n 0 0 [.ref (gb G + 0), .int x1, .int x2] Z I J (qi Z (fun v2 I1 J1 => ((v2 = 0 → Cl G mX11_firstWrong n 0 0 [.ref (gb G + 0), .int x1, .int x2] Z I1 J1 (qi Z (fun v4 I3 J3 => ((v4 = (-1) → K 0 I3 J3) ∧ (¬ v4 = (-1) → K (-5) I3 J3))))) ∧ (¬ v2 = 0 → K v2 I1 J1))))) : Cl G mX11_whyNotRidden (n + 1) 0 0 [.ref (gb G + 0), .int x1, .int x2] Z I J (qi Z K) :=
  Cl.of (by decide +kernel) (Nat.le_of_ble_eq_true rfl) (rX11_whyNotRidden_0 hX h)
set_option maxRecDepth 4000 in
theorem rX11_firstWrong_0 {G : jdG} {n rc rs : Nat} {Z : jdL} {I : jdI} {J : jdJ} {K : Int32 → jdI → jdJ → Prop} {x1 : Int32} {x2 : Int32} (hX : zX Z) (h : Cl G mX8_load n 0 0 [.ref (gb G + 13), .ref (gb G + 1)] Z I J (qv Z (fun I1 J1 => Jd G mX11_firstWrong (jdFm G (qi Z K)) (n + 1) rc rs 16 [(0, .ref (gb G + 0)), (1, .int x1), (2, .int x2), (3, .int 0), (4, .int 0)] [] Z I1 J1))) : Jd G mX11_firstWrong (jdFm G (qi Z K)) (n + 1) rc rs 0 [(0, .ref (gb G + 0)), (1, .int x1), (2, .int x2)] [] Z I J := by
  refine jd_aload_n (pc := 0) 0 dX11_firstWrong_0 rfl rfl ?_
  refine jd_getR (pc := 1) (ci := 10) (k := 3) (r := 13) gX11_25 hX.1 rfl (zX_p3 hX) dX11_firstWrong_1 ?_
  refine jd_aload_n (pc := 4) 0 dX11_firstWrong_4 rfl rfl ?_
  refine jd_getR (pc := 5) (ci := 10) (k := 0) (r := 1) gX11_10 hX.1 rfl (zX_p0 hX) dX11_firstWrong_5 ?_
  refine jd_callVv (pc := 8) (M2 := mX8_load) (id := 13) (ci := 7) (T := TX8) (N := 11) (av := [.ref (gb G + 1)]) kX8_load sX8_load rfl (zX_o3 hX).1 lX11_128 rfl rfl (Nat.le_of_ble_eq_true rfl) dX11_firstWrong_8 h ?_
  intro I1 J1 h
  refine jd_iconst (pc := 11) (v := 0) dX11_firstWrong_11 (by decide) ?_
  refine jd_istore_n (pc := 12) [(3, .int 0), (0, .ref (gb G + 0)), (1, .int x1), (2, .int x2)] dX11_firstWrong_12 rfl (by decide) rfl ?_
  refine jd_iconst (pc := 13) (v := 0) dX11_firstWrong_13 (by decide) ?_
  refine jd_istore (pc := 14) [(4, .int 0), (3, .int 0), (0, .ref (gb G + 0)), (1, .int x1), (2, .int x2)] dX11_firstWrong_14 (by decide) rfl ?_
  exact jd_lv (lv2 := [(0, .ref (gb G + 0)), (1, .int x1), (2, .int x2), (3, .int 0), (4, .int 0)]) [2, 3, 4, 1, 0] rfl h
set_option maxRecDepth 4000 in
theorem rX11_firstWrong_16 {G : jdG} {n rc rs : Nat} {Z : jdL} {I : jdI} {J : jdJ} {K : Int32 → jdI → jdJ → Prop} {x1 : Int32} {x2 : Int32} {x3 : Int32} {x4 : Int32} (hX : zX Z) (h : ((x2 ≤ x4 → K (-1) I J) ∧ (¬ x2 ≤ x4 → (vp_in x1 8 ∧ (vp_in x4 40 ∧ (((lg_cmp (J ((29 + 2 * (Int32.toNatClampNeg x1)) + 1) (Int32.toNatClampNeg x4)) 0) < 0 → K x4 I J) ∧ (¬ (lg_cmp (J ((29 + 2 * (Int32.toNatClampNeg x1)) + 1) (Int32.toNatClampNeg x4)) 0) < 0 → Cl G mX9_everybody n 0 0 [.ref (gb G + 1)] Z I J (qi Z (fun v4 I3 J3 => (((lg_cmp (J ((29 + 2 * (Int32.toNatClampNeg x1)) + 1) (Int32.toNatClampNeg x4)) (Int32.toInt64 v4)) ≤ 0 → Cl G mX8_isOne n 0 0 [.ref (gb G + 13), .int (Int64.toInt32 (J ((29 + 2 * (Int32.toNatClampNeg x1)) + 1) (Int32.toNatClampNeg x4)))] Z I3 J3 (qi Z (fun v6 I5 J5 => ((v6 = 0 → K x4 I5 J5) ∧ (¬ v6 = 0 → ((((Int64.toInt32 (J ((29 + 2 * (Int32.toNatClampNeg x1)) + 1) (Int32.toNatClampNeg x4))) &&& x3) = 0 → Jd G mX11_firstWrong (jdFm G (qi Z K)) (n + 1) rc rs 16 [(0, .ref (gb G + 0)), (1, .int x1), (2, .int x2), (3, .int (x3 ||| (Int64.toInt32 (J ((29 + 2 * (Int32.toNatClampNeg x1)) + 1) (Int32.toNatClampNeg x4))))), (4, .int (x4 + 1))] [] Z I5 J5) ∧ (¬ ((Int64.toInt32 (J ((29 + 2 * (Int32.toNatClampNeg x1)) + 1) (Int32.toNatClampNeg x4))) &&& x3) = 0 → K x4 I5 J5))))))) ∧ (¬ (lg_cmp (J ((29 + 2 * (Int32.toNatClampNeg x1)) + 1) (Int32.toNatClampNeg x4)) (Int32.toInt64 v4)) ≤ 0 → K x4 I3 J3))))))))))) : Jd G mX11_firstWrong (jdFm G (qi Z K)) (n + 1) rc rs 16 [(0, .ref (gb G + 0)), (1, .int x1), (2, .int x2), (3, .int x3), (4, .int x4)] [] Z I J := by
  refine jd_iload (pc := 16) 4 dX11_firstWrong_16 rfl ?_
  refine jd_iload_n (pc := 18) 2 dX11_firstWrong_18 rfl rfl ?_
  refine jd_icmp_ge (pc := 19) 98 dX11_firstWrong_19 (by decide) (fun hc => ?_) (fun hc => ?_)
  · have h := h.1 hc
    refine jd_iconst (pc := 98) (v := (-1)) dX11_firstWrong_98 (by decide) ?_
    exact jd_iretK (pc := 99) rfl rfl dX11_firstWrong_99 h
  · have h := h.2 hc
    refine jd_aload_n (pc := 22) 0 dX11_firstWrong_22 rfl rfl ?_
    refine jd_getR (pc := 23) (ci := 10) (k := 6) (r := 27) gX11_45 hX.1 rfl (zX_p6 hX) dX11_firstWrong_23 ?_
    refine jd_iload_n (pc := 26) 1 dX11_firstWrong_26 rfl rfl ?_
    obtain ⟨hv1, h⟩ := h
    refine jd_aald (pc := 27) (len := 8) (k := 4) (zX_a6 hX) (by decide) hv1 (zX_sh hX (vp_lt hv1)) dX11_firstWrong_27 ?_
    refine jd_getR (pc := 28) (ci := 5) (k := 0) (r := ((29 + 2 * (Int32.toNatClampNeg x1)) + 1)) gX11_91 (zX_shelf hX (vp_lt hv1)).1 rfl (zShelf_p0 (zX_shelf hX (vp_lt hv1))) dX11_firstWrong_28 ?_
    refine jd_iload (pc := 31) 4 dX11_firstWrong_31 rfl ?_
    obtain ⟨hv2, h⟩ := h
    refine jd_lald (pc := 33) (len := 40) (zShelf_a0 (zX_shelf hX (vp_lt hv1))) hv2 dX11_firstWrong_33 ?_
    refine jd_lstore (pc := 34) [(5, .long (J ((29 + 2 * (Int32.toNatClampNeg x1)) + 1) (Int32.toNatClampNeg x4))), (0, .ref (gb G + 0)), (1, .int x1), (2, .int x2), (3, .int x3), (4, .int x4)] dX11_firstWrong_34 (by decide) rfl ?_
    refine jd_lload (pc := 36) 0 dX11_firstWrong_36 rfl ?_
    refine jd_lconst (pc := 38) (v := 0) dX11_firstWrong_38 (by decide) ?_
    refine jd_lcmp (pc := 39) dX11_firstWrong_39 ?_
    refine jd_if_lt (pc := 40) 57 dX11_firstWrong_40 (by decide) (fun hc => ?_) (fun hc => ?_)
    · have h := h.1 hc
      refine jd_iload (pc := 57) 5 dX11_firstWrong_57 rfl ?_
      exact jd_iretK (pc := 59) rfl rfl dX11_firstWrong_59 h
    · have h := h.2 hc
      refine jd_lload (pc := 43) 0 dX11_firstWrong_43 rfl ?_
      refine jd_aload_n (pc := 45) 1 dX11_firstWrong_45 rfl rfl ?_
      refine jd_getR (pc := 46) (ci := 10) (k := 0) (r := 1) gX11_10 hX.1 rfl (zX_p0 hX) dX11_firstWrong_46 ?_
      refine jd_callVi (pc := 49) (M2 := mX9_everybody) (id := 1) (ci := 8) (T := TX9) (N := 10) (av := []) kX9_everybody sX9_everybody rfl (zX_o0 hX).1 lX11_132 rfl rfl (Nat.le_of_ble_eq_true rfl) dX11_firstWrong_49 h ?_
      intro v4 I3 J3 h
      refine jd_i2l (pc := 52) dX11_firstWrong_52 ?_
      refine jd_lcmp (pc := 53) dX11_firstWrong_53 ?_
      refine jd_if_le (pc := 54) 60 dX11_firstWrong_54 (by decide) (fun hc => ?_) (fun hc => ?_)
      · have h := h.1 hc
        refine jd_lload (pc := 60) 0 dX11_firstWrong_60 rfl ?_
        refine jd_l2i (pc := 62) dX11_firstWrong_62 ?_
        refine jd_istore (pc := 63) [(7, .int (Int64.toInt32 (J ((29 + 2 * (Int32.toNatClampNeg x1)) + 1) (Int32.toNatClampNeg x4)))), (5, .long (J ((29 + 2 * (Int32.toNatClampNeg x1)) + 1) (Int32.toNatClampNeg x4))), (0, .ref (gb G + 0)), (1, .int x1), (2, .int x2), (3, .int x3), (4, .int x4)] dX11_firstWrong_63 (by decide) rfl ?_
        refine jd_aload_n (pc := 65) 2 dX11_firstWrong_65 rfl rfl ?_
        refine jd_getR (pc := 66) (ci := 10) (k := 3) (r := 13) gX11_25 hX.1 rfl (zX_p3 hX) dX11_firstWrong_66 ?_
        refine jd_iload (pc := 69) 0 dX11_firstWrong_69 rfl ?_
        refine jd_callVi (pc := 71) (M2 := mX8_isOne) (id := 13) (ci := 7) (T := TX8) (N := 11) (av := [.int (Int64.toInt32 (J ((29 + 2 * (Int32.toNatClampNeg x1)) + 1) (Int32.toNatClampNeg x4)))]) kX8_isOne sX8_isOne rfl (zX_o3 hX).1 lX11_210 rfl rfl (Nat.le_of_ble_eq_true rfl) dX11_firstWrong_71 h ?_
        intro v6 I5 J5 h
        refine jd_if_eq (pc := 74) 84 dX11_firstWrong_74 (by decide) (fun hc => ?_) (fun hc => ?_)
        · have h := h.1 hc
          refine jd_iload (pc := 84) 6 dX11_firstWrong_84 rfl ?_
          exact jd_iretK (pc := 86) rfl rfl dX11_firstWrong_86 h
        · have h := h.2 hc
          refine jd_iload (pc := 77) 0 dX11_firstWrong_77 rfl ?_
          refine jd_iload_n (pc := 79) 5 dX11_firstWrong_79 rfl rfl ?_
          refine jd_iand (pc := 80) dX11_firstWrong_80 ?_
          refine jd_if_eq (pc := 81) 87 dX11_firstWrong_81 (by decide) (fun hc => ?_) (fun hc => ?_)
          · have h := h.1 hc
            refine jd_iload_n (pc := 87) 5 dX11_firstWrong_87 rfl rfl ?_
            refine jd_iload (pc := 88) 0 dX11_firstWrong_88 rfl ?_
            refine jd_ior (pc := 90) dX11_firstWrong_90 ?_
            refine jd_istore_n (pc := 91) [(3, .int (x3 ||| (Int64.toInt32 (J ((29 + 2 * (Int32.toNatClampNeg x1)) + 1) (Int32.toNatClampNeg x4))))), (7, .int (Int64.toInt32 (J ((29 + 2 * (Int32.toNatClampNeg x1)) + 1) (Int32.toNatClampNeg x4)))), (5, .long (J ((29 + 2 * (Int32.toNatClampNeg x1)) + 1) (Int32.toNatClampNeg x4))), (0, .ref (gb G + 0)), (1, .int x1), (2, .int x2), (4, .int x4)] dX11_firstWrong_91 rfl (by decide) rfl ?_
            refine jd_iinc (pc := 92) (v := (x4 + 1)) 6 [(4, .int (x4 + 1)), (3, .int (x3 ||| (Int64.toInt32 (J ((29 + 2 * (Int32.toNatClampNeg x1)) + 1) (Int32.toNatClampNeg x4))))), (7, .int (Int64.toInt32 (J ((29 + 2 * (Int32.toNatClampNeg x1)) + 1) (Int32.toNatClampNeg x4)))), (5, .long (J ((29 + 2 * (Int32.toNatClampNeg x1)) + 1) (Int32.toNatClampNeg x4))), (0, .ref (gb G + 0)), (1, .int x1), (2, .int x2)] dX11_firstWrong_92 rfl rfl (by decide) rfl ?_
            refine jd_goto (pc := 95) 16 dX11_firstWrong_95 (by decide) ?_
            exact jd_lv (lv2 := [(0, .ref (gb G + 0)), (1, .int x1), (2, .int x2), (3, .int (x3 ||| (Int64.toInt32 (J ((29 + 2 * (Int32.toNatClampNeg x1)) + 1) (Int32.toNatClampNeg x4))))), (4, .int (x4 + 1))]) [4, 5, 6, 1, 0] rfl h
          · have h := h.2 hc
            refine jd_iload (pc := 84) 6 dX11_firstWrong_84 rfl ?_
            exact jd_iretK (pc := 86) rfl rfl dX11_firstWrong_86 h
      · have h := h.2 hc
        refine jd_iload (pc := 57) 5 dX11_firstWrong_57 rfl ?_
        exact jd_iretK (pc := 59) rfl rfl dX11_firstWrong_59 h
theorem eX11_firstWrong {G : jdG} {n : Nat} {Z : jdL} {I : jdI} {J : jdJ} {K : Int32 → jdI → jdJ → Prop} {x1 : Int32} {x2 : Int32} (hX : zX Z) (h : Cl G mX8_load n 0 0 [.ref (gb G + 13), .ref (gb G + 1)] Z I J (qv Z (fun I1 J1 => Jd G mX11_firstWrong (jdFm G (qi Z K)) (n + 1) 0 0 16 [(0, .ref (gb G + 0)), (1, .int x1), (2, .int x2), (3, .int 0), (4, .int 0)] [] Z I1 J1))) : Cl G mX11_firstWrong (n + 1) 0 0 [.ref (gb G + 0), .int x1, .int x2] Z I J (qi Z K) :=
  Cl.of (by decide +kernel) (Nat.le_of_ble_eq_true rfl) (rX11_firstWrong_0 hX h)
