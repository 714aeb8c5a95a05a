set_option maxRecDepth 4000 in
theorem rX12_refuse_0 {G : jdG} {n rc rs : Nat} {Z : jdL} {I : jdI} {J : jdJ} {K : Int32 → jdI → jdJ → Prop} {t : Nat} {x1 : Int32} (ht : zModel Z t) (h : (vp_in (-x1) 8 ∧ (vp_in (-x1) 8 ∧ K x1 (uI I (t + 17) (Int32.toNatClampNeg (-x1)) ((I (t + 17) (Int32.toNatClampNeg (-x1))) + 1)) J))) : Jd G mX12_refuse (jdFm G (qi Z K)) n rc rs 0 [(0, .ref (gb G + t)), (1, .int x1)] [] Z I J := by
  refine jd_aload_n (pc := 0) 0 dX12_refuse_0 rfl rfl ?_
  refine jd_getR (pc := 1) (ci := 11) (k := 9) (r := (t + 17)) gX12_37 ht.1 rfl (zModel_p9 ht) dX12_refuse_1 ?_
  refine jd_iload_n (pc := 4) 1 dX12_refuse_4 rfl rfl ?_
  refine jd_ineg (pc := 5) dX12_refuse_5 ?_
  refine jd_dup2 (pc := 6) dX12_refuse_6 rfl rfl ?_
  obtain ⟨hv1, h⟩ := h
  refine jd_iald (pc := 7) (len := 8) (zModel_a9 ht) hv1 dX12_refuse_7 ?_
  refine jd_iconst (pc := 8) (v := 1) dX12_refuse_8 (by decide) ?_
  refine jd_iadd (pc := 9) dX12_refuse_9 ?_
  obtain ⟨hv2, h⟩ := h
  refine jd_iast (pc := 10) (len := 8) (zModel_a9 ht) hv2 dX12_refuse_10 ?_
  refine jd_iload_n (pc := 11) 1 dX12_refuse_11 rfl rfl ?_
  exact jd_iretK (pc := 12) rfl rfl dX12_refuse_12 h
theorem eX12_refuse {G : jdG} {n : Nat} {Z : jdL} {I : jdI} {J : jdJ} {K : Int32 → jdI → jdJ → Prop} {t : Nat} {x1 : Int32} (ht : zModel Z t) (h : (vp_in (-x1) 8 ∧ (vp_in (-x1) 8 ∧ K x1 (uI I (t + 17) (Int32.toNatClampNeg (-x1)) ((I (t + 17) (Int32.toNatClampNeg (-x1))) + 1)) J))) : Cl G mX12_refuse (n) 0 0 [.ref (gb G + t), .int x1] Z I J (qi Z K) :=
  Cl.of (by decide +kernel) (Nat.le_of_ble_eq_true rfl) (rX12_refuse_0 ht h)
set_option maxRecDepth 4000 in
theorem rX12_in_0 {G : jdG} {n rc rs : Nat} {Z : jdL} {I : jdI} {J : jdJ} {K : Int32 → jdI → jdJ → Prop} {y0 : Int64} {y2 : Int64} {y4 : Int64}  (h : (((lg_cmp y0 y2) < 0 → K 0 I J) ∧ (¬ (lg_cmp y0 y2) < 0 → ((0 < (lg_cmp y0 y4) → K 0 I J) ∧ (¬ 0 < (lg_cmp y0 y4) → K 1 I J))))) : Jd G mX12_in (jdFm G (qi Z K)) n rc rs 0 [(0, .long y0), (2, .long y2), (4, .long y4)] [] Z I J := by
  refine jd_lload_n (pc := 0) 0 dX12_in_0 rfl rfl ?_
  refine jd_lload_n (pc := 1) 1 dX12_in_1 rfl rfl ?_
  refine jd_lcmp (pc := 2) dX12_in_2 ?_
  refine jd_if_lt (pc := 3) 17 dX12_in_3 (by decide) (fun hc => ?_) (fun hc => ?_)
  · have h := h.1 hc
    refine jd_iconst (pc := 17) (v := 0) dX12_in_17 (by decide) ?_
    exact jd_iretK (pc := 18) (ty := .boolean) rfl (by decide) dX12_in_18 h
  · have h := h.2 hc
    refine jd_lload_n (pc := 6) 0 dX12_in_6 rfl rfl ?_
    refine jd_lload (pc := 7) 2 dX12_in_7 rfl ?_
    refine jd_lcmp (pc := 9) dX12_in_9 ?_
    refine jd_if_gt (pc := 10) 17 dX12_in_10 (by decide) (fun hc => ?_) (fun hc => ?_)
    · have h := h.1 hc
      refine jd_iconst (pc := 17) (v := 0) dX12_in_17 (by decide) ?_
      exact jd_iretK (pc := 18) (ty := .boolean) rfl (by decide) dX12_in_18 h
    · have h := h.2 hc
      refine jd_iconst (pc := 13) (v := 1) dX12_in_13 (by decide) ?_
      refine jd_goto (pc := 14) 18 dX12_in_14 (by decide) ?_
      exact jd_iretK (pc := 18) (ty := .boolean) rfl (by decide) dX12_in_18 h
theorem eX12_in {G : jdG} {n : Nat} {Z : jdL} {I : jdI} {J : jdJ} {K : Int32 → jdI → jdJ → Prop} {y0 : Int64} {y2 : Int64} {y4 : Int64}  (h : (((lg_cmp y0 y2) < 0 → K 0 I J) ∧ (¬ (lg_cmp y0 y2) < 0 → ((0 < (lg_cmp y0 y4) → K 0 I J) ∧ (¬ 0 < (lg_cmp y0 y4) → K 1 I J))))) : Cl G mX12_in (n) 0 0 [.long y0, .long y2, .long y4] Z I J (qi Z K) :=
  Cl.of (by decide +kernel) (Nat.le_of_ble_eq_true rfl) (rX12_in_0  h)
set_option maxRecDepth 4000 in
theorem rX12_isOne_0 {G : jdG} {n rc rs : Nat} {Z : jdL} {I : jdI} {J : jdJ} {K : Int32 → jdI → jdJ → Prop} {t : Nat} {x1 : Int32} (ht : zModel Z t) (h : Cl G mX12_in n 0 0 [.long (Int32.toInt64 x1), .long 0, .long (Int32.toInt64 ((I t 10) - 1))] Z I J (qi Z (fun v2 I1 J1 => (narrow .boolean (.int v2) = .int v2 ∧ K v2 I1 J1)))) : Jd G mX12_isOne (jdFm G (qi Z K)) (n + 1) rc rs 0 [(0, .ref (gb G + t)), (1, .int x1)] [] Z I J := by
  refine jd_iload_n (pc := 0) 1 dX12_isOne_0 rfl rfl ?_
  refine jd_i2l (pc := 1) dX12_isOne_1 ?_
  refine jd_lconst (pc := 2) (v := 0) dX12_isOne_2 (by decide) ?_
  refine jd_aload_n (pc := 3) 0 dX12_isOne_3 rfl rfl ?_
  refine jd_getI (pc := 4) (ci := 11) (k := 10) gX12_85 ht.1 rfl dX12_isOne_4 ?_
  refine jd_iconst (pc := 7) (v := 1) dX12_isOne_7 (by decide) ?_
  refine jd_isub (pc := 8) dX12_isOne_8 ?_
  refine jd_i2l (pc := 9) dX12_isOne_9 ?_
  refine jd_callSi (pc := 10) (M2 := mX12_in) (av := [.long (Int32.toInt64 x1), .long 0, .long (Int32.toInt64 ((I t 10) - 1))]) kX12_in sX12_in lX12_88 rfl rfl (Nat.le_of_ble_eq_true rfl) dX12_isOne_10 h ?_
  intro v2 I1 J1 h
  exact jd_iretK (pc := 13) (ty := .boolean) rfl h.1 dX12_isOne_13 h.2
theorem eX12_isOne {G : jdG} {n : Nat} {Z : jdL} {I : jdI} {J : jdJ} {K : Int32 → jdI → jdJ → Prop} {t : Nat} {x1 : Int32} (ht : zModel Z t) (h : Cl G mX12_in n 0 0 [.long (Int32.toInt64 x1), .long 0, .long (Int32.toInt64 ((I t 10) - 1))] Z I J (qi Z (fun v2 I1 J1 => (narrow .boolean (.int v2) = .int v2 ∧ K v2 I1 J1)))) : Cl G mX12_isOne (n + 1) 0 0 [.ref (gb G + t), .int x1] Z I J (qi Z K) :=
  Cl.of (by decide +kernel) (Nat.le_of_ble_eq_true rfl) (rX12_isOne_0 ht h)
set_option maxRecDepth 4000 in
theorem rX12_all_0 {G : jdG} {n rc rs : Nat} {Z : jdL} {I : jdI} {J : jdJ} {K : Int32 → jdI → jdJ → Prop} {t : Nat} (ht : zModel Z t) (h : K ((1 <<< ((I t 10) &&& 31)) - 1) I J) : Jd G mX12_all (jdFm G (qi Z K)) n rc rs 0 [(0, .ref (gb G + t))] [] Z I J := by
  refine jd_iconst (pc := 0) (v := 1) dX12_all_0 (by decide) ?_
  refine jd_aload_n (pc := 1) 0 dX12_all_1 rfl rfl ?_
  refine jd_getI (pc := 2) (ci := 11) (k := 10) gX12_85 ht.1 rfl dX12_all_2 ?_
  refine jd_ishl (pc := 5) dX12_all_5 ?_
  refine jd_iconst (pc := 6) (v := 1) dX12_all_6 (by decide) ?_
  refine jd_isub (pc := 7) dX12_all_7 ?_
  exact jd_iretK (pc := 8) rfl rfl dX12_all_8 h
theorem eX12_all {G : jdG} {n : Nat} {Z : jdL} {I : jdI} {J : jdJ} {K : Int32 → jdI → jdJ → Prop} {t : Nat} (ht : zModel Z t) (h : K ((1 <<< ((I t 10) &&& 31)) - 1) I J) : Cl G mX12_all (n) 0 0 [.ref (gb G + t)] Z I J (qi Z K) :=
  Cl.of (by decide +kernel) (Nat.le_of_ble_eq_true rfl) (rX12_all_0 ht h)
set_option maxRecDepth 4000 in
theorem rX12_isSet_0 {G : jdG} {n rc rs : Nat} {Z : jdL} {I : jdI} {J : jdJ} {K : Int32 → jdI → jdJ → Prop} {t : Nat} {x1 : Int32} (ht : zModel Z t) (h : Cl G mX12_all n 0 0 [.ref (gb G + t)] Z I J (qi Z (fun v2 I1 J1 => Cl G mX12_in n 0 0 [.long (Int32.toInt64 x1), .long 0, .long (Int32.toInt64 v2)] Z I1 J1 (qi Z (fun v4 I3 J3 => (narrow .boolean (.int v4) = .int v4 ∧ K v4 I3 J3)))))) : Jd G mX12_isSet (jdFm G (qi Z K)) (n + 1) rc rs 0 [(0, .ref (gb G + t)), (1, .int x1)] [] Z I J := by
  refine jd_iload_n (pc := 0) 1 dX12_isSet_0 rfl rfl ?_
  refine jd_i2l (pc := 1) dX12_isSet_1 ?_
  refine jd_lconst (pc := 2) (v := 0) dX12_isSet_2 (by decide) ?_
  refine jd_aload_n (pc := 3) 0 dX12_isSet_3 rfl rfl ?_
  refine jd_callVi (pc := 4) (M2 := mX12_all) (id := t) (ci := 11) (T := TX12) (N := 45) (av := []) kX12_all sX12_all rfl ht.1 lX12_92 rfl rfl (Nat.le_of_ble_eq_true rfl) dX12_isSet_4 h ?_
  intro v2 I1 J1 h
  refine jd_i2l (pc := 7) dX12_isSet_7 ?_
  refine jd_callSi (pc := 8) (M2 := mX12_in) (av := [.long (Int32.toInt64 x1), .long 0, .long (Int32.toInt64 v2)]) kX12_in sX12_in lX12_88 rfl rfl (Nat.le_of_ble_eq_true rfl) dX12_isSet_8 h ?_
  intro v4 I3 J3 h
  exact jd_iretK (pc := 11) (ty := .boolean) rfl h.1 dX12_isSet_11 h.2
theorem eX12_isSet {G : jdG} {n : Nat} {Z : jdL} {I : jdI} {J : jdJ} {K : Int32 → jdI → jdJ → Prop} {t : Nat} {x1 : Int32} (ht : zModel Z t) (h : Cl G mX12_all n 0 0 [.ref (gb G + t)] Z I J (qi Z (fun v2 I1 J1 => Cl G mX12_in n 0 0 [.long (Int32.toInt64 x1), .long 0, .long (Int32.toInt64 v2)] Z I1 J1 (qi Z (fun v4 I3 J3 => (narrow .boolean (.int v4) = .int v4 ∧ K v4 I3 J3)))))) : Cl G mX12_isSet (n + 1) 0 0 [.ref (gb G + t), .int x1] Z I J (qi Z K) :=
  Cl.of (by decide +kernel) (Nat.le_of_ble_eq_true rfl) (rX12_isSet_0 ht h)
set_option maxRecDepth 4000 in
theorem rX12_has_0 {G : jdG} {n rc rs : Nat} {Z : jdL} {I : jdI} {J : jdJ} {K : Int32 → jdI → jdJ → Prop} {x0 : Int32} {x1 : Int32}  (h : ((((x0 >>> (x1 &&& 31)) &&& 1) = 0 → K 0 I J) ∧ (¬ ((x0 >>> (x1 &&& 31)) &&& 1) = 0 → K 1 I J))) : Jd G mX12_has (jdFm G (qi Z K)) n rc rs 0 [(0, .int x0), (1, .int x1)] [] Z I J := by
  refine jd_iload_n (pc := 0) 0 dX12_has_0 rfl rfl ?_
  refine jd_iload_n (pc := 1) 1 dX12_has_1 rfl rfl ?_
  refine jd_ishr (pc := 2) dX12_has_2 ?_
  refine jd_iconst (pc := 3) (v := 1) dX12_has_3 (by decide) ?_
  refine jd_iand (pc := 4) dX12_has_4 ?_
  refine jd_if_eq (pc := 5) 12 dX12_has_5 (by decide) (fun hc => ?_) (fun hc => ?_)
  · have h := h.1 hc
    refine jd_iconst (pc := 12) (v := 0) dX12_has_12 (by decide) ?_
    exact jd_iretK (pc := 13) (ty := .boolean) rfl (by decide) dX12_has_13 h
  · have h := h.2 hc
    refine jd_iconst (pc := 8) (v := 1) dX12_has_8 (by decide) ?_
    refine jd_goto (pc := 9) 13 dX12_has_9 (by decide) ?_
    exact jd_iretK (pc := 13) (ty := .boolean) rfl (by decide) dX12_has_13 h
theorem eX12_has {G : jdG} {n : Nat} {Z : jdL} {I : jdI} {J : jdJ} {K : Int32 → jdI → jdJ → Prop} {x0 : Int32} {x1 : Int32}  (h : ((((x0 >>> (x1 &&& 31)) &&& 1) = 0 → K 0 I J) ∧ (¬ ((x0 >>> (x1 &&& 31)) &&& 1) = 0 → K 1 I J))) : Cl G mX12_has (n) 0 0 [.int x0, .int x1] Z I J (qi Z K) :=
  Cl.of (by decide +kernel) (Nat.le_of_ble_eq_true rfl) (rX12_has_0  h)
set_option maxRecDepth 4000 in
theorem rX12_bits_0 {G : jdG} {n rc rs : Nat} {Z : jdL} {I : jdI} {J : jdJ} {K : Int32 → jdI → jdJ → Prop} {x0 : Int32}  (h : Jd G mX12_bits (jdFm G (qi Z K)) n rc rs 4 [(0, .int x0), (1, .int 0), (2, .int 0)] [] Z I J) : Jd G mX12_bits (jdFm G (qi Z K)) n rc rs 0 [(0, .int x0)] [] Z I J := by
  refine jd_iconst (pc := 0) (v := 0) dX12_bits_0 (by decide) ?_
  refine jd_istore_n (pc := 1) [(1, .int 0), (0, .int x0)] dX12_bits_1 rfl (by decide) rfl ?_
  refine jd_iconst (pc := 2) (v := 0) dX12_bits_2 (by decide) ?_
  refine jd_istore_n (pc := 3) [(2, .int 0), (1, .int 0), (0, .int x0)] dX12_bits_3 rfl (by decide) rfl ?_
  exact jd_lv (lv2 := [(0, .int x0), (1, .int 0), (2, .int 0)]) [2, 1, 0] rfl h
set_option maxRecDepth 4000 in
theorem rX12_bits_4 {G : jdG} {n rc rs : Nat} {Z : jdL} {I : jdI} {J : jdJ} {K : Int32 → jdI → jdJ → Prop} {x0 : Int32} {x1 : Int32} {x2 : Int32}  (h : ((8 ≤ x2 → K x1 I J) ∧ (¬ 8 ≤ x2 → Jd G mX12_bits (jdFm G (qi Z K)) n rc rs 4 [(0, .int x0), (1, .int (x1 + ((x0 >>> (x2 &&& 31)) &&& 1))), (2, .int (x2 + 1))] [] Z I J))) : Jd G mX12_bits (jdFm G (qi Z K)) n rc rs 4 [(0, .int x0), (1, .int x1), (2, .int x2)] [] Z I J := by
  refine jd_iload_n (pc := 4) 2 dX12_bits_4 rfl rfl ?_
  refine jd_bipush (pc := 5) (v := 8) dX12_bits_5 (by decide) ?_
  refine jd_icmp_ge (pc := 7) 24 dX12_bits_7 (by decide) (fun hc => ?_) (fun hc => ?_)
  · have h := h.1 hc
    refine jd_iload_n (pc := 24) 1 dX12_bits_24 rfl rfl ?_
    exact jd_iretK (pc := 25) rfl rfl dX12_bits_25 h
  · have h := h.2 hc
    refine jd_iload_n (pc := 10) 1 dX12_bits_10 rfl rfl ?_
    refine jd_iload_n (pc := 11) 0 dX12_bits_11 rfl rfl ?_
    refine jd_iload_n (pc := 12) 2 dX12_bits_12 rfl rfl ?_
    refine jd_ishr (pc := 13) dX12_bits_13 ?_
    refine jd_iconst (pc := 14) (v := 1) dX12_bits_14 (by decide) ?_
    refine jd_iand (pc := 15) dX12_bits_15 ?_
    refine jd_iadd (pc := 16) dX12_bits_16 ?_
    refine jd_istore_n (pc := 17) [(1, .int (x1 + ((x0 >>> (x2 &&& 31)) &&& 1))), (0, .int x0), (2, .int x2)] dX12_bits_17 rfl (by decide) rfl ?_
    refine jd_iinc (pc := 18) (v := (x2 + 1)) 2 [(2, .int (x2 + 1)), (1, .int (x1 + ((x0 >>> (x2 &&& 31)) &&& 1))), (0, .int x0)] dX12_bits_18 rfl rfl (by decide) rfl ?_
    refine jd_goto (pc := 21) 4 dX12_bits_21 (by decide) ?_
    exact jd_lv (lv2 := [(0, .int x0), (1, .int (x1 + ((x0 >>> (x2 &&& 31)) &&& 1))), (2, .int (x2 + 1))]) [2, 1, 0] rfl h
theorem eX12_bits {G : jdG} {n : Nat} {Z : jdL} {I : jdI} {J : jdJ} {K : Int32 → jdI → jdJ → Prop} {x0 : Int32}  (h : Jd G mX12_bits (jdFm G (qi Z K)) n 0 0 4 [(0, .int x0), (1, .int 0), (2, .int 0)] [] Z I J) : Cl G mX12_bits (n) 0 0 [.int x0] Z I J (qi Z K) :=
  Cl.of (by decide +kernel) (Nat.le_of_ble_eq_true rfl) (rX12_bits_0  h)
set_option maxRecDepth 4000 in
theorem rX12_row_0 {G : jdG} {n rc rs : Nat} {Z : jdL} {I : jdI} {J : jdJ} {K : Int32 → jdI → jdJ → Prop} {t : Nat} {x1 : Int32} {x2 : Int32} {x3 : Int32} (ht : zModel Z t) (h : Cl G mX12_in n 0 0 [.long (Int32.toInt64 x1), .long 0, .long 7] Z I J (qi Z (fun v2 I1 J1 => ((v2 = 0 → Cl G mX12_refuse n 0 0 [.ref (gb G + t), .int (-2)] Z I1 J1 (qi Z (fun v4 I3 J3 => K v4 I3 J3))) ∧ (¬ v2 = 0 → Cl G mX12_in n 0 0 [.long (Int32.toInt64 x2), .long 0, .long 4] Z I1 J1 (qi Z (fun v6 I5 J5 => ((v6 = 0 → Cl G mX12_refuse n 0 0 [.ref (gb G + t), .int (-2)] Z I5 J5 (qi Z (fun v8 I7 J7 => K v8 I7 J7))) ∧ (¬ v6 = 0 → Cl G mX12_in n 0 0 [.long (Int32.toInt64 x3), .long 0, .long 40] Z I5 J5 (qi Z (fun v10 I9 J9 => ((¬ v10 = 0 → (vp_in x1 8 ∧ (vp_in x1 8 ∧ (vp_in x1 8 ∧ Jd G mX12_row (jdFm G (qi Z K)) (n + 1) rc rs 67 [(0, .ref (gb G + t)), (1, .int x1), (2, .int x2), (3, .int x3), (4, .int 0)] [] Z (uI (uI (uI I9 (t + 1) (Int32.toNatClampNeg x1) 1) (t + 2) (Int32.toNatClampNeg x1) x2) (t + 3) (Int32.toNatClampNeg x1) x3) J9)))) ∧ (v10 = 0 → Cl G mX12_refuse n 0 0 [.ref (gb G + t), .int (-2)] Z I9 J9 (qi Z (fun v15 I14 J14 => K v15 I14 J14))))))))))))))) : Jd G mX12_row (jdFm G (qi Z K)) (n + 1) rc rs 0 [(0, .ref (gb G + t)), (1, .int x1), (2, .int x2), (3, .int x3)] [] Z I J := by
  refine jd_iload_n (pc := 0) 1 dX12_row_0 rfl rfl ?_
  refine jd_i2l (pc := 1) dX12_row_1 ?_
  refine jd_lconst (pc := 2) (v := 0) dX12_row_2 (by decide) ?_
  refine jd_ldc2 (pc := 3) (v := 7) qX12_96 dX12_row_3 ?_
  refine jd_callSi (pc := 6) (M2 := mX12_in) (av := [.long (Int32.toInt64 x1), .long 0, .long 7]) kX12_in sX12_in lX12_88 rfl rfl (Nat.le_of_ble_eq_true rfl) dX12_row_6 h ?_
  intro v2 I1 J1 h
  refine jd_if_eq (pc := 9) 36 dX12_row_9 (by decide) (fun hc => ?_) (fun hc => ?_)
  · have h := h.1 hc
    refine jd_aload_n (pc := 36) 0 dX12_row_36 rfl rfl ?_
    refine jd_bipush (pc := 37) (v := (-2)) dX12_row_37 (by decide) ?_
    refine jd_callVi (pc := 39) (M2 := mX12_refuse) (id := t) (ci := 11) (T := TX12) (N := 45) (av := [.int (-2)]) kX12_refuse sX12_refuse rfl ht.1 lX12_102 rfl rfl (Nat.le_of_ble_eq_true rfl) dX12_row_39 h ?_
    intro v4 I3 J3 h
    exact jd_iretK (pc := 42) rfl rfl dX12_row_42 h
  · have h := h.2 hc
    refine jd_iload_n (pc := 12) 2 dX12_row_12 rfl rfl ?_
    refine jd_i2l (pc := 13) dX12_row_13 ?_
    refine jd_lconst (pc := 14) (v := 0) dX12_row_14 (by decide) ?_
    refine jd_ldc2 (pc := 15) (v := 4) qX12_98 dX12_row_15 ?_
    refine jd_callSi (pc := 18) (M2 := mX12_in) (av := [.long (Int32.toInt64 x2), .long 0, .long 4]) kX12_in sX12_in lX12_88 rfl rfl (Nat.le_of_ble_eq_true rfl) dX12_row_18 h ?_
    intro v6 I5 J5 h
    refine jd_if_eq (pc := 21) 36 dX12_row_21 (by decide) (fun hc => ?_) (fun hc => ?_)
    · have h := h.1 hc
      refine jd_aload_n (pc := 36) 0 dX12_row_36 rfl rfl ?_
      refine jd_bipush (pc := 37) (v := (-2)) dX12_row_37 (by decide) ?_
      refine jd_callVi (pc := 39) (M2 := mX12_refuse) (id := t) (ci := 11) (T := TX12) (N := 45) (av := [.int (-2)]) kX12_refuse sX12_refuse rfl ht.1 lX12_102 rfl rfl (Nat.le_of_ble_eq_true rfl) dX12_row_39 h ?_
      intro v8 I7 J7 h
      exact jd_iretK (pc := 42) rfl rfl dX12_row_42 h
    · have h := h.2 hc
      refine jd_iload_n (pc := 24) 3 dX12_row_24 rfl rfl ?_
      refine jd_i2l (pc := 25) dX12_row_25 ?_
      refine jd_lconst (pc := 26) (v := 0) dX12_row_26 (by decide) ?_
      refine jd_ldc2 (pc := 27) (v := 40) qX12_100 dX12_row_27 ?_
      refine jd_callSi (pc := 30) (M2 := mX12_in) (av := [.long (Int32.toInt64 x3), .long 0, .long 40]) kX12_in sX12_in lX12_88 rfl rfl (Nat.le_of_ble_eq_true rfl) dX12_row_30 h ?_
      intro v10 I9 J9 h
      refine jd_if_ne (pc := 33) 43 dX12_row_33 (by decide) (fun hc => ?_) (fun hc => ?_)
      · have h := h.1 hc
        refine jd_aload_n (pc := 43) 0 dX12_row_43 rfl rfl ?_
        refine jd_getR (pc := 44) (ci := 11) (k := 0) (r := (t + 1)) gX12_7 ht.1 rfl (zModel_p0 ht) dX12_row_44 ?_
        refine jd_iload_n (pc := 47) 1 dX12_row_47 rfl rfl ?_
        refine jd_iconst (pc := 48) (v := 1) dX12_row_48 (by decide) ?_
        obtain ⟨hv11, h⟩ := h
        refine jd_iast (pc := 49) (len := 8) (zModel_a0 ht) hv11 dX12_row_49 ?_
        refine jd_aload_n (pc := 50) 0 dX12_row_50 rfl rfl ?_
        refine jd_getR (pc := 51) (ci := 11) (k := 1) (r := (t + 2)) gX12_13 ht.1 rfl (zModel_p1 ht) dX12_row_51 ?_
        refine jd_iload_n (pc := 54) 1 dX12_row_54 rfl rfl ?_
        refine jd_iload_n (pc := 55) 2 dX12_row_55 rfl rfl ?_
        obtain ⟨hv12, h⟩ := h
        refine jd_iast (pc := 56) (len := 8) (zModel_a1 ht) hv12 dX12_row_56 ?_
        refine jd_aload_n (pc := 57) 0 dX12_row_57 rfl rfl ?_
        refine jd_getR (pc := 58) (ci := 11) (k := 2) (r := (t + 3)) gX12_16 ht.1 rfl (zModel_p2 ht) dX12_row_58 ?_
        refine jd_iload_n (pc := 61) 1 dX12_row_61 rfl rfl ?_
        refine jd_iload_n (pc := 62) 3 dX12_row_62 rfl rfl ?_
        obtain ⟨hv13, h⟩ := h
        refine jd_iast (pc := 63) (len := 8) (zModel_a2 ht) hv13 dX12_row_63 ?_
        refine jd_iconst (pc := 64) (v := 0) dX12_row_64 (by decide) ?_
        refine jd_istore (pc := 65) [(4, .int 0), (0, .ref (gb G + t)), (1, .int x1), (2, .int x2), (3, .int x3)] dX12_row_65 (by decide) rfl ?_
        exact jd_lv (lv2 := [(0, .ref (gb G + t)), (1, .int x1), (2, .int x2), (3, .int x3), (4, .int 0)]) [1, 2, 3, 4, 0] rfl h
      · have h := h.2 hc
        refine jd_aload_n (pc := 36) 0 dX12_row_36 rfl rfl ?_
        refine jd_bipush (pc := 37) (v := (-2)) dX12_row_37 (by decide) ?_
        refine jd_callVi (pc := 39) (M2 := mX12_refuse) (id := t) (ci := 11) (T := TX12) (N := 45) (av := [.int (-2)]) kX12_refuse sX12_refuse rfl ht.1 lX12_102 rfl rfl (Nat.le_of_ble_eq_true rfl) dX12_row_39 h ?_
        intro v15 I14 J14 h
        exact jd_iretK (pc := 42) rfl rfl dX12_row_42 h
set_option maxRecDepth 4000 in
theorem rX12_row_67 {G : jdG} {n rc rs : Nat} {Z : jdL} {I : jdI} {J : jdJ} {K : Int32 → jdI → jdJ → Prop} {t : Nat} {x1 : Int32} {x2 : Int32} {x3 : Int32} {x4 : Int32} (ht : zModel Z t) (h : ((40 ≤ x4 → K 1 I J) ∧ (¬ 40 ≤ x4 → (vp_in x1 8 ∧ (vp_in x4 40 ∧ Jd G mX12_row (jdFm G (qi Z K)) (n + 1) rc rs 67 [(0, .ref (gb G + t)), (1, .int x1), (2, .int x2), (3, .int x3), (4, .int (x4 + 1))] [] Z I (uJ J (t + 5 + (Int32.toNatClampNeg x1)) (Int32.toNatClampNeg x4) 0)))))) : Jd G mX12_row (jdFm G (qi Z K)) (n + 1) rc rs 67 [(0, .ref (gb G + t)), (1, .int x1), (2, .int x2), (3, .int x3), (4, .int x4)] [] Z I J := by
  refine jd_iload (pc := 67) 4 dX12_row_67 rfl ?_
  refine jd_bipush (pc := 69) (v := 40) dX12_row_69 (by decide) ?_
  refine jd_icmp_ge (pc := 71) 90 dX12_row_71 (by decide) (fun hc => ?_) (fun hc => ?_)
  · have h := h.1 hc
    refine jd_iconst (pc := 90) (v := 1) dX12_row_90 (by decide) ?_
    exact jd_iretK (pc := 91) rfl rfl dX12_row_91 h
  · have h := h.2 hc
    refine jd_aload_n (pc := 74) 0 dX12_row_74 rfl rfl ?_
    refine jd_getR (pc := 75) (ci := 11) (k := 3) (r := (t + 4)) gX12_21 ht.1 rfl (zModel_p3 ht) dX12_row_75 ?_
    refine jd_iload_n (pc := 78) 1 dX12_row_78 rfl rfl ?_
    obtain ⟨hv1, h⟩ := h
    refine jd_aald (pc := 79) (len := 8) (k := 3) (zModel_a3 ht) (by decide) hv1 (zModel_rows ht (vp_lt hv1)) dX12_row_79 ?_
    refine jd_iload (pc := 80) 4 dX12_row_80 rfl ?_
    refine jd_lconst (pc := 82) (v := 0) dX12_row_82 (by decide) ?_
    obtain ⟨hv2, h⟩ := h
    refine jd_last (pc := 83) (len := 40) (zModel_rowsA ht (vp_lt hv1)) hv2 dX12_row_83 ?_
    refine jd_iinc (pc := 84) (v := (x4 + 1)) 4 [(4, .int (x4 + 1)), (0, .ref (gb G + t)), (1, .int x1), (2, .int x2), (3, .int x3)] dX12_row_84 rfl rfl (by decide) rfl ?_
    refine jd_goto (pc := 87) 67 dX12_row_87 (by decide) ?_
    exact jd_lv (lv2 := [(0, .ref (gb G + t)), (1, .int x1), (2, .int x2), (3, .int x3), (4, .int (x4 + 1))]) [1, 2, 3, 4, 0] rfl h
theorem eX12_row {G : jdG} {n : Nat} {Z : jdL} {I : jdI} {J : jdJ} {K : Int32 → jdI → jdJ → Prop} {t : Nat} {x1 : Int32} {x2 : Int32} {x3 : Int32} (ht : zModel Z t) (h : Cl G mX12_in n 0 0 [.long (Int32.toInt64 x1), .long 0, .long 7] Z I J (qi Z (fun v2 I1 J1 => ((v2 = 0 → Cl G mX12_refuse n 0 0 [.ref (gb G + t), .int (-2)] Z I1 J1 (qi Z (fun v4 I3 J3 => K v4 I3 J3))) ∧ (¬ v2 = 0 → Cl G mX12_in n 0 0 [.long (Int32.toInt64 x2), .long 0, .long 4] Z I1 J1 (qi Z (fun v6 I5 J5 => ((v6 = 0 → Cl G mX12_refuse n 0 0 [.ref (gb G + t), .int (-2)] Z I5 J5 (qi Z (fun v8 I7 J7 => K v8 I7 J7))) ∧ (¬ v6 = 0 → Cl G mX12_in n 0 0 [.long (Int32.toInt64 x3), .long 0, .long 40] Z I5 J5 (qi Z (fun v10 I9 J9 => ((¬ v10 = 0 → (vp_in x1 8 ∧ (vp_in x1 8 ∧ (vp_in x1 8 ∧ Jd G mX12_row (jdFm G (qi Z K)) (n + 1) 0 0 67 [(0, .ref (gb G + t)), (1, .int x1), (2, .int x2), (3, .int x3), (4, .int 0)] [] Z (uI (uI (uI I9 (t + 1) (Int32.toNatClampNeg x1) 1) (t + 2) (Int32.toNatClampNeg x1) x2) (t + 3) (Int32.toNatClampNeg x1) x3) J9)))) ∧ (v10 = 0 → Cl G mX12_refuse n 0 0 [.ref (gb G + t), .int (-2)] Z I9 J9 (qi Z (fun v15 I14 J14 => K v15 I14 J14))))))))))))))) : Cl G mX12_row (n + 1) 0 0 [.ref (gb G + t), .int x1, .int x2, .int x3] Z I J (qi Z K) :=
  Cl.of (by decide +kernel) (Nat.le_of_ble_eq_true rfl) (rX12_row_0 ht h)
set_option maxRecDepth 4000 in
theorem rX12_fit_0 {G : jdG} {n rc rs : Nat} {Z : jdL} {I : jdI} {J : jdJ} {K : Int64 → jdI → jdJ → Prop} {x0 : Int32} {y1 : Int64}  (h : (((x0 : Int32).toInt < 0 ∨ 3 < (x0 : Int32).toInt → (((lg_cmp y1 0) = 0 → K 0 I J) ∧ (¬ (lg_cmp y1 0) = 0 → K 1 I J))) ∧ ((x0 : Int32).toInt = 0 → K (Int32.toInt64 (Int8.toInt32 (Int32.toInt8 (Int64.toInt32 y1)))) I J) ∧ ((x0 : Int32).toInt = 1 → K (Int32.toInt64 (Int16.toInt32 (Int32.toInt16 (Int64.toInt32 y1)))) I J) ∧ ((x0 : Int32).toInt = 2 → K (Int32.toInt64 (Int64.toInt32 y1)) I J) ∧ ((x0 : Int32).toInt = 3 → K y1 I J))) : Jd G mX12_fit (jdFm G (ql Z K)) n rc rs 0 [(0, .int x0), (1, .long y1)] [] Z I J := by
  refine jd_iload_n (pc := 0) 0 dX12_fit_0 rfl rfl ?_
  by_cases hs : (x0 : Int32).toInt < 0 ∨ 3 < (x0 : Int32).toInt
  · have h := h.1 hs
    refine jd_tableOut (pc := 1) 48 dX12_fit_1 hs (by decide) ?_
    refine jd_lload_n (pc := 48) 1 dX12_fit_48 rfl rfl ?_
    refine jd_lconst (pc := 49) (v := 0) dX12_fit_49 (by decide) ?_
    refine jd_lcmp (pc := 50) dX12_fit_50 ?_
    refine jd_if_eq (pc := 51) 58 dX12_fit_51 (by decide) (fun hc => ?_) (fun hc => ?_)
    · have h := h.1 hc
      refine jd_lconst (pc := 58) (v := 0) dX12_fit_58 (by decide) ?_
      exact jd_lretK (pc := 59) rfl dX12_fit_59 h
    · have h := h.2 hc
      refine jd_lconst (pc := 54) (v := 1) dX12_fit_54 (by decide) ?_
      refine jd_goto (pc := 55) 59 dX12_fit_55 (by decide) ?_
      exact jd_lretK (pc := 59) rfl dX12_fit_59 h
  · have h := h.2
    have hs2 : (x0 : Int32).toInt = 0 ∨ (x0 : Int32).toInt = 1 ∨ (x0 : Int32).toInt = 2 ∨ (x0 : Int32).toInt = 3 := by omega
    rcases hs2 with hq | hq | hq | hq
    · have h := h.1 hq
      refine jd_tableIn (pc := 1) 32 dX12_fit_1 (by omega) (by omega) (by rw [hq]; rfl) (by decide) ?_
      refine jd_lload_n (pc := 32) 1 dX12_fit_32 rfl rfl ?_
      refine jd_l2i (pc := 33) dX12_fit_33 ?_
      refine jd_i2b (pc := 34) dX12_fit_34 ?_
      refine jd_i2l (pc := 35) dX12_fit_35 ?_
      exact jd_lretK (pc := 36) rfl dX12_fit_36 h
    · have h := h.2.1 hq
      refine jd_tableIn (pc := 1) 37 dX12_fit_1 (by omega) (by omega) (by rw [hq]; rfl) (by decide) ?_
      refine jd_lload_n (pc := 37) 1 dX12_fit_37 rfl rfl ?_
      refine jd_l2i (pc := 38) dX12_fit_38 ?_
      refine jd_i2s (pc := 39) dX12_fit_39 ?_
      refine jd_i2l (pc := 40) dX12_fit_40 ?_
      exact jd_lretK (pc := 41) rfl dX12_fit_41 h
    · have h := h.2.2.1 hq
      refine jd_tableIn (pc := 1) 42 dX12_fit_1 (by omega) (by omega) (by rw [hq]; rfl) (by decide) ?_
      refine jd_lload_n (pc := 42) 1 dX12_fit_42 rfl rfl ?_
      refine jd_l2i (pc := 43) dX12_fit_43 ?_
      refine jd_i2l (pc := 44) dX12_fit_44 ?_
      exact jd_lretK (pc := 45) rfl dX12_fit_45 h
    · have h := h.2.2.2 hq
      refine jd_tableIn (pc := 1) 46 dX12_fit_1 (by omega) (by omega) (by rw [hq]; rfl) (by decide) ?_
      refine jd_lload_n (pc := 46) 1 dX12_fit_46 rfl rfl ?_
      exact jd_lretK (pc := 47) rfl dX12_fit_47 h
theorem eX12_fit {G : jdG} {n : Nat} {Z : jdL} {I : jdI} {J : jdJ} {K : Int64 → jdI → jdJ → Prop} {x0 : Int32} {y1 : Int64}  (h : (((x0 : Int32).toInt < 0 ∨ 3 < (x0 : Int32).toInt → (((lg_cmp y1 0) = 0 → K 0 I J) ∧ (¬ (lg_cmp y1 0) = 0 → K 1 I J))) ∧ ((x0 : Int32).toInt = 0 → K (Int32.toInt64 (Int8.toInt32 (Int32.toInt8 (Int64.toInt32 y1)))) I J) ∧ ((x0 : Int32).toInt = 1 → K (Int32.toInt64 (Int16.toInt32 (Int32.toInt16 (Int64.toInt32 y1)))) I J) ∧ ((x0 : Int32).toInt = 2 → K (Int32.toInt64 (Int64.toInt32 y1)) I J) ∧ ((x0 : Int32).toInt = 3 → K y1 I J))) : Cl G mX12_fit (n) 0 0 [.int x0, .long y1] Z I J (ql Z K) :=
  Cl.of (by decide +kernel) (Nat.le_of_ble_eq_true rfl) (rX12_fit_0  h)
set_option maxRecDepth 4000 in
theorem rX12_noRow_0 {G : jdG} {n rc rs : Nat} {Z : jdL} {I : jdI} {J : jdJ} {K : Int32 → jdI → jdJ → Prop} {t : Nat} {x1 : Int32} (ht : zModel Z t) (h : Cl G mX12_in n 0 0 [.long (Int32.toInt64 x1), .long 0, .long 7] Z I J (qi Z (fun v2 I1 J1 => ((¬ v2 = 0 → (vp_in x1 8 ∧ ((¬ (I1 (t + 1) (Int32.toNatClampNeg x1)) = 2 → (vp_in x1 8 ∧ ((¬ (I1 (t + 1) (Int32.toNatClampNeg x1)) = 0 → K 0 I1 J1) ∧ ((I1 (t + 1) (Int32.toNatClampNeg x1)) = 0 → Cl G mX12_refuse n 0 0 [.ref (gb G + t), .int (-4)] Z I1 J1 (qi Z (fun v6 I5 J5 => K v6 I5 J5)))))) ∧ ((I1 (t + 1) (Int32.toNatClampNeg x1)) = 2 → Cl G mX12_refuse n 0 0 [.ref (gb G + t), .int (-3)] Z I1 J1 (qi Z (fun v8 I7 J7 => K v8 I7 J7)))))) ∧ (v2 = 0 → Cl G mX12_refuse n 0 0 [.ref (gb G + t), .int (-2)] Z I1 J1 (qi Z (fun v10 I9 J9 => K v10 I9 J9))))))) : Jd G mX12_noRow (jdFm G (qi Z K)) (n + 1) rc rs 0 [(0, .ref (gb G + t)), (1, .int x1)] [] Z I J := by
  refine jd_iload_n (pc := 0) 1 dX12_noRow_0 rfl rfl ?_
  refine jd_i2l (pc := 1) dX12_noRow_1 ?_
  refine jd_lconst (pc := 2) (v := 0) dX12_noRow_2 (by decide) ?_
  refine jd_ldc2 (pc := 3) (v := 7) qX12_96 dX12_noRow_3 ?_
  refine jd_callSi (pc := 6) (M2 := mX12_in) (av := [.long (Int32.toInt64 x1), .long 0, .long 7]) kX12_in sX12_in lX12_88 rfl rfl (Nat.le_of_ble_eq_true rfl) dX12_noRow_6 h ?_
  intro v2 I1 J1 h
  refine jd_if_ne (pc := 9) 19 dX12_noRow_9 (by decide) (fun hc => ?_) (fun hc => ?_)
  · have h := h.1 hc
    refine jd_aload_n (pc := 19) 0 dX12_noRow_19 rfl rfl ?_
    refine jd_getR (pc := 20) (ci := 11) (k := 0) (r := (t + 1)) gX12_7 ht.1 rfl (zModel_p0 ht) dX12_noRow_20 ?_
    refine jd_iload_n (pc := 23) 1 dX12_noRow_23 rfl rfl ?_
    obtain ⟨hv3, h⟩ := h
    refine jd_iald (pc := 24) (len := 8) (zModel_a0 ht) hv3 dX12_noRow_24 ?_
    refine jd_iconst (pc := 25) (v := 2) dX12_noRow_25 (by decide) ?_
    refine jd_icmp_ne (pc := 26) 36 dX12_noRow_26 (by decide) (fun hc => ?_) (fun hc => ?_)
    · have h := h.1 hc
      refine jd_aload_n (pc := 36) 0 dX12_noRow_36 rfl rfl ?_
      refine jd_getR (pc := 37) (ci := 11) (k := 0) (r := (t + 1)) gX12_7 ht.1 rfl (zModel_p0 ht) dX12_noRow_37 ?_
      refine jd_iload_n (pc := 40) 1 dX12_noRow_40 rfl rfl ?_
      obtain ⟨hv4, h⟩ := h
      refine jd_iald (pc := 41) (len := 8) (zModel_a0 ht) hv4 dX12_noRow_41 ?_
      refine jd_if_ne (pc := 42) 54 dX12_noRow_42 (by decide) (fun hc => ?_) (fun hc => ?_)
      · have h := h.1 hc
        refine jd_iconst (pc := 54) (v := 0) dX12_noRow_54 (by decide) ?_
        exact jd_iretK (pc := 55) rfl rfl dX12_noRow_55 h
      · have h := h.2 hc
        refine jd_aload_n (pc := 45) 0 dX12_noRow_45 rfl rfl ?_
        refine jd_bipush (pc := 46) (v := (-4)) dX12_noRow_46 (by decide) ?_
        refine jd_callVi (pc := 48) (M2 := mX12_refuse) (id := t) (ci := 11) (T := TX12) (N := 45) (av := [.int (-4)]) kX12_refuse sX12_refuse rfl ht.1 lX12_102 rfl rfl (Nat.le_of_ble_eq_true rfl) dX12_noRow_48 h ?_
        intro v6 I5 J5 h
        refine jd_goto (pc := 51) 55 dX12_noRow_51 (by decide) ?_
        exact jd_iretK (pc := 55) rfl rfl dX12_noRow_55 h
    · have h := h.2 hc
      refine jd_aload_n (pc := 29) 0 dX12_noRow_29 rfl rfl ?_
      refine jd_bipush (pc := 30) (v := (-3)) dX12_noRow_30 (by decide) ?_
      refine jd_callVi (pc := 32) (M2 := mX12_refuse) (id := t) (ci := 11) (T := TX12) (N := 45) (av := [.int (-3)]) kX12_refuse sX12_refuse rfl ht.1 lX12_102 rfl rfl (Nat.le_of_ble_eq_true rfl) dX12_noRow_32 h ?_
      intro v8 I7 J7 h
      exact jd_iretK (pc := 35) rfl rfl dX12_noRow_35 h
  · have h := h.2 hc
    refine jd_aload_n (pc := 12) 0 dX12_noRow_12 rfl rfl ?_
    refine jd_bipush (pc := 13) (v := (-2)) dX12_noRow_13 (by decide) ?_
    refine jd_callVi (pc := 15) (M2 := mX12_refuse) (id := t) (ci := 11) (T := TX12) (N := 45) (av := [.int (-2)]) kX12_refuse sX12_refuse rfl ht.1 lX12_102 rfl rfl (Nat.le_of_ble_eq_true rfl) dX12_noRow_15 h ?_
    intro v10 I9 J9 h
    exact jd_iretK (pc := 18) rfl rfl dX12_noRow_18 h
theorem eX12_noRow {G : jdG} {n : Nat} {Z : jdL} {I : jdI} {J : jdJ} {K : Int32 → jdI → jdJ → Prop} {t : Nat} {x1 : Int32} (ht : zModel Z t) (h : Cl G mX12_in n 0 0 [.long (Int32.toInt64 x1), .long 0, .long 7] Z I J (qi Z (fun v2 I1 J1 => ((¬ v2 = 0 → (vp_in x1 8 ∧ ((¬ (I1 (t + 1) (Int32.toNatClampNeg x1)) = 2 → (vp_in x1 8 ∧ ((¬ (I1 (t + 1) (Int32.toNatClampNeg x1)) = 0 → K 0 I1 J1) ∧ ((I1 (t + 1) (Int32.toNatClampNeg x1)) = 0 → Cl G mX12_refuse n 0 0 [.ref (gb G + t), .int (-4)] Z I1 J1 (qi Z (fun v6 I5 J5 => K v6 I5 J5)))))) ∧ ((I1 (t + 1) (Int32.toNatClampNeg x1)) = 2 → Cl G mX12_refuse n 0 0 [.ref (gb G + t), .int (-3)] Z I1 J1 (qi Z (fun v8 I7 J7 => K v8 I7 J7)))))) ∧ (v2 = 0 → Cl G mX12_refuse n 0 0 [.ref (gb G + t), .int (-2)] Z I1 J1 (qi Z (fun v10 I9 J9 => K v10 I9 J9))))))) : Cl G mX12_noRow (n + 1) 0 0 [.ref (gb G + t), .int x1] Z I J (qi Z K) :=
  Cl.of (by decide +kernel) (Nat.le_of_ble_eq_true rfl) (rX12_noRow_0 ht h)
set_option maxRecDepth 4000 in
theorem rX12_noMan_0 {G : jdG} {n rc rs : Nat} {Z : jdL} {I : jdI} {J : jdJ} {K : Int32 → jdI → jdJ → Prop} {t : Nat} {x1 : Int32} (ht : zModel Z t) (h : Cl G mX12_in n 0 0 [.long (Int32.toInt64 x1), .long 0, .long 7] Z I J (qi Z (fun v2 I1 J1 => ((¬ v2 = 0 → (vp_in x1 8 ∧ ((¬ (I1 (t + 1) (Int32.toNatClampNeg x1)) = 1 → (vp_in x1 8 ∧ ((¬ (I1 (t + 1) (Int32.toNatClampNeg x1)) = 0 → K 0 I1 J1) ∧ ((I1 (t + 1) (Int32.toNatClampNeg x1)) = 0 → Cl G mX12_refuse n 0 0 [.ref (gb G + t), .int (-4)] Z I1 J1 (qi Z (fun v6 I5 J5 => K v6 I5 J5)))))) ∧ ((I1 (t + 1) (Int32.toNatClampNeg x1)) = 1 → Cl G mX12_refuse n 0 0 [.ref (gb G + t), .int (-3)] Z I1 J1 (qi Z (fun v8 I7 J7 => K v8 I7 J7)))))) ∧ (v2 = 0 → Cl G mX12_refuse n 0 0 [.ref (gb G + t), .int (-2)] Z I1 J1 (qi Z (fun v10 I9 J9 => K v10 I9 J9))))))) : Jd G mX12_noMan (jdFm G (qi Z K)) (n + 1) rc rs 0 [(0, .ref (gb G + t)), (1, .int x1)] [] Z I J := by
  refine jd_iload_n (pc := 0) 1 dX12_noMan_0 rfl rfl ?_
  refine jd_i2l (pc := 1) dX12_noMan_1 ?_
  refine jd_lconst (pc := 2) (v := 0) dX12_noMan_2 (by decide) ?_
  refine jd_ldc2 (pc := 3) (v := 7) qX12_96 dX12_noMan_3 ?_
  refine jd_callSi (pc := 6) (M2 := mX12_in) (av := [.long (Int32.toInt64 x1), .long 0, .long 7]) kX12_in sX12_in lX12_88 rfl rfl (Nat.le_of_ble_eq_true rfl) dX12_noMan_6 h ?_
  intro v2 I1 J1 h
  refine jd_if_ne (pc := 9) 19 dX12_noMan_9 (by decide) (fun hc => ?_) (fun hc => ?_)
  · have h := h.1 hc
    refine jd_aload_n (pc := 19) 0 dX12_noMan_19 rfl rfl ?_
    refine jd_getR (pc := 20) (ci := 11) (k := 0) (r := (t + 1)) gX12_7 ht.1 rfl (zModel_p0 ht) dX12_noMan_20 ?_
    refine jd_iload_n (pc := 23) 1 dX12_noMan_23 rfl rfl ?_
    obtain ⟨hv3, h⟩ := h
    refine jd_iald (pc := 24) (len := 8) (zModel_a0 ht) hv3 dX12_noMan_24 ?_
    refine jd_iconst (pc := 25) (v := 1) dX12_noMan_25 (by decide) ?_
    refine jd_icmp_ne (pc := 26) 36 dX12_noMan_26 (by decide) (fun hc => ?_) (fun hc => ?_)
    · have h := h.1 hc
      refine jd_aload_n (pc := 36) 0 dX12_noMan_36 rfl rfl ?_
      refine jd_getR (pc := 37) (ci := 11) (k := 0) (r := (t + 1)) gX12_7 ht.1 rfl (zModel_p0 ht) dX12_noMan_37 ?_
      refine jd_iload_n (pc := 40) 1 dX12_noMan_40 rfl rfl ?_
      obtain ⟨hv4, h⟩ := h
      refine jd_iald (pc := 41) (len := 8) (zModel_a0 ht) hv4 dX12_noMan_41 ?_
      refine jd_if_ne (pc := 42) 54 dX12_noMan_42 (by decide) (fun hc => ?_) (fun hc => ?_)
      · have h := h.1 hc
        refine jd_iconst (pc := 54) (v := 0) dX12_noMan_54 (by decide) ?_
        exact jd_iretK (pc := 55) rfl rfl dX12_noMan_55 h
      · have h := h.2 hc
        refine jd_aload_n (pc := 45) 0 dX12_noMan_45 rfl rfl ?_
        refine jd_bipush (pc := 46) (v := (-4)) dX12_noMan_46 (by decide) ?_
        refine jd_callVi (pc := 48) (M2 := mX12_refuse) (id := t) (ci := 11) (T := TX12) (N := 45) (av := [.int (-4)]) kX12_refuse sX12_refuse rfl ht.1 lX12_102 rfl rfl (Nat.le_of_ble_eq_true rfl) dX12_noMan_48 h ?_
        intro v6 I5 J5 h
        refine jd_goto (pc := 51) 55 dX12_noMan_51 (by decide) ?_
        exact jd_iretK (pc := 55) rfl rfl dX12_noMan_55 h
    · have h := h.2 hc
      refine jd_aload_n (pc := 29) 0 dX12_noMan_29 rfl rfl ?_
      refine jd_bipush (pc := 30) (v := (-3)) dX12_noMan_30 (by decide) ?_
      refine jd_callVi (pc := 32) (M2 := mX12_refuse) (id := t) (ci := 11) (T := TX12) (N := 45) (av := [.int (-3)]) kX12_refuse sX12_refuse rfl ht.1 lX12_102 rfl rfl (Nat.le_of_ble_eq_true rfl) dX12_noMan_32 h ?_
      intro v8 I7 J7 h
      exact jd_iretK (pc := 35) rfl rfl dX12_noMan_35 h
  · have h := h.2 hc
    refine jd_aload_n (pc := 12) 0 dX12_noMan_12 rfl rfl ?_
    refine jd_bipush (pc := 13) (v := (-2)) dX12_noMan_13 (by decide) ?_
    refine jd_callVi (pc := 15) (M2 := mX12_refuse) (id := t) (ci := 11) (T := TX12) (N := 45) (av := [.int (-2)]) kX12_refuse sX12_refuse rfl ht.1 lX12_102 rfl rfl (Nat.le_of_ble_eq_true rfl) dX12_noMan_15 h ?_
    intro v10 I9 J9 h
    exact jd_iretK (pc := 18) rfl rfl dX12_noMan_18 h
theorem eX12_noMan {G : jdG} {n : Nat} {Z : jdL} {I : jdI} {J : jdJ} {K : Int32 → jdI → jdJ → Prop} {t : Nat} {x1 : Int32} (ht : zModel Z t) (h : Cl G mX12_in n 0 0 [.long (Int32.toInt64 x1), .long 0, .long 7] Z I J (qi Z (fun v2 I1 J1 => ((¬ v2 = 0 → (vp_in x1 8 ∧ ((¬ (I1 (t + 1) (Int32.toNatClampNeg x1)) = 1 → (vp_in x1 8 ∧ ((¬ (I1 (t + 1) (Int32.toNatClampNeg x1)) = 0 → K 0 I1 J1) ∧ ((I1 (t + 1) (Int32.toNatClampNeg x1)) = 0 → Cl G mX12_refuse n 0 0 [.ref (gb G + t), .int (-4)] Z I1 J1 (qi Z (fun v6 I5 J5 => K v6 I5 J5)))))) ∧ ((I1 (t + 1) (Int32.toNatClampNeg x1)) = 1 → Cl G mX12_refuse n 0 0 [.ref (gb G + t), .int (-3)] Z I1 J1 (qi Z (fun v8 I7 J7 => K v8 I7 J7)))))) ∧ (v2 = 0 → Cl G mX12_refuse n 0 0 [.ref (gb G + t), .int (-2)] Z I1 J1 (qi Z (fun v10 I9 J9 => K v10 I9 J9))))))) : Cl G mX12_noMan (n + 1) 0 0 [.ref (gb G + t), .int x1] Z I J (qi Z K) :=
  Cl.of (by decide +kernel) (Nat.le_of_ble_eq_true rfl) (rX12_noMan_0 ht h)
set_option maxRecDepth 4000 in
theorem rX12_set_0 {G : jdG} {n rc rs : Nat} {Z : jdL} {I : jdI} {J : jdJ} {K : Int32 → jdI → jdJ → Prop} {t : Nat} {x1 : Int32} {x2 : Int32} {y3 : Int64} (ht : zModel Z t) (h : Cl G mX12_noRow n 0 0 [.ref (gb G + t), .int x1] Z I J (qi Z (fun v2 I1 J1 => ((v2 = 0 → (vp_in x1 8 ∧ Cl G mX12_in n 0 0 [.long (Int32.toInt64 x2), .long 0, .long (Int32.toInt64 ((I1 (t + 3) (Int32.toNatClampNeg x1)) - 1))] Z I1 J1 (qi Z (fun v5 I4 J4 => ((¬ v5 = 0 → (vp_in x1 8 ∧ (vp_in x1 8 ∧ Cl G mX12_fit n 0 0 [.int (I4 (t + 2) (Int32.toNatClampNeg x1)), .long y3] Z I4 J4 (ql Z (fun v9 I8 J8 => (vp_in x2 40 ∧ K 1 I8 (uJ J8 (t + 5 + (Int32.toNatClampNeg x1)) (Int32.toNatClampNeg x2) v9))))))) ∧ (v5 = 0 → Cl G mX12_refuse n 0 0 [.ref (gb G + t), .int (-2)] Z I4 J4 (qi Z (fun v12 I11 J11 => K v12 I11 J11)))))))) ∧ (¬ v2 = 0 → K v2 I1 J1))))) : Jd G mX12_set (jdFm G (qi Z K)) (n + 1) rc rs 0 [(0, .ref (gb G + t)), (1, .int x1), (2, .int x2), (3, .long y3)] [] Z I J := by
  refine jd_aload_n (pc := 0) 0 dX12_set_0 rfl rfl ?_
  refine jd_iload_n (pc := 1) 1 dX12_set_1 rfl rfl ?_
  refine jd_callVi (pc := 2) (M2 := mX12_noRow) (id := t) (ci := 11) (T := TX12) (N := 45) (av := [.int x1]) kX12_noRow sX12_noRow rfl ht.1 lX12_106 rfl rfl (Nat.le_of_ble_eq_true rfl) dX12_set_2 h ?_
  intro v2 I1 J1 h
  refine jd_istore (pc := 5) [(5, .int v2), (0, .ref (gb G + t)), (1, .int x1), (2, .int x2), (3, .long y3)] dX12_set_5 (by decide) rfl ?_
  refine jd_iload (pc := 7) 0 dX12_set_7 rfl ?_
  refine jd_if_eq (pc := 9) 15 dX12_set_9 (by decide) (fun hc => ?_) (fun hc => ?_)
  · have h := h.1 hc
    refine jd_iload_n (pc := 15) 3 dX12_set_15 rfl rfl ?_
    refine jd_i2l (pc := 16) dX12_set_16 ?_
    refine jd_lconst (pc := 17) (v := 0) dX12_set_17 (by decide) ?_
    refine jd_aload_n (pc := 18) 1 dX12_set_18 rfl rfl ?_
    refine jd_getR (pc := 19) (ci := 11) (k := 2) (r := (t + 3)) gX12_16 ht.1 rfl (zModel_p2 ht) dX12_set_19 ?_
    refine jd_iload_n (pc := 22) 2 dX12_set_22 rfl rfl ?_
    obtain ⟨hv3, h⟩ := h
    refine jd_iald (pc := 23) (len := 8) (zModel_a2 ht) hv3 dX12_set_23 ?_
    refine jd_iconst (pc := 24) (v := 1) dX12_set_24 (by decide) ?_
    refine jd_isub (pc := 25) dX12_set_25 ?_
    refine jd_i2l (pc := 26) dX12_set_26 ?_
    refine jd_callSi (pc := 27) (M2 := mX12_in) (av := [.long (Int32.toInt64 x2), .long 0, .long (Int32.toInt64 ((I1 (t + 3) (Int32.toNatClampNeg x1)) - 1))]) kX12_in sX12_in lX12_88 rfl rfl (Nat.le_of_ble_eq_true rfl) dX12_set_27 h ?_
    intro v5 I4 J4 h
    refine jd_if_ne (pc := 30) 40 dX12_set_30 (by decide) (fun hc => ?_) (fun hc => ?_)
    · have h := h.1 hc
      refine jd_aload_n (pc := 40) 1 dX12_set_40 rfl rfl ?_
      refine jd_getR (pc := 41) (ci := 11) (k := 3) (r := (t + 4)) gX12_21 ht.1 rfl (zModel_p3 ht) dX12_set_41 ?_
      refine jd_iload_n (pc := 44) 2 dX12_set_44 rfl rfl ?_
      obtain ⟨hv6, h⟩ := h
      refine jd_aald (pc := 45) (len := 8) (k := 3) (zModel_a3 ht) (by decide) hv6 (zModel_rows ht (vp_lt hv6)) dX12_set_45 ?_
      refine jd_iload_n (pc := 46) 3 dX12_set_46 rfl rfl ?_
      refine jd_aload_n (pc := 47) 1 dX12_set_47 rfl rfl ?_
      refine jd_getR (pc := 48) (ci := 11) (k := 1) (r := (t + 2)) gX12_13 ht.1 rfl (zModel_p1 ht) dX12_set_48 ?_
      refine jd_iload_n (pc := 51) 2 dX12_set_51 rfl rfl ?_
      obtain ⟨hv7, h⟩ := h
      refine jd_iald (pc := 52) (len := 8) (zModel_a1 ht) hv7 dX12_set_52 ?_
      refine jd_lload_n (pc := 53) 4 dX12_set_53 rfl rfl ?_
      refine jd_callSl (pc := 54) (M2 := mX12_fit) (av := [.int (I4 (t + 2) (Int32.toNatClampNeg x1)), .long y3]) kX12_fit sX12_fit lX12_109 rfl rfl (Nat.le_of_ble_eq_true rfl) dX12_set_54 h ?_
      intro v9 I8 J8 h
      obtain ⟨hv10, h⟩ := h
      refine jd_last (pc := 57) (len := 40) (zModel_rowsA ht (vp_lt hv6)) hv10 dX12_set_57 ?_
      refine jd_iconst (pc := 58) (v := 1) dX12_set_58 (by decide) ?_
      exact jd_iretK (pc := 59) rfl rfl dX12_set_59 h
    · have h := h.2 hc
      refine jd_aload_n (pc := 33) 1 dX12_set_33 rfl rfl ?_
      refine jd_bipush (pc := 34) (v := (-2)) dX12_set_34 (by decide) ?_
      refine jd_callVi (pc := 36) (M2 := mX12_refuse) (id := t) (ci := 11) (T := TX12) (N := 45) (av := [.int (-2)]) kX12_refuse sX12_refuse rfl ht.1 lX12_102 rfl rfl (Nat.le_of_ble_eq_true rfl) dX12_set_36 h ?_
      intro v12 I11 J11 h
      exact jd_iretK (pc := 39) rfl rfl dX12_set_39 h
  · have h := h.2 hc
    refine jd_iload (pc := 12) 0 dX12_set_12 rfl ?_
    exact jd_iretK (pc := 14) rfl rfl dX12_set_14 h
theorem eX12_set {G : jdG} {n : Nat} {Z : jdL} {I : jdI} {J : jdJ} {K : Int32 → jdI → jdJ → Prop} {t : Nat} {x1 : Int32} {x2 : Int32} {y3 : Int64} (ht : zModel Z t) (h : Cl G mX12_noRow n 0 0 [.ref (gb G + t), .int x1] Z I J (qi Z (fun v2 I1 J1 => ((v2 = 0 → (vp_in x1 8 ∧ Cl G mX12_in n 0 0 [.long (Int32.toInt64 x2), .long 0, .long (Int32.toInt64 ((I1 (t + 3) (Int32.toNatClampNeg x1)) - 1))] Z I1 J1 (qi Z (fun v5 I4 J4 => ((¬ v5 = 0 → (vp_in x1 8 ∧ (vp_in x1 8 ∧ Cl G mX12_fit n 0 0 [.int (I4 (t + 2) (Int32.toNatClampNeg x1)), .long y3] Z I4 J4 (ql Z (fun v9 I8 J8 => (vp_in x2 40 ∧ K 1 I8 (uJ J8 (t + 5 + (Int32.toNatClampNeg x1)) (Int32.toNatClampNeg x2) v9))))))) ∧ (v5 = 0 → Cl G mX12_refuse n 0 0 [.ref (gb G + t), .int (-2)] Z I4 J4 (qi Z (fun v12 I11 J11 => K v12 I11 J11)))))))) ∧ (¬ v2 = 0 → K v2 I1 J1))))) : Cl G mX12_set (n + 1) 0 0 [.ref (gb G + t), .int x1, .int x2, .long y3] Z I J (qi Z K) :=
  Cl.of (by decide +kernel) (Nat.le_of_ble_eq_true rfl) (rX12_set_0 ht h)
set_option maxRecDepth 4000 in
theorem rX12_copy_0 {G : jdG} {n rc rs : Nat} {Z : jdL} {I : jdI} {J : jdJ} {K : Int32 → jdI → jdJ → Prop} {t : Nat} {x1 : Int32} {x2 : Int32} {x3 : Int32} {x4 : Int32} {x5 : Int32} (ht : zModel Z t) (h : Cl G mX12_in n 0 0 [.long (Int32.toInt64 x1), .long 0, .long 7] Z I J (qi Z (fun v2 I1 J1 => ((v2 = 0 → Cl G mX12_refuse n 0 0 [.ref (gb G + t), .int (-2)] Z I1 J1 (qi Z (fun v4 I3 J3 => K v4 I3 J3))) ∧ (¬ v2 = 0 → Cl G mX12_in n 0 0 [.long (Int32.toInt64 x2), .long 0, .long 7] Z I1 J1 (qi Z (fun v6 I5 J5 => ((¬ v6 = 0 → (vp_in x1 8 ∧ (((I5 (t + 1) (Int32.toNatClampNeg x1)) = 2 → Cl G mX12_refuse n 0 0 [.ref (gb G + t), .int (-3)] Z I5 J5 (qi Z (fun v9 I8 J8 => K v9 I8 J8))) ∧ (¬ (I5 (t + 1) (Int32.toNatClampNeg x1)) = 2 → (vp_in x2 8 ∧ (((I5 (t + 1) (Int32.toNatClampNeg x2)) = 2 → Cl G mX12_refuse n 0 0 [.ref (gb G + t), .int (-3)] Z I5 J5 (qi Z (fun v12 I11 J11 => K v12 I11 J11))) ∧ (¬ (I5 (t + 1) (Int32.toNatClampNeg x2)) = 2 → (vp_in x1 8 ∧ ((¬ (I5 (t + 1) (Int32.toNatClampNeg x1)) = 1 → (vp_in x1 8 ∧ (((I5 (t + 1) (Int32.toNatClampNeg x1)) = 0 → Cl G mX12_refuse n 0 0 [.ref (gb G + t), .int (-4)] Z I5 J5 (qi Z (fun v16 I15 J15 => K v16 I15 J15))) ∧ (¬ (I5 (t + 1) (Int32.toNatClampNeg x1)) = 0 → (vp_in x2 8 ∧ ((¬ (I5 (t + 1) (Int32.toNatClampNeg x2)) = 0 → ((x5 < 0 → Cl G mX12_refuse n 0 0 [.ref (gb G + t), .int (-2)] Z I5 J5 (qi Z (fun v19 I18 J18 => K v19 I18 J18))) ∧ (¬ x5 < 0 → ((x3 < 0 → Cl G mX12_refuse n 0 0 [.ref (gb G + t), .int (-2)] Z I5 J5 (qi Z (fun v21 I20 J20 => K v21 I20 J20))) ∧ (¬ x3 < 0 → ((x4 < 0 → Cl G mX12_refuse n 0 0 [.ref (gb G + t), .int (-2)] Z I5 J5 (qi Z (fun v23 I22 J22 => K v23 I22 J22))) ∧ (¬ x4 < 0 → (vp_in x1 8 ∧ (((I5 (t + 3) (Int32.toNatClampNeg x1)) < x5 → Cl G mX12_refuse n 0 0 [.ref (gb G + t), .int (-2)] Z I5 J5 (qi Z (fun v26 I25 J25 => K v26 I25 J25))) ∧ (¬ (I5 (t + 3) (Int32.toNatClampNeg x1)) < x5 → (vp_in x2 8 ∧ (((I5 (t + 3) (Int32.toNatClampNeg x2)) < x5 → Cl G mX12_refuse n 0 0 [.ref (gb G + t), .int (-2)] Z I5 J5 (qi Z (fun v29 I28 J28 => K v29 I28 J28))) ∧ (¬ (I5 (t + 3) (Int32.toNatClampNeg x2)) < x5 → (vp_in x1 8 ∧ ((((I5 (t + 3) (Int32.toNatClampNeg x1)) - x5) < x3 → Cl G mX12_refuse n 0 0 [.ref (gb G + t), .int (-2)] Z I5 J5 (qi Z (fun v32 I31 J31 => K v32 I31 J31))) ∧ (¬ ((I5 (t + 3) (Int32.toNatClampNeg x1)) - x5) < x3 → (vp_in x2 8 ∧ ((x4 ≤ ((I5 (t + 3) (Int32.toNatClampNeg x2)) - x5) → Jd G mX12_copy (jdFm G (qi Z K)) (n + 1) rc rs 191 [(0, .ref (gb G + t)), (1, .int x1), (2, .int x2), (3, .int x3), (4, .int x4), (5, .int x5), (6, .int 0)] [] Z I5 J5) ∧ (¬ x4 ≤ ((I5 (t + 3) (Int32.toNatClampNeg x2)) - x5) → Cl G mX12_refuse n 0 0 [.ref (gb G + t), .int (-2)] Z I5 J5 (qi Z (fun v35 I34 J34 => K v35 I34 J34))))))))))))))))))))) ∧ ((I5 (t + 1) (Int32.toNatClampNeg x2)) = 0 → Cl G mX12_refuse n 0 0 [.ref (gb G + t), .int (-4)] Z I5 J5 (qi Z (fun v37 I36 J36 => K v37 I36 J36))))))))) ∧ ((I5 (t + 1) (Int32.toNatClampNeg x1)) = 1 → (vp_in x2 8 ∧ ((¬ (I5 (t + 1) (Int32.toNatClampNeg x2)) = 1 → (vp_in x1 8 ∧ (((I5 (t + 1) (Int32.toNatClampNeg x1)) = 0 → Cl G mX12_refuse n 0 0 [.ref (gb G + t), .int (-4)] Z I5 J5 (qi Z (fun v41 I40 J40 => K v41 I40 J40))) ∧ (¬ (I5 (t + 1) (Int32.toNatClampNeg x1)) = 0 → (vp_in x2 8 ∧ ((¬ (I5 (t + 1) (Int32.toNatClampNeg x2)) = 0 → ((x5 < 0 → Cl G mX12_refuse n 0 0 [.ref (gb G + t), .int (-2)] Z I5 J5 (qi Z (fun v44 I43 J43 => K v44 I43 J43))) ∧ (¬ x5 < 0 → ((x3 < 0 → Cl G mX12_refuse n 0 0 [.ref (gb G + t), .int (-2)] Z I5 J5 (qi Z (fun v46 I45 J45 => K v46 I45 J45))) ∧ (¬ x3 < 0 → ((x4 < 0 → Cl G mX12_refuse n 0 0 [.ref (gb G + t), .int (-2)] Z I5 J5 (qi Z (fun v48 I47 J47 => K v48 I47 J47))) ∧ (¬ x4 < 0 → (vp_in x1 8 ∧ (((I5 (t + 3) (Int32.toNatClampNeg x1)) < x5 → Cl G mX12_refuse n 0 0 [.ref (gb G + t), .int (-2)] Z I5 J5 (qi Z (fun v51 I50 J50 => K v51 I50 J50))) ∧ (¬ (I5 (t + 3) (Int32.toNatClampNeg x1)) < x5 → (vp_in x2 8 ∧ (((I5 (t + 3) (Int32.toNatClampNeg x2)) < x5 → Cl G mX12_refuse n 0 0 [.ref (gb G + t), .int (-2)] Z I5 J5 (qi Z (fun v54 I53 J53 => K v54 I53 J53))) ∧ (¬ (I5 (t + 3) (Int32.toNatClampNeg x2)) < x5 → (vp_in x1 8 ∧ ((((I5 (t + 3) (Int32.toNatClampNeg x1)) - x5) < x3 → Cl G mX12_refuse n 0 0 [.ref (gb G + t), .int (-2)] Z I5 J5 (qi Z (fun v57 I56 J56 => K v57 I56 J56))) ∧ (¬ ((I5 (t + 3) (Int32.toNatClampNeg x1)) - x5) < x3 → (vp_in x2 8 ∧ ((x4 ≤ ((I5 (t + 3) (Int32.toNatClampNeg x2)) - x5) → Jd G mX12_copy (jdFm G (qi Z K)) (n + 1) rc rs 191 [(0, .ref (gb G + t)), (1, .int x1), (2, .int x2), (3, .int x3), (4, .int x4), (5, .int x5), (6, .int 0)] [] Z I5 J5) ∧ (¬ x4 ≤ ((I5 (t + 3) (Int32.toNatClampNeg x2)) - x5) → Cl G mX12_refuse n 0 0 [.ref (gb G + t), .int (-2)] Z I5 J5 (qi Z (fun v60 I59 J59 => K v60 I59 J59))))))))))))))))))))) ∧ ((I5 (t + 1) (Int32.toNatClampNeg x2)) = 0 → Cl G mX12_refuse n 0 0 [.ref (gb G + t), .int (-4)] Z I5 J5 (qi Z (fun v62 I61 J61 => K v62 I61 J61))))))))) ∧ ((I5 (t + 1) (Int32.toNatClampNeg x2)) = 1 → (vp_in x1 8 ∧ (vp_in x2 8 ∧ (((I5 (t + 2) (Int32.toNatClampNeg x1)) = (I5 (t + 2) (Int32.toNatClampNeg x2)) → (vp_in x1 8 ∧ (((I5 (t + 1) (Int32.toNatClampNeg x1)) = 0 → Cl G mX12_refuse n 0 0 [.ref (gb G + t), .int (-4)] Z I5 J5 (qi Z (fun v67 I66 J66 => K v67 I66 J66))) ∧ (¬ (I5 (t + 1) (Int32.toNatClampNeg x1)) = 0 → (vp_in x2 8 ∧ ((¬ (I5 (t + 1) (Int32.toNatClampNeg x2)) = 0 → ((x5 < 0 → Cl G mX12_refuse n 0 0 [.ref (gb G + t), .int (-2)] Z I5 J5 (qi Z (fun v70 I69 J69 => K v70 I69 J69))) ∧ (¬ x5 < 0 → ((x3 < 0 → Cl G mX12_refuse n 0 0 [.ref (gb G + t), .int (-2)] Z I5 J5 (qi Z (fun v72 I71 J71 => K v72 I71 J71))) ∧ (¬ x3 < 0 → ((x4 < 0 → Cl G mX12_refuse n 0 0 [.ref (gb G + t), .int (-2)] Z I5 J5 (qi Z (fun v74 I73 J73 => K v74 I73 J73))) ∧ (¬ x4 < 0 → (vp_in x1 8 ∧ (((I5 (t + 3) (Int32.toNatClampNeg x1)) < x5 → Cl G mX12_refuse n 0 0 [.ref (gb G + t), .int (-2)] Z I5 J5 (qi Z (fun v77 I76 J76 => K v77 I76 J76))) ∧ (¬ (I5 (t + 3) (Int32.toNatClampNeg x1)) < x5 → (vp_in x2 8 ∧ (((I5 (t + 3) (Int32.toNatClampNeg x2)) < x5 → Cl G mX12_refuse n 0 0 [.ref (gb G + t), .int (-2)] Z I5 J5 (qi Z (fun v80 I79 J79 => K v80 I79 J79))) ∧ (¬ (I5 (t + 3) (Int32.toNatClampNeg x2)) < x5 → (vp_in x1 8 ∧ ((((I5 (t + 3) (Int32.toNatClampNeg x1)) - x5) < x3 → Cl G mX12_refuse n 0 0 [.ref (gb G + t), .int (-2)] Z I5 J5 (qi Z (fun v83 I82 J82 => K v83 I82 J82))) ∧ (¬ ((I5 (t + 3) (Int32.toNatClampNeg x1)) - x5) < x3 → (vp_in x2 8 ∧ ((x4 ≤ ((I5 (t + 3) (Int32.toNatClampNeg x2)) - x5) → Jd G mX12_copy (jdFm G (qi Z K)) (n + 1) rc rs 191 [(0, .ref (gb G + t)), (1, .int x1), (2, .int x2), (3, .int x3), (4, .int x4), (5, .int x5), (6, .int 0)] [] Z I5 J5) ∧ (¬ x4 ≤ ((I5 (t + 3) (Int32.toNatClampNeg x2)) - x5) → Cl G mX12_refuse n 0 0 [.ref (gb G + t), .int (-2)] Z I5 J5 (qi Z (fun v86 I85 J85 => K v86 I85 J85))))))))))))))))))))) ∧ ((I5 (t + 1) (Int32.toNatClampNeg x2)) = 0 → Cl G mX12_refuse n 0 0 [.ref (gb G + t), .int (-4)] Z I5 J5 (qi Z (fun v88 I87 J87 => K v88 I87 J87))))))))) ∧ (¬ (I5 (t + 2) (Int32.toNatClampNeg x1)) = (I5 (t + 2) (Int32.toNatClampNeg x2)) → Cl G mX12_refuse n 0 0 [.ref (gb G + t), .int (-3)] Z I5 J5 (qi Z (fun v90 I89 J89 => K v90 I89 J89))))))))))))))))))) ∧ (v6 = 0 → Cl G mX12_refuse n 0 0 [.ref (gb G + t), .int (-2)] Z I5 J5 (qi Z (fun v92 I91 J91 => K v92 I91 J91))))))))))) : Jd G mX12_copy (jdFm G (qi Z K)) (n + 1) rc rs 0 [(0, .ref (gb G + t)), (1, .int x1), (2, .int x2), (3, .int x3), (4, .int x4), (5, .int x5)] [] Z I J := by
  refine jd_iload_n (pc := 0) 1 dX12_copy_0 rfl rfl ?_
  refine jd_i2l (pc := 1) dX12_copy_1 ?_
  refine jd_lconst (pc := 2) (v := 0) dX12_copy_2 (by decide) ?_
  refine jd_ldc2 (pc := 3) (v := 7) qX12_96 dX12_copy_3 ?_
  refine jd_callSi (pc := 6) (M2 := mX12_in) (av := [.long (Int32.toInt64 x1), .long 0, .long 7]) kX12_in sX12_in lX12_88 rfl rfl (Nat.le_of_ble_eq_true rfl) dX12_copy_6 h ?_
  intro v2 I1 J1 h
  refine jd_if_eq (pc := 9) 24 dX12_copy_9 (by decide) (fun hc => ?_) (fun hc => ?_)
  · have h := h.1 hc
    refine jd_aload_n (pc := 24) 0 dX12_copy_24 rfl rfl ?_
    refine jd_bipush (pc := 25) (v := (-2)) dX12_copy_25 (by decide) ?_
    refine jd_callVi (pc := 27) (M2 := mX12_refuse) (id := t) (ci := 11) (T := TX12) (N := 45) (av := [.int (-2)]) kX12_refuse sX12_refuse rfl ht.1 lX12_102 rfl rfl (Nat.le_of_ble_eq_true rfl) dX12_copy_27 h ?_
    intro v4 I3 J3 h
    exact jd_iretK (pc := 30) rfl rfl dX12_copy_30 h
  · have h := h.2 hc
    refine jd_iload_n (pc := 12) 2 dX12_copy_12 rfl rfl ?_
    refine jd_i2l (pc := 13) dX12_copy_13 ?_
    refine jd_lconst (pc := 14) (v := 0) dX12_copy_14 (by decide) ?_
    refine jd_ldc2 (pc := 15) (v := 7) qX12_96 dX12_copy_15 ?_
    refine jd_callSi (pc := 18) (M2 := mX12_in) (av := [.long (Int32.toInt64 x2), .long 0, .long 7]) kX12_in sX12_in lX12_88 rfl rfl (Nat.le_of_ble_eq_true rfl) dX12_copy_18 h ?_
    intro v6 I5 J5 h
    refine jd_if_ne (pc := 21) 31 dX12_copy_21 (by decide) (fun hc => ?_) (fun hc => ?_)
    · have h := h.1 hc
      refine jd_aload_n (pc := 31) 0 dX12_copy_31 rfl rfl ?_
      refine jd_getR (pc := 32) (ci := 11) (k := 0) (r := (t + 1)) gX12_7 ht.1 rfl (zModel_p0 ht) dX12_copy_32 ?_
      refine jd_iload_n (pc := 35) 1 dX12_copy_35 rfl rfl ?_
      obtain ⟨hv7, h⟩ := h
      refine jd_iald (pc := 36) (len := 8) (zModel_a0 ht) hv7 dX12_copy_36 ?_
      refine jd_iconst (pc := 37) (v := 2) dX12_copy_37 (by decide) ?_
      refine jd_icmp_eq (pc := 38) 86 dX12_copy_38 (by decide) (fun hc => ?_) (fun hc => ?_)
      · have h := h.1 hc
        refine jd_aload_n (pc := 86) 0 dX12_copy_86 rfl rfl ?_
        refine jd_bipush (pc := 87) (v := (-3)) dX12_copy_87 (by decide) ?_
        refine jd_callVi (pc := 89) (M2 := mX12_refuse) (id := t) (ci := 11) (T := TX12) (N := 45) (av := [.int (-3)]) kX12_refuse sX12_refuse rfl ht.1 lX12_102 rfl rfl (Nat.le_of_ble_eq_true rfl) dX12_copy_89 h ?_
        intro v9 I8 J8 h
        exact jd_iretK (pc := 92) rfl rfl dX12_copy_92 h
      · have h := h.2 hc
        refine jd_aload_n (pc := 41) 0 dX12_copy_41 rfl rfl ?_
        refine jd_getR (pc := 42) (ci := 11) (k := 0) (r := (t + 1)) gX12_7 ht.1 rfl (zModel_p0 ht) dX12_copy_42 ?_
        refine jd_iload_n (pc := 45) 2 dX12_copy_45 rfl rfl ?_
        obtain ⟨hv10, h⟩ := h
        refine jd_iald (pc := 46) (len := 8) (zModel_a0 ht) hv10 dX12_copy_46 ?_
        refine jd_iconst (pc := 47) (v := 2) dX12_copy_47 (by decide) ?_
        refine jd_icmp_eq (pc := 48) 86 dX12_copy_48 (by decide) (fun hc => ?_) (fun hc => ?_)
        · have h := h.1 hc
          refine jd_aload_n (pc := 86) 0 dX12_copy_86 rfl rfl ?_
          refine jd_bipush (pc := 87) (v := (-3)) dX12_copy_87 (by decide) ?_
          refine jd_callVi (pc := 89) (M2 := mX12_refuse) (id := t) (ci := 11) (T := TX12) (N := 45) (av := [.int (-3)]) kX12_refuse sX12_refuse rfl ht.1 lX12_102 rfl rfl (Nat.le_of_ble_eq_true rfl) dX12_copy_89 h ?_
          intro v12 I11 J11 h
          exact jd_iretK (pc := 92) rfl rfl dX12_copy_92 h
        · have h := h.2 hc
          refine jd_aload_n (pc := 51) 0 dX12_copy_51 rfl rfl ?_
          refine jd_getR (pc := 52) (ci := 11) (k := 0) (r := (t + 1)) gX12_7 ht.1 rfl (zModel_p0 ht) dX12_copy_52 ?_
          refine jd_iload_n (pc := 55) 1 dX12_copy_55 rfl rfl ?_
          obtain ⟨hv13, h⟩ := h
          refine jd_iald (pc := 56) (len := 8) (zModel_a0 ht) hv13 dX12_copy_56 ?_
          refine jd_iconst (pc := 57) (v := 1) dX12_copy_57 (by decide) ?_
          refine jd_icmp_ne (pc := 58) 93 dX12_copy_58 (by decide) (fun hc => ?_) (fun hc => ?_)
          · have h := h.1 hc
            refine jd_aload_n (pc := 93) 0 dX12_copy_93 rfl rfl ?_
            refine jd_getR (pc := 94) (ci := 11) (k := 0) (r := (t + 1)) gX12_7 ht.1 rfl (zModel_p0 ht) dX12_copy_94 ?_
            refine jd_iload_n (pc := 97) 1 dX12_copy_97 rfl rfl ?_
            obtain ⟨hv14, h⟩ := h
            refine jd_iald (pc := 98) (len := 8) (zModel_a0 ht) hv14 dX12_copy_98 ?_
            refine jd_if_eq (pc := 99) 111 dX12_copy_99 (by decide) (fun hc => ?_) (fun hc => ?_)
            · have h := h.1 hc
              refine jd_aload_n (pc := 111) 0 dX12_copy_111 rfl rfl ?_
              refine jd_bipush (pc := 112) (v := (-4)) dX12_copy_112 (by decide) ?_
              refine jd_callVi (pc := 114) (M2 := mX12_refuse) (id := t) (ci := 11) (T := TX12) (N := 45) (av := [.int (-4)]) kX12_refuse sX12_refuse rfl ht.1 lX12_102 rfl rfl (Nat.le_of_ble_eq_true rfl) dX12_copy_114 h ?_
              intro v16 I15 J15 h
              exact jd_iretK (pc := 117) rfl rfl dX12_copy_117 h
            · have h := h.2 hc
              refine jd_aload_n (pc := 102) 0 dX12_copy_102 rfl rfl ?_
              refine jd_getR (pc := 103) (ci := 11) (k := 0) (r := (t + 1)) gX12_7 ht.1 rfl (zModel_p0 ht) dX12_copy_103 ?_
              refine jd_iload_n (pc := 106) 2 dX12_copy_106 rfl rfl ?_
              obtain ⟨hv17, h⟩ := h
              refine jd_iald (pc := 107) (len := 8) (zModel_a0 ht) hv17 dX12_copy_107 ?_
              refine jd_if_ne (pc := 108) 118 dX12_copy_108 (by decide) (fun hc => ?_) (fun hc => ?_)
              · have h := h.1 hc
                refine jd_iload (pc := 118) 5 dX12_copy_118 rfl ?_
                refine jd_if_lt (pc := 120) 181 dX12_copy_120 (by decide) (fun hc => ?_) (fun hc => ?_)
                · have h := h.1 hc
                  refine jd_aload_n (pc := 181) 0 dX12_copy_181 rfl rfl ?_
                  refine jd_bipush (pc := 182) (v := (-2)) dX12_copy_182 (by decide) ?_
                  refine jd_callVi (pc := 184) (M2 := mX12_refuse) (id := t) (ci := 11) (T := TX12) (N := 45) (av := [.int (-2)]) kX12_refuse sX12_refuse rfl ht.1 lX12_102 rfl rfl (Nat.le_of_ble_eq_true rfl) dX12_copy_184 h ?_
                  intro v19 I18 J18 h
                  exact jd_iretK (pc := 187) rfl rfl dX12_copy_187 h
                · have h := h.2 hc
                  refine jd_iload_n (pc := 123) 3 dX12_copy_123 rfl rfl ?_
                  refine jd_if_lt (pc := 124) 181 dX12_copy_124 (by decide) (fun hc => ?_) (fun hc => ?_)
                  · have h := h.1 hc
                    refine jd_aload_n (pc := 181) 0 dX12_copy_181 rfl rfl ?_
                    refine jd_bipush (pc := 182) (v := (-2)) dX12_copy_182 (by decide) ?_
                    refine jd_callVi (pc := 184) (M2 := mX12_refuse) (id := t) (ci := 11) (T := TX12) (N := 45) (av := [.int (-2)]) kX12_refuse sX12_refuse rfl ht.1 lX12_102 rfl rfl (Nat.le_of_ble_eq_true rfl) dX12_copy_184 h ?_
                    intro v21 I20 J20 h
                    exact jd_iretK (pc := 187) rfl rfl dX12_copy_187 h
                  · have h := h.2 hc
                    refine jd_iload (pc := 127) 4 dX12_copy_127 rfl ?_
                    refine jd_if_lt (pc := 129) 181 dX12_copy_129 (by decide) (fun hc => ?_) (fun hc => ?_)
                    · have h := h.1 hc
                      refine jd_aload_n (pc := 181) 0 dX12_copy_181 rfl rfl ?_
                      refine jd_bipush (pc := 182) (v := (-2)) dX12_copy_182 (by decide) ?_
                      refine jd_callVi (pc := 184) (M2 := mX12_refuse) (id := t) (ci := 11) (T := TX12) (N := 45) (av := [.int (-2)]) kX12_refuse sX12_refuse rfl ht.1 lX12_102 rfl rfl (Nat.le_of_ble_eq_true rfl) dX12_copy_184 h ?_
                      intro v23 I22 J22 h
                      exact jd_iretK (pc := 187) rfl rfl dX12_copy_187 h
                    · have h := h.2 hc
                      refine jd_iload (pc := 132) 5 dX12_copy_132 rfl ?_
                      refine jd_aload_n (pc := 134) 0 dX12_copy_134 rfl rfl ?_
                      refine jd_getR (pc := 135) (ci := 11) (k := 2) (r := (t + 3)) gX12_16 ht.1 rfl (zModel_p2 ht) dX12_copy_135 ?_
                      refine jd_iload_n (pc := 138) 1 dX12_copy_138 rfl rfl ?_
                      obtain ⟨hv24, h⟩ := h
                      refine jd_iald (pc := 139) (len := 8) (zModel_a2 ht) hv24 dX12_copy_139 ?_
                      refine jd_icmp_gt (pc := 140) 181 dX12_copy_140 (by decide) (fun hc => ?_) (fun hc => ?_)
                      · have h := h.1 hc
                        refine jd_aload_n (pc := 181) 0 dX12_copy_181 rfl rfl ?_
                        refine jd_bipush (pc := 182) (v := (-2)) dX12_copy_182 (by decide) ?_
                        refine jd_callVi (pc := 184) (M2 := mX12_refuse) (id := t) (ci := 11) (T := TX12) (N := 45) (av := [.int (-2)]) kX12_refuse sX12_refuse rfl ht.1 lX12_102 rfl rfl (Nat.le_of_ble_eq_true rfl) dX12_copy_184 h ?_
                        intro v26 I25 J25 h
                        exact jd_iretK (pc := 187) rfl rfl dX12_copy_187 h
                      · have h := h.2 hc
                        refine jd_iload (pc := 143) 5 dX12_copy_143 rfl ?_
                        refine jd_aload_n (pc := 145) 0 dX12_copy_145 rfl rfl ?_
                        refine jd_getR (pc := 146) (ci := 11) (k := 2) (r := (t + 3)) gX12_16 ht.1 rfl (zModel_p2 ht) dX12_copy_146 ?_
                        refine jd_iload_n (pc := 149) 2 dX12_copy_149 rfl rfl ?_
                        obtain ⟨hv27, h⟩ := h
                        refine jd_iald (pc := 150) (len := 8) (zModel_a2 ht) hv27 dX12_copy_150 ?_
                        refine jd_icmp_gt (pc := 151) 181 dX12_copy_151 (by decide) (fun hc => ?_) (fun hc => ?_)
                        · have h := h.1 hc
                          refine jd_aload_n (pc := 181) 0 dX12_copy_181 rfl rfl ?_
                          refine jd_bipush (pc := 182) (v := (-2)) dX12_copy_182 (by decide) ?_
                          refine jd_callVi (pc := 184) (M2 := mX12_refuse) (id := t) (ci := 11) (T := TX12) (N := 45) (av := [.int (-2)]) kX12_refuse sX12_refuse rfl ht.1 lX12_102 rfl rfl (Nat.le_of_ble_eq_true rfl) dX12_copy_184 h ?_
                          intro v29 I28 J28 h
                          exact jd_iretK (pc := 187) rfl rfl dX12_copy_187 h
                        · have h := h.2 hc
                          refine jd_iload_n (pc := 154) 3 dX12_copy_154 rfl rfl ?_
                          refine jd_aload_n (pc := 155) 0 dX12_copy_155 rfl rfl ?_
                          refine jd_getR (pc := 156) (ci := 11) (k := 2) (r := (t + 3)) gX12_16 ht.1 rfl (zModel_p2 ht) dX12_copy_156 ?_
                          refine jd_iload_n (pc := 159) 1 dX12_copy_159 rfl rfl ?_
                          obtain ⟨hv30, h⟩ := h
                          refine jd_iald (pc := 160) (len := 8) (zModel_a2 ht) hv30 dX12_copy_160 ?_
                          refine jd_iload (pc := 161) 5 dX12_copy_161 rfl ?_
                          refine jd_isub (pc := 163) dX12_copy_163 ?_
                          refine jd_icmp_gt (pc := 164) 181 dX12_copy_164 (by decide) (fun hc => ?_) (fun hc => ?_)
                          · have h := h.1 hc
                            refine jd_aload_n (pc := 181) 0 dX12_copy_181 rfl rfl ?_
                            refine jd_bipush (pc := 182) (v := (-2)) dX12_copy_182 (by decide) ?_
                            refine jd_callVi (pc := 184) (M2 := mX12_refuse) (id := t) (ci := 11) (T := TX12) (N := 45) (av := [.int (-2)]) kX12_refuse sX12_refuse rfl ht.1 lX12_102 rfl rfl (Nat.le_of_ble_eq_true rfl) dX12_copy_184 h ?_
                            intro v32 I31 J31 h
                            exact jd_iretK (pc := 187) rfl rfl dX12_copy_187 h
                          · have h := h.2 hc
                            refine jd_iload (pc := 167) 4 dX12_copy_167 rfl ?_
                            refine jd_aload_n (pc := 169) 0 dX12_copy_169 rfl rfl ?_
                            refine jd_getR (pc := 170) (ci := 11) (k := 2) (r := (t + 3)) gX12_16 ht.1 rfl (zModel_p2 ht) dX12_copy_170 ?_
                            refine jd_iload_n (pc := 173) 2 dX12_copy_173 rfl rfl ?_
                            obtain ⟨hv33, h⟩ := h
                            refine jd_iald (pc := 174) (len := 8) (zModel_a2 ht) hv33 dX12_copy_174 ?_
                            refine jd_iload (pc := 175) 5 dX12_copy_175 rfl ?_
                            refine jd_isub (pc := 177) dX12_copy_177 ?_
                            refine jd_icmp_le (pc := 178) 188 dX12_copy_178 (by decide) (fun hc => ?_) (fun hc => ?_)
                            · have h := h.1 hc
                              refine jd_iconst (pc := 188) (v := 0) dX12_copy_188 (by decide) ?_
                              refine jd_istore (pc := 189) [(6, .int 0), (0, .ref (gb G + t)), (1, .int x1), (2, .int x2), (3, .int x3), (4, .int x4), (5, .int x5)] dX12_copy_189 (by decide) rfl ?_
                              exact jd_lv (lv2 := [(0, .ref (gb G + t)), (1, .int x1), (2, .int x2), (3, .int x3), (4, .int x4), (5, .int x5), (6, .int 0)]) [1, 2, 3, 4, 5, 6, 0] rfl h
                            · have h := h.2 hc
                              refine jd_aload_n (pc := 181) 0 dX12_copy_181 rfl rfl ?_
                              refine jd_bipush (pc := 182) (v := (-2)) dX12_copy_182 (by decide) ?_
                              refine jd_callVi (pc := 184) (M2 := mX12_refuse) (id := t) (ci := 11) (T := TX12) (N := 45) (av := [.int (-2)]) kX12_refuse sX12_refuse rfl ht.1 lX12_102 rfl rfl (Nat.le_of_ble_eq_true rfl) dX12_copy_184 h ?_
                              intro v35 I34 J34 h
                              exact jd_iretK (pc := 187) rfl rfl dX12_copy_187 h
              · have h := h.2 hc
                refine jd_aload_n (pc := 111) 0 dX12_copy_111 rfl rfl ?_
                refine jd_bipush (pc := 112) (v := (-4)) dX12_copy_112 (by decide) ?_
                refine jd_callVi (pc := 114) (M2 := mX12_refuse) (id := t) (ci := 11) (T := TX12) (N := 45) (av := [.int (-4)]) kX12_refuse sX12_refuse rfl ht.1 lX12_102 rfl rfl (Nat.le_of_ble_eq_true rfl) dX12_copy_114 h ?_
                intro v37 I36 J36 h
                exact jd_iretK (pc := 117) rfl rfl dX12_copy_117 h
          · have h := h.2 hc
            refine jd_aload_n (pc := 61) 0 dX12_copy_61 rfl rfl ?_
            refine jd_getR (pc := 62) (ci := 11) (k := 0) (r := (t + 1)) gX12_7 ht.1 rfl (zModel_p0 ht) dX12_copy_62 ?_
            refine jd_iload_n (pc := 65) 2 dX12_copy_65 rfl rfl ?_
            obtain ⟨hv38, h⟩ := h
            refine jd_iald (pc := 66) (len := 8) (zModel_a0 ht) hv38 dX12_copy_66 ?_
            refine jd_iconst (pc := 67) (v := 1) dX12_copy_67 (by decide) ?_
            refine jd_icmp_ne (pc := 68) 93 dX12_copy_68 (by decide) (fun hc => ?_) (fun hc => ?_)
            · have h := h.1 hc
              refine jd_aload_n (pc := 93) 0 dX12_copy_93 rfl rfl ?_
              refine jd_getR (pc := 94) (ci := 11) (k := 0) (r := (t + 1)) gX12_7 ht.1 rfl (zModel_p0 ht) dX12_copy_94 ?_
              refine jd_iload_n (pc := 97) 1 dX12_copy_97 rfl rfl ?_
              obtain ⟨hv39, h⟩ := h
              refine jd_iald (pc := 98) (len := 8) (zModel_a0 ht) hv39 dX12_copy_98 ?_
              refine jd_if_eq (pc := 99) 111 dX12_copy_99 (by decide) (fun hc => ?_) (fun hc => ?_)
              · have h := h.1 hc
                refine jd_aload_n (pc := 111) 0 dX12_copy_111 rfl rfl ?_
                refine jd_bipush (pc := 112) (v := (-4)) dX12_copy_112 (by decide) ?_
                refine jd_callVi (pc := 114) (M2 := mX12_refuse) (id := t) (ci := 11) (T := TX12) (N := 45) (av := [.int (-4)]) kX12_refuse sX12_refuse rfl ht.1 lX12_102 rfl rfl (Nat.le_of_ble_eq_true rfl) dX12_copy_114 h ?_
                intro v41 I40 J40 h
                exact jd_iretK (pc := 117) rfl rfl dX12_copy_117 h
              · have h := h.2 hc
                refine jd_aload_n (pc := 102) 0 dX12_copy_102 rfl rfl ?_
                refine jd_getR (pc := 103) (ci := 11) (k := 0) (r := (t + 1)) gX12_7 ht.1 rfl (zModel_p0 ht) dX12_copy_103 ?_
                refine jd_iload_n (pc := 106) 2 dX12_copy_106 rfl rfl ?_
                obtain ⟨hv42, h⟩ := h
                refine jd_iald (pc := 107) (len := 8) (zModel_a0 ht) hv42 dX12_copy_107 ?_
                refine jd_if_ne (pc := 108) 118 dX12_copy_108 (by decide) (fun hc => ?_) (fun hc => ?_)
                · have h := h.1 hc
                  refine jd_iload (pc := 118) 5 dX12_copy_118 rfl ?_
                  refine jd_if_lt (pc := 120) 181 dX12_copy_120 (by decide) (fun hc => ?_) (fun hc => ?_)
                  · have h := h.1 hc
                    refine jd_aload_n (pc := 181) 0 dX12_copy_181 rfl rfl ?_
                    refine jd_bipush (pc := 182) (v := (-2)) dX12_copy_182 (by decide) ?_
                    refine jd_callVi (pc := 184) (M2 := mX12_refuse) (id := t) (ci := 11) (T := TX12) (N := 45) (av := [.int (-2)]) kX12_refuse sX12_refuse rfl ht.1 lX12_102 rfl rfl (Nat.le_of_ble_eq_true rfl) dX12_copy_184 h ?_
                    intro v44 I43 J43 h
                    exact jd_iretK (pc := 187) rfl rfl dX12_copy_187 h
                  · have h := h.2 hc
                    refine jd_iload_n (pc := 123) 3 dX12_copy_123 rfl rfl ?_
                    refine jd_if_lt (pc := 124) 181 dX12_copy_124 (by decide) (fun hc => ?_) (fun hc => ?_)
                    · have h := h.1 hc
                      refine jd_aload_n (pc := 181) 0 dX12_copy_181 rfl rfl ?_
                      refine jd_bipush (pc := 182) (v := (-2)) dX12_copy_182 (by decide) ?_
                      refine jd_callVi (pc := 184) (M2 := mX12_refuse) (id := t) (ci := 11) (T := TX12) (N := 45) (av := [.int (-2)]) kX12_refuse sX12_refuse rfl ht.1 lX12_102 rfl rfl (Nat.le_of_ble_eq_true rfl) dX12_copy_184 h ?_
                      intro v46 I45 J45 h
                      exact jd_iretK (pc := 187) rfl rfl dX12_copy_187 h
                    · have h := h.2 hc
                      refine jd_iload (pc := 127) 4 dX12_copy_127 rfl ?_
                      refine jd_if_lt (pc := 129) 181 dX12_copy_129 (by decide) (fun hc => ?_) (fun hc => ?_)
                      · have h := h.1 hc
                        refine jd_aload_n (pc := 181) 0 dX12_copy_181 rfl rfl ?_
                        refine jd_bipush (pc := 182) (v := (-2)) dX12_copy_182 (by decide) ?_
                        refine jd_callVi (pc := 184) (M2 := mX12_refuse) (id := t) (ci := 11) (T := TX12) (N := 45) (av := [.int (-2)]) kX12_refuse sX12_refuse rfl ht.1 lX12_102 rfl rfl (Nat.le_of_ble_eq_true rfl) dX12_copy_184 h ?_
                        intro v48 I47 J47 h
                        exact jd_iretK (pc := 187) rfl rfl dX12_copy_187 h
                      · have h := h.2 hc
                        refine jd_iload (pc := 132) 5 dX12_copy_132 rfl ?_
                        refine jd_aload_n (pc := 134) 0 dX12_copy_134 rfl rfl ?_
                        refine jd_getR (pc := 135) (ci := 11) (k := 2) (r := (t + 3)) gX12_16 ht.1 rfl (zModel_p2 ht) dX12_copy_135 ?_
                        refine jd_iload_n (pc := 138) 1 dX12_copy_138 rfl rfl ?_
                        obtain ⟨hv49, h⟩ := h
                        refine jd_iald (pc := 139) (len := 8) (zModel_a2 ht) hv49 dX12_copy_139 ?_
                        refine jd_icmp_gt (pc := 140) 181 dX12_copy_140 (by decide) (fun hc => ?_) (fun hc => ?_)
                        · have h := h.1 hc
                          refine jd_aload_n (pc := 181) 0 dX12_copy_181 rfl rfl ?_
                          refine jd_bipush (pc := 182) (v := (-2)) dX12_copy_182 (by decide) ?_
                          refine jd_callVi (pc := 184) (M2 := mX12_refuse) (id := t) (ci := 11) (T := TX12) (N := 45) (av := [.int (-2)]) kX12_refuse sX12_refuse rfl ht.1 lX12_102 rfl rfl (Nat.le_of_ble_eq_true rfl) dX12_copy_184 h ?_
                          intro v51 I50 J50 h
                          exact jd_iretK (pc := 187) rfl rfl dX12_copy_187 h
                        · have h := h.2 hc
                          refine jd_iload (pc := 143) 5 dX12_copy_143 rfl ?_
                          refine jd_aload_n (pc := 145) 0 dX12_copy_145 rfl rfl ?_
                          refine jd_getR (pc := 146) (ci := 11) (k := 2) (r := (t + 3)) gX12_16 ht.1 rfl (zModel_p2 ht) dX12_copy_146 ?_
                          refine jd_iload_n (pc := 149) 2 dX12_copy_149 rfl rfl ?_
                          obtain ⟨hv52, h⟩ := h
                          refine jd_iald (pc := 150) (len := 8) (zModel_a2 ht) hv52 dX12_copy_150 ?_
                          refine jd_icmp_gt (pc := 151) 181 dX12_copy_151 (by decide) (fun hc => ?_) (fun hc => ?_)
                          · have h := h.1 hc
                            refine jd_aload_n (pc := 181) 0 dX12_copy_181 rfl rfl ?_
                            refine jd_bipush (pc := 182) (v := (-2)) dX12_copy_182 (by decide) ?_
                            refine jd_callVi (pc := 184) (M2 := mX12_refuse) (id := t) (ci := 11) (T := TX12) (N := 45) (av := [.int (-2)]) kX12_refuse sX12_refuse rfl ht.1 lX12_102 rfl rfl (Nat.le_of_ble_eq_true rfl) dX12_copy_184 h ?_
                            intro v54 I53 J53 h
                            exact jd_iretK (pc := 187) rfl rfl dX12_copy_187 h
                          · have h := h.2 hc
                            refine jd_iload_n (pc := 154) 3 dX12_copy_154 rfl rfl ?_
                            refine jd_aload_n (pc := 155) 0 dX12_copy_155 rfl rfl ?_
                            refine jd_getR (pc := 156) (ci := 11) (k := 2) (r := (t + 3)) gX12_16 ht.1 rfl (zModel_p2 ht) dX12_copy_156 ?_
                            refine jd_iload_n (pc := 159) 1 dX12_copy_159 rfl rfl ?_
                            obtain ⟨hv55, h⟩ := h
                            refine jd_iald (pc := 160) (len := 8) (zModel_a2 ht) hv55 dX12_copy_160 ?_
                            refine jd_iload (pc := 161) 5 dX12_copy_161 rfl ?_
                            refine jd_isub (pc := 163) dX12_copy_163 ?_
                            refine jd_icmp_gt (pc := 164) 181 dX12_copy_164 (by decide) (fun hc => ?_) (fun hc => ?_)
                            · have h := h.1 hc
                              refine jd_aload_n (pc := 181) 0 dX12_copy_181 rfl rfl ?_
                              refine jd_bipush (pc := 182) (v := (-2)) dX12_copy_182 (by decide) ?_
                              refine jd_callVi (pc := 184) (M2 := mX12_refuse) (id := t) (ci := 11) (T := TX12) (N := 45) (av := [.int (-2)]) kX12_refuse sX12_refuse rfl ht.1 lX12_102 rfl rfl (Nat.le_of_ble_eq_true rfl) dX12_copy_184 h ?_
                              intro v57 I56 J56 h
                              exact jd_iretK (pc := 187) rfl rfl dX12_copy_187 h
                            · have h := h.2 hc
                              refine jd_iload (pc := 167) 4 dX12_copy_167 rfl ?_
                              refine jd_aload_n (pc := 169) 0 dX12_copy_169 rfl rfl ?_
                              refine jd_getR (pc := 170) (ci := 11) (k := 2) (r := (t + 3)) gX12_16 ht.1 rfl (zModel_p2 ht) dX12_copy_170 ?_
                              refine jd_iload_n (pc := 173) 2 dX12_copy_173 rfl rfl ?_
                              obtain ⟨hv58, h⟩ := h
                              refine jd_iald (pc := 174) (len := 8) (zModel_a2 ht) hv58 dX12_copy_174 ?_
                              refine jd_iload (pc := 175) 5 dX12_copy_175 rfl ?_
                              refine jd_isub (pc := 177) dX12_copy_177 ?_
                              refine jd_icmp_le (pc := 178) 188 dX12_copy_178 (by decide) (fun hc => ?_) (fun hc => ?_)
                              · have h := h.1 hc
                                refine jd_iconst (pc := 188) (v := 0) dX12_copy_188 (by decide) ?_
                                refine jd_istore (pc := 189) [(6, .int 0), (0, .ref (gb G + t)), (1, .int x1), (2, .int x2), (3, .int x3), (4, .int x4), (5, .int x5)] dX12_copy_189 (by decide) rfl ?_
                                exact jd_lv (lv2 := [(0, .ref (gb G + t)), (1, .int x1), (2, .int x2), (3, .int x3), (4, .int x4), (5, .int x5), (6, .int 0)]) [1, 2, 3, 4, 5, 6, 0] rfl h
                              · have h := h.2 hc
                                refine jd_aload_n (pc := 181) 0 dX12_copy_181 rfl rfl ?_
                                refine jd_bipush (pc := 182) (v := (-2)) dX12_copy_182 (by decide) ?_
                                refine jd_callVi (pc := 184) (M2 := mX12_refuse) (id := t) (ci := 11) (T := TX12) (N := 45) (av := [.int (-2)]) kX12_refuse sX12_refuse rfl ht.1 lX12_102 rfl rfl (Nat.le_of_ble_eq_true rfl) dX12_copy_184 h ?_
                                intro v60 I59 J59 h
                                exact jd_iretK (pc := 187) rfl rfl dX12_copy_187 h
                · have h := h.2 hc
                  refine jd_aload_n (pc := 111) 0 dX12_copy_111 rfl rfl ?_
                  refine jd_bipush (pc := 112) (v := (-4)) dX12_copy_112 (by decide) ?_
                  refine jd_callVi (pc := 114) (M2 := mX12_refuse) (id := t) (ci := 11) (T := TX12) (N := 45) (av := [.int (-4)]) kX12_refuse sX12_refuse rfl ht.1 lX12_102 rfl rfl (Nat.le_of_ble_eq_true rfl) dX12_copy_114 h ?_
                  intro v62 I61 J61 h
                  exact jd_iretK (pc := 117) rfl rfl dX12_copy_117 h
            · have h := h.2 hc
              refine jd_aload_n (pc := 71) 0 dX12_copy_71 rfl rfl ?_
              refine jd_getR (pc := 72) (ci := 11) (k := 1) (r := (t + 2)) gX12_13 ht.1 rfl (zModel_p1 ht) dX12_copy_72 ?_
              refine jd_iload_n (pc := 75) 1 dX12_copy_75 rfl rfl ?_
              obtain ⟨hv63, h⟩ := h
              refine jd_iald (pc := 76) (len := 8) (zModel_a1 ht) hv63 dX12_copy_76 ?_
              refine jd_aload_n (pc := 77) 0 dX12_copy_77 rfl rfl ?_
              refine jd_getR (pc := 78) (ci := 11) (k := 1) (r := (t + 2)) gX12_13 ht.1 rfl (zModel_p1 ht) dX12_copy_78 ?_
              refine jd_iload_n (pc := 81) 2 dX12_copy_81 rfl rfl ?_
              obtain ⟨hv64, h⟩ := h
              refine jd_iald (pc := 82) (len := 8) (zModel_a1 ht) hv64 dX12_copy_82 ?_
              refine jd_icmp_eq (pc := 83) 93 dX12_copy_83 (by decide) (fun hc => ?_) (fun hc => ?_)
              · have h := h.1 hc
                refine jd_aload_n (pc := 93) 0 dX12_copy_93 rfl rfl ?_
                refine jd_getR (pc := 94) (ci := 11) (k := 0) (r := (t + 1)) gX12_7 ht.1 rfl (zModel_p0 ht) dX12_copy_94 ?_
                refine jd_iload_n (pc := 97) 1 dX12_copy_97 rfl rfl ?_
                obtain ⟨hv65, h⟩ := h
                refine jd_iald (pc := 98) (len := 8) (zModel_a0 ht) hv65 dX12_copy_98 ?_
                refine jd_if_eq (pc := 99) 111 dX12_copy_99 (by decide) (fun hc => ?_) (fun hc => ?_)
                · have h := h.1 hc
                  refine jd_aload_n (pc := 111) 0 dX12_copy_111 rfl rfl ?_
                  refine jd_bipush (pc := 112) (v := (-4)) dX12_copy_112 (by decide) ?_
                  refine jd_callVi (pc := 114) (M2 := mX12_refuse) (id := t) (ci := 11) (T := TX12) (N := 45) (av := [.int (-4)]) kX12_refuse sX12_refuse rfl ht.1 lX12_102 rfl rfl (Nat.le_of_ble_eq_true rfl) dX12_copy_114 h ?_
                  intro v67 I66 J66 h
                  exact jd_iretK (pc := 117) rfl rfl dX12_copy_117 h
                · have h := h.2 hc
                  refine jd_aload_n (pc := 102) 0 dX12_copy_102 rfl rfl ?_
                  refine jd_getR (pc := 103) (ci := 11) (k := 0) (r := (t + 1)) gX12_7 ht.1 rfl (zModel_p0 ht) dX12_copy_103 ?_
                  refine jd_iload_n (pc := 106) 2 dX12_copy_106 rfl rfl ?_
                  obtain ⟨hv68, h⟩ := h
                  refine jd_iald (pc := 107) (len := 8) (zModel_a0 ht) hv68 dX12_copy_107 ?_
                  refine jd_if_ne (pc := 108) 118 dX12_copy_108 (by decide) (fun hc => ?_) (fun hc => ?_)
                  · have h := h.1 hc
                    refine jd_iload (pc := 118) 5 dX12_copy_118 rfl ?_
                    refine jd_if_lt (pc := 120) 181 dX12_copy_120 (by decide) (fun hc => ?_) (fun hc => ?_)
                    · have h := h.1 hc
                      refine jd_aload_n (pc := 181) 0 dX12_copy_181 rfl rfl ?_
                      refine jd_bipush (pc := 182) (v := (-2)) dX12_copy_182 (by decide) ?_
                      refine jd_callVi (pc := 184) (M2 := mX12_refuse) (id := t) (ci := 11) (T := TX12) (N := 45) (av := [.int (-2)]) kX12_refuse sX12_refuse rfl ht.1 lX12_102 rfl rfl (Nat.le_of_ble_eq_true rfl) dX12_copy_184 h ?_
                      intro v70 I69 J69 h
                      exact jd_iretK (pc := 187) rfl rfl dX12_copy_187 h
                    · have h := h.2 hc
                      refine jd_iload_n (pc := 123) 3 dX12_copy_123 rfl rfl ?_
                      refine jd_if_lt (pc := 124) 181 dX12_copy_124 (by decide) (fun hc => ?_) (fun hc => ?_)
                      · have h := h.1 hc
                        refine jd_aload_n (pc := 181) 0 dX12_copy_181 rfl rfl ?_
                        refine jd_bipush (pc := 182) (v := (-2)) dX12_copy_182 (by decide) ?_
                        refine jd_callVi (pc := 184) (M2 := mX12_refuse) (id := t) (ci := 11) (T := TX12) (N := 45) (av := [.int (-2)]) kX12_refuse sX12_refuse rfl ht.1 lX12_102 rfl rfl (Nat.le_of_ble_eq_true rfl) dX12_copy_184 h ?_
                        intro v72 I71 J71 h
                        exact jd_iretK (pc := 187) rfl rfl dX12_copy_187 h
                      · have h := h.2 hc
                        refine jd_iload (pc := 127) 4 dX12_copy_127 rfl ?_
                        refine jd_if_lt (pc := 129) 181 dX12_copy_129 (by decide) (fun hc => ?_) (fun hc => ?_)
                        · have h := h.1 hc
                          refine jd_aload_n (pc := 181) 0 dX12_copy_181 rfl rfl ?_
                          refine jd_bipush (pc := 182) (v := (-2)) dX12_copy_182 (by decide) ?_
                          refine jd_callVi (pc := 184) (M2 := mX12_refuse) (id := t) (ci := 11) (T := TX12) (N := 45) (av := [.int (-2)]) kX12_refuse sX12_refuse rfl ht.1 lX12_102 rfl rfl (Nat.le_of_ble_eq_true rfl) dX12_copy_184 h ?_
                          intro v74 I73 J73 h
                          exact jd_iretK (pc := 187) rfl rfl dX12_copy_187 h
                        · have h := h.2 hc
                          refine jd_iload (pc := 132) 5 dX12_copy_132 rfl ?_
                          refine jd_aload_n (pc := 134) 0 dX12_copy_134 rfl rfl ?_
                          refine jd_getR (pc := 135) (ci := 11) (k := 2) (r := (t + 3)) gX12_16 ht.1 rfl (zModel_p2 ht) dX12_copy_135 ?_
                          refine jd_iload_n (pc := 138) 1 dX12_copy_138 rfl rfl ?_
                          obtain ⟨hv75, h⟩ := h
                          refine jd_iald (pc := 139) (len := 8) (zModel_a2 ht) hv75 dX12_copy_139 ?_
                          refine jd_icmp_gt (pc := 140) 181 dX12_copy_140 (by decide) (fun hc => ?_) (fun hc => ?_)
                          · have h := h.1 hc
                            refine jd_aload_n (pc := 181) 0 dX12_copy_181 rfl rfl ?_
                            refine jd_bipush (pc := 182) (v := (-2)) dX12_copy_182 (by decide) ?_
                            refine jd_callVi (pc := 184) (M2 := mX12_refuse) (id := t) (ci := 11) (T := TX12) (N := 45) (av := [.int (-2)]) kX12_refuse sX12_refuse rfl ht.1 lX12_102 rfl rfl (Nat.le_of_ble_eq_true rfl) dX12_copy_184 h ?_
                            intro v77 I76 J76 h
                            exact jd_iretK (pc := 187) rfl rfl dX12_copy_187 h
                          · have h := h.2 hc
                            refine jd_iload (pc := 143) 5 dX12_copy_143 rfl ?_
                            refine jd_aload_n (pc := 145) 0 dX12_copy_145 rfl rfl ?_
                            refine jd_getR (pc := 146) (ci := 11) (k := 2) (r := (t + 3)) gX12_16 ht.1 rfl (zModel_p2 ht) dX12_copy_146 ?_
                            refine jd_iload_n (pc := 149) 2 dX12_copy_149 rfl rfl ?_
                            obtain ⟨hv78, h⟩ := h
                            refine jd_iald (pc := 150) (len := 8) (zModel_a2 ht) hv78 dX12_copy_150 ?_
                            refine jd_icmp_gt (pc := 151) 181 dX12_copy_151 (by decide) (fun hc => ?_) (fun hc => ?_)
                            · have h := h.1 hc
                              refine jd_aload_n (pc := 181) 0 dX12_copy_181 rfl rfl ?_
                              refine jd_bipush (pc := 182) (v := (-2)) dX12_copy_182 (by decide) ?_
                              refine jd_callVi (pc := 184) (M2 := mX12_refuse) (id := t) (ci := 11) (T := TX12) (N := 45) (av := [.int (-2)]) kX12_refuse sX12_refuse rfl ht.1 lX12_102 rfl rfl (Nat.le_of_ble_eq_true rfl) dX12_copy_184 h ?_
                              intro v80 I79 J79 h
                              exact jd_iretK (pc := 187) rfl rfl dX12_copy_187 h
                            · have h := h.2 hc
                              refine jd_iload_n (pc := 154) 3 dX12_copy_154 rfl rfl ?_
                              refine jd_aload_n (pc := 155) 0 dX12_copy_155 rfl rfl ?_
                              refine jd_getR (pc := 156) (ci := 11) (k := 2) (r := (t + 3)) gX12_16 ht.1 rfl (zModel_p2 ht) dX12_copy_156 ?_
                              refine jd_iload_n (pc := 159) 1 dX12_copy_159 rfl rfl ?_
                              obtain ⟨hv81, h⟩ := h
                              refine jd_iald (pc := 160) (len := 8) (zModel_a2 ht) hv81 dX12_copy_160 ?_
                              refine jd_iload (pc := 161) 5 dX12_copy_161 rfl ?_
                              refine jd_isub (pc := 163) dX12_copy_163 ?_
                              refine jd_icmp_gt (pc := 164) 181 dX12_copy_164 (by decide) (fun hc => ?_) (fun hc => ?_)
                              · have h := h.1 hc
                                refine jd_aload_n (pc := 181) 0 dX12_copy_181 rfl rfl ?_
                                refine jd_bipush (pc := 182) (v := (-2)) dX12_copy_182 (by decide) ?_
                                refine jd_callVi (pc := 184) (M2 := mX12_refuse) (id := t) (ci := 11) (T := TX12) (N := 45) (av := [.int (-2)]) kX12_refuse sX12_refuse rfl ht.1 lX12_102 rfl rfl (Nat.le_of_ble_eq_true rfl) dX12_copy_184 h ?_
                                intro v83 I82 J82 h
                                exact jd_iretK (pc := 187) rfl rfl dX12_copy_187 h
                              · have h := h.2 hc
                                refine jd_iload (pc := 167) 4 dX12_copy_167 rfl ?_
                                refine jd_aload_n (pc := 169) 0 dX12_copy_169 rfl rfl ?_
                                refine jd_getR (pc := 170) (ci := 11) (k := 2) (r := (t + 3)) gX12_16 ht.1 rfl (zModel_p2 ht) dX12_copy_170 ?_
                                refine jd_iload_n (pc := 173) 2 dX12_copy_173 rfl rfl ?_
                                obtain ⟨hv84, h⟩ := h
                                refine jd_iald (pc := 174) (len := 8) (zModel_a2 ht) hv84 dX12_copy_174 ?_
                                refine jd_iload (pc := 175) 5 dX12_copy_175 rfl ?_
                                refine jd_isub (pc := 177) dX12_copy_177 ?_
                                refine jd_icmp_le (pc := 178) 188 dX12_copy_178 (by decide) (fun hc => ?_) (fun hc => ?_)
                                · have h := h.1 hc
                                  refine jd_iconst (pc := 188) (v := 0) dX12_copy_188 (by decide) ?_
                                  refine jd_istore (pc := 189) [(6, .int 0), (0, .ref (gb G + t)), (1, .int x1), (2, .int x2), (3, .int x3), (4, .int x4), (5, .int x5)] dX12_copy_189 (by decide) rfl ?_
                                  exact jd_lv (lv2 := [(0, .ref (gb G + t)), (1, .int x1), (2, .int x2), (3, .int x3), (4, .int x4), (5, .int x5), (6, .int 0)]) [1, 2, 3, 4, 5, 6, 0] rfl h
                                · have h := h.2 hc
                                  refine jd_aload_n (pc := 181) 0 dX12_copy_181 rfl rfl ?_
                                  refine jd_bipush (pc := 182) (v := (-2)) dX12_copy_182 (by decide) ?_
                                  refine jd_callVi (pc := 184) (M2 := mX12_refuse) (id := t) (ci := 11) (T := TX12) (N := 45) (av := [.int (-2)]) kX12_refuse sX12_refuse rfl ht.1 lX12_102 rfl rfl (Nat.le_of_ble_eq_true rfl) dX12_copy_184 h ?_
                                  intro v86 I85 J85 h
                                  exact jd_iretK (pc := 187) rfl rfl dX12_copy_187 h
                  · have h := h.2 hc
                    refine jd_aload_n (pc := 111) 0 dX12_copy_111 rfl rfl ?_
                    refine jd_bipush (pc := 112) (v := (-4)) dX12_copy_112 (by decide) ?_
                    refine jd_callVi (pc := 114) (M2 := mX12_refuse) (id := t) (ci := 11) (T := TX12) (N := 45) (av := [.int (-4)]) kX12_refuse sX12_refuse rfl ht.1 lX12_102 rfl rfl (Nat.le_of_ble_eq_true rfl) dX12_copy_114 h ?_
                    intro v88 I87 J87 h
                    exact jd_iretK (pc := 117) rfl rfl dX12_copy_117 h
              · have h := h.2 hc
                refine jd_aload_n (pc := 86) 0 dX12_copy_86 rfl rfl ?_
                refine jd_bipush (pc := 87) (v := (-3)) dX12_copy_87 (by decide) ?_
                refine jd_callVi (pc := 89) (M2 := mX12_refuse) (id := t) (ci := 11) (T := TX12) (N := 45) (av := [.int (-3)]) kX12_refuse sX12_refuse rfl ht.1 lX12_102 rfl rfl (Nat.le_of_ble_eq_true rfl) dX12_copy_89 h ?_
                intro v90 I89 J89 h
                exact jd_iretK (pc := 92) rfl rfl dX12_copy_92 h
    · have h := h.2 hc
      refine jd_aload_n (pc := 24) 0 dX12_copy_24 rfl rfl ?_
      refine jd_bipush (pc := 25) (v := (-2)) dX12_copy_25 (by decide) ?_
      refine jd_callVi (pc := 27) (M2 := mX12_refuse) (id := t) (ci := 11) (T := TX12) (N := 45) (av := [.int (-2)]) kX12_refuse sX12_refuse rfl ht.1 lX12_102 rfl rfl (Nat.le_of_ble_eq_true rfl) dX12_copy_27 h ?_
      intro v92 I91 J91 h
      exact jd_iretK (pc := 30) rfl rfl dX12_copy_30 h
set_option maxRecDepth 4000 in
theorem rX12_copy_191 {G : jdG} {n rc rs : Nat} {Z : jdL} {I : jdI} {J : jdJ} {K : Int32 → jdI → jdJ → Prop} {t : Nat} {x1 : Int32} {x2 : Int32} {x3 : Int32} {x4 : Int32} {x5 : Int32} {x6 : Int32} (ht : zModel Z t) (h : ((x5 ≤ x6 → Jd G mX12_copy (jdFm G (qi Z K)) (n + 1) rc rs 225 [(0, .ref (gb G + t)), (1, .int x1), (2, .int x2), (3, .int x3), (4, .int x4), (5, .int x5), (6, .int 0)] [] Z I J) ∧ (¬ x5 ≤ x6 → (vp_in x1 8 ∧ (vp_in (x3 + x6) 40 ∧ (vp_in x6 40 ∧ Jd G mX12_copy (jdFm G (qi Z K)) (n + 1) rc rs 191 [(0, .ref (gb G + t)), (1, .int x1), (2, .int x2), (3, .int x3), (4, .int x4), (5, .int x5), (6, .int (x6 + 1))] [] Z I (uJ J (t + 13) (Int32.toNatClampNeg x6) (J (t + 5 + (Int32.toNatClampNeg x1)) (Int32.toNatClampNeg (x3 + x6)))))))))) : Jd G mX12_copy (jdFm G (qi Z K)) (n + 1) rc rs 191 [(0, .ref (gb G + t)), (1, .int x1), (2, .int x2), (3, .int x3), (4, .int x4), (5, .int x5), (6, .int x6)] [] Z I J := by
  refine jd_iload (pc := 191) 6 dX12_copy_191 rfl ?_
  refine jd_iload (pc := 193) 5 dX12_copy_193 rfl ?_
  refine jd_icmp_ge (pc := 195) 222 dX12_copy_195 (by decide) (fun hc => ?_) (fun hc => ?_)
  · have h := h.1 hc
    refine jd_iconst (pc := 222) (v := 0) dX12_copy_222 (by decide) ?_
    refine jd_istore (pc := 223) [(6, .int 0), (0, .ref (gb G + t)), (1, .int x1), (2, .int x2), (3, .int x3), (4, .int x4), (5, .int x5)] dX12_copy_223 (by decide) rfl ?_
    exact jd_lv (lv2 := [(0, .ref (gb G + t)), (1, .int x1), (2, .int x2), (3, .int x3), (4, .int x4), (5, .int x5), (6, .int 0)]) [1, 2, 3, 4, 5, 6, 0] rfl h
  · have h := h.2 hc
    refine jd_aload_n (pc := 198) 0 dX12_copy_198 rfl rfl ?_
    refine jd_getR (pc := 199) (ci := 11) (k := 4) (r := (t + 13)) gX12_24 ht.1 rfl (zModel_p4 ht) dX12_copy_199 ?_
    refine jd_iload (pc := 202) 6 dX12_copy_202 rfl ?_
    refine jd_aload_n (pc := 204) 0 dX12_copy_204 rfl rfl ?_
    refine jd_getR (pc := 205) (ci := 11) (k := 3) (r := (t + 4)) gX12_21 ht.1 rfl (zModel_p3 ht) dX12_copy_205 ?_
    refine jd_iload_n (pc := 208) 1 dX12_copy_208 rfl rfl ?_
    obtain ⟨hv1, h⟩ := h
    refine jd_aald (pc := 209) (len := 8) (k := 3) (zModel_a3 ht) (by decide) hv1 (zModel_rows ht (vp_lt hv1)) dX12_copy_209 ?_
    refine jd_iload_n (pc := 210) 3 dX12_copy_210 rfl rfl ?_
    refine jd_iload (pc := 211) 6 dX12_copy_211 rfl ?_
    refine jd_iadd (pc := 213) dX12_copy_213 ?_
    obtain ⟨hv2, h⟩ := h
    refine jd_lald (pc := 214) (len := 40) (zModel_rowsA ht (vp_lt hv1)) hv2 dX12_copy_214 ?_
    obtain ⟨hv3, h⟩ := h
    refine jd_last (pc := 215) (len := 40) (zModel_a4 ht) hv3 dX12_copy_215 ?_
    refine jd_iinc (pc := 216) (v := (x6 + 1)) 6 [(6, .int (x6 + 1)), (0, .ref (gb G + t)), (1, .int x1), (2, .int x2), (3, .int x3), (4, .int x4), (5, .int x5)] dX12_copy_216 rfl rfl (by decide) rfl ?_
    refine jd_goto (pc := 219) 191 dX12_copy_219 (by decide) ?_
    exact jd_lv (lv2 := [(0, .ref (gb G + t)), (1, .int x1), (2, .int x2), (3, .int x3), (4, .int x4), (5, .int x5), (6, .int (x6 + 1))]) [1, 2, 3, 4, 5, 6, 0] rfl h
set_option maxRecDepth 4000 in
theorem rX12_copy_225 {G : jdG} {n rc rs : Nat} {Z : jdL} {I : jdI} {J : jdJ} {K : Int32 → jdI → jdJ → Prop} {t : Nat} {x1 : Int32} {x2 : Int32} {x3 : Int32} {x4 : Int32} {x5 : Int32} {x6 : Int32} (ht : zModel Z t) (h : ((x5 ≤ x6 → K x5 I J) ∧ (¬ x5 ≤ x6 → (vp_in x2 8 ∧ (vp_in x6 40 ∧ (vp_in (x4 + x6) 40 ∧ Jd G mX12_copy (jdFm G (qi Z K)) (n + 1) rc rs 225 [(0, .ref (gb G + t)), (1, .int x1), (2, .int x2), (3, .int x3), (4, .int x4), (5, .int x5), (6, .int (x6 + 1))] [] Z I (uJ J (t + 5 + (Int32.toNatClampNeg x2)) (Int32.toNatClampNeg (x4 + x6)) (J (t + 13) (Int32.toNatClampNeg x6))))))))) : Jd G mX12_copy (jdFm G (qi Z K)) (n + 1) rc rs 225 [(0, .ref (gb G + t)), (1, .int x1), (2, .int x2), (3, .int x3), (4, .int x4), (5, .int x5), (6, .int x6)] [] Z I J := by
  refine jd_iload (pc := 225) 6 dX12_copy_225 rfl ?_
  refine jd_iload (pc := 227) 5 dX12_copy_227 rfl ?_
  refine jd_icmp_ge (pc := 229) 257 dX12_copy_229 (by decide) (fun hc => ?_) (fun hc => ?_)
  · have h := h.1 hc
    refine jd_iload (pc := 257) 5 dX12_copy_257 rfl ?_
    exact jd_iretK (pc := 259) rfl rfl dX12_copy_259 h
  · have h := h.2 hc
    refine jd_aload_n (pc := 232) 0 dX12_copy_232 rfl rfl ?_
    refine jd_getR (pc := 233) (ci := 11) (k := 3) (r := (t + 4)) gX12_21 ht.1 rfl (zModel_p3 ht) dX12_copy_233 ?_
    refine jd_iload_n (pc := 236) 2 dX12_copy_236 rfl rfl ?_
    obtain ⟨hv1, h⟩ := h
    refine jd_aald (pc := 237) (len := 8) (k := 3) (zModel_a3 ht) (by decide) hv1 (zModel_rows ht (vp_lt hv1)) dX12_copy_237 ?_
    refine jd_iload (pc := 238) 4 dX12_copy_238 rfl ?_
    refine jd_iload (pc := 240) 6 dX12_copy_240 rfl ?_
    refine jd_iadd (pc := 242) dX12_copy_242 ?_
    refine jd_aload_n (pc := 243) 0 dX12_copy_243 rfl rfl ?_
    refine jd_getR (pc := 244) (ci := 11) (k := 4) (r := (t + 13)) gX12_24 ht.1 rfl (zModel_p4 ht) dX12_copy_244 ?_
    refine jd_iload (pc := 247) 6 dX12_copy_247 rfl ?_
    obtain ⟨hv2, h⟩ := h
    refine jd_lald (pc := 249) (len := 40) (zModel_a4 ht) hv2 dX12_copy_249 ?_
    obtain ⟨hv3, h⟩ := h
    refine jd_last (pc := 250) (len := 40) (zModel_rowsA ht (vp_lt hv1)) hv3 dX12_copy_250 ?_
    refine jd_iinc (pc := 251) (v := (x6 + 1)) 6 [(6, .int (x6 + 1)), (0, .ref (gb G + t)), (1, .int x1), (2, .int x2), (3, .int x3), (4, .int x4), (5, .int x5)] dX12_copy_251 rfl rfl (by decide) rfl ?_
    refine jd_goto (pc := 254) 225 dX12_copy_254 (by decide) ?_
    exact jd_lv (lv2 := [(0, .ref (gb G + t)), (1, .int x1), (2, .int x2), (3, .int x3), (4, .int x4), (5, .int x5), (6, .int (x6 + 1))]) [1, 2, 3, 4, 5, 6, 0] rfl h
theorem eX12_copy {G : jdG} {n : Nat} {Z : jdL} {I : jdI} {J : jdJ} {K : Int32 → jdI → jdJ → Prop} {t : Nat} {x1 : Int32} {x2 : Int32} {x3 : Int32} {x4 : Int32} {x5 : Int32} (ht : zModel Z t) (h : Cl G mX12_in n 0 0 [.long (Int32.toInt64 x1), .long 0, .long 7] Z I J (qi Z (fun v2 I1 J1 => ((v2 = 0 → Cl G mX12_refuse n 0 0 [.ref (gb G + t), .int (-2)] Z I1 J1 (qi Z (fun v4 I3 J3 => K v4 I3 J3))) ∧ (¬ v2 = 0 → Cl G mX12_in n 0 0 [.long (Int32.toInt64 x2), .long 0, .long 7] Z I1 J1 (qi Z (fun v6 I5 J5 => ((¬ v6 = 0 → (vp_in x1 8 ∧ (((I5 (t + 1) (Int32.toNatClampNeg x1)) = 2 → Cl G mX12_refuse n 0 0 [.ref (gb G + t), .int (-3)] Z I5 J5 (qi Z (fun v9 I8 J8 => K v9 I8 J8))) ∧ (¬ (I5 (t + 1) (Int32.toNatClampNeg x1)) = 2 → (vp_in x2 8 ∧ (((I5 (t + 1) (Int32.toNatClampNeg x2)) = 2 → Cl G mX12_refuse n 0 0 [.ref (gb G + t), .int (-3)] Z I5 J5 (qi Z (fun v12 I11 J11 => K v12 I11 J11))) ∧ (¬ (I5 (t + 1) (Int32.toNatClampNeg x2)) = 2 → (vp_in x1 8 ∧ ((¬ (I5 (t + 1) (Int32.toNatClampNeg x1)) = 1 → (vp_in x1 8 ∧ (((I5 (t + 1) (Int32.toNatClampNeg x1)) = 0 → Cl G mX12_refuse n 0 0 [.ref (gb G + t), .int (-4)] Z I5 J5 (qi Z (fun v16 I15 J15 => K v16 I15 J15))) ∧ (¬ (I5 (t + 1) (Int32.toNatClampNeg x1)) = 0 → (vp_in x2 8 ∧ ((¬ (I5 (t + 1) (Int32.toNatClampNeg x2)) = 0 → ((x5 < 0 → Cl G mX12_refuse n 0 0 [.ref (gb G + t), .int (-2)] Z I5 J5 (qi Z (fun v19 I18 J18 => K v19 I18 J18))) ∧ (¬ x5 < 0 → ((x3 < 0 → Cl G mX12_refuse n 0 0 [.ref (gb G + t), .int (-2)] Z I5 J5 (qi Z (fun v21 I20 J20 => K v21 I20 J20))) ∧ (¬ x3 < 0 → ((x4 < 0 → Cl G mX12_refuse n 0 0 [.ref (gb G + t), .int (-2)] Z I5 J5 (qi Z (fun v23 I22 J22 => K v23 I22 J22))) ∧ (¬ x4 < 0 → (vp_in x1 8 ∧ (((I5 (t + 3) (Int32.toNatClampNeg x1)) < x5 → Cl G mX12_refuse n 0 0 [.ref (gb G + t), .int (-2)] Z I5 J5 (qi Z (fun v26 I25 J25 => K v26 I25 J25))) ∧ (¬ (I5 (t + 3) (Int32.toNatClampNeg x1)) < x5 → (vp_in x2 8 ∧ (((I5 (t + 3) (Int32.toNatClampNeg x2)) < x5 → Cl G mX12_refuse n 0 0 [.ref (gb G + t), .int (-2)] Z I5 J5 (qi Z (fun v29 I28 J28 => K v29 I28 J28))) ∧ (¬ (I5 (t + 3) (Int32.toNatClampNeg x2)) < x5 → (vp_in x1 8 ∧ ((((I5 (t + 3) (Int32.toNatClampNeg x1)) - x5) < x3 → Cl G mX12_refuse n 0 0 [.ref (gb G + t), .int (-2)] Z I5 J5 (qi Z (fun v32 I31 J31 => K v32 I31 J31))) ∧ (¬ ((I5 (t + 3) (Int32.toNatClampNeg x1)) - x5) < x3 → (vp_in x2 8 ∧ ((x4 ≤ ((I5 (t + 3) (Int32.toNatClampNeg x2)) - x5) → Jd G mX12_copy (jdFm G (qi Z K)) (n + 1) 0 0 191 [(0, .ref (gb G + t)), (1, .int x1), (2, .int x2), (3, .int x3), (4, .int x4), (5, .int x5), (6, .int 0)] [] Z I5 J5) ∧ (¬ x4 ≤ ((I5 (t + 3) (Int32.toNatClampNeg x2)) - x5) → Cl G mX12_refuse n 0 0 [.ref (gb G + t), .int (-2)] Z I5 J5 (qi Z (fun v35 I34 J34 => K v35 I34 J34))))))))))))))))))))) ∧ ((I5 (t + 1) (Int32.toNatClampNeg x2)) = 0 → Cl G mX12_refuse n 0 0 [.ref (gb G + t), .int (-4)] Z I5 J5 (qi Z (fun v37 I36 J36 => K v37 I36 J36))))))))) ∧ ((I5 (t + 1) (Int32.toNatClampNeg x1)) = 1 → (vp_in x2 8 ∧ ((¬ (I5 (t + 1) (Int32.toNatClampNeg x2)) = 1 → (vp_in x1 8 ∧ (((I5 (t + 1) (Int32.toNatClampNeg x1)) = 0 → Cl G mX12_refuse n 0 0 [.ref (gb G + t), .int (-4)] Z I5 J5 (qi Z (fun v41 I40 J40 => K v41 I40 J40))) ∧ (¬ (I5 (t + 1) (Int32.toNatClampNeg x1)) = 0 → (vp_in x2 8 ∧ ((¬ (I5 (t + 1) (Int32.toNatClampNeg x2)) = 0 → ((x5 < 0 → Cl G mX12_refuse n 0 0 [.ref (gb G + t), .int (-2)] Z I5 J5 (qi Z (fun v44 I43 J43 => K v44 I43 J43))) ∧ (¬ x5 < 0 → ((x3 < 0 → Cl G mX12_refuse n 0 0 [.ref (gb G + t), .int (-2)] Z I5 J5 (qi Z (fun v46 I45 J45 => K v46 I45 J45))) ∧ (¬ x3 < 0 → ((x4 < 0 → Cl G mX12_refuse n 0 0 [.ref (gb G + t), .int (-2)] Z I5 J5 (qi Z (fun v48 I47 J47 => K v48 I47 J47))) ∧ (¬ x4 < 0 → (vp_in x1 8 ∧ (((I5 (t + 3) (Int32.toNatClampNeg x1)) < x5 → Cl G mX12_refuse n 0 0 [.ref (gb G + t), .int (-2)] Z I5 J5 (qi Z (fun v51 I50 J50 => K v51 I50 J50))) ∧ (¬ (I5 (t + 3) (Int32.toNatClampNeg x1)) < x5 → (vp_in x2 8 ∧ (((I5 (t + 3) (Int32.toNatClampNeg x2)) < x5 → Cl G mX12_refuse n 0 0 [.ref (gb G + t), .int (-2)] Z I5 J5 (qi Z (fun v54 I53 J53 => K v54 I53 J53))) ∧ (¬ (I5 (t + 3) (Int32.toNatClampNeg x2)) < x5 → (vp_in x1 8 ∧ ((((I5 (t + 3) (Int32.toNatClampNeg x1)) - x5) < x3 → Cl G mX12_refuse n 0 0 [.ref (gb G + t), .int (-2)] Z I5 J5 (qi Z (fun v57 I56 J56 => K v57 I56 J56))) ∧ (¬ ((I5 (t + 3) (Int32.toNatClampNeg x1)) - x5) < x3 → (vp_in x2 8 ∧ ((x4 ≤ ((I5 (t + 3) (Int32.toNatClampNeg x2)) - x5) → Jd G mX12_copy (jdFm G (qi Z K)) (n + 1) 0 0 191 [(0, .ref (gb G + t)), (1, .int x1), (2, .int x2), (3, .int x3), (4, .int x4), (5, .int x5), (6, .int 0)] [] Z I5 J5) ∧ (¬ x4 ≤ ((I5 (t + 3) (Int32.toNatClampNeg x2)) - x5) → Cl G mX12_refuse n 0 0 [.ref (gb G + t), .int (-2)] Z I5 J5 (qi Z (fun v60 I59 J59 => K v60 I59 J59))))))))))))))))))))) ∧ ((I5 (t + 1) (Int32.toNatClampNeg x2)) = 0 → Cl G mX12_refuse n 0 0 [.ref (gb G + t), .int (-4)] Z I5 J5 (qi Z (fun v62 I61 J61 => K v62 I61 J61))))))))) ∧ ((I5 (t + 1) (Int32.toNatClampNeg x2)) = 1 → (vp_in x1 8 ∧ (vp_in x2 8 ∧ (((I5 (t + 2) (Int32.toNatClampNeg x1)) = (I5 (t + 2) (Int32.toNatClampNeg x2)) → (vp_in x1 8 ∧ (((I5 (t + 1) (Int32.toNatClampNeg x1)) = 0 → Cl G mX12_refuse n 0 0 [.ref (gb G + t), .int (-4)] Z I5 J5 (qi Z (fun v67 I66 J66 => K v67 I66 J66))) ∧ (¬ (I5 (t + 1) (Int32.toNatClampNeg x1)) = 0 → (vp_in x2 8 ∧ ((¬ (I5 (t + 1) (Int32.toNatClampNeg x2)) = 0 → ((x5 < 0 → Cl G mX12_refuse n 0 0 [.ref (gb G + t), .int (-2)] Z I5 J5 (qi Z (fun v70 I69 J69 => K v70 I69 J69))) ∧ (¬ x5 < 0 → ((x3 < 0 → Cl G mX12_refuse n 0 0 [.ref (gb G + t), .int (-2)] Z I5 J5 (qi Z (fun v72 I71 J71 => K v72 I71 J71))) ∧ (¬ x3 < 0 → ((x4 < 0 → Cl G mX12_refuse n 0 0 [.ref (gb G + t), .int (-2)] Z I5 J5 (qi Z (fun v74 I73 J73 => K v74 I73 J73))) ∧ (¬ x4 < 0 → (vp_in x1 8 ∧ (((I5 (t + 3) (Int32.toNatClampNeg x1)) < x5 → Cl G mX12_refuse n 0 0 [.ref (gb G + t), .int (-2)] Z I5 J5 (qi Z (fun v77 I76 J76 => K v77 I76 J76))) ∧ (¬ (I5 (t + 3) (Int32.toNatClampNeg x1)) < x5 → (vp_in x2 8 ∧ (((I5 (t + 3) (Int32.toNatClampNeg x2)) < x5 → Cl G mX12_refuse n 0 0 [.ref (gb G + t), .int (-2)] Z I5 J5 (qi Z (fun v80 I79 J79 => K v80 I79 J79))) ∧ (¬ (I5 (t + 3) (Int32.toNatClampNeg x2)) < x5 → (vp_in x1 8 ∧ ((((I5 (t + 3) (Int32.toNatClampNeg x1)) - x5) < x3 → Cl G mX12_refuse n 0 0 [.ref (gb G + t), .int (-2)] Z I5 J5 (qi Z (fun v83 I82 J82 => K v83 I82 J82))) ∧ (¬ ((I5 (t + 3) (Int32.toNatClampNeg x1)) - x5) < x3 → (vp_in x2 8 ∧ ((x4 ≤ ((I5 (t + 3) (Int32.toNatClampNeg x2)) - x5) → Jd G mX12_copy (jdFm G (qi Z K)) (n + 1) 0 0 191 [(0, .ref (gb G + t)), (1, .int x1), (2, .int x2), (3, .int x3), (4, .int x4), (5, .int x5), (6, .int 0)] [] Z I5 J5) ∧ (¬ x4 ≤ ((I5 (t + 3) (Int32.toNatClampNeg x2)) - x5) → Cl G mX12_refuse n 0 0 [.ref (gb G + t), .int (-2)] Z I5 J5 (qi Z (fun v86 I85 J85 => K v86 I85 J85))))))))))))))))))))) ∧ ((I5 (t + 1) (Int32.toNatClampNeg x2)) = 0 → Cl G mX12_refuse n 0 0 [.ref (gb G + t), .int (-4)] Z I5 J5 (qi Z (fun v88 I87 J87 => K v88 I87 J87))))))))) ∧ (¬ (I5 (t + 2) (Int32.toNatClampNeg x1)) = (I5 (t + 2) (Int32.toNatClampNeg x2)) → Cl G mX12_refuse n 0 0 [.ref (gb G + t), .int (-3)] Z I5 J5 (qi Z (fun v90 I89 J89 => K v90 I89 J89))))))))))))))))))) ∧ (v6 = 0 → Cl G mX12_refuse n 0 0 [.ref (gb G + t), .int (-2)] Z I5 J5 (qi Z (fun v92 I91 J91 => K v92 I91 J91))))))))))) : Cl G mX12_copy (n + 1) 0 0 [.ref (gb G + t), .int x1, .int x2, .int x3, .int x4, .int x5] Z I J (qi Z K) :=
  Cl.of (by decide +kernel) (Nat.le_of_ble_eq_true rfl) (rX12_copy_0 ht h)
set_option maxRecDepth 4000 in
theorem rX12_element_0 {G : jdG} {n rc rs : Nat} {Z : jdL} {I : jdI} {J : jdJ} {K : Int64 → jdI → jdJ → Prop} {t : Nat} {x1 : Int32} {x2 : Int32} (ht : zModel Z t) (h : Cl G mX12_in n 0 0 [.long (Int32.toInt64 x1), .long 0, .long 7] Z I J (qi Z (fun v2 I1 J1 => ((v2 = 0 → K 0 I1 J1) ∧ (¬ v2 = 0 → (vp_in x1 8 ∧ ((¬ (I1 (t + 1) (Int32.toNatClampNeg x1)) = 1 → K 0 I1 J1) ∧ ((I1 (t + 1) (Int32.toNatClampNeg x1)) = 1 → (vp_in x1 8 ∧ Cl G mX12_in n 0 0 [.long (Int32.toInt64 x2), .long 0, .long (Int32.toInt64 ((I1 (t + 3) (Int32.toNatClampNeg x1)) - 1))] Z I1 J1 (qi Z (fun v6 I5 J5 => ((v6 = 0 → K 0 I5 J5) ∧ (¬ v6 = 0 → (vp_in x1 8 ∧ (vp_in x2 40 ∧ K (J5 (t + 5 + (Int32.toNatClampNeg x1)) (Int32.toNatClampNeg x2)) I5 J5))))))))))))))) : Jd G mX12_element (jdFm G (ql Z K)) (n + 1) rc rs 0 [(0, .ref (gb G + t)), (1, .int x1), (2, .int x2)] [] Z I J := by
  refine jd_iload_n (pc := 0) 1 dX12_element_0 rfl rfl ?_
  refine jd_i2l (pc := 1) dX12_element_1 ?_
  refine jd_lconst (pc := 2) (v := 0) dX12_element_2 (by decide) ?_
  refine jd_ldc2 (pc := 3) (v := 7) qX12_96 dX12_element_3 ?_
  refine jd_callSi (pc := 6) (M2 := mX12_in) (av := [.long (Int32.toInt64 x1), .long 0, .long 7]) kX12_in sX12_in lX12_88 rfl rfl (Nat.le_of_ble_eq_true rfl) dX12_element_6 h ?_
  intro v2 I1 J1 h
  refine jd_if_eq (pc := 9) 51 dX12_element_9 (by decide) (fun hc => ?_) (fun hc => ?_)
  · have h := h.1 hc
    refine jd_lconst (pc := 51) (v := 0) dX12_element_51 (by decide) ?_
    exact jd_lretK (pc := 52) rfl dX12_element_52 h
  · have h := h.2 hc
    refine jd_aload_n (pc := 12) 0 dX12_element_12 rfl rfl ?_
    refine jd_getR (pc := 13) (ci := 11) (k := 0) (r := (t + 1)) gX12_7 ht.1 rfl (zModel_p0 ht) dX12_element_13 ?_
    refine jd_iload_n (pc := 16) 1 dX12_element_16 rfl rfl ?_
    obtain ⟨hv3, h⟩ := h
    refine jd_iald (pc := 17) (len := 8) (zModel_a0 ht) hv3 dX12_element_17 ?_
    refine jd_iconst (pc := 18) (v := 1) dX12_element_18 (by decide) ?_
    refine jd_icmp_ne (pc := 19) 51 dX12_element_19 (by decide) (fun hc => ?_) (fun hc => ?_)
    · have h := h.1 hc
      refine jd_lconst (pc := 51) (v := 0) dX12_element_51 (by decide) ?_
      exact jd_lretK (pc := 52) rfl dX12_element_52 h
    · have h := h.2 hc
      refine jd_iload_n (pc := 22) 2 dX12_element_22 rfl rfl ?_
      refine jd_i2l (pc := 23) dX12_element_23 ?_
      refine jd_lconst (pc := 24) (v := 0) dX12_element_24 (by decide) ?_
      refine jd_aload_n (pc := 25) 0 dX12_element_25 rfl rfl ?_
      refine jd_getR (pc := 26) (ci := 11) (k := 2) (r := (t + 3)) gX12_16 ht.1 rfl (zModel_p2 ht) dX12_element_26 ?_
      refine jd_iload_n (pc := 29) 1 dX12_element_29 rfl rfl ?_
      obtain ⟨hv4, h⟩ := h
      refine jd_iald (pc := 30) (len := 8) (zModel_a2 ht) hv4 dX12_element_30 ?_
      refine jd_iconst (pc := 31) (v := 1) dX12_element_31 (by decide) ?_
      refine jd_isub (pc := 32) dX12_element_32 ?_
      refine jd_i2l (pc := 33) dX12_element_33 ?_
      refine jd_callSi (pc := 34) (M2 := mX12_in) (av := [.long (Int32.toInt64 x2), .long 0, .long (Int32.toInt64 ((I1 (t + 3) (Int32.toNatClampNeg x1)) - 1))]) kX12_in sX12_in lX12_88 rfl rfl (Nat.le_of_ble_eq_true rfl) dX12_element_34 h ?_
      intro v6 I5 J5 h
      refine jd_if_eq (pc := 37) 51 dX12_element_37 (by decide) (fun hc => ?_) (fun hc => ?_)
      · have h := h.1 hc
        refine jd_lconst (pc := 51) (v := 0) dX12_element_51 (by decide) ?_
        exact jd_lretK (pc := 52) rfl dX12_element_52 h
      · have h := h.2 hc
        refine jd_aload_n (pc := 40) 0 dX12_element_40 rfl rfl ?_
        refine jd_getR (pc := 41) (ci := 11) (k := 3) (r := (t + 4)) gX12_21 ht.1 rfl (zModel_p3 ht) dX12_element_41 ?_
        refine jd_iload_n (pc := 44) 1 dX12_element_44 rfl rfl ?_
        obtain ⟨hv7, h⟩ := h
        refine jd_aald (pc := 45) (len := 8) (k := 3) (zModel_a3 ht) (by decide) hv7 (zModel_rows ht (vp_lt hv7)) dX12_element_45 ?_
        refine jd_iload_n (pc := 46) 2 dX12_element_46 rfl rfl ?_
        obtain ⟨hv8, h⟩ := h
        refine jd_lald (pc := 47) (len := 40) (zModel_rowsA ht (vp_lt hv7)) hv8 dX12_element_47 ?_
        refine jd_goto (pc := 48) 52 dX12_element_48 (by decide) ?_
        exact jd_lretK (pc := 52) rfl dX12_element_52 h
theorem eX12_element {G : jdG} {n : Nat} {Z : jdL} {I : jdI} {J : jdJ} {K : Int64 → jdI → jdJ → Prop} {t : Nat} {x1 : Int32} {x2 : Int32} (ht : zModel Z t) (h : Cl G mX12_in n 0 0 [.long (Int32.toInt64 x1), .long 0, .long 7] Z I J (qi Z (fun v2 I1 J1 => ((v2 = 0 → K 0 I1 J1) ∧ (¬ v2 = 0 → (vp_in x1 8 ∧ ((¬ (I1 (t + 1) (Int32.toNatClampNeg x1)) = 1 → K 0 I1 J1) ∧ ((I1 (t + 1) (Int32.toNatClampNeg x1)) = 1 → (vp_in x1 8 ∧ Cl G mX12_in n 0 0 [.long (Int32.toInt64 x2), .long 0, .long (Int32.toInt64 ((I1 (t + 3) (Int32.toNatClampNeg x1)) - 1))] Z I1 J1 (qi Z (fun v6 I5 J5 => ((v6 = 0 → K 0 I5 J5) ∧ (¬ v6 = 0 → (vp_in x1 8 ∧ (vp_in x2 40 ∧ K (J5 (t + 5 + (Int32.toNatClampNeg x1)) (Int32.toNatClampNeg x2)) I5 J5))))))))))))))) : Cl G mX12_element (n + 1) 0 0 [.ref (gb G + t), .int x1, .int x2] Z I J (ql Z K) :=
  Cl.of (by decide +kernel) (Nat.le_of_ble_eq_true rfl) (rX12_element_0 ht h)
set_option maxRecDepth 4000 in
theorem rX12_holds_0 {G : jdG} {n rc rs : Nat} {Z : jdL} {I : jdI} {J : jdJ} {K : Int32 → jdI → jdJ → Prop} {t : Nat} {x1 : Int32} (ht : zModel Z t) (h : Cl G mX12_in n 0 0 [.long (Int32.toInt64 x1), .long 0, .long 7] Z I J (qi Z (fun v2 I1 J1 => ((v2 = 0 → K (-1) I1 J1) ∧ (¬ v2 = 0 → (vp_in x1 8 ∧ ((¬ (I1 (t + 1) (Int32.toNatClampNeg x1)) = 0 → (vp_in x1 8 ∧ ((¬ (I1 (t + 1) (Int32.toNatClampNeg x1)) = 1 → (vp_in x1 8 ∧ K (10 + (I1 (t + 14) (Int32.toNatClampNeg x1))) I1 J1)) ∧ ((I1 (t + 1) (Int32.toNatClampNeg x1)) = 1 → (vp_in x1 8 ∧ K (I1 (t + 2) (Int32.toNatClampNeg x1)) I1 J1))))) ∧ ((I1 (t + 1) (Int32.toNatClampNeg x1)) = 0 → K (-1) I1 J1)))))))) : Jd G mX12_holds (jdFm G (qi Z K)) (n + 1) rc rs 0 [(0, .ref (gb G + t)), (1, .int x1)] [] Z I J := by
  refine jd_iload_n (pc := 0) 1 dX12_holds_0 rfl rfl ?_
  refine jd_i2l (pc := 1) dX12_holds_1 ?_
  refine jd_lconst (pc := 2) (v := 0) dX12_holds_2 (by decide) ?_
  refine jd_ldc2 (pc := 3) (v := 7) qX12_96 dX12_holds_3 ?_
  refine jd_callSi (pc := 6) (M2 := mX12_in) (av := [.long (Int32.toInt64 x1), .long 0, .long 7]) kX12_in sX12_in lX12_88 rfl rfl (Nat.le_of_ble_eq_true rfl) dX12_holds_6 h ?_
  intro v2 I1 J1 h
  refine jd_if_eq (pc := 9) 21 dX12_holds_9 (by decide) (fun hc => ?_) (fun hc => ?_)
  · have h := h.1 hc
    refine jd_iconst (pc := 21) (v := (-1)) dX12_holds_21 (by decide) ?_
    exact jd_iretK (pc := 22) rfl rfl dX12_holds_22 h
  · have h := h.2 hc
    refine jd_aload_n (pc := 12) 0 dX12_holds_12 rfl rfl ?_
    refine jd_getR (pc := 13) (ci := 11) (k := 0) (r := (t + 1)) gX12_7 ht.1 rfl (zModel_p0 ht) dX12_holds_13 ?_
    refine jd_iload_n (pc := 16) 1 dX12_holds_16 rfl rfl ?_
    obtain ⟨hv3, h⟩ := h
    refine jd_iald (pc := 17) (len := 8) (zModel_a0 ht) hv3 dX12_holds_17 ?_
    refine jd_if_ne (pc := 18) 23 dX12_holds_18 (by decide) (fun hc => ?_) (fun hc => ?_)
    · have h := h.1 hc
      refine jd_aload_n (pc := 23) 0 dX12_holds_23 rfl rfl ?_
      refine jd_getR (pc := 24) (ci := 11) (k := 0) (r := (t + 1)) gX12_7 ht.1 rfl (zModel_p0 ht) dX12_holds_24 ?_
      refine jd_iload_n (pc := 27) 1 dX12_holds_27 rfl rfl ?_
      obtain ⟨hv4, h⟩ := h
      refine jd_iald (pc := 28) (len := 8) (zModel_a0 ht) hv4 dX12_holds_28 ?_
      refine jd_iconst (pc := 29) (v := 1) dX12_holds_29 (by decide) ?_
      refine jd_icmp_ne (pc := 30) 42 dX12_holds_30 (by decide) (fun hc => ?_) (fun hc => ?_)
      · have h := h.1 hc
        refine jd_bipush (pc := 42) (v := 10) dX12_holds_42 (by decide) ?_
        refine jd_aload_n (pc := 44) 0 dX12_holds_44 rfl rfl ?_
        refine jd_getR (pc := 45) (ci := 11) (k := 5) (r := (t + 14)) gX12_28 ht.1 rfl (zModel_p5 ht) dX12_holds_45 ?_
        refine jd_iload_n (pc := 48) 1 dX12_holds_48 rfl rfl ?_
        obtain ⟨hv5, h⟩ := h
        refine jd_iald (pc := 49) (len := 8) (zModel_a5 ht) hv5 dX12_holds_49 ?_
        refine jd_iadd (pc := 50) dX12_holds_50 ?_
        exact jd_iretK (pc := 51) rfl rfl dX12_holds_51 h
      · have h := h.2 hc
        refine jd_aload_n (pc := 33) 0 dX12_holds_33 rfl rfl ?_
        refine jd_getR (pc := 34) (ci := 11) (k := 1) (r := (t + 2)) gX12_13 ht.1 rfl (zModel_p1 ht) dX12_holds_34 ?_
        refine jd_iload_n (pc := 37) 1 dX12_holds_37 rfl rfl ?_
        obtain ⟨hv6, h⟩ := h
        refine jd_iald (pc := 38) (len := 8) (zModel_a1 ht) hv6 dX12_holds_38 ?_
        refine jd_goto (pc := 39) 51 dX12_holds_39 (by decide) ?_
        exact jd_iretK (pc := 51) rfl rfl dX12_holds_51 h
    · have h := h.2 hc
      refine jd_iconst (pc := 21) (v := (-1)) dX12_holds_21 (by decide) ?_
      exact jd_iretK (pc := 22) rfl rfl dX12_holds_22 h
theorem eX12_holds {G : jdG} {n : Nat} {Z : jdL} {I : jdI} {J : jdJ} {K : Int32 → jdI → jdJ → Prop} {t : Nat} {x1 : Int32} (ht : zModel Z t) (h : Cl G mX12_in n 0 0 [.long (Int32.toInt64 x1), .long 0, .long 7] Z I J (qi Z (fun v2 I1 J1 => ((v2 = 0 → K (-1) I1 J1) ∧ (¬ v2 = 0 → (vp_in x1 8 ∧ ((¬ (I1 (t + 1) (Int32.toNatClampNeg x1)) = 0 → (vp_in x1 8 ∧ ((¬ (I1 (t + 1) (Int32.toNatClampNeg x1)) = 1 → (vp_in x1 8 ∧ K (10 + (I1 (t + 14) (Int32.toNatClampNeg x1))) I1 J1)) ∧ ((I1 (t + 1) (Int32.toNatClampNeg x1)) = 1 → (vp_in x1 8 ∧ K (I1 (t + 2) (Int32.toNatClampNeg x1)) I1 J1))))) ∧ ((I1 (t + 1) (Int32.toNatClampNeg x1)) = 0 → K (-1) I1 J1)))))))) : Cl G mX12_holds (n + 1) 0 0 [.ref (gb G + t), .int x1] Z I J (qi Z K) :=
  Cl.of (by decide +kernel) (Nat.le_of_ble_eq_true rfl) (rX12_holds_0 ht h)
set_option maxRecDepth 4000 in
theorem rX12_coachman_0 {G : jdG} {n rc rs : Nat} {Z : jdL} {I : jdI} {J : jdJ} {K : Int32 → jdI → jdJ → Prop} {t : Nat} {x1 : Int32} {x2 : Int32} {x3 : Int32} (ht : zModel Z t) (h : Cl G mX12_in n 0 0 [.long (Int32.toInt64 x1), .long 0, .long 7] Z I J (qi Z (fun v2 I1 J1 => ((v2 = 0 → Cl G mX12_refuse n 0 0 [.ref (gb G + t), .int (-2)] Z I1 J1 (qi Z (fun v4 I3 J3 => K v4 I3 J3))) ∧ (¬ v2 = 0 → Cl G mX12_in n 0 0 [.long (Int32.toInt64 x2), .long 1, .long 5] Z I1 J1 (qi Z (fun v6 I5 J5 => ((v6 = 0 → Cl G mX12_refuse n 0 0 [.ref (gb G + t), .int (-2)] Z I5 J5 (qi Z (fun v8 I7 J7 => K v8 I7 J7))) ∧ (¬ v6 = 0 → Cl G mX12_in n 0 0 [.long (Int32.toInt64 x3), .long 0, .long 9] Z I5 J5 (qi Z (fun v10 I9 J9 => ((¬ v10 = 0 → (vp_in x1 8 ∧ (vp_in x1 8 ∧ (vp_in x1 8 ∧ K 1 (uI (uI (uI I9 (t + 1) (Int32.toNatClampNeg x1) 2) (t + 14) (Int32.toNatClampNeg x1) x2) (t + 15) (Int32.toNatClampNeg x1) x3) J9)))) ∧ (v10 = 0 → Cl G mX12_refuse n 0 0 [.ref (gb G + t), .int (-2)] Z I9 J9 (qi Z (fun v15 I14 J14 => K v15 I14 J14))))))))))))))) : Jd G mX12_coachman (jdFm G (qi Z K)) (n + 1) rc rs 0 [(0, .ref (gb G + t)), (1, .int x1), (2, .int x2), (3, .int x3)] [] Z I J := by
  refine jd_iload_n (pc := 0) 1 dX12_coachman_0 rfl rfl ?_
  refine jd_i2l (pc := 1) dX12_coachman_1 ?_
  refine jd_lconst (pc := 2) (v := 0) dX12_coachman_2 (by decide) ?_
  refine jd_ldc2 (pc := 3) (v := 7) qX12_96 dX12_coachman_3 ?_
  refine jd_callSi (pc := 6) (M2 := mX12_in) (av := [.long (Int32.toInt64 x1), .long 0, .long 7]) kX12_in sX12_in lX12_88 rfl rfl (Nat.le_of_ble_eq_true rfl) dX12_coachman_6 h ?_
  intro v2 I1 J1 h
  refine jd_if_eq (pc := 9) 36 dX12_coachman_9 (by decide) (fun hc => ?_) (fun hc => ?_)
  · have h := h.1 hc
    refine jd_aload_n (pc := 36) 0 dX12_coachman_36 rfl rfl ?_
    refine jd_bipush (pc := 37) (v := (-2)) dX12_coachman_37 (by decide) ?_
    refine jd_callVi (pc := 39) (M2 := mX12_refuse) (id := t) (ci := 11) (T := TX12) (N := 45) (av := [.int (-2)]) kX12_refuse sX12_refuse rfl ht.1 lX12_102 rfl rfl (Nat.le_of_ble_eq_true rfl) dX12_coachman_39 h ?_
    intro v4 I3 J3 h
    exact jd_iretK (pc := 42) rfl rfl dX12_coachman_42 h
  · have h := h.2 hc
    refine jd_iload_n (pc := 12) 2 dX12_coachman_12 rfl rfl ?_
    refine jd_i2l (pc := 13) dX12_coachman_13 ?_
    refine jd_lconst (pc := 14) (v := 1) dX12_coachman_14 (by decide) ?_
    refine jd_ldc2 (pc := 15) (v := 5) qX12_113 dX12_coachman_15 ?_
    refine jd_callSi (pc := 18) (M2 := mX12_in) (av := [.long (Int32.toInt64 x2), .long 1, .long 5]) kX12_in sX12_in lX12_88 rfl rfl (Nat.le_of_ble_eq_true rfl) dX12_coachman_18 h ?_
    intro v6 I5 J5 h
    refine jd_if_eq (pc := 21) 36 dX12_coachman_21 (by decide) (fun hc => ?_) (fun hc => ?_)
    · have h := h.1 hc
      refine jd_aload_n (pc := 36) 0 dX12_coachman_36 rfl rfl ?_
      refine jd_bipush (pc := 37) (v := (-2)) dX12_coachman_37 (by decide) ?_
      refine jd_callVi (pc := 39) (M2 := mX12_refuse) (id := t) (ci := 11) (T := TX12) (N := 45) (av := [.int (-2)]) kX12_refuse sX12_refuse rfl ht.1 lX12_102 rfl rfl (Nat.le_of_ble_eq_true rfl) dX12_coachman_39 h ?_
      intro v8 I7 J7 h
      exact jd_iretK (pc := 42) rfl rfl dX12_coachman_42 h
    · have h := h.2 hc
      refine jd_iload_n (pc := 24) 3 dX12_coachman_24 rfl rfl ?_
      refine jd_i2l (pc := 25) dX12_coachman_25 ?_
      refine jd_lconst (pc := 26) (v := 0) dX12_coachman_26 (by decide) ?_
      refine jd_ldc2 (pc := 27) (v := 9) qX12_115 dX12_coachman_27 ?_
      refine jd_callSi (pc := 30) (M2 := mX12_in) (av := [.long (Int32.toInt64 x3), .long 0, .long 9]) kX12_in sX12_in lX12_88 rfl rfl (Nat.le_of_ble_eq_true rfl) dX12_coachman_30 h ?_
      intro v10 I9 J9 h
      refine jd_if_ne (pc := 33) 43 dX12_coachman_33 (by decide) (fun hc => ?_) (fun hc => ?_)
      · have h := h.1 hc
        refine jd_aload_n (pc := 43) 0 dX12_coachman_43 rfl rfl ?_
        refine jd_getR (pc := 44) (ci := 11) (k := 0) (r := (t + 1)) gX12_7 ht.1 rfl (zModel_p0 ht) dX12_coachman_44 ?_
        refine jd_iload_n (pc := 47) 1 dX12_coachman_47 rfl rfl ?_
        refine jd_iconst (pc := 48) (v := 2) dX12_coachman_48 (by decide) ?_
        obtain ⟨hv11, h⟩ := h
        refine jd_iast (pc := 49) (len := 8) (zModel_a0 ht) hv11 dX12_coachman_49 ?_
        refine jd_aload_n (pc := 50) 0 dX12_coachman_50 rfl rfl ?_
        refine jd_getR (pc := 51) (ci := 11) (k := 5) (r := (t + 14)) gX12_28 ht.1 rfl (zModel_p5 ht) dX12_coachman_51 ?_
        refine jd_iload_n (pc := 54) 1 dX12_coachman_54 rfl rfl ?_
        refine jd_iload_n (pc := 55) 2 dX12_coachman_55 rfl rfl ?_
        obtain ⟨hv12, h⟩ := h
        refine jd_iast (pc := 56) (len := 8) (zModel_a5 ht) hv12 dX12_coachman_56 ?_
        refine jd_aload_n (pc := 57) 0 dX12_coachman_57 rfl rfl ?_
        refine jd_getR (pc := 58) (ci := 11) (k := 6) (r := (t + 15)) gX12_31 ht.1 rfl (zModel_p6 ht) dX12_coachman_58 ?_
        refine jd_iload_n (pc := 61) 1 dX12_coachman_61 rfl rfl ?_
        refine jd_iload_n (pc := 62) 3 dX12_coachman_62 rfl rfl ?_
        obtain ⟨hv13, h⟩ := h
        refine jd_iast (pc := 63) (len := 8) (zModel_a6 ht) hv13 dX12_coachman_63 ?_
        refine jd_iconst (pc := 64) (v := 1) dX12_coachman_64 (by decide) ?_
        exact jd_iretK (pc := 65) rfl rfl dX12_coachman_65 h
      · have h := h.2 hc
        refine jd_aload_n (pc := 36) 0 dX12_coachman_36 rfl rfl ?_
        refine jd_bipush (pc := 37) (v := (-2)) dX12_coachman_37 (by decide) ?_
        refine jd_callVi (pc := 39) (M2 := mX12_refuse) (id := t) (ci := 11) (T := TX12) (N := 45) (av := [.int (-2)]) kX12_refuse sX12_refuse rfl ht.1 lX12_102 rfl rfl (Nat.le_of_ble_eq_true rfl) dX12_coachman_39 h ?_
        intro v15 I14 J14 h
        exact jd_iretK (pc := 42) rfl rfl dX12_coachman_42 h
theorem eX12_coachman {G : jdG} {n : Nat} {Z : jdL} {I : jdI} {J : jdJ} {K : Int32 → jdI → jdJ → Prop} {t : Nat} {x1 : Int32} {x2 : Int32} {x3 : Int32} (ht : zModel Z t) (h : Cl G mX12_in n 0 0 [.long (Int32.toInt64 x1), .long 0, .long 7] Z I J (qi Z (fun v2 I1 J1 => ((v2 = 0 → Cl G mX12_refuse n 0 0 [.ref (gb G + t), .int (-2)] Z I1 J1 (qi Z (fun v4 I3 J3 => K v4 I3 J3))) ∧ (¬ v2 = 0 → Cl G mX12_in n 0 0 [.long (Int32.toInt64 x2), .long 1, .long 5] Z I1 J1 (qi Z (fun v6 I5 J5 => ((v6 = 0 → Cl G mX12_refuse n 0 0 [.ref (gb G + t), .int (-2)] Z I5 J5 (qi Z (fun v8 I7 J7 => K v8 I7 J7))) ∧ (¬ v6 = 0 → Cl G mX12_in n 0 0 [.long (Int32.toInt64 x3), .long 0, .long 9] Z I5 J5 (qi Z (fun v10 I9 J9 => ((¬ v10 = 0 → (vp_in x1 8 ∧ (vp_in x1 8 ∧ (vp_in x1 8 ∧ K 1 (uI (uI (uI I9 (t + 1) (Int32.toNatClampNeg x1) 2) (t + 14) (Int32.toNatClampNeg x1) x2) (t + 15) (Int32.toNatClampNeg x1) x3) J9)))) ∧ (v10 = 0 → Cl G mX12_refuse n 0 0 [.ref (gb G + t), .int (-2)] Z I9 J9 (qi Z (fun v15 I14 J14 => K v15 I14 J14))))))))))))))) : Cl G mX12_coachman (n + 1) 0 0 [.ref (gb G + t), .int x1, .int x2, .int x3] Z I J (qi Z K) :=
  Cl.of (by decide +kernel) (Nat.le_of_ble_eq_true rfl) (rX12_coachman_0 ht h)
set_option maxRecDepth 4000 in
theorem rX12_isUnder_0 {G : jdG} {n rc rs : Nat} {Z : jdL} {I : jdI} {J : jdJ} {K : Int32 → jdI → jdJ → Prop} {x0 : Int32} {x1 : Int32}  (h : ((x1 = 0 → K 1 I J) ∧ (¬ x1 = 0 → ((¬ x0 = x1 → ((¬ x1 = 1 → ((¬ x1 = 2 → K 0 I J) ∧ (x1 = 2 → ((x0 < 4 → K 0 I J) ∧ (¬ x0 < 4 → K 1 I J))))) ∧ (x1 = 1 → ((¬ x0 = 3 → K 0 I J) ∧ (x0 = 3 → K 1 I J))))) ∧ (x0 = x1 → K 1 I J))))) : Jd G mX12_isUnder (jdFm G (qi Z K)) n rc rs 0 [(0, .int x0), (1, .int x1)] [] Z I J := by
  refine jd_iload_n (pc := 0) 1 dX12_isUnder_0 rfl rfl ?_
  refine jd_if_eq (pc := 1) 9 dX12_isUnder_1 (by decide) (fun hc => ?_) (fun hc => ?_)
  · have h := h.1 hc
    refine jd_iconst (pc := 9) (v := 1) dX12_isUnder_9 (by decide) ?_
    exact jd_iretK (pc := 10) (ty := .boolean) rfl (by decide) dX12_isUnder_10 h
  · have h := h.2 hc
    refine jd_iload_n (pc := 4) 0 dX12_isUnder_4 rfl rfl ?_
    refine jd_iload_n (pc := 5) 1 dX12_isUnder_5 rfl rfl ?_
    refine jd_icmp_ne (pc := 6) 11 dX12_isUnder_6 (by decide) (fun hc => ?_) (fun hc => ?_)
    · have h := h.1 hc
      refine jd_iload_n (pc := 11) 1 dX12_isUnder_11 rfl rfl ?_
      refine jd_iconst (pc := 12) (v := 1) dX12_isUnder_12 (by decide) ?_
      refine jd_icmp_ne (pc := 13) 29 dX12_isUnder_13 (by decide) (fun hc => ?_) (fun hc => ?_)
      · have h := h.1 hc
        refine jd_iload_n (pc := 29) 1 dX12_isUnder_29 rfl rfl ?_
        refine jd_iconst (pc := 30) (v := 2) dX12_isUnder_30 (by decide) ?_
        refine jd_icmp_ne (pc := 31) 43 dX12_isUnder_31 (by decide) (fun hc => ?_) (fun hc => ?_)
        · have h := h.1 hc
          refine jd_iconst (pc := 43) (v := 0) dX12_isUnder_43 (by decide) ?_
          exact jd_iretK (pc := 44) (ty := .boolean) rfl (by decide) dX12_isUnder_44 h
        · have h := h.2 hc
          refine jd_iload_n (pc := 34) 0 dX12_isUnder_34 rfl rfl ?_
          refine jd_iconst (pc := 35) (v := 4) dX12_isUnder_35 (by decide) ?_
          refine jd_icmp_lt (pc := 36) 43 dX12_isUnder_36 (by decide) (fun hc => ?_) (fun hc => ?_)
          · have h := h.1 hc
            refine jd_iconst (pc := 43) (v := 0) dX12_isUnder_43 (by decide) ?_
            exact jd_iretK (pc := 44) (ty := .boolean) rfl (by decide) dX12_isUnder_44 h
          · have h := h.2 hc
            refine jd_iconst (pc := 39) (v := 1) dX12_isUnder_39 (by decide) ?_
            refine jd_goto (pc := 40) 44 dX12_isUnder_40 (by decide) ?_
            exact jd_iretK (pc := 44) (ty := .boolean) rfl (by decide) dX12_isUnder_44 h
      · have h := h.2 hc
        refine jd_iload_n (pc := 16) 0 dX12_isUnder_16 rfl rfl ?_
        refine jd_iconst (pc := 17) (v := 3) dX12_isUnder_17 (by decide) ?_
        refine jd_icmp_ne (pc := 18) 25 dX12_isUnder_18 (by decide) (fun hc => ?_) (fun hc => ?_)
        · have h := h.1 hc
          refine jd_iconst (pc := 25) (v := 0) dX12_isUnder_25 (by decide) ?_
          refine jd_goto (pc := 26) 44 dX12_isUnder_26 (by decide) ?_
          exact jd_iretK (pc := 44) (ty := .boolean) rfl (by decide) dX12_isUnder_44 h
        · have h := h.2 hc
          refine jd_iconst (pc := 21) (v := 1) dX12_isUnder_21 (by decide) ?_
          refine jd_goto (pc := 22) 44 dX12_isUnder_22 (by decide) ?_
          exact jd_iretK (pc := 44) (ty := .boolean) rfl (by decide) dX12_isUnder_44 h
    · have h := h.2 hc
      refine jd_iconst (pc := 9) (v := 1) dX12_isUnder_9 (by decide) ?_
      exact jd_iretK (pc := 10) (ty := .boolean) rfl (by decide) dX12_isUnder_10 h
theorem eX12_isUnder {G : jdG} {n : Nat} {Z : jdL} {I : jdI} {J : jdJ} {K : Int32 → jdI → jdJ → Prop} {x0 : Int32} {x1 : Int32}  (h : ((x1 = 0 → K 1 I J) ∧ (¬ x1 = 0 → ((¬ x0 = x1 → ((¬ x1 = 1 → ((¬ x1 = 2 → K 0 I J) ∧ (x1 = 2 → ((x0 < 4 → K 0 I J) ∧ (¬ x0 < 4 → K 1 I J))))) ∧ (x1 = 1 → ((¬ x0 = 3 → K 0 I J) ∧ (x0 = 3 → K 1 I J))))) ∧ (x0 = x1 → K 1 I J))))) : Cl G mX12_isUnder (n) 0 0 [.int x0, .int x1] Z I J (qi Z K) :=
  Cl.of (by decide +kernel) (Nat.le_of_ble_eq_true rfl) (rX12_isUnder_0  h)
set_option maxRecDepth 4000 in
theorem rX12_says_0 {G : jdG} {n rc rs : Nat} {Z : jdL} {I : jdI} {J : jdJ} {K : Int32 → jdI → jdJ → Prop} {t : Nat} {x1 : Int32} {x2 : Int32} (ht : zModel Z t) (h : Cl G mX12_in n 0 0 [.long (Int32.toInt64 x1), .long 0, .long 7] Z I J (qi Z (fun v2 I1 J1 => ((v2 = 0 → Cl G mX12_refuse n 0 0 [.ref (gb G + t), .int (-2)] Z I1 J1 (qi Z (fun v4 I3 J3 => K v4 I3 J3))) ∧ (¬ v2 = 0 → Cl G mX12_in n 0 0 [.long (Int32.toInt64 x2), .long 0, .long 5] Z I1 J1 (qi Z (fun v6 I5 J5 => ((¬ v6 = 0 → (vp_in x1 8 ∧ (((I5 (t + 1) (Int32.toNatClampNeg x1)) = 1 → Cl G mX12_refuse n 0 0 [.ref (gb G + t), .int (-3)] Z I5 J5 (qi Z (fun v9 I8 J8 => K v9 I8 J8))) ∧ (¬ (I5 (t + 1) (Int32.toNatClampNeg x1)) = 1 → (vp_in x1 8 ∧ ((¬ (I5 (t + 1) (Int32.toNatClampNeg x1)) = 2 → (vp_in x1 8 ∧ ((¬ (I5 (t + 1) (Int32.toNatClampNeg x1)) = 0 → ((¬ x2 = 0 → (vp_in x1 8 ∧ (vp_in x1 8 ∧ Cl G mX12_all n 0 0 [.ref (gb G + t)] Z I5 J5 (qi Z (fun v15 I14 J14 => Cl G mX12_sentBy n 0 0 [.ref (gb G + t), .int (I5 (t + 14) (Int32.toNatClampNeg x1)), .int (I5 (t + 15) (Int32.toNatClampNeg x1)), .int v15, .int 0] Z I14 J14 (qi Z (fun v17 I16 J16 => K v17 I16 J16))))))) ∧ (x2 = 0 → (vp_in x1 8 ∧ K (I5 (t + 15) (Int32.toNatClampNeg x1)) I5 J5)))) ∧ ((I5 (t + 1) (Int32.toNatClampNeg x1)) = 0 → Cl G mX12_refuse n 0 0 [.ref (gb G + t), .int (-4)] Z I5 J5 (qi Z (fun v20 I19 J19 => K v20 I19 J19)))))) ∧ ((I5 (t + 1) (Int32.toNatClampNeg x1)) = 2 → (vp_in x1 8 ∧ Cl G mX12_isUnder n 0 0 [.int (I5 (t + 14) (Int32.toNatClampNeg x1)), .int x2] Z I5 J5 (qi Z (fun v23 I22 J22 => ((¬ v23 = 0 → (vp_in x1 8 ∧ ((¬ (I22 (t + 1) (Int32.toNatClampNeg x1)) = 0 → ((¬ x2 = 0 → (vp_in x1 8 ∧ (vp_in x1 8 ∧ Cl G mX12_all n 0 0 [.ref (gb G + t)] Z I22 J22 (qi Z (fun v28 I27 J27 => Cl G mX12_sentBy n 0 0 [.ref (gb G + t), .int (I22 (t + 14) (Int32.toNatClampNeg x1)), .int (I22 (t + 15) (Int32.toNatClampNeg x1)), .int v28, .int 0] Z I27 J27 (qi Z (fun v30 I29 J29 => K v30 I29 J29))))))) ∧ (x2 = 0 → (vp_in x1 8 ∧ K (I22 (t + 15) (Int32.toNatClampNeg x1)) I22 J22)))) ∧ ((I22 (t + 1) (Int32.toNatClampNeg x1)) = 0 → Cl G mX12_refuse n 0 0 [.ref (gb G + t), .int (-4)] Z I22 J22 (qi Z (fun v33 I32 J32 => K v33 I32 J32)))))) ∧ (v23 = 0 → Cl G mX12_refuse n 0 0 [.ref (gb G + t), .int (-3)] Z I22 J22 (qi Z (fun v35 I34 J34 => K v35 I34 J34)))))))))))))) ∧ (v6 = 0 → Cl G mX12_refuse n 0 0 [.ref (gb G + t), .int (-2)] Z I5 J5 (qi Z (fun v37 I36 J36 => K v37 I36 J36))))))))))) : Jd G mX12_says (jdFm G (qi Z K)) (n + 1) rc rs 0 [(0, .ref (gb G + t)), (1, .int x1), (2, .int x2)] [] Z I J := by
  refine jd_iload_n (pc := 0) 1 dX12_says_0 rfl rfl ?_
  refine jd_i2l (pc := 1) dX12_says_1 ?_
  refine jd_lconst (pc := 2) (v := 0) dX12_says_2 (by decide) ?_
  refine jd_ldc2 (pc := 3) (v := 7) qX12_96 dX12_says_3 ?_
  refine jd_callSi (pc := 6) (M2 := mX12_in) (av := [.long (Int32.toInt64 x1), .long 0, .long 7]) kX12_in sX12_in lX12_88 rfl rfl (Nat.le_of_ble_eq_true rfl) dX12_says_6 h ?_
  intro v2 I1 J1 h
  refine jd_if_eq (pc := 9) 24 dX12_says_9 (by decide) (fun hc => ?_) (fun hc => ?_)
  · have h := h.1 hc
    refine jd_aload_n (pc := 24) 0 dX12_says_24 rfl rfl ?_
    refine jd_bipush (pc := 25) (v := (-2)) dX12_says_25 (by decide) ?_
    refine jd_callVi (pc := 27) (M2 := mX12_refuse) (id := t) (ci := 11) (T := TX12) (N := 45) (av := [.int (-2)]) kX12_refuse sX12_refuse rfl ht.1 lX12_102 rfl rfl (Nat.le_of_ble_eq_true rfl) dX12_says_27 h ?_
    intro v4 I3 J3 h
    exact jd_iretK (pc := 30) rfl rfl dX12_says_30 h
  · have h := h.2 hc
    refine jd_iload_n (pc := 12) 2 dX12_says_12 rfl rfl ?_
    refine jd_i2l (pc := 13) dX12_says_13 ?_
    refine jd_lconst (pc := 14) (v := 0) dX12_says_14 (by decide) ?_
    refine jd_ldc2 (pc := 15) (v := 5) qX12_113 dX12_says_15 ?_
    refine jd_callSi (pc := 18) (M2 := mX12_in) (av := [.long (Int32.toInt64 x2), .long 0, .long 5]) kX12_in sX12_in lX12_88 rfl rfl (Nat.le_of_ble_eq_true rfl) dX12_says_18 h ?_
    intro v6 I5 J5 h
    refine jd_if_ne (pc := 21) 31 dX12_says_21 (by decide) (fun hc => ?_) (fun hc => ?_)
    · have h := h.1 hc
      refine jd_aload_n (pc := 31) 0 dX12_says_31 rfl rfl ?_
      refine jd_getR (pc := 32) (ci := 11) (k := 0) (r := (t + 1)) gX12_7 ht.1 rfl (zModel_p0 ht) dX12_says_32 ?_
      refine jd_iload_n (pc := 35) 1 dX12_says_35 rfl rfl ?_
      obtain ⟨hv7, h⟩ := h
      refine jd_iald (pc := 36) (len := 8) (zModel_a0 ht) hv7 dX12_says_36 ?_
      refine jd_iconst (pc := 37) (v := 1) dX12_says_37 (by decide) ?_
      refine jd_icmp_eq (pc := 38) 64 dX12_says_38 (by decide) (fun hc => ?_) (fun hc => ?_)
      · have h := h.1 hc
        refine jd_aload_n (pc := 64) 0 dX12_says_64 rfl rfl ?_
        refine jd_bipush (pc := 65) (v := (-3)) dX12_says_65 (by decide) ?_
        refine jd_callVi (pc := 67) (M2 := mX12_refuse) (id := t) (ci := 11) (T := TX12) (N := 45) (av := [.int (-3)]) kX12_refuse sX12_refuse rfl ht.1 lX12_102 rfl rfl (Nat.le_of_ble_eq_true rfl) dX12_says_67 h ?_
        intro v9 I8 J8 h
        exact jd_iretK (pc := 70) rfl rfl dX12_says_70 h
      · have h := h.2 hc
        refine jd_aload_n (pc := 41) 0 dX12_says_41 rfl rfl ?_
        refine jd_getR (pc := 42) (ci := 11) (k := 0) (r := (t + 1)) gX12_7 ht.1 rfl (zModel_p0 ht) dX12_says_42 ?_
        refine jd_iload_n (pc := 45) 1 dX12_says_45 rfl rfl ?_
        obtain ⟨hv10, h⟩ := h
        refine jd_iald (pc := 46) (len := 8) (zModel_a0 ht) hv10 dX12_says_46 ?_
        refine jd_iconst (pc := 47) (v := 2) dX12_says_47 (by decide) ?_
        refine jd_icmp_ne (pc := 48) 71 dX12_says_48 (by decide) (fun hc => ?_) (fun hc => ?_)
        · have h := h.1 hc
          refine jd_aload_n (pc := 71) 0 dX12_says_71 rfl rfl ?_
          refine jd_getR (pc := 72) (ci := 11) (k := 0) (r := (t + 1)) gX12_7 ht.1 rfl (zModel_p0 ht) dX12_says_72 ?_
          refine jd_iload_n (pc := 75) 1 dX12_says_75 rfl rfl ?_
          obtain ⟨hv11, h⟩ := h
          refine jd_iald (pc := 76) (len := 8) (zModel_a0 ht) hv11 dX12_says_76 ?_
          refine jd_if_ne (pc := 77) 87 dX12_says_77 (by decide) (fun hc => ?_) (fun hc => ?_)
          · have h := h.1 hc
            refine jd_iload_n (pc := 87) 2 dX12_says_87 rfl rfl ?_
            refine jd_if_ne (pc := 88) 100 dX12_says_88 (by decide) (fun hc => ?_) (fun hc => ?_)
            · have h := h.1 hc
              refine jd_aload_n (pc := 100) 0 dX12_says_100 rfl rfl ?_
              refine jd_aload_n (pc := 101) 0 dX12_says_101 rfl rfl ?_
              refine jd_getR (pc := 102) (ci := 11) (k := 5) (r := (t + 14)) gX12_28 ht.1 rfl (zModel_p5 ht) dX12_says_102 ?_
              refine jd_iload_n (pc := 105) 1 dX12_says_105 rfl rfl ?_
              obtain ⟨hv12, h⟩ := h
              refine jd_iald (pc := 106) (len := 8) (zModel_a5 ht) hv12 dX12_says_106 ?_
              refine jd_aload_n (pc := 107) 0 dX12_says_107 rfl rfl ?_
              refine jd_getR (pc := 108) (ci := 11) (k := 6) (r := (t + 15)) gX12_31 ht.1 rfl (zModel_p6 ht) dX12_says_108 ?_
              refine jd_iload_n (pc := 111) 1 dX12_says_111 rfl rfl ?_
              obtain ⟨hv13, h⟩ := h
              refine jd_iald (pc := 112) (len := 8) (zModel_a6 ht) hv13 dX12_says_112 ?_
              refine jd_aload_n (pc := 113) 0 dX12_says_113 rfl rfl ?_
              refine jd_callVi (pc := 114) (M2 := mX12_all) (id := t) (ci := 11) (T := TX12) (N := 45) (av := []) kX12_all sX12_all rfl ht.1 lX12_92 rfl rfl (Nat.le_of_ble_eq_true rfl) dX12_says_114 h ?_
              intro v15 I14 J14 h
              refine jd_iconst (pc := 117) (v := 0) dX12_says_117 (by decide) ?_
              refine jd_callVi (pc := 118) (M2 := mX12_sentBy) (id := t) (ci := 11) (T := TX12) (N := 45) (av := [.int (I5 (t + 14) (Int32.toNatClampNeg x1)), .int (I5 (t + 15) (Int32.toNatClampNeg x1)), .int v15, .int 0]) kX12_sentBy sX12_sentBy rfl ht.1 lX12_121 rfl rfl (Nat.le_of_ble_eq_true rfl) dX12_says_118 h ?_
              intro v17 I16 J16 h
              exact jd_iretK (pc := 121) rfl rfl dX12_says_121 h
            · have h := h.2 hc
              refine jd_aload_n (pc := 91) 0 dX12_says_91 rfl rfl ?_
              refine jd_getR (pc := 92) (ci := 11) (k := 6) (r := (t + 15)) gX12_31 ht.1 rfl (zModel_p6 ht) dX12_says_92 ?_
              refine jd_iload_n (pc := 95) 1 dX12_says_95 rfl rfl ?_
              obtain ⟨hv18, h⟩ := h
              refine jd_iald (pc := 96) (len := 8) (zModel_a6 ht) hv18 dX12_says_96 ?_
              refine jd_goto (pc := 97) 121 dX12_says_97 (by decide) ?_
              exact jd_iretK (pc := 121) rfl rfl dX12_says_121 h
          · have h := h.2 hc
            refine jd_aload_n (pc := 80) 0 dX12_says_80 rfl rfl ?_
            refine jd_bipush (pc := 81) (v := (-4)) dX12_says_81 (by decide) ?_
            refine jd_callVi (pc := 83) (M2 := mX12_refuse) (id := t) (ci := 11) (T := TX12) (N := 45) (av := [.int (-4)]) kX12_refuse sX12_refuse rfl ht.1 lX12_102 rfl rfl (Nat.le_of_ble_eq_true rfl) dX12_says_83 h ?_
            intro v20 I19 J19 h
            exact jd_iretK (pc := 86) rfl rfl dX12_says_86 h
        · have h := h.2 hc
          refine jd_aload_n (pc := 51) 0 dX12_says_51 rfl rfl ?_
          refine jd_getR (pc := 52) (ci := 11) (k := 5) (r := (t + 14)) gX12_28 ht.1 rfl (zModel_p5 ht) dX12_says_52 ?_
          refine jd_iload_n (pc := 55) 1 dX12_says_55 rfl rfl ?_
          obtain ⟨hv21, h⟩ := h
          refine jd_iald (pc := 56) (len := 8) (zModel_a5 ht) hv21 dX12_says_56 ?_
          refine jd_iload_n (pc := 57) 2 dX12_says_57 rfl rfl ?_
          refine jd_callSi (pc := 58) (M2 := mX12_isUnder) (av := [.int (I5 (t + 14) (Int32.toNatClampNeg x1)), .int x2]) kX12_isUnder sX12_isUnder lX12_117 rfl rfl (Nat.le_of_ble_eq_true rfl) dX12_says_58 h ?_
          intro v23 I22 J22 h
          refine jd_if_ne (pc := 61) 71 dX12_says_61 (by decide) (fun hc => ?_) (fun hc => ?_)
          · have h := h.1 hc
            refine jd_aload_n (pc := 71) 0 dX12_says_71 rfl rfl ?_
            refine jd_getR (pc := 72) (ci := 11) (k := 0) (r := (t + 1)) gX12_7 ht.1 rfl (zModel_p0 ht) dX12_says_72 ?_
            refine jd_iload_n (pc := 75) 1 dX12_says_75 rfl rfl ?_
            obtain ⟨hv24, h⟩ := h
            refine jd_iald (pc := 76) (len := 8) (zModel_a0 ht) hv24 dX12_says_76 ?_
            refine jd_if_ne (pc := 77) 87 dX12_says_77 (by decide) (fun hc => ?_) (fun hc => ?_)
            · have h := h.1 hc
              refine jd_iload_n (pc := 87) 2 dX12_says_87 rfl rfl ?_
              refine jd_if_ne (pc := 88) 100 dX12_says_88 (by decide) (fun hc => ?_) (fun hc => ?_)
              · have h := h.1 hc
                refine jd_aload_n (pc := 100) 0 dX12_says_100 rfl rfl ?_
                refine jd_aload_n (pc := 101) 0 dX12_says_101 rfl rfl ?_
                refine jd_getR (pc := 102) (ci := 11) (k := 5) (r := (t + 14)) gX12_28 ht.1 rfl (zModel_p5 ht) dX12_says_102 ?_
                refine jd_iload_n (pc := 105) 1 dX12_says_105 rfl rfl ?_
                obtain ⟨hv25, h⟩ := h
                refine jd_iald (pc := 106) (len := 8) (zModel_a5 ht) hv25 dX12_says_106 ?_
                refine jd_aload_n (pc := 107) 0 dX12_says_107 rfl rfl ?_
                refine jd_getR (pc := 108) (ci := 11) (k := 6) (r := (t + 15)) gX12_31 ht.1 rfl (zModel_p6 ht) dX12_says_108 ?_
                refine jd_iload_n (pc := 111) 1 dX12_says_111 rfl rfl ?_
                obtain ⟨hv26, h⟩ := h
                refine jd_iald (pc := 112) (len := 8) (zModel_a6 ht) hv26 dX12_says_112 ?_
                refine jd_aload_n (pc := 113) 0 dX12_says_113 rfl rfl ?_
                refine jd_callVi (pc := 114) (M2 := mX12_all) (id := t) (ci := 11) (T := TX12) (N := 45) (av := []) kX12_all sX12_all rfl ht.1 lX12_92 rfl rfl (Nat.le_of_ble_eq_true rfl) dX12_says_114 h ?_
                intro v28 I27 J27 h
                refine jd_iconst (pc := 117) (v := 0) dX12_says_117 (by decide) ?_
                refine jd_callVi (pc := 118) (M2 := mX12_sentBy) (id := t) (ci := 11) (T := TX12) (N := 45) (av := [.int (I22 (t + 14) (Int32.toNatClampNeg x1)), .int (I22 (t + 15) (Int32.toNatClampNeg x1)), .int v28, .int 0]) kX12_sentBy sX12_sentBy rfl ht.1 lX12_121 rfl rfl (Nat.le_of_ble_eq_true rfl) dX12_says_118 h ?_
                intro v30 I29 J29 h
                exact jd_iretK (pc := 121) rfl rfl dX12_says_121 h
              · have h := h.2 hc
                refine jd_aload_n (pc := 91) 0 dX12_says_91 rfl rfl ?_
                refine jd_getR (pc := 92) (ci := 11) (k := 6) (r := (t + 15)) gX12_31 ht.1 rfl (zModel_p6 ht) dX12_says_92 ?_
                refine jd_iload_n (pc := 95) 1 dX12_says_95 rfl rfl ?_
                obtain ⟨hv31, h⟩ := h
                refine jd_iald (pc := 96) (len := 8) (zModel_a6 ht) hv31 dX12_says_96 ?_
                refine jd_goto (pc := 97) 121 dX12_says_97 (by decide) ?_
                exact jd_iretK (pc := 121) rfl rfl dX12_says_121 h
            · have h := h.2 hc
              refine jd_aload_n (pc := 80) 0 dX12_says_80 rfl rfl ?_
              refine jd_bipush (pc := 81) (v := (-4)) dX12_says_81 (by decide) ?_
              refine jd_callVi (pc := 83) (M2 := mX12_refuse) (id := t) (ci := 11) (T := TX12) (N := 45) (av := [.int (-4)]) kX12_refuse sX12_refuse rfl ht.1 lX12_102 rfl rfl (Nat.le_of_ble_eq_true rfl) dX12_says_83 h ?_
              intro v33 I32 J32 h
              exact jd_iretK (pc := 86) rfl rfl dX12_says_86 h
          · have h := h.2 hc
            refine jd_aload_n (pc := 64) 0 dX12_says_64 rfl rfl ?_
            refine jd_bipush (pc := 65) (v := (-3)) dX12_says_65 (by decide) ?_
            refine jd_callVi (pc := 67) (M2 := mX12_refuse) (id := t) (ci := 11) (T := TX12) (N := 45) (av := [.int (-3)]) kX12_refuse sX12_refuse rfl ht.1 lX12_102 rfl rfl (Nat.le_of_ble_eq_true rfl) dX12_says_67 h ?_
            intro v35 I34 J34 h
            exact jd_iretK (pc := 70) rfl rfl dX12_says_70 h
    · have h := h.2 hc
      refine jd_aload_n (pc := 24) 0 dX12_says_24 rfl rfl ?_
      refine jd_bipush (pc := 25) (v := (-2)) dX12_says_25 (by decide) ?_
      refine jd_callVi (pc := 27) (M2 := mX12_refuse) (id := t) (ci := 11) (T := TX12) (N := 45) (av := [.int (-2)]) kX12_refuse sX12_refuse rfl ht.1 lX12_102 rfl rfl (Nat.le_of_ble_eq_true rfl) dX12_says_27 h ?_
      intro v37 I36 J36 h
      exact jd_iretK (pc := 30) rfl rfl dX12_says_30 h
theorem eX12_says {G : jdG} {n : Nat} {Z : jdL} {I : jdI} {J : jdJ} {K : Int32 → jdI → jdJ → Prop} {t : Nat} {x1 : Int32} {x2 : Int32} (ht : zModel Z t) (h : Cl G mX12_in n 0 0 [.long (Int32.toInt64 x1), .long 0, .long 7] Z I J (qi Z (fun v2 I1 J1 => ((v2 = 0 → Cl G mX12_refuse n 0 0 [.ref (gb G + t), .int (-2)] Z I1 J1 (qi Z (fun v4 I3 J3 => K v4 I3 J3))) ∧ (¬ v2 = 0 → Cl G mX12_in n 0 0 [.long (Int32.toInt64 x2), .long 0, .long 5] Z I1 J1 (qi Z (fun v6 I5 J5 => ((¬ v6 = 0 → (vp_in x1 8 ∧ (((I5 (t + 1) (Int32.toNatClampNeg x1)) = 1 → Cl G mX12_refuse n 0 0 [.ref (gb G + t), .int (-3)] Z I5 J5 (qi Z (fun v9 I8 J8 => K v9 I8 J8))) ∧ (¬ (I5 (t + 1) (Int32.toNatClampNeg x1)) = 1 → (vp_in x1 8 ∧ ((¬ (I5 (t + 1) (Int32.toNatClampNeg x1)) = 2 → (vp_in x1 8 ∧ ((¬ (I5 (t + 1) (Int32.toNatClampNeg x1)) = 0 → ((¬ x2 = 0 → (vp_in x1 8 ∧ (vp_in x1 8 ∧ Cl G mX12_all n 0 0 [.ref (gb G + t)] Z I5 J5 (qi Z (fun v15 I14 J14 => Cl G mX12_sentBy n 0 0 [.ref (gb G + t), .int (I5 (t + 14) (Int32.toNatClampNeg x1)), .int (I5 (t + 15) (Int32.toNatClampNeg x1)), .int v15, .int 0] Z I14 J14 (qi Z (fun v17 I16 J16 => K v17 I16 J16))))))) ∧ (x2 = 0 → (vp_in x1 8 ∧ K (I5 (t + 15) (Int32.toNatClampNeg x1)) I5 J5)))) ∧ ((I5 (t + 1) (Int32.toNatClampNeg x1)) = 0 → Cl G mX12_refuse n 0 0 [.ref (gb G + t), .int (-4)] Z I5 J5 (qi Z (fun v20 I19 J19 => K v20 I19 J19)))))) ∧ ((I5 (t + 1) (Int32.toNatClampNeg x1)) = 2 → (vp_in x1 8 ∧ Cl G mX12_isUnder n 0 0 [.int (I5 (t + 14) (Int32.toNatClampNeg x1)), .int x2] Z I5 J5 (qi Z (fun v23 I22 J22 => ((¬ v23 = 0 → (vp_in x1 8 ∧ ((¬ (I22 (t + 1) (Int32.toNatClampNeg x1)) = 0 → ((¬ x2 = 0 → (vp_in x1 8 ∧ (vp_in x1 8 ∧ Cl G mX12_all n 0 0 [.ref (gb G + t)] Z I22 J22 (qi Z (fun v28 I27 J27 => Cl G mX12_sentBy n 0 0 [.ref (gb G + t), .int (I22 (t + 14) (Int32.toNatClampNeg x1)), .int (I22 (t + 15) (Int32.toNatClampNeg x1)), .int v28, .int 0] Z I27 J27 (qi Z (fun v30 I29 J29 => K v30 I29 J29))))))) ∧ (x2 = 0 → (vp_in x1 8 ∧ K (I22 (t + 15) (Int32.toNatClampNeg x1)) I22 J22)))) ∧ ((I22 (t + 1) (Int32.toNatClampNeg x1)) = 0 → Cl G mX12_refuse n 0 0 [.ref (gb G + t), .int (-4)] Z I22 J22 (qi Z (fun v33 I32 J32 => K v33 I32 J32)))))) ∧ (v23 = 0 → Cl G mX12_refuse n 0 0 [.ref (gb G + t), .int (-3)] Z I22 J22 (qi Z (fun v35 I34 J34 => K v35 I34 J34)))))))))))))) ∧ (v6 = 0 → Cl G mX12_refuse n 0 0 [.ref (gb G + t), .int (-2)] Z I5 J5 (qi Z (fun v37 I36 J36 => K v37 I36 J36))))))))))) : Cl G mX12_says (n + 1) 0 0 [.ref (gb G + t), .int x1, .int x2] Z I J (qi Z K) :=
  Cl.of (by decide +kernel) (Nat.le_of_ble_eq_true rfl) (rX12_says_0 ht h)
set_option maxRecDepth 4000 in
theorem rX12_addOne_0 {G : jdG} {n rc rs : Nat} {Z : jdL} {I : jdI} {J : jdJ} {K : jdI → jdJ → Prop} {t : Nat} {x1 : Int32} {x2 : Int32} (ht : zModel Z t) (h : (vp_in (I t 10) 8 ∧ (vp_in (I t 10) 8 ∧ Jd G mX12_addOne (jdFm G (qv Z K)) n rc rs 22 [(0, .ref (gb G + t)), (1, .int x1), (2, .int x2), (3, .int 0)] [] Z (uI (uI I (t + 18) (Int32.toNatClampNeg (I t 10)) x1) (t + 19) (Int32.toNatClampNeg (I t 10)) x2) J))) : Jd G mX12_addOne (jdFm G (qv Z K)) n rc rs 0 [(0, .ref (gb G + t)), (1, .int x1), (2, .int x2)] [] Z I J := by
  refine jd_aload_n (pc := 0) 0 dX12_addOne_0 rfl rfl ?_
  refine jd_getR (pc := 1) (ci := 11) (k := 11) (r := (t + 18)) gX12_40 ht.1 rfl (zModel_p11 ht) dX12_addOne_1 ?_
  refine jd_aload_n (pc := 4) 0 dX12_addOne_4 rfl rfl ?_
  refine jd_getI (pc := 5) (ci := 11) (k := 10) gX12_85 ht.1 rfl dX12_addOne_5 ?_
  refine jd_iload_n (pc := 8) 1 dX12_addOne_8 rfl rfl ?_
  obtain ⟨hv1, h⟩ := h
  refine jd_iast (pc := 9) (len := 8) (zModel_a11 ht) hv1 dX12_addOne_9 ?_
  refine jd_aload_n (pc := 10) 0 dX12_addOne_10 rfl rfl ?_
  refine jd_getR (pc := 11) (ci := 11) (k := 12) (r := (t + 19)) gX12_43 ht.1 rfl (zModel_p12 ht) dX12_addOne_11 ?_
  refine jd_aload_n (pc := 14) 0 dX12_addOne_14 rfl rfl ?_
  refine jd_getIe (pc := 15) (ci := 11) (k := 10) (e := (I t 10)) (uI_ne (by omega) rfl) gX12_85 ht.1 rfl dX12_addOne_15 ?_
  refine jd_iload_n (pc := 18) 2 dX12_addOne_18 rfl rfl ?_
  obtain ⟨hv2, h⟩ := h
  refine jd_iast (pc := 19) (len := 8) (zModel_a12 ht) hv2 dX12_addOne_19 ?_
  refine jd_iconst (pc := 20) (v := 0) dX12_addOne_20 (by decide) ?_
  refine jd_istore_n (pc := 21) [(3, .int 0), (0, .ref (gb G + t)), (1, .int x1), (2, .int x2)] dX12_addOne_21 rfl (by decide) rfl ?_
  exact jd_lv (lv2 := [(0, .ref (gb G + t)), (1, .int x1), (2, .int x2), (3, .int 0)]) [1, 2, 3, 0] rfl h
set_option maxRecDepth 4000 in
theorem rX12_addOne_22 {G : jdG} {n rc rs : Nat} {Z : jdL} {I : jdI} {J : jdJ} {K : jdI → jdJ → Prop} {t : Nat} {x1 : Int32} {x2 : Int32} {x3 : Int32} (ht : zModel Z t) (h : (((I t 10) ≤ x3 → K (uI I t 10 ((I t 10) + 1)) J) ∧ (¬ (I t 10) ≤ x3 → (vp_in (I t 10) 8 ∧ (vp_in x3 8 ∧ (vp_in x3 8 ∧ (vp_in ((uI I (t + 21 + (Int32.toNatClampNeg (I t 10))) (Int32.toNatClampNeg x3) (-1)) t 10) 8 ∧ Jd G mX12_addOne (jdFm G (qv Z K)) n rc rs 22 [(0, .ref (gb G + t)), (1, .int x1), (2, .int x2), (3, .int (x3 + 1))] [] Z (uI (uI I (t + 21 + (Int32.toNatClampNeg (I t 10))) (Int32.toNatClampNeg x3) (-1)) (t + 21 + (Int32.toNatClampNeg x3)) (Int32.toNatClampNeg ((uI I (t + 21 + (Int32.toNatClampNeg (I t 10))) (Int32.toNatClampNeg x3) (-1)) t 10)) (-1)) J))))))) : Jd G mX12_addOne (jdFm G (qv Z K)) n rc rs 22 [(0, .ref (gb G + t)), (1, .int x1), (2, .int x2), (3, .int x3)] [] Z I J := by
  refine jd_iload_n (pc := 22) 3 dX12_addOne_22 rfl rfl ?_
  refine jd_aload_n (pc := 23) 0 dX12_addOne_23 rfl rfl ?_
  refine jd_getI (pc := 24) (ci := 11) (k := 10) gX12_85 ht.1 rfl dX12_addOne_24 ?_
  refine jd_icmp_ge (pc := 27) 60 dX12_addOne_27 (by decide) (fun hc => ?_) (fun hc => ?_)
  · have h := h.1 hc
    refine jd_aload_n (pc := 60) 0 dX12_addOne_60 rfl rfl ?_
    refine jd_dup (pc := 61) dX12_addOne_61 rfl ?_
    refine jd_getI (pc := 62) (ci := 11) (k := 10) gX12_85 ht.1 rfl dX12_addOne_62 ?_
    refine jd_iconst (pc := 65) (v := 1) dX12_addOne_65 (by decide) ?_
    refine jd_iadd (pc := 66) dX12_addOne_66 ?_
    refine jd_putI (pc := 67) (ci := 11) (k := 10) pX12_85 ht.1 rfl rfl rfl dX12_addOne_67 ?_
    exact jd_vretK (pc := 70) rfl dX12_addOne_70 h
  · have h := h.2 hc
    refine jd_aload_n (pc := 30) 0 dX12_addOne_30 rfl rfl ?_
    refine jd_getR (pc := 31) (ci := 11) (k := 13) (r := (t + 20)) gX12_48 ht.1 rfl (zModel_p13 ht) dX12_addOne_31 ?_
    refine jd_aload_n (pc := 34) 0 dX12_addOne_34 rfl rfl ?_
    refine jd_getI (pc := 35) (ci := 11) (k := 10) gX12_85 ht.1 rfl dX12_addOne_35 ?_
    obtain ⟨hv1, h⟩ := h
    refine jd_aald (pc := 38) (len := 8) (k := 2) (zModel_a13 ht) (by decide) hv1 (zModel_known ht (vp_lt hv1)) dX12_addOne_38 ?_
    refine jd_iload_n (pc := 39) 3 dX12_addOne_39 rfl rfl ?_
    refine jd_iconst (pc := 40) (v := (-1)) dX12_addOne_40 (by decide) ?_
    obtain ⟨hv2, h⟩ := h
    refine jd_iast (pc := 41) (len := 8) (zModel_knownA ht (vp_lt hv1)) hv2 dX12_addOne_41 ?_
    refine jd_aload_n (pc := 42) 0 dX12_addOne_42 rfl rfl ?_
    refine jd_getR (pc := 43) (ci := 11) (k := 13) (r := (t + 20)) gX12_48 ht.1 rfl (zModel_p13 ht) dX12_addOne_43 ?_
    refine jd_iload_n (pc := 46) 3 dX12_addOne_46 rfl rfl ?_
    obtain ⟨hv3, h⟩ := h
    refine jd_aald (pc := 47) (len := 8) (k := 2) (zModel_a13 ht) (by decide) hv3 (zModel_known ht (vp_lt hv3)) dX12_addOne_47 ?_
    refine jd_aload_n (pc := 48) 0 dX12_addOne_48 rfl rfl ?_
    refine jd_getI (pc := 49) (ci := 11) (k := 10) gX12_85 ht.1 rfl dX12_addOne_49 ?_
    refine jd_iconst (pc := 52) (v := (-1)) dX12_addOne_52 (by decide) ?_
    obtain ⟨hv4, h⟩ := h
    refine jd_iast (pc := 53) (len := 8) (zModel_knownA ht (vp_lt hv3)) hv4 dX12_addOne_53 ?_
    refine jd_iinc (pc := 54) (v := (x3 + 1)) 3 [(3, .int (x3 + 1)), (0, .ref (gb G + t)), (1, .int x1), (2, .int x2)] dX12_addOne_54 rfl rfl (by decide) rfl ?_
    refine jd_goto (pc := 57) 22 dX12_addOne_57 (by decide) ?_
    exact jd_lv (lv2 := [(0, .ref (gb G + t)), (1, .int x1), (2, .int x2), (3, .int (x3 + 1))]) [1, 2, 3, 0] rfl h
theorem eX12_addOne {G : jdG} {n : Nat} {Z : jdL} {I : jdI} {J : jdJ} {K : jdI → jdJ → Prop} {t : Nat} {x1 : Int32} {x2 : Int32} (ht : zModel Z t) (h : (vp_in (I t 10) 8 ∧ (vp_in (I t 10) 8 ∧ Jd G mX12_addOne (jdFm G (qv Z K)) n 0 0 22 [(0, .ref (gb G + t)), (1, .int x1), (2, .int x2), (3, .int 0)] [] Z (uI (uI I (t + 18) (Int32.toNatClampNeg (I t 10)) x1) (t + 19) (Int32.toNatClampNeg (I t 10)) x2) J))) : Cl G mX12_addOne (n) 0 0 [.ref (gb G + t), .int x1, .int x2] Z I J (qv Z K) :=
  Cl.of (by decide +kernel) (Nat.le_of_ble_eq_true rfl) (rX12_addOne_0 ht h)
set_option maxRecDepth 4000 in
theorem rX12_person_0 {G : jdG} {n rc rs : Nat} {Z : jdL} {I : jdI} {J : jdJ} {K : Int32 → jdI → jdJ → Prop} {t : Nat} {x1 : Int32} {x2 : Int32} (ht : zModel Z t) (h : Cl G mX12_in n 0 0 [.long (Int32.toInt64 x1), .long 0, .long 23] Z I J (qi Z (fun v2 I1 J1 => ((v2 = 0 → Cl G mX12_refuse n 0 0 [.ref (gb G + t), .int (-2)] Z I1 J1 (qi Z (fun v4 I3 J3 => K v4 I3 J3))) ∧ (¬ v2 = 0 → Cl G mX12_in n 0 0 [.long (Int32.toInt64 x2), .long 0, .long 9] Z I1 J1 (qi Z (fun v6 I5 J5 => ((¬ v6 = 0 → ((¬ (I5 t 10) = 7 → Cl G mX12_addOne n 0 0 [.ref (gb G + t), .int x1, .int x2] Z I5 J5 (qv Z (fun I7 J7 => K ((I7 t 10) - 1) I7 J7))) ∧ ((I5 t 10) = 7 → Cl G mX12_refuse n 0 0 [.ref (gb G + t), .int (-6)] Z I5 J5 (qi Z (fun v10 I9 J9 => K v10 I9 J9))))) ∧ (v6 = 0 → Cl G mX12_refuse n 0 0 [.ref (gb G + t), .int (-2)] Z I5 J5 (qi Z (fun v12 I11 J11 => K v12 I11 J11))))))))))) : Jd G mX12_person (jdFm G (qi Z K)) (n + 1) rc rs 0 [(0, .ref (gb G + t)), (1, .int x1), (2, .int x2)] [] Z I J := by
  refine jd_iload_n (pc := 0) 1 dX12_person_0 rfl rfl ?_
  refine jd_i2l (pc := 1) dX12_person_1 ?_
  refine jd_lconst (pc := 2) (v := 0) dX12_person_2 (by decide) ?_
  refine jd_ldc2 (pc := 3) (v := 23) qX12_125 dX12_person_3 ?_
  refine jd_callSi (pc := 6) (M2 := mX12_in) (av := [.long (Int32.toInt64 x1), .long 0, .long 23]) kX12_in sX12_in lX12_88 rfl rfl (Nat.le_of_ble_eq_true rfl) dX12_person_6 h ?_
  intro v2 I1 J1 h
  refine jd_if_eq (pc := 9) 24 dX12_person_9 (by decide) (fun hc => ?_) (fun hc => ?_)
  · have h := h.1 hc
    refine jd_aload_n (pc := 24) 0 dX12_person_24 rfl rfl ?_
    refine jd_bipush (pc := 25) (v := (-2)) dX12_person_25 (by decide) ?_
    refine jd_callVi (pc := 27) (M2 := mX12_refuse) (id := t) (ci := 11) (T := TX12) (N := 45) (av := [.int (-2)]) kX12_refuse sX12_refuse rfl ht.1 lX12_102 rfl rfl (Nat.le_of_ble_eq_true rfl) dX12_person_27 h ?_
    intro v4 I3 J3 h
    exact jd_iretK (pc := 30) rfl rfl dX12_person_30 h
  · have h := h.2 hc
    refine jd_iload_n (pc := 12) 2 dX12_person_12 rfl rfl ?_
    refine jd_i2l (pc := 13) dX12_person_13 ?_
    refine jd_lconst (pc := 14) (v := 0) dX12_person_14 (by decide) ?_
    refine jd_ldc2 (pc := 15) (v := 9) qX12_115 dX12_person_15 ?_
    refine jd_callSi (pc := 18) (M2 := mX12_in) (av := [.long (Int32.toInt64 x2), .long 0, .long 9]) kX12_in sX12_in lX12_88 rfl rfl (Nat.le_of_ble_eq_true rfl) dX12_person_18 h ?_
    intro v6 I5 J5 h
    refine jd_if_ne (pc := 21) 31 dX12_person_21 (by decide) (fun hc => ?_) (fun hc => ?_)
    · have h := h.1 hc
      refine jd_aload_n (pc := 31) 0 dX12_person_31 rfl rfl ?_
      refine jd_getI (pc := 32) (ci := 11) (k := 10) gX12_85 ht.1 rfl dX12_person_32 ?_
      refine jd_bipush (pc := 35) (v := 7) dX12_person_35 (by decide) ?_
      refine jd_icmp_ne (pc := 37) 47 dX12_person_37 (by decide) (fun hc => ?_) (fun hc => ?_)
      · have h := h.1 hc
        refine jd_aload_n (pc := 47) 0 dX12_person_47 rfl rfl ?_
        refine jd_iload_n (pc := 48) 1 dX12_person_48 rfl rfl ?_
        refine jd_iload_n (pc := 49) 2 dX12_person_49 rfl rfl ?_
        refine jd_callVv (pc := 50) (M2 := mX12_addOne) (id := t) (ci := 11) (T := TX12) (N := 45) (av := [.int x1, .int x2]) kX12_addOne sX12_addOne rfl ht.1 lX12_127 rfl rfl (Nat.le_of_ble_eq_true rfl) dX12_person_50 h ?_
        intro I7 J7 h
        refine jd_aload_n (pc := 53) 0 dX12_person_53 rfl rfl ?_
        refine jd_getI (pc := 54) (ci := 11) (k := 10) gX12_85 ht.1 rfl dX12_person_54 ?_
        refine jd_iconst (pc := 57) (v := 1) dX12_person_57 (by decide) ?_
        refine jd_isub (pc := 58) dX12_person_58 ?_
        exact jd_iretK (pc := 59) rfl rfl dX12_person_59 h
      · have h := h.2 hc
        refine jd_aload_n (pc := 40) 0 dX12_person_40 rfl rfl ?_
        refine jd_bipush (pc := 41) (v := (-6)) dX12_person_41 (by decide) ?_
        refine jd_callVi (pc := 43) (M2 := mX12_refuse) (id := t) (ci := 11) (T := TX12) (N := 45) (av := [.int (-6)]) kX12_refuse sX12_refuse rfl ht.1 lX12_102 rfl rfl (Nat.le_of_ble_eq_true rfl) dX12_person_43 h ?_
        intro v10 I9 J9 h
        exact jd_iretK (pc := 46) rfl rfl dX12_person_46 h
    · have h := h.2 hc
      refine jd_aload_n (pc := 24) 0 dX12_person_24 rfl rfl ?_
      refine jd_bipush (pc := 25) (v := (-2)) dX12_person_25 (by decide) ?_
      refine jd_callVi (pc := 27) (M2 := mX12_refuse) (id := t) (ci := 11) (T := TX12) (N := 45) (av := [.int (-2)]) kX12_refuse sX12_refuse rfl ht.1 lX12_102 rfl rfl (Nat.le_of_ble_eq_true rfl) dX12_person_27 h ?_
      intro v12 I11 J11 h
      exact jd_iretK (pc := 30) rfl rfl dX12_person_30 h
theorem eX12_person {G : jdG} {n : Nat} {Z : jdL} {I : jdI} {J : jdJ} {K : Int32 → jdI → jdJ → Prop} {t : Nat} {x1 : Int32} {x2 : Int32} (ht : zModel Z t) (h : Cl G mX12_in n 0 0 [.long (Int32.toInt64 x1), .long 0, .long 23] Z I J (qi Z (fun v2 I1 J1 => ((v2 = 0 → Cl G mX12_refuse n 0 0 [.ref (gb G + t), .int (-2)] Z I1 J1 (qi Z (fun v4 I3 J3 => K v4 I3 J3))) ∧ (¬ v2 = 0 → Cl G mX12_in n 0 0 [.long (Int32.toInt64 x2), .long 0, .long 9] Z I1 J1 (qi Z (fun v6 I5 J5 => ((¬ v6 = 0 → ((¬ (I5 t 10) = 7 → Cl G mX12_addOne n 0 0 [.ref (gb G + t), .int x1, .int x2] Z I5 J5 (qv Z (fun I7 J7 => K ((I7 t 10) - 1) I7 J7))) ∧ ((I5 t 10) = 7 → Cl G mX12_refuse n 0 0 [.ref (gb G + t), .int (-6)] Z I5 J5 (qi Z (fun v10 I9 J9 => K v10 I9 J9))))) ∧ (v6 = 0 → Cl G mX12_refuse n 0 0 [.ref (gb G + t), .int (-2)] Z I5 J5 (qi Z (fun v12 I11 J11 => K v12 I11 J11))))))))))) : Cl G mX12_person (n + 1) 0 0 [.ref (gb G + t), .int x1, .int x2] Z I J (qi Z K) :=
  Cl.of (by decide +kernel) (Nat.le_of_ble_eq_true rfl) (rX12_person_0 ht h)
set_option maxRecDepth 4000 in
theorem rX12_change_0 {G : jdG} {n rc rs : Nat} {Z : jdL} {I : jdI} {J : jdJ} {K : Int32 → jdI → jdJ → Prop} {t : Nat} {x1 : Int32} {x2 : Int32} {x3 : Int32} (ht : zModel Z t) (h : Cl G mX12_isOne n 0 0 [.ref (gb G + t), .int x1] Z I J (qi Z (fun v2 I1 J1 => ((v2 = 0 → Cl G mX12_refuse n 0 0 [.ref (gb G + t), .int (-2)] Z I1 J1 (qi Z (fun v4 I3 J3 => K v4 I3 J3))) ∧ (¬ v2 = 0 → Cl G mX12_in n 0 0 [.long (Int32.toInt64 x2), .long 0, .long 1] Z I1 J1 (qi Z (fun v6 I5 J5 => ((v6 = 0 → Cl G mX12_refuse n 0 0 [.ref (gb G + t), .int (-2)] Z I5 J5 (qi Z (fun v8 I7 J7 => K v8 I7 J7))) ∧ (¬ v6 = 0 → ((¬ x2 = 0 → Cl G mX12_in n 0 0 [.long (Int32.toInt64 x3), .long 0, .long 9] Z I5 J5 (qi Z (fun v10 I9 J9 => ((¬ v10 = 0 → ((¬ x2 = 0 → (vp_in x1 8 ∧ ((¬ x2 = 0 → (vp_in x1 8 ∧ K (I9 (t + 19) (Int32.toNatClampNeg x1)) (uI I9 (t + 19) (Int32.toNatClampNeg x1) x3) J9)) ∧ (x2 = 0 → (vp_in x1 8 ∧ K (I9 (t + 19) (Int32.toNatClampNeg x1)) (uI I9 (t + 18) (Int32.toNatClampNeg x1) x3) J9))))) ∧ (x2 = 0 → (vp_in x1 8 ∧ ((¬ x2 = 0 → (vp_in x1 8 ∧ K (I9 (t + 18) (Int32.toNatClampNeg x1)) (uI I9 (t + 19) (Int32.toNatClampNeg x1) x3) J9)) ∧ (x2 = 0 → (vp_in x1 8 ∧ K (I9 (t + 18) (Int32.toNatClampNeg x1)) (uI I9 (t + 18) (Int32.toNatClampNeg x1) x3) J9))))))) ∧ (v10 = 0 → Cl G mX12_refuse n 0 0 [.ref (gb G + t), .int (-2)] Z I9 J9 (qi Z (fun v18 I17 J17 => K v18 I17 J17))))))) ∧ (x2 = 0 → Cl G mX12_in n 0 0 [.long (Int32.toInt64 x3), .long 0, .long 23] Z I5 J5 (qi Z (fun v20 I19 J19 => ((¬ v20 = 0 → ((¬ x2 = 0 → (vp_in x1 8 ∧ ((¬ x2 = 0 → (vp_in x1 8 ∧ K (I19 (t + 19) (Int32.toNatClampNeg x1)) (uI I19 (t + 19) (Int32.toNatClampNeg x1) x3) J19)) ∧ (x2 = 0 → (vp_in x1 8 ∧ K (I19 (t + 19) (Int32.toNatClampNeg x1)) (uI I19 (t + 18) (Int32.toNatClampNeg x1) x3) J19))))) ∧ (x2 = 0 → (vp_in x1 8 ∧ ((¬ x2 = 0 → (vp_in x1 8 ∧ K (I19 (t + 18) (Int32.toNatClampNeg x1)) (uI I19 (t + 19) (Int32.toNatClampNeg x1) x3) J19)) ∧ (x2 = 0 → (vp_in x1 8 ∧ K (I19 (t + 18) (Int32.toNatClampNeg x1)) (uI I19 (t + 18) (Int32.toNatClampNeg x1) x3) J19))))))) ∧ (v20 = 0 → Cl G mX12_refuse n 0 0 [.ref (gb G + t), .int (-2)] Z I19 J19 (qi Z (fun v28 I27 J27 => K v28 I27 J27))))))))))))))))) : Jd G mX12_change (jdFm G (qi Z K)) (n + 1) rc rs 0 [(0, .ref (gb G + t)), (1, .int x1), (2, .int x2), (3, .int x3)] [] Z I J := by
  refine jd_aload_n (pc := 0) 0 dX12_change_0 rfl rfl ?_
  refine jd_iload_n (pc := 1) 1 dX12_change_1 rfl rfl ?_
  refine jd_callVi (pc := 2) (M2 := mX12_isOne) (id := t) (ci := 11) (T := TX12) (N := 45) (av := [.int x1]) kX12_isOne sX12_isOne rfl ht.1 lX12_131 rfl rfl (Nat.le_of_ble_eq_true rfl) dX12_change_2 h ?_
  intro v2 I1 J1 h
  refine jd_if_eq (pc := 5) 40 dX12_change_5 (by decide) (fun hc => ?_) (fun hc => ?_)
  · have h := h.1 hc
    refine jd_aload_n (pc := 40) 0 dX12_change_40 rfl rfl ?_
    refine jd_bipush (pc := 41) (v := (-2)) dX12_change_41 (by decide) ?_
    refine jd_callVi (pc := 43) (M2 := mX12_refuse) (id := t) (ci := 11) (T := TX12) (N := 45) (av := [.int (-2)]) kX12_refuse sX12_refuse rfl ht.1 lX12_102 rfl rfl (Nat.le_of_ble_eq_true rfl) dX12_change_43 h ?_
    intro v4 I3 J3 h
    exact jd_iretK (pc := 46) rfl rfl dX12_change_46 h
  · have h := h.2 hc
    refine jd_iload_n (pc := 8) 2 dX12_change_8 rfl rfl ?_
    refine jd_i2l (pc := 9) dX12_change_9 ?_
    refine jd_lconst (pc := 10) (v := 0) dX12_change_10 (by decide) ?_
    refine jd_lconst (pc := 11) (v := 1) dX12_change_11 (by decide) ?_
    refine jd_callSi (pc := 12) (M2 := mX12_in) (av := [.long (Int32.toInt64 x2), .long 0, .long 1]) kX12_in sX12_in lX12_88 rfl rfl (Nat.le_of_ble_eq_true rfl) dX12_change_12 h ?_
    intro v6 I5 J5 h
    refine jd_if_eq (pc := 15) 40 dX12_change_15 (by decide) (fun hc => ?_) (fun hc => ?_)
    · have h := h.1 hc
      refine jd_aload_n (pc := 40) 0 dX12_change_40 rfl rfl ?_
      refine jd_bipush (pc := 41) (v := (-2)) dX12_change_41 (by decide) ?_
      refine jd_callVi (pc := 43) (M2 := mX12_refuse) (id := t) (ci := 11) (T := TX12) (N := 45) (av := [.int (-2)]) kX12_refuse sX12_refuse rfl ht.1 lX12_102 rfl rfl (Nat.le_of_ble_eq_true rfl) dX12_change_43 h ?_
      intro v8 I7 J7 h
      exact jd_iretK (pc := 46) rfl rfl dX12_change_46 h
    · have h := h.2 hc
      refine jd_iload_n (pc := 18) 3 dX12_change_18 rfl rfl ?_
      refine jd_i2l (pc := 19) dX12_change_19 ?_
      refine jd_lconst (pc := 20) (v := 0) dX12_change_20 (by decide) ?_
      refine jd_iload_n (pc := 21) 2 dX12_change_21 rfl rfl ?_
      refine jd_if_ne (pc := 22) 31 dX12_change_22 (by decide) (fun hc => ?_) (fun hc => ?_)
      · have h := h.1 hc
        refine jd_ldc2 (pc := 31) (v := 9) qX12_115 dX12_change_31 ?_
        refine jd_callSi (pc := 34) (M2 := mX12_in) (av := [.long (Int32.toInt64 x3), .long 0, .long 9]) kX12_in sX12_in lX12_88 rfl rfl (Nat.le_of_ble_eq_true rfl) dX12_change_34 h ?_
        intro v10 I9 J9 h
        refine jd_if_ne (pc := 37) 47 dX12_change_37 (by decide) (fun hc => ?_) (fun hc => ?_)
        · have h := h.1 hc
          refine jd_iload_n (pc := 47) 2 dX12_change_47 rfl rfl ?_
          refine jd_if_ne (pc := 48) 60 dX12_change_48 (by decide) (fun hc => ?_) (fun hc => ?_)
          · have h := h.1 hc
            refine jd_aload_n (pc := 60) 0 dX12_change_60 rfl rfl ?_
            refine jd_getR (pc := 61) (ci := 11) (k := 12) (r := (t + 19)) gX12_43 ht.1 rfl (zModel_p12 ht) dX12_change_61 ?_
            refine jd_iload_n (pc := 64) 1 dX12_change_64 rfl rfl ?_
            obtain ⟨hv11, h⟩ := h
            refine jd_iald (pc := 65) (len := 8) (zModel_a12 ht) hv11 dX12_change_65 ?_
            refine jd_istore (pc := 66) [(4, .int (I9 (t + 19) (Int32.toNatClampNeg x1))), (0, .ref (gb G + t)), (1, .int x1), (2, .int x2), (3, .int x3)] dX12_change_66 (by decide) rfl ?_
            refine jd_iload_n (pc := 68) 3 dX12_change_68 rfl rfl ?_
            refine jd_if_ne (pc := 69) 82 dX12_change_69 (by decide) (fun hc => ?_) (fun hc => ?_)
            · have h := h.1 hc
              refine jd_aload_n (pc := 82) 1 dX12_change_82 rfl rfl ?_
              refine jd_getR (pc := 83) (ci := 11) (k := 12) (r := (t + 19)) gX12_43 ht.1 rfl (zModel_p12 ht) dX12_change_83 ?_
              refine jd_iload_n (pc := 86) 2 dX12_change_86 rfl rfl ?_
              refine jd_iload_n (pc := 87) 4 dX12_change_87 rfl rfl ?_
              obtain ⟨hv12, h⟩ := h
              refine jd_iast (pc := 88) (len := 8) (zModel_a12 ht) hv12 dX12_change_88 ?_
              refine jd_iload (pc := 89) 0 dX12_change_89 rfl ?_
              exact jd_iretK (pc := 91) rfl rfl dX12_change_91 h
            · have h := h.2 hc
              refine jd_aload_n (pc := 72) 1 dX12_change_72 rfl rfl ?_
              refine jd_getR (pc := 73) (ci := 11) (k := 11) (r := (t + 18)) gX12_40 ht.1 rfl (zModel_p11 ht) dX12_change_73 ?_
              refine jd_iload_n (pc := 76) 2 dX12_change_76 rfl rfl ?_
              refine jd_iload_n (pc := 77) 4 dX12_change_77 rfl rfl ?_
              obtain ⟨hv13, h⟩ := h
              refine jd_iast (pc := 78) (len := 8) (zModel_a11 ht) hv13 dX12_change_78 ?_
              refine jd_goto (pc := 79) 89 dX12_change_79 (by decide) ?_
              refine jd_iload (pc := 89) 0 dX12_change_89 rfl ?_
              exact jd_iretK (pc := 91) rfl rfl dX12_change_91 h
          · have h := h.2 hc
            refine jd_aload_n (pc := 51) 0 dX12_change_51 rfl rfl ?_
            refine jd_getR (pc := 52) (ci := 11) (k := 11) (r := (t + 18)) gX12_40 ht.1 rfl (zModel_p11 ht) dX12_change_52 ?_
            refine jd_iload_n (pc := 55) 1 dX12_change_55 rfl rfl ?_
            obtain ⟨hv14, h⟩ := h
            refine jd_iald (pc := 56) (len := 8) (zModel_a11 ht) hv14 dX12_change_56 ?_
            refine jd_goto (pc := 57) 66 dX12_change_57 (by decide) ?_
            refine jd_istore (pc := 66) [(4, .int (I9 (t + 18) (Int32.toNatClampNeg x1))), (0, .ref (gb G + t)), (1, .int x1), (2, .int x2), (3, .int x3)] dX12_change_66 (by decide) rfl ?_
            refine jd_iload_n (pc := 68) 3 dX12_change_68 rfl rfl ?_
            refine jd_if_ne (pc := 69) 82 dX12_change_69 (by decide) (fun hc => ?_) (fun hc => ?_)
            · have h := h.1 hc
              refine jd_aload_n (pc := 82) 1 dX12_change_82 rfl rfl ?_
              refine jd_getR (pc := 83) (ci := 11) (k := 12) (r := (t + 19)) gX12_43 ht.1 rfl (zModel_p12 ht) dX12_change_83 ?_
              refine jd_iload_n (pc := 86) 2 dX12_change_86 rfl rfl ?_
              refine jd_iload_n (pc := 87) 4 dX12_change_87 rfl rfl ?_
              obtain ⟨hv15, h⟩ := h
              refine jd_iast (pc := 88) (len := 8) (zModel_a12 ht) hv15 dX12_change_88 ?_
              refine jd_iload (pc := 89) 0 dX12_change_89 rfl ?_
              exact jd_iretK (pc := 91) rfl rfl dX12_change_91 h
            · have h := h.2 hc
              refine jd_aload_n (pc := 72) 1 dX12_change_72 rfl rfl ?_
              refine jd_getR (pc := 73) (ci := 11) (k := 11) (r := (t + 18)) gX12_40 ht.1 rfl (zModel_p11 ht) dX12_change_73 ?_
              refine jd_iload_n (pc := 76) 2 dX12_change_76 rfl rfl ?_
              refine jd_iload_n (pc := 77) 4 dX12_change_77 rfl rfl ?_
              obtain ⟨hv16, h⟩ := h
              refine jd_iast (pc := 78) (len := 8) (zModel_a11 ht) hv16 dX12_change_78 ?_
              refine jd_goto (pc := 79) 89 dX12_change_79 (by decide) ?_
              refine jd_iload (pc := 89) 0 dX12_change_89 rfl ?_
              exact jd_iretK (pc := 91) rfl rfl dX12_change_91 h
        · have h := h.2 hc
          refine jd_aload_n (pc := 40) 0 dX12_change_40 rfl rfl ?_
          refine jd_bipush (pc := 41) (v := (-2)) dX12_change_41 (by decide) ?_
          refine jd_callVi (pc := 43) (M2 := mX12_refuse) (id := t) (ci := 11) (T := TX12) (N := 45) (av := [.int (-2)]) kX12_refuse sX12_refuse rfl ht.1 lX12_102 rfl rfl (Nat.le_of_ble_eq_true rfl) dX12_change_43 h ?_
          intro v18 I17 J17 h
          exact jd_iretK (pc := 46) rfl rfl dX12_change_46 h
      · have h := h.2 hc
        refine jd_ldc2 (pc := 25) (v := 23) qX12_125 dX12_change_25 ?_
        refine jd_goto (pc := 28) 34 dX12_change_28 (by decide) ?_
        refine jd_callSi (pc := 34) (M2 := mX12_in) (av := [.long (Int32.toInt64 x3), .long 0, .long 23]) kX12_in sX12_in lX12_88 rfl rfl (Nat.le_of_ble_eq_true rfl) dX12_change_34 h ?_
        intro v20 I19 J19 h
        refine jd_if_ne (pc := 37) 47 dX12_change_37 (by decide) (fun hc => ?_) (fun hc => ?_)
        · have h := h.1 hc
          refine jd_iload_n (pc := 47) 2 dX12_change_47 rfl rfl ?_
          refine jd_if_ne (pc := 48) 60 dX12_change_48 (by decide) (fun hc => ?_) (fun hc => ?_)
          · have h := h.1 hc
            refine jd_aload_n (pc := 60) 0 dX12_change_60 rfl rfl ?_
            refine jd_getR (pc := 61) (ci := 11) (k := 12) (r := (t + 19)) gX12_43 ht.1 rfl (zModel_p12 ht) dX12_change_61 ?_
            refine jd_iload_n (pc := 64) 1 dX12_change_64 rfl rfl ?_
            obtain ⟨hv21, h⟩ := h
            refine jd_iald (pc := 65) (len := 8) (zModel_a12 ht) hv21 dX12_change_65 ?_
            refine jd_istore (pc := 66) [(4, .int (I19 (t + 19) (Int32.toNatClampNeg x1))), (0, .ref (gb G + t)), (1, .int x1), (2, .int x2), (3, .int x3)] dX12_change_66 (by decide) rfl ?_
            refine jd_iload_n (pc := 68) 3 dX12_change_68 rfl rfl ?_
            refine jd_if_ne (pc := 69) 82 dX12_change_69 (by decide) (fun hc => ?_) (fun hc => ?_)
            · have h := h.1 hc
              refine jd_aload_n (pc := 82) 1 dX12_change_82 rfl rfl ?_
              refine jd_getR (pc := 83) (ci := 11) (k := 12) (r := (t + 19)) gX12_43 ht.1 rfl (zModel_p12 ht) dX12_change_83 ?_
              refine jd_iload_n (pc := 86) 2 dX12_change_86 rfl rfl ?_
              refine jd_iload_n (pc := 87) 4 dX12_change_87 rfl rfl ?_
              obtain ⟨hv22, h⟩ := h
              refine jd_iast (pc := 88) (len := 8) (zModel_a12 ht) hv22 dX12_change_88 ?_
              refine jd_iload (pc := 89) 0 dX12_change_89 rfl ?_
              exact jd_iretK (pc := 91) rfl rfl dX12_change_91 h
            · have h := h.2 hc
              refine jd_aload_n (pc := 72) 1 dX12_change_72 rfl rfl ?_
              refine jd_getR (pc := 73) (ci := 11) (k := 11) (r := (t + 18)) gX12_40 ht.1 rfl (zModel_p11 ht) dX12_change_73 ?_
              refine jd_iload_n (pc := 76) 2 dX12_change_76 rfl rfl ?_
              refine jd_iload_n (pc := 77) 4 dX12_change_77 rfl rfl ?_
              obtain ⟨hv23, h⟩ := h
              refine jd_iast (pc := 78) (len := 8) (zModel_a11 ht) hv23 dX12_change_78 ?_
              refine jd_goto (pc := 79) 89 dX12_change_79 (by decide) ?_
              refine jd_iload (pc := 89) 0 dX12_change_89 rfl ?_
              exact jd_iretK (pc := 91) rfl rfl dX12_change_91 h
          · have h := h.2 hc
            refine jd_aload_n (pc := 51) 0 dX12_change_51 rfl rfl ?_
            refine jd_getR (pc := 52) (ci := 11) (k := 11) (r := (t + 18)) gX12_40 ht.1 rfl (zModel_p11 ht) dX12_change_52 ?_
            refine jd_iload_n (pc := 55) 1 dX12_change_55 rfl rfl ?_
            obtain ⟨hv24, h⟩ := h
            refine jd_iald (pc := 56) (len := 8) (zModel_a11 ht) hv24 dX12_change_56 ?_
            refine jd_goto (pc := 57) 66 dX12_change_57 (by decide) ?_
            refine jd_istore (pc := 66) [(4, .int (I19 (t + 18) (Int32.toNatClampNeg x1))), (0, .ref (gb G + t)), (1, .int x1), (2, .int x2), (3, .int x3)] dX12_change_66 (by decide) rfl ?_
            refine jd_iload_n (pc := 68) 3 dX12_change_68 rfl rfl ?_
            refine jd_if_ne (pc := 69) 82 dX12_change_69 (by decide) (fun hc => ?_) (fun hc => ?_)
            · have h := h.1 hc
              refine jd_aload_n (pc := 82) 1 dX12_change_82 rfl rfl ?_
              refine jd_getR (pc := 83) (ci := 11) (k := 12) (r := (t + 19)) gX12_43 ht.1 rfl (zModel_p12 ht) dX12_change_83 ?_
              refine jd_iload_n (pc := 86) 2 dX12_change_86 rfl rfl ?_
              refine jd_iload_n (pc := 87) 4 dX12_change_87 rfl rfl ?_
              obtain ⟨hv25, h⟩ := h
              refine jd_iast (pc := 88) (len := 8) (zModel_a12 ht) hv25 dX12_change_88 ?_
              refine jd_iload (pc := 89) 0 dX12_change_89 rfl ?_
              exact jd_iretK (pc := 91) rfl rfl dX12_change_91 h
            · have h := h.2 hc
              refine jd_aload_n (pc := 72) 1 dX12_change_72 rfl rfl ?_
              refine jd_getR (pc := 73) (ci := 11) (k := 11) (r := (t + 18)) gX12_40 ht.1 rfl (zModel_p11 ht) dX12_change_73 ?_
              refine jd_iload_n (pc := 76) 2 dX12_change_76 rfl rfl ?_
              refine jd_iload_n (pc := 77) 4 dX12_change_77 rfl rfl ?_
              obtain ⟨hv26, h⟩ := h
              refine jd_iast (pc := 78) (len := 8) (zModel_a11 ht) hv26 dX12_change_78 ?_
              refine jd_goto (pc := 79) 89 dX12_change_79 (by decide) ?_
              refine jd_iload (pc := 89) 0 dX12_change_89 rfl ?_
              exact jd_iretK (pc := 91) rfl rfl dX12_change_91 h
        · have h := h.2 hc
          refine jd_aload_n (pc := 40) 0 dX12_change_40 rfl rfl ?_
          refine jd_bipush (pc := 41) (v := (-2)) dX12_change_41 (by decide) ?_
          refine jd_callVi (pc := 43) (M2 := mX12_refuse) (id := t) (ci := 11) (T := TX12) (N := 45) (av := [.int (-2)]) kX12_refuse sX12_refuse rfl ht.1 lX12_102 rfl rfl (Nat.le_of_ble_eq_true rfl) dX12_change_43 h ?_
          intro v28 I27 J27 h
          exact jd_iretK (pc := 46) rfl rfl dX12_change_46 h
theorem eX12_change {G : jdG} {n : Nat} {Z : jdL} {I : jdI} {J : jdJ} {K : Int32 → jdI → jdJ → Prop} {t : Nat} {x1 : Int32} {x2 : Int32} {x3 : Int32} (ht : zModel Z t) (h : Cl G mX12_isOne n 0 0 [.ref (gb G + t), .int x1] Z I J (qi Z (fun v2 I1 J1 => ((v2 = 0 → Cl G mX12_refuse n 0 0 [.ref (gb G + t), .int (-2)] Z I1 J1 (qi Z (fun v4 I3 J3 => K v4 I3 J3))) ∧ (¬ v2 = 0 → Cl G mX12_in n 0 0 [.long (Int32.toInt64 x2), .long 0, .long 1] Z I1 J1 (qi Z (fun v6 I5 J5 => ((v6 = 0 → Cl G mX12_refuse n 0 0 [.ref (gb G + t), .int (-2)] Z I5 J5 (qi Z (fun v8 I7 J7 => K v8 I7 J7))) ∧ (¬ v6 = 0 → ((¬ x2 = 0 → Cl G mX12_in n 0 0 [.long (Int32.toInt64 x3), .long 0, .long 9] Z I5 J5 (qi Z (fun v10 I9 J9 => ((¬ v10 = 0 → ((¬ x2 = 0 → (vp_in x1 8 ∧ ((¬ x2 = 0 → (vp_in x1 8 ∧ K (I9 (t + 19) (Int32.toNatClampNeg x1)) (uI I9 (t + 19) (Int32.toNatClampNeg x1) x3) J9)) ∧ (x2 = 0 → (vp_in x1 8 ∧ K (I9 (t + 19) (Int32.toNatClampNeg x1)) (uI I9 (t + 18) (Int32.toNatClampNeg x1) x3) J9))))) ∧ (x2 = 0 → (vp_in x1 8 ∧ ((¬ x2 = 0 → (vp_in x1 8 ∧ K (I9 (t + 18) (Int32.toNatClampNeg x1)) (uI I9 (t + 19) (Int32.toNatClampNeg x1) x3) J9)) ∧ (x2 = 0 → (vp_in x1 8 ∧ K (I9 (t + 18) (Int32.toNatClampNeg x1)) (uI I9 (t + 18) (Int32.toNatClampNeg x1) x3) J9))))))) ∧ (v10 = 0 → Cl G mX12_refuse n 0 0 [.ref (gb G + t), .int (-2)] Z I9 J9 (qi Z (fun v18 I17 J17 => K v18 I17 J17))))))) ∧ (x2 = 0 → Cl G mX12_in n 0 0 [.long (Int32.toInt64 x3), .long 0, .long 23] Z I5 J5 (qi Z (fun v20 I19 J19 => ((¬ v20 = 0 → ((¬ x2 = 0 → (vp_in x1 8 ∧ ((¬ x2 = 0 → (vp_in x1 8 ∧ K (I19 (t + 19) (Int32.toNatClampNeg x1)) (uI I19 (t + 19) (Int32.toNatClampNeg x1) x3) J19)) ∧ (x2 = 0 → (vp_in x1 8 ∧ K (I19 (t + 19) (Int32.toNatClampNeg x1)) (uI I19 (t + 18) (Int32.toNatClampNeg x1) x3) J19))))) ∧ (x2 = 0 → (vp_in x1 8 ∧ ((¬ x2 = 0 → (vp_in x1 8 ∧ K (I19 (t + 18) (Int32.toNatClampNeg x1)) (uI I19 (t + 19) (Int32.toNatClampNeg x1) x3) J19)) ∧ (x2 = 0 → (vp_in x1 8 ∧ K (I19 (t + 18) (Int32.toNatClampNeg x1)) (uI I19 (t + 18) (Int32.toNatClampNeg x1) x3) J19))))))) ∧ (v20 = 0 → Cl G mX12_refuse n 0 0 [.ref (gb G + t), .int (-2)] Z I19 J19 (qi Z (fun v28 I27 J27 => K v28 I27 J27))))))))))))))))) : Cl G mX12_change (n + 1) 0 0 [.ref (gb G + t), .int x1, .int x2, .int x3] Z I J (qi Z K) :=
  Cl.of (by decide +kernel) (Nat.le_of_ble_eq_true rfl) (rX12_change_0 ht h)
set_option maxRecDepth 4000 in
theorem rX12_knows_0 {G : jdG} {n rc rs : Nat} {Z : jdL} {I : jdI} {J : jdJ} {K : jdI → jdJ → Prop} {t : Nat} {x1 : Int32} {x2 : Int32} {x3 : Int32} (ht : zModel Z t) (h : (vp_in x1 8 ∧ (vp_in x2 8 ∧ (vp_in x2 8 ∧ (vp_in x1 8 ∧ K (uI (uI I (t + 21 + (Int32.toNatClampNeg x1)) (Int32.toNatClampNeg x2) x3) (t + 21 + (Int32.toNatClampNeg x2)) (Int32.toNatClampNeg x1) x3) J))))) : Jd G mX12_knows (jdFm G (qv Z K)) n rc rs 0 [(0, .ref (gb G + t)), (1, .int x1), (2, .int x2), (3, .int x3)] [] Z I J := by
  refine jd_aload_n (pc := 0) 0 dX12_knows_0 rfl rfl ?_
  refine jd_getR (pc := 1) (ci := 11) (k := 13) (r := (t + 20)) gX12_48 ht.1 rfl (zModel_p13 ht) dX12_knows_1 ?_
  refine jd_iload_n (pc := 4) 1 dX12_knows_4 rfl rfl ?_
  obtain ⟨hv1, h⟩ := h
  refine jd_aald (pc := 5) (len := 8) (k := 2) (zModel_a13 ht) (by decide) hv1 (zModel_known ht (vp_lt hv1)) dX12_knows_5 ?_
  refine jd_iload_n (pc := 6) 2 dX12_knows_6 rfl rfl ?_
  refine jd_iload_n (pc := 7) 3 dX12_knows_7 rfl rfl ?_
  obtain ⟨hv2, h⟩ := h
  refine jd_iast (pc := 8) (len := 8) (zModel_knownA ht (vp_lt hv1)) hv2 dX12_knows_8 ?_
  refine jd_aload_n (pc := 9) 0 dX12_knows_9 rfl rfl ?_
  refine jd_getR (pc := 10) (ci := 11) (k := 13) (r := (t + 20)) gX12_48 ht.1 rfl (zModel_p13 ht) dX12_knows_10 ?_
  refine jd_iload_n (pc := 13) 2 dX12_knows_13 rfl rfl ?_
  obtain ⟨hv3, h⟩ := h
  refine jd_aald (pc := 14) (len := 8) (k := 2) (zModel_a13 ht) (by decide) hv3 (zModel_known ht (vp_lt hv3)) dX12_knows_14 ?_
  refine jd_iload_n (pc := 15) 1 dX12_knows_15 rfl rfl ?_
  refine jd_iload_n (pc := 16) 3 dX12_knows_16 rfl rfl ?_
  obtain ⟨hv4, h⟩ := h
  refine jd_iast (pc := 17) (len := 8) (zModel_knownA ht (vp_lt hv3)) hv4 dX12_knows_17 ?_
  exact jd_vretK (pc := 18) rfl dX12_knows_18 h
theorem eX12_knows {G : jdG} {n : Nat} {Z : jdL} {I : jdI} {J : jdJ} {K : jdI → jdJ → Prop} {t : Nat} {x1 : Int32} {x2 : Int32} {x3 : Int32} (ht : zModel Z t) (h : (vp_in x1 8 ∧ (vp_in x2 8 ∧ (vp_in x2 8 ∧ (vp_in x1 8 ∧ K (uI (uI I (t + 21 + (Int32.toNatClampNeg x1)) (Int32.toNatClampNeg x2) x3) (t + 21 + (Int32.toNatClampNeg x2)) (Int32.toNatClampNeg x1) x3) J))))) : Cl G mX12_knows (n) 0 0 [.ref (gb G + t), .int x1, .int x2, .int x3] Z I J (qv Z K) :=
  Cl.of (by decide +kernel) (Nat.le_of_ble_eq_true rfl) (rX12_knows_0 ht h)
set_option maxRecDepth 4000 in
theorem rX12_areTwo_0 {G : jdG} {n rc rs : Nat} {Z : jdL} {I : jdI} {J : jdJ} {K : Int32 → jdI → jdJ → Prop} {t : Nat} {x1 : Int32} {x2 : Int32} (ht : zModel Z t) (h : Cl G mX12_isOne n 0 0 [.ref (gb G + t), .int x1] Z I J (qi Z (fun v2 I1 J1 => ((v2 = 0 → K 0 I1 J1) ∧ (¬ v2 = 0 → Cl G mX12_isOne n 0 0 [.ref (gb G + t), .int x2] Z I1 J1 (qi Z (fun v4 I3 J3 => ((v4 = 0 → K 0 I3 J3) ∧ (¬ v4 = 0 → ((x1 = x2 → K 0 I3 J3) ∧ (¬ x1 = x2 → K 1 I3 J3))))))))))) : Jd G mX12_areTwo (jdFm G (qi Z K)) (n + 1) rc rs 0 [(0, .ref (gb G + t)), (1, .int x1), (2, .int x2)] [] Z I J := by
  refine jd_aload_n (pc := 0) 0 dX12_areTwo_0 rfl rfl ?_
  refine jd_iload_n (pc := 1) 1 dX12_areTwo_1 rfl rfl ?_
  refine jd_callVi (pc := 2) (M2 := mX12_isOne) (id := t) (ci := 11) (T := TX12) (N := 45) (av := [.int x1]) kX12_isOne sX12_isOne rfl ht.1 lX12_131 rfl rfl (Nat.le_of_ble_eq_true rfl) dX12_areTwo_2 h ?_
  intro v2 I1 J1 h
  refine jd_if_eq (pc := 5) 25 dX12_areTwo_5 (by decide) (fun hc => ?_) (fun hc => ?_)
  · have h := h.1 hc
    refine jd_iconst (pc := 25) (v := 0) dX12_areTwo_25 (by decide) ?_
    exact jd_iretK (pc := 26) (ty := .boolean) rfl (by decide) dX12_areTwo_26 h
  · have h := h.2 hc
    refine jd_aload_n (pc := 8) 0 dX12_areTwo_8 rfl rfl ?_
    refine jd_iload_n (pc := 9) 2 dX12_areTwo_9 rfl rfl ?_
    refine jd_callVi (pc := 10) (M2 := mX12_isOne) (id := t) (ci := 11) (T := TX12) (N := 45) (av := [.int x2]) kX12_isOne sX12_isOne rfl ht.1 lX12_131 rfl rfl (Nat.le_of_ble_eq_true rfl) dX12_areTwo_10 h ?_
    intro v4 I3 J3 h
    refine jd_if_eq (pc := 13) 25 dX12_areTwo_13 (by decide) (fun hc => ?_) (fun hc => ?_)
    · have h := h.1 hc
      refine jd_iconst (pc := 25) (v := 0) dX12_areTwo_25 (by decide) ?_
      exact jd_iretK (pc := 26) (ty := .boolean) rfl (by decide) dX12_areTwo_26 h
    · have h := h.2 hc
      refine jd_iload_n (pc := 16) 1 dX12_areTwo_16 rfl rfl ?_
      refine jd_iload_n (pc := 17) 2 dX12_areTwo_17 rfl rfl ?_
      refine jd_icmp_eq (pc := 18) 25 dX12_areTwo_18 (by decide) (fun hc => ?_) (fun hc => ?_)
      · have h := h.1 hc
        refine jd_iconst (pc := 25) (v := 0) dX12_areTwo_25 (by decide) ?_
        exact jd_iretK (pc := 26) (ty := .boolean) rfl (by decide) dX12_areTwo_26 h
      · have h := h.2 hc
        refine jd_iconst (pc := 21) (v := 1) dX12_areTwo_21 (by decide) ?_
        refine jd_goto (pc := 22) 26 dX12_areTwo_22 (by decide) ?_
        exact jd_iretK (pc := 26) (ty := .boolean) rfl (by decide) dX12_areTwo_26 h
theorem eX12_areTwo {G : jdG} {n : Nat} {Z : jdL} {I : jdI} {J : jdJ} {K : Int32 → jdI → jdJ → Prop} {t : Nat} {x1 : Int32} {x2 : Int32} (ht : zModel Z t) (h : Cl G mX12_isOne n 0 0 [.ref (gb G + t), .int x1] Z I J (qi Z (fun v2 I1 J1 => ((v2 = 0 → K 0 I1 J1) ∧ (¬ v2 = 0 → Cl G mX12_isOne n 0 0 [.ref (gb G + t), .int x2] Z I1 J1 (qi Z (fun v4 I3 J3 => ((v4 = 0 → K 0 I3 J3) ∧ (¬ v4 = 0 → ((x1 = x2 → K 0 I3 J3) ∧ (¬ x1 = x2 → K 1 I3 J3))))))))))) : Cl G mX12_areTwo (n + 1) 0 0 [.ref (gb G + t), .int x1, .int x2] Z I J (qi Z K) :=
  Cl.of (by decide +kernel) (Nat.le_of_ble_eq_true rfl) (rX12_areTwo_0 ht h)
set_option maxRecDepth 4000 in
theorem rX12_know_0 {G : jdG} {n rc rs : Nat} {Z : jdL} {I : jdI} {J : jdJ} {K : Int32 → jdI → jdJ → Prop} {t : Nat} {x1 : Int32} {x2 : Int32} {x3 : Int32} (ht : zModel Z t) (h : Cl G mX12_areTwo n 0 0 [.ref (gb G + t), .int x1, .int x2] Z I J (qi Z (fun v2 I1 J1 => ((v2 = 0 → Cl G mX12_refuse n 0 0 [.ref (gb G + t), .int (-2)] Z I1 J1 (qi Z (fun v4 I3 J3 => K v4 I3 J3))) ∧ (¬ v2 = 0 → Cl G mX12_in n 0 0 [.long (Int32.toInt64 x3), .long (-1), .long 99] Z I1 J1 (qi Z (fun v6 I5 J5 => ((¬ v6 = 0 → (vp_in x1 8 ∧ (vp_in x2 8 ∧ Cl G mX12_knows n 0 0 [.ref (gb G + t), .int x1, .int x2, .int x3] Z I5 J5 (qv Z (fun I9 J9 => K (I5 (t + 21 + (Int32.toNatClampNeg x1)) (Int32.toNatClampNeg x2)) I9 J9))))) ∧ (v6 = 0 → Cl G mX12_refuse n 0 0 [.ref (gb G + t), .int (-2)] Z I5 J5 (qi Z (fun v12 I11 J11 => K v12 I11 J11))))))))))) : Jd G mX12_know (jdFm G (qi Z K)) (n + 1) rc rs 0 [(0, .ref (gb G + t)), (1, .int x1), (2, .int x2), (3, .int x3)] [] Z I J := by
  refine jd_aload_n (pc := 0) 0 dX12_know_0 rfl rfl ?_
  refine jd_iload_n (pc := 1) 1 dX12_know_1 rfl rfl ?_
  refine jd_iload_n (pc := 2) 2 dX12_know_2 rfl rfl ?_
  refine jd_callVi (pc := 3) (M2 := mX12_areTwo) (id := t) (ci := 11) (T := TX12) (N := 45) (av := [.int x1, .int x2]) kX12_areTwo sX12_areTwo rfl ht.1 lX12_135 rfl rfl (Nat.le_of_ble_eq_true rfl) dX12_know_3 h ?_
  intro v2 I1 J1 h
  refine jd_if_eq (pc := 6) 23 dX12_know_6 (by decide) (fun hc => ?_) (fun hc => ?_)
  · have h := h.1 hc
    refine jd_aload_n (pc := 23) 0 dX12_know_23 rfl rfl ?_
    refine jd_bipush (pc := 24) (v := (-2)) dX12_know_24 (by decide) ?_
    refine jd_callVi (pc := 26) (M2 := mX12_refuse) (id := t) (ci := 11) (T := TX12) (N := 45) (av := [.int (-2)]) kX12_refuse sX12_refuse rfl ht.1 lX12_102 rfl rfl (Nat.le_of_ble_eq_true rfl) dX12_know_26 h ?_
    intro v4 I3 J3 h
    exact jd_iretK (pc := 29) rfl rfl dX12_know_29 h
  · have h := h.2 hc
    refine jd_iload_n (pc := 9) 3 dX12_know_9 rfl rfl ?_
    refine jd_i2l (pc := 10) dX12_know_10 ?_
    refine jd_ldc2 (pc := 11) (v := (-1)) qX12_138 dX12_know_11 ?_
    refine jd_ldc2 (pc := 14) (v := 99) qX12_140 dX12_know_14 ?_
    refine jd_callSi (pc := 17) (M2 := mX12_in) (av := [.long (Int32.toInt64 x3), .long (-1), .long 99]) kX12_in sX12_in lX12_88 rfl rfl (Nat.le_of_ble_eq_true rfl) dX12_know_17 h ?_
    intro v6 I5 J5 h
    refine jd_if_ne (pc := 20) 30 dX12_know_20 (by decide) (fun hc => ?_) (fun hc => ?_)
    · have h := h.1 hc
      refine jd_aload_n (pc := 30) 0 dX12_know_30 rfl rfl ?_
      refine jd_getR (pc := 31) (ci := 11) (k := 13) (r := (t + 20)) gX12_48 ht.1 rfl (zModel_p13 ht) dX12_know_31 ?_
      refine jd_iload_n (pc := 34) 1 dX12_know_34 rfl rfl ?_
      obtain ⟨hv7, h⟩ := h
      refine jd_aald (pc := 35) (len := 8) (k := 2) (zModel_a13 ht) (by decide) hv7 (zModel_known ht (vp_lt hv7)) dX12_know_35 ?_
      refine jd_iload_n (pc := 36) 2 dX12_know_36 rfl rfl ?_
      obtain ⟨hv8, h⟩ := h
      refine jd_iald (pc := 37) (len := 8) (zModel_knownA ht (vp_lt hv7)) hv8 dX12_know_37 ?_
      refine jd_istore (pc := 38) [(4, .int (I5 (t + 21 + (Int32.toNatClampNeg x1)) (Int32.toNatClampNeg x2))), (0, .ref (gb G + t)), (1, .int x1), (2, .int x2), (3, .int x3)] dX12_know_38 (by decide) rfl ?_
      refine jd_aload_n (pc := 40) 1 dX12_know_40 rfl rfl ?_
      refine jd_iload_n (pc := 41) 2 dX12_know_41 rfl rfl ?_
      refine jd_iload_n (pc := 42) 3 dX12_know_42 rfl rfl ?_
      refine jd_iload_n (pc := 43) 4 dX12_know_43 rfl rfl ?_
      refine jd_callVv (pc := 44) (M2 := mX12_knows) (id := t) (ci := 11) (T := TX12) (N := 45) (av := [.int x1, .int x2, .int x3]) kX12_knows sX12_knows rfl ht.1 lX12_142 rfl rfl (Nat.le_of_ble_eq_true rfl) dX12_know_44 h ?_
      intro I9 J9 h
      refine jd_iload (pc := 47) 0 dX12_know_47 rfl ?_
      exact jd_iretK (pc := 49) rfl rfl dX12_know_49 h
    · have h := h.2 hc
      refine jd_aload_n (pc := 23) 0 dX12_know_23 rfl rfl ?_
      refine jd_bipush (pc := 24) (v := (-2)) dX12_know_24 (by decide) ?_
      refine jd_callVi (pc := 26) (M2 := mX12_refuse) (id := t) (ci := 11) (T := TX12) (N := 45) (av := [.int (-2)]) kX12_refuse sX12_refuse rfl ht.1 lX12_102 rfl rfl (Nat.le_of_ble_eq_true rfl) dX12_know_26 h ?_
      intro v12 I11 J11 h
      exact jd_iretK (pc := 29) rfl rfl dX12_know_29 h
theorem eX12_know {G : jdG} {n : Nat} {Z : jdL} {I : jdI} {J : jdJ} {K : Int32 → jdI → jdJ → Prop} {t : Nat} {x1 : Int32} {x2 : Int32} {x3 : Int32} (ht : zModel Z t) (h : Cl G mX12_areTwo n 0 0 [.ref (gb G + t), .int x1, .int x2] Z I J (qi Z (fun v2 I1 J1 => ((v2 = 0 → Cl G mX12_refuse n 0 0 [.ref (gb G + t), .int (-2)] Z I1 J1 (qi Z (fun v4 I3 J3 => K v4 I3 J3))) ∧ (¬ v2 = 0 → Cl G mX12_in n 0 0 [.long (Int32.toInt64 x3), .long (-1), .long 99] Z I1 J1 (qi Z (fun v6 I5 J5 => ((¬ v6 = 0 → (vp_in x1 8 ∧ (vp_in x2 8 ∧ Cl G mX12_knows n 0 0 [.ref (gb G + t), .int x1, .int x2, .int x3] Z I5 J5 (qv Z (fun I9 J9 => K (I5 (t + 21 + (Int32.toNatClampNeg x1)) (Int32.toNatClampNeg x2)) I9 J9))))) ∧ (v6 = 0 → Cl G mX12_refuse n 0 0 [.ref (gb G + t), .int (-2)] Z I5 J5 (qi Z (fun v12 I11 J11 => K v12 I11 J11))))))))))) : Cl G mX12_know (n + 1) 0 0 [.ref (gb G + t), .int x1, .int x2, .int x3] Z I J (qi Z K) :=
  Cl.of (by decide +kernel) (Nat.le_of_ble_eq_true rfl) (rX12_know_0 ht h)
set_option maxRecDepth 4000 in
theorem rX12_ask_0 {G : jdG} {n rc rs : Nat} {Z : jdL} {I : jdI} {J : jdJ} {K : Int32 → jdI → jdJ → Prop} {t : Nat} {x1 : Int32} {x2 : Int32} (ht : zModel Z t) (h : Cl G mX12_in n 0 0 [.long (Int32.toInt64 x1), .long 0, .long 1] Z I J (qi Z (fun v2 I1 J1 => ((v2 = 0 → Cl G mX12_refuse n 0 0 [.ref (gb G + t), .int (-2)] Z I1 J1 (qi Z (fun v4 I3 J3 => K v4 I3 J3))) ∧ (¬ v2 = 0 → ((¬ x1 = 0 → ((¬ x1 = 0 → Cl G mX12_in n 0 0 [.long (Int32.toInt64 x2), .long 0, .long 99] Z I1 J1 (qi Z (fun v6 I5 J5 => ((¬ v6 = 0 → ((¬ x1 = 0 → ((¬ x1 = 0 → K (I5 t 15) (uI I5 t 15 x2) J5) ∧ (x1 = 0 → K (I5 t 15) (uI I5 t 14 x2) J5))) ∧ (x1 = 0 → ((¬ x1 = 0 → K (I5 t 14) (uI I5 t 15 x2) J5) ∧ (x1 = 0 → K (I5 t 14) (uI I5 t 14 x2) J5))))) ∧ (v6 = 0 → Cl G mX12_refuse n 0 0 [.ref (gb G + t), .int (-2)] Z I5 J5 (qi Z (fun v8 I7 J7 => K v8 I7 J7))))))) ∧ (x1 = 0 → Cl G mX12_in n 0 0 [.long (Int32.toInt64 x2), .long 0, .long 4] Z I1 J1 (qi Z (fun v10 I9 J9 => ((¬ v10 = 0 → ((¬ x1 = 0 → ((¬ x1 = 0 → K (I9 t 15) (uI I9 t 15 x2) J9) ∧ (x1 = 0 → K (I9 t 15) (uI I9 t 14 x2) J9))) ∧ (x1 = 0 → ((¬ x1 = 0 → K (I9 t 14) (uI I9 t 15 x2) J9) ∧ (x1 = 0 → K (I9 t 14) (uI I9 t 14 x2) J9))))) ∧ (v10 = 0 → Cl G mX12_refuse n 0 0 [.ref (gb G + t), .int (-2)] Z I9 J9 (qi Z (fun v12 I11 J11 => K v12 I11 J11))))))))) ∧ (x1 = 0 → ((¬ x1 = 0 → Cl G mX12_in n 0 0 [.long (Int32.toInt64 x2), .long 2, .long 99] Z I1 J1 (qi Z (fun v14 I13 J13 => ((¬ v14 = 0 → ((¬ x1 = 0 → ((¬ x1 = 0 → K (I13 t 15) (uI I13 t 15 x2) J13) ∧ (x1 = 0 → K (I13 t 15) (uI I13 t 14 x2) J13))) ∧ (x1 = 0 → ((¬ x1 = 0 → K (I13 t 14) (uI I13 t 15 x2) J13) ∧ (x1 = 0 → K (I13 t 14) (uI I13 t 14 x2) J13))))) ∧ (v14 = 0 → Cl G mX12_refuse n 0 0 [.ref (gb G + t), .int (-2)] Z I13 J13 (qi Z (fun v16 I15 J15 => K v16 I15 J15))))))) ∧ (x1 = 0 → Cl G mX12_in n 0 0 [.long (Int32.toInt64 x2), .long 2, .long 4] Z I1 J1 (qi Z (fun v18 I17 J17 => ((¬ v18 = 0 → ((¬ x1 = 0 → ((¬ x1 = 0 → K (I17 t 15) (uI I17 t 15 x2) J17) ∧ (x1 = 0 → K (I17 t 15) (uI I17 t 14 x2) J17))) ∧ (x1 = 0 → ((¬ x1 = 0 → K (I17 t 14) (uI I17 t 15 x2) J17) ∧ (x1 = 0 → K (I17 t 14) (uI I17 t 14 x2) J17))))) ∧ (v18 = 0 → Cl G mX12_refuse n 0 0 [.ref (gb G + t), .int (-2)] Z I17 J17 (qi Z (fun v20 I19 J19 => K v20 I19 J19))))))))))))))) : Jd G mX12_ask (jdFm G (qi Z K)) (n + 1) rc rs 0 [(0, .ref (gb G + t)), (1, .int x1), (2, .int x2)] [] Z I J := by
  refine jd_iload_n (pc := 0) 1 dX12_ask_0 rfl rfl ?_
  refine jd_i2l (pc := 1) dX12_ask_1 ?_
  refine jd_lconst (pc := 2) (v := 0) dX12_ask_2 (by decide) ?_
  refine jd_lconst (pc := 3) (v := 1) dX12_ask_3 (by decide) ?_
  refine jd_callSi (pc := 4) (M2 := mX12_in) (av := [.long (Int32.toInt64 x1), .long 0, .long 1]) kX12_in sX12_in lX12_88 rfl rfl (Nat.le_of_ble_eq_true rfl) dX12_ask_4 h ?_
  intro v2 I1 J1 h
  refine jd_if_eq (pc := 7) 42 dX12_ask_7 (by decide) (fun hc => ?_) (fun hc => ?_)
  · have h := h.1 hc
    refine jd_aload_n (pc := 42) 0 dX12_ask_42 rfl rfl ?_
    refine jd_bipush (pc := 43) (v := (-2)) dX12_ask_43 (by decide) ?_
    refine jd_callVi (pc := 45) (M2 := mX12_refuse) (id := t) (ci := 11) (T := TX12) (N := 45) (av := [.int (-2)]) kX12_refuse sX12_refuse rfl ht.1 lX12_102 rfl rfl (Nat.le_of_ble_eq_true rfl) dX12_ask_45 h ?_
    intro v4 I3 J3 h
    exact jd_iretK (pc := 48) rfl rfl dX12_ask_48 h
  · have h := h.2 hc
    refine jd_iload_n (pc := 10) 2 dX12_ask_10 rfl rfl ?_
    refine jd_i2l (pc := 11) dX12_ask_11 ?_
    refine jd_iload_n (pc := 12) 1 dX12_ask_12 rfl rfl ?_
    refine jd_if_ne (pc := 13) 22 dX12_ask_13 (by decide) (fun hc => ?_) (fun hc => ?_)
    · have h := h.1 hc
      refine jd_lconst (pc := 22) (v := 0) dX12_ask_22 (by decide) ?_
      refine jd_iload_n (pc := 23) 1 dX12_ask_23 rfl rfl ?_
      refine jd_if_ne (pc := 24) 33 dX12_ask_24 (by decide) (fun hc => ?_) (fun hc => ?_)
      · have h := h.1 hc
        refine jd_ldc2 (pc := 33) (v := 99) qX12_140 dX12_ask_33 ?_
        refine jd_callSi (pc := 36) (M2 := mX12_in) (av := [.long (Int32.toInt64 x2), .long 0, .long 99]) kX12_in sX12_in lX12_88 rfl rfl (Nat.le_of_ble_eq_true rfl) dX12_ask_36 h ?_
        intro v6 I5 J5 h
        refine jd_if_ne (pc := 39) 49 dX12_ask_39 (by decide) (fun hc => ?_) (fun hc => ?_)
        · have h := h.1 hc
          refine jd_iload_n (pc := 49) 1 dX12_ask_49 rfl rfl ?_
          refine jd_if_ne (pc := 50) 60 dX12_ask_50 (by decide) (fun hc => ?_) (fun hc => ?_)
          · have h := h.1 hc
            refine jd_aload_n (pc := 60) 0 dX12_ask_60 rfl rfl ?_
            refine jd_getI (pc := 61) (ci := 11) (k := 15) gX12_148 ht.1 rfl dX12_ask_61 ?_
            refine jd_istore_n (pc := 64) [(3, .int (I5 t 15)), (0, .ref (gb G + t)), (1, .int x1), (2, .int x2)] dX12_ask_64 rfl (by decide) rfl ?_
            refine jd_iload_n (pc := 65) 2 dX12_ask_65 rfl rfl ?_
            refine jd_if_ne (pc := 66) 77 dX12_ask_66 (by decide) (fun hc => ?_) (fun hc => ?_)
            · have h := h.1 hc
              refine jd_aload_n (pc := 77) 1 dX12_ask_77 rfl rfl ?_
              refine jd_iload_n (pc := 78) 3 dX12_ask_78 rfl rfl ?_
              refine jd_putI (pc := 79) (ci := 11) (k := 15) pX12_148 ht.1 rfl rfl rfl dX12_ask_79 ?_
              refine jd_iload_n (pc := 82) 0 dX12_ask_82 rfl rfl ?_
              exact jd_iretK (pc := 83) rfl rfl dX12_ask_83 h
            · have h := h.2 hc
              refine jd_aload_n (pc := 69) 1 dX12_ask_69 rfl rfl ?_
              refine jd_iload_n (pc := 70) 3 dX12_ask_70 rfl rfl ?_
              refine jd_putI (pc := 71) (ci := 11) (k := 14) pX12_51 ht.1 rfl rfl rfl dX12_ask_71 ?_
              refine jd_goto (pc := 74) 82 dX12_ask_74 (by decide) ?_
              refine jd_iload_n (pc := 82) 0 dX12_ask_82 rfl rfl ?_
              exact jd_iretK (pc := 83) rfl rfl dX12_ask_83 h
          · have h := h.2 hc
            refine jd_aload_n (pc := 53) 0 dX12_ask_53 rfl rfl ?_
            refine jd_getI (pc := 54) (ci := 11) (k := 14) gX12_51 ht.1 rfl dX12_ask_54 ?_
            refine jd_goto (pc := 57) 64 dX12_ask_57 (by decide) ?_
            refine jd_istore_n (pc := 64) [(3, .int (I5 t 14)), (0, .ref (gb G + t)), (1, .int x1), (2, .int x2)] dX12_ask_64 rfl (by decide) rfl ?_
            refine jd_iload_n (pc := 65) 2 dX12_ask_65 rfl rfl ?_
            refine jd_if_ne (pc := 66) 77 dX12_ask_66 (by decide) (fun hc => ?_) (fun hc => ?_)
            · have h := h.1 hc
              refine jd_aload_n (pc := 77) 1 dX12_ask_77 rfl rfl ?_
              refine jd_iload_n (pc := 78) 3 dX12_ask_78 rfl rfl ?_
              refine jd_putI (pc := 79) (ci := 11) (k := 15) pX12_148 ht.1 rfl rfl rfl dX12_ask_79 ?_
              refine jd_iload_n (pc := 82) 0 dX12_ask_82 rfl rfl ?_
              exact jd_iretK (pc := 83) rfl rfl dX12_ask_83 h
            · have h := h.2 hc
              refine jd_aload_n (pc := 69) 1 dX12_ask_69 rfl rfl ?_
              refine jd_iload_n (pc := 70) 3 dX12_ask_70 rfl rfl ?_
              refine jd_putI (pc := 71) (ci := 11) (k := 14) pX12_51 ht.1 rfl rfl rfl dX12_ask_71 ?_
              refine jd_goto (pc := 74) 82 dX12_ask_74 (by decide) ?_
              refine jd_iload_n (pc := 82) 0 dX12_ask_82 rfl rfl ?_
              exact jd_iretK (pc := 83) rfl rfl dX12_ask_83 h
        · have h := h.2 hc
          refine jd_aload_n (pc := 42) 0 dX12_ask_42 rfl rfl ?_
          refine jd_bipush (pc := 43) (v := (-2)) dX12_ask_43 (by decide) ?_
          refine jd_callVi (pc := 45) (M2 := mX12_refuse) (id := t) (ci := 11) (T := TX12) (N := 45) (av := [.int (-2)]) kX12_refuse sX12_refuse rfl ht.1 lX12_102 rfl rfl (Nat.le_of_ble_eq_true rfl) dX12_ask_45 h ?_
          intro v8 I7 J7 h
          exact jd_iretK (pc := 48) rfl rfl dX12_ask_48 h
      · have h := h.2 hc
        refine jd_ldc2 (pc := 27) (v := 4) qX12_98 dX12_ask_27 ?_
        refine jd_goto (pc := 30) 36 dX12_ask_30 (by decide) ?_
        refine jd_callSi (pc := 36) (M2 := mX12_in) (av := [.long (Int32.toInt64 x2), .long 0, .long 4]) kX12_in sX12_in lX12_88 rfl rfl (Nat.le_of_ble_eq_true rfl) dX12_ask_36 h ?_
        intro v10 I9 J9 h
        refine jd_if_ne (pc := 39) 49 dX12_ask_39 (by decide) (fun hc => ?_) (fun hc => ?_)
        · have h := h.1 hc
          refine jd_iload_n (pc := 49) 1 dX12_ask_49 rfl rfl ?_
          refine jd_if_ne (pc := 50) 60 dX12_ask_50 (by decide) (fun hc => ?_) (fun hc => ?_)
          · have h := h.1 hc
            refine jd_aload_n (pc := 60) 0 dX12_ask_60 rfl rfl ?_
            refine jd_getI (pc := 61) (ci := 11) (k := 15) gX12_148 ht.1 rfl dX12_ask_61 ?_
            refine jd_istore_n (pc := 64) [(3, .int (I9 t 15)), (0, .ref (gb G + t)), (1, .int x1), (2, .int x2)] dX12_ask_64 rfl (by decide) rfl ?_
            refine jd_iload_n (pc := 65) 2 dX12_ask_65 rfl rfl ?_
            refine jd_if_ne (pc := 66) 77 dX12_ask_66 (by decide) (fun hc => ?_) (fun hc => ?_)
            · have h := h.1 hc
              refine jd_aload_n (pc := 77) 1 dX12_ask_77 rfl rfl ?_
              refine jd_iload_n (pc := 78) 3 dX12_ask_78 rfl rfl ?_
              refine jd_putI (pc := 79) (ci := 11) (k := 15) pX12_148 ht.1 rfl rfl rfl dX12_ask_79 ?_
              refine jd_iload_n (pc := 82) 0 dX12_ask_82 rfl rfl ?_
              exact jd_iretK (pc := 83) rfl rfl dX12_ask_83 h
            · have h := h.2 hc
              refine jd_aload_n (pc := 69) 1 dX12_ask_69 rfl rfl ?_
              refine jd_iload_n (pc := 70) 3 dX12_ask_70 rfl rfl ?_
              refine jd_putI (pc := 71) (ci := 11) (k := 14) pX12_51 ht.1 rfl rfl rfl dX12_ask_71 ?_
              refine jd_goto (pc := 74) 82 dX12_ask_74 (by decide) ?_
              refine jd_iload_n (pc := 82) 0 dX12_ask_82 rfl rfl ?_
              exact jd_iretK (pc := 83) rfl rfl dX12_ask_83 h
          · have h := h.2 hc
            refine jd_aload_n (pc := 53) 0 dX12_ask_53 rfl rfl ?_
            refine jd_getI (pc := 54) (ci := 11) (k := 14) gX12_51 ht.1 rfl dX12_ask_54 ?_
            refine jd_goto (pc := 57) 64 dX12_ask_57 (by decide) ?_
            refine jd_istore_n (pc := 64) [(3, .int (I9 t 14)), (0, .ref (gb G + t)), (1, .int x1), (2, .int x2)] dX12_ask_64 rfl (by decide) rfl ?_
            refine jd_iload_n (pc := 65) 2 dX12_ask_65 rfl rfl ?_
            refine jd_if_ne (pc := 66) 77 dX12_ask_66 (by decide) (fun hc => ?_) (fun hc => ?_)
            · have h := h.1 hc
              refine jd_aload_n (pc := 77) 1 dX12_ask_77 rfl rfl ?_
              refine jd_iload_n (pc := 78) 3 dX12_ask_78 rfl rfl ?_
              refine jd_putI (pc := 79) (ci := 11) (k := 15) pX12_148 ht.1 rfl rfl rfl dX12_ask_79 ?_
              refine jd_iload_n (pc := 82) 0 dX12_ask_82 rfl rfl ?_
              exact jd_iretK (pc := 83) rfl rfl dX12_ask_83 h
            · have h := h.2 hc
              refine jd_aload_n (pc := 69) 1 dX12_ask_69 rfl rfl ?_
              refine jd_iload_n (pc := 70) 3 dX12_ask_70 rfl rfl ?_
              refine jd_putI (pc := 71) (ci := 11) (k := 14) pX12_51 ht.1 rfl rfl rfl dX12_ask_71 ?_
              refine jd_goto (pc := 74) 82 dX12_ask_74 (by decide) ?_
              refine jd_iload_n (pc := 82) 0 dX12_ask_82 rfl rfl ?_
              exact jd_iretK (pc := 83) rfl rfl dX12_ask_83 h
        · have h := h.2 hc
          refine jd_aload_n (pc := 42) 0 dX12_ask_42 rfl rfl ?_
          refine jd_bipush (pc := 43) (v := (-2)) dX12_ask_43 (by decide) ?_
          refine jd_callVi (pc := 45) (M2 := mX12_refuse) (id := t) (ci := 11) (T := TX12) (N := 45) (av := [.int (-2)]) kX12_refuse sX12_refuse rfl ht.1 lX12_102 rfl rfl (Nat.le_of_ble_eq_true rfl) dX12_ask_45 h ?_
          intro v12 I11 J11 h
          exact jd_iretK (pc := 48) rfl rfl dX12_ask_48 h
    · have h := h.2 hc
      refine jd_ldc2 (pc := 16) (v := 2) qX12_146 dX12_ask_16 ?_
      refine jd_goto (pc := 19) 23 dX12_ask_19 (by decide) ?_
      refine jd_iload_n (pc := 23) 1 dX12_ask_23 rfl rfl ?_
      refine jd_if_ne (pc := 24) 33 dX12_ask_24 (by decide) (fun hc => ?_) (fun hc => ?_)
      · have h := h.1 hc
        refine jd_ldc2 (pc := 33) (v := 99) qX12_140 dX12_ask_33 ?_
        refine jd_callSi (pc := 36) (M2 := mX12_in) (av := [.long (Int32.toInt64 x2), .long 2, .long 99]) kX12_in sX12_in lX12_88 rfl rfl (Nat.le_of_ble_eq_true rfl) dX12_ask_36 h ?_
        intro v14 I13 J13 h
        refine jd_if_ne (pc := 39) 49 dX12_ask_39 (by decide) (fun hc => ?_) (fun hc => ?_)
        · have h := h.1 hc
          refine jd_iload_n (pc := 49) 1 dX12_ask_49 rfl rfl ?_
          refine jd_if_ne (pc := 50) 60 dX12_ask_50 (by decide) (fun hc => ?_) (fun hc => ?_)
          · have h := h.1 hc
            refine jd_aload_n (pc := 60) 0 dX12_ask_60 rfl rfl ?_
            refine jd_getI (pc := 61) (ci := 11) (k := 15) gX12_148 ht.1 rfl dX12_ask_61 ?_
            refine jd_istore_n (pc := 64) [(3, .int (I13 t 15)), (0, .ref (gb G + t)), (1, .int x1), (2, .int x2)] dX12_ask_64 rfl (by decide) rfl ?_
            refine jd_iload_n (pc := 65) 2 dX12_ask_65 rfl rfl ?_
            refine jd_if_ne (pc := 66) 77 dX12_ask_66 (by decide) (fun hc => ?_) (fun hc => ?_)
            · have h := h.1 hc
              refine jd_aload_n (pc := 77) 1 dX12_ask_77 rfl rfl ?_
              refine jd_iload_n (pc := 78) 3 dX12_ask_78 rfl rfl ?_
              refine jd_putI (pc := 79) (ci := 11) (k := 15) pX12_148 ht.1 rfl rfl rfl dX12_ask_79 ?_
              refine jd_iload_n (pc := 82) 0 dX12_ask_82 rfl rfl ?_
              exact jd_iretK (pc := 83) rfl rfl dX12_ask_83 h
            · have h := h.2 hc
              refine jd_aload_n (pc := 69) 1 dX12_ask_69 rfl rfl ?_
              refine jd_iload_n (pc := 70) 3 dX12_ask_70 rfl rfl ?_
              refine jd_putI (pc := 71) (ci := 11) (k := 14) pX12_51 ht.1 rfl rfl rfl dX12_ask_71 ?_
              refine jd_goto (pc := 74) 82 dX12_ask_74 (by decide) ?_
              refine jd_iload_n (pc := 82) 0 dX12_ask_82 rfl rfl ?_
              exact jd_iretK (pc := 83) rfl rfl dX12_ask_83 h
          · have h := h.2 hc
            refine jd_aload_n (pc := 53) 0 dX12_ask_53 rfl rfl ?_
            refine jd_getI (pc := 54) (ci := 11) (k := 14) gX12_51 ht.1 rfl dX12_ask_54 ?_
            refine jd_goto (pc := 57) 64 dX12_ask_57 (by decide) ?_
            refine jd_istore_n (pc := 64) [(3, .int (I13 t 14)), (0, .ref (gb G + t)), (1, .int x1), (2, .int x2)] dX12_ask_64 rfl (by decide) rfl ?_
            refine jd_iload_n (pc := 65) 2 dX12_ask_65 rfl rfl ?_
            refine jd_if_ne (pc := 66) 77 dX12_ask_66 (by decide) (fun hc => ?_) (fun hc => ?_)
            · have h := h.1 hc
              refine jd_aload_n (pc := 77) 1 dX12_ask_77 rfl rfl ?_
              refine jd_iload_n (pc := 78) 3 dX12_ask_78 rfl rfl ?_
              refine jd_putI (pc := 79) (ci := 11) (k := 15) pX12_148 ht.1 rfl rfl rfl dX12_ask_79 ?_
              refine jd_iload_n (pc := 82) 0 dX12_ask_82 rfl rfl ?_
              exact jd_iretK (pc := 83) rfl rfl dX12_ask_83 h
            · have h := h.2 hc
              refine jd_aload_n (pc := 69) 1 dX12_ask_69 rfl rfl ?_
              refine jd_iload_n (pc := 70) 3 dX12_ask_70 rfl rfl ?_
              refine jd_putI (pc := 71) (ci := 11) (k := 14) pX12_51 ht.1 rfl rfl rfl dX12_ask_71 ?_
              refine jd_goto (pc := 74) 82 dX12_ask_74 (by decide) ?_
              refine jd_iload_n (pc := 82) 0 dX12_ask_82 rfl rfl ?_
              exact jd_iretK (pc := 83) rfl rfl dX12_ask_83 h
        · have h := h.2 hc
          refine jd_aload_n (pc := 42) 0 dX12_ask_42 rfl rfl ?_
          refine jd_bipush (pc := 43) (v := (-2)) dX12_ask_43 (by decide) ?_
          refine jd_callVi (pc := 45) (M2 := mX12_refuse) (id := t) (ci := 11) (T := TX12) (N := 45) (av := [.int (-2)]) kX12_refuse sX12_refuse rfl ht.1 lX12_102 rfl rfl (Nat.le_of_ble_eq_true rfl) dX12_ask_45 h ?_
          intro v16 I15 J15 h
          exact jd_iretK (pc := 48) rfl rfl dX12_ask_48 h
      · have h := h.2 hc
        refine jd_ldc2 (pc := 27) (v := 4) qX12_98 dX12_ask_27 ?_
        refine jd_goto (pc := 30) 36 dX12_ask_30 (by decide) ?_
        refine jd_callSi (pc := 36) (M2 := mX12_in) (av := [.long (Int32.toInt64 x2), .long 2, .long 4]) kX12_in sX12_in lX12_88 rfl rfl (Nat.le_of_ble_eq_true rfl) dX12_ask_36 h ?_
        intro v18 I17 J17 h
        refine jd_if_ne (pc := 39) 49 dX12_ask_39 (by decide) (fun hc => ?_) (fun hc => ?_)
        · have h := h.1 hc
          refine jd_iload_n (pc := 49) 1 dX12_ask_49 rfl rfl ?_
          refine jd_if_ne (pc := 50) 60 dX12_ask_50 (by decide) (fun hc => ?_) (fun hc => ?_)
          · have h := h.1 hc
            refine jd_aload_n (pc := 60) 0 dX12_ask_60 rfl rfl ?_
            refine jd_getI (pc := 61) (ci := 11) (k := 15) gX12_148 ht.1 rfl dX12_ask_61 ?_
            refine jd_istore_n (pc := 64) [(3, .int (I17 t 15)), (0, .ref (gb G + t)), (1, .int x1), (2, .int x2)] dX12_ask_64 rfl (by decide) rfl ?_
            refine jd_iload_n (pc := 65) 2 dX12_ask_65 rfl rfl ?_
            refine jd_if_ne (pc := 66) 77 dX12_ask_66 (by decide) (fun hc => ?_) (fun hc => ?_)
            · have h := h.1 hc
              refine jd_aload_n (pc := 77) 1 dX12_ask_77 rfl rfl ?_
              refine jd_iload_n (pc := 78) 3 dX12_ask_78 rfl rfl ?_
              refine jd_putI (pc := 79) (ci := 11) (k := 15) pX12_148 ht.1 rfl rfl rfl dX12_ask_79 ?_
              refine jd_iload_n (pc := 82) 0 dX12_ask_82 rfl rfl ?_
              exact jd_iretK (pc := 83) rfl rfl dX12_ask_83 h
            · have h := h.2 hc
              refine jd_aload_n (pc := 69) 1 dX12_ask_69 rfl rfl ?_
              refine jd_iload_n (pc := 70) 3 dX12_ask_70 rfl rfl ?_
              refine jd_putI (pc := 71) (ci := 11) (k := 14) pX12_51 ht.1 rfl rfl rfl dX12_ask_71 ?_
              refine jd_goto (pc := 74) 82 dX12_ask_74 (by decide) ?_
              refine jd_iload_n (pc := 82) 0 dX12_ask_82 rfl rfl ?_
              exact jd_iretK (pc := 83) rfl rfl dX12_ask_83 h
          · have h := h.2 hc
            refine jd_aload_n (pc := 53) 0 dX12_ask_53 rfl rfl ?_
            refine jd_getI (pc := 54) (ci := 11) (k := 14) gX12_51 ht.1 rfl dX12_ask_54 ?_
            refine jd_goto (pc := 57) 64 dX12_ask_57 (by decide) ?_
            refine jd_istore_n (pc := 64) [(3, .int (I17 t 14)), (0, .ref (gb G + t)), (1, .int x1), (2, .int x2)] dX12_ask_64 rfl (by decide) rfl ?_
            refine jd_iload_n (pc := 65) 2 dX12_ask_65 rfl rfl ?_
            refine jd_if_ne (pc := 66) 77 dX12_ask_66 (by decide) (fun hc => ?_) (fun hc => ?_)
            · have h := h.1 hc
              refine jd_aload_n (pc := 77) 1 dX12_ask_77 rfl rfl ?_
              refine jd_iload_n (pc := 78) 3 dX12_ask_78 rfl rfl ?_
              refine jd_putI (pc := 79) (ci := 11) (k := 15) pX12_148 ht.1 rfl rfl rfl dX12_ask_79 ?_
              refine jd_iload_n (pc := 82) 0 dX12_ask_82 rfl rfl ?_
              exact jd_iretK (pc := 83) rfl rfl dX12_ask_83 h
            · have h := h.2 hc
              refine jd_aload_n (pc := 69) 1 dX12_ask_69 rfl rfl ?_
              refine jd_iload_n (pc := 70) 3 dX12_ask_70 rfl rfl ?_
              refine jd_putI (pc := 71) (ci := 11) (k := 14) pX12_51 ht.1 rfl rfl rfl dX12_ask_71 ?_
              refine jd_goto (pc := 74) 82 dX12_ask_74 (by decide) ?_
              refine jd_iload_n (pc := 82) 0 dX12_ask_82 rfl rfl ?_
              exact jd_iretK (pc := 83) rfl rfl dX12_ask_83 h
        · have h := h.2 hc
          refine jd_aload_n (pc := 42) 0 dX12_ask_42 rfl rfl ?_
          refine jd_bipush (pc := 43) (v := (-2)) dX12_ask_43 (by decide) ?_
          refine jd_callVi (pc := 45) (M2 := mX12_refuse) (id := t) (ci := 11) (T := TX12) (N := 45) (av := [.int (-2)]) kX12_refuse sX12_refuse rfl ht.1 lX12_102 rfl rfl (Nat.le_of_ble_eq_true rfl) dX12_ask_45 h ?_
          intro v20 I19 J19 h
          exact jd_iretK (pc := 48) rfl rfl dX12_ask_48 h
theorem eX12_ask {G : jdG} {n : Nat} {Z : jdL} {I : jdI} {J : jdJ} {K : Int32 → jdI → jdJ → Prop} {t : Nat} {x1 : Int32} {x2 : Int32} (ht : zModel Z t) (h : Cl G mX12_in n 0 0 [.long (Int32.toInt64 x1), .long 0, .long 1] Z I J (qi Z (fun v2 I1 J1 => ((v2 = 0 → Cl G mX12_refuse n 0 0 [.ref (gb G + t), .int (-2)] Z I1 J1 (qi Z (fun v4 I3 J3 => K v4 I3 J3))) ∧ (¬ v2 = 0 → ((¬ x1 = 0 → ((¬ x1 = 0 → Cl G mX12_in n 0 0 [.long (Int32.toInt64 x2), .long 0, .long 99] Z I1 J1 (qi Z (fun v6 I5 J5 => ((¬ v6 = 0 → ((¬ x1 = 0 → ((¬ x1 = 0 → K (I5 t 15) (uI I5 t 15 x2) J5) ∧ (x1 = 0 → K (I5 t 15) (uI I5 t 14 x2) J5))) ∧ (x1 = 0 → ((¬ x1 = 0 → K (I5 t 14) (uI I5 t 15 x2) J5) ∧ (x1 = 0 → K (I5 t 14) (uI I5 t 14 x2) J5))))) ∧ (v6 = 0 → Cl G mX12_refuse n 0 0 [.ref (gb G + t), .int (-2)] Z I5 J5 (qi Z (fun v8 I7 J7 => K v8 I7 J7))))))) ∧ (x1 = 0 → Cl G mX12_in n 0 0 [.long (Int32.toInt64 x2), .long 0, .long 4] Z I1 J1 (qi Z (fun v10 I9 J9 => ((¬ v10 = 0 → ((¬ x1 = 0 → ((¬ x1 = 0 → K (I9 t 15) (uI I9 t 15 x2) J9) ∧ (x1 = 0 → K (I9 t 15) (uI I9 t 14 x2) J9))) ∧ (x1 = 0 → ((¬ x1 = 0 → K (I9 t 14) (uI I9 t 15 x2) J9) ∧ (x1 = 0 → K (I9 t 14) (uI I9 t 14 x2) J9))))) ∧ (v10 = 0 → Cl G mX12_refuse n 0 0 [.ref (gb G + t), .int (-2)] Z I9 J9 (qi Z (fun v12 I11 J11 => K v12 I11 J11))))))))) ∧ (x1 = 0 → ((¬ x1 = 0 → Cl G mX12_in n 0 0 [.long (Int32.toInt64 x2), .long 2, .long 99] Z I1 J1 (qi Z (fun v14 I13 J13 => ((¬ v14 = 0 → ((¬ x1 = 0 → ((¬ x1 = 0 → K (I13 t 15) (uI I13 t 15 x2) J13) ∧ (x1 = 0 → K (I13 t 15) (uI I13 t 14 x2) J13))) ∧ (x1 = 0 → ((¬ x1 = 0 → K (I13 t 14) (uI I13 t 15 x2) J13) ∧ (x1 = 0 → K (I13 t 14) (uI I13 t 14 x2) J13))))) ∧ (v14 = 0 → Cl G mX12_refuse n 0 0 [.ref (gb G + t), .int (-2)] Z I13 J13 (qi Z (fun v16 I15 J15 => K v16 I15 J15))))))) ∧ (x1 = 0 → Cl G mX12_in n 0 0 [.long (Int32.toInt64 x2), .long 2, .long 4] Z I1 J1 (qi Z (fun v18 I17 J17 => ((¬ v18 = 0 → ((¬ x1 = 0 → ((¬ x1 = 0 → K (I17 t 15) (uI I17 t 15 x2) J17) ∧ (x1 = 0 → K (I17 t 15) (uI I17 t 14 x2) J17))) ∧ (x1 = 0 → ((¬ x1 = 0 → K (I17 t 14) (uI I17 t 15 x2) J17) ∧ (x1 = 0 → K (I17 t 14) (uI I17 t 14 x2) J17))))) ∧ (v18 = 0 → Cl G mX12_refuse n 0 0 [.ref (gb G + t), .int (-2)] Z I17 J17 (qi Z (fun v20 I19 J19 => K v20 I19 J19))))))))))))))) : Cl G mX12_ask (n + 1) 0 0 [.ref (gb G + t), .int x1, .int x2] Z I J (qi Z K) :=
  Cl.of (by decide +kernel) (Nat.le_of_ble_eq_true rfl) (rX12_ask_0 ht h)
set_option maxRecDepth 4000 in
theorem rX12_meets_0 {G : jdG} {n rc rs : Nat} {Z : jdL} {I : jdI} {J : jdJ} {K : Int32 → jdI → jdJ → Prop} {t : Nat} {x1 : Int32} (ht : zModel Z t) (h : Jd G mX12_meets (jdFm G (qi Z K)) (n + 1) rc rs 4 [(0, .ref (gb G + t)), (1, .int x1), (2, .int 0), (3, .int 0)] [] Z I J) : Jd G mX12_meets (jdFm G (qi Z K)) (n + 1) rc rs 0 [(0, .ref (gb G + t)), (1, .int x1)] [] Z I J := by
  refine jd_iconst (pc := 0) (v := 0) dX12_meets_0 (by decide) ?_
  refine jd_istore_n (pc := 1) [(2, .int 0), (0, .ref (gb G + t)), (1, .int x1)] dX12_meets_1 rfl (by decide) rfl ?_
  refine jd_iconst (pc := 2) (v := 0) dX12_meets_2 (by decide) ?_
  refine jd_istore_n (pc := 3) [(3, .int 0), (2, .int 0), (0, .ref (gb G + t)), (1, .int x1)] dX12_meets_3 rfl (by decide) rfl ?_
  exact jd_lv (lv2 := [(0, .ref (gb G + t)), (1, .int x1), (2, .int 0), (3, .int 0)]) [2, 3, 1, 0] rfl h
set_option maxRecDepth 4000 in
theorem rX12_meets_4 {G : jdG} {n rc rs : Nat} {Z : jdL} {I : jdI} {J : jdJ} {K : Int32 → jdI → jdJ → Prop} {t : Nat} {x1 : Int32} {x2 : Int32} {x3 : Int32} (ht : zModel Z t) (h : (((I t 10) ≤ x3 → K x2 I J) ∧ (¬ (I t 10) ≤ x3 → Jd G mX12_meets (jdFm G (qi Z K)) (n + 1) rc rs 15 [(0, .ref (gb G + t)), (1, .int x1), (2, .int x2), (3, .int x3), (4, .int 0)] [] Z I J))) : Jd G mX12_meets (jdFm G (qi Z K)) (n + 1) rc rs 4 [(0, .ref (gb G + t)), (1, .int x1), (2, .int x2), (3, .int x3)] [] Z I J := by
  refine jd_iload_n (pc := 4) 3 dX12_meets_4 rfl rfl ?_
  refine jd_aload_n (pc := 5) 0 dX12_meets_5 rfl rfl ?_
  refine jd_getI (pc := 6) (ci := 11) (k := 10) gX12_85 ht.1 rfl dX12_meets_6 ?_
  refine jd_icmp_ge (pc := 9) 79 dX12_meets_9 (by decide) (fun hc => ?_) (fun hc => ?_)
  · have h := h.1 hc
    refine jd_iload_n (pc := 79) 2 dX12_meets_79 rfl rfl ?_
    exact jd_iretK (pc := 80) rfl rfl dX12_meets_80 h
  · have h := h.2 hc
    refine jd_iconst (pc := 12) (v := 0) dX12_meets_12 (by decide) ?_
    refine jd_istore (pc := 13) [(4, .int 0), (0, .ref (gb G + t)), (1, .int x1), (2, .int x2), (3, .int x3)] dX12_meets_13 (by decide) rfl ?_
    exact jd_lv (lv2 := [(0, .ref (gb G + t)), (1, .int x1), (2, .int x2), (3, .int x3), (4, .int 0)]) [1, 2, 3, 4, 0] rfl h
set_option maxRecDepth 4000 in
theorem rX12_meets_15 {G : jdG} {n rc rs : Nat} {Z : jdL} {I : jdI} {J : jdJ} {K : Int32 → jdI → jdJ → Prop} {t : Nat} {x1 : Int32} {x2 : Int32} {x3 : Int32} {x4 : Int32} (ht : zModel Z t) (h : ((x3 ≤ x4 → Jd G mX12_meets (jdFm G (qi Z K)) (n + 1) rc rs 4 [(0, .ref (gb G + t)), (1, .int x1), (2, .int x2), (3, .int (x3 + 1))] [] Z I J) ∧ (¬ x3 ≤ x4 → Cl G mX12_has n 0 0 [.int x1, .int x3] Z I J (qi Z (fun v2 I1 J1 => ((v2 = 0 → Jd G mX12_meets (jdFm G (qi Z K)) (n + 1) rc rs 15 [(0, .ref (gb G + t)), (1, .int x1), (2, .int x2), (3, .int x3), (4, .int (x4 + 1))] [] Z I1 J1) ∧ (¬ v2 = 0 → Cl G mX12_has n 0 0 [.int x1, .int x4] Z I1 J1 (qi Z (fun v4 I3 J3 => ((v4 = 0 → Jd G mX12_meets (jdFm G (qi Z K)) (n + 1) rc rs 15 [(0, .ref (gb G + t)), (1, .int x1), (2, .int x2), (3, .int x3), (4, .int (x4 + 1))] [] Z I3 J3) ∧ (¬ v4 = 0 → (vp_in x3 8 ∧ (vp_in x4 8 ∧ ((¬ (I3 (t + 21 + (Int32.toNatClampNeg x3)) (Int32.toNatClampNeg x4)) = (-1) → Cl G mX12_knows n 0 0 [.ref (gb G + t), .int x3, .int x4, .int 0] Z I3 J3 (qv Z (fun I7 J7 => Jd G mX12_meets (jdFm G (qi Z K)) (n + 1) rc rs 15 [(0, .ref (gb G + t)), (1, .int x1), (2, .int (x2 + 0)), (3, .int x3), (4, .int (x4 + 1))] [] Z I7 J7))) ∧ ((I3 (t + 21 + (Int32.toNatClampNeg x3)) (Int32.toNatClampNeg x4)) = (-1) → Cl G mX12_knows n 0 0 [.ref (gb G + t), .int x3, .int x4, .int 0] Z I3 J3 (qv Z (fun I9 J9 => Jd G mX12_meets (jdFm G (qi Z K)) (n + 1) rc rs 15 [(0, .ref (gb G + t)), (1, .int x1), (2, .int (x2 + 1)), (3, .int x3), (4, .int (x4 + 1))] [] Z I9 J9))))))))))))))))) : Jd G mX12_meets (jdFm G (qi Z K)) (n + 1) rc rs 15 [(0, .ref (gb G + t)), (1, .int x1), (2, .int x2), (3, .int x3), (4, .int x4)] [] Z I J := by
  refine jd_iload (pc := 15) 4 dX12_meets_15 rfl ?_
  refine jd_iload_n (pc := 17) 3 dX12_meets_17 rfl rfl ?_
  refine jd_icmp_ge (pc := 18) 73 dX12_meets_18 (by decide) (fun hc => ?_) (fun hc => ?_)
  · have h := h.1 hc
    refine jd_iinc (pc := 73) (v := (x3 + 1)) 3 [(3, .int (x3 + 1)), (0, .ref (gb G + t)), (1, .int x1), (2, .int x2), (4, .int x4)] dX12_meets_73 rfl rfl (by decide) rfl ?_
    refine jd_goto (pc := 76) 4 dX12_meets_76 (by decide) ?_
    exact jd_lv (lv2 := [(0, .ref (gb G + t)), (1, .int x1), (2, .int x2), (3, .int (x3 + 1))]) [1, 2, 3, 0] rfl h
  · have h := h.2 hc
    refine jd_iload_n (pc := 21) 1 dX12_meets_21 rfl rfl ?_
    refine jd_iload_n (pc := 22) 3 dX12_meets_22 rfl rfl ?_
    refine jd_callSi (pc := 23) (M2 := mX12_has) (av := [.int x1, .int x3]) kX12_has sX12_has lX12_151 rfl rfl (Nat.le_of_ble_eq_true rfl) dX12_meets_23 h ?_
    intro v2 I1 J1 h
    refine jd_if_eq (pc := 26) 67 dX12_meets_26 (by decide) (fun hc => ?_) (fun hc => ?_)
    · have h := h.1 hc
      refine jd_iinc (pc := 67) (v := (x4 + 1)) 4 [(4, .int (x4 + 1)), (0, .ref (gb G + t)), (1, .int x1), (2, .int x2), (3, .int x3)] dX12_meets_67 rfl rfl (by decide) rfl ?_
      refine jd_goto (pc := 70) 15 dX12_meets_70 (by decide) ?_
      exact jd_lv (lv2 := [(0, .ref (gb G + t)), (1, .int x1), (2, .int x2), (3, .int x3), (4, .int (x4 + 1))]) [1, 2, 3, 4, 0] rfl h
    · have h := h.2 hc
      refine jd_iload_n (pc := 29) 1 dX12_meets_29 rfl rfl ?_
      refine jd_iload (pc := 30) 4 dX12_meets_30 rfl ?_
      refine jd_callSi (pc := 32) (M2 := mX12_has) (av := [.int x1, .int x4]) kX12_has sX12_has lX12_151 rfl rfl (Nat.le_of_ble_eq_true rfl) dX12_meets_32 h ?_
      intro v4 I3 J3 h
      refine jd_if_eq (pc := 35) 67 dX12_meets_35 (by decide) (fun hc => ?_) (fun hc => ?_)
      · have h := h.1 hc
        refine jd_iinc (pc := 67) (v := (x4 + 1)) 4 [(4, .int (x4 + 1)), (0, .ref (gb G + t)), (1, .int x1), (2, .int x2), (3, .int x3)] dX12_meets_67 rfl rfl (by decide) rfl ?_
        refine jd_goto (pc := 70) 15 dX12_meets_70 (by decide) ?_
        exact jd_lv (lv2 := [(0, .ref (gb G + t)), (1, .int x1), (2, .int x2), (3, .int x3), (4, .int (x4 + 1))]) [1, 2, 3, 4, 0] rfl h
      · have h := h.2 hc
        refine jd_iload_n (pc := 38) 2 dX12_meets_38 rfl rfl ?_
        refine jd_aload_n (pc := 39) 0 dX12_meets_39 rfl rfl ?_
        refine jd_getR (pc := 40) (ci := 11) (k := 13) (r := (t + 20)) gX12_48 ht.1 rfl (zModel_p13 ht) dX12_meets_40 ?_
        refine jd_iload_n (pc := 43) 3 dX12_meets_43 rfl rfl ?_
        obtain ⟨hv5, h⟩ := h
        refine jd_aald (pc := 44) (len := 8) (k := 2) (zModel_a13 ht) (by decide) hv5 (zModel_known ht (vp_lt hv5)) dX12_meets_44 ?_
        refine jd_iload (pc := 45) 4 dX12_meets_45 rfl ?_
        obtain ⟨hv6, h⟩ := h
        refine jd_iald (pc := 47) (len := 8) (zModel_knownA ht (vp_lt hv5)) hv6 dX12_meets_47 ?_
        refine jd_iconst (pc := 48) (v := (-1)) dX12_meets_48 (by decide) ?_
        refine jd_icmp_ne (pc := 49) 56 dX12_meets_49 (by decide) (fun hc => ?_) (fun hc => ?_)
        · have h := h.1 hc
          refine jd_iconst (pc := 56) (v := 0) dX12_meets_56 (by decide) ?_
          refine jd_iadd (pc := 57) dX12_meets_57 ?_
          refine jd_istore_n (pc := 58) [(2, .int (x2 + 0)), (0, .ref (gb G + t)), (1, .int x1), (3, .int x3), (4, .int x4)] dX12_meets_58 rfl (by decide) rfl ?_
          refine jd_aload_n (pc := 59) 1 dX12_meets_59 rfl rfl ?_
          refine jd_iload_n (pc := 60) 3 dX12_meets_60 rfl rfl ?_
          refine jd_iload (pc := 61) 4 dX12_meets_61 rfl ?_
          refine jd_iconst (pc := 63) (v := 0) dX12_meets_63 (by decide) ?_
          refine jd_callVv (pc := 64) (M2 := mX12_knows) (id := t) (ci := 11) (T := TX12) (N := 45) (av := [.int x3, .int x4, .int 0]) kX12_knows sX12_knows rfl ht.1 lX12_142 rfl rfl (Nat.le_of_ble_eq_true rfl) dX12_meets_64 h ?_
          intro I7 J7 h
          refine jd_iinc (pc := 67) (v := (x4 + 1)) 4 [(4, .int (x4 + 1)), (2, .int (x2 + 0)), (0, .ref (gb G + t)), (1, .int x1), (3, .int x3)] dX12_meets_67 rfl rfl (by decide) rfl ?_
          refine jd_goto (pc := 70) 15 dX12_meets_70 (by decide) ?_
          exact jd_lv (lv2 := [(0, .ref (gb G + t)), (1, .int x1), (2, .int (x2 + 0)), (3, .int x3), (4, .int (x4 + 1))]) [2, 3, 1, 4, 0] rfl h
        · have h := h.2 hc
          refine jd_iconst (pc := 52) (v := 1) dX12_meets_52 (by decide) ?_
          refine jd_goto (pc := 53) 57 dX12_meets_53 (by decide) ?_
          refine jd_iadd (pc := 57) dX12_meets_57 ?_
          refine jd_istore_n (pc := 58) [(2, .int (x2 + 1)), (0, .ref (gb G + t)), (1, .int x1), (3, .int x3), (4, .int x4)] dX12_meets_58 rfl (by decide) rfl ?_
          refine jd_aload_n (pc := 59) 1 dX12_meets_59 rfl rfl ?_
          refine jd_iload_n (pc := 60) 3 dX12_meets_60 rfl rfl ?_
          refine jd_iload (pc := 61) 4 dX12_meets_61 rfl ?_
          refine jd_iconst (pc := 63) (v := 0) dX12_meets_63 (by decide) ?_
          refine jd_callVv (pc := 64) (M2 := mX12_knows) (id := t) (ci := 11) (T := TX12) (N := 45) (av := [.int x3, .int x4, .int 0]) kX12_knows sX12_knows rfl ht.1 lX12_142 rfl rfl (Nat.le_of_ble_eq_true rfl) dX12_meets_64 h ?_
          intro I9 J9 h
          refine jd_iinc (pc := 67) (v := (x4 + 1)) 4 [(4, .int (x4 + 1)), (2, .int (x2 + 1)), (0, .ref (gb G + t)), (1, .int x1), (3, .int x3)] dX12_meets_67 rfl rfl (by decide) rfl ?_
          refine jd_goto (pc := 70) 15 dX12_meets_70 (by decide) ?_
          exact jd_lv (lv2 := [(0, .ref (gb G + t)), (1, .int x1), (2, .int (x2 + 1)), (3, .int x3), (4, .int (x4 + 1))]) [2, 3, 1, 4, 0] rfl h
theorem eX12_meets {G : jdG} {n : Nat} {Z : jdL} {I : jdI} {J : jdJ} {K : Int32 → jdI → jdJ → Prop} {t : Nat} {x1 : Int32} (ht : zModel Z t) (h : Jd G mX12_meets (jdFm G (qi Z K)) (n + 1) 0 0 4 [(0, .ref (gb G + t)), (1, .int x1), (2, .int 0), (3, .int 0)] [] Z I J) : Cl G mX12_meets (n + 1) 0 0 [.ref (gb G + t), .int x1] Z I J (qi Z K) :=
  Cl.of (by decide +kernel) (Nat.le_of_ble_eq_true rfl) (rX12_meets_0 ht h)
set_option maxRecDepth 4000 in
theorem rX12_feed_0 {G : jdG} {n rc rs : Nat} {Z : jdL} {I : jdI} {J : jdJ} {K : Int32 → jdI → jdJ → Prop} {t : Nat} {x1 : Int32} (ht : zModel Z t) (h : Cl G mX12_in n 0 0 [.long (Int32.toInt64 x1), .long 0, .long 255] Z I J (qi Z (fun v2 I1 J1 => ((¬ v2 = 0 → ((¬ (I1 t 8) = 250 → (vp_in (I1 t 8) 250 ∧ K ((I1 t 8) + 1) (uI (uI I1 t 8 ((I1 t 8) + 1)) (t + 16) (Int32.toNatClampNeg (I1 t 8)) x1) J1)) ∧ ((I1 t 8) = 250 → Cl G mX12_refuse n 0 0 [.ref (gb G + t), .int (-6)] Z I1 J1 (qi Z (fun v5 I4 J4 => K v5 I4 J4))))) ∧ (v2 = 0 → Cl G mX12_refuse n 0 0 [.ref (gb G + t), .int (-2)] Z I1 J1 (qi Z (fun v7 I6 J6 => K v7 I6 J6))))))) : Jd G mX12_feed (jdFm G (qi Z K)) (n + 1) rc rs 0 [(0, .ref (gb G + t)), (1, .int x1)] [] Z I J := by
  refine jd_iload_n (pc := 0) 1 dX12_feed_0 rfl rfl ?_
  refine jd_i2l (pc := 1) dX12_feed_1 ?_
  refine jd_lconst (pc := 2) (v := 0) dX12_feed_2 (by decide) ?_
  refine jd_ldc2 (pc := 3) (v := 255) qX12_154 dX12_feed_3 ?_
  refine jd_callSi (pc := 6) (M2 := mX12_in) (av := [.long (Int32.toInt64 x1), .long 0, .long 255]) kX12_in sX12_in lX12_88 rfl rfl (Nat.le_of_ble_eq_true rfl) dX12_feed_6 h ?_
  intro v2 I1 J1 h
  refine jd_if_ne (pc := 9) 19 dX12_feed_9 (by decide) (fun hc => ?_) (fun hc => ?_)
  · have h := h.1 hc
    refine jd_aload_n (pc := 19) 0 dX12_feed_19 rfl rfl ?_
    refine jd_getI (pc := 20) (ci := 11) (k := 8) gX12_156 ht.1 rfl dX12_feed_20 ?_
    refine jd_sipush (pc := 23) (v := 250) dX12_feed_23 (by decide) ?_
    refine jd_icmp_ne (pc := 26) 36 dX12_feed_26 (by decide) (fun hc => ?_) (fun hc => ?_)
    · have h := h.1 hc
      refine jd_aload_n (pc := 36) 0 dX12_feed_36 rfl rfl ?_
      refine jd_getR (pc := 37) (ci := 11) (k := 7) (r := (t + 16)) gX12_34 ht.1 rfl (zModel_p7 ht) dX12_feed_37 ?_
      refine jd_aload_n (pc := 40) 0 dX12_feed_40 rfl rfl ?_
      refine jd_dup (pc := 41) dX12_feed_41 rfl ?_
      refine jd_getI (pc := 42) (ci := 11) (k := 8) gX12_156 ht.1 rfl dX12_feed_42 ?_
      refine jd_dup_x1 (pc := 45) dX12_feed_45 rfl rfl ?_
      refine jd_iconst (pc := 46) (v := 1) dX12_feed_46 (by decide) ?_
      refine jd_iadd (pc := 47) dX12_feed_47 ?_
      refine jd_putI (pc := 48) (ci := 11) (k := 8) pX12_156 ht.1 rfl rfl rfl dX12_feed_48 ?_
      refine jd_iload_n (pc := 51) 1 dX12_feed_51 rfl rfl ?_
      obtain ⟨hv3, h⟩ := h
      refine jd_iast (pc := 52) (len := 250) (zModel_a7 ht) hv3 dX12_feed_52 ?_
      refine jd_aload_n (pc := 53) 0 dX12_feed_53 rfl rfl ?_
      refine jd_getIe (pc := 54) (ci := 11) (k := 8) (e := ((I1 t 8) + 1)) (uI_ne (by omega) (uI_ss _ _ _ _)) gX12_156 ht.1 rfl dX12_feed_54 ?_
      exact jd_iretK (pc := 57) rfl rfl dX12_feed_57 h
    · have h := h.2 hc
      refine jd_aload_n (pc := 29) 0 dX12_feed_29 rfl rfl ?_
      refine jd_bipush (pc := 30) (v := (-6)) dX12_feed_30 (by decide) ?_
      refine jd_callVi (pc := 32) (M2 := mX12_refuse) (id := t) (ci := 11) (T := TX12) (N := 45) (av := [.int (-6)]) kX12_refuse sX12_refuse rfl ht.1 lX12_102 rfl rfl (Nat.le_of_ble_eq_true rfl) dX12_feed_32 h ?_
      intro v5 I4 J4 h
      exact jd_iretK (pc := 35) rfl rfl dX12_feed_35 h
  · have h := h.2 hc
    refine jd_aload_n (pc := 12) 0 dX12_feed_12 rfl rfl ?_
    refine jd_bipush (pc := 13) (v := (-2)) dX12_feed_13 (by decide) ?_
    refine jd_callVi (pc := 15) (M2 := mX12_refuse) (id := t) (ci := 11) (T := TX12) (N := 45) (av := [.int (-2)]) kX12_refuse sX12_refuse rfl ht.1 lX12_102 rfl rfl (Nat.le_of_ble_eq_true rfl) dX12_feed_15 h ?_
    intro v7 I6 J6 h
    exact jd_iretK (pc := 18) rfl rfl dX12_feed_18 h
theorem eX12_feed {G : jdG} {n : Nat} {Z : jdL} {I : jdI} {J : jdJ} {K : Int32 → jdI → jdJ → Prop} {t : Nat} {x1 : Int32} (ht : zModel Z t) (h : Cl G mX12_in n 0 0 [.long (Int32.toInt64 x1), .long 0, .long 255] Z I J (qi Z (fun v2 I1 J1 => ((¬ v2 = 0 → ((¬ (I1 t 8) = 250 → (vp_in (I1 t 8) 250 ∧ K ((I1 t 8) + 1) (uI (uI I1 t 8 ((I1 t 8) + 1)) (t + 16) (Int32.toNatClampNeg (I1 t 8)) x1) J1)) ∧ ((I1 t 8) = 250 → Cl G mX12_refuse n 0 0 [.ref (gb G + t), .int (-6)] Z I1 J1 (qi Z (fun v5 I4 J4 => K v5 I4 J4))))) ∧ (v2 = 0 → Cl G mX12_refuse n 0 0 [.ref (gb G + t), .int (-2)] Z I1 J1 (qi Z (fun v7 I6 J6 => K v7 I6 J6))))))) : Cl G mX12_feed (n + 1) 0 0 [.ref (gb G + t), .int x1] Z I J (qi Z K) :=
  Cl.of (by decide +kernel) (Nat.le_of_ble_eq_true rfl) (rX12_feed_0 ht h)
set_option maxRecDepth 4000 in
theorem rX12_wipe_0 {G : jdG} {n rc rs : Nat} {Z : jdL} {I : jdI} {J : jdJ} {K : Int32 → jdI → jdJ → Prop} {t : Nat} (ht : zModel Z t) (h : K (I t 8) (uI I t 8 0) J) : Jd G mX12_wipe (jdFm G (qi Z K)) n rc rs 0 [(0, .ref (gb G + t))] [] Z I J := by
  refine jd_aload_n (pc := 0) 0 dX12_wipe_0 rfl rfl ?_
  refine jd_getI (pc := 1) (ci := 11) (k := 8) gX12_156 ht.1 rfl dX12_wipe_1 ?_
  refine jd_istore_n (pc := 4) [(1, .int (I t 8)), (0, .ref (gb G + t))] dX12_wipe_4 rfl (by decide) rfl ?_
  refine jd_aload_n (pc := 5) 1 dX12_wipe_5 rfl rfl ?_
  refine jd_iconst (pc := 6) (v := 0) dX12_wipe_6 (by decide) ?_
  refine jd_putI (pc := 7) (ci := 11) (k := 8) pX12_156 ht.1 rfl rfl rfl dX12_wipe_7 ?_
  refine jd_iload_n (pc := 10) 0 dX12_wipe_10 rfl rfl ?_
  exact jd_iretK (pc := 11) rfl rfl dX12_wipe_11 h
theorem eX12_wipe {G : jdG} {n : Nat} {Z : jdL} {I : jdI} {J : jdJ} {K : Int32 → jdI → jdJ → Prop} {t : Nat} (ht : zModel Z t) (h : K (I t 8) (uI I t 8 0) J) : Cl G mX12_wipe (n) 0 0 [.ref (gb G + t)] Z I J (qi Z K) :=
  Cl.of (by decide +kernel) (Nat.le_of_ble_eq_true rfl) (rX12_wipe_0 ht h)
set_option maxRecDepth 4000 in
theorem rX12_isLetter_0 {G : jdG} {n rc rs : Nat} {Z : jdL} {I : jdI} {J : jdJ} {K : Int32 → jdI → jdJ → Prop} {x0 : Int32}  (h : ((x0 < 97 → K 0 I J) ∧ (¬ x0 < 97 → ((122 < x0 → K 0 I J) ∧ (¬ 122 < x0 → K 1 I J))))) : Jd G mX12_isLetter (jdFm G (qi Z K)) n rc rs 0 [(0, .int x0)] [] Z I J := by
  refine jd_iload_n (pc := 0) 0 dX12_isLetter_0 rfl rfl ?_
  refine jd_bipush (pc := 1) (v := 97) dX12_isLetter_1 (by decide) ?_
  refine jd_icmp_lt (pc := 3) 16 dX12_isLetter_3 (by decide) (fun hc => ?_) (fun hc => ?_)
  · have h := h.1 hc
    refine jd_iconst (pc := 16) (v := 0) dX12_isLetter_16 (by decide) ?_
    exact jd_iretK (pc := 17) (ty := .boolean) rfl (by decide) dX12_isLetter_17 h
  · have h := h.2 hc
    refine jd_iload_n (pc := 6) 0 dX12_isLetter_6 rfl rfl ?_
    refine jd_bipush (pc := 7) (v := 122) dX12_isLetter_7 (by decide) ?_
    refine jd_icmp_gt (pc := 9) 16 dX12_isLetter_9 (by decide) (fun hc => ?_) (fun hc => ?_)
    · have h := h.1 hc
      refine jd_iconst (pc := 16) (v := 0) dX12_isLetter_16 (by decide) ?_
      exact jd_iretK (pc := 17) (ty := .boolean) rfl (by decide) dX12_isLetter_17 h
    · have h := h.2 hc
      refine jd_iconst (pc := 12) (v := 1) dX12_isLetter_12 (by decide) ?_
      refine jd_goto (pc := 13) 17 dX12_isLetter_13 (by decide) ?_
      exact jd_iretK (pc := 17) (ty := .boolean) rfl (by decide) dX12_isLetter_17 h
theorem eX12_isLetter {G : jdG} {n : Nat} {Z : jdL} {I : jdI} {J : jdJ} {K : Int32 → jdI → jdJ → Prop} {x0 : Int32}  (h : ((x0 < 97 → K 0 I J) ∧ (¬ x0 < 97 → ((122 < x0 → K 0 I J) ∧ (¬ 122 < x0 → K 1 I J))))) : Cl G mX12_isLetter (n) 0 0 [.int x0] Z I J (qi Z K) :=
  Cl.of (by decide +kernel) (Nat.le_of_ble_eq_true rfl) (rX12_isLetter_0  h)
set_option maxRecDepth 4000 in
theorem rX12_isDigit_0 {G : jdG} {n rc rs : Nat} {Z : jdL} {I : jdI} {J : jdJ} {K : Int32 → jdI → jdJ → Prop} {x0 : Int32}  (h : ((x0 < 48 → K 0 I J) ∧ (¬ x0 < 48 → ((57 < x0 → K 0 I J) ∧ (¬ 57 < x0 → K 1 I J))))) : Jd G mX12_isDigit (jdFm G (qi Z K)) n rc rs 0 [(0, .int x0)] [] Z I J := by
  refine jd_iload_n (pc := 0) 0 dX12_isDigit_0 rfl rfl ?_
  refine jd_bipush (pc := 1) (v := 48) dX12_isDigit_1 (by decide) ?_
  refine jd_icmp_lt (pc := 3) 16 dX12_isDigit_3 (by decide) (fun hc => ?_) (fun hc => ?_)
  · have h := h.1 hc
    refine jd_iconst (pc := 16) (v := 0) dX12_isDigit_16 (by decide) ?_
    exact jd_iretK (pc := 17) (ty := .boolean) rfl (by decide) dX12_isDigit_17 h
  · have h := h.2 hc
    refine jd_iload_n (pc := 6) 0 dX12_isDigit_6 rfl rfl ?_
    refine jd_bipush (pc := 7) (v := 57) dX12_isDigit_7 (by decide) ?_
    refine jd_icmp_gt (pc := 9) 16 dX12_isDigit_9 (by decide) (fun hc => ?_) (fun hc => ?_)
    · have h := h.1 hc
      refine jd_iconst (pc := 16) (v := 0) dX12_isDigit_16 (by decide) ?_
      exact jd_iretK (pc := 17) (ty := .boolean) rfl (by decide) dX12_isDigit_17 h
    · have h := h.2 hc
      refine jd_iconst (pc := 12) (v := 1) dX12_isDigit_12 (by decide) ?_
      refine jd_goto (pc := 13) 17 dX12_isDigit_13 (by decide) ?_
      exact jd_iretK (pc := 17) (ty := .boolean) rfl (by decide) dX12_isDigit_17 h
theorem eX12_isDigit {G : jdG} {n : Nat} {Z : jdL} {I : jdI} {J : jdJ} {K : Int32 → jdI → jdJ → Prop} {x0 : Int32}  (h : ((x0 < 48 → K 0 I J) ∧ (¬ x0 < 48 → ((57 < x0 → K 0 I J) ∧ (¬ 57 < x0 → K 1 I J))))) : Cl G mX12_isDigit (n) 0 0 [.int x0] Z I J (qi Z K) :=
  Cl.of (by decide +kernel) (Nat.le_of_ble_eq_true rfl) (rX12_isDigit_0  h)
set_option maxRecDepth 4000 in
theorem rX12_look_0 {G : jdG} {n rc rs : Nat} {Z : jdL} {I : jdI} {J : jdJ} {K : jdI → jdJ → Prop} {t : Nat} (ht : zModel Z t) (h : (((I t 8) ≤ (I t 22) → ((¬ (I t 22) = (I t 8) → (vp_in (I t 22) 250 ∧ Cl G mX12_isLetter n 0 0 [.int (I (t + 16) (Int32.toNatClampNeg (I t 22)))] Z (uI (uI I t 24 (I t 22)) t 25 0) J (qi Z (fun v3 I2 J2 => ((v3 = 0 → (vp_in (I2 t 22) 250 ∧ Cl G mX12_isDigit n 0 0 [.int (I2 (t + 16) (Int32.toNatClampNeg (I2 t 22)))] Z I2 J2 (qi Z (fun v6 I5 J5 => ((v6 = 0 → (vp_in (I5 t 22) 250 ∧ ((¬ (I5 (t + 16) (Int32.toNatClampNeg (I5 t 22))) = 59 → K (uI (uI I5 t 23 4) t 22 ((I5 t 22) + 1)) J5) ∧ ((I5 (t + 16) (Int32.toNatClampNeg (I5 t 22))) = 59 → K (uI (uI I5 t 23 3) t 22 ((I5 t 22) + 1)) J5)))) ∧ (¬ v6 = 0 → Jd G mX12_look (jdFm G (qv Z K)) (n + 1) rc rs 149 [(0, .ref (gb G + t))] [] Z (uI I5 t 23 2) J5)))))) ∧ (¬ v3 = 0 → Jd G mX12_look (jdFm G (qv Z K)) (n + 1) rc rs 90 [(0, .ref (gb G + t))] [] Z (uI I2 t 23 1) J2)))))) ∧ ((I t 22) = (I t 8) → K (uI (uI (uI I t 24 (I t 22)) t 25 0) t 23 0) J))) ∧ (¬ (I t 8) ≤ (I t 22) → (vp_in (I t 22) 250 ∧ ((¬ (I (t + 16) (Int32.toNatClampNeg (I t 22))) = 32 → ((¬ (I t 22) = (I t 8) → (vp_in (I t 22) 250 ∧ Cl G mX12_isLetter n 0 0 [.int (I (t + 16) (Int32.toNatClampNeg (I t 22)))] Z (uI (uI I t 24 (I t 22)) t 25 0) J (qi Z (fun v11 I10 J10 => ((v11 = 0 → (vp_in (I10 t 22) 250 ∧ Cl G mX12_isDigit n 0 0 [.int (I10 (t + 16) (Int32.toNatClampNeg (I10 t 22)))] Z I10 J10 (qi Z (fun v14 I13 J13 => ((v14 = 0 → (vp_in (I13 t 22) 250 ∧ ((¬ (I13 (t + 16) (Int32.toNatClampNeg (I13 t 22))) = 59 → K (uI (uI I13 t 23 4) t 22 ((I13 t 22) + 1)) J13) ∧ ((I13 (t + 16) (Int32.toNatClampNeg (I13 t 22))) = 59 → K (uI (uI I13 t 23 3) t 22 ((I13 t 22) + 1)) J13)))) ∧ (¬ v14 = 0 → Jd G mX12_look (jdFm G (qv Z K)) (n + 1) rc rs 149 [(0, .ref (gb G + t))] [] Z (uI I13 t 23 2) J13)))))) ∧ (¬ v11 = 0 → Jd G mX12_look (jdFm G (qv Z K)) (n + 1) rc rs 90 [(0, .ref (gb G + t))] [] Z (uI I10 t 23 1) J10)))))) ∧ ((I t 22) = (I t 8) → K (uI (uI (uI I t 24 (I t 22)) t 25 0) t 23 0) J))) ∧ ((I (t + 16) (Int32.toNatClampNeg (I t 22))) = 32 → Jd G mX12_look (jdFm G (qv Z K)) (n + 1) rc rs 0 [(0, .ref (gb G + t))] [] Z (uI I t 22 ((I t 22) + 1)) J)))))) : Jd G mX12_look (jdFm G (qv Z K)) (n + 1) rc rs 0 [(0, .ref (gb G + t))] [] Z I J := by
  refine jd_aload_n (pc := 0) 0 dX12_look_0 rfl rfl ?_
  refine jd_getI (pc := 1) (ci := 11) (k := 22) gX12_159 ht.1 rfl dX12_look_1 ?_
  refine jd_aload_n (pc := 4) 0 dX12_look_4 rfl rfl ?_
  refine jd_getI (pc := 5) (ci := 11) (k := 8) gX12_156 ht.1 rfl dX12_look_5 ?_
  refine jd_icmp_ge (pc := 8) 38 dX12_look_8 (by decide) (fun hc => ?_) (fun hc => ?_)
  · have h := h.1 hc
    refine jd_aload_n (pc := 38) 0 dX12_look_38 rfl rfl ?_
    refine jd_aload_n (pc := 39) 0 dX12_look_39 rfl rfl ?_
    refine jd_getI (pc := 40) (ci := 11) (k := 22) gX12_159 ht.1 rfl dX12_look_40 ?_
    refine jd_putI (pc := 43) (ci := 11) (k := 24) pX12_162 ht.1 rfl rfl rfl dX12_look_43 ?_
    refine jd_aload_n (pc := 46) 0 dX12_look_46 rfl rfl ?_
    refine jd_iconst (pc := 47) (v := 0) dX12_look_47 (by decide) ?_
    refine jd_putI (pc := 48) (ci := 11) (k := 25) pX12_165 ht.1 rfl rfl rfl dX12_look_48 ?_
    refine jd_aload_n (pc := 51) 0 dX12_look_51 rfl rfl ?_
    refine jd_getIe (pc := 52) (ci := 11) (k := 22) (e := (I t 22)) (uI_sk (by decide) (uI_sk (by decide) rfl)) gX12_159 ht.1 rfl dX12_look_52 ?_
    refine jd_aload_n (pc := 55) 0 dX12_look_55 rfl rfl ?_
    refine jd_getIe (pc := 56) (ci := 11) (k := 8) (e := (I t 8)) (uI_sk (by decide) (uI_sk (by decide) rfl)) gX12_156 ht.1 rfl dX12_look_56 ?_
    refine jd_icmp_ne (pc := 59) 70 dX12_look_59 (by decide) (fun hc => ?_) (fun hc => ?_)
    · have h := h.1 hc
      refine jd_aload_n (pc := 70) 0 dX12_look_70 rfl rfl ?_
      refine jd_getR (pc := 71) (ci := 11) (k := 7) (r := (t + 16)) gX12_34 ht.1 rfl (zModel_p7 ht) dX12_look_71 ?_
      refine jd_aload_n (pc := 74) 0 dX12_look_74 rfl rfl ?_
      refine jd_getIe (pc := 75) (ci := 11) (k := 22) (e := (I t 22)) (uI_sk (by decide) (uI_sk (by decide) rfl)) gX12_159 ht.1 rfl dX12_look_75 ?_
      obtain ⟨hv1, h⟩ := h
      refine jd_ialdE (pc := 78) (len := 250) (e := (I (t + 16) (Int32.toNatClampNeg (I t 22)))) (uI_ne (by omega) (uI_ne (by omega) rfl)) (zModel_a7 ht) hv1 dX12_look_78 ?_
      refine jd_callSi (pc := 79) (M2 := mX12_isLetter) (av := [.int (I (t + 16) (Int32.toNatClampNeg (I t 22)))]) kX12_isLetter sX12_isLetter lX12_171 rfl rfl (Nat.le_of_ble_eq_true rfl) dX12_look_79 h ?_
      intro v3 I2 J2 h
      refine jd_if_eq (pc := 82) 129 dX12_look_82 (by decide) (fun hc => ?_) (fun hc => ?_)
      · have h := h.1 hc
        refine jd_aload_n (pc := 129) 0 dX12_look_129 rfl rfl ?_
        refine jd_getR (pc := 130) (ci := 11) (k := 7) (r := (t + 16)) gX12_34 ht.1 rfl (zModel_p7 ht) dX12_look_130 ?_
        refine jd_aload_n (pc := 133) 0 dX12_look_133 rfl rfl ?_
        refine jd_getI (pc := 134) (ci := 11) (k := 22) gX12_159 ht.1 rfl dX12_look_134 ?_
        obtain ⟨hv4, h⟩ := h
        refine jd_iald (pc := 137) (len := 250) (zModel_a7 ht) hv4 dX12_look_137 ?_
        refine jd_callSi (pc := 138) (M2 := mX12_isDigit) (av := [.int (I2 (t + 16) (Int32.toNatClampNeg (I2 t 22)))]) kX12_isDigit sX12_isDigit lX12_174 rfl rfl (Nat.le_of_ble_eq_true rfl) dX12_look_138 h ?_
        intro v6 I5 J5 h
        refine jd_if_eq (pc := 141) 230 dX12_look_141 (by decide) (fun hc => ?_) (fun hc => ?_)
        · have h := h.1 hc
          refine jd_aload_n (pc := 230) 0 dX12_look_230 rfl rfl ?_
          refine jd_aload_n (pc := 231) 0 dX12_look_231 rfl rfl ?_
          refine jd_getR (pc := 232) (ci := 11) (k := 7) (r := (t + 16)) gX12_34 ht.1 rfl (zModel_p7 ht) dX12_look_232 ?_
          refine jd_aload_n (pc := 235) 0 dX12_look_235 rfl rfl ?_
          refine jd_getI (pc := 236) (ci := 11) (k := 22) gX12_159 ht.1 rfl dX12_look_236 ?_
          obtain ⟨hv7, h⟩ := h
          refine jd_iald (pc := 239) (len := 250) (zModel_a7 ht) hv7 dX12_look_239 ?_
          refine jd_bipush (pc := 240) (v := 59) dX12_look_240 (by decide) ?_
          refine jd_icmp_ne (pc := 242) 249 dX12_look_242 (by decide) (fun hc => ?_) (fun hc => ?_)
          · have h := h.1 hc
            refine jd_iconst (pc := 249) (v := 4) dX12_look_249 (by decide) ?_
            refine jd_putI (pc := 250) (ci := 11) (k := 23) pX12_168 ht.1 rfl rfl rfl dX12_look_250 ?_
            refine jd_aload_n (pc := 253) 0 dX12_look_253 rfl rfl ?_
            refine jd_dup (pc := 254) dX12_look_254 rfl ?_
            refine jd_getIe (pc := 255) (ci := 11) (k := 22) (e := (I5 t 22)) (uI_sk (by decide) rfl) gX12_159 ht.1 rfl dX12_look_255 ?_
            refine jd_iconst (pc := 258) (v := 1) dX12_look_258 (by decide) ?_
            refine jd_iadd (pc := 259) dX12_look_259 ?_
            refine jd_putI (pc := 260) (ci := 11) (k := 22) pX12_159 ht.1 rfl rfl rfl dX12_look_260 ?_
            exact jd_vretK (pc := 263) rfl dX12_look_263 h
          · have h := h.2 hc
            refine jd_iconst (pc := 245) (v := 3) dX12_look_245 (by decide) ?_
            refine jd_goto (pc := 246) 250 dX12_look_246 (by decide) ?_
            refine jd_putI (pc := 250) (ci := 11) (k := 23) pX12_168 ht.1 rfl rfl rfl dX12_look_250 ?_
            refine jd_aload_n (pc := 253) 0 dX12_look_253 rfl rfl ?_
            refine jd_dup (pc := 254) dX12_look_254 rfl ?_
            refine jd_getIe (pc := 255) (ci := 11) (k := 22) (e := (I5 t 22)) (uI_sk (by decide) rfl) gX12_159 ht.1 rfl dX12_look_255 ?_
            refine jd_iconst (pc := 258) (v := 1) dX12_look_258 (by decide) ?_
            refine jd_iadd (pc := 259) dX12_look_259 ?_
            refine jd_putI (pc := 260) (ci := 11) (k := 22) pX12_159 ht.1 rfl rfl rfl dX12_look_260 ?_
            exact jd_vretK (pc := 263) rfl dX12_look_263 h
        · have h := h.2 hc
          refine jd_aload_n (pc := 144) 0 dX12_look_144 rfl rfl ?_
          refine jd_iconst (pc := 145) (v := 2) dX12_look_145 (by decide) ?_
          refine jd_putI (pc := 146) (ci := 11) (k := 23) pX12_168 ht.1 rfl rfl rfl dX12_look_146 ?_
          exact jd_lv (lv2 := [(0, .ref (gb G + t))]) [0] rfl h
      · have h := h.2 hc
        refine jd_aload_n (pc := 85) 0 dX12_look_85 rfl rfl ?_
        refine jd_iconst (pc := 86) (v := 1) dX12_look_86 (by decide) ?_
        refine jd_putI (pc := 87) (ci := 11) (k := 23) pX12_168 ht.1 rfl rfl rfl dX12_look_87 ?_
        exact jd_lv (lv2 := [(0, .ref (gb G + t))]) [0] rfl h
    · have h := h.2 hc
      refine jd_aload_n (pc := 62) 0 dX12_look_62 rfl rfl ?_
      refine jd_iconst (pc := 63) (v := 0) dX12_look_63 (by decide) ?_
      refine jd_putI (pc := 64) (ci := 11) (k := 23) pX12_168 ht.1 rfl rfl rfl dX12_look_64 ?_
      refine jd_goto (pc := 67) 263 dX12_look_67 (by decide) ?_
      exact jd_vretK (pc := 263) rfl dX12_look_263 h
  · have h := h.2 hc
    refine jd_aload_n (pc := 11) 0 dX12_look_11 rfl rfl ?_
    refine jd_getR (pc := 12) (ci := 11) (k := 7) (r := (t + 16)) gX12_34 ht.1 rfl (zModel_p7 ht) dX12_look_12 ?_
    refine jd_aload_n (pc := 15) 0 dX12_look_15 rfl rfl ?_
    refine jd_getI (pc := 16) (ci := 11) (k := 22) gX12_159 ht.1 rfl dX12_look_16 ?_
    obtain ⟨hv8, h⟩ := h
    refine jd_iald (pc := 19) (len := 250) (zModel_a7 ht) hv8 dX12_look_19 ?_
    refine jd_bipush (pc := 20) (v := 32) dX12_look_20 (by decide) ?_
    refine jd_icmp_ne (pc := 22) 38 dX12_look_22 (by decide) (fun hc => ?_) (fun hc => ?_)
    · have h := h.1 hc
      refine jd_aload_n (pc := 38) 0 dX12_look_38 rfl rfl ?_
      refine jd_aload_n (pc := 39) 0 dX12_look_39 rfl rfl ?_
      refine jd_getI (pc := 40) (ci := 11) (k := 22) gX12_159 ht.1 rfl dX12_look_40 ?_
      refine jd_putI (pc := 43) (ci := 11) (k := 24) pX12_162 ht.1 rfl rfl rfl dX12_look_43 ?_
      refine jd_aload_n (pc := 46) 0 dX12_look_46 rfl rfl ?_
      refine jd_iconst (pc := 47) (v := 0) dX12_look_47 (by decide) ?_
      refine jd_putI (pc := 48) (ci := 11) (k := 25) pX12_165 ht.1 rfl rfl rfl dX12_look_48 ?_
      refine jd_aload_n (pc := 51) 0 dX12_look_51 rfl rfl ?_
      refine jd_getIe (pc := 52) (ci := 11) (k := 22) (e := (I t 22)) (uI_sk (by decide) (uI_sk (by decide) rfl)) gX12_159 ht.1 rfl dX12_look_52 ?_
      refine jd_aload_n (pc := 55) 0 dX12_look_55 rfl rfl ?_
      refine jd_getIe (pc := 56) (ci := 11) (k := 8) (e := (I t 8)) (uI_sk (by decide) (uI_sk (by decide) rfl)) gX12_156 ht.1 rfl dX12_look_56 ?_
      refine jd_icmp_ne (pc := 59) 70 dX12_look_59 (by decide) (fun hc => ?_) (fun hc => ?_)
      · have h := h.1 hc
        refine jd_aload_n (pc := 70) 0 dX12_look_70 rfl rfl ?_
        refine jd_getR (pc := 71) (ci := 11) (k := 7) (r := (t + 16)) gX12_34 ht.1 rfl (zModel_p7 ht) dX12_look_71 ?_
        refine jd_aload_n (pc := 74) 0 dX12_look_74 rfl rfl ?_
        refine jd_getIe (pc := 75) (ci := 11) (k := 22) (e := (I t 22)) (uI_sk (by decide) (uI_sk (by decide) rfl)) gX12_159 ht.1 rfl dX12_look_75 ?_
        obtain ⟨hv9, h⟩ := h
        refine jd_ialdE (pc := 78) (len := 250) (e := (I (t + 16) (Int32.toNatClampNeg (I t 22)))) (uI_ne (by omega) (uI_ne (by omega) rfl)) (zModel_a7 ht) hv9 dX12_look_78 ?_
        refine jd_callSi (pc := 79) (M2 := mX12_isLetter) (av := [.int (I (t + 16) (Int32.toNatClampNeg (I t 22)))]) kX12_isLetter sX12_isLetter lX12_171 rfl rfl (Nat.le_of_ble_eq_true rfl) dX12_look_79 h ?_
        intro v11 I10 J10 h
        refine jd_if_eq (pc := 82) 129 dX12_look_82 (by decide) (fun hc => ?_) (fun hc => ?_)
        · have h := h.1 hc
          refine jd_aload_n (pc := 129) 0 dX12_look_129 rfl rfl ?_
          refine jd_getR (pc := 130) (ci := 11) (k := 7) (r := (t + 16)) gX12_34 ht.1 rfl (zModel_p7 ht) dX12_look_130 ?_
          refine jd_aload_n (pc := 133) 0 dX12_look_133 rfl rfl ?_
          refine jd_getI (pc := 134) (ci := 11) (k := 22) gX12_159 ht.1 rfl dX12_look_134 ?_
          obtain ⟨hv12, h⟩ := h
          refine jd_iald (pc := 137) (len := 250) (zModel_a7 ht) hv12 dX12_look_137 ?_
          refine jd_callSi (pc := 138) (M2 := mX12_isDigit) (av := [.int (I10 (t + 16) (Int32.toNatClampNeg (I10 t 22)))]) kX12_isDigit sX12_isDigit lX12_174 rfl rfl (Nat.le_of_ble_eq_true rfl) dX12_look_138 h ?_
          intro v14 I13 J13 h
          refine jd_if_eq (pc := 141) 230 dX12_look_141 (by decide) (fun hc => ?_) (fun hc => ?_)
          · have h := h.1 hc
            refine jd_aload_n (pc := 230) 0 dX12_look_230 rfl rfl ?_
            refine jd_aload_n (pc := 231) 0 dX12_look_231 rfl rfl ?_
            refine jd_getR (pc := 232) (ci := 11) (k := 7) (r := (t + 16)) gX12_34 ht.1 rfl (zModel_p7 ht) dX12_look_232 ?_
            refine jd_aload_n (pc := 235) 0 dX12_look_235 rfl rfl ?_
            refine jd_getI (pc := 236) (ci := 11) (k := 22) gX12_159 ht.1 rfl dX12_look_236 ?_
            obtain ⟨hv15, h⟩ := h
            refine jd_iald (pc := 239) (len := 250) (zModel_a7 ht) hv15 dX12_look_239 ?_
            refine jd_bipush (pc := 240) (v := 59) dX12_look_240 (by decide) ?_
            refine jd_icmp_ne (pc := 242) 249 dX12_look_242 (by decide) (fun hc => ?_) (fun hc => ?_)
            · have h := h.1 hc
              refine jd_iconst (pc := 249) (v := 4) dX12_look_249 (by decide) ?_
              refine jd_putI (pc := 250) (ci := 11) (k := 23) pX12_168 ht.1 rfl rfl rfl dX12_look_250 ?_
              refine jd_aload_n (pc := 253) 0 dX12_look_253 rfl rfl ?_
              refine jd_dup (pc := 254) dX12_look_254 rfl ?_
              refine jd_getIe (pc := 255) (ci := 11) (k := 22) (e := (I13 t 22)) (uI_sk (by decide) rfl) gX12_159 ht.1 rfl dX12_look_255 ?_
              refine jd_iconst (pc := 258) (v := 1) dX12_look_258 (by decide) ?_
              refine jd_iadd (pc := 259) dX12_look_259 ?_
              refine jd_putI (pc := 260) (ci := 11) (k := 22) pX12_159 ht.1 rfl rfl rfl dX12_look_260 ?_
              exact jd_vretK (pc := 263) rfl dX12_look_263 h
            · have h := h.2 hc
              refine jd_iconst (pc := 245) (v := 3) dX12_look_245 (by decide) ?_
              refine jd_goto (pc := 246) 250 dX12_look_246 (by decide) ?_
              refine jd_putI (pc := 250) (ci := 11) (k := 23) pX12_168 ht.1 rfl rfl rfl dX12_look_250 ?_
              refine jd_aload_n (pc := 253) 0 dX12_look_253 rfl rfl ?_
              refine jd_dup (pc := 254) dX12_look_254 rfl ?_
              refine jd_getIe (pc := 255) (ci := 11) (k := 22) (e := (I13 t 22)) (uI_sk (by decide) rfl) gX12_159 ht.1 rfl dX12_look_255 ?_
              refine jd_iconst (pc := 258) (v := 1) dX12_look_258 (by decide) ?_
              refine jd_iadd (pc := 259) dX12_look_259 ?_
              refine jd_putI (pc := 260) (ci := 11) (k := 22) pX12_159 ht.1 rfl rfl rfl dX12_look_260 ?_
              exact jd_vretK (pc := 263) rfl dX12_look_263 h
          · have h := h.2 hc
            refine jd_aload_n (pc := 144) 0 dX12_look_144 rfl rfl ?_
            refine jd_iconst (pc := 145) (v := 2) dX12_look_145 (by decide) ?_
            refine jd_putI (pc := 146) (ci := 11) (k := 23) pX12_168 ht.1 rfl rfl rfl dX12_look_146 ?_
            exact jd_lv (lv2 := [(0, .ref (gb G + t))]) [0] rfl h
        · have h := h.2 hc
          refine jd_aload_n (pc := 85) 0 dX12_look_85 rfl rfl ?_
          refine jd_iconst (pc := 86) (v := 1) dX12_look_86 (by decide) ?_
          refine jd_putI (pc := 87) (ci := 11) (k := 23) pX12_168 ht.1 rfl rfl rfl dX12_look_87 ?_
          exact jd_lv (lv2 := [(0, .ref (gb G + t))]) [0] rfl h
      · have h := h.2 hc
        refine jd_aload_n (pc := 62) 0 dX12_look_62 rfl rfl ?_
        refine jd_iconst (pc := 63) (v := 0) dX12_look_63 (by decide) ?_
        refine jd_putI (pc := 64) (ci := 11) (k := 23) pX12_168 ht.1 rfl rfl rfl dX12_look_64 ?_
        refine jd_goto (pc := 67) 263 dX12_look_67 (by decide) ?_
        exact jd_vretK (pc := 263) rfl dX12_look_263 h
    · have h := h.2 hc
      refine jd_aload_n (pc := 25) 0 dX12_look_25 rfl rfl ?_
      refine jd_dup (pc := 26) dX12_look_26 rfl ?_
      refine jd_getI (pc := 27) (ci := 11) (k := 22) gX12_159 ht.1 rfl dX12_look_27 ?_
      refine jd_iconst (pc := 30) (v := 1) dX12_look_30 (by decide) ?_
      refine jd_iadd (pc := 31) dX12_look_31 ?_
      refine jd_putI (pc := 32) (ci := 11) (k := 22) pX12_159 ht.1 rfl rfl rfl dX12_look_32 ?_
      refine jd_goto (pc := 35) 0 dX12_look_35 (by decide) ?_
      exact jd_lv (lv2 := [(0, .ref (gb G + t))]) [0] rfl h
set_option maxRecDepth 4000 in
theorem rX12_look_149 {G : jdG} {n rc rs : Nat} {Z : jdL} {I : jdI} {J : jdJ} {K : jdI → jdJ → Prop} {t : Nat} (ht : zModel Z t) (h : (((I t 8) ≤ (I t 22) → K I J) ∧ (¬ (I t 8) ≤ (I t 22) → (vp_in (I t 22) 250 ∧ Cl G mX12_isDigit n 0 0 [.int (I (t + 16) (Int32.toNatClampNeg (I t 22)))] Z I J (qi Z (fun v3 I2 J2 => ((v3 = 0 → K I2 J2) ∧ (¬ v3 = 0 → ((2 ≤ ((I2 t 22) - (I2 t 24)) → Jd G mX12_look (jdFm G (qv Z K)) (n + 1) rc rs 149 [(0, .ref (gb G + t))] [] Z (uI (uI I2 t 25 100000) t 22 ((I2 t 22) + 1)) J2) ∧ (¬ 2 ≤ ((I2 t 22) - (I2 t 24)) → (vp_in (I2 t 22) 250 ∧ Jd G mX12_look (jdFm G (qv Z K)) (n + 1) rc rs 149 [(0, .ref (gb G + t))] [] Z (uI (uI I2 t 25 ((((I2 t 25) * 10) + (I2 (t + 16) (Int32.toNatClampNeg (I2 t 22)))) - 48)) t 22 ((I2 t 22) + 1)) J2))))))))))) : Jd G mX12_look (jdFm G (qv Z K)) (n + 1) rc rs 149 [(0, .ref (gb G + t))] [] Z I J := by
  refine jd_aload_n (pc := 149) 0 dX12_look_149 rfl rfl ?_
  refine jd_getI (pc := 150) (ci := 11) (k := 22) gX12_159 ht.1 rfl dX12_look_150 ?_
  refine jd_aload_n (pc := 153) 0 dX12_look_153 rfl rfl ?_
  refine jd_getI (pc := 154) (ci := 11) (k := 8) gX12_156 ht.1 rfl dX12_look_154 ?_
  refine jd_icmp_ge (pc := 157) 263 dX12_look_157 (by decide) (fun hc => ?_) (fun hc => ?_)
  · have h := h.1 hc
    exact jd_vretK (pc := 263) rfl dX12_look_263 h
  · have h := h.2 hc
    refine jd_aload_n (pc := 160) 0 dX12_look_160 rfl rfl ?_
    refine jd_getR (pc := 161) (ci := 11) (k := 7) (r := (t + 16)) gX12_34 ht.1 rfl (zModel_p7 ht) dX12_look_161 ?_
    refine jd_aload_n (pc := 164) 0 dX12_look_164 rfl rfl ?_
    refine jd_getI (pc := 165) (ci := 11) (k := 22) gX12_159 ht.1 rfl dX12_look_165 ?_
    obtain ⟨hv1, h⟩ := h
    refine jd_iald (pc := 168) (len := 250) (zModel_a7 ht) hv1 dX12_look_168 ?_
    refine jd_callSi (pc := 169) (M2 := mX12_isDigit) (av := [.int (I (t + 16) (Int32.toNatClampNeg (I t 22)))]) kX12_isDigit sX12_isDigit lX12_174 rfl rfl (Nat.le_of_ble_eq_true rfl) dX12_look_169 h ?_
    intro v3 I2 J2 h
    refine jd_if_eq (pc := 172) 263 dX12_look_172 (by decide) (fun hc => ?_) (fun hc => ?_)
    · have h := h.1 hc
      exact jd_vretK (pc := 263) rfl dX12_look_263 h
    · have h := h.2 hc
      refine jd_aload_n (pc := 175) 0 dX12_look_175 rfl rfl ?_
      refine jd_aload_n (pc := 176) 0 dX12_look_176 rfl rfl ?_
      refine jd_getI (pc := 177) (ci := 11) (k := 22) gX12_159 ht.1 rfl dX12_look_177 ?_
      refine jd_aload_n (pc := 180) 0 dX12_look_180 rfl rfl ?_
      refine jd_getI (pc := 181) (ci := 11) (k := 24) gX12_162 ht.1 rfl dX12_look_181 ?_
      refine jd_isub (pc := 184) dX12_look_184 ?_
      refine jd_iconst (pc := 185) (v := 2) dX12_look_185 (by decide) ?_
      refine jd_icmp_ge (pc := 186) 212 dX12_look_186 (by decide) (fun hc => ?_) (fun hc => ?_)
      · have h := h.1 hc
        refine jd_ldc (pc := 212) (v := 100000) qX12_177 dX12_look_212 ?_
        refine jd_putI (pc := 214) (ci := 11) (k := 25) pX12_165 ht.1 rfl rfl rfl dX12_look_214 ?_
        refine jd_aload_n (pc := 217) 0 dX12_look_217 rfl rfl ?_
        refine jd_dup (pc := 218) dX12_look_218 rfl ?_
        refine jd_getIe (pc := 219) (ci := 11) (k := 22) (e := (I2 t 22)) (uI_sk (by decide) rfl) gX12_159 ht.1 rfl dX12_look_219 ?_
        refine jd_iconst (pc := 222) (v := 1) dX12_look_222 (by decide) ?_
        refine jd_iadd (pc := 223) dX12_look_223 ?_
        refine jd_putI (pc := 224) (ci := 11) (k := 22) pX12_159 ht.1 rfl rfl rfl dX12_look_224 ?_
        refine jd_goto (pc := 227) 149 dX12_look_227 (by decide) ?_
        exact jd_lv (lv2 := [(0, .ref (gb G + t))]) [0] rfl h
      · have h := h.2 hc
        refine jd_aload_n (pc := 189) 0 dX12_look_189 rfl rfl ?_
        refine jd_getI (pc := 190) (ci := 11) (k := 25) gX12_165 ht.1 rfl dX12_look_190 ?_
        refine jd_bipush (pc := 193) (v := 10) dX12_look_193 (by decide) ?_
        refine jd_imul (pc := 195) dX12_look_195 ?_
        refine jd_aload_n (pc := 196) 0 dX12_look_196 rfl rfl ?_
        refine jd_getR (pc := 197) (ci := 11) (k := 7) (r := (t + 16)) gX12_34 ht.1 rfl (zModel_p7 ht) dX12_look_197 ?_
        refine jd_aload_n (pc := 200) 0 dX12_look_200 rfl rfl ?_
        refine jd_getI (pc := 201) (ci := 11) (k := 22) gX12_159 ht.1 rfl dX12_look_201 ?_
        obtain ⟨hv4, h⟩ := h
        refine jd_iald (pc := 204) (len := 250) (zModel_a7 ht) hv4 dX12_look_204 ?_
        refine jd_iadd (pc := 205) dX12_look_205 ?_
        refine jd_bipush (pc := 206) (v := 48) dX12_look_206 (by decide) ?_
        refine jd_isub (pc := 208) dX12_look_208 ?_
        refine jd_goto (pc := 209) 214 dX12_look_209 (by decide) ?_
        refine jd_putI (pc := 214) (ci := 11) (k := 25) pX12_165 ht.1 rfl rfl rfl dX12_look_214 ?_
        refine jd_aload_n (pc := 217) 0 dX12_look_217 rfl rfl ?_
        refine jd_dup (pc := 218) dX12_look_218 rfl ?_
        refine jd_getIe (pc := 219) (ci := 11) (k := 22) (e := (I2 t 22)) (uI_sk (by decide) rfl) gX12_159 ht.1 rfl dX12_look_219 ?_
        refine jd_iconst (pc := 222) (v := 1) dX12_look_222 (by decide) ?_
        refine jd_iadd (pc := 223) dX12_look_223 ?_
        refine jd_putI (pc := 224) (ci := 11) (k := 22) pX12_159 ht.1 rfl rfl rfl dX12_look_224 ?_
        refine jd_goto (pc := 227) 149 dX12_look_227 (by decide) ?_
        exact jd_lv (lv2 := [(0, .ref (gb G + t))]) [0] rfl h
set_option maxRecDepth 4000 in
theorem rX12_look_90 {G : jdG} {n rc rs : Nat} {Z : jdL} {I : jdI} {J : jdJ} {K : jdI → jdJ → Prop} {t : Nat} (ht : zModel Z t) (h : (((I t 8) ≤ (I t 22) → K I J) ∧ (¬ (I t 8) ≤ (I t 22) → (vp_in (I t 22) 250 ∧ Cl G mX12_isLetter n 0 0 [.int (I (t + 16) (Int32.toNatClampNeg (I t 22)))] Z I J (qi Z (fun v3 I2 J2 => ((v3 = 0 → K I2 J2) ∧ (¬ v3 = 0 → Jd G mX12_look (jdFm G (qv Z K)) (n + 1) rc rs 90 [(0, .ref (gb G + t))] [] Z (uI I2 t 22 ((I2 t 22) + 1)) J2)))))))) : Jd G mX12_look (jdFm G (qv Z K)) (n + 1) rc rs 90 [(0, .ref (gb G + t))] [] Z I J := by
  refine jd_aload_n (pc := 90) 0 dX12_look_90 rfl rfl ?_
  refine jd_getI (pc := 91) (ci := 11) (k := 22) gX12_159 ht.1 rfl dX12_look_91 ?_
  refine jd_aload_n (pc := 94) 0 dX12_look_94 rfl rfl ?_
  refine jd_getI (pc := 95) (ci := 11) (k := 8) gX12_156 ht.1 rfl dX12_look_95 ?_
  refine jd_icmp_ge (pc := 98) 263 dX12_look_98 (by decide) (fun hc => ?_) (fun hc => ?_)
  · have h := h.1 hc
    exact jd_vretK (pc := 263) rfl dX12_look_263 h
  · have h := h.2 hc
    refine jd_aload_n (pc := 101) 0 dX12_look_101 rfl rfl ?_
    refine jd_getR (pc := 102) (ci := 11) (k := 7) (r := (t + 16)) gX12_34 ht.1 rfl (zModel_p7 ht) dX12_look_102 ?_
    refine jd_aload_n (pc := 105) 0 dX12_look_105 rfl rfl ?_
    refine jd_getI (pc := 106) (ci := 11) (k := 22) gX12_159 ht.1 rfl dX12_look_106 ?_
    obtain ⟨hv1, h⟩ := h
    refine jd_iald (pc := 109) (len := 250) (zModel_a7 ht) hv1 dX12_look_109 ?_
    refine jd_callSi (pc := 110) (M2 := mX12_isLetter) (av := [.int (I (t + 16) (Int32.toNatClampNeg (I t 22)))]) kX12_isLetter sX12_isLetter lX12_171 rfl rfl (Nat.le_of_ble_eq_true rfl) dX12_look_110 h ?_
    intro v3 I2 J2 h
    refine jd_if_eq (pc := 113) 263 dX12_look_113 (by decide) (fun hc => ?_) (fun hc => ?_)
    · have h := h.1 hc
      exact jd_vretK (pc := 263) rfl dX12_look_263 h
    · have h := h.2 hc
      refine jd_aload_n (pc := 116) 0 dX12_look_116 rfl rfl ?_
      refine jd_dup (pc := 117) dX12_look_117 rfl ?_
      refine jd_getI (pc := 118) (ci := 11) (k := 22) gX12_159 ht.1 rfl dX12_look_118 ?_
      refine jd_iconst (pc := 121) (v := 1) dX12_look_121 (by decide) ?_
      refine jd_iadd (pc := 122) dX12_look_122 ?_
      refine jd_putI (pc := 123) (ci := 11) (k := 22) pX12_159 ht.1 rfl rfl rfl dX12_look_123 ?_
      refine jd_goto (pc := 126) 90 dX12_look_126 (by decide) ?_
      exact jd_lv (lv2 := [(0, .ref (gb G + t))]) [0] rfl h
theorem eX12_look {G : jdG} {n : Nat} {Z : jdL} {I : jdI} {J : jdJ} {K : jdI → jdJ → Prop} {t : Nat} (ht : zModel Z t) (h : (((I t 8) ≤ (I t 22) → ((¬ (I t 22) = (I t 8) → (vp_in (I t 22) 250 ∧ Cl G mX12_isLetter n 0 0 [.int (I (t + 16) (Int32.toNatClampNeg (I t 22)))] Z (uI (uI I t 24 (I t 22)) t 25 0) J (qi Z (fun v3 I2 J2 => ((v3 = 0 → (vp_in (I2 t 22) 250 ∧ Cl G mX12_isDigit n 0 0 [.int (I2 (t + 16) (Int32.toNatClampNeg (I2 t 22)))] Z I2 J2 (qi Z (fun v6 I5 J5 => ((v6 = 0 → (vp_in (I5 t 22) 250 ∧ ((¬ (I5 (t + 16) (Int32.toNatClampNeg (I5 t 22))) = 59 → K (uI (uI I5 t 23 4) t 22 ((I5 t 22) + 1)) J5) ∧ ((I5 (t + 16) (Int32.toNatClampNeg (I5 t 22))) = 59 → K (uI (uI I5 t 23 3) t 22 ((I5 t 22) + 1)) J5)))) ∧ (¬ v6 = 0 → Jd G mX12_look (jdFm G (qv Z K)) (n + 1) 0 0 149 [(0, .ref (gb G + t))] [] Z (uI I5 t 23 2) J5)))))) ∧ (¬ v3 = 0 → Jd G mX12_look (jdFm G (qv Z K)) (n + 1) 0 0 90 [(0, .ref (gb G + t))] [] Z (uI I2 t 23 1) J2)))))) ∧ ((I t 22) = (I t 8) → K (uI (uI (uI I t 24 (I t 22)) t 25 0) t 23 0) J))) ∧ (¬ (I t 8) ≤ (I t 22) → (vp_in (I t 22) 250 ∧ ((¬ (I (t + 16) (Int32.toNatClampNeg (I t 22))) = 32 → ((¬ (I t 22) = (I t 8) → (vp_in (I t 22) 250 ∧ Cl G mX12_isLetter n 0 0 [.int (I (t + 16) (Int32.toNatClampNeg (I t 22)))] Z (uI (uI I t 24 (I t 22)) t 25 0) J (qi Z (fun v11 I10 J10 => ((v11 = 0 → (vp_in (I10 t 22) 250 ∧ Cl G mX12_isDigit n 0 0 [.int (I10 (t + 16) (Int32.toNatClampNeg (I10 t 22)))] Z I10 J10 (qi Z (fun v14 I13 J13 => ((v14 = 0 → (vp_in (I13 t 22) 250 ∧ ((¬ (I13 (t + 16) (Int32.toNatClampNeg (I13 t 22))) = 59 → K (uI (uI I13 t 23 4) t 22 ((I13 t 22) + 1)) J13) ∧ ((I13 (t + 16) (Int32.toNatClampNeg (I13 t 22))) = 59 → K (uI (uI I13 t 23 3) t 22 ((I13 t 22) + 1)) J13)))) ∧ (¬ v14 = 0 → Jd G mX12_look (jdFm G (qv Z K)) (n + 1) 0 0 149 [(0, .ref (gb G + t))] [] Z (uI I13 t 23 2) J13)))))) ∧ (¬ v11 = 0 → Jd G mX12_look (jdFm G (qv Z K)) (n + 1) 0 0 90 [(0, .ref (gb G + t))] [] Z (uI I10 t 23 1) J10)))))) ∧ ((I t 22) = (I t 8) → K (uI (uI (uI I t 24 (I t 22)) t 25 0) t 23 0) J))) ∧ ((I (t + 16) (Int32.toNatClampNeg (I t 22))) = 32 → Jd G mX12_look (jdFm G (qv Z K)) (n + 1) 0 0 0 [(0, .ref (gb G + t))] [] Z (uI I t 22 ((I t 22) + 1)) J)))))) : Cl G mX12_look (n + 1) 0 0 [.ref (gb G + t)] Z I J (qv Z K) :=
  Cl.of (by decide +kernel) (Nat.le_of_ble_eq_true rfl) (rX12_look_0 ht h)
set_option maxRecDepth 4000 in
theorem rX12_wrong_0 {G : jdG} {n rc rs : Nat} {Z : jdL} {I : jdI} {J : jdJ} {K : Int32 → jdI → jdJ → Prop} {t : Nat} (ht : zModel Z t) (h : K 0 (uI I t 26 (I t 24)) J) : Jd G mX12_wrong (jdFm G (qi Z K)) n rc rs 0 [(0, .ref (gb G + t))] [] Z I J := by
  refine jd_aload_n (pc := 0) 0 dX12_wrong_0 rfl rfl ?_
  refine jd_aload_n (pc := 1) 0 dX12_wrong_1 rfl rfl ?_
  refine jd_getI (pc := 2) (ci := 11) (k := 24) gX12_162 ht.1 rfl dX12_wrong_2 ?_
  refine jd_putI (pc := 5) (ci := 11) (k := 26) pX12_178 ht.1 rfl rfl rfl dX12_wrong_5 ?_
  refine jd_iconst (pc := 8) (v := 0) dX12_wrong_8 (by decide) ?_
  exact jd_iretK (pc := 9) (ty := .boolean) rfl (by decide) dX12_wrong_9 h
theorem eX12_wrong {G : jdG} {n : Nat} {Z : jdL} {I : jdI} {J : jdJ} {K : Int32 → jdI → jdJ → Prop} {t : Nat} (ht : zModel Z t) (h : K 0 (uI I t 26 (I t 24)) J) : Cl G mX12_wrong (n) 0 0 [.ref (gb G + t)] Z I J (qi Z K) :=
  Cl.of (by decide +kernel) (Nat.le_of_ble_eq_true rfl) (rX12_wrong_0 ht h)
set_option maxRecDepth 4000 in
theorem rX12_isWord_0 {G : jdG} {n rc rs : Nat} {Z : jdL} {I : jdI} {J : jdJ} {K : Int32 → jdI → jdJ → Prop} {sA : Nat → Nat} {sV : Nat → Nat} {t : Nat} {u1 : Nat} (hG : gOK G sA sV) (ht : zModel Z t) (hsi : u1 < 14) (h : ((¬ (I t 23) = 1 → K 0 I J) ∧ ((I t 23) = 1 → Cl G mJ0_length_8abf5 n 0 0 [.ref (sA u1)] Z I J (qi Z (fun v2 I1 J1 => ((((I t 22) - (I t 24)) = v2 → Jd G mX12_isWord (jdFm G (qi Z K)) (n + 1) rc rs 28 [(0, .ref (gb G + t)), (1, .ref (sA u1)), (2, .int 0)] [] Z I1 J1) ∧ (¬ ((I t 22) - (I t 24)) = v2 → K 0 I1 J1))))))) : Jd G mX12_isWord (jdFm G (qi Z K)) (n + 1) rc rs 0 [(0, .ref (gb G + t)), (1, .ref (sA u1))] [] Z I J := by
  refine jd_aload_n (pc := 0) 0 dX12_isWord_0 rfl rfl ?_
  refine jd_getI (pc := 1) (ci := 11) (k := 23) gX12_168 ht.1 rfl dX12_isWord_1 ?_
  refine jd_iconst (pc := 4) (v := 1) dX12_isWord_4 (by decide) ?_
  refine jd_icmp_ne (pc := 5) 24 dX12_isWord_5 (by decide) (fun hc => ?_) (fun hc => ?_)
  · have h := h.1 hc
    refine jd_iconst (pc := 24) (v := 0) dX12_isWord_24 (by decide) ?_
    exact jd_iretK (pc := 25) (ty := .boolean) rfl (by decide) dX12_isWord_25 h
  · have h := h.2 hc
    refine jd_aload_n (pc := 8) 0 dX12_isWord_8 rfl rfl ?_
    refine jd_getI (pc := 9) (ci := 11) (k := 22) gX12_159 ht.1 rfl dX12_isWord_9 ?_
    refine jd_aload_n (pc := 12) 0 dX12_isWord_12 rfl rfl ?_
    refine jd_getI (pc := 13) (ci := 11) (k := 24) gX12_162 ht.1 rfl dX12_isWord_13 ?_
    refine jd_isub (pc := 16) dX12_isWord_16 ?_
    refine jd_aload_n (pc := 17) 1 dX12_isWord_17 rfl rfl ?_
    refine jd_callStr (pc := 18) (M2 := mJ0_length_8abf5) (av := []) hG hsi kJ0_length_8abf5 sJ0_length_8abf5 rfl lX12_181 rfl rfl (Nat.le_of_ble_eq_true rfl) dX12_isWord_18 h ?_
    intro v2 I1 J1 h
    refine jd_icmp_eq (pc := 21) 26 dX12_isWord_21 (by decide) (fun hc => ?_) (fun hc => ?_)
    · have h := h.1 hc
      refine jd_iconst (pc := 26) (v := 0) dX12_isWord_26 (by decide) ?_
      refine jd_istore_n (pc := 27) [(2, .int 0), (0, .ref (gb G + t)), (1, .ref (sA u1))] dX12_isWord_27 rfl (by decide) rfl ?_
      exact jd_lv (lv2 := [(0, .ref (gb G + t)), (1, .ref (sA u1)), (2, .int 0)]) [1, 2, 0] rfl h
    · have h := h.2 hc
      refine jd_iconst (pc := 24) (v := 0) dX12_isWord_24 (by decide) ?_
      exact jd_iretK (pc := 25) (ty := .boolean) rfl (by decide) dX12_isWord_25 h
set_option maxRecDepth 4000 in
theorem rX12_isWord_28 {G : jdG} {n rc rs : Nat} {Z : jdL} {I : jdI} {J : jdJ} {K : Int32 → jdI → jdJ → Prop} {sA : Nat → Nat} {sV : Nat → Nat} {u1 : Nat} {t : Nat} {x2 : Int32} (hG : gOK G sA sV) (ht : zModel Z t) (hsi : u1 < 14) (h : Cl G mJ0_length_8abf5 n 0 0 [.ref (sA u1)] Z I J (qi Z (fun v2 I1 J1 => ((v2 ≤ x2 → K 1 I1 J1) ∧ (¬ v2 ≤ x2 → (vp_in ((I1 t 24) + x2) 250 ∧ Cl G mJ0_charAt_5068e n 0 0 [.ref (sA u1), .int x2] Z I1 J1 (qi Z (fun v5 I4 J4 => (((I1 (t + 16) (Int32.toNatClampNeg ((I1 t 24) + x2))) = v5 → Jd G mX12_isWord (jdFm G (qi Z K)) (n + 1) rc rs 28 [(0, .ref (gb G + t)), (1, .ref (sA u1)), (2, .int (x2 + 1))] [] Z I4 J4) ∧ (¬ (I1 (t + 16) (Int32.toNatClampNeg ((I1 t 24) + x2))) = v5 → K 0 I4 J4)))))))))) : Jd G mX12_isWord (jdFm G (qi Z K)) (n + 1) rc rs 28 [(0, .ref (gb G + t)), (1, .ref (sA u1)), (2, .int x2)] [] Z I J := by
  refine jd_iload_n (pc := 28) 2 dX12_isWord_28 rfl rfl ?_
  refine jd_aload_n (pc := 29) 1 dX12_isWord_29 rfl rfl ?_
  refine jd_callStr (pc := 30) (M2 := mJ0_length_8abf5) (av := []) hG hsi kJ0_length_8abf5 sJ0_length_8abf5 rfl lX12_181 rfl rfl (Nat.le_of_ble_eq_true rfl) dX12_isWord_30 h ?_
  intro v2 I1 J1 h
  refine jd_icmp_ge (pc := 33) 63 dX12_isWord_33 (by decide) (fun hc => ?_) (fun hc => ?_)
  · have h := h.1 hc
    refine jd_iconst (pc := 63) (v := 1) dX12_isWord_63 (by decide) ?_
    exact jd_iretK (pc := 64) (ty := .boolean) rfl (by decide) dX12_isWord_64 h
  · have h := h.2 hc
    refine jd_aload_n (pc := 36) 0 dX12_isWord_36 rfl rfl ?_
    refine jd_getR (pc := 37) (ci := 11) (k := 7) (r := (t + 16)) gX12_34 ht.1 rfl (zModel_p7 ht) dX12_isWord_37 ?_
    refine jd_aload_n (pc := 40) 0 dX12_isWord_40 rfl rfl ?_
    refine jd_getI (pc := 41) (ci := 11) (k := 24) gX12_162 ht.1 rfl dX12_isWord_41 ?_
    refine jd_iload_n (pc := 44) 2 dX12_isWord_44 rfl rfl ?_
    refine jd_iadd (pc := 45) dX12_isWord_45 ?_
    obtain ⟨hv3, h⟩ := h
    refine jd_iald (pc := 46) (len := 250) (zModel_a7 ht) hv3 dX12_isWord_46 ?_
    refine jd_aload_n (pc := 47) 1 dX12_isWord_47 rfl rfl ?_
    refine jd_iload_n (pc := 48) 2 dX12_isWord_48 rfl rfl ?_
    refine jd_callStr (pc := 49) (M2 := mJ0_charAt_5068e) (av := [.int x2]) hG hsi kJ0_charAt_5068e sJ0_charAt_5068e rfl lX12_186 rfl rfl (Nat.le_of_ble_eq_true rfl) dX12_isWord_49 h ?_
    intro v5 I4 J4 h
    refine jd_icmp_eq (pc := 52) 57 dX12_isWord_52 (by decide) (fun hc => ?_) (fun hc => ?_)
    · have h := h.1 hc
      refine jd_iinc (pc := 57) (v := (x2 + 1)) 2 [(2, .int (x2 + 1)), (0, .ref (gb G + t)), (1, .ref (sA u1))] dX12_isWord_57 rfl rfl (by decide) rfl ?_
      refine jd_goto (pc := 60) 28 dX12_isWord_60 (by decide) ?_
      exact jd_lv (lv2 := [(0, .ref (gb G + t)), (1, .ref (sA u1)), (2, .int (x2 + 1))]) [1, 2, 0] rfl h
    · have h := h.2 hc
      refine jd_iconst (pc := 55) (v := 0) dX12_isWord_55 (by decide) ?_
      exact jd_iretK (pc := 56) (ty := .boolean) rfl (by decide) dX12_isWord_56 h
theorem eX12_isWord {G : jdG} {n : Nat} {Z : jdL} {I : jdI} {J : jdJ} {K : Int32 → jdI → jdJ → Prop} {sA : Nat → Nat} {sV : Nat → Nat} {t : Nat} {u1 : Nat} (hG : gOK G sA sV) (ht : zModel Z t) (hsi : u1 < 14) (h : ((¬ (I t 23) = 1 → K 0 I J) ∧ ((I t 23) = 1 → Cl G mJ0_length_8abf5 n 0 0 [.ref (sA u1)] Z I J (qi Z (fun v2 I1 J1 => ((((I t 22) - (I t 24)) = v2 → Jd G mX12_isWord (jdFm G (qi Z K)) (n + 1) 0 0 28 [(0, .ref (gb G + t)), (1, .ref (sA u1)), (2, .int 0)] [] Z I1 J1) ∧ (¬ ((I t 22) - (I t 24)) = v2 → K 0 I1 J1))))))) : Cl G mX12_isWord (n + 1) 0 0 [.ref (gb G + t), .ref (sA u1)] Z I J (qi Z K) :=
  Cl.of (by decide +kernel) (Nat.le_of_ble_eq_true rfl) (rX12_isWord_0 hG ht hsi h)
set_option maxRecDepth 4000 in
theorem rX12_number_0 {G : jdG} {n rc rs : Nat} {Z : jdL} {I : jdI} {J : jdJ} {K : Int32 → jdI → jdJ → Prop} {t : Nat} {x1 : Int32} {x2 : Int32} {x3 : Int32} (ht : zModel Z t) (h : ((¬ (I t 23) = 2 → Cl G mX12_wrong n 0 0 [.ref (gb G + t)] Z I J (qi Z (fun v2 I1 J1 => (narrow .boolean (.int v2) = .int v2 ∧ K v2 I1 J1)))) ∧ ((I t 23) = 2 → Cl G mX12_in n 0 0 [.long (Int32.toInt64 (I t 25)), .long (Int32.toInt64 x2), .long (Int32.toInt64 x3)] Z I J (qi Z (fun v4 I3 J3 => ((¬ v4 = 0 → (vp_in x1 2 ∧ Cl G mX12_look n 0 0 [.ref (gb G + t)] Z (uI I3 (t + 29) (Int32.toNatClampNeg x1) (I3 t 25)) J3 (qv Z (fun I6 J6 => K 1 I6 J6)))) ∧ (v4 = 0 → Cl G mX12_wrong n 0 0 [.ref (gb G + t)] Z I3 J3 (qi Z (fun v9 I8 J8 => (narrow .boolean (.int v9) = .int v9 ∧ K v9 I8 J8)))))))))) : Jd G mX12_number (jdFm G (qi Z K)) (n + 1) rc rs 0 [(0, .ref (gb G + t)), (1, .int x1), (2, .int x2), (3, .int x3)] [] Z I J := by
  refine jd_aload_n (pc := 0) 0 dX12_number_0 rfl rfl ?_
  refine jd_getI (pc := 1) (ci := 11) (k := 23) gX12_168 ht.1 rfl dX12_number_1 ?_
  refine jd_iconst (pc := 4) (v := 2) dX12_number_4 (by decide) ?_
  refine jd_icmp_ne (pc := 5) 23 dX12_number_5 (by decide) (fun hc => ?_) (fun hc => ?_)
  · have h := h.1 hc
    refine jd_aload_n (pc := 23) 0 dX12_number_23 rfl rfl ?_
    refine jd_callVi (pc := 24) (M2 := mX12_wrong) (id := t) (ci := 11) (T := TX12) (N := 45) (av := []) kX12_wrong sX12_wrong rfl ht.1 lX12_190 rfl rfl (Nat.le_of_ble_eq_true rfl) dX12_number_24 h ?_
    intro v2 I1 J1 h
    exact jd_iretK (pc := 27) (ty := .boolean) rfl h.1 dX12_number_27 h.2
  · have h := h.2 hc
    refine jd_aload_n (pc := 8) 0 dX12_number_8 rfl rfl ?_
    refine jd_getI (pc := 9) (ci := 11) (k := 25) gX12_165 ht.1 rfl dX12_number_9 ?_
    refine jd_i2l (pc := 12) dX12_number_12 ?_
    refine jd_iload_n (pc := 13) 2 dX12_number_13 rfl rfl ?_
    refine jd_i2l (pc := 14) dX12_number_14 ?_
    refine jd_iload_n (pc := 15) 3 dX12_number_15 rfl rfl ?_
    refine jd_i2l (pc := 16) dX12_number_16 ?_
    refine jd_callSi (pc := 17) (M2 := mX12_in) (av := [.long (Int32.toInt64 (I t 25)), .long (Int32.toInt64 x2), .long (Int32.toInt64 x3)]) kX12_in sX12_in lX12_88 rfl rfl (Nat.le_of_ble_eq_true rfl) dX12_number_17 h ?_
    intro v4 I3 J3 h
    refine jd_if_ne (pc := 20) 28 dX12_number_20 (by decide) (fun hc => ?_) (fun hc => ?_)
    · have h := h.1 hc
      refine jd_aload_n (pc := 28) 0 dX12_number_28 rfl rfl ?_
      refine jd_getR (pc := 29) (ci := 11) (k := 27) (r := (t + 29)) gX12_58 ht.1 rfl (zModel_p27 ht) dX12_number_29 ?_
      refine jd_iload_n (pc := 32) 1 dX12_number_32 rfl rfl ?_
      refine jd_aload_n (pc := 33) 0 dX12_number_33 rfl rfl ?_
      refine jd_getI (pc := 34) (ci := 11) (k := 25) gX12_165 ht.1 rfl dX12_number_34 ?_
      obtain ⟨hv5, h⟩ := h
      refine jd_iast (pc := 37) (len := 2) (zModel_a27 ht) hv5 dX12_number_37 ?_
      refine jd_aload_n (pc := 38) 0 dX12_number_38 rfl rfl ?_
      refine jd_callVv (pc := 39) (M2 := mX12_look) (id := t) (ci := 11) (T := TX12) (N := 45) (av := []) kX12_look sX12_look rfl ht.1 lX12_194 rfl rfl (Nat.le_of_ble_eq_true rfl) dX12_number_39 h ?_
      intro I6 J6 h
      refine jd_iconst (pc := 42) (v := 1) dX12_number_42 (by decide) ?_
      exact jd_iretK (pc := 43) (ty := .boolean) rfl (by decide) dX12_number_43 h
    · have h := h.2 hc
      refine jd_aload_n (pc := 23) 0 dX12_number_23 rfl rfl ?_
      refine jd_callVi (pc := 24) (M2 := mX12_wrong) (id := t) (ci := 11) (T := TX12) (N := 45) (av := []) kX12_wrong sX12_wrong rfl ht.1 lX12_190 rfl rfl (Nat.le_of_ble_eq_true rfl) dX12_number_24 h ?_
      intro v9 I8 J8 h
      exact jd_iretK (pc := 27) (ty := .boolean) rfl h.1 dX12_number_27 h.2
theorem eX12_number {G : jdG} {n : Nat} {Z : jdL} {I : jdI} {J : jdJ} {K : Int32 → jdI → jdJ → Prop} {t : Nat} {x1 : Int32} {x2 : Int32} {x3 : Int32} (ht : zModel Z t) (h : ((¬ (I t 23) = 2 → Cl G mX12_wrong n 0 0 [.ref (gb G + t)] Z I J (qi Z (fun v2 I1 J1 => (narrow .boolean (.int v2) = .int v2 ∧ K v2 I1 J1)))) ∧ ((I t 23) = 2 → Cl G mX12_in n 0 0 [.long (Int32.toInt64 (I t 25)), .long (Int32.toInt64 x2), .long (Int32.toInt64 x3)] Z I J (qi Z (fun v4 I3 J3 => ((¬ v4 = 0 → (vp_in x1 2 ∧ Cl G mX12_look n 0 0 [.ref (gb G + t)] Z (uI I3 (t + 29) (Int32.toNatClampNeg x1) (I3 t 25)) J3 (qv Z (fun I6 J6 => K 1 I6 J6)))) ∧ (v4 = 0 → Cl G mX12_wrong n 0 0 [.ref (gb G + t)] Z I3 J3 (qi Z (fun v9 I8 J8 => (narrow .boolean (.int v9) = .int v9 ∧ K v9 I8 J8)))))))))) : Cl G mX12_number (n + 1) 0 0 [.ref (gb G + t), .int x1, .int x2, .int x3] Z I J (qi Z K) :=
  Cl.of (by decide +kernel) (Nat.le_of_ble_eq_true rfl) (rX12_number_0 ht h)
set_option maxRecDepth 4000 in
theorem rX12_tells_0 {G : jdG} {n rc rs : Nat} {Z : jdL} {I : jdI} {J : jdJ} {K : Int32 → jdI → jdJ → Prop} {t : Nat} {x1 : Int32} {x2 : Int32} (ht : zModel Z t) (h : Cl G mX12_look n 0 0 [.ref (gb G + t)] Z I J (qv Z (fun I1 J1 => Cl G mX12_number n 0 0 [.ref (gb G + t), .int 0, .int x1, .int x2] Z I1 J1 (qi Z (fun v4 I3 J3 => (narrow .boolean (.int v4) = .int v4 ∧ K v4 I3 J3)))))) : Jd G mX12_tells (jdFm G (qi Z K)) (n + 1) rc rs 0 [(0, .ref (gb G + t)), (1, .int x1), (2, .int x2)] [] Z I J := by
  refine jd_aload_n (pc := 0) 0 dX12_tells_0 rfl rfl ?_
  refine jd_callVv (pc := 1) (M2 := mX12_look) (id := t) (ci := 11) (T := TX12) (N := 45) (av := []) kX12_look sX12_look rfl ht.1 lX12_194 rfl rfl (Nat.le_of_ble_eq_true rfl) dX12_tells_1 h ?_
  intro I1 J1 h
  refine jd_aload_n (pc := 4) 0 dX12_tells_4 rfl rfl ?_
  refine jd_iconst (pc := 5) (v := 0) dX12_tells_5 (by decide) ?_
  refine jd_iload_n (pc := 6) 1 dX12_tells_6 rfl rfl ?_
  refine jd_iload_n (pc := 7) 2 dX12_tells_7 rfl rfl ?_
  refine jd_callVi (pc := 8) (M2 := mX12_number) (id := t) (ci := 11) (T := TX12) (N := 45) (av := [.int 0, .int x1, .int x2]) kX12_number sX12_number rfl ht.1 lX12_197 rfl rfl (Nat.le_of_ble_eq_true rfl) dX12_tells_8 h ?_
  intro v4 I3 J3 h
  exact jd_iretK (pc := 11) (ty := .boolean) rfl h.1 dX12_tells_11 h.2
theorem eX12_tells {G : jdG} {n : Nat} {Z : jdL} {I : jdI} {J : jdJ} {K : Int32 → jdI → jdJ → Prop} {t : Nat} {x1 : Int32} {x2 : Int32} (ht : zModel Z t) (h : Cl G mX12_look n 0 0 [.ref (gb G + t)] Z I J (qv Z (fun I1 J1 => Cl G mX12_number n 0 0 [.ref (gb G + t), .int 0, .int x1, .int x2] Z I1 J1 (qi Z (fun v4 I3 J3 => (narrow .boolean (.int v4) = .int v4 ∧ K v4 I3 J3)))))) : Cl G mX12_tells (n + 1) 0 0 [.ref (gb G + t), .int x1, .int x2] Z I J (qi Z K) :=
  Cl.of (by decide +kernel) (Nat.le_of_ble_eq_true rfl) (rX12_tells_0 ht h)
set_option maxRecDepth 4000 in
theorem rX12_twoTold_0 {G : jdG} {n rc rs : Nat} {Z : jdL} {I : jdI} {J : jdJ} {K : Int32 → jdI → jdJ → Prop} {t : Nat} (ht : zModel Z t) (h : Cl G mX12_tells n 0 0 [.ref (gb G + t), .int 0, .int ((I t 10) - 1)] Z I J (qi Z (fun v2 I1 J1 => ((¬ v2 = 0 → ((¬ (I1 t 23) = 2 → Cl G mX12_number n 0 0 [.ref (gb G + t), .int 1, .int 0, .int ((I1 t 10) - 1)] Z I1 J1 (qi Z (fun v4 I3 J3 => (narrow .boolean (.int v4) = .int v4 ∧ K v4 I3 J3)))) ∧ ((I1 t 23) = 2 → ((¬ (I1 t 25) = (I1 (t + 29) 0) → Cl G mX12_number n 0 0 [.ref (gb G + t), .int 1, .int 0, .int ((I1 t 10) - 1)] Z I1 J1 (qi Z (fun v6 I5 J5 => (narrow .boolean (.int v6) = .int v6 ∧ K v6 I5 J5)))) ∧ ((I1 t 25) = (I1 (t + 29) 0) → Cl G mX12_wrong n 0 0 [.ref (gb G + t)] Z I1 J1 (qi Z (fun v8 I7 J7 => (narrow .boolean (.int v8) = .int v8 ∧ K v8 I7 J7)))))))) ∧ (v2 = 0 → K 0 I1 J1))))) : Jd G mX12_twoTold (jdFm G (qi Z K)) (n + 1) rc rs 0 [(0, .ref (gb G + t))] [] Z I J := by
  refine jd_aload_n (pc := 0) 0 dX12_twoTold_0 rfl rfl ?_
  refine jd_iconst (pc := 1) (v := 0) dX12_twoTold_1 (by decide) ?_
  refine jd_aload_n (pc := 2) 0 dX12_twoTold_2 rfl rfl ?_
  refine jd_getI (pc := 3) (ci := 11) (k := 10) gX12_85 ht.1 rfl dX12_twoTold_3 ?_
  refine jd_iconst (pc := 6) (v := 1) dX12_twoTold_6 (by decide) ?_
  refine jd_isub (pc := 7) dX12_twoTold_7 ?_
  refine jd_callVi (pc := 8) (M2 := mX12_tells) (id := t) (ci := 11) (T := TX12) (N := 45) (av := [.int 0, .int ((I t 10) - 1)]) kX12_tells sX12_tells rfl ht.1 lX12_201 rfl rfl (Nat.le_of_ble_eq_true rfl) dX12_twoTold_8 h ?_
  intro v2 I1 J1 h
  refine jd_if_ne (pc := 11) 16 dX12_twoTold_11 (by decide) (fun hc => ?_) (fun hc => ?_)
  · have h := h.1 hc
    refine jd_aload_n (pc := 16) 0 dX12_twoTold_16 rfl rfl ?_
    refine jd_getI (pc := 17) (ci := 11) (k := 23) gX12_168 ht.1 rfl dX12_twoTold_17 ?_
    refine jd_iconst (pc := 20) (v := 2) dX12_twoTold_20 (by decide) ?_
    refine jd_icmp_ne (pc := 21) 42 dX12_twoTold_21 (by decide) (fun hc => ?_) (fun hc => ?_)
    · have h := h.1 hc
      refine jd_aload_n (pc := 42) 0 dX12_twoTold_42 rfl rfl ?_
      refine jd_iconst (pc := 43) (v := 1) dX12_twoTold_43 (by decide) ?_
      refine jd_iconst (pc := 44) (v := 0) dX12_twoTold_44 (by decide) ?_
      refine jd_aload_n (pc := 45) 0 dX12_twoTold_45 rfl rfl ?_
      refine jd_getI (pc := 46) (ci := 11) (k := 10) gX12_85 ht.1 rfl dX12_twoTold_46 ?_
      refine jd_iconst (pc := 49) (v := 1) dX12_twoTold_49 (by decide) ?_
      refine jd_isub (pc := 50) dX12_twoTold_50 ?_
      refine jd_callVi (pc := 51) (M2 := mX12_number) (id := t) (ci := 11) (T := TX12) (N := 45) (av := [.int 1, .int 0, .int ((I1 t 10) - 1)]) kX12_number sX12_number rfl ht.1 lX12_197 rfl rfl (Nat.le_of_ble_eq_true rfl) dX12_twoTold_51 h ?_
      intro v4 I3 J3 h
      exact jd_iretK (pc := 54) (ty := .boolean) rfl h.1 dX12_twoTold_54 h.2
    · have h := h.2 hc
      refine jd_aload_n (pc := 24) 0 dX12_twoTold_24 rfl rfl ?_
      refine jd_getI (pc := 25) (ci := 11) (k := 25) gX12_165 ht.1 rfl dX12_twoTold_25 ?_
      refine jd_aload_n (pc := 28) 0 dX12_twoTold_28 rfl rfl ?_
      refine jd_getR (pc := 29) (ci := 11) (k := 27) (r := (t + 29)) gX12_58 ht.1 rfl (zModel_p27 ht) dX12_twoTold_29 ?_
      refine jd_iconst (pc := 32) (v := 0) dX12_twoTold_32 (by decide) ?_
      refine jd_iald (pc := 33) (len := 2) (zModel_a27 ht) (by unfold vp_in; decide) dX12_twoTold_33 ?_
      refine jd_icmp_ne (pc := 34) 42 dX12_twoTold_34 (by decide) (fun hc => ?_) (fun hc => ?_)
      · have h := h.1 hc
        refine jd_aload_n (pc := 42) 0 dX12_twoTold_42 rfl rfl ?_
        refine jd_iconst (pc := 43) (v := 1) dX12_twoTold_43 (by decide) ?_
        refine jd_iconst (pc := 44) (v := 0) dX12_twoTold_44 (by decide) ?_
        refine jd_aload_n (pc := 45) 0 dX12_twoTold_45 rfl rfl ?_
        refine jd_getI (pc := 46) (ci := 11) (k := 10) gX12_85 ht.1 rfl dX12_twoTold_46 ?_
        refine jd_iconst (pc := 49) (v := 1) dX12_twoTold_49 (by decide) ?_
        refine jd_isub (pc := 50) dX12_twoTold_50 ?_
        refine jd_callVi (pc := 51) (M2 := mX12_number) (id := t) (ci := 11) (T := TX12) (N := 45) (av := [.int 1, .int 0, .int ((I1 t 10) - 1)]) kX12_number sX12_number rfl ht.1 lX12_197 rfl rfl (Nat.le_of_ble_eq_true rfl) dX12_twoTold_51 h ?_
        intro v6 I5 J5 h
        exact jd_iretK (pc := 54) (ty := .boolean) rfl h.1 dX12_twoTold_54 h.2
      · have h := h.2 hc
        refine jd_aload_n (pc := 37) 0 dX12_twoTold_37 rfl rfl ?_
        refine jd_callVi (pc := 38) (M2 := mX12_wrong) (id := t) (ci := 11) (T := TX12) (N := 45) (av := []) kX12_wrong sX12_wrong rfl ht.1 lX12_190 rfl rfl (Nat.le_of_ble_eq_true rfl) dX12_twoTold_38 h ?_
        intro v8 I7 J7 h
        exact jd_iretK (pc := 41) (ty := .boolean) rfl h.1 dX12_twoTold_41 h.2
  · have h := h.2 hc
    refine jd_iconst (pc := 14) (v := 0) dX12_twoTold_14 (by decide) ?_
    exact jd_iretK (pc := 15) (ty := .boolean) rfl (by decide) dX12_twoTold_15 h
theorem eX12_twoTold {G : jdG} {n : Nat} {Z : jdL} {I : jdI} {J : jdJ} {K : Int32 → jdI → jdJ → Prop} {t : Nat} (ht : zModel Z t) (h : Cl G mX12_tells n 0 0 [.ref (gb G + t), .int 0, .int ((I t 10) - 1)] Z I J (qi Z (fun v2 I1 J1 => ((¬ v2 = 0 → ((¬ (I1 t 23) = 2 → Cl G mX12_number n 0 0 [.ref (gb G + t), .int 1, .int 0, .int ((I1 t 10) - 1)] Z I1 J1 (qi Z (fun v4 I3 J3 => (narrow .boolean (.int v4) = .int v4 ∧ K v4 I3 J3)))) ∧ ((I1 t 23) = 2 → ((¬ (I1 t 25) = (I1 (t + 29) 0) → Cl G mX12_number n 0 0 [.ref (gb G + t), .int 1, .int 0, .int ((I1 t 10) - 1)] Z I1 J1 (qi Z (fun v6 I5 J5 => (narrow .boolean (.int v6) = .int v6 ∧ K v6 I5 J5)))) ∧ ((I1 t 25) = (I1 (t + 29) 0) → Cl G mX12_wrong n 0 0 [.ref (gb G + t)] Z I1 J1 (qi Z (fun v8 I7 J7 => (narrow .boolean (.int v8) = .int v8 ∧ K v8 I7 J7)))))))) ∧ (v2 = 0 → K 0 I1 J1))))) : Cl G mX12_twoTold (n + 1) 0 0 [.ref (gb G + t)] Z I J (qi Z K) :=
  Cl.of (by decide +kernel) (Nat.le_of_ble_eq_true rfl) (rX12_twoTold_0 ht h)
set_option maxRecDepth 4000 in
theorem rX12_knowTold_0 {G : jdG} {n rc rs : Nat} {Z : jdL} {I : jdI} {J : jdJ} {K : Int32 → jdI → jdJ → Prop} {sA : Nat → Nat} {sV : Nat → Nat} {t : Nat} (hG : gOK G sA sV) (ht : zModel Z t) (h : Cl G mX12_twoTold n 0 0 [.ref (gb G + t)] Z I J (qi Z (fun v2 I1 J1 => ((¬ v2 = 0 → Cl G mX12_isWord n 0 0 [.ref (gb G + t), .ref (sA 9)] Z I1 J1 (qi Z (fun v4 I3 J3 => ((v4 = 0 → Cl G mX12_knows n 0 0 [.ref (gb G + t), .int (I1 (t + 29) 0), .int (I1 (t + 29) 1), .int 0] Z I3 J3 (qv Z (fun I5 J5 => K 1 I5 J5))) ∧ (¬ v4 = 0 → Cl G mX12_tells n 0 0 [.ref (gb G + t), .int 0, .int 99] Z I3 J3 (qi Z (fun v8 I7 J7 => ((¬ v8 = 0 → Cl G mX12_knows n 0 0 [.ref (gb G + t), .int (I1 (t + 29) 0), .int (I1 (t + 29) 1), .int (I7 (t + 29) 0)] Z I7 J7 (qv Z (fun I9 J9 => K 1 I9 J9))) ∧ (v8 = 0 → K 0 I7 J7))))))))) ∧ (v2 = 0 → K 0 I1 J1))))) : Jd G mX12_knowTold (jdFm G (qi Z K)) (n + 1) rc rs 0 [(0, .ref (gb G + t))] [] Z I J := by
  refine jd_aload_n (pc := 0) 0 dX12_knowTold_0 rfl rfl ?_
  refine jd_callVi (pc := 1) (M2 := mX12_twoTold) (id := t) (ci := 11) (T := TX12) (N := 45) (av := []) kX12_twoTold sX12_twoTold rfl ht.1 lX12_204 rfl rfl (Nat.le_of_ble_eq_true rfl) dX12_knowTold_1 h ?_
  intro v2 I1 J1 h
  refine jd_if_ne (pc := 4) 9 dX12_knowTold_4 (by decide) (fun hc => ?_) (fun hc => ?_)
  · have h := h.1 hc
    refine jd_aload_n (pc := 9) 0 dX12_knowTold_9 rfl rfl ?_
    refine jd_getR (pc := 10) (ci := 11) (k := 27) (r := (t + 29)) gX12_58 ht.1 rfl (zModel_p27 ht) dX12_knowTold_10 ?_
    refine jd_iconst (pc := 13) (v := 0) dX12_knowTold_13 (by decide) ?_
    refine jd_iald (pc := 14) (len := 2) (zModel_a27 ht) (by unfold vp_in; decide) dX12_knowTold_14 ?_
    refine jd_istore_n (pc := 15) [(1, .int (I1 (t + 29) 0)), (0, .ref (gb G + t))] dX12_knowTold_15 rfl (by decide) rfl ?_
    refine jd_aload_n (pc := 16) 1 dX12_knowTold_16 rfl rfl ?_
    refine jd_getR (pc := 17) (ci := 11) (k := 27) (r := (t + 29)) gX12_58 ht.1 rfl (zModel_p27 ht) dX12_knowTold_17 ?_
    refine jd_iconst (pc := 20) (v := 1) dX12_knowTold_20 (by decide) ?_
    refine jd_iald (pc := 21) (len := 2) (zModel_a27 ht) (by unfold vp_in; decide) dX12_knowTold_21 ?_
    refine jd_istore_n (pc := 22) [(2, .int (I1 (t + 29) 1)), (1, .int (I1 (t + 29) 0)), (0, .ref (gb G + t))] dX12_knowTold_22 rfl (by decide) rfl ?_
    refine jd_iconst (pc := 23) (v := 0) dX12_knowTold_23 (by decide) ?_
    refine jd_istore_n (pc := 24) [(3, .int 0), (2, .int (I1 (t + 29) 1)), (1, .int (I1 (t + 29) 0)), (0, .ref (gb G + t))] dX12_knowTold_24 rfl (by decide) rfl ?_
    refine jd_aload_n (pc := 25) 3 dX12_knowTold_25 rfl rfl ?_
    refine jd_ldcS (pc := 26) (tx := "since") (fun U hU => (gOK_str hG U hU).2.2.2.2.2.2.2.2.2.1) dX12_knowTold_26 ?_
    refine jd_callVi (pc := 28) (M2 := mX12_isWord) (id := t) (ci := 11) (T := TX12) (N := 45) (av := [.ref (sA 9)]) kX12_isWord sX12_isWord rfl ht.1 lX12_209 rfl rfl (Nat.le_of_ble_eq_true rfl) dX12_knowTold_28 h ?_
    intro v4 I3 J3 h
    refine jd_if_eq (pc := 31) 53 dX12_knowTold_31 (by decide) (fun hc => ?_) (fun hc => ?_)
    · have h := h.1 hc
      refine jd_aload_n (pc := 53) 3 dX12_knowTold_53 rfl rfl ?_
      refine jd_iload_n (pc := 54) 2 dX12_knowTold_54 rfl rfl ?_
      refine jd_iload_n (pc := 55) 1 dX12_knowTold_55 rfl rfl ?_
      refine jd_iload_n (pc := 56) 0 dX12_knowTold_56 rfl rfl ?_
      refine jd_callVv (pc := 57) (M2 := mX12_knows) (id := t) (ci := 11) (T := TX12) (N := 45) (av := [.int (I1 (t + 29) 0), .int (I1 (t + 29) 1), .int 0]) kX12_knows sX12_knows rfl ht.1 lX12_142 rfl rfl (Nat.le_of_ble_eq_true rfl) dX12_knowTold_57 h ?_
      intro I5 J5 h
      refine jd_iconst (pc := 60) (v := 1) dX12_knowTold_60 (by decide) ?_
      exact jd_iretK (pc := 61) (ty := .boolean) rfl (by decide) dX12_knowTold_61 h
    · have h := h.2 hc
      refine jd_aload_n (pc := 34) 3 dX12_knowTold_34 rfl rfl ?_
      refine jd_iconst (pc := 35) (v := 0) dX12_knowTold_35 (by decide) ?_
      refine jd_bipush (pc := 36) (v := 99) dX12_knowTold_36 (by decide) ?_
      refine jd_callVi (pc := 38) (M2 := mX12_tells) (id := t) (ci := 11) (T := TX12) (N := 45) (av := [.int 0, .int 99]) kX12_tells sX12_tells rfl ht.1 lX12_201 rfl rfl (Nat.le_of_ble_eq_true rfl) dX12_knowTold_38 h ?_
      intro v8 I7 J7 h
      refine jd_if_ne (pc := 41) 46 dX12_knowTold_41 (by decide) (fun hc => ?_) (fun hc => ?_)
      · have h := h.1 hc
        refine jd_aload_n (pc := 46) 3 dX12_knowTold_46 rfl rfl ?_
        refine jd_getR (pc := 47) (ci := 11) (k := 27) (r := (t + 29)) gX12_58 ht.1 rfl (zModel_p27 ht) dX12_knowTold_47 ?_
        refine jd_iconst (pc := 50) (v := 0) dX12_knowTold_50 (by decide) ?_
        refine jd_iald (pc := 51) (len := 2) (zModel_a27 ht) (by unfold vp_in; decide) dX12_knowTold_51 ?_
        refine jd_istore_n (pc := 52) [(3, .int (I7 (t + 29) 0)), (2, .int (I1 (t + 29) 1)), (1, .int (I1 (t + 29) 0)), (0, .ref (gb G + t))] dX12_knowTold_52 rfl (by decide) rfl ?_
        refine jd_aload_n (pc := 53) 3 dX12_knowTold_53 rfl rfl ?_
        refine jd_iload_n (pc := 54) 2 dX12_knowTold_54 rfl rfl ?_
        refine jd_iload_n (pc := 55) 1 dX12_knowTold_55 rfl rfl ?_
        refine jd_iload_n (pc := 56) 0 dX12_knowTold_56 rfl rfl ?_
        refine jd_callVv (pc := 57) (M2 := mX12_knows) (id := t) (ci := 11) (T := TX12) (N := 45) (av := [.int (I1 (t + 29) 0), .int (I1 (t + 29) 1), .int (I7 (t + 29) 0)]) kX12_knows sX12_knows rfl ht.1 lX12_142 rfl rfl (Nat.le_of_ble_eq_true rfl) dX12_knowTold_57 h ?_
        intro I9 J9 h
        refine jd_iconst (pc := 60) (v := 1) dX12_knowTold_60 (by decide) ?_
        exact jd_iretK (pc := 61) (ty := .boolean) rfl (by decide) dX12_knowTold_61 h
      · have h := h.2 hc
        refine jd_iconst (pc := 44) (v := 0) dX12_knowTold_44 (by decide) ?_
        exact jd_iretK (pc := 45) (ty := .boolean) rfl (by decide) dX12_knowTold_45 h
  · have h := h.2 hc
    refine jd_iconst (pc := 7) (v := 0) dX12_knowTold_7 (by decide) ?_
    exact jd_iretK (pc := 8) (ty := .boolean) rfl (by decide) dX12_knowTold_8 h
theorem eX12_knowTold {G : jdG} {n : Nat} {Z : jdL} {I : jdI} {J : jdJ} {K : Int32 → jdI → jdJ → Prop} {sA : Nat → Nat} {sV : Nat → Nat} {t : Nat} (hG : gOK G sA sV) (ht : zModel Z t) (h : Cl G mX12_twoTold n 0 0 [.ref (gb G + t)] Z I J (qi Z (fun v2 I1 J1 => ((¬ v2 = 0 → Cl G mX12_isWord n 0 0 [.ref (gb G + t), .ref (sA 9)] Z I1 J1 (qi Z (fun v4 I3 J3 => ((v4 = 0 → Cl G mX12_knows n 0 0 [.ref (gb G + t), .int (I1 (t + 29) 0), .int (I1 (t + 29) 1), .int 0] Z I3 J3 (qv Z (fun I5 J5 => K 1 I5 J5))) ∧ (¬ v4 = 0 → Cl G mX12_tells n 0 0 [.ref (gb G + t), .int 0, .int 99] Z I3 J3 (qi Z (fun v8 I7 J7 => ((¬ v8 = 0 → Cl G mX12_knows n 0 0 [.ref (gb G + t), .int (I1 (t + 29) 0), .int (I1 (t + 29) 1), .int (I7 (t + 29) 0)] Z I7 J7 (qv Z (fun I9 J9 => K 1 I9 J9))) ∧ (v8 = 0 → K 0 I7 J7))))))))) ∧ (v2 = 0 → K 0 I1 J1))))) : Cl G mX12_knowTold (n + 1) 0 0 [.ref (gb G + t)] Z I J (qi Z K) :=
  Cl.of (by decide +kernel) (Nat.le_of_ble_eq_true rfl) (rX12_knowTold_0 hG ht h)
set_option maxRecDepth 4000 in
theorem rX12_metTold_0 {G : jdG} {n rc rs : Nat} {Z : jdL} {I : jdI} {J : jdJ} {K : Int32 → jdI → jdJ → Prop} {t : Nat} (ht : zModel Z t) (h : Cl G mX12_tells n 0 0 [.ref (gb G + t), .int 0, .int ((I t 10) - 1)] Z I J (qi Z (fun v2 I1 J1 => ((¬ v2 = 0 → Jd G mX12_metTold (jdFm G (qi Z K)) (n + 1) rc rs 25 [(0, .ref (gb G + t)), (1, .int (1 <<< ((I1 (t + 29) 0) &&& 31)))] [] Z I1 J1) ∧ (v2 = 0 → K 0 I1 J1))))) : Jd G mX12_metTold (jdFm G (qi Z K)) (n + 1) rc rs 0 [(0, .ref (gb G + t))] [] Z I J := by
  refine jd_aload_n (pc := 0) 0 dX12_metTold_0 rfl rfl ?_
  refine jd_iconst (pc := 1) (v := 0) dX12_metTold_1 (by decide) ?_
  refine jd_aload_n (pc := 2) 0 dX12_metTold_2 rfl rfl ?_
  refine jd_getI (pc := 3) (ci := 11) (k := 10) gX12_85 ht.1 rfl dX12_metTold_3 ?_
  refine jd_iconst (pc := 6) (v := 1) dX12_metTold_6 (by decide) ?_
  refine jd_isub (pc := 7) dX12_metTold_7 ?_
  refine jd_callVi (pc := 8) (M2 := mX12_tells) (id := t) (ci := 11) (T := TX12) (N := 45) (av := [.int 0, .int ((I t 10) - 1)]) kX12_tells sX12_tells rfl ht.1 lX12_201 rfl rfl (Nat.le_of_ble_eq_true rfl) dX12_metTold_8 h ?_
  intro v2 I1 J1 h
  refine jd_if_ne (pc := 11) 16 dX12_metTold_11 (by decide) (fun hc => ?_) (fun hc => ?_)
  · have h := h.1 hc
    refine jd_iconst (pc := 16) (v := 1) dX12_metTold_16 (by decide) ?_
    refine jd_aload_n (pc := 17) 0 dX12_metTold_17 rfl rfl ?_
    refine jd_getR (pc := 18) (ci := 11) (k := 27) (r := (t + 29)) gX12_58 ht.1 rfl (zModel_p27 ht) dX12_metTold_18 ?_
    refine jd_iconst (pc := 21) (v := 0) dX12_metTold_21 (by decide) ?_
    refine jd_iald (pc := 22) (len := 2) (zModel_a27 ht) (by unfold vp_in; decide) dX12_metTold_22 ?_
    refine jd_ishl (pc := 23) dX12_metTold_23 ?_
    refine jd_istore_n (pc := 24) [(1, .int (1 <<< ((I1 (t + 29) 0) &&& 31))), (0, .ref (gb G + t))] dX12_metTold_24 rfl (by decide) rfl ?_
    exact jd_lv (lv2 := [(0, .ref (gb G + t)), (1, .int (1 <<< ((I1 (t + 29) 0) &&& 31)))]) [1, 0] rfl h
  · have h := h.2 hc
    refine jd_iconst (pc := 14) (v := 0) dX12_metTold_14 (by decide) ?_
    exact jd_iretK (pc := 15) (ty := .boolean) rfl (by decide) dX12_metTold_15 h
set_option maxRecDepth 4000 in
theorem rX12_metTold_25 {G : jdG} {n rc rs : Nat} {Z : jdL} {I : jdI} {J : jdJ} {K : Int32 → jdI → jdJ → Prop} {t : Nat} {x1 : Int32} (ht : zModel Z t) (h : ((¬ (I t 23) = 2 → Cl G mX12_meets n 0 0 [.ref (gb G + t), .int x1] Z I J (qi Z (fun v2 I1 J1 => K 1 I1 J1))) ∧ ((I t 23) = 2 → (((I t 10) ≤ (I t 25) → Cl G mX12_number n 0 0 [.ref (gb G + t), .int 0, .int 0, .int ((I t 10) - 1)] Z I J (qi Z (fun v4 I3 J3 => ((¬ v4 = 0 → Jd G mX12_metTold (jdFm G (qi Z K)) (n + 1) rc rs 25 [(0, .ref (gb G + t)), (1, .int (x1 ||| (1 <<< ((I3 (t + 29) 0) &&& 31))))] [] Z I3 J3) ∧ (v4 = 0 → K 0 I3 J3))))) ∧ (¬ (I t 10) ≤ (I t 25) → Cl G mX12_has n 0 0 [.int x1, .int (I t 25)] Z I J (qi Z (fun v6 I5 J5 => ((v6 = 0 → Cl G mX12_number n 0 0 [.ref (gb G + t), .int 0, .int 0, .int ((I5 t 10) - 1)] Z I5 J5 (qi Z (fun v8 I7 J7 => ((¬ v8 = 0 → Jd G mX12_metTold (jdFm G (qi Z K)) (n + 1) rc rs 25 [(0, .ref (gb G + t)), (1, .int (x1 ||| (1 <<< ((I7 (t + 29) 0) &&& 31))))] [] Z I7 J7) ∧ (v8 = 0 → K 0 I7 J7))))) ∧ (¬ v6 = 0 → Cl G mX12_wrong n 0 0 [.ref (gb G + t)] Z I5 J5 (qi Z (fun v10 I9 J9 => (narrow .boolean (.int v10) = .int v10 ∧ K v10 I9 J9)))))))))))) : Jd G mX12_metTold (jdFm G (qi Z K)) (n + 1) rc rs 25 [(0, .ref (gb G + t)), (1, .int x1)] [] Z I J := by
  refine jd_aload_n (pc := 25) 0 dX12_metTold_25 rfl rfl ?_
  refine jd_getI (pc := 26) (ci := 11) (k := 23) gX12_168 ht.1 rfl dX12_metTold_26 ?_
  refine jd_iconst (pc := 29) (v := 2) dX12_metTold_29 (by decide) ?_
  refine jd_icmp_ne (pc := 30) 91 dX12_metTold_30 (by decide) (fun hc => ?_) (fun hc => ?_)
  · have h := h.1 hc
    refine jd_aload_n (pc := 91) 0 dX12_metTold_91 rfl rfl ?_
    refine jd_iload_n (pc := 92) 1 dX12_metTold_92 rfl rfl ?_
    refine jd_callVi (pc := 93) (M2 := mX12_meets) (id := t) (ci := 11) (T := TX12) (N := 45) (av := [.int x1]) kX12_meets sX12_meets rfl ht.1 lX12_213 rfl rfl (Nat.le_of_ble_eq_true rfl) dX12_metTold_93 h ?_
    intro v2 I1 J1 h
    refine jd_pop (pc := 96) dX12_metTold_96 rfl ?_
    refine jd_iconst (pc := 97) (v := 1) dX12_metTold_97 (by decide) ?_
    exact jd_iretK (pc := 98) (ty := .boolean) rfl (by decide) dX12_metTold_98 h
  · have h := h.2 hc
    refine jd_aload_n (pc := 33) 0 dX12_metTold_33 rfl rfl ?_
    refine jd_getI (pc := 34) (ci := 11) (k := 25) gX12_165 ht.1 rfl dX12_metTold_34 ?_
    refine jd_aload_n (pc := 37) 0 dX12_metTold_37 rfl rfl ?_
    refine jd_getI (pc := 38) (ci := 11) (k := 10) gX12_85 ht.1 rfl dX12_metTold_38 ?_
    refine jd_icmp_ge (pc := 41) 60 dX12_metTold_41 (by decide) (fun hc => ?_) (fun hc => ?_)
    · have h := h.1 hc
      refine jd_aload_n (pc := 60) 0 dX12_metTold_60 rfl rfl ?_
      refine jd_iconst (pc := 61) (v := 0) dX12_metTold_61 (by decide) ?_
      refine jd_iconst (pc := 62) (v := 0) dX12_metTold_62 (by decide) ?_
      refine jd_aload_n (pc := 63) 0 dX12_metTold_63 rfl rfl ?_
      refine jd_getI (pc := 64) (ci := 11) (k := 10) gX12_85 ht.1 rfl dX12_metTold_64 ?_
      refine jd_iconst (pc := 67) (v := 1) dX12_metTold_67 (by decide) ?_
      refine jd_isub (pc := 68) dX12_metTold_68 ?_
      refine jd_callVi (pc := 69) (M2 := mX12_number) (id := t) (ci := 11) (T := TX12) (N := 45) (av := [.int 0, .int 0, .int ((I t 10) - 1)]) kX12_number sX12_number rfl ht.1 lX12_197 rfl rfl (Nat.le_of_ble_eq_true rfl) dX12_metTold_69 h ?_
      intro v4 I3 J3 h
      refine jd_if_ne (pc := 72) 77 dX12_metTold_72 (by decide) (fun hc => ?_) (fun hc => ?_)
      · have h := h.1 hc
        refine jd_iload_n (pc := 77) 1 dX12_metTold_77 rfl rfl ?_
        refine jd_iconst (pc := 78) (v := 1) dX12_metTold_78 (by decide) ?_
        refine jd_aload_n (pc := 79) 0 dX12_metTold_79 rfl rfl ?_
        refine jd_getR (pc := 80) (ci := 11) (k := 27) (r := (t + 29)) gX12_58 ht.1 rfl (zModel_p27 ht) dX12_metTold_80 ?_
        refine jd_iconst (pc := 83) (v := 0) dX12_metTold_83 (by decide) ?_
        refine jd_iald (pc := 84) (len := 2) (zModel_a27 ht) (by unfold vp_in; decide) dX12_metTold_84 ?_
        refine jd_ishl (pc := 85) dX12_metTold_85 ?_
        refine jd_ior (pc := 86) dX12_metTold_86 ?_
        refine jd_istore_n (pc := 87) [(1, .int (x1 ||| (1 <<< ((I3 (t + 29) 0) &&& 31)))), (0, .ref (gb G + t))] dX12_metTold_87 rfl (by decide) rfl ?_
        refine jd_goto (pc := 88) 25 dX12_metTold_88 (by decide) ?_
        exact jd_lv (lv2 := [(0, .ref (gb G + t)), (1, .int (x1 ||| (1 <<< ((I3 (t + 29) 0) &&& 31))))]) [1, 0] rfl h
      · have h := h.2 hc
        refine jd_iconst (pc := 75) (v := 0) dX12_metTold_75 (by decide) ?_
        exact jd_iretK (pc := 76) (ty := .boolean) rfl (by decide) dX12_metTold_76 h
    · have h := h.2 hc
      refine jd_iload_n (pc := 44) 1 dX12_metTold_44 rfl rfl ?_
      refine jd_aload_n (pc := 45) 0 dX12_metTold_45 rfl rfl ?_
      refine jd_getI (pc := 46) (ci := 11) (k := 25) gX12_165 ht.1 rfl dX12_metTold_46 ?_
      refine jd_callSi (pc := 49) (M2 := mX12_has) (av := [.int x1, .int (I t 25)]) kX12_has sX12_has lX12_151 rfl rfl (Nat.le_of_ble_eq_true rfl) dX12_metTold_49 h ?_
      intro v6 I5 J5 h
      refine jd_if_eq (pc := 52) 60 dX12_metTold_52 (by decide) (fun hc => ?_) (fun hc => ?_)
      · have h := h.1 hc
        refine jd_aload_n (pc := 60) 0 dX12_metTold_60 rfl rfl ?_
        refine jd_iconst (pc := 61) (v := 0) dX12_metTold_61 (by decide) ?_
        refine jd_iconst (pc := 62) (v := 0) dX12_metTold_62 (by decide) ?_
        refine jd_aload_n (pc := 63) 0 dX12_metTold_63 rfl rfl ?_
        refine jd_getI (pc := 64) (ci := 11) (k := 10) gX12_85 ht.1 rfl dX12_metTold_64 ?_
        refine jd_iconst (pc := 67) (v := 1) dX12_metTold_67 (by decide) ?_
        refine jd_isub (pc := 68) dX12_metTold_68 ?_
        refine jd_callVi (pc := 69) (M2 := mX12_number) (id := t) (ci := 11) (T := TX12) (N := 45) (av := [.int 0, .int 0, .int ((I5 t 10) - 1)]) kX12_number sX12_number rfl ht.1 lX12_197 rfl rfl (Nat.le_of_ble_eq_true rfl) dX12_metTold_69 h ?_
        intro v8 I7 J7 h
        refine jd_if_ne (pc := 72) 77 dX12_metTold_72 (by decide) (fun hc => ?_) (fun hc => ?_)
        · have h := h.1 hc
          refine jd_iload_n (pc := 77) 1 dX12_metTold_77 rfl rfl ?_
          refine jd_iconst (pc := 78) (v := 1) dX12_metTold_78 (by decide) ?_
          refine jd_aload_n (pc := 79) 0 dX12_metTold_79 rfl rfl ?_
          refine jd_getR (pc := 80) (ci := 11) (k := 27) (r := (t + 29)) gX12_58 ht.1 rfl (zModel_p27 ht) dX12_metTold_80 ?_
          refine jd_iconst (pc := 83) (v := 0) dX12_metTold_83 (by decide) ?_
          refine jd_iald (pc := 84) (len := 2) (zModel_a27 ht) (by unfold vp_in; decide) dX12_metTold_84 ?_
          refine jd_ishl (pc := 85) dX12_metTold_85 ?_
          refine jd_ior (pc := 86) dX12_metTold_86 ?_
          refine jd_istore_n (pc := 87) [(1, .int (x1 ||| (1 <<< ((I7 (t + 29) 0) &&& 31)))), (0, .ref (gb G + t))] dX12_metTold_87 rfl (by decide) rfl ?_
          refine jd_goto (pc := 88) 25 dX12_metTold_88 (by decide) ?_
          exact jd_lv (lv2 := [(0, .ref (gb G + t)), (1, .int (x1 ||| (1 <<< ((I7 (t + 29) 0) &&& 31))))]) [1, 0] rfl h
        · have h := h.2 hc
          refine jd_iconst (pc := 75) (v := 0) dX12_metTold_75 (by decide) ?_
          exact jd_iretK (pc := 76) (ty := .boolean) rfl (by decide) dX12_metTold_76 h
      · have h := h.2 hc
        refine jd_aload_n (pc := 55) 0 dX12_metTold_55 rfl rfl ?_
        refine jd_callVi (pc := 56) (M2 := mX12_wrong) (id := t) (ci := 11) (T := TX12) (N := 45) (av := []) kX12_wrong sX12_wrong rfl ht.1 lX12_190 rfl rfl (Nat.le_of_ble_eq_true rfl) dX12_metTold_56 h ?_
        intro v10 I9 J9 h
        exact jd_iretK (pc := 59) (ty := .boolean) rfl h.1 dX12_metTold_59 h.2
theorem eX12_metTold {G : jdG} {n : Nat} {Z : jdL} {I : jdI} {J : jdJ} {K : Int32 → jdI → jdJ → Prop} {t : Nat} (ht : zModel Z t) (h : Cl G mX12_tells n 0 0 [.ref (gb G + t), .int 0, .int ((I t 10) - 1)] Z I J (qi Z (fun v2 I1 J1 => ((¬ v2 = 0 → Jd G mX12_metTold (jdFm G (qi Z K)) (n + 1) 0 0 25 [(0, .ref (gb G + t)), (1, .int (1 <<< ((I1 (t + 29) 0) &&& 31)))] [] Z I1 J1) ∧ (v2 = 0 → K 0 I1 J1))))) : Cl G mX12_metTold (n + 1) 0 0 [.ref (gb G + t)] Z I J (qi Z K) :=
  Cl.of (by decide +kernel) (Nat.le_of_ble_eq_true rfl) (rX12_metTold_0 ht h)
set_option maxRecDepth 4000 in
theorem rX12_statement_0 {G : jdG} {n rc rs : Nat} {Z : jdL} {I : jdI} {J : jdJ} {K : Int32 → jdI → jdJ → Prop} {sA : Nat → Nat} {sV : Nat → Nat} {t : Nat} (hG : gOK G sA sV) (ht : zModel Z t) (h : Cl G mX12_isWord n 0 0 [.ref (gb G + t), .ref (sA 7)] Z I J (qi Z (fun v2 I1 J1 => ((v2 = 0 → Cl G mX12_isWord n 0 0 [.ref (gb G + t), .ref (sA 8)] Z I1 J1 (qi Z (fun v4 I3 J3 => ((v4 = 0 → Cl G mX12_isWord n 0 0 [.ref (gb G + t), .ref (sA 10)] Z I3 J3 (qi Z (fun v6 I5 J5 => ((v6 = 0 → Cl G mX12_isWord n 0 0 [.ref (gb G + t), .ref (sA 11)] Z I5 J5 (qi Z (fun v8 I7 J7 => ((v8 = 0 → Cl G mX12_isWord n 0 0 [.ref (gb G + t), .ref (sA 12)] Z I7 J7 (qi Z (fun v10 I9 J9 => ((v10 = 0 → Cl G mX12_isWord n 0 0 [.ref (gb G + t), .ref (sA 13)] Z I9 J9 (qi Z (fun v12 I11 J11 => ((v12 = 0 → Cl G mX12_wrong n 0 0 [.ref (gb G + t)] Z I11 J11 (qi Z (fun v14 I13 J13 => (narrow .boolean (.int v14) = .int v14 ∧ K v14 I13 J13)))) ∧ (¬ v12 = 0 → Cl G mX12_metTold n 0 0 [.ref (gb G + t)] Z I11 J11 (qi Z (fun v16 I15 J15 => (narrow .boolean (.int v16) = .int v16 ∧ K v16 I15 J15)))))))) ∧ (¬ v10 = 0 → Cl G mX12_tells n 0 0 [.ref (gb G + t), .int 0, .int 99] Z I9 J9 (qi Z (fun v18 I17 J17 => ((v18 = 0 → (narrow .boolean (.int v18) = .int v18 ∧ K v18 (uI I17 t 15 (I17 t 15)) J17)) ∧ (¬ v18 = 0 → (narrow .boolean (.int v18) = .int v18 ∧ K v18 (uI I17 t 15 (I17 (t + 29) 0)) J17)))))))))) ∧ (¬ v8 = 0 → Cl G mX12_tells n 0 0 [.ref (gb G + t), .int 2, .int 4] Z I7 J7 (qi Z (fun v20 I19 J19 => ((v20 = 0 → (narrow .boolean (.int v20) = .int v20 ∧ K v20 (uI I19 t 14 (I19 t 14)) J19)) ∧ (¬ v20 = 0 → (narrow .boolean (.int v20) = .int v20 ∧ K v20 (uI I19 t 14 (I19 (t + 29) 0)) J19)))))))))) ∧ (¬ v6 = 0 → Cl G mX12_twoTold n 0 0 [.ref (gb G + t)] Z I5 J5 (qi Z (fun v22 I21 J21 => ((v22 = 0 → (narrow .boolean (.int v22) = .int v22 ∧ K v22 I21 J21)) ∧ (¬ v22 = 0 → Cl G mX12_knows n 0 0 [.ref (gb G + t), .int (I21 (t + 29) 0), .int (I21 (t + 29) 1), .int (-1)] Z I21 J21 (qv Z (fun I23 J23 => (narrow .boolean (.int v22) = .int v22 ∧ K v22 I23 J23)))))))))))) ∧ (¬ v4 = 0 → Cl G mX12_knowTold n 0 0 [.ref (gb G + t)] Z I3 J3 (qi Z (fun v26 I25 J25 => (narrow .boolean (.int v26) = .int v26 ∧ K v26 I25 J25)))))))) ∧ (¬ v2 = 0 → ((7 ≤ (I1 t 10) → Cl G mX12_isWord n 0 0 [.ref (gb G + t), .ref (sA 8)] Z I1 J1 (qi Z (fun v28 I27 J27 => ((v28 = 0 → Cl G mX12_isWord n 0 0 [.ref (gb G + t), .ref (sA 10)] Z I27 J27 (qi Z (fun v30 I29 J29 => ((v30 = 0 → Cl G mX12_isWord n 0 0 [.ref (gb G + t), .ref (sA 11)] Z I29 J29 (qi Z (fun v32 I31 J31 => ((v32 = 0 → Cl G mX12_isWord n 0 0 [.ref (gb G + t), .ref (sA 12)] Z I31 J31 (qi Z (fun v34 I33 J33 => ((v34 = 0 → Cl G mX12_isWord n 0 0 [.ref (gb G + t), .ref (sA 13)] Z I33 J33 (qi Z (fun v36 I35 J35 => ((v36 = 0 → Cl G mX12_wrong n 0 0 [.ref (gb G + t)] Z I35 J35 (qi Z (fun v38 I37 J37 => (narrow .boolean (.int v38) = .int v38 ∧ K v38 I37 J37)))) ∧ (¬ v36 = 0 → Cl G mX12_metTold n 0 0 [.ref (gb G + t)] Z I35 J35 (qi Z (fun v40 I39 J39 => (narrow .boolean (.int v40) = .int v40 ∧ K v40 I39 J39)))))))) ∧ (¬ v34 = 0 → Cl G mX12_tells n 0 0 [.ref (gb G + t), .int 0, .int 99] Z I33 J33 (qi Z (fun v42 I41 J41 => ((v42 = 0 → (narrow .boolean (.int v42) = .int v42 ∧ K v42 (uI I41 t 15 (I41 t 15)) J41)) ∧ (¬ v42 = 0 → (narrow .boolean (.int v42) = .int v42 ∧ K v42 (uI I41 t 15 (I41 (t + 29) 0)) J41)))))))))) ∧ (¬ v32 = 0 → Cl G mX12_tells n 0 0 [.ref (gb G + t), .int 2, .int 4] Z I31 J31 (qi Z (fun v44 I43 J43 => ((v44 = 0 → (narrow .boolean (.int v44) = .int v44 ∧ K v44 (uI I43 t 14 (I43 t 14)) J43)) ∧ (¬ v44 = 0 → (narrow .boolean (.int v44) = .int v44 ∧ K v44 (uI I43 t 14 (I43 (t + 29) 0)) J43)))))))))) ∧ (¬ v30 = 0 → Cl G mX12_twoTold n 0 0 [.ref (gb G + t)] Z I29 J29 (qi Z (fun v46 I45 J45 => ((v46 = 0 → (narrow .boolean (.int v46) = .int v46 ∧ K v46 I45 J45)) ∧ (¬ v46 = 0 → Cl G mX12_knows n 0 0 [.ref (gb G + t), .int (I45 (t + 29) 0), .int (I45 (t + 29) 1), .int (-1)] Z I45 J45 (qv Z (fun I47 J47 => (narrow .boolean (.int v46) = .int v46 ∧ K v46 I47 J47)))))))))))) ∧ (¬ v28 = 0 → Cl G mX12_knowTold n 0 0 [.ref (gb G + t)] Z I27 J27 (qi Z (fun v50 I49 J49 => (narrow .boolean (.int v50) = .int v50 ∧ K v50 I49 J49)))))))) ∧ (¬ 7 ≤ (I1 t 10) → Cl G mX12_tells n 0 0 [.ref (gb G + t), .int 0, .int 23] Z I1 J1 (qi Z (fun v52 I51 J51 => ((v52 = 0 → K 0 I51 J51) ∧ (¬ v52 = 0 → Cl G mX12_number n 0 0 [.ref (gb G + t), .int 1, .int 0, .int 9] Z I51 J51 (qi Z (fun v54 I53 J53 => ((¬ v54 = 0 → Cl G mX12_addOne n 0 0 [.ref (gb G + t), .int (I53 (t + 29) 0), .int (I53 (t + 29) 1)] Z I53 J53 (qv Z (fun I55 J55 => K 1 I55 J55))) ∧ (v54 = 0 → K 0 I53 J53))))))))))))))) : Jd G mX12_statement (jdFm G (qi Z K)) (n + 1) rc rs 0 [(0, .ref (gb G + t))] [] Z I J := by
  refine jd_aload_n (pc := 0) 0 dX12_statement_0 rfl rfl ?_
  refine jd_ldcS (pc := 1) (tx := "person") (fun U hU => (gOK_str hG U hU).2.2.2.2.2.2.2.1) dX12_statement_1 ?_
  refine jd_callVi (pc := 3) (M2 := mX12_isWord) (id := t) (ci := 11) (T := TX12) (N := 45) (av := [.ref (sA 7)]) kX12_isWord sX12_isWord rfl ht.1 lX12_209 rfl rfl (Nat.le_of_ble_eq_true rfl) dX12_statement_3 h ?_
  intro v2 I1 J1 h
  refine jd_if_eq (pc := 6) 59 dX12_statement_6 (by decide) (fun hc => ?_) (fun hc => ?_)
  · have h := h.1 hc
    refine jd_aload_n (pc := 59) 0 dX12_statement_59 rfl rfl ?_
    refine jd_ldcS (pc := 60) (tx := "know") (fun U hU => (gOK_str hG U hU).2.2.2.2.2.2.2.2.1) dX12_statement_60 ?_
    refine jd_callVi (pc := 62) (M2 := mX12_isWord) (id := t) (ci := 11) (T := TX12) (N := 45) (av := [.ref (sA 8)]) kX12_isWord sX12_isWord rfl ht.1 lX12_209 rfl rfl (Nat.le_of_ble_eq_true rfl) dX12_statement_62 h ?_
    intro v4 I3 J3 h
    refine jd_if_eq (pc := 65) 73 dX12_statement_65 (by decide) (fun hc => ?_) (fun hc => ?_)
    · have h := h.1 hc
      refine jd_aload_n (pc := 73) 0 dX12_statement_73 rfl rfl ?_
      refine jd_ldcS (pc := 74) (tx := "strange") (fun U hU => (gOK_str hG U hU).2.2.2.2.2.2.2.2.2.2.1) dX12_statement_74 ?_
      refine jd_callVi (pc := 76) (M2 := mX12_isWord) (id := t) (ci := 11) (T := TX12) (N := 45) (av := [.ref (sA 10)]) kX12_isWord sX12_isWord rfl ht.1 lX12_209 rfl rfl (Nat.le_of_ble_eq_true rfl) dX12_statement_76 h ?_
      intro v6 I5 J5 h
      refine jd_if_eq (pc := 79) 110 dX12_statement_79 (by decide) (fun hc => ?_) (fun hc => ?_)
      · have h := h.1 hc
        refine jd_aload_n (pc := 110) 0 dX12_statement_110 rfl rfl ?_
        refine jd_ldcS (pc := 111) (tx := "seats") (fun U hU => (gOK_str hG U hU).2.2.2.2.2.2.2.2.2.2.2.1) dX12_statement_111 ?_
        refine jd_callVi (pc := 113) (M2 := mX12_isWord) (id := t) (ci := 11) (T := TX12) (N := 45) (av := [.ref (sA 11)]) kX12_isWord sX12_isWord rfl ht.1 lX12_209 rfl rfl (Nat.le_of_ble_eq_true rfl) dX12_statement_113 h ?_
        intro v8 I7 J7 h
        refine jd_if_eq (pc := 116) 149 dX12_statement_116 (by decide) (fun hc => ?_) (fun hc => ?_)
        · have h := h.1 hc
          refine jd_aload_n (pc := 149) 0 dX12_statement_149 rfl rfl ?_
          refine jd_ldcS (pc := 150) (tx := "memory") (fun U hU => (gOK_str hG U hU).2.2.2.2.2.2.2.2.2.2.2.2.1) dX12_statement_150 ?_
          refine jd_callVi (pc := 152) (M2 := mX12_isWord) (id := t) (ci := 11) (T := TX12) (N := 45) (av := [.ref (sA 12)]) kX12_isWord sX12_isWord rfl ht.1 lX12_209 rfl rfl (Nat.le_of_ble_eq_true rfl) dX12_statement_152 h ?_
          intro v10 I9 J9 h
          refine jd_if_eq (pc := 155) 189 dX12_statement_155 (by decide) (fun hc => ?_) (fun hc => ?_)
          · have h := h.1 hc
            refine jd_aload_n (pc := 189) 0 dX12_statement_189 rfl rfl ?_
            refine jd_ldcS (pc := 190) (tx := "met") (fun U hU => (gOK_str hG U hU).2.2.2.2.2.2.2.2.2.2.2.2.2) dX12_statement_190 ?_
            refine jd_callVi (pc := 192) (M2 := mX12_isWord) (id := t) (ci := 11) (T := TX12) (N := 45) (av := [.ref (sA 13)]) kX12_isWord sX12_isWord rfl ht.1 lX12_209 rfl rfl (Nat.le_of_ble_eq_true rfl) dX12_statement_192 h ?_
            intro v12 I11 J11 h
            refine jd_if_eq (pc := 195) 205 dX12_statement_195 (by decide) (fun hc => ?_) (fun hc => ?_)
            · have h := h.1 hc
              refine jd_aload_n (pc := 205) 0 dX12_statement_205 rfl rfl ?_
              refine jd_callVi (pc := 206) (M2 := mX12_wrong) (id := t) (ci := 11) (T := TX12) (N := 45) (av := []) kX12_wrong sX12_wrong rfl ht.1 lX12_190 rfl rfl (Nat.le_of_ble_eq_true rfl) dX12_statement_206 h ?_
              intro v14 I13 J13 h
              exact jd_iretK (pc := 209) (ty := .boolean) rfl h.1 dX12_statement_209 h.2
            · have h := h.2 hc
              refine jd_aload_n (pc := 198) 0 dX12_statement_198 rfl rfl ?_
              refine jd_callVi (pc := 199) (M2 := mX12_metTold) (id := t) (ci := 11) (T := TX12) (N := 45) (av := []) kX12_metTold sX12_metTold rfl ht.1 lX12_229 rfl rfl (Nat.le_of_ble_eq_true rfl) dX12_statement_199 h ?_
              intro v16 I15 J15 h
              refine jd_goto (pc := 202) 209 dX12_statement_202 (by decide) ?_
              exact jd_iretK (pc := 209) (ty := .boolean) rfl h.1 dX12_statement_209 h.2
          · have h := h.2 hc
            refine jd_aload_n (pc := 158) 0 dX12_statement_158 rfl rfl ?_
            refine jd_iconst (pc := 159) (v := 0) dX12_statement_159 (by decide) ?_
            refine jd_bipush (pc := 160) (v := 99) dX12_statement_160 (by decide) ?_
            refine jd_callVi (pc := 162) (M2 := mX12_tells) (id := t) (ci := 11) (T := TX12) (N := 45) (av := [.int 0, .int 99]) kX12_tells sX12_tells rfl ht.1 lX12_201 rfl rfl (Nat.le_of_ble_eq_true rfl) dX12_statement_162 h ?_
            intro v18 I17 J17 h
            refine jd_istore_n (pc := 165) [(1, .int v18), (0, .ref (gb G + t))] dX12_statement_165 rfl (by decide) rfl ?_
            refine jd_aload_n (pc := 166) 1 dX12_statement_166 rfl rfl ?_
            refine jd_iload_n (pc := 167) 0 dX12_statement_167 rfl rfl ?_
            refine jd_if_eq (pc := 168) 180 dX12_statement_168 (by decide) (fun hc => ?_) (fun hc => ?_)
            · have h := h.1 hc
              refine jd_aload_n (pc := 180) 1 dX12_statement_180 rfl rfl ?_
              refine jd_getI (pc := 181) (ci := 11) (k := 15) gX12_148 ht.1 rfl dX12_statement_181 ?_
              refine jd_putI (pc := 184) (ci := 11) (k := 15) pX12_148 ht.1 rfl rfl rfl dX12_statement_184 ?_
              refine jd_iload_n (pc := 187) 0 dX12_statement_187 rfl rfl ?_
              exact jd_iretK (pc := 188) (ty := .boolean) rfl h.1 dX12_statement_188 h.2
            · have h := h.2 hc
              refine jd_aload_n (pc := 171) 1 dX12_statement_171 rfl rfl ?_
              refine jd_getR (pc := 172) (ci := 11) (k := 27) (r := (t + 29)) gX12_58 ht.1 rfl (zModel_p27 ht) dX12_statement_172 ?_
              refine jd_iconst (pc := 175) (v := 0) dX12_statement_175 (by decide) ?_
              refine jd_iald (pc := 176) (len := 2) (zModel_a27 ht) (by unfold vp_in; decide) dX12_statement_176 ?_
              refine jd_goto (pc := 177) 184 dX12_statement_177 (by decide) ?_
              refine jd_putI (pc := 184) (ci := 11) (k := 15) pX12_148 ht.1 rfl rfl rfl dX12_statement_184 ?_
              refine jd_iload_n (pc := 187) 0 dX12_statement_187 rfl rfl ?_
              exact jd_iretK (pc := 188) (ty := .boolean) rfl h.1 dX12_statement_188 h.2
        · have h := h.2 hc
          refine jd_aload_n (pc := 119) 0 dX12_statement_119 rfl rfl ?_
          refine jd_iconst (pc := 120) (v := 2) dX12_statement_120 (by decide) ?_
          refine jd_iconst (pc := 121) (v := 4) dX12_statement_121 (by decide) ?_
          refine jd_callVi (pc := 122) (M2 := mX12_tells) (id := t) (ci := 11) (T := TX12) (N := 45) (av := [.int 2, .int 4]) kX12_tells sX12_tells rfl ht.1 lX12_201 rfl rfl (Nat.le_of_ble_eq_true rfl) dX12_statement_122 h ?_
          intro v20 I19 J19 h
          refine jd_istore_n (pc := 125) [(1, .int v20), (0, .ref (gb G + t))] dX12_statement_125 rfl (by decide) rfl ?_
          refine jd_aload_n (pc := 126) 1 dX12_statement_126 rfl rfl ?_
          refine jd_iload_n (pc := 127) 0 dX12_statement_127 rfl rfl ?_
          refine jd_if_eq (pc := 128) 140 dX12_statement_128 (by decide) (fun hc => ?_) (fun hc => ?_)
          · have h := h.1 hc
            refine jd_aload_n (pc := 140) 1 dX12_statement_140 rfl rfl ?_
            refine jd_getI (pc := 141) (ci := 11) (k := 14) gX12_51 ht.1 rfl dX12_statement_141 ?_
            refine jd_putI (pc := 144) (ci := 11) (k := 14) pX12_51 ht.1 rfl rfl rfl dX12_statement_144 ?_
            refine jd_iload_n (pc := 147) 0 dX12_statement_147 rfl rfl ?_
            exact jd_iretK (pc := 148) (ty := .boolean) rfl h.1 dX12_statement_148 h.2
          · have h := h.2 hc
            refine jd_aload_n (pc := 131) 1 dX12_statement_131 rfl rfl ?_
            refine jd_getR (pc := 132) (ci := 11) (k := 27) (r := (t + 29)) gX12_58 ht.1 rfl (zModel_p27 ht) dX12_statement_132 ?_
            refine jd_iconst (pc := 135) (v := 0) dX12_statement_135 (by decide) ?_
            refine jd_iald (pc := 136) (len := 2) (zModel_a27 ht) (by unfold vp_in; decide) dX12_statement_136 ?_
            refine jd_goto (pc := 137) 144 dX12_statement_137 (by decide) ?_
            refine jd_putI (pc := 144) (ci := 11) (k := 14) pX12_51 ht.1 rfl rfl rfl dX12_statement_144 ?_
            refine jd_iload_n (pc := 147) 0 dX12_statement_147 rfl rfl ?_
            exact jd_iretK (pc := 148) (ty := .boolean) rfl h.1 dX12_statement_148 h.2
      · have h := h.2 hc
        refine jd_aload_n (pc := 82) 0 dX12_statement_82 rfl rfl ?_
        refine jd_callVi (pc := 83) (M2 := mX12_twoTold) (id := t) (ci := 11) (T := TX12) (N := 45) (av := []) kX12_twoTold sX12_twoTold rfl ht.1 lX12_204 rfl rfl (Nat.le_of_ble_eq_true rfl) dX12_statement_83 h ?_
        intro v22 I21 J21 h
        refine jd_istore_n (pc := 86) [(1, .int v22), (0, .ref (gb G + t))] dX12_statement_86 rfl (by decide) rfl ?_
        refine jd_iload_n (pc := 87) 0 dX12_statement_87 rfl rfl ?_
        refine jd_if_eq (pc := 88) 108 dX12_statement_88 (by decide) (fun hc => ?_) (fun hc => ?_)
        · have h := h.1 hc
          refine jd_iload_n (pc := 108) 0 dX12_statement_108 rfl rfl ?_
          exact jd_iretK (pc := 109) (ty := .boolean) rfl h.1 dX12_statement_109 h.2
        · have h := h.2 hc
          refine jd_aload_n (pc := 91) 1 dX12_statement_91 rfl rfl ?_
          refine jd_aload_n (pc := 92) 1 dX12_statement_92 rfl rfl ?_
          refine jd_getR (pc := 93) (ci := 11) (k := 27) (r := (t + 29)) gX12_58 ht.1 rfl (zModel_p27 ht) dX12_statement_93 ?_
          refine jd_iconst (pc := 96) (v := 0) dX12_statement_96 (by decide) ?_
          refine jd_iald (pc := 97) (len := 2) (zModel_a27 ht) (by unfold vp_in; decide) dX12_statement_97 ?_
          refine jd_aload_n (pc := 98) 1 dX12_statement_98 rfl rfl ?_
          refine jd_getR (pc := 99) (ci := 11) (k := 27) (r := (t + 29)) gX12_58 ht.1 rfl (zModel_p27 ht) dX12_statement_99 ?_
          refine jd_iconst (pc := 102) (v := 1) dX12_statement_102 (by decide) ?_
          refine jd_iald (pc := 103) (len := 2) (zModel_a27 ht) (by unfold vp_in; decide) dX12_statement_103 ?_
          refine jd_iconst (pc := 104) (v := (-1)) dX12_statement_104 (by decide) ?_
          refine jd_callVv (pc := 105) (M2 := mX12_knows) (id := t) (ci := 11) (T := TX12) (N := 45) (av := [.int (I21 (t + 29) 0), .int (I21 (t + 29) 1), .int (-1)]) kX12_knows sX12_knows rfl ht.1 lX12_142 rfl rfl (Nat.le_of_ble_eq_true rfl) dX12_statement_105 h ?_
          intro I23 J23 h
          refine jd_iload_n (pc := 108) 0 dX12_statement_108 rfl rfl ?_
          exact jd_iretK (pc := 109) (ty := .boolean) rfl h.1 dX12_statement_109 h.2
    · have h := h.2 hc
      refine jd_aload_n (pc := 68) 0 dX12_statement_68 rfl rfl ?_
      refine jd_callVi (pc := 69) (M2 := mX12_knowTold) (id := t) (ci := 11) (T := TX12) (N := 45) (av := []) kX12_knowTold sX12_knowTold rfl ht.1 lX12_220 rfl rfl (Nat.le_of_ble_eq_true rfl) dX12_statement_69 h ?_
      intro v26 I25 J25 h
      exact jd_iretK (pc := 72) (ty := .boolean) rfl h.1 dX12_statement_72 h.2
  · have h := h.2 hc
    refine jd_aload_n (pc := 9) 0 dX12_statement_9 rfl rfl ?_
    refine jd_getI (pc := 10) (ci := 11) (k := 10) gX12_85 ht.1 rfl dX12_statement_10 ?_
    refine jd_bipush (pc := 13) (v := 7) dX12_statement_13 (by decide) ?_
    refine jd_icmp_ge (pc := 15) 59 dX12_statement_15 (by decide) (fun hc => ?_) (fun hc => ?_)
    · have h := h.1 hc
      refine jd_aload_n (pc := 59) 0 dX12_statement_59 rfl rfl ?_
      refine jd_ldcS (pc := 60) (tx := "know") (fun U hU => (gOK_str hG U hU).2.2.2.2.2.2.2.2.1) dX12_statement_60 ?_
      refine jd_callVi (pc := 62) (M2 := mX12_isWord) (id := t) (ci := 11) (T := TX12) (N := 45) (av := [.ref (sA 8)]) kX12_isWord sX12_isWord rfl ht.1 lX12_209 rfl rfl (Nat.le_of_ble_eq_true rfl) dX12_statement_62 h ?_
      intro v28 I27 J27 h
      refine jd_if_eq (pc := 65) 73 dX12_statement_65 (by decide) (fun hc => ?_) (fun hc => ?_)
      · have h := h.1 hc
        refine jd_aload_n (pc := 73) 0 dX12_statement_73 rfl rfl ?_
        refine jd_ldcS (pc := 74) (tx := "strange") (fun U hU => (gOK_str hG U hU).2.2.2.2.2.2.2.2.2.2.1) dX12_statement_74 ?_
        refine jd_callVi (pc := 76) (M2 := mX12_isWord) (id := t) (ci := 11) (T := TX12) (N := 45) (av := [.ref (sA 10)]) kX12_isWord sX12_isWord rfl ht.1 lX12_209 rfl rfl (Nat.le_of_ble_eq_true rfl) dX12_statement_76 h ?_
        intro v30 I29 J29 h
        refine jd_if_eq (pc := 79) 110 dX12_statement_79 (by decide) (fun hc => ?_) (fun hc => ?_)
        · have h := h.1 hc
          refine jd_aload_n (pc := 110) 0 dX12_statement_110 rfl rfl ?_
          refine jd_ldcS (pc := 111) (tx := "seats") (fun U hU => (gOK_str hG U hU).2.2.2.2.2.2.2.2.2.2.2.1) dX12_statement_111 ?_
          refine jd_callVi (pc := 113) (M2 := mX12_isWord) (id := t) (ci := 11) (T := TX12) (N := 45) (av := [.ref (sA 11)]) kX12_isWord sX12_isWord rfl ht.1 lX12_209 rfl rfl (Nat.le_of_ble_eq_true rfl) dX12_statement_113 h ?_
          intro v32 I31 J31 h
          refine jd_if_eq (pc := 116) 149 dX12_statement_116 (by decide) (fun hc => ?_) (fun hc => ?_)
          · have h := h.1 hc
            refine jd_aload_n (pc := 149) 0 dX12_statement_149 rfl rfl ?_
            refine jd_ldcS (pc := 150) (tx := "memory") (fun U hU => (gOK_str hG U hU).2.2.2.2.2.2.2.2.2.2.2.2.1) dX12_statement_150 ?_
            refine jd_callVi (pc := 152) (M2 := mX12_isWord) (id := t) (ci := 11) (T := TX12) (N := 45) (av := [.ref (sA 12)]) kX12_isWord sX12_isWord rfl ht.1 lX12_209 rfl rfl (Nat.le_of_ble_eq_true rfl) dX12_statement_152 h ?_
            intro v34 I33 J33 h
            refine jd_if_eq (pc := 155) 189 dX12_statement_155 (by decide) (fun hc => ?_) (fun hc => ?_)
            · have h := h.1 hc
              refine jd_aload_n (pc := 189) 0 dX12_statement_189 rfl rfl ?_
              refine jd_ldcS (pc := 190) (tx := "met") (fun U hU => (gOK_str hG U hU).2.2.2.2.2.2.2.2.2.2.2.2.2) dX12_statement_190 ?_
              refine jd_callVi (pc := 192) (M2 := mX12_isWord) (id := t) (ci := 11) (T := TX12) (N := 45) (av := [.ref (sA 13)]) kX12_isWord sX12_isWord rfl ht.1 lX12_209 rfl rfl (Nat.le_of_ble_eq_true rfl) dX12_statement_192 h ?_
              intro v36 I35 J35 h
              refine jd_if_eq (pc := 195) 205 dX12_statement_195 (by decide) (fun hc => ?_) (fun hc => ?_)
              · have h := h.1 hc
                refine jd_aload_n (pc := 205) 0 dX12_statement_205 rfl rfl ?_
                refine jd_callVi (pc := 206) (M2 := mX12_wrong) (id := t) (ci := 11) (T := TX12) (N := 45) (av := []) kX12_wrong sX12_wrong rfl ht.1 lX12_190 rfl rfl (Nat.le_of_ble_eq_true rfl) dX12_statement_206 h ?_
                intro v38 I37 J37 h
                exact jd_iretK (pc := 209) (ty := .boolean) rfl h.1 dX12_statement_209 h.2
              · have h := h.2 hc
                refine jd_aload_n (pc := 198) 0 dX12_statement_198 rfl rfl ?_
                refine jd_callVi (pc := 199) (M2 := mX12_metTold) (id := t) (ci := 11) (T := TX12) (N := 45) (av := []) kX12_metTold sX12_metTold rfl ht.1 lX12_229 rfl rfl (Nat.le_of_ble_eq_true rfl) dX12_statement_199 h ?_
                intro v40 I39 J39 h
                refine jd_goto (pc := 202) 209 dX12_statement_202 (by decide) ?_
                exact jd_iretK (pc := 209) (ty := .boolean) rfl h.1 dX12_statement_209 h.2
            · have h := h.2 hc
              refine jd_aload_n (pc := 158) 0 dX12_statement_158 rfl rfl ?_
              refine jd_iconst (pc := 159) (v := 0) dX12_statement_159 (by decide) ?_
              refine jd_bipush (pc := 160) (v := 99) dX12_statement_160 (by decide) ?_
              refine jd_callVi (pc := 162) (M2 := mX12_tells) (id := t) (ci := 11) (T := TX12) (N := 45) (av := [.int 0, .int 99]) kX12_tells sX12_tells rfl ht.1 lX12_201 rfl rfl (Nat.le_of_ble_eq_true rfl) dX12_statement_162 h ?_
              intro v42 I41 J41 h
              refine jd_istore_n (pc := 165) [(1, .int v42), (0, .ref (gb G + t))] dX12_statement_165 rfl (by decide) rfl ?_
              refine jd_aload_n (pc := 166) 1 dX12_statement_166 rfl rfl ?_
              refine jd_iload_n (pc := 167) 0 dX12_statement_167 rfl rfl ?_
              refine jd_if_eq (pc := 168) 180 dX12_statement_168 (by decide) (fun hc => ?_) (fun hc => ?_)
              · have h := h.1 hc
                refine jd_aload_n (pc := 180) 1 dX12_statement_180 rfl rfl ?_
                refine jd_getI (pc := 181) (ci := 11) (k := 15) gX12_148 ht.1 rfl dX12_statement_181 ?_
                refine jd_putI (pc := 184) (ci := 11) (k := 15) pX12_148 ht.1 rfl rfl rfl dX12_statement_184 ?_
                refine jd_iload_n (pc := 187) 0 dX12_statement_187 rfl rfl ?_
                exact jd_iretK (pc := 188) (ty := .boolean) rfl h.1 dX12_statement_188 h.2
              · have h := h.2 hc
                refine jd_aload_n (pc := 171) 1 dX12_statement_171 rfl rfl ?_
                refine jd_getR (pc := 172) (ci := 11) (k := 27) (r := (t + 29)) gX12_58 ht.1 rfl (zModel_p27 ht) dX12_statement_172 ?_
                refine jd_iconst (pc := 175) (v := 0) dX12_statement_175 (by decide) ?_
                refine jd_iald (pc := 176) (len := 2) (zModel_a27 ht) (by unfold vp_in; decide) dX12_statement_176 ?_
                refine jd_goto (pc := 177) 184 dX12_statement_177 (by decide) ?_
                refine jd_putI (pc := 184) (ci := 11) (k := 15) pX12_148 ht.1 rfl rfl rfl dX12_statement_184 ?_
                refine jd_iload_n (pc := 187) 0 dX12_statement_187 rfl rfl ?_
                exact jd_iretK (pc := 188) (ty := .boolean) rfl h.1 dX12_statement_188 h.2
          · have h := h.2 hc
            refine jd_aload_n (pc := 119) 0 dX12_statement_119 rfl rfl ?_
            refine jd_iconst (pc := 120) (v := 2) dX12_statement_120 (by decide) ?_
            refine jd_iconst (pc := 121) (v := 4) dX12_statement_121 (by decide) ?_
            refine jd_callVi (pc := 122) (M2 := mX12_tells) (id := t) (ci := 11) (T := TX12) (N := 45) (av := [.int 2, .int 4]) kX12_tells sX12_tells rfl ht.1 lX12_201 rfl rfl (Nat.le_of_ble_eq_true rfl) dX12_statement_122 h ?_
            intro v44 I43 J43 h
            refine jd_istore_n (pc := 125) [(1, .int v44), (0, .ref (gb G + t))] dX12_statement_125 rfl (by decide) rfl ?_
            refine jd_aload_n (pc := 126) 1 dX12_statement_126 rfl rfl ?_
            refine jd_iload_n (pc := 127) 0 dX12_statement_127 rfl rfl ?_
            refine jd_if_eq (pc := 128) 140 dX12_statement_128 (by decide) (fun hc => ?_) (fun hc => ?_)
            · have h := h.1 hc
              refine jd_aload_n (pc := 140) 1 dX12_statement_140 rfl rfl ?_
              refine jd_getI (pc := 141) (ci := 11) (k := 14) gX12_51 ht.1 rfl dX12_statement_141 ?_
              refine jd_putI (pc := 144) (ci := 11) (k := 14) pX12_51 ht.1 rfl rfl rfl dX12_statement_144 ?_
              refine jd_iload_n (pc := 147) 0 dX12_statement_147 rfl rfl ?_
              exact jd_iretK (pc := 148) (ty := .boolean) rfl h.1 dX12_statement_148 h.2
            · have h := h.2 hc
              refine jd_aload_n (pc := 131) 1 dX12_statement_131 rfl rfl ?_
              refine jd_getR (pc := 132) (ci := 11) (k := 27) (r := (t + 29)) gX12_58 ht.1 rfl (zModel_p27 ht) dX12_statement_132 ?_
              refine jd_iconst (pc := 135) (v := 0) dX12_statement_135 (by decide) ?_
              refine jd_iald (pc := 136) (len := 2) (zModel_a27 ht) (by unfold vp_in; decide) dX12_statement_136 ?_
              refine jd_goto (pc := 137) 144 dX12_statement_137 (by decide) ?_
              refine jd_putI (pc := 144) (ci := 11) (k := 14) pX12_51 ht.1 rfl rfl rfl dX12_statement_144 ?_
              refine jd_iload_n (pc := 147) 0 dX12_statement_147 rfl rfl ?_
              exact jd_iretK (pc := 148) (ty := .boolean) rfl h.1 dX12_statement_148 h.2
        · have h := h.2 hc
          refine jd_aload_n (pc := 82) 0 dX12_statement_82 rfl rfl ?_
          refine jd_callVi (pc := 83) (M2 := mX12_twoTold) (id := t) (ci := 11) (T := TX12) (N := 45) (av := []) kX12_twoTold sX12_twoTold rfl ht.1 lX12_204 rfl rfl (Nat.le_of_ble_eq_true rfl) dX12_statement_83 h ?_
          intro v46 I45 J45 h
          refine jd_istore_n (pc := 86) [(1, .int v46), (0, .ref (gb G + t))] dX12_statement_86 rfl (by decide) rfl ?_
          refine jd_iload_n (pc := 87) 0 dX12_statement_87 rfl rfl ?_
          refine jd_if_eq (pc := 88) 108 dX12_statement_88 (by decide) (fun hc => ?_) (fun hc => ?_)
          · have h := h.1 hc
            refine jd_iload_n (pc := 108) 0 dX12_statement_108 rfl rfl ?_
            exact jd_iretK (pc := 109) (ty := .boolean) rfl h.1 dX12_statement_109 h.2
          · have h := h.2 hc
            refine jd_aload_n (pc := 91) 1 dX12_statement_91 rfl rfl ?_
            refine jd_aload_n (pc := 92) 1 dX12_statement_92 rfl rfl ?_
            refine jd_getR (pc := 93) (ci := 11) (k := 27) (r := (t + 29)) gX12_58 ht.1 rfl (zModel_p27 ht) dX12_statement_93 ?_
            refine jd_iconst (pc := 96) (v := 0) dX12_statement_96 (by decide) ?_
            refine jd_iald (pc := 97) (len := 2) (zModel_a27 ht) (by unfold vp_in; decide) dX12_statement_97 ?_
            refine jd_aload_n (pc := 98) 1 dX12_statement_98 rfl rfl ?_
            refine jd_getR (pc := 99) (ci := 11) (k := 27) (r := (t + 29)) gX12_58 ht.1 rfl (zModel_p27 ht) dX12_statement_99 ?_
            refine jd_iconst (pc := 102) (v := 1) dX12_statement_102 (by decide) ?_
            refine jd_iald (pc := 103) (len := 2) (zModel_a27 ht) (by unfold vp_in; decide) dX12_statement_103 ?_
            refine jd_iconst (pc := 104) (v := (-1)) dX12_statement_104 (by decide) ?_
            refine jd_callVv (pc := 105) (M2 := mX12_knows) (id := t) (ci := 11) (T := TX12) (N := 45) (av := [.int (I45 (t + 29) 0), .int (I45 (t + 29) 1), .int (-1)]) kX12_knows sX12_knows rfl ht.1 lX12_142 rfl rfl (Nat.le_of_ble_eq_true rfl) dX12_statement_105 h ?_
            intro I47 J47 h
            refine jd_iload_n (pc := 108) 0 dX12_statement_108 rfl rfl ?_
            exact jd_iretK (pc := 109) (ty := .boolean) rfl h.1 dX12_statement_109 h.2
      · have h := h.2 hc
        refine jd_aload_n (pc := 68) 0 dX12_statement_68 rfl rfl ?_
        refine jd_callVi (pc := 69) (M2 := mX12_knowTold) (id := t) (ci := 11) (T := TX12) (N := 45) (av := []) kX12_knowTold sX12_knowTold rfl ht.1 lX12_220 rfl rfl (Nat.le_of_ble_eq_true rfl) dX12_statement_69 h ?_
        intro v50 I49 J49 h
        exact jd_iretK (pc := 72) (ty := .boolean) rfl h.1 dX12_statement_72 h.2
    · have h := h.2 hc
      refine jd_aload_n (pc := 18) 0 dX12_statement_18 rfl rfl ?_
      refine jd_iconst (pc := 19) (v := 0) dX12_statement_19 (by decide) ?_
      refine jd_bipush (pc := 20) (v := 23) dX12_statement_20 (by decide) ?_
      refine jd_callVi (pc := 22) (M2 := mX12_tells) (id := t) (ci := 11) (T := TX12) (N := 45) (av := [.int 0, .int 23]) kX12_tells sX12_tells rfl ht.1 lX12_201 rfl rfl (Nat.le_of_ble_eq_true rfl) dX12_statement_22 h ?_
      intro v52 I51 J51 h
      refine jd_if_eq (pc := 25) 39 dX12_statement_25 (by decide) (fun hc => ?_) (fun hc => ?_)
      · have h := h.1 hc
        refine jd_iconst (pc := 39) (v := 0) dX12_statement_39 (by decide) ?_
        exact jd_iretK (pc := 40) (ty := .boolean) rfl (by decide) dX12_statement_40 h
      · have h := h.2 hc
        refine jd_aload_n (pc := 28) 0 dX12_statement_28 rfl rfl ?_
        refine jd_iconst (pc := 29) (v := 1) dX12_statement_29 (by decide) ?_
        refine jd_iconst (pc := 30) (v := 0) dX12_statement_30 (by decide) ?_
        refine jd_bipush (pc := 31) (v := 9) dX12_statement_31 (by decide) ?_
        refine jd_callVi (pc := 33) (M2 := mX12_number) (id := t) (ci := 11) (T := TX12) (N := 45) (av := [.int 1, .int 0, .int 9]) kX12_number sX12_number rfl ht.1 lX12_197 rfl rfl (Nat.le_of_ble_eq_true rfl) dX12_statement_33 h ?_
        intro v54 I53 J53 h
        refine jd_if_ne (pc := 36) 41 dX12_statement_36 (by decide) (fun hc => ?_) (fun hc => ?_)
        · have h := h.1 hc
          refine jd_aload_n (pc := 41) 0 dX12_statement_41 rfl rfl ?_
          refine jd_aload_n (pc := 42) 0 dX12_statement_42 rfl rfl ?_
          refine jd_getR (pc := 43) (ci := 11) (k := 27) (r := (t + 29)) gX12_58 ht.1 rfl (zModel_p27 ht) dX12_statement_43 ?_
          refine jd_iconst (pc := 46) (v := 0) dX12_statement_46 (by decide) ?_
          refine jd_iald (pc := 47) (len := 2) (zModel_a27 ht) (by unfold vp_in; decide) dX12_statement_47 ?_
          refine jd_aload_n (pc := 48) 0 dX12_statement_48 rfl rfl ?_
          refine jd_getR (pc := 49) (ci := 11) (k := 27) (r := (t + 29)) gX12_58 ht.1 rfl (zModel_p27 ht) dX12_statement_49 ?_
          refine jd_iconst (pc := 52) (v := 1) dX12_statement_52 (by decide) ?_
          refine jd_iald (pc := 53) (len := 2) (zModel_a27 ht) (by unfold vp_in; decide) dX12_statement_53 ?_
          refine jd_callVv (pc := 54) (M2 := mX12_addOne) (id := t) (ci := 11) (T := TX12) (N := 45) (av := [.int (I53 (t + 29) 0), .int (I53 (t + 29) 1)]) kX12_addOne sX12_addOne rfl ht.1 lX12_127 rfl rfl (Nat.le_of_ble_eq_true rfl) dX12_statement_54 h ?_
          intro I55 J55 h
          refine jd_iconst (pc := 57) (v := 1) dX12_statement_57 (by decide) ?_
          exact jd_iretK (pc := 58) (ty := .boolean) rfl (by decide) dX12_statement_58 h
        · have h := h.2 hc
          refine jd_iconst (pc := 39) (v := 0) dX12_statement_39 (by decide) ?_
          exact jd_iretK (pc := 40) (ty := .boolean) rfl (by decide) dX12_statement_40 h
theorem eX12_statement {G : jdG} {n : Nat} {Z : jdL} {I : jdI} {J : jdJ} {K : Int32 → jdI → jdJ → Prop} {sA : Nat → Nat} {sV : Nat → Nat} {t : Nat} (hG : gOK G sA sV) (ht : zModel Z t) (h : Cl G mX12_isWord n 0 0 [.ref (gb G + t), .ref (sA 7)] Z I J (qi Z (fun v2 I1 J1 => ((v2 = 0 → Cl G mX12_isWord n 0 0 [.ref (gb G + t), .ref (sA 8)] Z I1 J1 (qi Z (fun v4 I3 J3 => ((v4 = 0 → Cl G mX12_isWord n 0 0 [.ref (gb G + t), .ref (sA 10)] Z I3 J3 (qi Z (fun v6 I5 J5 => ((v6 = 0 → Cl G mX12_isWord n 0 0 [.ref (gb G + t), .ref (sA 11)] Z I5 J5 (qi Z (fun v8 I7 J7 => ((v8 = 0 → Cl G mX12_isWord n 0 0 [.ref (gb G + t), .ref (sA 12)] Z I7 J7 (qi Z (fun v10 I9 J9 => ((v10 = 0 → Cl G mX12_isWord n 0 0 [.ref (gb G + t), .ref (sA 13)] Z I9 J9 (qi Z (fun v12 I11 J11 => ((v12 = 0 → Cl G mX12_wrong n 0 0 [.ref (gb G + t)] Z I11 J11 (qi Z (fun v14 I13 J13 => (narrow .boolean (.int v14) = .int v14 ∧ K v14 I13 J13)))) ∧ (¬ v12 = 0 → Cl G mX12_metTold n 0 0 [.ref (gb G + t)] Z I11 J11 (qi Z (fun v16 I15 J15 => (narrow .boolean (.int v16) = .int v16 ∧ K v16 I15 J15)))))))) ∧ (¬ v10 = 0 → Cl G mX12_tells n 0 0 [.ref (gb G + t), .int 0, .int 99] Z I9 J9 (qi Z (fun v18 I17 J17 => ((v18 = 0 → (narrow .boolean (.int v18) = .int v18 ∧ K v18 (uI I17 t 15 (I17 t 15)) J17)) ∧ (¬ v18 = 0 → (narrow .boolean (.int v18) = .int v18 ∧ K v18 (uI I17 t 15 (I17 (t + 29) 0)) J17)))))))))) ∧ (¬ v8 = 0 → Cl G mX12_tells n 0 0 [.ref (gb G + t), .int 2, .int 4] Z I7 J7 (qi Z (fun v20 I19 J19 => ((v20 = 0 → (narrow .boolean (.int v20) = .int v20 ∧ K v20 (uI I19 t 14 (I19 t 14)) J19)) ∧ (¬ v20 = 0 → (narrow .boolean (.int v20) = .int v20 ∧ K v20 (uI I19 t 14 (I19 (t + 29) 0)) J19)))))))))) ∧ (¬ v6 = 0 → Cl G mX12_twoTold n 0 0 [.ref (gb G + t)] Z I5 J5 (qi Z (fun v22 I21 J21 => ((v22 = 0 → (narrow .boolean (.int v22) = .int v22 ∧ K v22 I21 J21)) ∧ (¬ v22 = 0 → Cl G mX12_knows n 0 0 [.ref (gb G + t), .int (I21 (t + 29) 0), .int (I21 (t + 29) 1), .int (-1)] Z I21 J21 (qv Z (fun I23 J23 => (narrow .boolean (.int v22) = .int v22 ∧ K v22 I23 J23)))))))))))) ∧ (¬ v4 = 0 → Cl G mX12_knowTold n 0 0 [.ref (gb G + t)] Z I3 J3 (qi Z (fun v26 I25 J25 => (narrow .boolean (.int v26) = .int v26 ∧ K v26 I25 J25)))))))) ∧ (¬ v2 = 0 → ((7 ≤ (I1 t 10) → Cl G mX12_isWord n 0 0 [.ref (gb G + t), .ref (sA 8)] Z I1 J1 (qi Z (fun v28 I27 J27 => ((v28 = 0 → Cl G mX12_isWord n 0 0 [.ref (gb G + t), .ref (sA 10)] Z I27 J27 (qi Z (fun v30 I29 J29 => ((v30 = 0 → Cl G mX12_isWord n 0 0 [.ref (gb G + t), .ref (sA 11)] Z I29 J29 (qi Z (fun v32 I31 J31 => ((v32 = 0 → Cl G mX12_isWord n 0 0 [.ref (gb G + t), .ref (sA 12)] Z I31 J31 (qi Z (fun v34 I33 J33 => ((v34 = 0 → Cl G mX12_isWord n 0 0 [.ref (gb G + t), .ref (sA 13)] Z I33 J33 (qi Z (fun v36 I35 J35 => ((v36 = 0 → Cl G mX12_wrong n 0 0 [.ref (gb G + t)] Z I35 J35 (qi Z (fun v38 I37 J37 => (narrow .boolean (.int v38) = .int v38 ∧ K v38 I37 J37)))) ∧ (¬ v36 = 0 → Cl G mX12_metTold n 0 0 [.ref (gb G + t)] Z I35 J35 (qi Z (fun v40 I39 J39 => (narrow .boolean (.int v40) = .int v40 ∧ K v40 I39 J39)))))))) ∧ (¬ v34 = 0 → Cl G mX12_tells n 0 0 [.ref (gb G + t), .int 0, .int 99] Z I33 J33 (qi Z (fun v42 I41 J41 => ((v42 = 0 → (narrow .boolean (.int v42) = .int v42 ∧ K v42 (uI I41 t 15 (I41 t 15)) J41)) ∧ (¬ v42 = 0 → (narrow .boolean (.int v42) = .int v42 ∧ K v42 (uI I41 t 15 (I41 (t + 29) 0)) J41)))))))))) ∧ (¬ v32 = 0 → Cl G mX12_tells n 0 0 [.ref (gb G + t), .int 2, .int 4] Z I31 J31 (qi Z (fun v44 I43 J43 => ((v44 = 0 → (narrow .boolean (.int v44) = .int v44 ∧ K v44 (uI I43 t 14 (I43 t 14)) J43)) ∧ (¬ v44 = 0 → (narrow .boolean (.int v44) = .int v44 ∧ K v44 (uI I43 t 14 (I43 (t + 29) 0)) J43)))))))))) ∧ (¬ v30 = 0 → Cl G mX12_twoTold n 0 0 [.ref (gb G + t)] Z I29 J29 (qi Z (fun v46 I45 J45 => ((v46 = 0 → (narrow .boolean (.int v46) = .int v46 ∧ K v46 I45 J45)) ∧ (¬ v46 = 0 → Cl G mX12_knows n 0 0 [.ref (gb G + t), .int (I45 (t + 29) 0), .int (I45 (t + 29) 1), .int (-1)] Z I45 J45 (qv Z (fun I47 J47 => (narrow .boolean (.int v46) = .int v46 ∧ K v46 I47 J47)))))))))))) ∧ (¬ v28 = 0 → Cl G mX12_knowTold n 0 0 [.ref (gb G + t)] Z I27 J27 (qi Z (fun v50 I49 J49 => (narrow .boolean (.int v50) = .int v50 ∧ K v50 I49 J49)))))))) ∧ (¬ 7 ≤ (I1 t 10) → Cl G mX12_tells n 0 0 [.ref (gb G + t), .int 0, .int 23] Z I1 J1 (qi Z (fun v52 I51 J51 => ((v52 = 0 → K 0 I51 J51) ∧ (¬ v52 = 0 → Cl G mX12_number n 0 0 [.ref (gb G + t), .int 1, .int 0, .int 9] Z I51 J51 (qi Z (fun v54 I53 J53 => ((¬ v54 = 0 → Cl G mX12_addOne n 0 0 [.ref (gb G + t), .int (I53 (t + 29) 0), .int (I53 (t + 29) 1)] Z I53 J53 (qv Z (fun I55 J55 => K 1 I55 J55))) ∧ (v54 = 0 → K 0 I53 J53))))))))))))))) : Cl G mX12_statement (n + 1) 0 0 [.ref (gb G + t)] Z I J (qi Z K) :=
  Cl.of (by decide +kernel) (Nat.le_of_ble_eq_true rfl) (rX12_statement_0 hG ht h)
set_option maxRecDepth 4000 in
theorem rX12_readAll_0 {G : jdG} {n rc rs : Nat} {Z : jdL} {I : jdI} {J : jdJ} {K : Int32 → jdI → jdJ → Prop} {t : Nat} (ht : zModel Z t) (h : Cl G mX12_look n 0 0 [.ref (gb G + t)] Z (uI (uI I t 28 1) t 22 0) J (qv Z (fun I1 J1 => Cl G mX12_statement n 0 0 [.ref (gb G + t)] Z I1 J1 (qi Z (fun v4 I3 J3 => ((¬ v4 = 0 → Jd G mX12_readAll (jdFm G (qi Z K)) (n + 1) rc rs 23 [(0, .ref (gb G + t))] [] Z I3 J3) ∧ (v4 = 0 → K 0 I3 J3))))))) : Jd G mX12_readAll (jdFm G (qi Z K)) (n + 1) rc rs 0 [(0, .ref (gb G + t))] [] Z I J := by
  refine jd_aload_n (pc := 0) 0 dX12_readAll_0 rfl rfl ?_
  refine jd_iconst (pc := 1) (v := 1) dX12_readAll_1 (by decide) ?_
  refine jd_putI (pc := 2) (ci := 11) (k := 28) pX12_232 ht.1 rfl rfl rfl dX12_readAll_2 ?_
  refine jd_aload_n (pc := 5) 0 dX12_readAll_5 rfl rfl ?_
  refine jd_iconst (pc := 6) (v := 0) dX12_readAll_6 (by decide) ?_
  refine jd_putI (pc := 7) (ci := 11) (k := 22) pX12_159 ht.1 rfl rfl rfl dX12_readAll_7 ?_
  refine jd_aload_n (pc := 10) 0 dX12_readAll_10 rfl rfl ?_
  refine jd_callVv (pc := 11) (M2 := mX12_look) (id := t) (ci := 11) (T := TX12) (N := 45) (av := []) kX12_look sX12_look rfl ht.1 lX12_194 rfl rfl (Nat.le_of_ble_eq_true rfl) dX12_readAll_11 h ?_
  intro I1 J1 h
  refine jd_aload_n (pc := 14) 0 dX12_readAll_14 rfl rfl ?_
  refine jd_callVi (pc := 15) (M2 := mX12_statement) (id := t) (ci := 11) (T := TX12) (N := 45) (av := []) kX12_statement sX12_statement rfl ht.1 lX12_235 rfl rfl (Nat.le_of_ble_eq_true rfl) dX12_readAll_15 h ?_
  intro v4 I3 J3 h
  refine jd_if_ne (pc := 18) 23 dX12_readAll_18 (by decide) (fun hc => ?_) (fun hc => ?_)
  · have h := h.1 hc
    exact jd_lv (lv2 := [(0, .ref (gb G + t))]) [0] rfl h
  · have h := h.2 hc
    refine jd_iconst (pc := 21) (v := 0) dX12_readAll_21 (by decide) ?_
    exact jd_iretK (pc := 22) (ty := .boolean) rfl (by decide) dX12_readAll_22 h
set_option maxRecDepth 4000 in
theorem rX12_readAll_23 {G : jdG} {n rc rs : Nat} {Z : jdL} {I : jdI} {J : jdJ} {K : Int32 → jdI → jdJ → Prop} {t : Nat} (ht : zModel Z t) (h : (((I t 23) = 0 → K 1 I J) ∧ (¬ (I t 23) = 0 → (((I t 23) = 3 → Cl G mX12_look n 0 0 [.ref (gb G + t)] Z I J (qv Z (fun I1 J1 => Cl G mX12_statement n 0 0 [.ref (gb G + t)] Z I1 J1 (qi Z (fun v4 I3 J3 => ((¬ v4 = 0 → Jd G mX12_readAll (jdFm G (qi Z K)) (n + 1) rc rs 23 [(0, .ref (gb G + t))] [] Z (uI I3 t 28 ((I3 t 28) + 1)) J3) ∧ (v4 = 0 → K 0 I3 J3))))))) ∧ (¬ (I t 23) = 3 → Cl G mX12_wrong n 0 0 [.ref (gb G + t)] Z I J (qi Z (fun v6 I5 J5 => (narrow .boolean (.int v6) = .int v6 ∧ K v6 I5 J5)))))))) : Jd G mX12_readAll (jdFm G (qi Z K)) (n + 1) rc rs 23 [(0, .ref (gb G + t))] [] Z I J := by
  refine jd_aload_n (pc := 23) 0 dX12_readAll_23 rfl rfl ?_
  refine jd_getI (pc := 24) (ci := 11) (k := 23) gX12_168 ht.1 rfl dX12_readAll_24 ?_
  refine jd_if_eq (pc := 27) 69 dX12_readAll_27 (by decide) (fun hc => ?_) (fun hc => ?_)
  · have h := h.1 hc
    refine jd_iconst (pc := 69) (v := 1) dX12_readAll_69 (by decide) ?_
    exact jd_iretK (pc := 70) (ty := .boolean) rfl (by decide) dX12_readAll_70 h
  · have h := h.2 hc
    refine jd_aload_n (pc := 30) 0 dX12_readAll_30 rfl rfl ?_
    refine jd_getI (pc := 31) (ci := 11) (k := 23) gX12_168 ht.1 rfl dX12_readAll_31 ?_
    refine jd_iconst (pc := 34) (v := 3) dX12_readAll_34 (by decide) ?_
    refine jd_icmp_eq (pc := 35) 43 dX12_readAll_35 (by decide) (fun hc => ?_) (fun hc => ?_)
    · have h := h.1 hc
      refine jd_aload_n (pc := 43) 0 dX12_readAll_43 rfl rfl ?_
      refine jd_callVv (pc := 44) (M2 := mX12_look) (id := t) (ci := 11) (T := TX12) (N := 45) (av := []) kX12_look sX12_look rfl ht.1 lX12_194 rfl rfl (Nat.le_of_ble_eq_true rfl) dX12_readAll_44 h ?_
      intro I1 J1 h
      refine jd_aload_n (pc := 47) 0 dX12_readAll_47 rfl rfl ?_
      refine jd_callVi (pc := 48) (M2 := mX12_statement) (id := t) (ci := 11) (T := TX12) (N := 45) (av := []) kX12_statement sX12_statement rfl ht.1 lX12_235 rfl rfl (Nat.le_of_ble_eq_true rfl) dX12_readAll_48 h ?_
      intro v4 I3 J3 h
      refine jd_if_ne (pc := 51) 56 dX12_readAll_51 (by decide) (fun hc => ?_) (fun hc => ?_)
      · have h := h.1 hc
        refine jd_aload_n (pc := 56) 0 dX12_readAll_56 rfl rfl ?_
        refine jd_dup (pc := 57) dX12_readAll_57 rfl ?_
        refine jd_getI (pc := 58) (ci := 11) (k := 28) gX12_232 ht.1 rfl dX12_readAll_58 ?_
        refine jd_iconst (pc := 61) (v := 1) dX12_readAll_61 (by decide) ?_
        refine jd_iadd (pc := 62) dX12_readAll_62 ?_
        refine jd_putI (pc := 63) (ci := 11) (k := 28) pX12_232 ht.1 rfl rfl rfl dX12_readAll_63 ?_
        refine jd_goto (pc := 66) 23 dX12_readAll_66 (by decide) ?_
        exact jd_lv (lv2 := [(0, .ref (gb G + t))]) [0] rfl h
      · have h := h.2 hc
        refine jd_iconst (pc := 54) (v := 0) dX12_readAll_54 (by decide) ?_
        exact jd_iretK (pc := 55) (ty := .boolean) rfl (by decide) dX12_readAll_55 h
    · have h := h.2 hc
      refine jd_aload_n (pc := 38) 0 dX12_readAll_38 rfl rfl ?_
      refine jd_callVi (pc := 39) (M2 := mX12_wrong) (id := t) (ci := 11) (T := TX12) (N := 45) (av := []) kX12_wrong sX12_wrong rfl ht.1 lX12_190 rfl rfl (Nat.le_of_ble_eq_true rfl) dX12_readAll_39 h ?_
      intro v6 I5 J5 h
      exact jd_iretK (pc := 42) (ty := .boolean) rfl h.1 dX12_readAll_42 h.2
theorem eX12_readAll {G : jdG} {n : Nat} {Z : jdL} {I : jdI} {J : jdJ} {K : Int32 → jdI → jdJ → Prop} {t : Nat} (ht : zModel Z t) (h : Cl G mX12_look n 0 0 [.ref (gb G + t)] Z (uI (uI I t 28 1) t 22 0) J (qv Z (fun I1 J1 => Cl G mX12_statement n 0 0 [.ref (gb G + t)] Z I1 J1 (qi Z (fun v4 I3 J3 => ((¬ v4 = 0 → Jd G mX12_readAll (jdFm G (qi Z K)) (n + 1) 0 0 23 [(0, .ref (gb G + t))] [] Z I3 J3) ∧ (v4 = 0 → K 0 I3 J3))))))) : Cl G mX12_readAll (n + 1) 0 0 [.ref (gb G + t)] Z I J (qi Z K) :=
  Cl.of (by decide +kernel) (Nat.le_of_ble_eq_true rfl) (rX12_readAll_0 ht h)
set_option maxRecDepth 4000 in
theorem rX12_town_0 {G : jdG} {n rc rs : Nat} {Z : jdL} {I : jdI} {J : jdJ} {Q : jdQ} {t : Nat} (ht : zModel Z t) (h : (∃ mc1 ms1 rc1 rs1 : Nat, mc1 + rc1 ≤ rc ∧ ms1 + rs1 ≤ rs ∧ Cl G mX12_fresh n mc1 ms1 [.ref (gb G + t)] Z I J (fun r1 Z1 I1 J1 => ∃ w1 : Nat, r1 = some (.ref (gb G + w1)) ∧ (zModel Z1 t ∧ (zModel Z1 w1 ∧ Cl G mX12_readAll n 0 0 [.ref (gb G + t)] Z1 I1 J1 (qi Z1 (fun v3 I2 J2 => ((¬ v3 = 0 → Q (some (.int (I2 t 28))) Z1 (uI I2 t 8 0) J2) ∧ (v3 = 0 → Cl G mX12_takeFrom n 0 0 [.ref (gb G + t), .ref (gb G + w1)] Z1 (uI I2 t 8 0) J2 (qv Z1 (fun I4 J4 => Cl G mX12_refuse n 0 0 [.ref (gb G + t), .int (-2)] Z1 I4 J4 (qi Z1 (fun v7 I6 J6 => Q (some (.int ((-20) - (I6 t 26)))) Z1 I6 J6))))))))))))) : Jd G mX12_town (jdFm G Q) (n + 1) rc rs 0 [(0, .ref (gb G + t))] [] Z I J := by
  refine jd_aload_n (pc := 0) 0 dX12_town_0 rfl rfl ?_
  obtain ⟨mc1, ms1, rc1, rs1, hb1, hb2, h⟩ := h
  refine jd_callV (pc := 1) (M2 := mX12_fresh) (id := t) (ci := 11) (T := TX12) (N := 45) (rc2 := rc1) (rs2 := rs1) (av := []) kX12_fresh sX12_fresh rfl ht.1 lX12_238 rfl rfl (Nat.le_of_ble_eq_true rfl) hb1 hb2 dX12_town_1 (Cl.mono h (fun r1 Z1 I1 J1 h => ?_))
  obtain ⟨w1, rfl, h⟩ := h
  obtain ⟨ht, h⟩ := h
  obtain ⟨hzw1, h⟩ := h
  refine jd_astore_n (pc := 4) [(1, .ref (gb G + w1)), (0, .ref (gb G + t))] dX12_town_4 rfl (by decide) rfl ?_
  refine jd_aload_n (pc := 5) 1 dX12_town_5 rfl rfl ?_
  refine jd_callVi (pc := 6) (M2 := mX12_readAll) (id := t) (ci := 11) (T := TX12) (N := 45) (av := []) kX12_readAll sX12_readAll rfl ht.1 lX12_242 rfl rfl (Nat.le_of_ble_eq_true rfl) dX12_town_6 h ?_
  intro v3 I2 J2 h
  refine jd_istore_n (pc := 9) [(2, .int v3), (1, .ref (gb G + w1)), (0, .ref (gb G + t))] dX12_town_9 rfl (by decide) rfl ?_
  refine jd_aload_n (pc := 10) 2 dX12_town_10 rfl rfl ?_
  refine jd_iconst (pc := 11) (v := 0) dX12_town_11 (by decide) ?_
  refine jd_putI (pc := 12) (ci := 11) (k := 8) pX12_156 ht.1 rfl rfl rfl dX12_town_12 ?_
  refine jd_iload_n (pc := 15) 0 dX12_town_15 rfl rfl ?_
  refine jd_if_ne (pc := 16) 39 dX12_town_16 (by decide) (fun hc => ?_) (fun hc => ?_)
  · have h := h.1 hc
    refine jd_aload_n (pc := 39) 2 dX12_town_39 rfl rfl ?_
    refine jd_getIe (pc := 40) (ci := 11) (k := 28) (e := (I2 t 28)) (uI_sk (by decide) rfl) gX12_232 ht.1 rfl dX12_town_40 ?_
    exact jd_iret (pc := 43) (ty := .int) rfl rfl dX12_town_43 h
  · have h := h.2 hc
    refine jd_aload_n (pc := 19) 2 dX12_town_19 rfl rfl ?_
    refine jd_aload_n (pc := 20) 1 dX12_town_20 rfl rfl ?_
    refine jd_callVv (pc := 21) (M2 := mX12_takeFrom) (id := t) (ci := 11) (T := TX12) (N := 45) (av := [.ref (gb G + w1)]) kX12_takeFrom sX12_takeFrom rfl ht.1 lX12_245 rfl rfl (Nat.le_of_ble_eq_true rfl) dX12_town_21 h ?_
    intro I4 J4 h
    refine jd_aload_n (pc := 24) 2 dX12_town_24 rfl rfl ?_
    refine jd_bipush (pc := 25) (v := (-2)) dX12_town_25 (by decide) ?_
    refine jd_callVi (pc := 27) (M2 := mX12_refuse) (id := t) (ci := 11) (T := TX12) (N := 45) (av := [.int (-2)]) kX12_refuse sX12_refuse rfl ht.1 lX12_102 rfl rfl (Nat.le_of_ble_eq_true rfl) dX12_town_27 h ?_
    intro v7 I6 J6 h
    refine jd_pop (pc := 30) dX12_town_30 rfl ?_
    refine jd_bipush (pc := 31) (v := (-20)) dX12_town_31 (by decide) ?_
    refine jd_aload_n (pc := 33) 2 dX12_town_33 rfl rfl ?_
    refine jd_getI (pc := 34) (ci := 11) (k := 26) gX12_178 ht.1 rfl dX12_town_34 ?_
    refine jd_isub (pc := 37) dX12_town_37 ?_
    exact jd_iret (pc := 38) (ty := .int) rfl rfl dX12_town_38 h
theorem eX12_town {G : jdG} {n mc ms : Nat} {Z : jdL} {I : jdI} {J : jdJ} {Q : jdQ} {t : Nat} (ht : zModel Z t) (h : (∃ mc1 ms1 rc1 rs1 : Nat, mc1 + rc1 ≤ mc ∧ ms1 + rs1 ≤ ms ∧ Cl G mX12_fresh n mc1 ms1 [.ref (gb G + t)] Z I J (fun r1 Z1 I1 J1 => ∃ w1 : Nat, r1 = some (.ref (gb G + w1)) ∧ (zModel Z1 t ∧ (zModel Z1 w1 ∧ Cl G mX12_readAll n 0 0 [.ref (gb G + t)] Z1 I1 J1 (qi Z1 (fun v3 I2 J2 => ((¬ v3 = 0 → Q (some (.int (I2 t 28))) Z1 (uI I2 t 8 0) J2) ∧ (v3 = 0 → Cl G mX12_takeFrom n 0 0 [.ref (gb G + t), .ref (gb G + w1)] Z1 (uI I2 t 8 0) J2 (qv Z1 (fun I4 J4 => Cl G mX12_refuse n 0 0 [.ref (gb G + t), .int (-2)] Z1 I4 J4 (qi Z1 (fun v7 I6 J6 => Q (some (.int ((-20) - (I6 t 26)))) Z1 I6 J6))))))))))))) : Cl G mX12_town (n + 1) mc ms [.ref (gb G + t)] Z I J Q :=
  Cl.of (by decide +kernel) (Nat.le_of_ble_eq_true rfl) (rX12_town_0 ht h)
set_option maxRecDepth 4000 in
theorem rX12_strangersOf_0 {G : jdG} {n rc rs : Nat} {Z : jdL} {I : jdI} {J : jdJ} {K : Int32 → jdI → jdJ → Prop} {t : Nat} {x1 : Int32} (ht : zModel Z t) (h : Jd G mX12_strangersOf (jdFm G (qi Z K)) n rc rs 4 [(0, .ref (gb G + t)), (1, .int x1), (2, .int 0), (3, .int 0)] [] Z I J) : Jd G mX12_strangersOf (jdFm G (qi Z K)) n rc rs 0 [(0, .ref (gb G + t)), (1, .int x1)] [] Z I J := by
  refine jd_iconst (pc := 0) (v := 0) dX12_strangersOf_0 (by decide) ?_
  refine jd_istore_n (pc := 1) [(2, .int 0), (0, .ref (gb G + t)), (1, .int x1)] dX12_strangersOf_1 rfl (by decide) rfl ?_
  refine jd_iconst (pc := 2) (v := 0) dX12_strangersOf_2 (by decide) ?_
  refine jd_istore_n (pc := 3) [(3, .int 0), (2, .int 0), (0, .ref (gb G + t)), (1, .int x1)] dX12_strangersOf_3 rfl (by decide) rfl ?_
  exact jd_lv (lv2 := [(0, .ref (gb G + t)), (1, .int x1), (2, .int 0), (3, .int 0)]) [2, 3, 1, 0] rfl h
set_option maxRecDepth 4000 in
theorem rX12_strangersOf_4 {G : jdG} {n rc rs : Nat} {Z : jdL} {I : jdI} {J : jdJ} {K : Int32 → jdI → jdJ → Prop} {t : Nat} {x1 : Int32} {x2 : Int32} {x3 : Int32} (ht : zModel Z t) (h : (((I t 10) ≤ x3 → K x2 I J) ∧ (¬ (I t 10) ≤ x3 → ((x3 = x1 → Jd G mX12_strangersOf (jdFm G (qi Z K)) n rc rs 4 [(0, .ref (gb G + t)), (1, .int x1), (2, .int (x2 ||| 0)), (3, .int (x3 + 1))] [] Z I J) ∧ (¬ x3 = x1 → (vp_in x1 8 ∧ (vp_in x3 8 ∧ ((¬ (I (t + 21 + (Int32.toNatClampNeg x1)) (Int32.toNatClampNeg x3)) = (-1) → Jd G mX12_strangersOf (jdFm G (qi Z K)) n rc rs 4 [(0, .ref (gb G + t)), (1, .int x1), (2, .int (x2 ||| 0)), (3, .int (x3 + 1))] [] Z I J) ∧ ((I (t + 21 + (Int32.toNatClampNeg x1)) (Int32.toNatClampNeg x3)) = (-1) → Jd G mX12_strangersOf (jdFm G (qi Z K)) n rc rs 4 [(0, .ref (gb G + t)), (1, .int x1), (2, .int (x2 ||| (1 <<< (x3 &&& 31)))), (3, .int (x3 + 1))] [] Z I J))))))))) : Jd G mX12_strangersOf (jdFm G (qi Z K)) n rc rs 4 [(0, .ref (gb G + t)), (1, .int x1), (2, .int x2), (3, .int x3)] [] Z I J := by
  refine jd_iload_n (pc := 4) 3 dX12_strangersOf_4 rfl rfl ?_
  refine jd_aload_n (pc := 5) 0 dX12_strangersOf_5 rfl rfl ?_
  refine jd_getI (pc := 6) (ci := 11) (k := 10) gX12_85 ht.1 rfl dX12_strangersOf_6 ?_
  refine jd_icmp_ge (pc := 9) 45 dX12_strangersOf_9 (by decide) (fun hc => ?_) (fun hc => ?_)
  · have h := h.1 hc
    refine jd_iload_n (pc := 45) 2 dX12_strangersOf_45 rfl rfl ?_
    exact jd_iretK (pc := 46) rfl rfl dX12_strangersOf_46 h
  · have h := h.2 hc
    refine jd_iload_n (pc := 12) 2 dX12_strangersOf_12 rfl rfl ?_
    refine jd_iload_n (pc := 13) 3 dX12_strangersOf_13 rfl rfl ?_
    refine jd_iload_n (pc := 14) 1 dX12_strangersOf_14 rfl rfl ?_
    refine jd_icmp_eq (pc := 15) 36 dX12_strangersOf_15 (by decide) (fun hc => ?_) (fun hc => ?_)
    · have h := h.1 hc
      refine jd_iconst (pc := 36) (v := 0) dX12_strangersOf_36 (by decide) ?_
      refine jd_ior (pc := 37) dX12_strangersOf_37 ?_
      refine jd_istore_n (pc := 38) [(2, .int (x2 ||| 0)), (0, .ref (gb G + t)), (1, .int x1), (3, .int x3)] dX12_strangersOf_38 rfl (by decide) rfl ?_
      refine jd_iinc (pc := 39) (v := (x3 + 1)) 3 [(3, .int (x3 + 1)), (2, .int (x2 ||| 0)), (0, .ref (gb G + t)), (1, .int x1)] dX12_strangersOf_39 rfl rfl (by decide) rfl ?_
      refine jd_goto (pc := 42) 4 dX12_strangersOf_42 (by decide) ?_
      exact jd_lv (lv2 := [(0, .ref (gb G + t)), (1, .int x1), (2, .int (x2 ||| 0)), (3, .int (x3 + 1))]) [2, 3, 1, 0] rfl h
    · have h := h.2 hc
      refine jd_aload_n (pc := 18) 0 dX12_strangersOf_18 rfl rfl ?_
      refine jd_getR (pc := 19) (ci := 11) (k := 13) (r := (t + 20)) gX12_48 ht.1 rfl (zModel_p13 ht) dX12_strangersOf_19 ?_
      refine jd_iload_n (pc := 22) 1 dX12_strangersOf_22 rfl rfl ?_
      obtain ⟨hv1, h⟩ := h
      refine jd_aald (pc := 23) (len := 8) (k := 2) (zModel_a13 ht) (by decide) hv1 (zModel_known ht (vp_lt hv1)) dX12_strangersOf_23 ?_
      refine jd_iload_n (pc := 24) 3 dX12_strangersOf_24 rfl rfl ?_
      obtain ⟨hv2, h⟩ := h
      refine jd_iald (pc := 25) (len := 8) (zModel_knownA ht (vp_lt hv1)) hv2 dX12_strangersOf_25 ?_
      refine jd_iconst (pc := 26) (v := (-1)) dX12_strangersOf_26 (by decide) ?_
      refine jd_icmp_ne (pc := 27) 36 dX12_strangersOf_27 (by decide) (fun hc => ?_) (fun hc => ?_)
      · have h := h.1 hc
        refine jd_iconst (pc := 36) (v := 0) dX12_strangersOf_36 (by decide) ?_
        refine jd_ior (pc := 37) dX12_strangersOf_37 ?_
        refine jd_istore_n (pc := 38) [(2, .int (x2 ||| 0)), (0, .ref (gb G + t)), (1, .int x1), (3, .int x3)] dX12_strangersOf_38 rfl (by decide) rfl ?_
        refine jd_iinc (pc := 39) (v := (x3 + 1)) 3 [(3, .int (x3 + 1)), (2, .int (x2 ||| 0)), (0, .ref (gb G + t)), (1, .int x1)] dX12_strangersOf_39 rfl rfl (by decide) rfl ?_
        refine jd_goto (pc := 42) 4 dX12_strangersOf_42 (by decide) ?_
        exact jd_lv (lv2 := [(0, .ref (gb G + t)), (1, .int x1), (2, .int (x2 ||| 0)), (3, .int (x3 + 1))]) [2, 3, 1, 0] rfl h
      · have h := h.2 hc
        refine jd_iconst (pc := 30) (v := 1) dX12_strangersOf_30 (by decide) ?_
        refine jd_iload_n (pc := 31) 3 dX12_strangersOf_31 rfl rfl ?_
        refine jd_ishl (pc := 32) dX12_strangersOf_32 ?_
        refine jd_goto (pc := 33) 37 dX12_strangersOf_33 (by decide) ?_
        refine jd_ior (pc := 37) dX12_strangersOf_37 ?_
        refine jd_istore_n (pc := 38) [(2, .int (x2 ||| (1 <<< (x3 &&& 31)))), (0, .ref (gb G + t)), (1, .int x1), (3, .int x3)] dX12_strangersOf_38 rfl (by decide) rfl ?_
        refine jd_iinc (pc := 39) (v := (x3 + 1)) 3 [(3, .int (x3 + 1)), (2, .int (x2 ||| (1 <<< (x3 &&& 31)))), (0, .ref (gb G + t)), (1, .int x1)] dX12_strangersOf_39 rfl rfl (by decide) rfl ?_
        refine jd_goto (pc := 42) 4 dX12_strangersOf_42 (by decide) ?_
        exact jd_lv (lv2 := [(0, .ref (gb G + t)), (1, .int x1), (2, .int (x2 ||| (1 <<< (x3 &&& 31)))), (3, .int (x3 + 1))]) [2, 3, 1, 0] rfl h
theorem eX12_strangersOf {G : jdG} {n : Nat} {Z : jdL} {I : jdI} {J : jdJ} {K : Int32 → jdI → jdJ → Prop} {t : Nat} {x1 : Int32} (ht : zModel Z t) (h : Jd G mX12_strangersOf (jdFm G (qi Z K)) n 0 0 4 [(0, .ref (gb G + t)), (1, .int x1), (2, .int 0), (3, .int 0)] [] Z I J) : Cl G mX12_strangersOf (n) 0 0 [.ref (gb G + t), .int x1] Z I J (qi Z K) :=
  Cl.of (by decide +kernel) (Nat.le_of_ble_eq_true rfl) (rX12_strangersOf_0 ht h)
set_option maxRecDepth 4000 in
theorem rX12_personOf_0 {G : jdG} {n rc rs : Nat} {Z : jdL} {I : jdI} {J : jdJ} {K : Int32 → jdI → jdJ → Prop} {t : Nat} {x1 : Int32} {x2 : Int32} (ht : zModel Z t) (h : Cl G mX12_isOne n 0 0 [.ref (gb G + t), .int x1] Z I J (qi Z (fun v2 I1 J1 => ((v2 = 0 → Cl G mX12_refuse n 0 0 [.ref (gb G + t), .int (-2)] Z I1 J1 (qi Z (fun v4 I3 J3 => K v4 I3 J3))) ∧ (¬ v2 = 0 → Cl G mX12_in n 0 0 [.long (Int32.toInt64 x2), .long 0, .long 3] Z I1 J1 (qi Z (fun v6 I5 J5 => ((¬ v6 = 0 → (((x2 : Int32).toInt < 0 ∨ 2 < (x2 : Int32).toInt → Cl G mX12_strangersOf n 0 0 [.ref (gb G + t), .int x1] Z I5 J5 (qi Z (fun v8 I7 J7 => Cl G mX12_bits n 0 0 [.int v8] Z I7 J7 (qi Z (fun v10 I9 J9 => K v10 I9 J9))))) ∧ ((x2 : Int32).toInt = 0 → (vp_in x1 8 ∧ K (I5 (t + 18) (Int32.toNatClampNeg x1)) I5 J5)) ∧ ((x2 : Int32).toInt = 1 → (vp_in x1 8 ∧ K (I5 (t + 19) (Int32.toNatClampNeg x1)) I5 J5)) ∧ ((x2 : Int32).toInt = 2 → Cl G mX12_strangersOf n 0 0 [.ref (gb G + t), .int x1] Z I5 J5 (qi Z (fun v14 I13 J13 => K v14 I13 J13))))) ∧ (v6 = 0 → Cl G mX12_refuse n 0 0 [.ref (gb G + t), .int (-2)] Z I5 J5 (qi Z (fun v16 I15 J15 => K v16 I15 J15))))))))))) : Jd G mX12_personOf (jdFm G (qi Z K)) (n + 1) rc rs 0 [(0, .ref (gb G + t)), (1, .int x1), (2, .int x2)] [] Z I J := by
  refine jd_aload_n (pc := 0) 0 dX12_personOf_0 rfl rfl ?_
  refine jd_iload_n (pc := 1) 1 dX12_personOf_1 rfl rfl ?_
  refine jd_callVi (pc := 2) (M2 := mX12_isOne) (id := t) (ci := 11) (T := TX12) (N := 45) (av := [.int x1]) kX12_isOne sX12_isOne rfl ht.1 lX12_131 rfl rfl (Nat.le_of_ble_eq_true rfl) dX12_personOf_2 h ?_
  intro v2 I1 J1 h
  refine jd_if_eq (pc := 5) 20 dX12_personOf_5 (by decide) (fun hc => ?_) (fun hc => ?_)
  · have h := h.1 hc
    refine jd_aload_n (pc := 20) 0 dX12_personOf_20 rfl rfl ?_
    refine jd_bipush (pc := 21) (v := (-2)) dX12_personOf_21 (by decide) ?_
    refine jd_callVi (pc := 23) (M2 := mX12_refuse) (id := t) (ci := 11) (T := TX12) (N := 45) (av := [.int (-2)]) kX12_refuse sX12_refuse rfl ht.1 lX12_102 rfl rfl (Nat.le_of_ble_eq_true rfl) dX12_personOf_23 h ?_
    intro v4 I3 J3 h
    exact jd_iretK (pc := 26) rfl rfl dX12_personOf_26 h
  · have h := h.2 hc
    refine jd_iload_n (pc := 8) 2 dX12_personOf_8 rfl rfl ?_
    refine jd_i2l (pc := 9) dX12_personOf_9 ?_
    refine jd_lconst (pc := 10) (v := 0) dX12_personOf_10 (by decide) ?_
    refine jd_ldc2 (pc := 11) (v := 3) qX12_249 dX12_personOf_11 ?_
    refine jd_callSi (pc := 14) (M2 := mX12_in) (av := [.long (Int32.toInt64 x2), .long 0, .long 3]) kX12_in sX12_in lX12_88 rfl rfl (Nat.le_of_ble_eq_true rfl) dX12_personOf_14 h ?_
    intro v6 I5 J5 h
    refine jd_if_ne (pc := 17) 27 dX12_personOf_17 (by decide) (fun hc => ?_) (fun hc => ?_)
    · have h := h.1 hc
      refine jd_iload_n (pc := 27) 2 dX12_personOf_27 rfl rfl ?_
      by_cases hs : (x2 : Int32).toInt < 0 ∨ 2 < (x2 : Int32).toInt
      · have h := h.1 hs
        refine jd_tableOut (pc := 28) 76 dX12_personOf_28 hs (by decide) ?_
        refine jd_aload_n (pc := 76) 0 dX12_personOf_76 rfl rfl ?_
        refine jd_iload_n (pc := 77) 1 dX12_personOf_77 rfl rfl ?_
        refine jd_callVi (pc := 78) (M2 := mX12_strangersOf) (id := t) (ci := 11) (T := TX12) (N := 45) (av := [.int x1]) kX12_strangersOf sX12_strangersOf rfl ht.1 lX12_251 rfl rfl (Nat.le_of_ble_eq_true rfl) dX12_personOf_78 h ?_
        intro v8 I7 J7 h
        refine jd_callSi (pc := 81) (M2 := mX12_bits) (av := [.int v8]) kX12_bits sX12_bits lX12_254 rfl rfl (Nat.le_of_ble_eq_true rfl) dX12_personOf_81 h ?_
        intro v10 I9 J9 h
        exact jd_iretK (pc := 84) rfl rfl dX12_personOf_84 h
      · have h := h.2
        have hs2 : (x2 : Int32).toInt = 0 ∨ (x2 : Int32).toInt = 1 ∨ (x2 : Int32).toInt = 2 := by omega
        rcases hs2 with hq | hq | hq
        · have h := h.1 hq
          refine jd_tableIn (pc := 28) 56 dX12_personOf_28 (by omega) (by omega) (by rw [hq]; rfl) (by decide) ?_
          refine jd_aload_n (pc := 56) 0 dX12_personOf_56 rfl rfl ?_
          refine jd_getR (pc := 57) (ci := 11) (k := 11) (r := (t + 18)) gX12_40 ht.1 rfl (zModel_p11 ht) dX12_personOf_57 ?_
          refine jd_iload_n (pc := 60) 1 dX12_personOf_60 rfl rfl ?_
          obtain ⟨hv11, h⟩ := h
          refine jd_iald (pc := 61) (len := 8) (zModel_a11 ht) hv11 dX12_personOf_61 ?_
          exact jd_iretK (pc := 62) rfl rfl dX12_personOf_62 h
        · have h := h.2.1 hq
          refine jd_tableIn (pc := 28) 63 dX12_personOf_28 (by omega) (by omega) (by rw [hq]; rfl) (by decide) ?_
          refine jd_aload_n (pc := 63) 0 dX12_personOf_63 rfl rfl ?_
          refine jd_getR (pc := 64) (ci := 11) (k := 12) (r := (t + 19)) gX12_43 ht.1 rfl (zModel_p12 ht) dX12_personOf_64 ?_
          refine jd_iload_n (pc := 67) 1 dX12_personOf_67 rfl rfl ?_
          obtain ⟨hv12, h⟩ := h
          refine jd_iald (pc := 68) (len := 8) (zModel_a12 ht) hv12 dX12_personOf_68 ?_
          exact jd_iretK (pc := 69) rfl rfl dX12_personOf_69 h
        · have h := h.2.2 hq
          refine jd_tableIn (pc := 28) 70 dX12_personOf_28 (by omega) (by omega) (by rw [hq]; rfl) (by decide) ?_
          refine jd_aload_n (pc := 70) 0 dX12_personOf_70 rfl rfl ?_
          refine jd_iload_n (pc := 71) 1 dX12_personOf_71 rfl rfl ?_
          refine jd_callVi (pc := 72) (M2 := mX12_strangersOf) (id := t) (ci := 11) (T := TX12) (N := 45) (av := [.int x1]) kX12_strangersOf sX12_strangersOf rfl ht.1 lX12_251 rfl rfl (Nat.le_of_ble_eq_true rfl) dX12_personOf_72 h ?_
          intro v14 I13 J13 h
          exact jd_iretK (pc := 75) rfl rfl dX12_personOf_75 h
    · have h := h.2 hc
      refine jd_aload_n (pc := 20) 0 dX12_personOf_20 rfl rfl ?_
      refine jd_bipush (pc := 21) (v := (-2)) dX12_personOf_21 (by decide) ?_
      refine jd_callVi (pc := 23) (M2 := mX12_refuse) (id := t) (ci := 11) (T := TX12) (N := 45) (av := [.int (-2)]) kX12_refuse sX12_refuse rfl ht.1 lX12_102 rfl rfl (Nat.le_of_ble_eq_true rfl) dX12_personOf_23 h ?_
      intro v16 I15 J15 h
      exact jd_iretK (pc := 26) rfl rfl dX12_personOf_26 h
theorem eX12_personOf {G : jdG} {n : Nat} {Z : jdL} {I : jdI} {J : jdJ} {K : Int32 → jdI → jdJ → Prop} {t : Nat} {x1 : Int32} {x2 : Int32} (ht : zModel Z t) (h : Cl G mX12_isOne n 0 0 [.ref (gb G + t), .int x1] Z I J (qi Z (fun v2 I1 J1 => ((v2 = 0 → Cl G mX12_refuse n 0 0 [.ref (gb G + t), .int (-2)] Z I1 J1 (qi Z (fun v4 I3 J3 => K v4 I3 J3))) ∧ (¬ v2 = 0 → Cl G mX12_in n 0 0 [.long (Int32.toInt64 x2), .long 0, .long 3] Z I1 J1 (qi Z (fun v6 I5 J5 => ((¬ v6 = 0 → (((x2 : Int32).toInt < 0 ∨ 2 < (x2 : Int32).toInt → Cl G mX12_strangersOf n 0 0 [.ref (gb G + t), .int x1] Z I5 J5 (qi Z (fun v8 I7 J7 => Cl G mX12_bits n 0 0 [.int v8] Z I7 J7 (qi Z (fun v10 I9 J9 => K v10 I9 J9))))) ∧ ((x2 : Int32).toInt = 0 → (vp_in x1 8 ∧ K (I5 (t + 18) (Int32.toNatClampNeg x1)) I5 J5)) ∧ ((x2 : Int32).toInt = 1 → (vp_in x1 8 ∧ K (I5 (t + 19) (Int32.toNatClampNeg x1)) I5 J5)) ∧ ((x2 : Int32).toInt = 2 → Cl G mX12_strangersOf n 0 0 [.ref (gb G + t), .int x1] Z I5 J5 (qi Z (fun v14 I13 J13 => K v14 I13 J13))))) ∧ (v6 = 0 → Cl G mX12_refuse n 0 0 [.ref (gb G + t), .int (-2)] Z I5 J5 (qi Z (fun v16 I15 J15 => K v16 I15 J15))))))))))) : Cl G mX12_personOf (n + 1) 0 0 [.ref (gb G + t), .int x1, .int x2] Z I J (qi Z K) :=
  Cl.of (by decide +kernel) (Nat.le_of_ble_eq_true rfl) (rX12_personOf_0 ht h)
set_option maxRecDepth 4000 in
theorem rX12_knownOf_0 {G : jdG} {n rc rs : Nat} {Z : jdL} {I : jdI} {J : jdJ} {K : Int32 → jdI → jdJ → Prop} {t : Nat} {x1 : Int32} {x2 : Int32} (ht : zModel Z t) (h : Cl G mX12_areTwo n 0 0 [.ref (gb G + t), .int x1, .int x2] Z I J (qi Z (fun v2 I1 J1 => ((v2 = 0 → Cl G mX12_refuse n 0 0 [.ref (gb G + t), .int (-2)] Z I1 J1 (qi Z (fun v4 I3 J3 => K v4 I3 J3))) ∧ (¬ v2 = 0 → (vp_in x1 8 ∧ (vp_in x2 8 ∧ K (I1 (t + 21 + (Int32.toNatClampNeg x1)) (Int32.toNatClampNeg x2)) I1 J1))))))) : Jd G mX12_knownOf (jdFm G (qi Z K)) (n + 1) rc rs 0 [(0, .ref (gb G + t)), (1, .int x1), (2, .int x2)] [] Z I J := by
  refine jd_aload_n (pc := 0) 0 dX12_knownOf_0 rfl rfl ?_
  refine jd_iload_n (pc := 1) 1 dX12_knownOf_1 rfl rfl ?_
  refine jd_iload_n (pc := 2) 2 dX12_knownOf_2 rfl rfl ?_
  refine jd_callVi (pc := 3) (M2 := mX12_areTwo) (id := t) (ci := 11) (T := TX12) (N := 45) (av := [.int x1, .int x2]) kX12_areTwo sX12_areTwo rfl ht.1 lX12_135 rfl rfl (Nat.le_of_ble_eq_true rfl) dX12_knownOf_3 h ?_
  intro v2 I1 J1 h
  refine jd_if_eq (pc := 6) 20 dX12_knownOf_6 (by decide) (fun hc => ?_) (fun hc => ?_)
  · have h := h.1 hc
    refine jd_aload_n (pc := 20) 0 dX12_knownOf_20 rfl rfl ?_
    refine jd_bipush (pc := 21) (v := (-2)) dX12_knownOf_21 (by decide) ?_
    refine jd_callVi (pc := 23) (M2 := mX12_refuse) (id := t) (ci := 11) (T := TX12) (N := 45) (av := [.int (-2)]) kX12_refuse sX12_refuse rfl ht.1 lX12_102 rfl rfl (Nat.le_of_ble_eq_true rfl) dX12_knownOf_23 h ?_
    intro v4 I3 J3 h
    exact jd_iretK (pc := 26) rfl rfl dX12_knownOf_26 h
  · have h := h.2 hc
    refine jd_aload_n (pc := 9) 0 dX12_knownOf_9 rfl rfl ?_
    refine jd_getR (pc := 10) (ci := 11) (k := 13) (r := (t + 20)) gX12_48 ht.1 rfl (zModel_p13 ht) dX12_knownOf_10 ?_
    refine jd_iload_n (pc := 13) 1 dX12_knownOf_13 rfl rfl ?_
    obtain ⟨hv5, h⟩ := h
    refine jd_aald (pc := 14) (len := 8) (k := 2) (zModel_a13 ht) (by decide) hv5 (zModel_known ht (vp_lt hv5)) dX12_knownOf_14 ?_
    refine jd_iload_n (pc := 15) 2 dX12_knownOf_15 rfl rfl ?_
    obtain ⟨hv6, h⟩ := h
    refine jd_iald (pc := 16) (len := 8) (zModel_knownA ht (vp_lt hv5)) hv6 dX12_knownOf_16 ?_
    refine jd_goto (pc := 17) 26 dX12_knownOf_17 (by decide) ?_
    exact jd_iretK (pc := 26) rfl rfl dX12_knownOf_26 h
theorem eX12_knownOf {G : jdG} {n : Nat} {Z : jdL} {I : jdI} {J : jdJ} {K : Int32 → jdI → jdJ → Prop} {t : Nat} {x1 : Int32} {x2 : Int32} (ht : zModel Z t) (h : Cl G mX12_areTwo n 0 0 [.ref (gb G + t), .int x1, .int x2] Z I J (qi Z (fun v2 I1 J1 => ((v2 = 0 → Cl G mX12_refuse n 0 0 [.ref (gb G + t), .int (-2)] Z I1 J1 (qi Z (fun v4 I3 J3 => K v4 I3 J3))) ∧ (¬ v2 = 0 → (vp_in x1 8 ∧ (vp_in x2 8 ∧ K (I1 (t + 21 + (Int32.toNatClampNeg x1)) (Int32.toNatClampNeg x2)) I1 J1))))))) : Cl G mX12_knownOf (n + 1) 0 0 [.ref (gb G + t), .int x1, .int x2] Z I J (qi Z K) :=
  Cl.of (by decide +kernel) (Nat.le_of_ble_eq_true rfl) (rX12_knownOf_0 ht h)
set_option maxRecDepth 4000 in
theorem rX12_isGroupNow_0 {G : jdG} {n rc rs : Nat} {Z : jdL} {I : jdI} {J : jdJ} {K : Int32 → jdI → jdJ → Prop} {t : Nat} {x1 : Int32} (ht : zModel Z t) (h : Cl G mX12_bits n 0 0 [.int x1] Z I J (qi Z (fun v2 I1 J1 => ((v2 = (I1 t 14) → Jd G mX12_isGroupNow (jdFm G (qi Z K)) (n + 1) rc rs 15 [(0, .ref (gb G + t)), (1, .int x1), (2, .int 0)] [] Z I1 J1) ∧ (¬ v2 = (I1 t 14) → K 0 I1 J1))))) : Jd G mX12_isGroupNow (jdFm G (qi Z K)) (n + 1) rc rs 0 [(0, .ref (gb G + t)), (1, .int x1)] [] Z I J := by
  refine jd_iload_n (pc := 0) 1 dX12_isGroupNow_0 rfl rfl ?_
  refine jd_callSi (pc := 1) (M2 := mX12_bits) (av := [.int x1]) kX12_bits sX12_bits lX12_254 rfl rfl (Nat.le_of_ble_eq_true rfl) dX12_isGroupNow_1 h ?_
  intro v2 I1 J1 h
  refine jd_aload_n (pc := 4) 0 dX12_isGroupNow_4 rfl rfl ?_
  refine jd_getI (pc := 5) (ci := 11) (k := 14) gX12_51 ht.1 rfl dX12_isGroupNow_5 ?_
  refine jd_icmp_eq (pc := 8) 13 dX12_isGroupNow_8 (by decide) (fun hc => ?_) (fun hc => ?_)
  · have h := h.1 hc
    refine jd_iconst (pc := 13) (v := 0) dX12_isGroupNow_13 (by decide) ?_
    refine jd_istore_n (pc := 14) [(2, .int 0), (0, .ref (gb G + t)), (1, .int x1)] dX12_isGroupNow_14 rfl (by decide) rfl ?_
    exact jd_lv (lv2 := [(0, .ref (gb G + t)), (1, .int x1), (2, .int 0)]) [1, 2, 0] rfl h
  · have h := h.2 hc
    refine jd_iconst (pc := 11) (v := 0) dX12_isGroupNow_11 (by decide) ?_
    exact jd_iretK (pc := 12) (ty := .boolean) rfl (by decide) dX12_isGroupNow_12 h
set_option maxRecDepth 4000 in
theorem rX12_isGroupNow_15 {G : jdG} {n rc rs : Nat} {Z : jdL} {I : jdI} {J : jdJ} {K : Int32 → jdI → jdJ → Prop} {t : Nat} {x1 : Int32} {x2 : Int32} (ht : zModel Z t) (h : (((I t 10) ≤ x2 → K 1 I J) ∧ (¬ (I t 10) ≤ x2 → Jd G mX12_isGroupNow (jdFm G (qi Z K)) (n + 1) rc rs 25 [(0, .ref (gb G + t)), (1, .int x1), (2, .int x2), (3, .int 0)] [] Z I J))) : Jd G mX12_isGroupNow (jdFm G (qi Z K)) (n + 1) rc rs 15 [(0, .ref (gb G + t)), (1, .int x1), (2, .int x2)] [] Z I J := by
  refine jd_iload_n (pc := 15) 2 dX12_isGroupNow_15 rfl rfl ?_
  refine jd_aload_n (pc := 16) 0 dX12_isGroupNow_16 rfl rfl ?_
  refine jd_getI (pc := 17) (ci := 11) (k := 10) gX12_85 ht.1 rfl dX12_isGroupNow_17 ?_
  refine jd_icmp_ge (pc := 20) 72 dX12_isGroupNow_20 (by decide) (fun hc => ?_) (fun hc => ?_)
  · have h := h.1 hc
    refine jd_iconst (pc := 72) (v := 1) dX12_isGroupNow_72 (by decide) ?_
    exact jd_iretK (pc := 73) (ty := .boolean) rfl (by decide) dX12_isGroupNow_73 h
  · have h := h.2 hc
    refine jd_iconst (pc := 23) (v := 0) dX12_isGroupNow_23 (by decide) ?_
    refine jd_istore_n (pc := 24) [(3, .int 0), (0, .ref (gb G + t)), (1, .int x1), (2, .int x2)] dX12_isGroupNow_24 rfl (by decide) rfl ?_
    exact jd_lv (lv2 := [(0, .ref (gb G + t)), (1, .int x1), (2, .int x2), (3, .int 0)]) [1, 2, 3, 0] rfl h
set_option maxRecDepth 4000 in
theorem rX12_isGroupNow_25 {G : jdG} {n rc rs : Nat} {Z : jdL} {I : jdI} {J : jdJ} {K : Int32 → jdI → jdJ → Prop} {t : Nat} {x1 : Int32} {x2 : Int32} {x3 : Int32} (ht : zModel Z t) (h : ((x2 ≤ x3 → Jd G mX12_isGroupNow (jdFm G (qi Z K)) (n + 1) rc rs 15 [(0, .ref (gb G + t)), (1, .int x1), (2, .int (x2 + 1))] [] Z I J) ∧ (¬ x2 ≤ x3 → Cl G mX12_has n 0 0 [.int x1, .int x2] Z I J (qi Z (fun v2 I1 J1 => ((v2 = 0 → Jd G mX12_isGroupNow (jdFm G (qi Z K)) (n + 1) rc rs 25 [(0, .ref (gb G + t)), (1, .int x1), (2, .int x2), (3, .int (x3 + 1))] [] Z I1 J1) ∧ (¬ v2 = 0 → Cl G mX12_has n 0 0 [.int x1, .int x3] Z I1 J1 (qi Z (fun v4 I3 J3 => ((v4 = 0 → Jd G mX12_isGroupNow (jdFm G (qi Z K)) (n + 1) rc rs 25 [(0, .ref (gb G + t)), (1, .int x1), (2, .int x2), (3, .int (x3 + 1))] [] Z I3 J3) ∧ (¬ v4 = 0 → (vp_in x2 8 ∧ (vp_in x3 8 ∧ (((I3 (t + 21 + (Int32.toNatClampNeg x2)) (Int32.toNatClampNeg x3)) = (-1) → Jd G mX12_isGroupNow (jdFm G (qi Z K)) (n + 1) rc rs 25 [(0, .ref (gb G + t)), (1, .int x1), (2, .int x2), (3, .int (x3 + 1))] [] Z I3 J3) ∧ (¬ (I3 (t + 21 + (Int32.toNatClampNeg x2)) (Int32.toNatClampNeg x3)) = (-1) → K 0 I3 J3))))))))))))))) : Jd G mX12_isGroupNow (jdFm G (qi Z K)) (n + 1) rc rs 25 [(0, .ref (gb G + t)), (1, .int x1), (2, .int x2), (3, .int x3)] [] Z I J := by
  refine jd_iload_n (pc := 25) 3 dX12_isGroupNow_25 rfl rfl ?_
  refine jd_iload_n (pc := 26) 2 dX12_isGroupNow_26 rfl rfl ?_
  refine jd_icmp_ge (pc := 27) 66 dX12_isGroupNow_27 (by decide) (fun hc => ?_) (fun hc => ?_)
  · have h := h.1 hc
    refine jd_iinc (pc := 66) (v := (x2 + 1)) 2 [(2, .int (x2 + 1)), (0, .ref (gb G + t)), (1, .int x1), (3, .int x3)] dX12_isGroupNow_66 rfl rfl (by decide) rfl ?_
    refine jd_goto (pc := 69) 15 dX12_isGroupNow_69 (by decide) ?_
    exact jd_lv (lv2 := [(0, .ref (gb G + t)), (1, .int x1), (2, .int (x2 + 1))]) [1, 2, 0] rfl h
  · have h := h.2 hc
    refine jd_iload_n (pc := 30) 1 dX12_isGroupNow_30 rfl rfl ?_
    refine jd_iload_n (pc := 31) 2 dX12_isGroupNow_31 rfl rfl ?_
    refine jd_callSi (pc := 32) (M2 := mX12_has) (av := [.int x1, .int x2]) kX12_has sX12_has lX12_151 rfl rfl (Nat.le_of_ble_eq_true rfl) dX12_isGroupNow_32 h ?_
    intro v2 I1 J1 h
    refine jd_if_eq (pc := 35) 60 dX12_isGroupNow_35 (by decide) (fun hc => ?_) (fun hc => ?_)
    · have h := h.1 hc
      refine jd_iinc (pc := 60) (v := (x3 + 1)) 3 [(3, .int (x3 + 1)), (0, .ref (gb G + t)), (1, .int x1), (2, .int x2)] dX12_isGroupNow_60 rfl rfl (by decide) rfl ?_
      refine jd_goto (pc := 63) 25 dX12_isGroupNow_63 (by decide) ?_
      exact jd_lv (lv2 := [(0, .ref (gb G + t)), (1, .int x1), (2, .int x2), (3, .int (x3 + 1))]) [1, 2, 3, 0] rfl h
    · have h := h.2 hc
      refine jd_iload_n (pc := 38) 1 dX12_isGroupNow_38 rfl rfl ?_
      refine jd_iload_n (pc := 39) 3 dX12_isGroupNow_39 rfl rfl ?_
      refine jd_callSi (pc := 40) (M2 := mX12_has) (av := [.int x1, .int x3]) kX12_has sX12_has lX12_151 rfl rfl (Nat.le_of_ble_eq_true rfl) dX12_isGroupNow_40 h ?_
      intro v4 I3 J3 h
      refine jd_if_eq (pc := 43) 60 dX12_isGroupNow_43 (by decide) (fun hc => ?_) (fun hc => ?_)
      · have h := h.1 hc
        refine jd_iinc (pc := 60) (v := (x3 + 1)) 3 [(3, .int (x3 + 1)), (0, .ref (gb G + t)), (1, .int x1), (2, .int x2)] dX12_isGroupNow_60 rfl rfl (by decide) rfl ?_
        refine jd_goto (pc := 63) 25 dX12_isGroupNow_63 (by decide) ?_
        exact jd_lv (lv2 := [(0, .ref (gb G + t)), (1, .int x1), (2, .int x2), (3, .int (x3 + 1))]) [1, 2, 3, 0] rfl h
      · have h := h.2 hc
        refine jd_aload_n (pc := 46) 0 dX12_isGroupNow_46 rfl rfl ?_
        refine jd_getR (pc := 47) (ci := 11) (k := 13) (r := (t + 20)) gX12_48 ht.1 rfl (zModel_p13 ht) dX12_isGroupNow_47 ?_
        refine jd_iload_n (pc := 50) 2 dX12_isGroupNow_50 rfl rfl ?_
        obtain ⟨hv5, h⟩ := h
        refine jd_aald (pc := 51) (len := 8) (k := 2) (zModel_a13 ht) (by decide) hv5 (zModel_known ht (vp_lt hv5)) dX12_isGroupNow_51 ?_
        refine jd_iload_n (pc := 52) 3 dX12_isGroupNow_52 rfl rfl ?_
        obtain ⟨hv6, h⟩ := h
        refine jd_iald (pc := 53) (len := 8) (zModel_knownA ht (vp_lt hv5)) hv6 dX12_isGroupNow_53 ?_
        refine jd_iconst (pc := 54) (v := (-1)) dX12_isGroupNow_54 (by decide) ?_
        refine jd_icmp_eq (pc := 55) 60 dX12_isGroupNow_55 (by decide) (fun hc => ?_) (fun hc => ?_)
        · have h := h.1 hc
          refine jd_iinc (pc := 60) (v := (x3 + 1)) 3 [(3, .int (x3 + 1)), (0, .ref (gb G + t)), (1, .int x1), (2, .int x2)] dX12_isGroupNow_60 rfl rfl (by decide) rfl ?_
          refine jd_goto (pc := 63) 25 dX12_isGroupNow_63 (by decide) ?_
          exact jd_lv (lv2 := [(0, .ref (gb G + t)), (1, .int x1), (2, .int x2), (3, .int (x3 + 1))]) [1, 2, 3, 0] rfl h
        · have h := h.2 hc
          refine jd_iconst (pc := 58) (v := 0) dX12_isGroupNow_58 (by decide) ?_
          exact jd_iretK (pc := 59) (ty := .boolean) rfl (by decide) dX12_isGroupNow_59 h
theorem eX12_isGroupNow {G : jdG} {n : Nat} {Z : jdL} {I : jdI} {J : jdJ} {K : Int32 → jdI → jdJ → Prop} {t : Nat} {x1 : Int32} (ht : zModel Z t) (h : Cl G mX12_bits n 0 0 [.int x1] Z I J (qi Z (fun v2 I1 J1 => ((v2 = (I1 t 14) → Jd G mX12_isGroupNow (jdFm G (qi Z K)) (n + 1) 0 0 15 [(0, .ref (gb G + t)), (1, .int x1), (2, .int 0)] [] Z I1 J1) ∧ (¬ v2 = (I1 t 14) → K 0 I1 J1))))) : Cl G mX12_isGroupNow (n + 1) 0 0 [.ref (gb G + t), .int x1] Z I J (qi Z K) :=
  Cl.of (by decide +kernel) (Nat.le_of_ble_eq_true rfl) (rX12_isGroupNow_0 ht h)
set_option maxRecDepth 4000 in
theorem rX12_listFrom_0 {G : jdG} {n rc rs : Nat} {Z : jdL} {I : jdI} {J : jdJ} {K : jdI → jdJ → Prop} {t : Nat} {x1 : Int32} {x2 : Int32} {x3 : Int32} (ht : zModel Z t) (h : ((¬ x3 = (I t 14) → Jd G mX12_listFrom (jdFm G (qv Z K)) (n + 1) rc rs 29 [(0, .ref (gb G + t)), (1, .int x1), (2, .int x2), (3, .int x3), (4, .int x2)] [] Z I J) ∧ (x3 = (I t 14) → (vp_in (I t 30) 70 ∧ K (uI (uI I t 30 ((I t 30) + 1)) (t + 30) (Int32.toNatClampNeg (I t 30)) x1) J)))) : Jd G mX12_listFrom (jdFm G (qv Z K)) (n + 1) rc rs 0 [(0, .ref (gb G + t)), (1, .int x1), (2, .int x2), (3, .int x3)] [] Z I J := by
  refine jd_iload_n (pc := 0) 3 dX12_listFrom_0 rfl rfl ?_
  refine jd_aload_n (pc := 1) 0 dX12_listFrom_1 rfl rfl ?_
  refine jd_getI (pc := 2) (ci := 11) (k := 14) gX12_51 ht.1 rfl dX12_listFrom_2 ?_
  refine jd_icmp_ne (pc := 5) 26 dX12_listFrom_5 (by decide) (fun hc => ?_) (fun hc => ?_)
  · have h := h.1 hc
    refine jd_iload_n (pc := 26) 2 dX12_listFrom_26 rfl rfl ?_
    refine jd_istore (pc := 27) [(4, .int x2), (0, .ref (gb G + t)), (1, .int x1), (2, .int x2), (3, .int x3)] dX12_listFrom_27 (by decide) rfl ?_
    exact jd_lv (lv2 := [(0, .ref (gb G + t)), (1, .int x1), (2, .int x2), (3, .int x3), (4, .int x2)]) [1, 2, 3, 4, 0] rfl h
  · have h := h.2 hc
    refine jd_aload_n (pc := 8) 0 dX12_listFrom_8 rfl rfl ?_
    refine jd_getR (pc := 9) (ci := 11) (k := 29) (r := (t + 30)) gX12_61 ht.1 rfl (zModel_p29 ht) dX12_listFrom_9 ?_
    refine jd_aload_n (pc := 12) 0 dX12_listFrom_12 rfl rfl ?_
    refine jd_dup (pc := 13) dX12_listFrom_13 rfl ?_
    refine jd_getI (pc := 14) (ci := 11) (k := 30) gX12_257 ht.1 rfl dX12_listFrom_14 ?_
    refine jd_dup_x1 (pc := 17) dX12_listFrom_17 rfl rfl ?_
    refine jd_iconst (pc := 18) (v := 1) dX12_listFrom_18 (by decide) ?_
    refine jd_iadd (pc := 19) dX12_listFrom_19 ?_
    refine jd_putI (pc := 20) (ci := 11) (k := 30) pX12_257 ht.1 rfl rfl rfl dX12_listFrom_20 ?_
    refine jd_iload_n (pc := 23) 1 dX12_listFrom_23 rfl rfl ?_
    obtain ⟨hv1, h⟩ := h
    refine jd_iast (pc := 24) (len := 70) (zModel_a29 ht) hv1 dX12_listFrom_24 ?_
    exact jd_vretK (pc := 25) rfl dX12_listFrom_25 h
set_option maxRecDepth 4000 in
theorem rX12_listFrom_29 {G : jdG} {n rc rs : Nat} {Z : jdL} {I : jdI} {J : jdJ} {K : jdI → jdJ → Prop} {t : Nat} {x1 : Int32} {x2 : Int32} {x3 : Int32} {x4 : Int32} (ht : zModel Z t) (h : (((I t 10) ≤ x4 → K I J) ∧ (¬ (I t 10) ≤ x4 → Jd G mX12_listFrom (jdFm G (qv Z K)) (n + 1) rc rs 44 [(0, .ref (gb G + t)), (1, .int x1), (2, .int x2), (3, .int x3), (4, .int x4), (5, .int 1), (6, .int 0)] [] Z I J))) : Jd G mX12_listFrom (jdFm G (qv Z K)) (n + 1) rc rs 29 [(0, .ref (gb G + t)), (1, .int x1), (2, .int x2), (3, .int x3), (4, .int x4)] [] Z I J := by
  refine jd_iload (pc := 29) 4 dX12_listFrom_29 rfl ?_
  refine jd_aload_n (pc := 31) 0 dX12_listFrom_31 rfl rfl ?_
  refine jd_getI (pc := 32) (ci := 11) (k := 10) gX12_85 ht.1 rfl dX12_listFrom_32 ?_
  refine jd_icmp_ge (pc := 35) 118 dX12_listFrom_35 (by decide) (fun hc => ?_) (fun hc => ?_)
  · have h := h.1 hc
    exact jd_vretK (pc := 118) rfl dX12_listFrom_118 h
  · have h := h.2 hc
    refine jd_iconst (pc := 38) (v := 1) dX12_listFrom_38 (by decide) ?_
    refine jd_istore (pc := 39) [(5, .int 1), (0, .ref (gb G + t)), (1, .int x1), (2, .int x2), (3, .int x3), (4, .int x4)] dX12_listFrom_39 (by decide) rfl ?_
    refine jd_iconst (pc := 41) (v := 0) dX12_listFrom_41 (by decide) ?_
    refine jd_istore (pc := 42) [(6, .int 0), (5, .int 1), (0, .ref (gb G + t)), (1, .int x1), (2, .int x2), (3, .int x3), (4, .int x4)] dX12_listFrom_42 (by decide) rfl ?_
    exact jd_lv (lv2 := [(0, .ref (gb G + t)), (1, .int x1), (2, .int x2), (3, .int x3), (4, .int x4), (5, .int 1), (6, .int 0)]) [2, 3, 4, 5, 6, 1, 0] rfl h
set_option maxRecDepth 4000 in
theorem rX12_listFrom_44 {G : jdG} {n rc rs : Nat} {Z : jdL} {I : jdI} {J : jdJ} {K : jdI → jdJ → Prop} {t : Nat} {x1 : Int32} {x2 : Int32} {x3 : Int32} {x4 : Int32} {x5 : Int32} {x6 : Int32} (ht : zModel Z t) (h : ((x4 ≤ x6 → ((x5 = 0 → Jd G mX12_listFrom (jdFm G (qv Z K)) (n + 1) rc rs 29 [(0, .ref (gb G + t)), (1, .int x1), (2, .int x2), (3, .int x3), (4, .int (x4 + 1))] [] Z I J) ∧ (¬ x5 = 0 → Cl G mX12_listFrom n 0 0 [.ref (gb G + t), .int (x1 ||| (1 <<< (x4 &&& 31))), .int (x4 + 1), .int (x3 + 1)] Z I J (qv Z (fun I1 J1 => Jd G mX12_listFrom (jdFm G (qv Z K)) (n + 1) rc rs 29 [(0, .ref (gb G + t)), (1, .int x1), (2, .int x2), (3, .int x3), (4, .int (x4 + 1))] [] Z I1 J1))))) ∧ (¬ x4 ≤ x6 → Cl G mX12_has n 0 0 [.int x1, .int x6] Z I J (qi Z (fun v4 I3 J3 => ((v4 = 0 → Jd G mX12_listFrom (jdFm G (qv Z K)) (n + 1) rc rs 44 [(0, .ref (gb G + t)), (1, .int x1), (2, .int x2), (3, .int x3), (4, .int x4), (5, .int (x5 &&& 1)), (6, .int (x6 + 1))] [] Z I3 J3) ∧ (¬ v4 = 0 → (vp_in x4 8 ∧ (vp_in x6 8 ∧ ((¬ (I3 (t + 21 + (Int32.toNatClampNeg x4)) (Int32.toNatClampNeg x6)) = (-1) → Jd G mX12_listFrom (jdFm G (qv Z K)) (n + 1) rc rs 44 [(0, .ref (gb G + t)), (1, .int x1), (2, .int x2), (3, .int x3), (4, .int x4), (5, .int (x5 &&& 0)), (6, .int (x6 + 1))] [] Z I3 J3) ∧ ((I3 (t + 21 + (Int32.toNatClampNeg x4)) (Int32.toNatClampNeg x6)) = (-1) → Jd G mX12_listFrom (jdFm G (qv Z K)) (n + 1) rc rs 44 [(0, .ref (gb G + t)), (1, .int x1), (2, .int x2), (3, .int x3), (4, .int x4), (5, .int (x5 &&& 1)), (6, .int (x6 + 1))] [] Z I3 J3))))))))))) : Jd G mX12_listFrom (jdFm G (qv Z K)) (n + 1) rc rs 44 [(0, .ref (gb G + t)), (1, .int x1), (2, .int x2), (3, .int x3), (4, .int x4), (5, .int x5), (6, .int x6)] [] Z I J := by
  refine jd_iload (pc := 44) 6 dX12_listFrom_44 rfl ?_
  refine jd_iload (pc := 46) 4 dX12_listFrom_46 rfl ?_
  refine jd_icmp_ge (pc := 48) 90 dX12_listFrom_48 (by decide) (fun hc => ?_) (fun hc => ?_)
  · have h := h.1 hc
    refine jd_iload (pc := 90) 5 dX12_listFrom_90 rfl ?_
    refine jd_if_eq (pc := 92) 112 dX12_listFrom_92 (by decide) (fun hc => ?_) (fun hc => ?_)
    · have h := h.1 hc
      refine jd_iinc (pc := 112) (v := (x4 + 1)) 4 [(4, .int (x4 + 1)), (0, .ref (gb G + t)), (1, .int x1), (2, .int x2), (3, .int x3), (5, .int x5), (6, .int x6)] dX12_listFrom_112 rfl rfl (by decide) rfl ?_
      refine jd_goto (pc := 115) 29 dX12_listFrom_115 (by decide) ?_
      exact jd_lv (lv2 := [(0, .ref (gb G + t)), (1, .int x1), (2, .int x2), (3, .int x3), (4, .int (x4 + 1))]) [1, 2, 3, 4, 0] rfl h
    · have h := h.2 hc
      refine jd_aload_n (pc := 95) 0 dX12_listFrom_95 rfl rfl ?_
      refine jd_iload_n (pc := 96) 1 dX12_listFrom_96 rfl rfl ?_
      refine jd_iconst (pc := 97) (v := 1) dX12_listFrom_97 (by decide) ?_
      refine jd_iload (pc := 98) 4 dX12_listFrom_98 rfl ?_
      refine jd_ishl (pc := 100) dX12_listFrom_100 ?_
      refine jd_ior (pc := 101) dX12_listFrom_101 ?_
      refine jd_iload (pc := 102) 4 dX12_listFrom_102 rfl ?_
      refine jd_iconst (pc := 104) (v := 1) dX12_listFrom_104 (by decide) ?_
      refine jd_iadd (pc := 105) dX12_listFrom_105 ?_
      refine jd_iload_n (pc := 106) 3 dX12_listFrom_106 rfl rfl ?_
      refine jd_iconst (pc := 107) (v := 1) dX12_listFrom_107 (by decide) ?_
      refine jd_iadd (pc := 108) dX12_listFrom_108 ?_
      refine jd_callVv (pc := 109) (M2 := mX12_listFrom) (id := t) (ci := 11) (T := TX12) (N := 45) (av := [.int (x1 ||| (1 <<< (x4 &&& 31))), .int (x4 + 1), .int (x3 + 1)]) kX12_listFrom sX12_listFrom rfl ht.1 lX12_260 rfl rfl (Nat.le_of_ble_eq_true rfl) dX12_listFrom_109 h ?_
      intro I1 J1 h
      refine jd_iinc (pc := 112) (v := (x4 + 1)) 4 [(4, .int (x4 + 1)), (0, .ref (gb G + t)), (1, .int x1), (2, .int x2), (3, .int x3), (5, .int x5), (6, .int x6)] dX12_listFrom_112 rfl rfl (by decide) rfl ?_
      refine jd_goto (pc := 115) 29 dX12_listFrom_115 (by decide) ?_
      exact jd_lv (lv2 := [(0, .ref (gb G + t)), (1, .int x1), (2, .int x2), (3, .int x3), (4, .int (x4 + 1))]) [1, 2, 3, 4, 0] rfl h
  · have h := h.2 hc
    refine jd_iload (pc := 51) 5 dX12_listFrom_51 rfl ?_
    refine jd_iload_n (pc := 53) 1 dX12_listFrom_53 rfl rfl ?_
    refine jd_iload (pc := 54) 6 dX12_listFrom_54 rfl ?_
    refine jd_callSi (pc := 56) (M2 := mX12_has) (av := [.int x1, .int x6]) kX12_has sX12_has lX12_151 rfl rfl (Nat.le_of_ble_eq_true rfl) dX12_listFrom_56 h ?_
    intro v4 I3 J3 h
    refine jd_if_eq (pc := 59) 76 dX12_listFrom_59 (by decide) (fun hc => ?_) (fun hc => ?_)
    · have h := h.1 hc
      refine jd_iconst (pc := 76) (v := 1) dX12_listFrom_76 (by decide) ?_
      refine jd_goto (pc := 77) 81 dX12_listFrom_77 (by decide) ?_
      refine jd_iand (pc := 81) dX12_listFrom_81 ?_
      refine jd_istore (pc := 82) [(5, .int (x5 &&& 1)), (0, .ref (gb G + t)), (1, .int x1), (2, .int x2), (3, .int x3), (4, .int x4), (6, .int x6)] dX12_listFrom_82 (by decide) rfl ?_
      refine jd_iinc (pc := 84) (v := (x6 + 1)) 6 [(6, .int (x6 + 1)), (5, .int (x5 &&& 1)), (0, .ref (gb G + t)), (1, .int x1), (2, .int x2), (3, .int x3), (4, .int x4)] dX12_listFrom_84 rfl rfl (by decide) rfl ?_
      refine jd_goto (pc := 87) 44 dX12_listFrom_87 (by decide) ?_
      exact jd_lv (lv2 := [(0, .ref (gb G + t)), (1, .int x1), (2, .int x2), (3, .int x3), (4, .int x4), (5, .int (x5 &&& 1)), (6, .int (x6 + 1))]) [2, 3, 4, 5, 6, 1, 0] rfl h
    · have h := h.2 hc
      refine jd_aload_n (pc := 62) 0 dX12_listFrom_62 rfl rfl ?_
      refine jd_getR (pc := 63) (ci := 11) (k := 13) (r := (t + 20)) gX12_48 ht.1 rfl (zModel_p13 ht) dX12_listFrom_63 ?_
      refine jd_iload (pc := 66) 4 dX12_listFrom_66 rfl ?_
      obtain ⟨hv5, h⟩ := h
      refine jd_aald (pc := 68) (len := 8) (k := 2) (zModel_a13 ht) (by decide) hv5 (zModel_known ht (vp_lt hv5)) dX12_listFrom_68 ?_
      refine jd_iload (pc := 69) 6 dX12_listFrom_69 rfl ?_
      obtain ⟨hv6, h⟩ := h
      refine jd_iald (pc := 71) (len := 8) (zModel_knownA ht (vp_lt hv5)) hv6 dX12_listFrom_71 ?_
      refine jd_iconst (pc := 72) (v := (-1)) dX12_listFrom_72 (by decide) ?_
      refine jd_icmp_ne (pc := 73) 80 dX12_listFrom_73 (by decide) (fun hc => ?_) (fun hc => ?_)
      · have h := h.1 hc
        refine jd_iconst (pc := 80) (v := 0) dX12_listFrom_80 (by decide) ?_
        refine jd_iand (pc := 81) dX12_listFrom_81 ?_
        refine jd_istore (pc := 82) [(5, .int (x5 &&& 0)), (0, .ref (gb G + t)), (1, .int x1), (2, .int x2), (3, .int x3), (4, .int x4), (6, .int x6)] dX12_listFrom_82 (by decide) rfl ?_
        refine jd_iinc (pc := 84) (v := (x6 + 1)) 6 [(6, .int (x6 + 1)), (5, .int (x5 &&& 0)), (0, .ref (gb G + t)), (1, .int x1), (2, .int x2), (3, .int x3), (4, .int x4)] dX12_listFrom_84 rfl rfl (by decide) rfl ?_
        refine jd_goto (pc := 87) 44 dX12_listFrom_87 (by decide) ?_
        exact jd_lv (lv2 := [(0, .ref (gb G + t)), (1, .int x1), (2, .int x2), (3, .int x3), (4, .int x4), (5, .int (x5 &&& 0)), (6, .int (x6 + 1))]) [2, 3, 4, 5, 6, 1, 0] rfl h
      · have h := h.2 hc
        refine jd_iconst (pc := 76) (v := 1) dX12_listFrom_76 (by decide) ?_
        refine jd_goto (pc := 77) 81 dX12_listFrom_77 (by decide) ?_
        refine jd_iand (pc := 81) dX12_listFrom_81 ?_
        refine jd_istore (pc := 82) [(5, .int (x5 &&& 1)), (0, .ref (gb G + t)), (1, .int x1), (2, .int x2), (3, .int x3), (4, .int x4), (6, .int x6)] dX12_listFrom_82 (by decide) rfl ?_
        refine jd_iinc (pc := 84) (v := (x6 + 1)) 6 [(6, .int (x6 + 1)), (5, .int (x5 &&& 1)), (0, .ref (gb G + t)), (1, .int x1), (2, .int x2), (3, .int x3), (4, .int x4)] dX12_listFrom_84 rfl rfl (by decide) rfl ?_
        refine jd_goto (pc := 87) 44 dX12_listFrom_87 (by decide) ?_
        exact jd_lv (lv2 := [(0, .ref (gb G + t)), (1, .int x1), (2, .int x2), (3, .int x3), (4, .int x4), (5, .int (x5 &&& 1)), (6, .int (x6 + 1))]) [2, 3, 4, 5, 6, 1, 0] rfl h
theorem eX12_listFrom {G : jdG} {n : Nat} {Z : jdL} {I : jdI} {J : jdJ} {K : jdI → jdJ → Prop} {t : Nat} {x1 : Int32} {x2 : Int32} {x3 : Int32} (ht : zModel Z t) (h : ((¬ x3 = (I t 14) → Jd G mX12_listFrom (jdFm G (qv Z K)) (n + 1) 0 0 29 [(0, .ref (gb G + t)), (1, .int x1), (2, .int x2), (3, .int x3), (4, .int x2)] [] Z I J) ∧ (x3 = (I t 14) → (vp_in (I t 30) 70 ∧ K (uI (uI I t 30 ((I t 30) + 1)) (t + 30) (Int32.toNatClampNeg (I t 30)) x1) J)))) : Cl G mX12_listFrom (n + 1) 0 0 [.ref (gb G + t), .int x1, .int x2, .int x3] Z I J (qv Z K) :=
  Cl.of (by decide +kernel) (Nat.le_of_ble_eq_true rfl) (rX12_listFrom_0 ht h)
set_option maxRecDepth 4000 in
theorem rX12_listAll_0 {G : jdG} {n rc rs : Nat} {Z : jdL} {I : jdI} {J : jdJ} {K : jdI → jdJ → Prop} {t : Nat} (ht : zModel Z t) (h : Cl G mX12_listFrom n 0 0 [.ref (gb G + t), .int 0, .int 0, .int 0] Z (uI I t 30 0) J (qv Z (fun I1 J1 => K I1 J1))) : Jd G mX12_listAll (jdFm G (qv Z K)) (n + 1) rc rs 0 [(0, .ref (gb G + t))] [] Z I J := by
  refine jd_aload_n (pc := 0) 0 dX12_listAll_0 rfl rfl ?_
  refine jd_iconst (pc := 1) (v := 0) dX12_listAll_1 (by decide) ?_
  refine jd_putI (pc := 2) (ci := 11) (k := 30) pX12_257 ht.1 rfl rfl rfl dX12_listAll_2 ?_
  refine jd_aload_n (pc := 5) 0 dX12_listAll_5 rfl rfl ?_
  refine jd_iconst (pc := 6) (v := 0) dX12_listAll_6 (by decide) ?_
  refine jd_iconst (pc := 7) (v := 0) dX12_listAll_7 (by decide) ?_
  refine jd_iconst (pc := 8) (v := 0) dX12_listAll_8 (by decide) ?_
  refine jd_callVv (pc := 9) (M2 := mX12_listFrom) (id := t) (ci := 11) (T := TX12) (N := 45) (av := [.int 0, .int 0, .int 0]) kX12_listFrom sX12_listFrom rfl ht.1 lX12_260 rfl rfl (Nat.le_of_ble_eq_true rfl) dX12_listAll_9 h ?_
  intro I1 J1 h
  exact jd_vretK (pc := 12) rfl dX12_listAll_12 h
theorem eX12_listAll {G : jdG} {n : Nat} {Z : jdL} {I : jdI} {J : jdJ} {K : jdI → jdJ → Prop} {t : Nat} (ht : zModel Z t) (h : Cl G mX12_listFrom n 0 0 [.ref (gb G + t), .int 0, .int 0, .int 0] Z (uI I t 30 0) J (qv Z (fun I1 J1 => K I1 J1))) : Cl G mX12_listAll (n + 1) 0 0 [.ref (gb G + t)] Z I J (qv Z K) :=
  Cl.of (by decide +kernel) (Nat.le_of_ble_eq_true rfl) (rX12_listAll_0 ht h)
set_option maxRecDepth 4000 in
theorem rX12_isGroup_0 {G : jdG} {n rc rs : Nat} {Z : jdL} {I : jdI} {J : jdJ} {K : Int32 → jdI → jdJ → Prop} {t : Nat} {x1 : Int32} (ht : zModel Z t) (h : Cl G mX12_isSet n 0 0 [.ref (gb G + t), .int x1] Z I J (qi Z (fun v2 I1 J1 => ((¬ v2 = 0 → Cl G mX12_isGroupNow n 0 0 [.ref (gb G + t), .int x1] Z I1 J1 (qi Z (fun v4 I3 J3 => ((v4 = 0 → K 0 I3 J3) ∧ (¬ v4 = 0 → K 1 I3 J3))))) ∧ (v2 = 0 → Cl G mX12_refuse n 0 0 [.ref (gb G + t), .int (-2)] Z I1 J1 (qi Z (fun v6 I5 J5 => K v6 I5 J5))))))) : Jd G mX12_isGroup (jdFm G (qi Z K)) (n + 1) rc rs 0 [(0, .ref (gb G + t)), (1, .int x1)] [] Z I J := by
  refine jd_aload_n (pc := 0) 0 dX12_isGroup_0 rfl rfl ?_
  refine jd_iload_n (pc := 1) 1 dX12_isGroup_1 rfl rfl ?_
  refine jd_callVi (pc := 2) (M2 := mX12_isSet) (id := t) (ci := 11) (T := TX12) (N := 45) (av := [.int x1]) kX12_isSet sX12_isSet rfl ht.1 lX12_263 rfl rfl (Nat.le_of_ble_eq_true rfl) dX12_isGroup_2 h ?_
  intro v2 I1 J1 h
  refine jd_if_ne (pc := 5) 15 dX12_isGroup_5 (by decide) (fun hc => ?_) (fun hc => ?_)
  · have h := h.1 hc
    refine jd_aload_n (pc := 15) 0 dX12_isGroup_15 rfl rfl ?_
    refine jd_iload_n (pc := 16) 1 dX12_isGroup_16 rfl rfl ?_
    refine jd_callVi (pc := 17) (M2 := mX12_isGroupNow) (id := t) (ci := 11) (T := TX12) (N := 45) (av := [.int x1]) kX12_isGroupNow sX12_isGroupNow rfl ht.1 lX12_266 rfl rfl (Nat.le_of_ble_eq_true rfl) dX12_isGroup_17 h ?_
    intro v4 I3 J3 h
    refine jd_if_eq (pc := 20) 27 dX12_isGroup_20 (by decide) (fun hc => ?_) (fun hc => ?_)
    · have h := h.1 hc
      refine jd_iconst (pc := 27) (v := 0) dX12_isGroup_27 (by decide) ?_
      exact jd_iretK (pc := 28) rfl rfl dX12_isGroup_28 h
    · have h := h.2 hc
      refine jd_iconst (pc := 23) (v := 1) dX12_isGroup_23 (by decide) ?_
      refine jd_goto (pc := 24) 28 dX12_isGroup_24 (by decide) ?_
      exact jd_iretK (pc := 28) rfl rfl dX12_isGroup_28 h
  · have h := h.2 hc
    refine jd_aload_n (pc := 8) 0 dX12_isGroup_8 rfl rfl ?_
    refine jd_bipush (pc := 9) (v := (-2)) dX12_isGroup_9 (by decide) ?_
    refine jd_callVi (pc := 11) (M2 := mX12_refuse) (id := t) (ci := 11) (T := TX12) (N := 45) (av := [.int (-2)]) kX12_refuse sX12_refuse rfl ht.1 lX12_102 rfl rfl (Nat.le_of_ble_eq_true rfl) dX12_isGroup_11 h ?_
    intro v6 I5 J5 h
    exact jd_iretK (pc := 14) rfl rfl dX12_isGroup_14 h
theorem eX12_isGroup {G : jdG} {n : Nat} {Z : jdL} {I : jdI} {J : jdJ} {K : Int32 → jdI → jdJ → Prop} {t : Nat} {x1 : Int32} (ht : zModel Z t) (h : Cl G mX12_isSet n 0 0 [.ref (gb G + t), .int x1] Z I J (qi Z (fun v2 I1 J1 => ((¬ v2 = 0 → Cl G mX12_isGroupNow n 0 0 [.ref (gb G + t), .int x1] Z I1 J1 (qi Z (fun v4 I3 J3 => ((v4 = 0 → K 0 I3 J3) ∧ (¬ v4 = 0 → K 1 I3 J3))))) ∧ (v2 = 0 → Cl G mX12_refuse n 0 0 [.ref (gb G + t), .int (-2)] Z I1 J1 (qi Z (fun v6 I5 J5 => K v6 I5 J5))))))) : Cl G mX12_isGroup (n + 1) 0 0 [.ref (gb G + t), .int x1] Z I J (qi Z K) :=
  Cl.of (by decide +kernel) (Nat.le_of_ble_eq_true rfl) (rX12_isGroup_0 ht h)
set_option maxRecDepth 4000 in
theorem rX12_groupsOf_0 {G : jdG} {n rc rs : Nat} {Z : jdL} {I : jdI} {J : jdJ} {K : Int32 → jdI → jdJ → Prop} {t : Nat} {x1 : Int32} (ht : zModel Z t) (h : Cl G mX12_listAll n 0 0 [.ref (gb G + t)] Z I J (qv Z (fun I1 J1 => Jd G mX12_groupsOf (jdFm G (qi Z K)) (n + 1) rc rs 8 [(0, .ref (gb G + t)), (1, .int x1), (2, .int 0), (3, .int 0)] [] Z I1 J1))) : Jd G mX12_groupsOf (jdFm G (qi Z K)) (n + 1) rc rs 0 [(0, .ref (gb G + t)), (1, .int x1)] [] Z I J := by
  refine jd_aload_n (pc := 0) 0 dX12_groupsOf_0 rfl rfl ?_
  refine jd_callVv (pc := 1) (M2 := mX12_listAll) (id := t) (ci := 11) (T := TX12) (N := 45) (av := []) kX12_listAll sX12_listAll rfl ht.1 lX12_269 rfl rfl (Nat.le_of_ble_eq_true rfl) dX12_groupsOf_1 h ?_
  intro I1 J1 h
  refine jd_iconst (pc := 4) (v := 0) dX12_groupsOf_4 (by decide) ?_
  refine jd_istore_n (pc := 5) [(2, .int 0), (0, .ref (gb G + t)), (1, .int x1)] dX12_groupsOf_5 rfl (by decide) rfl ?_
  refine jd_iconst (pc := 6) (v := 0) dX12_groupsOf_6 (by decide) ?_
  refine jd_istore_n (pc := 7) [(3, .int 0), (2, .int 0), (0, .ref (gb G + t)), (1, .int x1)] dX12_groupsOf_7 rfl (by decide) rfl ?_
  exact jd_lv (lv2 := [(0, .ref (gb G + t)), (1, .int x1), (2, .int 0), (3, .int 0)]) [2, 3, 1, 0] rfl h
set_option maxRecDepth 4000 in
theorem rX12_groupsOf_8 {G : jdG} {n rc rs : Nat} {Z : jdL} {I : jdI} {J : jdJ} {K : Int32 → jdI → jdJ → Prop} {t : Nat} {x1 : Int32} {x2 : Int32} {x3 : Int32} (ht : zModel Z t) (h : (((I t 30) ≤ x3 → K x2 I J) ∧ (¬ (I t 30) ≤ x3 → (vp_in x3 70 ∧ ((¬ ((I (t + 30) (Int32.toNatClampNeg x3)) &&& (x1 ^^^ (-1))) = 0 → Jd G mX12_groupsOf (jdFm G (qi Z K)) (n + 1) rc rs 8 [(0, .ref (gb G + t)), (1, .int x1), (2, .int (x2 + 0)), (3, .int (x3 + 1))] [] Z I J) ∧ (((I (t + 30) (Int32.toNatClampNeg x3)) &&& (x1 ^^^ (-1))) = 0 → Jd G mX12_groupsOf (jdFm G (qi Z K)) (n + 1) rc rs 8 [(0, .ref (gb G + t)), (1, .int x1), (2, .int (x2 + 1)), (3, .int (x3 + 1))] [] Z I J)))))) : Jd G mX12_groupsOf (jdFm G (qi Z K)) (n + 1) rc rs 8 [(0, .ref (gb G + t)), (1, .int x1), (2, .int x2), (3, .int x3)] [] Z I J := by
  refine jd_iload_n (pc := 8) 3 dX12_groupsOf_8 rfl rfl ?_
  refine jd_aload_n (pc := 9) 0 dX12_groupsOf_9 rfl rfl ?_
  refine jd_getI (pc := 10) (ci := 11) (k := 30) gX12_257 ht.1 rfl dX12_groupsOf_10 ?_
  refine jd_icmp_ge (pc := 13) 43 dX12_groupsOf_13 (by decide) (fun hc => ?_) (fun hc => ?_)
  · have h := h.1 hc
    refine jd_iload_n (pc := 43) 2 dX12_groupsOf_43 rfl rfl ?_
    exact jd_iretK (pc := 44) rfl rfl dX12_groupsOf_44 h
  · have h := h.2 hc
    refine jd_iload_n (pc := 16) 2 dX12_groupsOf_16 rfl rfl ?_
    refine jd_aload_n (pc := 17) 0 dX12_groupsOf_17 rfl rfl ?_
    refine jd_getR (pc := 18) (ci := 11) (k := 29) (r := (t + 30)) gX12_61 ht.1 rfl (zModel_p29 ht) dX12_groupsOf_18 ?_
    refine jd_iload_n (pc := 21) 3 dX12_groupsOf_21 rfl rfl ?_
    obtain ⟨hv1, h⟩ := h
    refine jd_iald (pc := 22) (len := 70) (zModel_a29 ht) hv1 dX12_groupsOf_22 ?_
    refine jd_iload_n (pc := 23) 1 dX12_groupsOf_23 rfl rfl ?_
    refine jd_iconst (pc := 24) (v := (-1)) dX12_groupsOf_24 (by decide) ?_
    refine jd_ixor (pc := 25) dX12_groupsOf_25 ?_
    refine jd_iand (pc := 26) dX12_groupsOf_26 ?_
    refine jd_if_ne (pc := 27) 34 dX12_groupsOf_27 (by decide) (fun hc => ?_) (fun hc => ?_)
    · have h := h.1 hc
      refine jd_iconst (pc := 34) (v := 0) dX12_groupsOf_34 (by decide) ?_
      refine jd_iadd (pc := 35) dX12_groupsOf_35 ?_
      refine jd_istore_n (pc := 36) [(2, .int (x2 + 0)), (0, .ref (gb G + t)), (1, .int x1), (3, .int x3)] dX12_groupsOf_36 rfl (by decide) rfl ?_
      refine jd_iinc (pc := 37) (v := (x3 + 1)) 3 [(3, .int (x3 + 1)), (2, .int (x2 + 0)), (0, .ref (gb G + t)), (1, .int x1)] dX12_groupsOf_37 rfl rfl (by decide) rfl ?_
      refine jd_goto (pc := 40) 8 dX12_groupsOf_40 (by decide) ?_
      exact jd_lv (lv2 := [(0, .ref (gb G + t)), (1, .int x1), (2, .int (x2 + 0)), (3, .int (x3 + 1))]) [2, 3, 1, 0] rfl h
    · have h := h.2 hc
      refine jd_iconst (pc := 30) (v := 1) dX12_groupsOf_30 (by decide) ?_
      refine jd_goto (pc := 31) 35 dX12_groupsOf_31 (by decide) ?_
      refine jd_iadd (pc := 35) dX12_groupsOf_35 ?_
      refine jd_istore_n (pc := 36) [(2, .int (x2 + 1)), (0, .ref (gb G + t)), (1, .int x1), (3, .int x3)] dX12_groupsOf_36 rfl (by decide) rfl ?_
      refine jd_iinc (pc := 37) (v := (x3 + 1)) 3 [(3, .int (x3 + 1)), (2, .int (x2 + 1)), (0, .ref (gb G + t)), (1, .int x1)] dX12_groupsOf_37 rfl rfl (by decide) rfl ?_
      refine jd_goto (pc := 40) 8 dX12_groupsOf_40 (by decide) ?_
      exact jd_lv (lv2 := [(0, .ref (gb G + t)), (1, .int x1), (2, .int (x2 + 1)), (3, .int (x3 + 1))]) [2, 3, 1, 0] rfl h
theorem eX12_groupsOf {G : jdG} {n : Nat} {Z : jdL} {I : jdI} {J : jdJ} {K : Int32 → jdI → jdJ → Prop} {t : Nat} {x1 : Int32} (ht : zModel Z t) (h : Cl G mX12_listAll n 0 0 [.ref (gb G + t)] Z I J (qv Z (fun I1 J1 => Jd G mX12_groupsOf (jdFm G (qi Z K)) (n + 1) 0 0 8 [(0, .ref (gb G + t)), (1, .int x1), (2, .int 0), (3, .int 0)] [] Z I1 J1))) : Cl G mX12_groupsOf (n + 1) 0 0 [.ref (gb G + t), .int x1] Z I J (qi Z K) :=
  Cl.of (by decide +kernel) (Nat.le_of_ble_eq_true rfl) (rX12_groupsOf_0 ht h)
set_option maxRecDepth 4000 in
theorem rX12_groups_0 {G : jdG} {n rc rs : Nat} {Z : jdL} {I : jdI} {J : jdJ} {K : Int32 → jdI → jdJ → Prop} {t : Nat} {x1 : Int32} (ht : zModel Z t) (h : Cl G mX12_isSet n 0 0 [.ref (gb G + t), .int x1] Z I J (qi Z (fun v2 I1 J1 => ((v2 = 0 → Cl G mX12_refuse n 0 0 [.ref (gb G + t), .int (-2)] Z I1 J1 (qi Z (fun v4 I3 J3 => K v4 I3 J3))) ∧ (¬ v2 = 0 → Cl G mX12_groupsOf n 0 0 [.ref (gb G + t), .int x1] Z I1 J1 (qi Z (fun v6 I5 J5 => K v6 I5 J5))))))) : Jd G mX12_groups (jdFm G (qi Z K)) (n + 1) rc rs 0 [(0, .ref (gb G + t)), (1, .int x1)] [] Z I J := by
  refine jd_aload_n (pc := 0) 0 dX12_groups_0 rfl rfl ?_
  refine jd_iload_n (pc := 1) 1 dX12_groups_1 rfl rfl ?_
  refine jd_callVi (pc := 2) (M2 := mX12_isSet) (id := t) (ci := 11) (T := TX12) (N := 45) (av := [.int x1]) kX12_isSet sX12_isSet rfl ht.1 lX12_263 rfl rfl (Nat.le_of_ble_eq_true rfl) dX12_groups_2 h ?_
  intro v2 I1 J1 h
  refine jd_if_eq (pc := 5) 16 dX12_groups_5 (by decide) (fun hc => ?_) (fun hc => ?_)
  · have h := h.1 hc
    refine jd_aload_n (pc := 16) 0 dX12_groups_16 rfl rfl ?_
    refine jd_bipush (pc := 17) (v := (-2)) dX12_groups_17 (by decide) ?_
    refine jd_callVi (pc := 19) (M2 := mX12_refuse) (id := t) (ci := 11) (T := TX12) (N := 45) (av := [.int (-2)]) kX12_refuse sX12_refuse rfl ht.1 lX12_102 rfl rfl (Nat.le_of_ble_eq_true rfl) dX12_groups_19 h ?_
    intro v4 I3 J3 h
    exact jd_iretK (pc := 22) rfl rfl dX12_groups_22 h
  · have h := h.2 hc
    refine jd_aload_n (pc := 8) 0 dX12_groups_8 rfl rfl ?_
    refine jd_iload_n (pc := 9) 1 dX12_groups_9 rfl rfl ?_
    refine jd_callVi (pc := 10) (M2 := mX12_groupsOf) (id := t) (ci := 11) (T := TX12) (N := 45) (av := [.int x1]) kX12_groupsOf sX12_groupsOf rfl ht.1 lX12_272 rfl rfl (Nat.le_of_ble_eq_true rfl) dX12_groups_10 h ?_
    intro v6 I5 J5 h
    refine jd_goto (pc := 13) 22 dX12_groups_13 (by decide) ?_
    exact jd_iretK (pc := 22) rfl rfl dX12_groups_22 h
theorem eX12_groups {G : jdG} {n : Nat} {Z : jdL} {I : jdI} {J : jdJ} {K : Int32 → jdI → jdJ → Prop} {t : Nat} {x1 : Int32} (ht : zModel Z t) (h : Cl G mX12_isSet n 0 0 [.ref (gb G + t), .int x1] Z I J (qi Z (fun v2 I1 J1 => ((v2 = 0 → Cl G mX12_refuse n 0 0 [.ref (gb G + t), .int (-2)] Z I1 J1 (qi Z (fun v4 I3 J3 => K v4 I3 J3))) ∧ (¬ v2 = 0 → Cl G mX12_groupsOf n 0 0 [.ref (gb G + t), .int x1] Z I1 J1 (qi Z (fun v6 I5 J5 => K v6 I5 J5))))))) : Cl G mX12_groups (n + 1) 0 0 [.ref (gb G + t), .int x1] Z I J (qi Z K) :=
  Cl.of (by decide +kernel) (Nat.le_of_ble_eq_true rfl) (rX12_groups_0 ht h)
set_option maxRecDepth 4000 in
theorem rX12_firstIn_0 {G : jdG} {n rc rs : Nat} {Z : jdL} {I : jdI} {J : jdJ} {K : Int32 → jdI → jdJ → Prop} {t : Nat} {x1 : Int32} (ht : zModel Z t) (h : Jd G mX12_firstIn (jdFm G (qi Z K)) n rc rs 2 [(0, .ref (gb G + t)), (1, .int x1), (2, .int 0)] [] Z I J) : Jd G mX12_firstIn (jdFm G (qi Z K)) n rc rs 0 [(0, .ref (gb G + t)), (1, .int x1)] [] Z I J := by
  refine jd_iconst (pc := 0) (v := 0) dX12_firstIn_0 (by decide) ?_
  refine jd_istore_n (pc := 1) [(2, .int 0), (0, .ref (gb G + t)), (1, .int x1)] dX12_firstIn_1 rfl (by decide) rfl ?_
  exact jd_lv (lv2 := [(0, .ref (gb G + t)), (1, .int x1), (2, .int 0)]) [1, 2, 0] rfl h
set_option maxRecDepth 4000 in
theorem rX12_firstIn_2 {G : jdG} {n rc rs : Nat} {Z : jdL} {I : jdI} {J : jdJ} {K : Int32 → jdI → jdJ → Prop} {t : Nat} {x1 : Int32} {x2 : Int32} (ht : zModel Z t) (h : (((I t 30) ≤ x2 → K 0 I J) ∧ (¬ (I t 30) ≤ x2 → (vp_in x2 70 ∧ ((¬ ((I (t + 30) (Int32.toNatClampNeg x2)) &&& (x1 ^^^ (-1))) = 0 → Jd G mX12_firstIn (jdFm G (qi Z K)) n rc rs 2 [(0, .ref (gb G + t)), (1, .int x1), (2, .int (x2 + 1))] [] Z I J) ∧ (((I (t + 30) (Int32.toNatClampNeg x2)) &&& (x1 ^^^ (-1))) = 0 → (vp_in x2 70 ∧ K (I (t + 30) (Int32.toNatClampNeg x2)) I J))))))) : Jd G mX12_firstIn (jdFm G (qi Z K)) n rc rs 2 [(0, .ref (gb G + t)), (1, .int x1), (2, .int x2)] [] Z I J := by
  refine jd_iload_n (pc := 2) 2 dX12_firstIn_2 rfl rfl ?_
  refine jd_aload_n (pc := 3) 0 dX12_firstIn_3 rfl rfl ?_
  refine jd_getI (pc := 4) (ci := 11) (k := 30) gX12_257 ht.1 rfl dX12_firstIn_4 ?_
  refine jd_icmp_ge (pc := 7) 36 dX12_firstIn_7 (by decide) (fun hc => ?_) (fun hc => ?_)
  · have h := h.1 hc
    refine jd_iconst (pc := 36) (v := 0) dX12_firstIn_36 (by decide) ?_
    exact jd_iretK (pc := 37) rfl rfl dX12_firstIn_37 h
  · have h := h.2 hc
    refine jd_aload_n (pc := 10) 0 dX12_firstIn_10 rfl rfl ?_
    refine jd_getR (pc := 11) (ci := 11) (k := 29) (r := (t + 30)) gX12_61 ht.1 rfl (zModel_p29 ht) dX12_firstIn_11 ?_
    refine jd_iload_n (pc := 14) 2 dX12_firstIn_14 rfl rfl ?_
    obtain ⟨hv1, h⟩ := h
    refine jd_iald (pc := 15) (len := 70) (zModel_a29 ht) hv1 dX12_firstIn_15 ?_
    refine jd_iload_n (pc := 16) 1 dX12_firstIn_16 rfl rfl ?_
    refine jd_iconst (pc := 17) (v := (-1)) dX12_firstIn_17 (by decide) ?_
    refine jd_ixor (pc := 18) dX12_firstIn_18 ?_
    refine jd_iand (pc := 19) dX12_firstIn_19 ?_
    refine jd_if_ne (pc := 20) 30 dX12_firstIn_20 (by decide) (fun hc => ?_) (fun hc => ?_)
    · have h := h.1 hc
      refine jd_iinc (pc := 30) (v := (x2 + 1)) 2 [(2, .int (x2 + 1)), (0, .ref (gb G + t)), (1, .int x1)] dX12_firstIn_30 rfl rfl (by decide) rfl ?_
      refine jd_goto (pc := 33) 2 dX12_firstIn_33 (by decide) ?_
      exact jd_lv (lv2 := [(0, .ref (gb G + t)), (1, .int x1), (2, .int (x2 + 1))]) [1, 2, 0] rfl h
    · have h := h.2 hc
      refine jd_aload_n (pc := 23) 0 dX12_firstIn_23 rfl rfl ?_
      refine jd_getR (pc := 24) (ci := 11) (k := 29) (r := (t + 30)) gX12_61 ht.1 rfl (zModel_p29 ht) dX12_firstIn_24 ?_
      refine jd_iload_n (pc := 27) 2 dX12_firstIn_27 rfl rfl ?_
      obtain ⟨hv2, h⟩ := h
      refine jd_iald (pc := 28) (len := 70) (zModel_a29 ht) hv2 dX12_firstIn_28 ?_
      exact jd_iretK (pc := 29) rfl rfl dX12_firstIn_29 h
theorem eX12_firstIn {G : jdG} {n : Nat} {Z : jdL} {I : jdI} {J : jdJ} {K : Int32 → jdI → jdJ → Prop} {t : Nat} {x1 : Int32} (ht : zModel Z t) (h : Jd G mX12_firstIn (jdFm G (qi Z K)) n 0 0 2 [(0, .ref (gb G + t)), (1, .int x1), (2, .int 0)] [] Z I J) : Cl G mX12_firstIn (n) 0 0 [.ref (gb G + t), .int x1] Z I J (qi Z K) :=
  Cl.of (by decide +kernel) (Nat.le_of_ble_eq_true rfl) (rX12_firstIn_0 ht h)
set_option maxRecDepth 4000 in
theorem rX12_firstOf_0 {G : jdG} {n rc rs : Nat} {Z : jdL} {I : jdI} {J : jdJ} {K : Int32 → jdI → jdJ → Prop} {t : Nat} {x1 : Int32} (ht : zModel Z t) (h : Cl G mX12_isSet n 0 0 [.ref (gb G + t), .int x1] Z I J (qi Z (fun v2 I1 J1 => ((¬ v2 = 0 → Cl G mX12_listAll n 0 0 [.ref (gb G + t)] Z I1 J1 (qv Z (fun I3 J3 => Cl G mX12_firstIn n 0 0 [.ref (gb G + t), .int x1] Z I3 J3 (qi Z (fun v6 I5 J5 => K v6 I5 J5))))) ∧ (v2 = 0 → Cl G mX12_refuse n 0 0 [.ref (gb G + t), .int (-2)] Z I1 J1 (qi Z (fun v8 I7 J7 => K v8 I7 J7))))))) : Jd G mX12_firstOf (jdFm G (qi Z K)) (n + 1) rc rs 0 [(0, .ref (gb G + t)), (1, .int x1)] [] Z I J := by
  refine jd_aload_n (pc := 0) 0 dX12_firstOf_0 rfl rfl ?_
  refine jd_iload_n (pc := 1) 1 dX12_firstOf_1 rfl rfl ?_
  refine jd_callVi (pc := 2) (M2 := mX12_isSet) (id := t) (ci := 11) (T := TX12) (N := 45) (av := [.int x1]) kX12_isSet sX12_isSet rfl ht.1 lX12_263 rfl rfl (Nat.le_of_ble_eq_true rfl) dX12_firstOf_2 h ?_
  intro v2 I1 J1 h
  refine jd_if_ne (pc := 5) 15 dX12_firstOf_5 (by decide) (fun hc => ?_) (fun hc => ?_)
  · have h := h.1 hc
    refine jd_aload_n (pc := 15) 0 dX12_firstOf_15 rfl rfl ?_
    refine jd_callVv (pc := 16) (M2 := mX12_listAll) (id := t) (ci := 11) (T := TX12) (N := 45) (av := []) kX12_listAll sX12_listAll rfl ht.1 lX12_269 rfl rfl (Nat.le_of_ble_eq_true rfl) dX12_firstOf_16 h ?_
    intro I3 J3 h
    refine jd_aload_n (pc := 19) 0 dX12_firstOf_19 rfl rfl ?_
    refine jd_iload_n (pc := 20) 1 dX12_firstOf_20 rfl rfl ?_
    refine jd_callVi (pc := 21) (M2 := mX12_firstIn) (id := t) (ci := 11) (T := TX12) (N := 45) (av := [.int x1]) kX12_firstIn sX12_firstIn rfl ht.1 lX12_275 rfl rfl (Nat.le_of_ble_eq_true rfl) dX12_firstOf_21 h ?_
    intro v6 I5 J5 h
    exact jd_iretK (pc := 24) rfl rfl dX12_firstOf_24 h
  · have h := h.2 hc
    refine jd_aload_n (pc := 8) 0 dX12_firstOf_8 rfl rfl ?_
    refine jd_bipush (pc := 9) (v := (-2)) dX12_firstOf_9 (by decide) ?_
    refine jd_callVi (pc := 11) (M2 := mX12_refuse) (id := t) (ci := 11) (T := TX12) (N := 45) (av := [.int (-2)]) kX12_refuse sX12_refuse rfl ht.1 lX12_102 rfl rfl (Nat.le_of_ble_eq_true rfl) dX12_firstOf_11 h ?_
    intro v8 I7 J7 h
    exact jd_iretK (pc := 14) rfl rfl dX12_firstOf_14 h
theorem eX12_firstOf {G : jdG} {n : Nat} {Z : jdL} {I : jdI} {J : jdJ} {K : Int32 → jdI → jdJ → Prop} {t : Nat} {x1 : Int32} (ht : zModel Z t) (h : Cl G mX12_isSet n 0 0 [.ref (gb G + t), .int x1] Z I J (qi Z (fun v2 I1 J1 => ((¬ v2 = 0 → Cl G mX12_listAll n 0 0 [.ref (gb G + t)] Z I1 J1 (qv Z (fun I3 J3 => Cl G mX12_firstIn n 0 0 [.ref (gb G + t), .int x1] Z I3 J3 (qi Z (fun v6 I5 J5 => K v6 I5 J5))))) ∧ (v2 = 0 → Cl G mX12_refuse n 0 0 [.ref (gb G + t), .int (-2)] Z I1 J1 (qi Z (fun v8 I7 J7 => K v8 I7 J7))))))) : Cl G mX12_firstOf (n + 1) 0 0 [.ref (gb G + t), .int x1] Z I J (qi Z K) :=
  Cl.of (by decide +kernel) (Nat.le_of_ble_eq_true rfl) (rX12_firstOf_0 ht h)
set_option maxRecDepth 4000 in
theorem rX12_mostIn_0 {G : jdG} {n rc rs : Nat} {Z : jdL} {I : jdI} {J : jdJ} {K : Int32 → jdI → jdJ → Prop} {t : Nat} {x1 : Int32} (ht : zModel Z t) (h : Jd G mX12_mostIn (jdFm G (qi Z K)) (n + 1) rc rs 4 [(0, .ref (gb G + t)), (1, .int x1), (2, .int 0), (3, .int 0)] [] Z I J) : Jd G mX12_mostIn (jdFm G (qi Z K)) (n + 1) rc rs 0 [(0, .ref (gb G + t)), (1, .int x1)] [] Z I J := by
  refine jd_iconst (pc := 0) (v := 0) dX12_mostIn_0 (by decide) ?_
  refine jd_istore_n (pc := 1) [(2, .int 0), (0, .ref (gb G + t)), (1, .int x1)] dX12_mostIn_1 rfl (by decide) rfl ?_
  refine jd_iconst (pc := 2) (v := 0) dX12_mostIn_2 (by decide) ?_
  refine jd_istore_n (pc := 3) [(3, .int 0), (2, .int 0), (0, .ref (gb G + t)), (1, .int x1)] dX12_mostIn_3 rfl (by decide) rfl ?_
  exact jd_lv (lv2 := [(0, .ref (gb G + t)), (1, .int x1), (2, .int 0), (3, .int 0)]) [2, 3, 1, 0] rfl h
set_option maxRecDepth 4000 in
theorem rX12_mostIn_4 {G : jdG} {n rc rs : Nat} {Z : jdL} {I : jdI} {J : jdJ} {K : Int32 → jdI → jdJ → Prop} {t : Nat} {x1 : Int32} {x2 : Int32} {x3 : Int32} (ht : zModel Z t) (h : (((I t 30) ≤ x3 → K x2 I J) ∧ (¬ (I t 30) ≤ x3 → (vp_in x3 70 ∧ ((¬ ((I (t + 30) (Int32.toNatClampNeg x3)) &&& (x1 ^^^ (-1))) = 0 → Jd G mX12_mostIn (jdFm G (qi Z K)) (n + 1) rc rs 4 [(0, .ref (gb G + t)), (1, .int x1), (2, .int x2), (3, .int (x3 + 1))] [] Z I J) ∧ (((I (t + 30) (Int32.toNatClampNeg x3)) &&& (x1 ^^^ (-1))) = 0 → (vp_in x3 70 ∧ Cl G mX12_mostIn n 0 0 [.ref (gb G + t), .int (x1 &&& ((I (t + 30) (Int32.toNatClampNeg x3)) ^^^ (-1)))] Z I J (qi Z (fun v4 I3 J3 => (((1 + v4) ≤ x2 → Jd G mX12_mostIn (jdFm G (qi Z K)) (n + 1) rc rs 4 [(0, .ref (gb G + t)), (1, .int x1), (2, .int x2), (3, .int (x3 + 1))] [] Z I3 J3) ∧ (¬ (1 + v4) ≤ x2 → Jd G mX12_mostIn (jdFm G (qi Z K)) (n + 1) rc rs 4 [(0, .ref (gb G + t)), (1, .int x1), (2, .int (1 + v4)), (3, .int (x3 + 1))] [] Z I3 J3))))))))))) : Jd G mX12_mostIn (jdFm G (qi Z K)) (n + 1) rc rs 4 [(0, .ref (gb G + t)), (1, .int x1), (2, .int x2), (3, .int x3)] [] Z I J := by
  refine jd_iload_n (pc := 4) 3 dX12_mostIn_4 rfl rfl ?_
  refine jd_aload_n (pc := 5) 0 dX12_mostIn_5 rfl rfl ?_
  refine jd_getI (pc := 6) (ci := 11) (k := 30) gX12_257 ht.1 rfl dX12_mostIn_6 ?_
  refine jd_icmp_ge (pc := 9) 62 dX12_mostIn_9 (by decide) (fun hc => ?_) (fun hc => ?_)
  · have h := h.1 hc
    refine jd_iload_n (pc := 62) 2 dX12_mostIn_62 rfl rfl ?_
    exact jd_iretK (pc := 63) rfl rfl dX12_mostIn_63 h
  · have h := h.2 hc
    refine jd_aload_n (pc := 12) 0 dX12_mostIn_12 rfl rfl ?_
    refine jd_getR (pc := 13) (ci := 11) (k := 29) (r := (t + 30)) gX12_61 ht.1 rfl (zModel_p29 ht) dX12_mostIn_13 ?_
    refine jd_iload_n (pc := 16) 3 dX12_mostIn_16 rfl rfl ?_
    obtain ⟨hv1, h⟩ := h
    refine jd_iald (pc := 17) (len := 70) (zModel_a29 ht) hv1 dX12_mostIn_17 ?_
    refine jd_iload_n (pc := 18) 1 dX12_mostIn_18 rfl rfl ?_
    refine jd_iconst (pc := 19) (v := (-1)) dX12_mostIn_19 (by decide) ?_
    refine jd_ixor (pc := 20) dX12_mostIn_20 ?_
    refine jd_iand (pc := 21) dX12_mostIn_21 ?_
    refine jd_if_ne (pc := 22) 56 dX12_mostIn_22 (by decide) (fun hc => ?_) (fun hc => ?_)
    · have h := h.1 hc
      refine jd_iinc (pc := 56) (v := (x3 + 1)) 3 [(3, .int (x3 + 1)), (0, .ref (gb G + t)), (1, .int x1), (2, .int x2)] dX12_mostIn_56 rfl rfl (by decide) rfl ?_
      refine jd_goto (pc := 59) 4 dX12_mostIn_59 (by decide) ?_
      exact jd_lv (lv2 := [(0, .ref (gb G + t)), (1, .int x1), (2, .int x2), (3, .int (x3 + 1))]) [1, 2, 3, 0] rfl h
    · have h := h.2 hc
      refine jd_iconst (pc := 25) (v := 1) dX12_mostIn_25 (by decide) ?_
      refine jd_aload_n (pc := 26) 0 dX12_mostIn_26 rfl rfl ?_
      refine jd_iload_n (pc := 27) 1 dX12_mostIn_27 rfl rfl ?_
      refine jd_aload_n (pc := 28) 0 dX12_mostIn_28 rfl rfl ?_
      refine jd_getR (pc := 29) (ci := 11) (k := 29) (r := (t + 30)) gX12_61 ht.1 rfl (zModel_p29 ht) dX12_mostIn_29 ?_
      refine jd_iload_n (pc := 32) 3 dX12_mostIn_32 rfl rfl ?_
      obtain ⟨hv2, h⟩ := h
      refine jd_iald (pc := 33) (len := 70) (zModel_a29 ht) hv2 dX12_mostIn_33 ?_
      refine jd_iconst (pc := 34) (v := (-1)) dX12_mostIn_34 (by decide) ?_
      refine jd_ixor (pc := 35) dX12_mostIn_35 ?_
      refine jd_iand (pc := 36) dX12_mostIn_36 ?_
      refine jd_callVi (pc := 37) (M2 := mX12_mostIn) (id := t) (ci := 11) (T := TX12) (N := 45) (av := [.int (x1 &&& ((I (t + 30) (Int32.toNatClampNeg x3)) ^^^ (-1)))]) kX12_mostIn sX12_mostIn rfl ht.1 lX12_278 rfl rfl (Nat.le_of_ble_eq_true rfl) dX12_mostIn_37 h ?_
      intro v4 I3 J3 h
      refine jd_iadd (pc := 40) dX12_mostIn_40 ?_
      refine jd_istore (pc := 41) [(4, .int (1 + v4)), (0, .ref (gb G + t)), (1, .int x1), (2, .int x2), (3, .int x3)] dX12_mostIn_41 (by decide) rfl ?_
      refine jd_iload (pc := 43) 0 dX12_mostIn_43 rfl ?_
      refine jd_iload_n (pc := 45) 3 dX12_mostIn_45 rfl rfl ?_
      refine jd_icmp_le (pc := 46) 54 dX12_mostIn_46 (by decide) (fun hc => ?_) (fun hc => ?_)
      · have h := h.1 hc
        refine jd_iload_n (pc := 54) 3 dX12_mostIn_54 rfl rfl ?_
        refine jd_istore_n (pc := 55) [(2, .int x2), (4, .int (1 + v4)), (0, .ref (gb G + t)), (1, .int x1), (3, .int x3)] dX12_mostIn_55 rfl (by decide) rfl ?_
        refine jd_iinc (pc := 56) (v := (x3 + 1)) 4 [(3, .int (x3 + 1)), (2, .int x2), (4, .int (1 + v4)), (0, .ref (gb G + t)), (1, .int x1)] dX12_mostIn_56 rfl rfl (by decide) rfl ?_
        refine jd_goto (pc := 59) 4 dX12_mostIn_59 (by decide) ?_
        exact jd_lv (lv2 := [(0, .ref (gb G + t)), (1, .int x1), (2, .int x2), (3, .int (x3 + 1))]) [3, 4, 1, 0] rfl h
      · have h := h.2 hc
        refine jd_iload (pc := 49) 0 dX12_mostIn_49 rfl ?_
        refine jd_goto (pc := 51) 55 dX12_mostIn_51 (by decide) ?_
        refine jd_istore_n (pc := 55) [(2, .int (1 + v4)), (4, .int (1 + v4)), (0, .ref (gb G + t)), (1, .int x1), (3, .int x3)] dX12_mostIn_55 rfl (by decide) rfl ?_
        refine jd_iinc (pc := 56) (v := (x3 + 1)) 4 [(3, .int (x3 + 1)), (2, .int (1 + v4)), (4, .int (1 + v4)), (0, .ref (gb G + t)), (1, .int x1)] dX12_mostIn_56 rfl rfl (by decide) rfl ?_
        refine jd_goto (pc := 59) 4 dX12_mostIn_59 (by decide) ?_
        exact jd_lv (lv2 := [(0, .ref (gb G + t)), (1, .int x1), (2, .int (1 + v4)), (3, .int (x3 + 1))]) [3, 4, 1, 0] rfl h
theorem eX12_mostIn {G : jdG} {n : Nat} {Z : jdL} {I : jdI} {J : jdJ} {K : Int32 → jdI → jdJ → Prop} {t : Nat} {x1 : Int32} (ht : zModel Z t) (h : Jd G mX12_mostIn (jdFm G (qi Z K)) (n + 1) 0 0 4 [(0, .ref (gb G + t)), (1, .int x1), (2, .int 0), (3, .int 0)] [] Z I J) : Cl G mX12_mostIn (n + 1) 0 0 [.ref (gb G + t), .int x1] Z I J (qi Z K) :=
  Cl.of (by decide +kernel) (Nat.le_of_ble_eq_true rfl) (rX12_mostIn_0 ht h)
set_option maxRecDepth 4000 in
theorem rX12_most_0 {G : jdG} {n rc rs : Nat} {Z : jdL} {I : jdI} {J : jdJ} {K : Int32 → jdI → jdJ → Prop} {t : Nat} {x1 : Int32} (ht : zModel Z t) (h : Cl G mX12_isSet n 0 0 [.ref (gb G + t), .int x1] Z I J (qi Z (fun v2 I1 J1 => ((¬ v2 = 0 → Cl G mX12_listAll n 0 0 [.ref (gb G + t)] Z I1 J1 (qv Z (fun I3 J3 => Cl G mX12_mostIn n 0 0 [.ref (gb G + t), .int x1] Z I3 J3 (qi Z (fun v6 I5 J5 => K v6 I5 J5))))) ∧ (v2 = 0 → Cl G mX12_refuse n 0 0 [.ref (gb G + t), .int (-2)] Z I1 J1 (qi Z (fun v8 I7 J7 => K v8 I7 J7))))))) : Jd G mX12_most (jdFm G (qi Z K)) (n + 1) rc rs 0 [(0, .ref (gb G + t)), (1, .int x1)] [] Z I J := by
  refine jd_aload_n (pc := 0) 0 dX12_most_0 rfl rfl ?_
  refine jd_iload_n (pc := 1) 1 dX12_most_1 rfl rfl ?_
  refine jd_callVi (pc := 2) (M2 := mX12_isSet) (id := t) (ci := 11) (T := TX12) (N := 45) (av := [.int x1]) kX12_isSet sX12_isSet rfl ht.1 lX12_263 rfl rfl (Nat.le_of_ble_eq_true rfl) dX12_most_2 h ?_
  intro v2 I1 J1 h
  refine jd_if_ne (pc := 5) 15 dX12_most_5 (by decide) (fun hc => ?_) (fun hc => ?_)
  · have h := h.1 hc
    refine jd_aload_n (pc := 15) 0 dX12_most_15 rfl rfl ?_
    refine jd_callVv (pc := 16) (M2 := mX12_listAll) (id := t) (ci := 11) (T := TX12) (N := 45) (av := []) kX12_listAll sX12_listAll rfl ht.1 lX12_269 rfl rfl (Nat.le_of_ble_eq_true rfl) dX12_most_16 h ?_
    intro I3 J3 h
    refine jd_aload_n (pc := 19) 0 dX12_most_19 rfl rfl ?_
    refine jd_iload_n (pc := 20) 1 dX12_most_20 rfl rfl ?_
    refine jd_callVi (pc := 21) (M2 := mX12_mostIn) (id := t) (ci := 11) (T := TX12) (N := 45) (av := [.int x1]) kX12_mostIn sX12_mostIn rfl ht.1 lX12_278 rfl rfl (Nat.le_of_ble_eq_true rfl) dX12_most_21 h ?_
    intro v6 I5 J5 h
    exact jd_iretK (pc := 24) rfl rfl dX12_most_24 h
  · have h := h.2 hc
    refine jd_aload_n (pc := 8) 0 dX12_most_8 rfl rfl ?_
    refine jd_bipush (pc := 9) (v := (-2)) dX12_most_9 (by decide) ?_
    refine jd_callVi (pc := 11) (M2 := mX12_refuse) (id := t) (ci := 11) (T := TX12) (N := 45) (av := [.int (-2)]) kX12_refuse sX12_refuse rfl ht.1 lX12_102 rfl rfl (Nat.le_of_ble_eq_true rfl) dX12_most_11 h ?_
    intro v8 I7 J7 h
    exact jd_iretK (pc := 14) rfl rfl dX12_most_14 h
theorem eX12_most {G : jdG} {n : Nat} {Z : jdL} {I : jdI} {J : jdJ} {K : Int32 → jdI → jdJ → Prop} {t : Nat} {x1 : Int32} (ht : zModel Z t) (h : Cl G mX12_isSet n 0 0 [.ref (gb G + t), .int x1] Z I J (qi Z (fun v2 I1 J1 => ((¬ v2 = 0 → Cl G mX12_listAll n 0 0 [.ref (gb G + t)] Z I1 J1 (qv Z (fun I3 J3 => Cl G mX12_mostIn n 0 0 [.ref (gb G + t), .int x1] Z I3 J3 (qi Z (fun v6 I5 J5 => K v6 I5 J5))))) ∧ (v2 = 0 → Cl G mX12_refuse n 0 0 [.ref (gb G + t), .int (-2)] Z I1 J1 (qi Z (fun v8 I7 J7 => K v8 I7 J7))))))) : Cl G mX12_most (n + 1) 0 0 [.ref (gb G + t), .int x1] Z I J (qi Z K) :=
  Cl.of (by decide +kernel) (Nat.le_of_ble_eq_true rfl) (rX12_most_0 ht h)
set_option maxRecDepth 4000 in
theorem rX12_bestIn_0 {G : jdG} {n rc rs : Nat} {Z : jdL} {I : jdI} {J : jdJ} {K : Int32 → jdI → jdJ → Prop} {t : Nat} {x1 : Int32} (ht : zModel Z t) (h : Cl G mX12_mostIn n 0 0 [.ref (gb G + t), .int x1] Z I J (qi Z (fun v2 I1 J1 => Jd G mX12_bestIn (jdFm G (qi Z K)) (n + 1) rc rs 8 [(0, .ref (gb G + t)), (1, .int x1), (2, .int v2), (3, .int 0)] [] Z I1 J1))) : Jd G mX12_bestIn (jdFm G (qi Z K)) (n + 1) rc rs 0 [(0, .ref (gb G + t)), (1, .int x1)] [] Z I J := by
  refine jd_aload_n (pc := 0) 0 dX12_bestIn_0 rfl rfl ?_
  refine jd_iload_n (pc := 1) 1 dX12_bestIn_1 rfl rfl ?_
  refine jd_callVi (pc := 2) (M2 := mX12_mostIn) (id := t) (ci := 11) (T := TX12) (N := 45) (av := [.int x1]) kX12_mostIn sX12_mostIn rfl ht.1 lX12_278 rfl rfl (Nat.le_of_ble_eq_true rfl) dX12_bestIn_2 h ?_
  intro v2 I1 J1 h
  refine jd_istore_n (pc := 5) [(2, .int v2), (0, .ref (gb G + t)), (1, .int x1)] dX12_bestIn_5 rfl (by decide) rfl ?_
  refine jd_iconst (pc := 6) (v := 0) dX12_bestIn_6 (by decide) ?_
  refine jd_istore_n (pc := 7) [(3, .int 0), (2, .int v2), (0, .ref (gb G + t)), (1, .int x1)] dX12_bestIn_7 rfl (by decide) rfl ?_
  exact jd_lv (lv2 := [(0, .ref (gb G + t)), (1, .int x1), (2, .int v2), (3, .int 0)]) [2, 3, 1, 0] rfl h
set_option maxRecDepth 4000 in
theorem rX12_bestIn_8 {G : jdG} {n rc rs : Nat} {Z : jdL} {I : jdI} {J : jdJ} {K : Int32 → jdI → jdJ → Prop} {t : Nat} {x1 : Int32} {x2 : Int32} {x3 : Int32} (ht : zModel Z t) (h : (((I t 30) ≤ x3 → K 0 I J) ∧ (¬ (I t 30) ≤ x3 → (vp_in x3 70 ∧ ((¬ ((I (t + 30) (Int32.toNatClampNeg x3)) &&& (x1 ^^^ (-1))) = 0 → Jd G mX12_bestIn (jdFm G (qi Z K)) (n + 1) rc rs 8 [(0, .ref (gb G + t)), (1, .int x1), (2, .int x2), (3, .int (x3 + 1))] [] Z I J) ∧ (((I (t + 30) (Int32.toNatClampNeg x3)) &&& (x1 ^^^ (-1))) = 0 → (vp_in x3 70 ∧ Cl G mX12_mostIn n 0 0 [.ref (gb G + t), .int (x1 &&& ((I (t + 30) (Int32.toNatClampNeg x3)) ^^^ (-1)))] Z I J (qi Z (fun v4 I3 J3 => ((¬ v4 = (x2 - 1) → Jd G mX12_bestIn (jdFm G (qi Z K)) (n + 1) rc rs 8 [(0, .ref (gb G + t)), (1, .int x1), (2, .int x2), (3, .int (x3 + 1))] [] Z I3 J3) ∧ (v4 = (x2 - 1) → (vp_in x3 70 ∧ K (I3 (t + 30) (Int32.toNatClampNeg x3)) I3 J3)))))))))))) : Jd G mX12_bestIn (jdFm G (qi Z K)) (n + 1) rc rs 8 [(0, .ref (gb G + t)), (1, .int x1), (2, .int x2), (3, .int x3)] [] Z I J := by
  refine jd_iload_n (pc := 8) 3 dX12_bestIn_8 rfl rfl ?_
  refine jd_aload_n (pc := 9) 0 dX12_bestIn_9 rfl rfl ?_
  refine jd_getI (pc := 10) (ci := 11) (k := 30) gX12_257 ht.1 rfl dX12_bestIn_10 ?_
  refine jd_icmp_ge (pc := 13) 62 dX12_bestIn_13 (by decide) (fun hc => ?_) (fun hc => ?_)
  · have h := h.1 hc
    refine jd_iconst (pc := 62) (v := 0) dX12_bestIn_62 (by decide) ?_
    exact jd_iretK (pc := 63) rfl rfl dX12_bestIn_63 h
  · have h := h.2 hc
    refine jd_aload_n (pc := 16) 0 dX12_bestIn_16 rfl rfl ?_
    refine jd_getR (pc := 17) (ci := 11) (k := 29) (r := (t + 30)) gX12_61 ht.1 rfl (zModel_p29 ht) dX12_bestIn_17 ?_
    refine jd_iload_n (pc := 20) 3 dX12_bestIn_20 rfl rfl ?_
    obtain ⟨hv1, h⟩ := h
    refine jd_iald (pc := 21) (len := 70) (zModel_a29 ht) hv1 dX12_bestIn_21 ?_
    refine jd_iload_n (pc := 22) 1 dX12_bestIn_22 rfl rfl ?_
    refine jd_iconst (pc := 23) (v := (-1)) dX12_bestIn_23 (by decide) ?_
    refine jd_ixor (pc := 24) dX12_bestIn_24 ?_
    refine jd_iand (pc := 25) dX12_bestIn_25 ?_
    refine jd_if_ne (pc := 26) 56 dX12_bestIn_26 (by decide) (fun hc => ?_) (fun hc => ?_)
    · have h := h.1 hc
      refine jd_iinc (pc := 56) (v := (x3 + 1)) 3 [(3, .int (x3 + 1)), (0, .ref (gb G + t)), (1, .int x1), (2, .int x2)] dX12_bestIn_56 rfl rfl (by decide) rfl ?_
      refine jd_goto (pc := 59) 8 dX12_bestIn_59 (by decide) ?_
      exact jd_lv (lv2 := [(0, .ref (gb G + t)), (1, .int x1), (2, .int x2), (3, .int (x3 + 1))]) [1, 2, 3, 0] rfl h
    · have h := h.2 hc
      refine jd_aload_n (pc := 29) 0 dX12_bestIn_29 rfl rfl ?_
      refine jd_iload_n (pc := 30) 1 dX12_bestIn_30 rfl rfl ?_
      refine jd_aload_n (pc := 31) 0 dX12_bestIn_31 rfl rfl ?_
      refine jd_getR (pc := 32) (ci := 11) (k := 29) (r := (t + 30)) gX12_61 ht.1 rfl (zModel_p29 ht) dX12_bestIn_32 ?_
      refine jd_iload_n (pc := 35) 3 dX12_bestIn_35 rfl rfl ?_
      obtain ⟨hv2, h⟩ := h
      refine jd_iald (pc := 36) (len := 70) (zModel_a29 ht) hv2 dX12_bestIn_36 ?_
      refine jd_iconst (pc := 37) (v := (-1)) dX12_bestIn_37 (by decide) ?_
      refine jd_ixor (pc := 38) dX12_bestIn_38 ?_
      refine jd_iand (pc := 39) dX12_bestIn_39 ?_
      refine jd_callVi (pc := 40) (M2 := mX12_mostIn) (id := t) (ci := 11) (T := TX12) (N := 45) (av := [.int (x1 &&& ((I (t + 30) (Int32.toNatClampNeg x3)) ^^^ (-1)))]) kX12_mostIn sX12_mostIn rfl ht.1 lX12_278 rfl rfl (Nat.le_of_ble_eq_true rfl) dX12_bestIn_40 h ?_
      intro v4 I3 J3 h
      refine jd_iload_n (pc := 43) 2 dX12_bestIn_43 rfl rfl ?_
      refine jd_iconst (pc := 44) (v := 1) dX12_bestIn_44 (by decide) ?_
      refine jd_isub (pc := 45) dX12_bestIn_45 ?_
      refine jd_icmp_ne (pc := 46) 56 dX12_bestIn_46 (by decide) (fun hc => ?_) (fun hc => ?_)
      · have h := h.1 hc
        refine jd_iinc (pc := 56) (v := (x3 + 1)) 3 [(3, .int (x3 + 1)), (0, .ref (gb G + t)), (1, .int x1), (2, .int x2)] dX12_bestIn_56 rfl rfl (by decide) rfl ?_
        refine jd_goto (pc := 59) 8 dX12_bestIn_59 (by decide) ?_
        exact jd_lv (lv2 := [(0, .ref (gb G + t)), (1, .int x1), (2, .int x2), (3, .int (x3 + 1))]) [1, 2, 3, 0] rfl h
      · have h := h.2 hc
        refine jd_aload_n (pc := 49) 0 dX12_bestIn_49 rfl rfl ?_
        refine jd_getR (pc := 50) (ci := 11) (k := 29) (r := (t + 30)) gX12_61 ht.1 rfl (zModel_p29 ht) dX12_bestIn_50 ?_
        refine jd_iload_n (pc := 53) 3 dX12_bestIn_53 rfl rfl ?_
        obtain ⟨hv5, h⟩ := h
        refine jd_iald (pc := 54) (len := 70) (zModel_a29 ht) hv5 dX12_bestIn_54 ?_
        exact jd_iretK (pc := 55) rfl rfl dX12_bestIn_55 h
theorem eX12_bestIn {G : jdG} {n : Nat} {Z : jdL} {I : jdI} {J : jdJ} {K : Int32 → jdI → jdJ → Prop} {t : Nat} {x1 : Int32} (ht : zModel Z t) (h : Cl G mX12_mostIn n 0 0 [.ref (gb G + t), .int x1] Z I J (qi Z (fun v2 I1 J1 => Jd G mX12_bestIn (jdFm G (qi Z K)) (n + 1) 0 0 8 [(0, .ref (gb G + t)), (1, .int x1), (2, .int v2), (3, .int 0)] [] Z I1 J1))) : Cl G mX12_bestIn (n + 1) 0 0 [.ref (gb G + t), .int x1] Z I J (qi Z K) :=
  Cl.of (by decide +kernel) (Nat.le_of_ble_eq_true rfl) (rX12_bestIn_0 ht h)
set_option maxRecDepth 4000 in
theorem rX12_mostOf_0 {G : jdG} {n rc rs : Nat} {Z : jdL} {I : jdI} {J : jdJ} {K : Int32 → jdI → jdJ → Prop} {t : Nat} {x1 : Int32} {x2 : Int32} (ht : zModel Z t) (h : Cl G mX12_isSet n 0 0 [.ref (gb G + t), .int x1] Z I J (qi Z (fun v2 I1 J1 => ((¬ v2 = 0 → Cl G mX12_listAll n 0 0 [.ref (gb G + t)] Z I1 J1 (qv Z (fun I3 J3 => Cl G mX12_mostIn n 0 0 [.ref (gb G + t), .int x1] Z I3 J3 (qi Z (fun v6 I5 J5 => Cl G mX12_in n 0 0 [.long (Int32.toInt64 x2), .long 0, .long (Int32.toInt64 (v6 - 1))] Z I5 J5 (qi Z (fun v8 I7 J7 => ((¬ v8 = 0 → Jd G mX12_mostOf (jdFm G (qi Z K)) (n + 1) rc rs 48 [(0, .ref (gb G + t)), (1, .int x1), (2, .int x2), (3, .int x1), (4, .int 0)] [] Z I7 J7) ∧ (v8 = 0 → Cl G mX12_refuse n 0 0 [.ref (gb G + t), .int (-5)] Z I7 J7 (qi Z (fun v10 I9 J9 => K v10 I9 J9))))))))))) ∧ (v2 = 0 → Cl G mX12_refuse n 0 0 [.ref (gb G + t), .int (-2)] Z I1 J1 (qi Z (fun v12 I11 J11 => K v12 I11 J11))))))) : Jd G mX12_mostOf (jdFm G (qi Z K)) (n + 1) rc rs 0 [(0, .ref (gb G + t)), (1, .int x1), (2, .int x2)] [] Z I J := by
  refine jd_aload_n (pc := 0) 0 dX12_mostOf_0 rfl rfl ?_
  refine jd_iload_n (pc := 1) 1 dX12_mostOf_1 rfl rfl ?_
  refine jd_callVi (pc := 2) (M2 := mX12_isSet) (id := t) (ci := 11) (T := TX12) (N := 45) (av := [.int x1]) kX12_isSet sX12_isSet rfl ht.1 lX12_263 rfl rfl (Nat.le_of_ble_eq_true rfl) dX12_mostOf_2 h ?_
  intro v2 I1 J1 h
  refine jd_if_ne (pc := 5) 15 dX12_mostOf_5 (by decide) (fun hc => ?_) (fun hc => ?_)
  · have h := h.1 hc
    refine jd_aload_n (pc := 15) 0 dX12_mostOf_15 rfl rfl ?_
    refine jd_callVv (pc := 16) (M2 := mX12_listAll) (id := t) (ci := 11) (T := TX12) (N := 45) (av := []) kX12_listAll sX12_listAll rfl ht.1 lX12_269 rfl rfl (Nat.le_of_ble_eq_true rfl) dX12_mostOf_16 h ?_
    intro I3 J3 h
    refine jd_iload_n (pc := 19) 2 dX12_mostOf_19 rfl rfl ?_
    refine jd_i2l (pc := 20) dX12_mostOf_20 ?_
    refine jd_lconst (pc := 21) (v := 0) dX12_mostOf_21 (by decide) ?_
    refine jd_aload_n (pc := 22) 0 dX12_mostOf_22 rfl rfl ?_
    refine jd_iload_n (pc := 23) 1 dX12_mostOf_23 rfl rfl ?_
    refine jd_callVi (pc := 24) (M2 := mX12_mostIn) (id := t) (ci := 11) (T := TX12) (N := 45) (av := [.int x1]) kX12_mostIn sX12_mostIn rfl ht.1 lX12_278 rfl rfl (Nat.le_of_ble_eq_true rfl) dX12_mostOf_24 h ?_
    intro v6 I5 J5 h
    refine jd_iconst (pc := 27) (v := 1) dX12_mostOf_27 (by decide) ?_
    refine jd_isub (pc := 28) dX12_mostOf_28 ?_
    refine jd_i2l (pc := 29) dX12_mostOf_29 ?_
    refine jd_callSi (pc := 30) (M2 := mX12_in) (av := [.long (Int32.toInt64 x2), .long 0, .long (Int32.toInt64 (v6 - 1))]) kX12_in sX12_in lX12_88 rfl rfl (Nat.le_of_ble_eq_true rfl) dX12_mostOf_30 h ?_
    intro v8 I7 J7 h
    refine jd_if_ne (pc := 33) 43 dX12_mostOf_33 (by decide) (fun hc => ?_) (fun hc => ?_)
    · have h := h.1 hc
      refine jd_iload_n (pc := 43) 1 dX12_mostOf_43 rfl rfl ?_
      refine jd_istore_n (pc := 44) [(3, .int x1), (0, .ref (gb G + t)), (1, .int x1), (2, .int x2)] dX12_mostOf_44 rfl (by decide) rfl ?_
      refine jd_iconst (pc := 45) (v := 0) dX12_mostOf_45 (by decide) ?_
      refine jd_istore (pc := 46) [(4, .int 0), (3, .int x1), (0, .ref (gb G + t)), (1, .int x1), (2, .int x2)] dX12_mostOf_46 (by decide) rfl ?_
      exact jd_lv (lv2 := [(0, .ref (gb G + t)), (1, .int x1), (2, .int x2), (3, .int x1), (4, .int 0)]) [2, 3, 4, 1, 0] rfl h
    · have h := h.2 hc
      refine jd_aload_n (pc := 36) 0 dX12_mostOf_36 rfl rfl ?_
      refine jd_bipush (pc := 37) (v := (-5)) dX12_mostOf_37 (by decide) ?_
      refine jd_callVi (pc := 39) (M2 := mX12_refuse) (id := t) (ci := 11) (T := TX12) (N := 45) (av := [.int (-5)]) kX12_refuse sX12_refuse rfl ht.1 lX12_102 rfl rfl (Nat.le_of_ble_eq_true rfl) dX12_mostOf_39 h ?_
      intro v10 I9 J9 h
      exact jd_iretK (pc := 42) rfl rfl dX12_mostOf_42 h
  · have h := h.2 hc
    refine jd_aload_n (pc := 8) 0 dX12_mostOf_8 rfl rfl ?_
    refine jd_bipush (pc := 9) (v := (-2)) dX12_mostOf_9 (by decide) ?_
    refine jd_callVi (pc := 11) (M2 := mX12_refuse) (id := t) (ci := 11) (T := TX12) (N := 45) (av := [.int (-2)]) kX12_refuse sX12_refuse rfl ht.1 lX12_102 rfl rfl (Nat.le_of_ble_eq_true rfl) dX12_mostOf_11 h ?_
    intro v12 I11 J11 h
    exact jd_iretK (pc := 14) rfl rfl dX12_mostOf_14 h
set_option maxRecDepth 4000 in
theorem rX12_mostOf_48 {G : jdG} {n rc rs : Nat} {Z : jdL} {I : jdI} {J : jdJ} {K : Int32 → jdI → jdJ → Prop} {t : Nat} {x1 : Int32} {x2 : Int32} {x3 : Int32} {x4 : Int32} (ht : zModel Z t) (h : ((x2 ≤ x4 → Cl G mX12_bestIn n 0 0 [.ref (gb G + t), .int x3] Z I J (qi Z (fun v2 I1 J1 => K v2 I1 J1))) ∧ (¬ x2 ≤ x4 → Cl G mX12_bestIn n 0 0 [.ref (gb G + t), .int x3] Z I J (qi Z (fun v4 I3 J3 => Jd G mX12_mostOf (jdFm G (qi Z K)) (n + 1) rc rs 48 [(0, .ref (gb G + t)), (1, .int x1), (2, .int x2), (3, .int (x3 &&& (v4 ^^^ (-1)))), (4, .int (x4 + 1))] [] Z I3 J3))))) : Jd G mX12_mostOf (jdFm G (qi Z K)) (n + 1) rc rs 48 [(0, .ref (gb G + t)), (1, .int x1), (2, .int x2), (3, .int x3), (4, .int x4)] [] Z I J := by
  refine jd_iload (pc := 48) 4 dX12_mostOf_48 rfl ?_
  refine jd_iload_n (pc := 50) 2 dX12_mostOf_50 rfl rfl ?_
  refine jd_icmp_ge (pc := 51) 70 dX12_mostOf_51 (by decide) (fun hc => ?_) (fun hc => ?_)
  · have h := h.1 hc
    refine jd_aload_n (pc := 70) 0 dX12_mostOf_70 rfl rfl ?_
    refine jd_iload_n (pc := 71) 3 dX12_mostOf_71 rfl rfl ?_
    refine jd_callVi (pc := 72) (M2 := mX12_bestIn) (id := t) (ci := 11) (T := TX12) (N := 45) (av := [.int x3]) kX12_bestIn sX12_bestIn rfl ht.1 lX12_281 rfl rfl (Nat.le_of_ble_eq_true rfl) dX12_mostOf_72 h ?_
    intro v2 I1 J1 h
    exact jd_iretK (pc := 75) rfl rfl dX12_mostOf_75 h
  · have h := h.2 hc
    refine jd_iload_n (pc := 54) 3 dX12_mostOf_54 rfl rfl ?_
    refine jd_aload_n (pc := 55) 0 dX12_mostOf_55 rfl rfl ?_
    refine jd_iload_n (pc := 56) 3 dX12_mostOf_56 rfl rfl ?_
    refine jd_callVi (pc := 57) (M2 := mX12_bestIn) (id := t) (ci := 11) (T := TX12) (N := 45) (av := [.int x3]) kX12_bestIn sX12_bestIn rfl ht.1 lX12_281 rfl rfl (Nat.le_of_ble_eq_true rfl) dX12_mostOf_57 h ?_
    intro v4 I3 J3 h
    refine jd_iconst (pc := 60) (v := (-1)) dX12_mostOf_60 (by decide) ?_
    refine jd_ixor (pc := 61) dX12_mostOf_61 ?_
    refine jd_iand (pc := 62) dX12_mostOf_62 ?_
    refine jd_istore_n (pc := 63) [(3, .int (x3 &&& (v4 ^^^ (-1)))), (0, .ref (gb G + t)), (1, .int x1), (2, .int x2), (4, .int x4)] dX12_mostOf_63 rfl (by decide) rfl ?_
    refine jd_iinc (pc := 64) (v := (x4 + 1)) 4 [(4, .int (x4 + 1)), (3, .int (x3 &&& (v4 ^^^ (-1)))), (0, .ref (gb G + t)), (1, .int x1), (2, .int x2)] dX12_mostOf_64 rfl rfl (by decide) rfl ?_
    refine jd_goto (pc := 67) 48 dX12_mostOf_67 (by decide) ?_
    exact jd_lv (lv2 := [(0, .ref (gb G + t)), (1, .int x1), (2, .int x2), (3, .int (x3 &&& (v4 ^^^ (-1)))), (4, .int (x4 + 1))]) [2, 3, 4, 1, 0] rfl h
theorem eX12_mostOf {G : jdG} {n : Nat} {Z : jdL} {I : jdI} {J : jdJ} {K : Int32 → jdI → jdJ → Prop} {t : Nat} {x1 : Int32} {x2 : Int32} (ht : zModel Z t) (h : Cl G mX12_isSet n 0 0 [.ref (gb G + t), .int x1] Z I J (qi Z (fun v2 I1 J1 => ((¬ v2 = 0 → Cl G mX12_listAll n 0 0 [.ref (gb G + t)] Z I1 J1 (qv Z (fun I3 J3 => Cl G mX12_mostIn n 0 0 [.ref (gb G + t), .int x1] Z I3 J3 (qi Z (fun v6 I5 J5 => Cl G mX12_in n 0 0 [.long (Int32.toInt64 x2), .long 0, .long (Int32.toInt64 (v6 - 1))] Z I5 J5 (qi Z (fun v8 I7 J7 => ((¬ v8 = 0 → Jd G mX12_mostOf (jdFm G (qi Z K)) (n + 1) 0 0 48 [(0, .ref (gb G + t)), (1, .int x1), (2, .int x2), (3, .int x1), (4, .int 0)] [] Z I7 J7) ∧ (v8 = 0 → Cl G mX12_refuse n 0 0 [.ref (gb G + t), .int (-5)] Z I7 J7 (qi Z (fun v10 I9 J9 => K v10 I9 J9))))))))))) ∧ (v2 = 0 → Cl G mX12_refuse n 0 0 [.ref (gb G + t), .int (-2)] Z I1 J1 (qi Z (fun v12 I11 J11 => K v12 I11 J11))))))) : Cl G mX12_mostOf (n + 1) 0 0 [.ref (gb G + t), .int x1, .int x2] Z I J (qi Z K) :=
  Cl.of (by decide +kernel) (Nat.le_of_ble_eq_true rfl) (rX12_mostOf_0 ht h)
set_option maxRecDepth 4000 in
theorem rX12_costOf_0 {G : jdG} {n rc rs : Nat} {Z : jdL} {I : jdI} {J : jdJ} {K : Int32 → jdI → jdJ → Prop} {t : Nat} {x1 : Int32} (ht : zModel Z t) (h : Jd G mX12_costOf (jdFm G (qi Z K)) (n + 1) rc rs 4 [(0, .ref (gb G + t)), (1, .int x1), (2, .int 0), (3, .int 0)] [] Z I J) : Jd G mX12_costOf (jdFm G (qi Z K)) (n + 1) rc rs 0 [(0, .ref (gb G + t)), (1, .int x1)] [] Z I J := by
  refine jd_iconst (pc := 0) (v := 0) dX12_costOf_0 (by decide) ?_
  refine jd_istore_n (pc := 1) [(2, .int 0), (0, .ref (gb G + t)), (1, .int x1)] dX12_costOf_1 rfl (by decide) rfl ?_
  refine jd_iconst (pc := 2) (v := 0) dX12_costOf_2 (by decide) ?_
  refine jd_istore_n (pc := 3) [(3, .int 0), (2, .int 0), (0, .ref (gb G + t)), (1, .int x1)] dX12_costOf_3 rfl (by decide) rfl ?_
  exact jd_lv (lv2 := [(0, .ref (gb G + t)), (1, .int x1), (2, .int 0), (3, .int 0)]) [2, 3, 1, 0] rfl h
set_option maxRecDepth 4000 in
theorem rX12_costOf_4 {G : jdG} {n rc rs : Nat} {Z : jdL} {I : jdI} {J : jdJ} {K : Int32 → jdI → jdJ → Prop} {t : Nat} {x1 : Int32} {x2 : Int32} {x3 : Int32} (ht : zModel Z t) (h : (((I t 10) ≤ x3 → K x2 I J) ∧ (¬ (I t 10) ≤ x3 → Cl G mX12_has n 0 0 [.int x1, .int x3] Z I J (qi Z (fun v2 I1 J1 => ((v2 = 0 → Jd G mX12_costOf (jdFm G (qi Z K)) (n + 1) rc rs 4 [(0, .ref (gb G + t)), (1, .int x1), (2, .int (x2 + 0)), (3, .int (x3 + 1))] [] Z I1 J1) ∧ (¬ v2 = 0 → (vp_in x3 8 ∧ Jd G mX12_costOf (jdFm G (qi Z K)) (n + 1) rc rs 4 [(0, .ref (gb G + t)), (1, .int x1), (2, .int (x2 + (I1 (t + 19) (Int32.toNatClampNeg x3)))), (3, .int (x3 + 1))] [] Z I1 J1)))))))) : Jd G mX12_costOf (jdFm G (qi Z K)) (n + 1) rc rs 4 [(0, .ref (gb G + t)), (1, .int x1), (2, .int x2), (3, .int x3)] [] Z I J := by
  refine jd_iload_n (pc := 4) 3 dX12_costOf_4 rfl rfl ?_
  refine jd_aload_n (pc := 5) 0 dX12_costOf_5 rfl rfl ?_
  refine jd_getI (pc := 6) (ci := 11) (k := 10) gX12_85 ht.1 rfl dX12_costOf_6 ?_
  refine jd_icmp_ge (pc := 9) 39 dX12_costOf_9 (by decide) (fun hc => ?_) (fun hc => ?_)
  · have h := h.1 hc
    refine jd_iload_n (pc := 39) 2 dX12_costOf_39 rfl rfl ?_
    exact jd_iretK (pc := 40) rfl rfl dX12_costOf_40 h
  · have h := h.2 hc
    refine jd_iload_n (pc := 12) 2 dX12_costOf_12 rfl rfl ?_
    refine jd_iload_n (pc := 13) 1 dX12_costOf_13 rfl rfl ?_
    refine jd_iload_n (pc := 14) 3 dX12_costOf_14 rfl rfl ?_
    refine jd_callSi (pc := 15) (M2 := mX12_has) (av := [.int x1, .int x3]) kX12_has sX12_has lX12_151 rfl rfl (Nat.le_of_ble_eq_true rfl) dX12_costOf_15 h ?_
    intro v2 I1 J1 h
    refine jd_if_eq (pc := 18) 30 dX12_costOf_18 (by decide) (fun hc => ?_) (fun hc => ?_)
    · have h := h.1 hc
      refine jd_iconst (pc := 30) (v := 0) dX12_costOf_30 (by decide) ?_
      refine jd_iadd (pc := 31) dX12_costOf_31 ?_
      refine jd_istore_n (pc := 32) [(2, .int (x2 + 0)), (0, .ref (gb G + t)), (1, .int x1), (3, .int x3)] dX12_costOf_32 rfl (by decide) rfl ?_
      refine jd_iinc (pc := 33) (v := (x3 + 1)) 3 [(3, .int (x3 + 1)), (2, .int (x2 + 0)), (0, .ref (gb G + t)), (1, .int x1)] dX12_costOf_33 rfl rfl (by decide) rfl ?_
      refine jd_goto (pc := 36) 4 dX12_costOf_36 (by decide) ?_
      exact jd_lv (lv2 := [(0, .ref (gb G + t)), (1, .int x1), (2, .int (x2 + 0)), (3, .int (x3 + 1))]) [2, 3, 1, 0] rfl h
    · have h := h.2 hc
      refine jd_aload_n (pc := 21) 0 dX12_costOf_21 rfl rfl ?_
      refine jd_getR (pc := 22) (ci := 11) (k := 12) (r := (t + 19)) gX12_43 ht.1 rfl (zModel_p12 ht) dX12_costOf_22 ?_
      refine jd_iload_n (pc := 25) 3 dX12_costOf_25 rfl rfl ?_
      obtain ⟨hv3, h⟩ := h
      refine jd_iald (pc := 26) (len := 8) (zModel_a12 ht) hv3 dX12_costOf_26 ?_
      refine jd_goto (pc := 27) 31 dX12_costOf_27 (by decide) ?_
      refine jd_iadd (pc := 31) dX12_costOf_31 ?_
      refine jd_istore_n (pc := 32) [(2, .int (x2 + (I1 (t + 19) (Int32.toNatClampNeg x3)))), (0, .ref (gb G + t)), (1, .int x1), (3, .int x3)] dX12_costOf_32 rfl (by decide) rfl ?_
      refine jd_iinc (pc := 33) (v := (x3 + 1)) 3 [(3, .int (x3 + 1)), (2, .int (x2 + (I1 (t + 19) (Int32.toNatClampNeg x3)))), (0, .ref (gb G + t)), (1, .int x1)] dX12_costOf_33 rfl rfl (by decide) rfl ?_
      refine jd_goto (pc := 36) 4 dX12_costOf_36 (by decide) ?_
      exact jd_lv (lv2 := [(0, .ref (gb G + t)), (1, .int x1), (2, .int (x2 + (I1 (t + 19) (Int32.toNatClampNeg x3)))), (3, .int (x3 + 1))]) [2, 3, 1, 0] rfl h
theorem eX12_costOf {G : jdG} {n : Nat} {Z : jdL} {I : jdI} {J : jdJ} {K : Int32 → jdI → jdJ → Prop} {t : Nat} {x1 : Int32} (ht : zModel Z t) (h : Jd G mX12_costOf (jdFm G (qi Z K)) (n + 1) 0 0 4 [(0, .ref (gb G + t)), (1, .int x1), (2, .int 0), (3, .int 0)] [] Z I J) : Cl G mX12_costOf (n + 1) 0 0 [.ref (gb G + t), .int x1] Z I J (qi Z K) :=
  Cl.of (by decide +kernel) (Nat.le_of_ble_eq_true rfl) (rX12_costOf_0 ht h)
set_option maxRecDepth 4000 in
theorem rX12_meetsOf_0 {G : jdG} {n rc rs : Nat} {Z : jdL} {I : jdI} {J : jdJ} {K : Int32 → jdI → jdJ → Prop} {t : Nat} {x1 : Int32} (ht : zModel Z t) (h : Jd G mX12_meetsOf (jdFm G (qi Z K)) (n + 1) rc rs 4 [(0, .ref (gb G + t)), (1, .int x1), (2, .int 0), (3, .int 0)] [] Z I J) : Jd G mX12_meetsOf (jdFm G (qi Z K)) (n + 1) rc rs 0 [(0, .ref (gb G + t)), (1, .int x1)] [] Z I J := by
  refine jd_iconst (pc := 0) (v := 0) dX12_meetsOf_0 (by decide) ?_
  refine jd_istore_n (pc := 1) [(2, .int 0), (0, .ref (gb G + t)), (1, .int x1)] dX12_meetsOf_1 rfl (by decide) rfl ?_
  refine jd_iconst (pc := 2) (v := 0) dX12_meetsOf_2 (by decide) ?_
  refine jd_istore_n (pc := 3) [(3, .int 0), (2, .int 0), (0, .ref (gb G + t)), (1, .int x1)] dX12_meetsOf_3 rfl (by decide) rfl ?_
  exact jd_lv (lv2 := [(0, .ref (gb G + t)), (1, .int x1), (2, .int 0), (3, .int 0)]) [2, 3, 1, 0] rfl h
set_option maxRecDepth 4000 in
theorem rX12_meetsOf_4 {G : jdG} {n rc rs : Nat} {Z : jdL} {I : jdI} {J : jdJ} {K : Int32 → jdI → jdJ → Prop} {t : Nat} {x1 : Int32} {x2 : Int32} {x3 : Int32} (ht : zModel Z t) (h : (((I t 10) ≤ x3 → K x2 I J) ∧ (¬ (I t 10) ≤ x3 → Cl G mX12_has n 0 0 [.int x1, .int x3] Z I J (qi Z (fun v2 I1 J1 => ((v2 = 0 → Jd G mX12_meetsOf (jdFm G (qi Z K)) (n + 1) rc rs 4 [(0, .ref (gb G + t)), (1, .int x1), (2, .int (x2 + 0)), (3, .int (x3 + 1))] [] Z I1 J1) ∧ (¬ v2 = 0 → Cl G mX12_strangersOf n 0 0 [.ref (gb G + t), .int x3] Z I1 J1 (qi Z (fun v4 I3 J3 => Cl G mX12_bits n 0 0 [.int v4] Z I3 J3 (qi Z (fun v6 I5 J5 => Jd G mX12_meetsOf (jdFm G (qi Z K)) (n + 1) rc rs 4 [(0, .ref (gb G + t)), (1, .int x1), (2, .int (x2 + v6)), (3, .int (x3 + 1))] [] Z I5 J5))))))))))) : Jd G mX12_meetsOf (jdFm G (qi Z K)) (n + 1) rc rs 4 [(0, .ref (gb G + t)), (1, .int x1), (2, .int x2), (3, .int x3)] [] Z I J := by
  refine jd_iload_n (pc := 4) 3 dX12_meetsOf_4 rfl rfl ?_
  refine jd_aload_n (pc := 5) 0 dX12_meetsOf_5 rfl rfl ?_
  refine jd_getI (pc := 6) (ci := 11) (k := 10) gX12_85 ht.1 rfl dX12_meetsOf_6 ?_
  refine jd_icmp_ge (pc := 9) 41 dX12_meetsOf_9 (by decide) (fun hc => ?_) (fun hc => ?_)
  · have h := h.1 hc
    refine jd_iload_n (pc := 41) 2 dX12_meetsOf_41 rfl rfl ?_
    exact jd_iretK (pc := 42) rfl rfl dX12_meetsOf_42 h
  · have h := h.2 hc
    refine jd_iload_n (pc := 12) 2 dX12_meetsOf_12 rfl rfl ?_
    refine jd_iload_n (pc := 13) 1 dX12_meetsOf_13 rfl rfl ?_
    refine jd_iload_n (pc := 14) 3 dX12_meetsOf_14 rfl rfl ?_
    refine jd_callSi (pc := 15) (M2 := mX12_has) (av := [.int x1, .int x3]) kX12_has sX12_has lX12_151 rfl rfl (Nat.le_of_ble_eq_true rfl) dX12_meetsOf_15 h ?_
    intro v2 I1 J1 h
    refine jd_if_eq (pc := 18) 32 dX12_meetsOf_18 (by decide) (fun hc => ?_) (fun hc => ?_)
    · have h := h.1 hc
      refine jd_iconst (pc := 32) (v := 0) dX12_meetsOf_32 (by decide) ?_
      refine jd_iadd (pc := 33) dX12_meetsOf_33 ?_
      refine jd_istore_n (pc := 34) [(2, .int (x2 + 0)), (0, .ref (gb G + t)), (1, .int x1), (3, .int x3)] dX12_meetsOf_34 rfl (by decide) rfl ?_
      refine jd_iinc (pc := 35) (v := (x3 + 1)) 3 [(3, .int (x3 + 1)), (2, .int (x2 + 0)), (0, .ref (gb G + t)), (1, .int x1)] dX12_meetsOf_35 rfl rfl (by decide) rfl ?_
      refine jd_goto (pc := 38) 4 dX12_meetsOf_38 (by decide) ?_
      exact jd_lv (lv2 := [(0, .ref (gb G + t)), (1, .int x1), (2, .int (x2 + 0)), (3, .int (x3 + 1))]) [2, 3, 1, 0] rfl h
    · have h := h.2 hc
      refine jd_aload_n (pc := 21) 0 dX12_meetsOf_21 rfl rfl ?_
      refine jd_iload_n (pc := 22) 3 dX12_meetsOf_22 rfl rfl ?_
      refine jd_callVi (pc := 23) (M2 := mX12_strangersOf) (id := t) (ci := 11) (T := TX12) (N := 45) (av := [.int x3]) kX12_strangersOf sX12_strangersOf rfl ht.1 lX12_251 rfl rfl (Nat.le_of_ble_eq_true rfl) dX12_meetsOf_23 h ?_
      intro v4 I3 J3 h
      refine jd_callSi (pc := 26) (M2 := mX12_bits) (av := [.int v4]) kX12_bits sX12_bits lX12_254 rfl rfl (Nat.le_of_ble_eq_true rfl) dX12_meetsOf_26 h ?_
      intro v6 I5 J5 h
      refine jd_goto (pc := 29) 33 dX12_meetsOf_29 (by decide) ?_
      refine jd_iadd (pc := 33) dX12_meetsOf_33 ?_
      refine jd_istore_n (pc := 34) [(2, .int (x2 + v6)), (0, .ref (gb G + t)), (1, .int x1), (3, .int x3)] dX12_meetsOf_34 rfl (by decide) rfl ?_
      refine jd_iinc (pc := 35) (v := (x3 + 1)) 3 [(3, .int (x3 + 1)), (2, .int (x2 + v6)), (0, .ref (gb G + t)), (1, .int x1)] dX12_meetsOf_35 rfl rfl (by decide) rfl ?_
      refine jd_goto (pc := 38) 4 dX12_meetsOf_38 (by decide) ?_
      exact jd_lv (lv2 := [(0, .ref (gb G + t)), (1, .int x1), (2, .int (x2 + v6)), (3, .int (x3 + 1))]) [2, 3, 1, 0] rfl h
theorem eX12_meetsOf {G : jdG} {n : Nat} {Z : jdL} {I : jdI} {J : jdJ} {K : Int32 → jdI → jdJ → Prop} {t : Nat} {x1 : Int32} (ht : zModel Z t) (h : Jd G mX12_meetsOf (jdFm G (qi Z K)) (n + 1) 0 0 4 [(0, .ref (gb G + t)), (1, .int x1), (2, .int 0), (3, .int 0)] [] Z I J) : Cl G mX12_meetsOf (n + 1) 0 0 [.ref (gb G + t), .int x1] Z I J (qi Z K) :=
  Cl.of (by decide +kernel) (Nat.le_of_ble_eq_true rfl) (rX12_meetsOf_0 ht h)
set_option maxRecDepth 4000 in
theorem rX12_sentBy_0 {G : jdG} {n rc rs : Nat} {Z : jdL} {I : jdI} {J : jdJ} {K : Int32 → jdI → jdJ → Prop} {t : Nat} {x1 : Int32} {x2 : Int32} {x3 : Int32} {x4 : Int32} (ht : zModel Z t) (h : Cl G mX12_listAll n 0 0 [.ref (gb G + t)] Z I J (qv Z (fun I1 J1 => ((¬ x1 = 3 → ((x1 = 1 → Cl G mX12_firstIn n 0 0 [.ref (gb G + t), .int x3] Z I1 J1 (qi Z (fun v4 I3 J3 => K v4 I3 J3))) ∧ (¬ x1 = 1 → ((¬ x1 = 3 → ((x1 = 2 → Jd G mX12_sentBy (jdFm G (qi Z K)) (n + 1) rc rs 62 [(0, .ref (gb G + t)), (1, .int x1), (2, .int x2), (3, .int x3), (4, .int x4), (5, .int 0), (6, .int 0)] [] Z I1 J1) ∧ (¬ x1 = 2 → ((x1 = 4 → Jd G mX12_sentBy (jdFm G (qi Z K)) (n + 1) rc rs 62 [(0, .ref (gb G + t)), (1, .int x1), (2, .int x2), (3, .int x3), (4, .int x4), (5, .int 0), (6, .int 0)] [] Z I1 J1) ∧ (¬ x1 = 4 → Cl G mX12_bestIn n 0 0 [.ref (gb G + t), .int x3] Z I1 J1 (qi Z (fun v6 I5 J5 => K v6 I5 J5))))))) ∧ (x1 = 3 → Cl G mX12_firstIn n 0 0 [.ref (gb G + t), .int x3] Z I1 J1 (qi Z (fun v8 I7 J7 => K v8 I7 J7))))))) ∧ (x1 = 3 → ((x4 ≤ 0 → ((x1 = 1 → Cl G mX12_firstIn n 0 0 [.ref (gb G + t), .int x3] Z I1 J1 (qi Z (fun v10 I9 J9 => K v10 I9 J9))) ∧ (¬ x1 = 1 → ((¬ x1 = 3 → ((x1 = 2 → Jd G mX12_sentBy (jdFm G (qi Z K)) (n + 1) rc rs 62 [(0, .ref (gb G + t)), (1, .int x1), (2, .int x2), (3, .int x3), (4, .int x4), (5, .int 0), (6, .int 0)] [] Z I1 J1) ∧ (¬ x1 = 2 → ((x1 = 4 → Jd G mX12_sentBy (jdFm G (qi Z K)) (n + 1) rc rs 62 [(0, .ref (gb G + t)), (1, .int x1), (2, .int x2), (3, .int x3), (4, .int x4), (5, .int 0), (6, .int 0)] [] Z I1 J1) ∧ (¬ x1 = 4 → Cl G mX12_bestIn n 0 0 [.ref (gb G + t), .int x3] Z I1 J1 (qi Z (fun v12 I11 J11 => K v12 I11 J11))))))) ∧ (x1 = 3 → Cl G mX12_firstIn n 0 0 [.ref (gb G + t), .int x3] Z I1 J1 (qi Z (fun v14 I13 J13 => K v14 I13 J13))))))) ∧ (¬ x4 ≤ 0 → Cl G mX12_bits n 0 0 [.int x3] Z I1 J1 (qi Z (fun v16 I15 J15 => ((x2 ≤ v16 → ((x1 = 1 → Cl G mX12_firstIn n 0 0 [.ref (gb G + t), .int x3] Z I15 J15 (qi Z (fun v18 I17 J17 => K v18 I17 J17))) ∧ (¬ x1 = 1 → ((¬ x1 = 3 → ((x1 = 2 → Jd G mX12_sentBy (jdFm G (qi Z K)) (n + 1) rc rs 62 [(0, .ref (gb G + t)), (1, .int x1), (2, .int x2), (3, .int x3), (4, .int x4), (5, .int 0), (6, .int 0)] [] Z I15 J15) ∧ (¬ x1 = 2 → ((x1 = 4 → Jd G mX12_sentBy (jdFm G (qi Z K)) (n + 1) rc rs 62 [(0, .ref (gb G + t)), (1, .int x1), (2, .int x2), (3, .int x3), (4, .int x4), (5, .int 0), (6, .int 0)] [] Z I15 J15) ∧ (¬ x1 = 4 → Cl G mX12_bestIn n 0 0 [.ref (gb G + t), .int x3] Z I15 J15 (qi Z (fun v20 I19 J19 => K v20 I19 J19))))))) ∧ (x1 = 3 → Cl G mX12_firstIn n 0 0 [.ref (gb G + t), .int x3] Z I15 J15 (qi Z (fun v22 I21 J21 => K v22 I21 J21))))))) ∧ (¬ x2 ≤ v16 → K 0 I15 J15))))))))))) : Jd G mX12_sentBy (jdFm G (qi Z K)) (n + 1) rc rs 0 [(0, .ref (gb G + t)), (1, .int x1), (2, .int x2), (3, .int x3), (4, .int x4)] [] Z I J := by
  refine jd_aload_n (pc := 0) 0 dX12_sentBy_0 rfl rfl ?_
  refine jd_callVv (pc := 1) (M2 := mX12_listAll) (id := t) (ci := 11) (T := TX12) (N := 45) (av := []) kX12_listAll sX12_listAll rfl ht.1 lX12_269 rfl rfl (Nat.le_of_ble_eq_true rfl) dX12_sentBy_1 h ?_
  intro I1 J1 h
  refine jd_iload_n (pc := 4) 1 dX12_sentBy_4 rfl rfl ?_
  refine jd_iconst (pc := 5) (v := 3) dX12_sentBy_5 (by decide) ?_
  refine jd_icmp_ne (pc := 6) 24 dX12_sentBy_6 (by decide) (fun hc => ?_) (fun hc => ?_)
  · have h := h.1 hc
    refine jd_iload_n (pc := 24) 1 dX12_sentBy_24 rfl rfl ?_
    refine jd_iconst (pc := 25) (v := 1) dX12_sentBy_25 (by decide) ?_
    refine jd_icmp_eq (pc := 26) 34 dX12_sentBy_26 (by decide) (fun hc => ?_) (fun hc => ?_)
    · have h := h.1 hc
      refine jd_aload_n (pc := 34) 0 dX12_sentBy_34 rfl rfl ?_
      refine jd_iload_n (pc := 35) 3 dX12_sentBy_35 rfl rfl ?_
      refine jd_callVi (pc := 36) (M2 := mX12_firstIn) (id := t) (ci := 11) (T := TX12) (N := 45) (av := [.int x3]) kX12_firstIn sX12_firstIn rfl ht.1 lX12_275 rfl rfl (Nat.le_of_ble_eq_true rfl) dX12_sentBy_36 h ?_
      intro v4 I3 J3 h
      exact jd_iretK (pc := 39) rfl rfl dX12_sentBy_39 h
    · have h := h.2 hc
      refine jd_iload_n (pc := 29) 1 dX12_sentBy_29 rfl rfl ?_
      refine jd_iconst (pc := 30) (v := 3) dX12_sentBy_30 (by decide) ?_
      refine jd_icmp_ne (pc := 31) 40 dX12_sentBy_31 (by decide) (fun hc => ?_) (fun hc => ?_)
      · have h := h.1 hc
        refine jd_iload_n (pc := 40) 1 dX12_sentBy_40 rfl rfl ?_
        refine jd_iconst (pc := 41) (v := 2) dX12_sentBy_41 (by decide) ?_
        refine jd_icmp_eq (pc := 42) 56 dX12_sentBy_42 (by decide) (fun hc => ?_) (fun hc => ?_)
        · have h := h.1 hc
          refine jd_iconst (pc := 56) (v := 0) dX12_sentBy_56 (by decide) ?_
          refine jd_istore (pc := 57) [(5, .int 0), (0, .ref (gb G + t)), (1, .int x1), (2, .int x2), (3, .int x3), (4, .int x4)] dX12_sentBy_57 (by decide) rfl ?_
          refine jd_iconst (pc := 59) (v := 0) dX12_sentBy_59 (by decide) ?_
          refine jd_istore (pc := 60) [(6, .int 0), (5, .int 0), (0, .ref (gb G + t)), (1, .int x1), (2, .int x2), (3, .int x3), (4, .int x4)] dX12_sentBy_60 (by decide) rfl ?_
          exact jd_lv (lv2 := [(0, .ref (gb G + t)), (1, .int x1), (2, .int x2), (3, .int x3), (4, .int x4), (5, .int 0), (6, .int 0)]) [2, 3, 4, 5, 6, 1, 0] rfl h
        · have h := h.2 hc
          refine jd_iload_n (pc := 45) 1 dX12_sentBy_45 rfl rfl ?_
          refine jd_iconst (pc := 46) (v := 4) dX12_sentBy_46 (by decide) ?_
          refine jd_icmp_eq (pc := 47) 56 dX12_sentBy_47 (by decide) (fun hc => ?_) (fun hc => ?_)
          · have h := h.1 hc
            refine jd_iconst (pc := 56) (v := 0) dX12_sentBy_56 (by decide) ?_
            refine jd_istore (pc := 57) [(5, .int 0), (0, .ref (gb G + t)), (1, .int x1), (2, .int x2), (3, .int x3), (4, .int x4)] dX12_sentBy_57 (by decide) rfl ?_
            refine jd_iconst (pc := 59) (v := 0) dX12_sentBy_59 (by decide) ?_
            refine jd_istore (pc := 60) [(6, .int 0), (5, .int 0), (0, .ref (gb G + t)), (1, .int x1), (2, .int x2), (3, .int x3), (4, .int x4)] dX12_sentBy_60 (by decide) rfl ?_
            exact jd_lv (lv2 := [(0, .ref (gb G + t)), (1, .int x1), (2, .int x2), (3, .int x3), (4, .int x4), (5, .int 0), (6, .int 0)]) [2, 3, 4, 5, 6, 1, 0] rfl h
          · have h := h.2 hc
            refine jd_aload_n (pc := 50) 0 dX12_sentBy_50 rfl rfl ?_
            refine jd_iload_n (pc := 51) 3 dX12_sentBy_51 rfl rfl ?_
            refine jd_callVi (pc := 52) (M2 := mX12_bestIn) (id := t) (ci := 11) (T := TX12) (N := 45) (av := [.int x3]) kX12_bestIn sX12_bestIn rfl ht.1 lX12_281 rfl rfl (Nat.le_of_ble_eq_true rfl) dX12_sentBy_52 h ?_
            intro v6 I5 J5 h
            exact jd_iretK (pc := 55) rfl rfl dX12_sentBy_55 h
      · have h := h.2 hc
        refine jd_aload_n (pc := 34) 0 dX12_sentBy_34 rfl rfl ?_
        refine jd_iload_n (pc := 35) 3 dX12_sentBy_35 rfl rfl ?_
        refine jd_callVi (pc := 36) (M2 := mX12_firstIn) (id := t) (ci := 11) (T := TX12) (N := 45) (av := [.int x3]) kX12_firstIn sX12_firstIn rfl ht.1 lX12_275 rfl rfl (Nat.le_of_ble_eq_true rfl) dX12_sentBy_36 h ?_
        intro v8 I7 J7 h
        exact jd_iretK (pc := 39) rfl rfl dX12_sentBy_39 h
  · have h := h.2 hc
    refine jd_iload (pc := 9) 4 dX12_sentBy_9 rfl ?_
    refine jd_if_le (pc := 11) 24 dX12_sentBy_11 (by decide) (fun hc => ?_) (fun hc => ?_)
    · have h := h.1 hc
      refine jd_iload_n (pc := 24) 1 dX12_sentBy_24 rfl rfl ?_
      refine jd_iconst (pc := 25) (v := 1) dX12_sentBy_25 (by decide) ?_
      refine jd_icmp_eq (pc := 26) 34 dX12_sentBy_26 (by decide) (fun hc => ?_) (fun hc => ?_)
      · have h := h.1 hc
        refine jd_aload_n (pc := 34) 0 dX12_sentBy_34 rfl rfl ?_
        refine jd_iload_n (pc := 35) 3 dX12_sentBy_35 rfl rfl ?_
        refine jd_callVi (pc := 36) (M2 := mX12_firstIn) (id := t) (ci := 11) (T := TX12) (N := 45) (av := [.int x3]) kX12_firstIn sX12_firstIn rfl ht.1 lX12_275 rfl rfl (Nat.le_of_ble_eq_true rfl) dX12_sentBy_36 h ?_
        intro v10 I9 J9 h
        exact jd_iretK (pc := 39) rfl rfl dX12_sentBy_39 h
      · have h := h.2 hc
        refine jd_iload_n (pc := 29) 1 dX12_sentBy_29 rfl rfl ?_
        refine jd_iconst (pc := 30) (v := 3) dX12_sentBy_30 (by decide) ?_
        refine jd_icmp_ne (pc := 31) 40 dX12_sentBy_31 (by decide) (fun hc => ?_) (fun hc => ?_)
        · have h := h.1 hc
          refine jd_iload_n (pc := 40) 1 dX12_sentBy_40 rfl rfl ?_
          refine jd_iconst (pc := 41) (v := 2) dX12_sentBy_41 (by decide) ?_
          refine jd_icmp_eq (pc := 42) 56 dX12_sentBy_42 (by decide) (fun hc => ?_) (fun hc => ?_)
          · have h := h.1 hc
            refine jd_iconst (pc := 56) (v := 0) dX12_sentBy_56 (by decide) ?_
            refine jd_istore (pc := 57) [(5, .int 0), (0, .ref (gb G + t)), (1, .int x1), (2, .int x2), (3, .int x3), (4, .int x4)] dX12_sentBy_57 (by decide) rfl ?_
            refine jd_iconst (pc := 59) (v := 0) dX12_sentBy_59 (by decide) ?_
            refine jd_istore (pc := 60) [(6, .int 0), (5, .int 0), (0, .ref (gb G + t)), (1, .int x1), (2, .int x2), (3, .int x3), (4, .int x4)] dX12_sentBy_60 (by decide) rfl ?_
            exact jd_lv (lv2 := [(0, .ref (gb G + t)), (1, .int x1), (2, .int x2), (3, .int x3), (4, .int x4), (5, .int 0), (6, .int 0)]) [2, 3, 4, 5, 6, 1, 0] rfl h
          · have h := h.2 hc
            refine jd_iload_n (pc := 45) 1 dX12_sentBy_45 rfl rfl ?_
            refine jd_iconst (pc := 46) (v := 4) dX12_sentBy_46 (by decide) ?_
            refine jd_icmp_eq (pc := 47) 56 dX12_sentBy_47 (by decide) (fun hc => ?_) (fun hc => ?_)
            · have h := h.1 hc
              refine jd_iconst (pc := 56) (v := 0) dX12_sentBy_56 (by decide) ?_
              refine jd_istore (pc := 57) [(5, .int 0), (0, .ref (gb G + t)), (1, .int x1), (2, .int x2), (3, .int x3), (4, .int x4)] dX12_sentBy_57 (by decide) rfl ?_
              refine jd_iconst (pc := 59) (v := 0) dX12_sentBy_59 (by decide) ?_
              refine jd_istore (pc := 60) [(6, .int 0), (5, .int 0), (0, .ref (gb G + t)), (1, .int x1), (2, .int x2), (3, .int x3), (4, .int x4)] dX12_sentBy_60 (by decide) rfl ?_
              exact jd_lv (lv2 := [(0, .ref (gb G + t)), (1, .int x1), (2, .int x2), (3, .int x3), (4, .int x4), (5, .int 0), (6, .int 0)]) [2, 3, 4, 5, 6, 1, 0] rfl h
            · have h := h.2 hc
              refine jd_aload_n (pc := 50) 0 dX12_sentBy_50 rfl rfl ?_
              refine jd_iload_n (pc := 51) 3 dX12_sentBy_51 rfl rfl ?_
              refine jd_callVi (pc := 52) (M2 := mX12_bestIn) (id := t) (ci := 11) (T := TX12) (N := 45) (av := [.int x3]) kX12_bestIn sX12_bestIn rfl ht.1 lX12_281 rfl rfl (Nat.le_of_ble_eq_true rfl) dX12_sentBy_52 h ?_
              intro v12 I11 J11 h
              exact jd_iretK (pc := 55) rfl rfl dX12_sentBy_55 h
        · have h := h.2 hc
          refine jd_aload_n (pc := 34) 0 dX12_sentBy_34 rfl rfl ?_
          refine jd_iload_n (pc := 35) 3 dX12_sentBy_35 rfl rfl ?_
          refine jd_callVi (pc := 36) (M2 := mX12_firstIn) (id := t) (ci := 11) (T := TX12) (N := 45) (av := [.int x3]) kX12_firstIn sX12_firstIn rfl ht.1 lX12_275 rfl rfl (Nat.le_of_ble_eq_true rfl) dX12_sentBy_36 h ?_
          intro v14 I13 J13 h
          exact jd_iretK (pc := 39) rfl rfl dX12_sentBy_39 h
    · have h := h.2 hc
      refine jd_iload_n (pc := 14) 3 dX12_sentBy_14 rfl rfl ?_
      refine jd_callSi (pc := 15) (M2 := mX12_bits) (av := [.int x3]) kX12_bits sX12_bits lX12_254 rfl rfl (Nat.le_of_ble_eq_true rfl) dX12_sentBy_15 h ?_
      intro v16 I15 J15 h
      refine jd_iload_n (pc := 18) 2 dX12_sentBy_18 rfl rfl ?_
      refine jd_icmp_ge (pc := 19) 24 dX12_sentBy_19 (by decide) (fun hc => ?_) (fun hc => ?_)
      · have h := h.1 hc
        refine jd_iload_n (pc := 24) 1 dX12_sentBy_24 rfl rfl ?_
        refine jd_iconst (pc := 25) (v := 1) dX12_sentBy_25 (by decide) ?_
        refine jd_icmp_eq (pc := 26) 34 dX12_sentBy_26 (by decide) (fun hc => ?_) (fun hc => ?_)
        · have h := h.1 hc
          refine jd_aload_n (pc := 34) 0 dX12_sentBy_34 rfl rfl ?_
          refine jd_iload_n (pc := 35) 3 dX12_sentBy_35 rfl rfl ?_
          refine jd_callVi (pc := 36) (M2 := mX12_firstIn) (id := t) (ci := 11) (T := TX12) (N := 45) (av := [.int x3]) kX12_firstIn sX12_firstIn rfl ht.1 lX12_275 rfl rfl (Nat.le_of_ble_eq_true rfl) dX12_sentBy_36 h ?_
          intro v18 I17 J17 h
          exact jd_iretK (pc := 39) rfl rfl dX12_sentBy_39 h
        · have h := h.2 hc
          refine jd_iload_n (pc := 29) 1 dX12_sentBy_29 rfl rfl ?_
          refine jd_iconst (pc := 30) (v := 3) dX12_sentBy_30 (by decide) ?_
          refine jd_icmp_ne (pc := 31) 40 dX12_sentBy_31 (by decide) (fun hc => ?_) (fun hc => ?_)
          · have h := h.1 hc
            refine jd_iload_n (pc := 40) 1 dX12_sentBy_40 rfl rfl ?_
            refine jd_iconst (pc := 41) (v := 2) dX12_sentBy_41 (by decide) ?_
            refine jd_icmp_eq (pc := 42) 56 dX12_sentBy_42 (by decide) (fun hc => ?_) (fun hc => ?_)
            · have h := h.1 hc
              refine jd_iconst (pc := 56) (v := 0) dX12_sentBy_56 (by decide) ?_
              refine jd_istore (pc := 57) [(5, .int 0), (0, .ref (gb G + t)), (1, .int x1), (2, .int x2), (3, .int x3), (4, .int x4)] dX12_sentBy_57 (by decide) rfl ?_
              refine jd_iconst (pc := 59) (v := 0) dX12_sentBy_59 (by decide) ?_
              refine jd_istore (pc := 60) [(6, .int 0), (5, .int 0), (0, .ref (gb G + t)), (1, .int x1), (2, .int x2), (3, .int x3), (4, .int x4)] dX12_sentBy_60 (by decide) rfl ?_
              exact jd_lv (lv2 := [(0, .ref (gb G + t)), (1, .int x1), (2, .int x2), (3, .int x3), (4, .int x4), (5, .int 0), (6, .int 0)]) [2, 3, 4, 5, 6, 1, 0] rfl h
            · have h := h.2 hc
              refine jd_iload_n (pc := 45) 1 dX12_sentBy_45 rfl rfl ?_
              refine jd_iconst (pc := 46) (v := 4) dX12_sentBy_46 (by decide) ?_
              refine jd_icmp_eq (pc := 47) 56 dX12_sentBy_47 (by decide) (fun hc => ?_) (fun hc => ?_)
              · have h := h.1 hc
                refine jd_iconst (pc := 56) (v := 0) dX12_sentBy_56 (by decide) ?_
                refine jd_istore (pc := 57) [(5, .int 0), (0, .ref (gb G + t)), (1, .int x1), (2, .int x2), (3, .int x3), (4, .int x4)] dX12_sentBy_57 (by decide) rfl ?_
                refine jd_iconst (pc := 59) (v := 0) dX12_sentBy_59 (by decide) ?_
                refine jd_istore (pc := 60) [(6, .int 0), (5, .int 0), (0, .ref (gb G + t)), (1, .int x1), (2, .int x2), (3, .int x3), (4, .int x4)] dX12_sentBy_60 (by decide) rfl ?_
                exact jd_lv (lv2 := [(0, .ref (gb G + t)), (1, .int x1), (2, .int x2), (3, .int x3), (4, .int x4), (5, .int 0), (6, .int 0)]) [2, 3, 4, 5, 6, 1, 0] rfl h
              · have h := h.2 hc
                refine jd_aload_n (pc := 50) 0 dX12_sentBy_50 rfl rfl ?_
                refine jd_iload_n (pc := 51) 3 dX12_sentBy_51 rfl rfl ?_
                refine jd_callVi (pc := 52) (M2 := mX12_bestIn) (id := t) (ci := 11) (T := TX12) (N := 45) (av := [.int x3]) kX12_bestIn sX12_bestIn rfl ht.1 lX12_281 rfl rfl (Nat.le_of_ble_eq_true rfl) dX12_sentBy_52 h ?_
                intro v20 I19 J19 h
                exact jd_iretK (pc := 55) rfl rfl dX12_sentBy_55 h
          · have h := h.2 hc
            refine jd_aload_n (pc := 34) 0 dX12_sentBy_34 rfl rfl ?_
            refine jd_iload_n (pc := 35) 3 dX12_sentBy_35 rfl rfl ?_
            refine jd_callVi (pc := 36) (M2 := mX12_firstIn) (id := t) (ci := 11) (T := TX12) (N := 45) (av := [.int x3]) kX12_firstIn sX12_firstIn rfl ht.1 lX12_275 rfl rfl (Nat.le_of_ble_eq_true rfl) dX12_sentBy_36 h ?_
            intro v22 I21 J21 h
            exact jd_iretK (pc := 39) rfl rfl dX12_sentBy_39 h
      · have h := h.2 hc
        refine jd_iconst (pc := 22) (v := 0) dX12_sentBy_22 (by decide) ?_
        exact jd_iretK (pc := 23) rfl rfl dX12_sentBy_23 h
set_option maxRecDepth 4000 in
theorem rX12_sentBy_62 {G : jdG} {n rc rs : Nat} {Z : jdL} {I : jdI} {J : jdJ} {K : Int32 → jdI → jdJ → Prop} {t : Nat} {x1 : Int32} {x2 : Int32} {x3 : Int32} {x4 : Int32} {x5 : Int32} {x6 : Int32} (ht : zModel Z t) (h : (((I t 30) ≤ x6 → K x5 I J) ∧ (¬ (I t 30) ≤ x6 → (vp_in x6 70 ∧ ((¬ ((I (t + 30) (Int32.toNatClampNeg x6)) &&& (x3 ^^^ (-1))) = 0 → Jd G mX12_sentBy (jdFm G (qi Z K)) (n + 1) rc rs 62 [(0, .ref (gb G + t)), (1, .int x1), (2, .int x2), (3, .int x3), (4, .int x4), (5, .int x5), (6, .int (x6 + 1))] [] Z I J) ∧ (((I (t + 30) (Int32.toNatClampNeg x6)) &&& (x3 ^^^ (-1))) = 0 → ((¬ x1 = 2 → (vp_in x6 70 ∧ Cl G mX12_meetsOf n 0 0 [.ref (gb G + t), .int (I (t + 30) (Int32.toNatClampNeg x6))] Z I J (qi Z (fun v4 I3 J3 => Cl G mX12_meetsOf n 0 0 [.ref (gb G + t), .int x5] Z I3 J3 (qi Z (fun v6 I5 J5 => ((v6 ≤ v4 → ((x5 = 0 → (vp_in x6 70 ∧ Jd G mX12_sentBy (jdFm G (qi Z K)) (n + 1) rc rs 62 [(0, .ref (gb G + t)), (1, .int x1), (2, .int x2), (3, .int x3), (4, .int x4), (5, .int (I5 (t + 30) (Int32.toNatClampNeg x6))), (6, .int (x6 + 1))] [] Z I5 J5)) ∧ (¬ x5 = 0 → Jd G mX12_sentBy (jdFm G (qi Z K)) (n + 1) rc rs 62 [(0, .ref (gb G + t)), (1, .int x1), (2, .int x2), (3, .int x3), (4, .int x4), (5, .int x5), (6, .int (x6 + 1))] [] Z I5 J5))) ∧ (¬ v6 ≤ v4 → ((x5 = 0 → (vp_in x6 70 ∧ Jd G mX12_sentBy (jdFm G (qi Z K)) (n + 1) rc rs 62 [(0, .ref (gb G + t)), (1, .int x1), (2, .int x2), (3, .int x3), (4, .int x4), (5, .int (I5 (t + 30) (Int32.toNatClampNeg x6))), (6, .int (x6 + 1))] [] Z I5 J5)) ∧ (¬ x5 = 0 → (vp_in x6 70 ∧ Jd G mX12_sentBy (jdFm G (qi Z K)) (n + 1) rc rs 62 [(0, .ref (gb G + t)), (1, .int x1), (2, .int x2), (3, .int x3), (4, .int x4), (5, .int (I5 (t + 30) (Int32.toNatClampNeg x6))), (6, .int (x6 + 1))] [] Z I5 J5))))))))))) ∧ (x1 = 2 → (vp_in x6 70 ∧ Cl G mX12_costOf n 0 0 [.ref (gb G + t), .int (I (t + 30) (Int32.toNatClampNeg x6))] Z I J (qi Z (fun v12 I11 J11 => Cl G mX12_costOf n 0 0 [.ref (gb G + t), .int x5] Z I11 J11 (qi Z (fun v14 I13 J13 => ((v12 ≤ v14 → ((x5 = 0 → (vp_in x6 70 ∧ Jd G mX12_sentBy (jdFm G (qi Z K)) (n + 1) rc rs 62 [(0, .ref (gb G + t)), (1, .int x1), (2, .int x2), (3, .int x3), (4, .int x4), (5, .int (I13 (t + 30) (Int32.toNatClampNeg x6))), (6, .int (x6 + 1))] [] Z I13 J13)) ∧ (¬ x5 = 0 → Jd G mX12_sentBy (jdFm G (qi Z K)) (n + 1) rc rs 62 [(0, .ref (gb G + t)), (1, .int x1), (2, .int x2), (3, .int x3), (4, .int x4), (5, .int x5), (6, .int (x6 + 1))] [] Z I13 J13))) ∧ (¬ v12 ≤ v14 → ((x5 = 0 → (vp_in x6 70 ∧ Jd G mX12_sentBy (jdFm G (qi Z K)) (n + 1) rc rs 62 [(0, .ref (gb G + t)), (1, .int x1), (2, .int x2), (3, .int x3), (4, .int x4), (5, .int (I13 (t + 30) (Int32.toNatClampNeg x6))), (6, .int (x6 + 1))] [] Z I13 J13)) ∧ (¬ x5 = 0 → (vp_in x6 70 ∧ Jd G mX12_sentBy (jdFm G (qi Z K)) (n + 1) rc rs 62 [(0, .ref (gb G + t)), (1, .int x1), (2, .int x2), (3, .int x3), (4, .int x4), (5, .int (I13 (t + 30) (Int32.toNatClampNeg x6))), (6, .int (x6 + 1))] [] Z I13 J13)))))))))))))))))) : Jd G mX12_sentBy (jdFm G (qi Z K)) (n + 1) rc rs 62 [(0, .ref (gb G + t)), (1, .int x1), (2, .int x2), (3, .int x3), (4, .int x4), (5, .int x5), (6, .int x6)] [] Z I J := by
  refine jd_iload (pc := 62) 6 dX12_sentBy_62 rfl ?_
  refine jd_aload_n (pc := 64) 0 dX12_sentBy_64 rfl rfl ?_
  refine jd_getI (pc := 65) (ci := 11) (k := 30) gX12_257 ht.1 rfl dX12_sentBy_65 ?_
  refine jd_icmp_ge (pc := 68) 175 dX12_sentBy_68 (by decide) (fun hc => ?_) (fun hc => ?_)
  · have h := h.1 hc
    refine jd_iload (pc := 175) 5 dX12_sentBy_175 rfl ?_
    exact jd_iretK (pc := 177) rfl rfl dX12_sentBy_177 h
  · have h := h.2 hc
    refine jd_aload_n (pc := 71) 0 dX12_sentBy_71 rfl rfl ?_
    refine jd_getR (pc := 72) (ci := 11) (k := 29) (r := (t + 30)) gX12_61 ht.1 rfl (zModel_p29 ht) dX12_sentBy_72 ?_
    refine jd_iload (pc := 75) 6 dX12_sentBy_75 rfl ?_
    obtain ⟨hv1, h⟩ := h
    refine jd_iald (pc := 77) (len := 70) (zModel_a29 ht) hv1 dX12_sentBy_77 ?_
    refine jd_iload_n (pc := 78) 3 dX12_sentBy_78 rfl rfl ?_
    refine jd_iconst (pc := 79) (v := (-1)) dX12_sentBy_79 (by decide) ?_
    refine jd_ixor (pc := 80) dX12_sentBy_80 ?_
    refine jd_iand (pc := 81) dX12_sentBy_81 ?_
    refine jd_if_ne (pc := 82) 169 dX12_sentBy_82 (by decide) (fun hc => ?_) (fun hc => ?_)
    · have h := h.1 hc
      refine jd_iinc (pc := 169) (v := (x6 + 1)) 6 [(6, .int (x6 + 1)), (0, .ref (gb G + t)), (1, .int x1), (2, .int x2), (3, .int x3), (4, .int x4), (5, .int x5)] dX12_sentBy_169 rfl rfl (by decide) rfl ?_
      refine jd_goto (pc := 172) 62 dX12_sentBy_172 (by decide) ?_
      exact jd_lv (lv2 := [(0, .ref (gb G + t)), (1, .int x1), (2, .int x2), (3, .int x3), (4, .int x4), (5, .int x5), (6, .int (x6 + 1))]) [1, 2, 3, 4, 5, 6, 0] rfl h
    · have h := h.2 hc
      refine jd_iload_n (pc := 85) 1 dX12_sentBy_85 rfl rfl ?_
      refine jd_iconst (pc := 86) (v := 2) dX12_sentBy_86 (by decide) ?_
      refine jd_icmp_ne (pc := 87) 118 dX12_sentBy_87 (by decide) (fun hc => ?_) (fun hc => ?_)
      · have h := h.1 hc
        refine jd_aload_n (pc := 118) 0 dX12_sentBy_118 rfl rfl ?_
        refine jd_aload_n (pc := 119) 0 dX12_sentBy_119 rfl rfl ?_
        refine jd_getR (pc := 120) (ci := 11) (k := 29) (r := (t + 30)) gX12_61 ht.1 rfl (zModel_p29 ht) dX12_sentBy_120 ?_
        refine jd_iload (pc := 123) 6 dX12_sentBy_123 rfl ?_
        obtain ⟨hv2, h⟩ := h
        refine jd_iald (pc := 125) (len := 70) (zModel_a29 ht) hv2 dX12_sentBy_125 ?_
        refine jd_callVi (pc := 126) (M2 := mX12_meetsOf) (id := t) (ci := 11) (T := TX12) (N := 45) (av := [.int (I (t + 30) (Int32.toNatClampNeg x6))]) kX12_meetsOf sX12_meetsOf rfl ht.1 lX12_287 rfl rfl (Nat.le_of_ble_eq_true rfl) dX12_sentBy_126 h ?_
        intro v4 I3 J3 h
        refine jd_aload_n (pc := 129) 0 dX12_sentBy_129 rfl rfl ?_
        refine jd_iload (pc := 130) 5 dX12_sentBy_130 rfl ?_
        refine jd_callVi (pc := 132) (M2 := mX12_meetsOf) (id := t) (ci := 11) (T := TX12) (N := 45) (av := [.int x5]) kX12_meetsOf sX12_meetsOf rfl ht.1 lX12_287 rfl rfl (Nat.le_of_ble_eq_true rfl) dX12_sentBy_132 h ?_
        intro v6 I5 J5 h
        refine jd_icmp_ge (pc := 135) 142 dX12_sentBy_135 (by decide) (fun hc => ?_) (fun hc => ?_)
        · have h := h.1 hc
          refine jd_iconst (pc := 142) (v := 0) dX12_sentBy_142 (by decide) ?_
          refine jd_istore (pc := 143) [(7, .int 0), (0, .ref (gb G + t)), (1, .int x1), (2, .int x2), (3, .int x3), (4, .int x4), (5, .int x5), (6, .int x6)] dX12_sentBy_143 (by decide) rfl ?_
          refine jd_iload (pc := 145) 6 dX12_sentBy_145 rfl ?_
          refine jd_if_eq (pc := 147) 155 dX12_sentBy_147 (by decide) (fun hc => ?_) (fun hc => ?_)
          · have h := h.1 hc
            refine jd_aload_n (pc := 155) 1 dX12_sentBy_155 rfl rfl ?_
            refine jd_getR (pc := 156) (ci := 11) (k := 29) (r := (t + 30)) gX12_61 ht.1 rfl (zModel_p29 ht) dX12_sentBy_156 ?_
            refine jd_iload (pc := 159) 7 dX12_sentBy_159 rfl ?_
            obtain ⟨hv7, h⟩ := h
            refine jd_iald (pc := 161) (len := 70) (zModel_a29 ht) hv7 dX12_sentBy_161 ?_
            refine jd_goto (pc := 162) 167 dX12_sentBy_162 (by decide) ?_
            refine jd_istore (pc := 167) [(5, .int (I5 (t + 30) (Int32.toNatClampNeg x6))), (7, .int 0), (0, .ref (gb G + t)), (1, .int x1), (2, .int x2), (3, .int x3), (4, .int x4), (6, .int x6)] dX12_sentBy_167 (by decide) rfl ?_
            refine jd_iinc (pc := 169) (v := (x6 + 1)) 7 [(6, .int (x6 + 1)), (5, .int (I5 (t + 30) (Int32.toNatClampNeg x6))), (7, .int 0), (0, .ref (gb G + t)), (1, .int x1), (2, .int x2), (3, .int x3), (4, .int x4)] dX12_sentBy_169 rfl rfl (by decide) rfl ?_
            refine jd_goto (pc := 172) 62 dX12_sentBy_172 (by decide) ?_
            exact jd_lv (lv2 := [(0, .ref (gb G + t)), (1, .int x1), (2, .int x2), (3, .int x3), (4, .int x4), (5, .int (I5 (t + 30) (Int32.toNatClampNeg x6))), (6, .int (x6 + 1))]) [3, 4, 5, 6, 7, 1, 0] rfl h
          · have h := h.2 hc
            refine jd_iload (pc := 150) 0 dX12_sentBy_150 rfl ?_
            refine jd_if_eq (pc := 152) 165 dX12_sentBy_152 (by decide) (fun _ => ?_) (fun hc => absurd (show (0 : Int32) = 0 by decide) hc)
            refine jd_iload (pc := 165) 6 dX12_sentBy_165 rfl ?_
            refine jd_istore (pc := 167) [(5, .int x5), (7, .int 0), (0, .ref (gb G + t)), (1, .int x1), (2, .int x2), (3, .int x3), (4, .int x4), (6, .int x6)] dX12_sentBy_167 (by decide) rfl ?_
            refine jd_iinc (pc := 169) (v := (x6 + 1)) 7 [(6, .int (x6 + 1)), (5, .int x5), (7, .int 0), (0, .ref (gb G + t)), (1, .int x1), (2, .int x2), (3, .int x3), (4, .int x4)] dX12_sentBy_169 rfl rfl (by decide) rfl ?_
            refine jd_goto (pc := 172) 62 dX12_sentBy_172 (by decide) ?_
            exact jd_lv (lv2 := [(0, .ref (gb G + t)), (1, .int x1), (2, .int x2), (3, .int x3), (4, .int x4), (5, .int x5), (6, .int (x6 + 1))]) [3, 4, 5, 6, 7, 1, 0] rfl h
        · have h := h.2 hc
          refine jd_iconst (pc := 138) (v := 1) dX12_sentBy_138 (by decide) ?_
          refine jd_goto (pc := 139) 143 dX12_sentBy_139 (by decide) ?_
          refine jd_istore (pc := 143) [(7, .int 1), (0, .ref (gb G + t)), (1, .int x1), (2, .int x2), (3, .int x3), (4, .int x4), (5, .int x5), (6, .int x6)] dX12_sentBy_143 (by decide) rfl ?_
          refine jd_iload (pc := 145) 6 dX12_sentBy_145 rfl ?_
          refine jd_if_eq (pc := 147) 155 dX12_sentBy_147 (by decide) (fun hc => ?_) (fun hc => ?_)
          · have h := h.1 hc
            refine jd_aload_n (pc := 155) 1 dX12_sentBy_155 rfl rfl ?_
            refine jd_getR (pc := 156) (ci := 11) (k := 29) (r := (t + 30)) gX12_61 ht.1 rfl (zModel_p29 ht) dX12_sentBy_156 ?_
            refine jd_iload (pc := 159) 7 dX12_sentBy_159 rfl ?_
            obtain ⟨hv8, h⟩ := h
            refine jd_iald (pc := 161) (len := 70) (zModel_a29 ht) hv8 dX12_sentBy_161 ?_
            refine jd_goto (pc := 162) 167 dX12_sentBy_162 (by decide) ?_
            refine jd_istore (pc := 167) [(5, .int (I5 (t + 30) (Int32.toNatClampNeg x6))), (7, .int 1), (0, .ref (gb G + t)), (1, .int x1), (2, .int x2), (3, .int x3), (4, .int x4), (6, .int x6)] dX12_sentBy_167 (by decide) rfl ?_
            refine jd_iinc (pc := 169) (v := (x6 + 1)) 7 [(6, .int (x6 + 1)), (5, .int (I5 (t + 30) (Int32.toNatClampNeg x6))), (7, .int 1), (0, .ref (gb G + t)), (1, .int x1), (2, .int x2), (3, .int x3), (4, .int x4)] dX12_sentBy_169 rfl rfl (by decide) rfl ?_
            refine jd_goto (pc := 172) 62 dX12_sentBy_172 (by decide) ?_
            exact jd_lv (lv2 := [(0, .ref (gb G + t)), (1, .int x1), (2, .int x2), (3, .int x3), (4, .int x4), (5, .int (I5 (t + 30) (Int32.toNatClampNeg x6))), (6, .int (x6 + 1))]) [3, 4, 5, 6, 7, 1, 0] rfl h
          · have h := h.2 hc
            refine jd_iload (pc := 150) 0 dX12_sentBy_150 rfl ?_
            refine jd_if_eq (pc := 152) 165 dX12_sentBy_152 (by decide) (fun hc => absurd hc (by decide)) (fun _ => ?_)
            refine jd_aload_n (pc := 155) 1 dX12_sentBy_155 rfl rfl ?_
            refine jd_getR (pc := 156) (ci := 11) (k := 29) (r := (t + 30)) gX12_61 ht.1 rfl (zModel_p29 ht) dX12_sentBy_156 ?_
            refine jd_iload (pc := 159) 7 dX12_sentBy_159 rfl ?_
            obtain ⟨hv9, h⟩ := h
            refine jd_iald (pc := 161) (len := 70) (zModel_a29 ht) hv9 dX12_sentBy_161 ?_
            refine jd_goto (pc := 162) 167 dX12_sentBy_162 (by decide) ?_
            refine jd_istore (pc := 167) [(5, .int (I5 (t + 30) (Int32.toNatClampNeg x6))), (7, .int 1), (0, .ref (gb G + t)), (1, .int x1), (2, .int x2), (3, .int x3), (4, .int x4), (6, .int x6)] dX12_sentBy_167 (by decide) rfl ?_
            refine jd_iinc (pc := 169) (v := (x6 + 1)) 7 [(6, .int (x6 + 1)), (5, .int (I5 (t + 30) (Int32.toNatClampNeg x6))), (7, .int 1), (0, .ref (gb G + t)), (1, .int x1), (2, .int x2), (3, .int x3), (4, .int x4)] dX12_sentBy_169 rfl rfl (by decide) rfl ?_
            refine jd_goto (pc := 172) 62 dX12_sentBy_172 (by decide) ?_
            exact jd_lv (lv2 := [(0, .ref (gb G + t)), (1, .int x1), (2, .int x2), (3, .int x3), (4, .int x4), (5, .int (I5 (t + 30) (Int32.toNatClampNeg x6))), (6, .int (x6 + 1))]) [3, 4, 5, 6, 7, 1, 0] rfl h
      · have h := h.2 hc
        refine jd_aload_n (pc := 90) 0 dX12_sentBy_90 rfl rfl ?_
        refine jd_aload_n (pc := 91) 0 dX12_sentBy_91 rfl rfl ?_
        refine jd_getR (pc := 92) (ci := 11) (k := 29) (r := (t + 30)) gX12_61 ht.1 rfl (zModel_p29 ht) dX12_sentBy_92 ?_
        refine jd_iload (pc := 95) 6 dX12_sentBy_95 rfl ?_
        obtain ⟨hv10, h⟩ := h
        refine jd_iald (pc := 97) (len := 70) (zModel_a29 ht) hv10 dX12_sentBy_97 ?_
        refine jd_callVi (pc := 98) (M2 := mX12_costOf) (id := t) (ci := 11) (T := TX12) (N := 45) (av := [.int (I (t + 30) (Int32.toNatClampNeg x6))]) kX12_costOf sX12_costOf rfl ht.1 lX12_284 rfl rfl (Nat.le_of_ble_eq_true rfl) dX12_sentBy_98 h ?_
        intro v12 I11 J11 h
        refine jd_aload_n (pc := 101) 0 dX12_sentBy_101 rfl rfl ?_
        refine jd_iload (pc := 102) 5 dX12_sentBy_102 rfl ?_
        refine jd_callVi (pc := 104) (M2 := mX12_costOf) (id := t) (ci := 11) (T := TX12) (N := 45) (av := [.int x5]) kX12_costOf sX12_costOf rfl ht.1 lX12_284 rfl rfl (Nat.le_of_ble_eq_true rfl) dX12_sentBy_104 h ?_
        intro v14 I13 J13 h
        refine jd_icmp_le (pc := 107) 114 dX12_sentBy_107 (by decide) (fun hc => ?_) (fun hc => ?_)
        · have h := h.1 hc
          refine jd_iconst (pc := 114) (v := 0) dX12_sentBy_114 (by decide) ?_
          refine jd_goto (pc := 115) 143 dX12_sentBy_115 (by decide) ?_
          refine jd_istore (pc := 143) [(7, .int 0), (0, .ref (gb G + t)), (1, .int x1), (2, .int x2), (3, .int x3), (4, .int x4), (5, .int x5), (6, .int x6)] dX12_sentBy_143 (by decide) rfl ?_
          refine jd_iload (pc := 145) 6 dX12_sentBy_145 rfl ?_
          refine jd_if_eq (pc := 147) 155 dX12_sentBy_147 (by decide) (fun hc => ?_) (fun hc => ?_)
          · have h := h.1 hc
            refine jd_aload_n (pc := 155) 1 dX12_sentBy_155 rfl rfl ?_
            refine jd_getR (pc := 156) (ci := 11) (k := 29) (r := (t + 30)) gX12_61 ht.1 rfl (zModel_p29 ht) dX12_sentBy_156 ?_
            refine jd_iload (pc := 159) 7 dX12_sentBy_159 rfl ?_
            obtain ⟨hv15, h⟩ := h
            refine jd_iald (pc := 161) (len := 70) (zModel_a29 ht) hv15 dX12_sentBy_161 ?_
            refine jd_goto (pc := 162) 167 dX12_sentBy_162 (by decide) ?_
            refine jd_istore (pc := 167) [(5, .int (I13 (t + 30) (Int32.toNatClampNeg x6))), (7, .int 0), (0, .ref (gb G + t)), (1, .int x1), (2, .int x2), (3, .int x3), (4, .int x4), (6, .int x6)] dX12_sentBy_167 (by decide) rfl ?_
            refine jd_iinc (pc := 169) (v := (x6 + 1)) 7 [(6, .int (x6 + 1)), (5, .int (I13 (t + 30) (Int32.toNatClampNeg x6))), (7, .int 0), (0, .ref (gb G + t)), (1, .int x1), (2, .int x2), (3, .int x3), (4, .int x4)] dX12_sentBy_169 rfl rfl (by decide) rfl ?_
            refine jd_goto (pc := 172) 62 dX12_sentBy_172 (by decide) ?_
            exact jd_lv (lv2 := [(0, .ref (gb G + t)), (1, .int x1), (2, .int x2), (3, .int x3), (4, .int x4), (5, .int (I13 (t + 30) (Int32.toNatClampNeg x6))), (6, .int (x6 + 1))]) [3, 4, 5, 6, 7, 1, 0] rfl h
          · have h := h.2 hc
            refine jd_iload (pc := 150) 0 dX12_sentBy_150 rfl ?_
            refine jd_if_eq (pc := 152) 165 dX12_sentBy_152 (by decide) (fun _ => ?_) (fun hc => absurd (show (0 : Int32) = 0 by decide) hc)
            refine jd_iload (pc := 165) 6 dX12_sentBy_165 rfl ?_
            refine jd_istore (pc := 167) [(5, .int x5), (7, .int 0), (0, .ref (gb G + t)), (1, .int x1), (2, .int x2), (3, .int x3), (4, .int x4), (6, .int x6)] dX12_sentBy_167 (by decide) rfl ?_
            refine jd_iinc (pc := 169) (v := (x6 + 1)) 7 [(6, .int (x6 + 1)), (5, .int x5), (7, .int 0), (0, .ref (gb G + t)), (1, .int x1), (2, .int x2), (3, .int x3), (4, .int x4)] dX12_sentBy_169 rfl rfl (by decide) rfl ?_
            refine jd_goto (pc := 172) 62 dX12_sentBy_172 (by decide) ?_
            exact jd_lv (lv2 := [(0, .ref (gb G + t)), (1, .int x1), (2, .int x2), (3, .int x3), (4, .int x4), (5, .int x5), (6, .int (x6 + 1))]) [3, 4, 5, 6, 7, 1, 0] rfl h
        · have h := h.2 hc
          refine jd_iconst (pc := 110) (v := 1) dX12_sentBy_110 (by decide) ?_
          refine jd_goto (pc := 111) 143 dX12_sentBy_111 (by decide) ?_
          refine jd_istore (pc := 143) [(7, .int 1), (0, .ref (gb G + t)), (1, .int x1), (2, .int x2), (3, .int x3), (4, .int x4), (5, .int x5), (6, .int x6)] dX12_sentBy_143 (by decide) rfl ?_
          refine jd_iload (pc := 145) 6 dX12_sentBy_145 rfl ?_
          refine jd_if_eq (pc := 147) 155 dX12_sentBy_147 (by decide) (fun hc => ?_) (fun hc => ?_)
          · have h := h.1 hc
            refine jd_aload_n (pc := 155) 1 dX12_sentBy_155 rfl rfl ?_
            refine jd_getR (pc := 156) (ci := 11) (k := 29) (r := (t + 30)) gX12_61 ht.1 rfl (zModel_p29 ht) dX12_sentBy_156 ?_
            refine jd_iload (pc := 159) 7 dX12_sentBy_159 rfl ?_
            obtain ⟨hv16, h⟩ := h
            refine jd_iald (pc := 161) (len := 70) (zModel_a29 ht) hv16 dX12_sentBy_161 ?_
            refine jd_goto (pc := 162) 167 dX12_sentBy_162 (by decide) ?_
            refine jd_istore (pc := 167) [(5, .int (I13 (t + 30) (Int32.toNatClampNeg x6))), (7, .int 1), (0, .ref (gb G + t)), (1, .int x1), (2, .int x2), (3, .int x3), (4, .int x4), (6, .int x6)] dX12_sentBy_167 (by decide) rfl ?_
            refine jd_iinc (pc := 169) (v := (x6 + 1)) 7 [(6, .int (x6 + 1)), (5, .int (I13 (t + 30) (Int32.toNatClampNeg x6))), (7, .int 1), (0, .ref (gb G + t)), (1, .int x1), (2, .int x2), (3, .int x3), (4, .int x4)] dX12_sentBy_169 rfl rfl (by decide) rfl ?_
            refine jd_goto (pc := 172) 62 dX12_sentBy_172 (by decide) ?_
            exact jd_lv (lv2 := [(0, .ref (gb G + t)), (1, .int x1), (2, .int x2), (3, .int x3), (4, .int x4), (5, .int (I13 (t + 30) (Int32.toNatClampNeg x6))), (6, .int (x6 + 1))]) [3, 4, 5, 6, 7, 1, 0] rfl h
          · have h := h.2 hc
            refine jd_iload (pc := 150) 0 dX12_sentBy_150 rfl ?_
            refine jd_if_eq (pc := 152) 165 dX12_sentBy_152 (by decide) (fun hc => absurd hc (by decide)) (fun _ => ?_)
            refine jd_aload_n (pc := 155) 1 dX12_sentBy_155 rfl rfl ?_
            refine jd_getR (pc := 156) (ci := 11) (k := 29) (r := (t + 30)) gX12_61 ht.1 rfl (zModel_p29 ht) dX12_sentBy_156 ?_
            refine jd_iload (pc := 159) 7 dX12_sentBy_159 rfl ?_
            obtain ⟨hv17, h⟩ := h
            refine jd_iald (pc := 161) (len := 70) (zModel_a29 ht) hv17 dX12_sentBy_161 ?_
            refine jd_goto (pc := 162) 167 dX12_sentBy_162 (by decide) ?_
            refine jd_istore (pc := 167) [(5, .int (I13 (t + 30) (Int32.toNatClampNeg x6))), (7, .int 1), (0, .ref (gb G + t)), (1, .int x1), (2, .int x2), (3, .int x3), (4, .int x4), (6, .int x6)] dX12_sentBy_167 (by decide) rfl ?_
            refine jd_iinc (pc := 169) (v := (x6 + 1)) 7 [(6, .int (x6 + 1)), (5, .int (I13 (t + 30) (Int32.toNatClampNeg x6))), (7, .int 1), (0, .ref (gb G + t)), (1, .int x1), (2, .int x2), (3, .int x3), (4, .int x4)] dX12_sentBy_169 rfl rfl (by decide) rfl ?_
            refine jd_goto (pc := 172) 62 dX12_sentBy_172 (by decide) ?_
            exact jd_lv (lv2 := [(0, .ref (gb G + t)), (1, .int x1), (2, .int x2), (3, .int x3), (4, .int x4), (5, .int (I13 (t + 30) (Int32.toNatClampNeg x6))), (6, .int (x6 + 1))]) [3, 4, 5, 6, 7, 1, 0] rfl h
theorem eX12_sentBy {G : jdG} {n : Nat} {Z : jdL} {I : jdI} {J : jdJ} {K : Int32 → jdI → jdJ → Prop} {t : Nat} {x1 : Int32} {x2 : Int32} {x3 : Int32} {x4 : Int32} (ht : zModel Z t) (h : Cl G mX12_listAll n 0 0 [.ref (gb G + t)] Z I J (qv Z (fun I1 J1 => ((¬ x1 = 3 → ((x1 = 1 → Cl G mX12_firstIn n 0 0 [.ref (gb G + t), .int x3] Z I1 J1 (qi Z (fun v4 I3 J3 => K v4 I3 J3))) ∧ (¬ x1 = 1 → ((¬ x1 = 3 → ((x1 = 2 → Jd G mX12_sentBy (jdFm G (qi Z K)) (n + 1) 0 0 62 [(0, .ref (gb G + t)), (1, .int x1), (2, .int x2), (3, .int x3), (4, .int x4), (5, .int 0), (6, .int 0)] [] Z I1 J1) ∧ (¬ x1 = 2 → ((x1 = 4 → Jd G mX12_sentBy (jdFm G (qi Z K)) (n + 1) 0 0 62 [(0, .ref (gb G + t)), (1, .int x1), (2, .int x2), (3, .int x3), (4, .int x4), (5, .int 0), (6, .int 0)] [] Z I1 J1) ∧ (¬ x1 = 4 → Cl G mX12_bestIn n 0 0 [.ref (gb G + t), .int x3] Z I1 J1 (qi Z (fun v6 I5 J5 => K v6 I5 J5))))))) ∧ (x1 = 3 → Cl G mX12_firstIn n 0 0 [.ref (gb G + t), .int x3] Z I1 J1 (qi Z (fun v8 I7 J7 => K v8 I7 J7))))))) ∧ (x1 = 3 → ((x4 ≤ 0 → ((x1 = 1 → Cl G mX12_firstIn n 0 0 [.ref (gb G + t), .int x3] Z I1 J1 (qi Z (fun v10 I9 J9 => K v10 I9 J9))) ∧ (¬ x1 = 1 → ((¬ x1 = 3 → ((x1 = 2 → Jd G mX12_sentBy (jdFm G (qi Z K)) (n + 1) 0 0 62 [(0, .ref (gb G + t)), (1, .int x1), (2, .int x2), (3, .int x3), (4, .int x4), (5, .int 0), (6, .int 0)] [] Z I1 J1) ∧ (¬ x1 = 2 → ((x1 = 4 → Jd G mX12_sentBy (jdFm G (qi Z K)) (n + 1) 0 0 62 [(0, .ref (gb G + t)), (1, .int x1), (2, .int x2), (3, .int x3), (4, .int x4), (5, .int 0), (6, .int 0)] [] Z I1 J1) ∧ (¬ x1 = 4 → Cl G mX12_bestIn n 0 0 [.ref (gb G + t), .int x3] Z I1 J1 (qi Z (fun v12 I11 J11 => K v12 I11 J11))))))) ∧ (x1 = 3 → Cl G mX12_firstIn n 0 0 [.ref (gb G + t), .int x3] Z I1 J1 (qi Z (fun v14 I13 J13 => K v14 I13 J13))))))) ∧ (¬ x4 ≤ 0 → Cl G mX12_bits n 0 0 [.int x3] Z I1 J1 (qi Z (fun v16 I15 J15 => ((x2 ≤ v16 → ((x1 = 1 → Cl G mX12_firstIn n 0 0 [.ref (gb G + t), .int x3] Z I15 J15 (qi Z (fun v18 I17 J17 => K v18 I17 J17))) ∧ (¬ x1 = 1 → ((¬ x1 = 3 → ((x1 = 2 → Jd G mX12_sentBy (jdFm G (qi Z K)) (n + 1) 0 0 62 [(0, .ref (gb G + t)), (1, .int x1), (2, .int x2), (3, .int x3), (4, .int x4), (5, .int 0), (6, .int 0)] [] Z I15 J15) ∧ (¬ x1 = 2 → ((x1 = 4 → Jd G mX12_sentBy (jdFm G (qi Z K)) (n + 1) 0 0 62 [(0, .ref (gb G + t)), (1, .int x1), (2, .int x2), (3, .int x3), (4, .int x4), (5, .int 0), (6, .int 0)] [] Z I15 J15) ∧ (¬ x1 = 4 → Cl G mX12_bestIn n 0 0 [.ref (gb G + t), .int x3] Z I15 J15 (qi Z (fun v20 I19 J19 => K v20 I19 J19))))))) ∧ (x1 = 3 → Cl G mX12_firstIn n 0 0 [.ref (gb G + t), .int x3] Z I15 J15 (qi Z (fun v22 I21 J21 => K v22 I21 J21))))))) ∧ (¬ x2 ≤ v16 → K 0 I15 J15))))))))))) : Cl G mX12_sentBy (n + 1) 0 0 [.ref (gb G + t), .int x1, .int x2, .int x3, .int x4] Z I J (qi Z K) :=
  Cl.of (by decide +kernel) (Nat.le_of_ble_eq_true rfl) (rX12_sentBy_0 ht h)
set_option maxRecDepth 4000 in
theorem rX12_sends_0 {G : jdG} {n rc rs : Nat} {Z : jdL} {I : jdI} {J : jdJ} {K : Int32 → jdI → jdJ → Prop} {t : Nat} {x1 : Int32} {x2 : Int32} {x3 : Int32} (ht : zModel Z t) (h : Cl G mX12_in n 0 0 [.long (Int32.toInt64 x1), .long 0, .long 7] Z I J (qi Z (fun v2 I1 J1 => ((v2 = 0 → Cl G mX12_refuse n 0 0 [.ref (gb G + t), .int (-2)] Z I1 J1 (qi Z (fun v4 I3 J3 => K v4 I3 J3))) ∧ (¬ v2 = 0 → Cl G mX12_isSet n 0 0 [.ref (gb G + t), .int x2] Z I1 J1 (qi Z (fun v6 I5 J5 => ((v6 = 0 → Cl G mX12_refuse n 0 0 [.ref (gb G + t), .int (-2)] Z I5 J5 (qi Z (fun v8 I7 J7 => K v8 I7 J7))) ∧ (¬ v6 = 0 → Cl G mX12_in n 0 0 [.long (Int32.toInt64 x3), .long 0, .long 7] Z I5 J5 (qi Z (fun v10 I9 J9 => ((¬ v10 = 0 → Cl G mX12_noMan n 0 0 [.ref (gb G + t), .int x1] Z I9 J9 (qi Z (fun v12 I11 J11 => ((v12 = 0 → (vp_in x1 8 ∧ (vp_in x1 8 ∧ Cl G mX12_sentBy n 0 0 [.ref (gb G + t), .int (I11 (t + 14) (Int32.toNatClampNeg x1)), .int (I11 (t + 15) (Int32.toNatClampNeg x1)), .int x2, .int x3] Z I11 J11 (qi Z (fun v16 I15 J15 => K v16 I15 J15))))) ∧ (¬ v12 = 0 → K v12 I11 J11))))) ∧ (v10 = 0 → Cl G mX12_refuse n 0 0 [.ref (gb G + t), .int (-2)] Z I9 J9 (qi Z (fun v18 I17 J17 => K v18 I17 J17))))))))))))))) : Jd G mX12_sends (jdFm G (qi Z K)) (n + 1) rc rs 0 [(0, .ref (gb G + t)), (1, .int x1), (2, .int x2), (3, .int x3)] [] Z I J := by
  refine jd_iload_n (pc := 0) 1 dX12_sends_0 rfl rfl ?_
  refine jd_i2l (pc := 1) dX12_sends_1 ?_
  refine jd_lconst (pc := 2) (v := 0) dX12_sends_2 (by decide) ?_
  refine jd_ldc2 (pc := 3) (v := 7) qX12_96 dX12_sends_3 ?_
  refine jd_callSi (pc := 6) (M2 := mX12_in) (av := [.long (Int32.toInt64 x1), .long 0, .long 7]) kX12_in sX12_in lX12_88 rfl rfl (Nat.le_of_ble_eq_true rfl) dX12_sends_6 h ?_
  intro v2 I1 J1 h
  refine jd_if_eq (pc := 9) 32 dX12_sends_9 (by decide) (fun hc => ?_) (fun hc => ?_)
  · have h := h.1 hc
    refine jd_aload_n (pc := 32) 0 dX12_sends_32 rfl rfl ?_
    refine jd_bipush (pc := 33) (v := (-2)) dX12_sends_33 (by decide) ?_
    refine jd_callVi (pc := 35) (M2 := mX12_refuse) (id := t) (ci := 11) (T := TX12) (N := 45) (av := [.int (-2)]) kX12_refuse sX12_refuse rfl ht.1 lX12_102 rfl rfl (Nat.le_of_ble_eq_true rfl) dX12_sends_35 h ?_
    intro v4 I3 J3 h
    exact jd_iretK (pc := 38) rfl rfl dX12_sends_38 h
  · have h := h.2 hc
    refine jd_aload_n (pc := 12) 0 dX12_sends_12 rfl rfl ?_
    refine jd_iload_n (pc := 13) 2 dX12_sends_13 rfl rfl ?_
    refine jd_callVi (pc := 14) (M2 := mX12_isSet) (id := t) (ci := 11) (T := TX12) (N := 45) (av := [.int x2]) kX12_isSet sX12_isSet rfl ht.1 lX12_263 rfl rfl (Nat.le_of_ble_eq_true rfl) dX12_sends_14 h ?_
    intro v6 I5 J5 h
    refine jd_if_eq (pc := 17) 32 dX12_sends_17 (by decide) (fun hc => ?_) (fun hc => ?_)
    · have h := h.1 hc
      refine jd_aload_n (pc := 32) 0 dX12_sends_32 rfl rfl ?_
      refine jd_bipush (pc := 33) (v := (-2)) dX12_sends_33 (by decide) ?_
      refine jd_callVi (pc := 35) (M2 := mX12_refuse) (id := t) (ci := 11) (T := TX12) (N := 45) (av := [.int (-2)]) kX12_refuse sX12_refuse rfl ht.1 lX12_102 rfl rfl (Nat.le_of_ble_eq_true rfl) dX12_sends_35 h ?_
      intro v8 I7 J7 h
      exact jd_iretK (pc := 38) rfl rfl dX12_sends_38 h
    · have h := h.2 hc
      refine jd_iload_n (pc := 20) 3 dX12_sends_20 rfl rfl ?_
      refine jd_i2l (pc := 21) dX12_sends_21 ?_
      refine jd_lconst (pc := 22) (v := 0) dX12_sends_22 (by decide) ?_
      refine jd_ldc2 (pc := 23) (v := 7) qX12_96 dX12_sends_23 ?_
      refine jd_callSi (pc := 26) (M2 := mX12_in) (av := [.long (Int32.toInt64 x3), .long 0, .long 7]) kX12_in sX12_in lX12_88 rfl rfl (Nat.le_of_ble_eq_true rfl) dX12_sends_26 h ?_
      intro v10 I9 J9 h
      refine jd_if_ne (pc := 29) 39 dX12_sends_29 (by decide) (fun hc => ?_) (fun hc => ?_)
      · have h := h.1 hc
        refine jd_aload_n (pc := 39) 0 dX12_sends_39 rfl rfl ?_
        refine jd_iload_n (pc := 40) 1 dX12_sends_40 rfl rfl ?_
        refine jd_callVi (pc := 41) (M2 := mX12_noMan) (id := t) (ci := 11) (T := TX12) (N := 45) (av := [.int x1]) kX12_noMan sX12_noMan rfl ht.1 lX12_290 rfl rfl (Nat.le_of_ble_eq_true rfl) dX12_sends_41 h ?_
        intro v12 I11 J11 h
        refine jd_istore (pc := 44) [(4, .int v12), (0, .ref (gb G + t)), (1, .int x1), (2, .int x2), (3, .int x3)] dX12_sends_44 (by decide) rfl ?_
        refine jd_iload (pc := 46) 0 dX12_sends_46 rfl ?_
        refine jd_if_eq (pc := 48) 56 dX12_sends_48 (by decide) (fun hc => ?_) (fun hc => ?_)
        · have h := h.1 hc
          refine jd_aload_n (pc := 56) 1 dX12_sends_56 rfl rfl ?_
          refine jd_aload_n (pc := 57) 1 dX12_sends_57 rfl rfl ?_
          refine jd_getR (pc := 58) (ci := 11) (k := 5) (r := (t + 14)) gX12_28 ht.1 rfl (zModel_p5 ht) dX12_sends_58 ?_
          refine jd_iload_n (pc := 61) 2 dX12_sends_61 rfl rfl ?_
          obtain ⟨hv13, h⟩ := h
          refine jd_iald (pc := 62) (len := 8) (zModel_a5 ht) hv13 dX12_sends_62 ?_
          refine jd_aload_n (pc := 63) 1 dX12_sends_63 rfl rfl ?_
          refine jd_getR (pc := 64) (ci := 11) (k := 6) (r := (t + 15)) gX12_31 ht.1 rfl (zModel_p6 ht) dX12_sends_64 ?_
          refine jd_iload_n (pc := 67) 2 dX12_sends_67 rfl rfl ?_
          obtain ⟨hv14, h⟩ := h
          refine jd_iald (pc := 68) (len := 8) (zModel_a6 ht) hv14 dX12_sends_68 ?_
          refine jd_iload_n (pc := 69) 3 dX12_sends_69 rfl rfl ?_
          refine jd_iload_n (pc := 70) 4 dX12_sends_70 rfl rfl ?_
          refine jd_callVi (pc := 71) (M2 := mX12_sentBy) (id := t) (ci := 11) (T := TX12) (N := 45) (av := [.int (I11 (t + 14) (Int32.toNatClampNeg x1)), .int (I11 (t + 15) (Int32.toNatClampNeg x1)), .int x2, .int x3]) kX12_sentBy sX12_sentBy rfl ht.1 lX12_121 rfl rfl (Nat.le_of_ble_eq_true rfl) dX12_sends_71 h ?_
          intro v16 I15 J15 h
          exact jd_iretK (pc := 74) rfl rfl dX12_sends_74 h
        · have h := h.2 hc
          refine jd_iload (pc := 51) 0 dX12_sends_51 rfl ?_
          refine jd_goto (pc := 53) 74 dX12_sends_53 (by decide) ?_
          exact jd_iretK (pc := 74) rfl rfl dX12_sends_74 h
      · have h := h.2 hc
        refine jd_aload_n (pc := 32) 0 dX12_sends_32 rfl rfl ?_
        refine jd_bipush (pc := 33) (v := (-2)) dX12_sends_33 (by decide) ?_
        refine jd_callVi (pc := 35) (M2 := mX12_refuse) (id := t) (ci := 11) (T := TX12) (N := 45) (av := [.int (-2)]) kX12_refuse sX12_refuse rfl ht.1 lX12_102 rfl rfl (Nat.le_of_ble_eq_true rfl) dX12_sends_35 h ?_
        intro v18 I17 J17 h
        exact jd_iretK (pc := 38) rfl rfl dX12_sends_38 h
theorem eX12_sends {G : jdG} {n : Nat} {Z : jdL} {I : jdI} {J : jdJ} {K : Int32 → jdI → jdJ → Prop} {t : Nat} {x1 : Int32} {x2 : Int32} {x3 : Int32} (ht : zModel Z t) (h : Cl G mX12_in n 0 0 [.long (Int32.toInt64 x1), .long 0, .long 7] Z I J (qi Z (fun v2 I1 J1 => ((v2 = 0 → Cl G mX12_refuse n 0 0 [.ref (gb G + t), .int (-2)] Z I1 J1 (qi Z (fun v4 I3 J3 => K v4 I3 J3))) ∧ (¬ v2 = 0 → Cl G mX12_isSet n 0 0 [.ref (gb G + t), .int x2] Z I1 J1 (qi Z (fun v6 I5 J5 => ((v6 = 0 → Cl G mX12_refuse n 0 0 [.ref (gb G + t), .int (-2)] Z I5 J5 (qi Z (fun v8 I7 J7 => K v8 I7 J7))) ∧ (¬ v6 = 0 → Cl G mX12_in n 0 0 [.long (Int32.toInt64 x3), .long 0, .long 7] Z I5 J5 (qi Z (fun v10 I9 J9 => ((¬ v10 = 0 → Cl G mX12_noMan n 0 0 [.ref (gb G + t), .int x1] Z I9 J9 (qi Z (fun v12 I11 J11 => ((v12 = 0 → (vp_in x1 8 ∧ (vp_in x1 8 ∧ Cl G mX12_sentBy n 0 0 [.ref (gb G + t), .int (I11 (t + 14) (Int32.toNatClampNeg x1)), .int (I11 (t + 15) (Int32.toNatClampNeg x1)), .int x2, .int x3] Z I11 J11 (qi Z (fun v16 I15 J15 => K v16 I15 J15))))) ∧ (¬ v12 = 0 → K v12 I11 J11))))) ∧ (v10 = 0 → Cl G mX12_refuse n 0 0 [.ref (gb G + t), .int (-2)] Z I9 J9 (qi Z (fun v18 I17 J17 => K v18 I17 J17))))))))))))))) : Cl G mX12_sends (n + 1) 0 0 [.ref (gb G + t), .int x1, .int x2, .int x3] Z I J (qi Z K) :=
  Cl.of (by decide +kernel) (Nat.le_of_ble_eq_true rfl) (rX12_sends_0 ht h)
set_option maxRecDepth 4000 in
theorem rX12_findComing_0 {G : jdG} {n rc rs : Nat} {Z : jdL} {I : jdI} {J : jdJ} {K : jdI → jdJ → Prop} {t : Nat} (ht : zModel Z t) (h : Jd G mX12_findComing (jdFm G (qv Z K)) n rc rs 4 [(0, .ref (gb G + t)), (1, .int 0), (2, .int 0)] [] Z I J) : Jd G mX12_findComing (jdFm G (qv Z K)) n rc rs 0 [(0, .ref (gb G + t))] [] Z I J := by
  refine jd_iconst (pc := 0) (v := 0) dX12_findComing_0 (by decide) ?_
  refine jd_istore_n (pc := 1) [(1, .int 0), (0, .ref (gb G + t))] dX12_findComing_1 rfl (by decide) rfl ?_
  refine jd_iconst (pc := 2) (v := 0) dX12_findComing_2 (by decide) ?_
  refine jd_istore_n (pc := 3) [(2, .int 0), (1, .int 0), (0, .ref (gb G + t))] dX12_findComing_3 rfl (by decide) rfl ?_
  exact jd_lv (lv2 := [(0, .ref (gb G + t)), (1, .int 0), (2, .int 0)]) [2, 1, 0] rfl h
set_option maxRecDepth 4000 in
theorem rX12_findComing_4 {G : jdG} {n rc rs : Nat} {Z : jdL} {I : jdI} {J : jdJ} {K : jdI → jdJ → Prop} {t : Nat} {x1 : Int32} {x2 : Int32} (ht : zModel Z t) (h : ((24 ≤ x2 → K I J) ∧ (¬ 24 ≤ x2 → Jd G mX12_findComing (jdFm G (qv Z K)) n rc rs 12 [(0, .ref (gb G + t)), (1, .int x1), (2, .int x2), (3, .int 0)] [] Z I J))) : Jd G mX12_findComing (jdFm G (qv Z K)) n rc rs 4 [(0, .ref (gb G + t)), (1, .int x1), (2, .int x2)] [] Z I J := by
  refine jd_iload_n (pc := 4) 2 dX12_findComing_4 rfl rfl ?_
  refine jd_bipush (pc := 5) (v := 24) dX12_findComing_5 (by decide) ?_
  refine jd_icmp_ge (pc := 7) 52 dX12_findComing_7 (by decide) (fun hc => ?_) (fun hc => ?_)
  · have h := h.1 hc
    exact jd_vretK (pc := 52) rfl dX12_findComing_52 h
  · have h := h.2 hc
    refine jd_iconst (pc := 10) (v := 0) dX12_findComing_10 (by decide) ?_
    refine jd_istore_n (pc := 11) [(3, .int 0), (0, .ref (gb G + t)), (1, .int x1), (2, .int x2)] dX12_findComing_11 rfl (by decide) rfl ?_
    exact jd_lv (lv2 := [(0, .ref (gb G + t)), (1, .int x1), (2, .int x2), (3, .int 0)]) [1, 2, 3, 0] rfl h
set_option maxRecDepth 4000 in
theorem rX12_findComing_12 {G : jdG} {n rc rs : Nat} {Z : jdL} {I : jdI} {J : jdJ} {K : jdI → jdJ → Prop} {t : Nat} {x1 : Int32} {x2 : Int32} {x3 : Int32} (ht : zModel Z t) (h : (((I t 10) ≤ x3 → Jd G mX12_findComing (jdFm G (qv Z K)) n rc rs 4 [(0, .ref (gb G + t)), (1, .int x1), (2, .int (x2 + 1))] [] Z I J) ∧ (¬ (I t 10) ≤ x3 → (vp_in x3 8 ∧ ((¬ (I (t + 18) (Int32.toNatClampNeg x3)) = x2 → Jd G mX12_findComing (jdFm G (qv Z K)) n rc rs 12 [(0, .ref (gb G + t)), (1, .int x1), (2, .int x2), (3, .int (x3 + 1))] [] Z I J) ∧ ((I (t + 18) (Int32.toNatClampNeg x3)) = x2 → (vp_in x1 7 ∧ Jd G mX12_findComing (jdFm G (qv Z K)) n rc rs 12 [(0, .ref (gb G + t)), (1, .int (x1 + 1)), (2, .int x2), (3, .int (x3 + 1))] [] Z (uI I (t + 31) (Int32.toNatClampNeg x1) x3) J))))))) : Jd G mX12_findComing (jdFm G (qv Z K)) n rc rs 12 [(0, .ref (gb G + t)), (1, .int x1), (2, .int x2), (3, .int x3)] [] Z I J := by
  refine jd_iload_n (pc := 12) 3 dX12_findComing_12 rfl rfl ?_
  refine jd_aload_n (pc := 13) 0 dX12_findComing_13 rfl rfl ?_
  refine jd_getI (pc := 14) (ci := 11) (k := 10) gX12_85 ht.1 rfl dX12_findComing_14 ?_
  refine jd_icmp_ge (pc := 17) 46 dX12_findComing_17 (by decide) (fun hc => ?_) (fun hc => ?_)
  · have h := h.1 hc
    refine jd_iinc (pc := 46) (v := (x2 + 1)) 2 [(2, .int (x2 + 1)), (0, .ref (gb G + t)), (1, .int x1), (3, .int x3)] dX12_findComing_46 rfl rfl (by decide) rfl ?_
    refine jd_goto (pc := 49) 4 dX12_findComing_49 (by decide) ?_
    exact jd_lv (lv2 := [(0, .ref (gb G + t)), (1, .int x1), (2, .int (x2 + 1))]) [1, 2, 0] rfl h
  · have h := h.2 hc
    refine jd_aload_n (pc := 20) 0 dX12_findComing_20 rfl rfl ?_
    refine jd_getR (pc := 21) (ci := 11) (k := 11) (r := (t + 18)) gX12_40 ht.1 rfl (zModel_p11 ht) dX12_findComing_21 ?_
    refine jd_iload_n (pc := 24) 3 dX12_findComing_24 rfl rfl ?_
    obtain ⟨hv1, h⟩ := h
    refine jd_iald (pc := 25) (len := 8) (zModel_a11 ht) hv1 dX12_findComing_25 ?_
    refine jd_iload_n (pc := 26) 2 dX12_findComing_26 rfl rfl ?_
    refine jd_icmp_ne (pc := 27) 40 dX12_findComing_27 (by decide) (fun hc => ?_) (fun hc => ?_)
    · have h := h.1 hc
      refine jd_iinc (pc := 40) (v := (x3 + 1)) 3 [(3, .int (x3 + 1)), (0, .ref (gb G + t)), (1, .int x1), (2, .int x2)] dX12_findComing_40 rfl rfl (by decide) rfl ?_
      refine jd_goto (pc := 43) 12 dX12_findComing_43 (by decide) ?_
      exact jd_lv (lv2 := [(0, .ref (gb G + t)), (1, .int x1), (2, .int x2), (3, .int (x3 + 1))]) [1, 2, 3, 0] rfl h
    · have h := h.2 hc
      refine jd_aload_n (pc := 30) 0 dX12_findComing_30 rfl rfl ?_
      refine jd_getR (pc := 31) (ci := 11) (k := 31) (r := (t + 31)) gX12_64 ht.1 rfl (zModel_p31 ht) dX12_findComing_31 ?_
      refine jd_iload_n (pc := 34) 1 dX12_findComing_34 rfl rfl ?_
      refine jd_iinc (pc := 35) (v := (x1 + 1)) 1 [(1, .int (x1 + 1)), (0, .ref (gb G + t)), (2, .int x2), (3, .int x3)] dX12_findComing_35 rfl rfl (by decide) rfl ?_
      refine jd_iload_n (pc := 38) 3 dX12_findComing_38 rfl rfl ?_
      obtain ⟨hv2, h⟩ := h
      refine jd_iast (pc := 39) (len := 7) (zModel_a31 ht) hv2 dX12_findComing_39 ?_
      refine jd_iinc (pc := 40) (v := (x3 + 1)) 3 [(3, .int (x3 + 1)), (1, .int (x1 + 1)), (0, .ref (gb G + t)), (2, .int x2)] dX12_findComing_40 rfl rfl (by decide) rfl ?_
      refine jd_goto (pc := 43) 12 dX12_findComing_43 (by decide) ?_
      exact jd_lv (lv2 := [(0, .ref (gb G + t)), (1, .int (x1 + 1)), (2, .int x2), (3, .int (x3 + 1))]) [2, 1, 3, 0] rfl h
theorem eX12_findComing {G : jdG} {n : Nat} {Z : jdL} {I : jdI} {J : jdJ} {K : jdI → jdJ → Prop} {t : Nat} (ht : zModel Z t) (h : Jd G mX12_findComing (jdFm G (qv Z K)) n 0 0 4 [(0, .ref (gb G + t)), (1, .int 0), (2, .int 0)] [] Z I J) : Cl G mX12_findComing (n) 0 0 [.ref (gb G + t)] Z I J (qv Z K) :=
  Cl.of (by decide +kernel) (Nat.le_of_ble_eq_true rfl) (rX12_findComing_0 ht h)
set_option maxRecDepth 4000 in
theorem rX12_goesBy_0 {G : jdG} {n rc rs : Nat} {Z : jdL} {I : jdI} {J : jdJ} {K : jdI → jdJ → Prop} {t : Nat} {x1 : Int32} {x2 : Int32} (ht : zModel Z t) (h : Cl G mX12_findComing n 0 0 [.ref (gb G + t)] Z I J (qv Z (fun I1 J1 => Jd G mX12_goesBy (jdFm G (qv Z K)) (n + 1) rc rs 14 [(0, .ref (gb G + t)), (1, .int x1), (2, .int x2), (3, .int 0), (4, .int 0)] [] Z (uI I1 t 33 0) J1))) : Jd G mX12_goesBy (jdFm G (qv Z K)) (n + 1) rc rs 0 [(0, .ref (gb G + t)), (1, .int x1), (2, .int x2)] [] Z I J := by
  refine jd_aload_n (pc := 0) 0 dX12_goesBy_0 rfl rfl ?_
  refine jd_callVv (pc := 1) (M2 := mX12_findComing) (id := t) (ci := 11) (T := TX12) (N := 45) (av := []) kX12_findComing sX12_findComing rfl ht.1 lX12_293 rfl rfl (Nat.le_of_ble_eq_true rfl) dX12_goesBy_1 h ?_
  intro I1 J1 h
  refine jd_aload_n (pc := 4) 0 dX12_goesBy_4 rfl rfl ?_
  refine jd_iconst (pc := 5) (v := 0) dX12_goesBy_5 (by decide) ?_
  refine jd_putI (pc := 6) (ci := 11) (k := 33) pX12_296 ht.1 rfl rfl rfl dX12_goesBy_6 ?_
  refine jd_iconst (pc := 9) (v := 0) dX12_goesBy_9 (by decide) ?_
  refine jd_istore_n (pc := 10) [(3, .int 0), (0, .ref (gb G + t)), (1, .int x1), (2, .int x2)] dX12_goesBy_10 rfl (by decide) rfl ?_
  refine jd_iconst (pc := 11) (v := 0) dX12_goesBy_11 (by decide) ?_
  refine jd_istore (pc := 12) [(4, .int 0), (3, .int 0), (0, .ref (gb G + t)), (1, .int x1), (2, .int x2)] dX12_goesBy_12 (by decide) rfl ?_
  exact jd_lv (lv2 := [(0, .ref (gb G + t)), (1, .int x1), (2, .int x2), (3, .int 0), (4, .int 0)]) [2, 3, 4, 1, 0] rfl h
set_option maxRecDepth 4000 in
theorem rX12_goesBy_14 {G : jdG} {n rc rs : Nat} {Z : jdL} {I : jdI} {J : jdJ} {K : jdI → jdJ → Prop} {t : Nat} {x1 : Int32} {x2 : Int32} {x3 : Int32} {x4 : Int32} (ht : zModel Z t) (h : (((I t 10) ≤ x4 → Jd G mX12_goesBy (jdFm G (qv Z K)) (n + 1) rc rs 195 [(0, .ref (gb G + t)), (1, .int x1), (2, .int x2), (3, .int x3), (4, .int 0)] [] Z (uI I t 34 x3) J) ∧ (¬ (I t 10) ≤ x4 → (vp_in x4 7 ∧ (vp_in x4 7 ∧ (vp_in (I (t + 31) (Int32.toNatClampNeg x4)) 8 ∧ Cl G mX12_sentBy n 0 0 [.ref (gb G + t), .int x1, .int x2, .int (x3 ||| (1 <<< ((I (t + 31) (Int32.toNatClampNeg x4)) &&& 31))), .int (((I t 10) - 1) - x4)] Z I J (qi Z (fun v5 I4 J4 => Jd G mX12_goesBy (jdFm G (qv Z K)) (n + 1) rc rs 67 [(0, .ref (gb G + t)), (1, .int x1), (2, .int x2), (3, .int (x3 ||| (1 <<< ((I (t + 31) (Int32.toNatClampNeg x4)) &&& 31)))), (4, .int x4), (5, .int (I (t + 18) (Int32.toNatClampNeg (I (t + 31) (Int32.toNatClampNeg x4))))), (6, .int v5)] [] Z I4 J4)))))))) : Jd G mX12_goesBy (jdFm G (qv Z K)) (n + 1) rc rs 14 [(0, .ref (gb G + t)), (1, .int x1), (2, .int x2), (3, .int x3), (4, .int x4)] [] Z I J := by
  refine jd_iload (pc := 14) 4 dX12_goesBy_14 rfl ?_
  refine jd_aload_n (pc := 16) 0 dX12_goesBy_16 rfl rfl ?_
  refine jd_getI (pc := 17) (ci := 11) (k := 10) gX12_85 ht.1 rfl dX12_goesBy_17 ?_
  refine jd_icmp_ge (pc := 20) 187 dX12_goesBy_20 (by decide) (fun hc => ?_) (fun hc => ?_)
  · have h := h.1 hc
    refine jd_aload_n (pc := 187) 0 dX12_goesBy_187 rfl rfl ?_
    refine jd_iload_n (pc := 188) 3 dX12_goesBy_188 rfl rfl ?_
    refine jd_putI (pc := 189) (ci := 11) (k := 34) pX12_299 ht.1 rfl rfl rfl dX12_goesBy_189 ?_
    refine jd_iconst (pc := 192) (v := 0) dX12_goesBy_192 (by decide) ?_
    refine jd_istore (pc := 193) [(4, .int 0), (0, .ref (gb G + t)), (1, .int x1), (2, .int x2), (3, .int x3)] dX12_goesBy_193 (by decide) rfl ?_
    exact jd_lv (lv2 := [(0, .ref (gb G + t)), (1, .int x1), (2, .int x2), (3, .int x3), (4, .int 0)]) [1, 2, 3, 4, 0] rfl h
  · have h := h.2 hc
    refine jd_iload_n (pc := 23) 3 dX12_goesBy_23 rfl rfl ?_
    refine jd_iconst (pc := 24) (v := 1) dX12_goesBy_24 (by decide) ?_
    refine jd_aload_n (pc := 25) 0 dX12_goesBy_25 rfl rfl ?_
    refine jd_getR (pc := 26) (ci := 11) (k := 31) (r := (t + 31)) gX12_64 ht.1 rfl (zModel_p31 ht) dX12_goesBy_26 ?_
    refine jd_iload (pc := 29) 4 dX12_goesBy_29 rfl ?_
    obtain ⟨hv1, h⟩ := h
    refine jd_iald (pc := 31) (len := 7) (zModel_a31 ht) hv1 dX12_goesBy_31 ?_
    refine jd_ishl (pc := 32) dX12_goesBy_32 ?_
    refine jd_ior (pc := 33) dX12_goesBy_33 ?_
    refine jd_istore_n (pc := 34) [(3, .int (x3 ||| (1 <<< ((I (t + 31) (Int32.toNatClampNeg x4)) &&& 31)))), (0, .ref (gb G + t)), (1, .int x1), (2, .int x2), (4, .int x4)] dX12_goesBy_34 rfl (by decide) rfl ?_
    refine jd_aload_n (pc := 35) 1 dX12_goesBy_35 rfl rfl ?_
    refine jd_getR (pc := 36) (ci := 11) (k := 11) (r := (t + 18)) gX12_40 ht.1 rfl (zModel_p11 ht) dX12_goesBy_36 ?_
    refine jd_aload_n (pc := 39) 1 dX12_goesBy_39 rfl rfl ?_
    refine jd_getR (pc := 40) (ci := 11) (k := 31) (r := (t + 31)) gX12_64 ht.1 rfl (zModel_p31 ht) dX12_goesBy_40 ?_
    refine jd_iload (pc := 43) 4 dX12_goesBy_43 rfl ?_
    obtain ⟨hv2, h⟩ := h
    refine jd_iald (pc := 45) (len := 7) (zModel_a31 ht) hv2 dX12_goesBy_45 ?_
    obtain ⟨hv3, h⟩ := h
    refine jd_iald (pc := 46) (len := 8) (zModel_a11 ht) hv3 dX12_goesBy_46 ?_
    refine jd_istore (pc := 47) [(5, .int (I (t + 18) (Int32.toNatClampNeg (I (t + 31) (Int32.toNatClampNeg x4))))), (3, .int (x3 ||| (1 <<< ((I (t + 31) (Int32.toNatClampNeg x4)) &&& 31)))), (0, .ref (gb G + t)), (1, .int x1), (2, .int x2), (4, .int x4)] dX12_goesBy_47 (by decide) rfl ?_
    refine jd_aload_n (pc := 49) 2 dX12_goesBy_49 rfl rfl ?_
    refine jd_iload_n (pc := 50) 3 dX12_goesBy_50 rfl rfl ?_
    refine jd_iload_n (pc := 51) 4 dX12_goesBy_51 rfl rfl ?_
    refine jd_iload_n (pc := 52) 1 dX12_goesBy_52 rfl rfl ?_
    refine jd_aload_n (pc := 53) 2 dX12_goesBy_53 rfl rfl ?_
    refine jd_getI (pc := 54) (ci := 11) (k := 10) gX12_85 ht.1 rfl dX12_goesBy_54 ?_
    refine jd_iconst (pc := 57) (v := 1) dX12_goesBy_57 (by decide) ?_
    refine jd_isub (pc := 58) dX12_goesBy_58 ?_
    refine jd_iload (pc := 59) 5 dX12_goesBy_59 rfl ?_
    refine jd_isub (pc := 61) dX12_goesBy_61 ?_
    refine jd_callVi (pc := 62) (M2 := mX12_sentBy) (id := t) (ci := 11) (T := TX12) (N := 45) (av := [.int x1, .int x2, .int (x3 ||| (1 <<< ((I (t + 31) (Int32.toNatClampNeg x4)) &&& 31))), .int (((I t 10) - 1) - x4)]) kX12_sentBy sX12_sentBy rfl ht.1 lX12_121 rfl rfl (Nat.le_of_ble_eq_true rfl) dX12_goesBy_62 h ?_
    intro v5 I4 J4 h
    refine jd_istore (pc := 65) [(6, .int v5), (5, .int (I (t + 18) (Int32.toNatClampNeg (I (t + 31) (Int32.toNatClampNeg x4))))), (3, .int (x3 ||| (1 <<< ((I (t + 31) (Int32.toNatClampNeg x4)) &&& 31)))), (0, .ref (gb G + t)), (1, .int x1), (2, .int x2), (4, .int x4)] dX12_goesBy_65 (by decide) rfl ?_
    exact jd_lv (lv2 := [(0, .ref (gb G + t)), (1, .int x1), (2, .int x2), (3, .int (x3 ||| (1 <<< ((I (t + 31) (Int32.toNatClampNeg x4)) &&& 31)))), (4, .int x4), (5, .int (I (t + 18) (Int32.toNatClampNeg (I (t + 31) (Int32.toNatClampNeg x4))))), (6, .int v5)]) [3, 4, 5, 2, 6, 1, 0] rfl h
set_option maxRecDepth 4000 in
theorem rX12_goesBy_195 {G : jdG} {n rc rs : Nat} {Z : jdL} {I : jdI} {J : jdJ} {K : jdI → jdJ → Prop} {t : Nat} {x1 : Int32} {x2 : Int32} {x3 : Int32} {x4 : Int32} (ht : zModel Z t) (h : (((I t 10) ≤ x4 → K I J) ∧ (¬ (I t 10) ≤ x4 → Cl G mX12_has n 0 0 [.int x3, .int x4] Z I J (qi Z (fun v2 I1 J1 => ((v2 = 0 → (vp_in x4 7 ∧ (vp_in x4 7 ∧ Jd G mX12_goesBy (jdFm G (qv Z K)) (n + 1) rc rs 195 [(0, .ref (gb G + t)), (1, .int x1), (2, .int x2), (3, .int x3), (4, .int (x4 + 1))] [] Z (uI I1 (t + 33) (Int32.toNatClampNeg x4) (I1 (t + 33) (Int32.toNatClampNeg x4))) J1))) ∧ (¬ v2 = 0 → (vp_in x4 8 ∧ (vp_in x4 8 ∧ (vp_in x4 7 ∧ Jd G mX12_goesBy (jdFm G (qv Z K)) (n + 1) rc rs 195 [(0, .ref (gb G + t)), (1, .int x1), (2, .int x2), (3, .int x3), (4, .int (x4 + 1))] [] Z (uI I1 (t + 33) (Int32.toNatClampNeg x4) ((I1 (t + 19) (Int32.toNatClampNeg x4)) * (24 - (I1 (t + 18) (Int32.toNatClampNeg x4))))) J1)))))))))) : Jd G mX12_goesBy (jdFm G (qv Z K)) (n + 1) rc rs 195 [(0, .ref (gb G + t)), (1, .int x1), (2, .int x2), (3, .int x3), (4, .int x4)] [] Z I J := by
  refine jd_iload (pc := 195) 4 dX12_goesBy_195 rfl ?_
  refine jd_aload_n (pc := 197) 0 dX12_goesBy_197 rfl rfl ?_
  refine jd_getI (pc := 198) (ci := 11) (k := 10) gX12_85 ht.1 rfl dX12_goesBy_198 ?_
  refine jd_icmp_ge (pc := 201) 254 dX12_goesBy_201 (by decide) (fun hc => ?_) (fun hc => ?_)
  · have h := h.1 hc
    exact jd_vretK (pc := 254) rfl dX12_goesBy_254 h
  · have h := h.2 hc
    refine jd_aload_n (pc := 204) 0 dX12_goesBy_204 rfl rfl ?_
    refine jd_getR (pc := 205) (ci := 11) (k := 35) (r := (t + 33)) gX12_70 ht.1 rfl (zModel_p35 ht) dX12_goesBy_205 ?_
    refine jd_iload (pc := 208) 4 dX12_goesBy_208 rfl ?_
    refine jd_iload_n (pc := 210) 3 dX12_goesBy_210 rfl rfl ?_
    refine jd_iload (pc := 211) 4 dX12_goesBy_211 rfl ?_
    refine jd_callSi (pc := 213) (M2 := mX12_has) (av := [.int x3, .int x4]) kX12_has sX12_has lX12_151 rfl rfl (Nat.le_of_ble_eq_true rfl) dX12_goesBy_213 h ?_
    intro v2 I1 J1 h
    refine jd_if_eq (pc := 216) 240 dX12_goesBy_216 (by decide) (fun hc => ?_) (fun hc => ?_)
    · have h := h.1 hc
      refine jd_aload_n (pc := 240) 0 dX12_goesBy_240 rfl rfl ?_
      refine jd_getR (pc := 241) (ci := 11) (k := 35) (r := (t + 33)) gX12_70 ht.1 rfl (zModel_p35 ht) dX12_goesBy_241 ?_
      refine jd_iload (pc := 244) 4 dX12_goesBy_244 rfl ?_
      obtain ⟨hv3, h⟩ := h
      refine jd_iald (pc := 246) (len := 7) (zModel_a35 ht) hv3 dX12_goesBy_246 ?_
      obtain ⟨hv4, h⟩ := h
      refine jd_iast (pc := 247) (len := 7) (zModel_a35 ht) hv4 dX12_goesBy_247 ?_
      refine jd_iinc (pc := 248) (v := (x4 + 1)) 4 [(4, .int (x4 + 1)), (0, .ref (gb G + t)), (1, .int x1), (2, .int x2), (3, .int x3)] dX12_goesBy_248 rfl rfl (by decide) rfl ?_
      refine jd_goto (pc := 251) 195 dX12_goesBy_251 (by decide) ?_
      exact jd_lv (lv2 := [(0, .ref (gb G + t)), (1, .int x1), (2, .int x2), (3, .int x3), (4, .int (x4 + 1))]) [1, 2, 3, 4, 0] rfl h
    · have h := h.2 hc
      refine jd_aload_n (pc := 219) 0 dX12_goesBy_219 rfl rfl ?_
      refine jd_getR (pc := 220) (ci := 11) (k := 12) (r := (t + 19)) gX12_43 ht.1 rfl (zModel_p12 ht) dX12_goesBy_220 ?_
      refine jd_iload (pc := 223) 4 dX12_goesBy_223 rfl ?_
      obtain ⟨hv5, h⟩ := h
      refine jd_iald (pc := 225) (len := 8) (zModel_a12 ht) hv5 dX12_goesBy_225 ?_
      refine jd_bipush (pc := 226) (v := 24) dX12_goesBy_226 (by decide) ?_
      refine jd_aload_n (pc := 228) 0 dX12_goesBy_228 rfl rfl ?_
      refine jd_getR (pc := 229) (ci := 11) (k := 11) (r := (t + 18)) gX12_40 ht.1 rfl (zModel_p11 ht) dX12_goesBy_229 ?_
      refine jd_iload (pc := 232) 4 dX12_goesBy_232 rfl ?_
      obtain ⟨hv6, h⟩ := h
      refine jd_iald (pc := 234) (len := 8) (zModel_a11 ht) hv6 dX12_goesBy_234 ?_
      refine jd_isub (pc := 235) dX12_goesBy_235 ?_
      refine jd_imul (pc := 236) dX12_goesBy_236 ?_
      refine jd_goto (pc := 237) 247 dX12_goesBy_237 (by decide) ?_
      obtain ⟨hv7, h⟩ := h
      refine jd_iast (pc := 247) (len := 7) (zModel_a35 ht) hv7 dX12_goesBy_247 ?_
      refine jd_iinc (pc := 248) (v := (x4 + 1)) 4 [(4, .int (x4 + 1)), (0, .ref (gb G + t)), (1, .int x1), (2, .int x2), (3, .int x3)] dX12_goesBy_248 rfl rfl (by decide) rfl ?_
      refine jd_goto (pc := 251) 195 dX12_goesBy_251 (by decide) ?_
      exact jd_lv (lv2 := [(0, .ref (gb G + t)), (1, .int x1), (2, .int x2), (3, .int x3), (4, .int (x4 + 1))]) [1, 2, 3, 4, 0] rfl h
set_option maxRecDepth 4000 in
theorem rX12_goesBy_67 {G : jdG} {n rc rs : Nat} {Z : jdL} {I : jdI} {J : jdJ} {K : jdI → jdJ → Prop} {t : Nat} {x1 : Int32} {x2 : Int32} {x3 : Int32} {x4 : Int32} {x5 : Int32} {x6 : Int32} (ht : zModel Z t) (h : ((x6 = 0 → Jd G mX12_goesBy (jdFm G (qv Z K)) (n + 1) rc rs 14 [(0, .ref (gb G + t)), (1, .int x1), (2, .int x2), (3, .int x3), (4, .int (x4 + 1))] [] Z I J) ∧ (¬ x6 = 0 → (vp_in (I t 33) 7 ∧ Jd G mX12_goesBy (jdFm G (qv Z K)) (n + 1) rc rs 100 [(0, .ref (gb G + t)), (1, .int x1), (2, .int x2), (3, .int (x3 &&& (x6 ^^^ (-1)))), (4, .int x4), (5, .int x5), (6, .int x6), (7, .int 0)] [] Z (uI (uI I t 33 ((I t 33) + 1)) (t + 32) (Int32.toNatClampNeg (I t 33)) x6) J)))) : Jd G mX12_goesBy (jdFm G (qv Z K)) (n + 1) rc rs 67 [(0, .ref (gb G + t)), (1, .int x1), (2, .int x2), (3, .int x3), (4, .int x4), (5, .int x5), (6, .int x6)] [] Z I J := by
  refine jd_iload (pc := 67) 6 dX12_goesBy_67 rfl ?_
  refine jd_if_eq (pc := 69) 181 dX12_goesBy_69 (by decide) (fun hc => ?_) (fun hc => ?_)
  · have h := h.1 hc
    refine jd_iinc (pc := 181) (v := (x4 + 1)) 4 [(4, .int (x4 + 1)), (0, .ref (gb G + t)), (1, .int x1), (2, .int x2), (3, .int x3), (5, .int x5), (6, .int x6)] dX12_goesBy_181 rfl rfl (by decide) rfl ?_
    refine jd_goto (pc := 184) 14 dX12_goesBy_184 (by decide) ?_
    exact jd_lv (lv2 := [(0, .ref (gb G + t)), (1, .int x1), (2, .int x2), (3, .int x3), (4, .int (x4 + 1))]) [1, 2, 3, 4, 0] rfl h
  · have h := h.2 hc
    refine jd_aload_n (pc := 72) 0 dX12_goesBy_72 rfl rfl ?_
    refine jd_getR (pc := 73) (ci := 11) (k := 32) (r := (t + 32)) gX12_67 ht.1 rfl (zModel_p32 ht) dX12_goesBy_73 ?_
    refine jd_aload_n (pc := 76) 0 dX12_goesBy_76 rfl rfl ?_
    refine jd_dup (pc := 77) dX12_goesBy_77 rfl ?_
    refine jd_getI (pc := 78) (ci := 11) (k := 33) gX12_296 ht.1 rfl dX12_goesBy_78 ?_
    refine jd_dup_x1 (pc := 81) dX12_goesBy_81 rfl rfl ?_
    refine jd_iconst (pc := 82) (v := 1) dX12_goesBy_82 (by decide) ?_
    refine jd_iadd (pc := 83) dX12_goesBy_83 ?_
    refine jd_putI (pc := 84) (ci := 11) (k := 33) pX12_296 ht.1 rfl rfl rfl dX12_goesBy_84 ?_
    refine jd_iload (pc := 87) 6 dX12_goesBy_87 rfl ?_
    obtain ⟨hv1, h⟩ := h
    refine jd_iast (pc := 89) (len := 7) (zModel_a32 ht) hv1 dX12_goesBy_89 ?_
    refine jd_iload_n (pc := 90) 3 dX12_goesBy_90 rfl rfl ?_
    refine jd_iload (pc := 91) 6 dX12_goesBy_91 rfl ?_
    refine jd_iconst (pc := 93) (v := (-1)) dX12_goesBy_93 (by decide) ?_
    refine jd_ixor (pc := 94) dX12_goesBy_94 ?_
    refine jd_iand (pc := 95) dX12_goesBy_95 ?_
    refine jd_istore_n (pc := 96) [(3, .int (x3 &&& (x6 ^^^ (-1)))), (0, .ref (gb G + t)), (1, .int x1), (2, .int x2), (4, .int x4), (5, .int x5), (6, .int x6)] dX12_goesBy_96 rfl (by decide) rfl ?_
    refine jd_iconst (pc := 97) (v := 0) dX12_goesBy_97 (by decide) ?_
    refine jd_istore (pc := 98) [(7, .int 0), (3, .int (x3 &&& (x6 ^^^ (-1)))), (0, .ref (gb G + t)), (1, .int x1), (2, .int x2), (4, .int x4), (5, .int x5), (6, .int x6)] dX12_goesBy_98 (by decide) rfl ?_
    exact jd_lv (lv2 := [(0, .ref (gb G + t)), (1, .int x1), (2, .int x2), (3, .int (x3 &&& (x6 ^^^ (-1)))), (4, .int x4), (5, .int x5), (6, .int x6), (7, .int 0)]) [2, 3, 4, 1, 5, 6, 7, 0] rfl h
set_option maxRecDepth 4000 in
theorem rX12_goesBy_100 {G : jdG} {n rc rs : Nat} {Z : jdL} {I : jdI} {J : jdJ} {K : jdI → jdJ → Prop} {t : Nat} {x1 : Int32} {x2 : Int32} {x3 : Int32} {x4 : Int32} {x5 : Int32} {x6 : Int32} {x7 : Int32} (ht : zModel Z t) (h : (((I t 10) ≤ x7 → Cl G mX12_sentBy n 0 0 [.ref (gb G + t), .int x1, .int x2, .int x3, .int (((I t 10) - 1) - x4)] Z I J (qi Z (fun v2 I1 J1 => Jd G mX12_goesBy (jdFm G (qv Z K)) (n + 1) rc rs 67 [(0, .ref (gb G + t)), (1, .int x1), (2, .int x2), (3, .int x3), (4, .int x4), (5, .int x5), (6, .int v2)] [] Z I1 J1))) ∧ (¬ (I t 10) ≤ x7 → Cl G mX12_has n 0 0 [.int x6, .int x7] Z I J (qi Z (fun v4 I3 J3 => ((v4 = 0 → (vp_in x7 7 ∧ (vp_in x7 7 ∧ Jd G mX12_goesBy (jdFm G (qv Z K)) (n + 1) rc rs 100 [(0, .ref (gb G + t)), (1, .int x1), (2, .int x2), (3, .int x3), (4, .int x4), (5, .int x5), (6, .int x6), (7, .int (x7 + 1))] [] Z (uI I3 (t + 33) (Int32.toNatClampNeg x7) (I3 (t + 33) (Int32.toNatClampNeg x7))) J3))) ∧ (¬ v4 = 0 → (vp_in x7 8 ∧ (vp_in x7 8 ∧ (vp_in x7 7 ∧ Jd G mX12_goesBy (jdFm G (qv Z K)) (n + 1) rc rs 100 [(0, .ref (gb G + t)), (1, .int x1), (2, .int x2), (3, .int x3), (4, .int x4), (5, .int x5), (6, .int x6), (7, .int (x7 + 1))] [] Z (uI I3 (t + 33) (Int32.toNatClampNeg x7) ((I3 (t + 19) (Int32.toNatClampNeg x7)) * (x5 - (I3 (t + 18) (Int32.toNatClampNeg x7))))) J3)))))))))) : Jd G mX12_goesBy (jdFm G (qv Z K)) (n + 1) rc rs 100 [(0, .ref (gb G + t)), (1, .int x1), (2, .int x2), (3, .int x3), (4, .int x4), (5, .int x5), (6, .int x6), (7, .int x7)] [] Z I J := by
  refine jd_iload (pc := 100) 7 dX12_goesBy_100 rfl ?_
  refine jd_aload_n (pc := 102) 0 dX12_goesBy_102 rfl rfl ?_
  refine jd_getI (pc := 103) (ci := 11) (k := 10) gX12_85 ht.1 rfl dX12_goesBy_103 ?_
  refine jd_icmp_ge (pc := 106) 160 dX12_goesBy_106 (by decide) (fun hc => ?_) (fun hc => ?_)
  · have h := h.1 hc
    refine jd_aload_n (pc := 160) 0 dX12_goesBy_160 rfl rfl ?_
    refine jd_iload_n (pc := 161) 1 dX12_goesBy_161 rfl rfl ?_
    refine jd_iload_n (pc := 162) 2 dX12_goesBy_162 rfl rfl ?_
    refine jd_iload_n (pc := 163) 3 dX12_goesBy_163 rfl rfl ?_
    refine jd_aload_n (pc := 164) 0 dX12_goesBy_164 rfl rfl ?_
    refine jd_getI (pc := 165) (ci := 11) (k := 10) gX12_85 ht.1 rfl dX12_goesBy_165 ?_
    refine jd_iconst (pc := 168) (v := 1) dX12_goesBy_168 (by decide) ?_
    refine jd_isub (pc := 169) dX12_goesBy_169 ?_
    refine jd_iload (pc := 170) 4 dX12_goesBy_170 rfl ?_
    refine jd_isub (pc := 172) dX12_goesBy_172 ?_
    refine jd_callVi (pc := 173) (M2 := mX12_sentBy) (id := t) (ci := 11) (T := TX12) (N := 45) (av := [.int x1, .int x2, .int x3, .int (((I t 10) - 1) - x4)]) kX12_sentBy sX12_sentBy rfl ht.1 lX12_121 rfl rfl (Nat.le_of_ble_eq_true rfl) dX12_goesBy_173 h ?_
    intro v2 I1 J1 h
    refine jd_istore (pc := 176) [(6, .int v2), (0, .ref (gb G + t)), (1, .int x1), (2, .int x2), (3, .int x3), (4, .int x4), (5, .int x5), (7, .int x7)] dX12_goesBy_176 (by decide) rfl ?_
    refine jd_goto (pc := 178) 67 dX12_goesBy_178 (by decide) ?_
    exact jd_lv (lv2 := [(0, .ref (gb G + t)), (1, .int x1), (2, .int x2), (3, .int x3), (4, .int x4), (5, .int x5), (6, .int v2)]) [1, 2, 3, 4, 5, 6, 0] rfl h
  · have h := h.2 hc
    refine jd_aload_n (pc := 109) 0 dX12_goesBy_109 rfl rfl ?_
    refine jd_getR (pc := 110) (ci := 11) (k := 35) (r := (t + 33)) gX12_70 ht.1 rfl (zModel_p35 ht) dX12_goesBy_110 ?_
    refine jd_iload (pc := 113) 7 dX12_goesBy_113 rfl ?_
    refine jd_iload (pc := 115) 6 dX12_goesBy_115 rfl ?_
    refine jd_iload (pc := 117) 7 dX12_goesBy_117 rfl ?_
    refine jd_callSi (pc := 119) (M2 := mX12_has) (av := [.int x6, .int x7]) kX12_has sX12_has lX12_151 rfl rfl (Nat.le_of_ble_eq_true rfl) dX12_goesBy_119 h ?_
    intro v4 I3 J3 h
    refine jd_if_eq (pc := 122) 146 dX12_goesBy_122 (by decide) (fun hc => ?_) (fun hc => ?_)
    · have h := h.1 hc
      refine jd_aload_n (pc := 146) 0 dX12_goesBy_146 rfl rfl ?_
      refine jd_getR (pc := 147) (ci := 11) (k := 35) (r := (t + 33)) gX12_70 ht.1 rfl (zModel_p35 ht) dX12_goesBy_147 ?_
      refine jd_iload (pc := 150) 7 dX12_goesBy_150 rfl ?_
      obtain ⟨hv5, h⟩ := h
      refine jd_iald (pc := 152) (len := 7) (zModel_a35 ht) hv5 dX12_goesBy_152 ?_
      obtain ⟨hv6, h⟩ := h
      refine jd_iast (pc := 153) (len := 7) (zModel_a35 ht) hv6 dX12_goesBy_153 ?_
      refine jd_iinc (pc := 154) (v := (x7 + 1)) 7 [(7, .int (x7 + 1)), (0, .ref (gb G + t)), (1, .int x1), (2, .int x2), (3, .int x3), (4, .int x4), (5, .int x5), (6, .int x6)] dX12_goesBy_154 rfl rfl (by decide) rfl ?_
      refine jd_goto (pc := 157) 100 dX12_goesBy_157 (by decide) ?_
      exact jd_lv (lv2 := [(0, .ref (gb G + t)), (1, .int x1), (2, .int x2), (3, .int x3), (4, .int x4), (5, .int x5), (6, .int x6), (7, .int (x7 + 1))]) [1, 2, 3, 4, 5, 6, 7, 0] rfl h
    · have h := h.2 hc
      refine jd_aload_n (pc := 125) 0 dX12_goesBy_125 rfl rfl ?_
      refine jd_getR (pc := 126) (ci := 11) (k := 12) (r := (t + 19)) gX12_43 ht.1 rfl (zModel_p12 ht) dX12_goesBy_126 ?_
      refine jd_iload (pc := 129) 7 dX12_goesBy_129 rfl ?_
      obtain ⟨hv7, h⟩ := h
      refine jd_iald (pc := 131) (len := 8) (zModel_a12 ht) hv7 dX12_goesBy_131 ?_
      refine jd_iload (pc := 132) 5 dX12_goesBy_132 rfl ?_
      refine jd_aload_n (pc := 134) 0 dX12_goesBy_134 rfl rfl ?_
      refine jd_getR (pc := 135) (ci := 11) (k := 11) (r := (t + 18)) gX12_40 ht.1 rfl (zModel_p11 ht) dX12_goesBy_135 ?_
      refine jd_iload (pc := 138) 7 dX12_goesBy_138 rfl ?_
      obtain ⟨hv8, h⟩ := h
      refine jd_iald (pc := 140) (len := 8) (zModel_a11 ht) hv8 dX12_goesBy_140 ?_
      refine jd_isub (pc := 141) dX12_goesBy_141 ?_
      refine jd_imul (pc := 142) dX12_goesBy_142 ?_
      refine jd_goto (pc := 143) 153 dX12_goesBy_143 (by decide) ?_
      obtain ⟨hv9, h⟩ := h
      refine jd_iast (pc := 153) (len := 7) (zModel_a35 ht) hv9 dX12_goesBy_153 ?_
      refine jd_iinc (pc := 154) (v := (x7 + 1)) 7 [(7, .int (x7 + 1)), (0, .ref (gb G + t)), (1, .int x1), (2, .int x2), (3, .int x3), (4, .int x4), (5, .int x5), (6, .int x6)] dX12_goesBy_154 rfl rfl (by decide) rfl ?_
      refine jd_goto (pc := 157) 100 dX12_goesBy_157 (by decide) ?_
      exact jd_lv (lv2 := [(0, .ref (gb G + t)), (1, .int x1), (2, .int x2), (3, .int x3), (4, .int x4), (5, .int x5), (6, .int x6), (7, .int (x7 + 1))]) [1, 2, 3, 4, 5, 6, 7, 0] rfl h
theorem eX12_goesBy {G : jdG} {n : Nat} {Z : jdL} {I : jdI} {J : jdJ} {K : jdI → jdJ → Prop} {t : Nat} {x1 : Int32} {x2 : Int32} (ht : zModel Z t) (h : Cl G mX12_findComing n 0 0 [.ref (gb G + t)] Z I J (qv Z (fun I1 J1 => Jd G mX12_goesBy (jdFm G (qv Z K)) (n + 1) 0 0 14 [(0, .ref (gb G + t)), (1, .int x1), (2, .int x2), (3, .int 0), (4, .int 0)] [] Z (uI I1 t 33 0) J1))) : Cl G mX12_goesBy (n + 1) 0 0 [.ref (gb G + t), .int x1, .int x2] Z I J (qv Z K) :=
  Cl.of (by decide +kernel) (Nat.le_of_ble_eq_true rfl) (rX12_goesBy_0 ht h)
set_option maxRecDepth 4000 in
theorem rX12_waitedAll_0 {G : jdG} {n rc rs : Nat} {Z : jdL} {I : jdI} {J : jdJ} {K : Int32 → jdI → jdJ → Prop} {t : Nat} (ht : zModel Z t) (h : Jd G mX12_waitedAll (jdFm G (qi Z K)) n rc rs 4 [(0, .ref (gb G + t)), (1, .int 0), (2, .int 0)] [] Z I J) : Jd G mX12_waitedAll (jdFm G (qi Z K)) n rc rs 0 [(0, .ref (gb G + t))] [] Z I J := by
  refine jd_iconst (pc := 0) (v := 0) dX12_waitedAll_0 (by decide) ?_
  refine jd_istore_n (pc := 1) [(1, .int 0), (0, .ref (gb G + t))] dX12_waitedAll_1 rfl (by decide) rfl ?_
  refine jd_iconst (pc := 2) (v := 0) dX12_waitedAll_2 (by decide) ?_
  refine jd_istore_n (pc := 3) [(2, .int 0), (1, .int 0), (0, .ref (gb G + t))] dX12_waitedAll_3 rfl (by decide) rfl ?_
  exact jd_lv (lv2 := [(0, .ref (gb G + t)), (1, .int 0), (2, .int 0)]) [2, 1, 0] rfl h
set_option maxRecDepth 4000 in
theorem rX12_waitedAll_4 {G : jdG} {n rc rs : Nat} {Z : jdL} {I : jdI} {J : jdJ} {K : Int32 → jdI → jdJ → Prop} {t : Nat} {x1 : Int32} {x2 : Int32} (ht : zModel Z t) (h : (((I t 10) ≤ x2 → K x1 I J) ∧ (¬ (I t 10) ≤ x2 → (vp_in x2 7 ∧ Jd G mX12_waitedAll (jdFm G (qi Z K)) n rc rs 4 [(0, .ref (gb G + t)), (1, .int (x1 + (I (t + 33) (Int32.toNatClampNeg x2)))), (2, .int (x2 + 1))] [] Z I J)))) : Jd G mX12_waitedAll (jdFm G (qi Z K)) n rc rs 4 [(0, .ref (gb G + t)), (1, .int x1), (2, .int x2)] [] Z I J := by
  refine jd_iload_n (pc := 4) 2 dX12_waitedAll_4 rfl rfl ?_
  refine jd_aload_n (pc := 5) 0 dX12_waitedAll_5 rfl rfl ?_
  refine jd_getI (pc := 6) (ci := 11) (k := 10) gX12_85 ht.1 rfl dX12_waitedAll_6 ?_
  refine jd_icmp_ge (pc := 9) 27 dX12_waitedAll_9 (by decide) (fun hc => ?_) (fun hc => ?_)
  · have h := h.1 hc
    refine jd_iload_n (pc := 27) 1 dX12_waitedAll_27 rfl rfl ?_
    exact jd_iretK (pc := 28) rfl rfl dX12_waitedAll_28 h
  · have h := h.2 hc
    refine jd_iload_n (pc := 12) 1 dX12_waitedAll_12 rfl rfl ?_
    refine jd_aload_n (pc := 13) 0 dX12_waitedAll_13 rfl rfl ?_
    refine jd_getR (pc := 14) (ci := 11) (k := 35) (r := (t + 33)) gX12_70 ht.1 rfl (zModel_p35 ht) dX12_waitedAll_14 ?_
    refine jd_iload_n (pc := 17) 2 dX12_waitedAll_17 rfl rfl ?_
    obtain ⟨hv1, h⟩ := h
    refine jd_iald (pc := 18) (len := 7) (zModel_a35 ht) hv1 dX12_waitedAll_18 ?_
    refine jd_iadd (pc := 19) dX12_waitedAll_19 ?_
    refine jd_istore_n (pc := 20) [(1, .int (x1 + (I (t + 33) (Int32.toNatClampNeg x2)))), (0, .ref (gb G + t)), (2, .int x2)] dX12_waitedAll_20 rfl (by decide) rfl ?_
    refine jd_iinc (pc := 21) (v := (x2 + 1)) 2 [(2, .int (x2 + 1)), (1, .int (x1 + (I (t + 33) (Int32.toNatClampNeg x2)))), (0, .ref (gb G + t))] dX12_waitedAll_21 rfl rfl (by decide) rfl ?_
    refine jd_goto (pc := 24) 4 dX12_waitedAll_24 (by decide) ?_
    exact jd_lv (lv2 := [(0, .ref (gb G + t)), (1, .int (x1 + (I (t + 33) (Int32.toNatClampNeg x2)))), (2, .int (x2 + 1))]) [2, 1, 0] rfl h
theorem eX12_waitedAll {G : jdG} {n : Nat} {Z : jdL} {I : jdI} {J : jdJ} {K : Int32 → jdI → jdJ → Prop} {t : Nat} (ht : zModel Z t) (h : Jd G mX12_waitedAll (jdFm G (qi Z K)) n 0 0 4 [(0, .ref (gb G + t)), (1, .int 0), (2, .int 0)] [] Z I J) : Cl G mX12_waitedAll (n) 0 0 [.ref (gb G + t)] Z I J (qi Z K) :=
  Cl.of (by decide +kernel) (Nat.le_of_ble_eq_true rfl) (rX12_waitedAll_0 ht h)
set_option maxRecDepth 4000 in
theorem rX12_run_0 {G : jdG} {n rc rs : Nat} {Z : jdL} {I : jdI} {J : jdJ} {K : Int32 → jdI → jdJ → Prop} {t : Nat} {x1 : Int32} (ht : zModel Z t) (h : Cl G mX12_noMan n 0 0 [.ref (gb G + t), .int x1] Z I J (qi Z (fun v2 I1 J1 => ((v2 = 0 → (vp_in x1 8 ∧ (vp_in x1 8 ∧ Cl G mX12_goesBy n 0 0 [.ref (gb G + t), .int (I1 (t + 14) (Int32.toNatClampNeg x1)), .int (I1 (t + 15) (Int32.toNatClampNeg x1))] Z I1 J1 (qv Z (fun I5 J5 => K (I5 t 33) I5 J5))))) ∧ (¬ v2 = 0 → K v2 I1 J1))))) : Jd G mX12_run (jdFm G (qi Z K)) (n + 1) rc rs 0 [(0, .ref (gb G + t)), (1, .int x1)] [] Z I J := by
  refine jd_aload_n (pc := 0) 0 dX12_run_0 rfl rfl ?_
  refine jd_iload_n (pc := 1) 1 dX12_run_1 rfl rfl ?_
  refine jd_callVi (pc := 2) (M2 := mX12_noMan) (id := t) (ci := 11) (T := TX12) (N := 45) (av := [.int x1]) kX12_noMan sX12_noMan rfl ht.1 lX12_290 rfl rfl (Nat.le_of_ble_eq_true rfl) dX12_run_2 h ?_
  intro v2 I1 J1 h
  refine jd_istore_n (pc := 5) [(2, .int v2), (0, .ref (gb G + t)), (1, .int x1)] dX12_run_5 rfl (by decide) rfl ?_
  refine jd_iload_n (pc := 6) 0 dX12_run_6 rfl rfl ?_
  refine jd_if_eq (pc := 7) 12 dX12_run_7 (by decide) (fun hc => ?_) (fun hc => ?_)
  · have h := h.1 hc
    refine jd_aload_n (pc := 12) 1 dX12_run_12 rfl rfl ?_
    refine jd_aload_n (pc := 13) 1 dX12_run_13 rfl rfl ?_
    refine jd_getR (pc := 14) (ci := 11) (k := 5) (r := (t + 14)) gX12_28 ht.1 rfl (zModel_p5 ht) dX12_run_14 ?_
    refine jd_iload_n (pc := 17) 2 dX12_run_17 rfl rfl ?_
    obtain ⟨hv3, h⟩ := h
    refine jd_iald (pc := 18) (len := 8) (zModel_a5 ht) hv3 dX12_run_18 ?_
    refine jd_aload_n (pc := 19) 1 dX12_run_19 rfl rfl ?_
    refine jd_getR (pc := 20) (ci := 11) (k := 6) (r := (t + 15)) gX12_31 ht.1 rfl (zModel_p6 ht) dX12_run_20 ?_
    refine jd_iload_n (pc := 23) 2 dX12_run_23 rfl rfl ?_
    obtain ⟨hv4, h⟩ := h
    refine jd_iald (pc := 24) (len := 8) (zModel_a6 ht) hv4 dX12_run_24 ?_
    refine jd_callVv (pc := 25) (M2 := mX12_goesBy) (id := t) (ci := 11) (T := TX12) (N := 45) (av := [.int (I1 (t + 14) (Int32.toNatClampNeg x1)), .int (I1 (t + 15) (Int32.toNatClampNeg x1))]) kX12_goesBy sX12_goesBy rfl ht.1 lX12_302 rfl rfl (Nat.le_of_ble_eq_true rfl) dX12_run_25 h ?_
    intro I5 J5 h
    refine jd_aload_n (pc := 28) 1 dX12_run_28 rfl rfl ?_
    refine jd_getI (pc := 29) (ci := 11) (k := 33) gX12_296 ht.1 rfl dX12_run_29 ?_
    exact jd_iretK (pc := 32) rfl rfl dX12_run_32 h
  · have h := h.2 hc
    refine jd_iload_n (pc := 10) 0 dX12_run_10 rfl rfl ?_
    exact jd_iretK (pc := 11) rfl rfl dX12_run_11 h
theorem eX12_run {G : jdG} {n : Nat} {Z : jdL} {I : jdI} {J : jdJ} {K : Int32 → jdI → jdJ → Prop} {t : Nat} {x1 : Int32} (ht : zModel Z t) (h : Cl G mX12_noMan n 0 0 [.ref (gb G + t), .int x1] Z I J (qi Z (fun v2 I1 J1 => ((v2 = 0 → (vp_in x1 8 ∧ (vp_in x1 8 ∧ Cl G mX12_goesBy n 0 0 [.ref (gb G + t), .int (I1 (t + 14) (Int32.toNatClampNeg x1)), .int (I1 (t + 15) (Int32.toNatClampNeg x1))] Z I1 J1 (qv Z (fun I5 J5 => K (I5 t 33) I5 J5))))) ∧ (¬ v2 = 0 → K v2 I1 J1))))) : Cl G mX12_run (n + 1) 0 0 [.ref (gb G + t), .int x1] Z I J (qi Z K) :=
  Cl.of (by decide +kernel) (Nat.le_of_ble_eq_true rfl) (rX12_run_0 ht h)
set_option maxRecDepth 4000 in
theorem rX12_coach_0 {G : jdG} {n rc rs : Nat} {Z : jdL} {I : jdI} {J : jdJ} {K : Int32 → jdI → jdJ → Prop} {t : Nat} {x1 : Int32} {x2 : Int32} (ht : zModel Z t) (h : Cl G mX12_noMan n 0 0 [.ref (gb G + t), .int x1] Z I J (qi Z (fun v2 I1 J1 => ((v2 = 0 → (vp_in x1 8 ∧ (vp_in x1 8 ∧ Cl G mX12_goesBy n 0 0 [.ref (gb G + t), .int (I1 (t + 14) (Int32.toNatClampNeg x1)), .int (I1 (t + 15) (Int32.toNatClampNeg x1))] Z I1 J1 (qv Z (fun I5 J5 => Cl G mX12_in n 0 0 [.long (Int32.toInt64 x2), .long 0, .long (Int32.toInt64 ((I5 t 33) - 1))] Z I5 J5 (qi Z (fun v8 I7 J7 => ((v8 = 0 → Cl G mX12_refuse n 0 0 [.ref (gb G + t), .int (-5)] Z I7 J7 (qi Z (fun v10 I9 J9 => K v10 I9 J9))) ∧ (¬ v8 = 0 → (vp_in x2 7 ∧ K (I7 (t + 32) (Int32.toNatClampNeg x2)) I7 J7)))))))))) ∧ (¬ v2 = 0 → K v2 I1 J1))))) : Jd G mX12_coach (jdFm G (qi Z K)) (n + 1) rc rs 0 [(0, .ref (gb G + t)), (1, .int x1), (2, .int x2)] [] Z I J := by
  refine jd_aload_n (pc := 0) 0 dX12_coach_0 rfl rfl ?_
  refine jd_iload_n (pc := 1) 1 dX12_coach_1 rfl rfl ?_
  refine jd_callVi (pc := 2) (M2 := mX12_noMan) (id := t) (ci := 11) (T := TX12) (N := 45) (av := [.int x1]) kX12_noMan sX12_noMan rfl ht.1 lX12_290 rfl rfl (Nat.le_of_ble_eq_true rfl) dX12_coach_2 h ?_
  intro v2 I1 J1 h
  refine jd_istore_n (pc := 5) [(3, .int v2), (0, .ref (gb G + t)), (1, .int x1), (2, .int x2)] dX12_coach_5 rfl (by decide) rfl ?_
  refine jd_iload_n (pc := 6) 0 dX12_coach_6 rfl rfl ?_
  refine jd_if_eq (pc := 7) 12 dX12_coach_7 (by decide) (fun hc => ?_) (fun hc => ?_)
  · have h := h.1 hc
    refine jd_aload_n (pc := 12) 1 dX12_coach_12 rfl rfl ?_
    refine jd_aload_n (pc := 13) 1 dX12_coach_13 rfl rfl ?_
    refine jd_getR (pc := 14) (ci := 11) (k := 5) (r := (t + 14)) gX12_28 ht.1 rfl (zModel_p5 ht) dX12_coach_14 ?_
    refine jd_iload_n (pc := 17) 2 dX12_coach_17 rfl rfl ?_
    obtain ⟨hv3, h⟩ := h
    refine jd_iald (pc := 18) (len := 8) (zModel_a5 ht) hv3 dX12_coach_18 ?_
    refine jd_aload_n (pc := 19) 1 dX12_coach_19 rfl rfl ?_
    refine jd_getR (pc := 20) (ci := 11) (k := 6) (r := (t + 15)) gX12_31 ht.1 rfl (zModel_p6 ht) dX12_coach_20 ?_
    refine jd_iload_n (pc := 23) 2 dX12_coach_23 rfl rfl ?_
    obtain ⟨hv4, h⟩ := h
    refine jd_iald (pc := 24) (len := 8) (zModel_a6 ht) hv4 dX12_coach_24 ?_
    refine jd_callVv (pc := 25) (M2 := mX12_goesBy) (id := t) (ci := 11) (T := TX12) (N := 45) (av := [.int (I1 (t + 14) (Int32.toNatClampNeg x1)), .int (I1 (t + 15) (Int32.toNatClampNeg x1))]) kX12_goesBy sX12_goesBy rfl ht.1 lX12_302 rfl rfl (Nat.le_of_ble_eq_true rfl) dX12_coach_25 h ?_
    intro I5 J5 h
    refine jd_iload_n (pc := 28) 3 dX12_coach_28 rfl rfl ?_
    refine jd_i2l (pc := 29) dX12_coach_29 ?_
    refine jd_lconst (pc := 30) (v := 0) dX12_coach_30 (by decide) ?_
    refine jd_aload_n (pc := 31) 1 dX12_coach_31 rfl rfl ?_
    refine jd_getI (pc := 32) (ci := 11) (k := 33) gX12_296 ht.1 rfl dX12_coach_32 ?_
    refine jd_iconst (pc := 35) (v := 1) dX12_coach_35 (by decide) ?_
    refine jd_isub (pc := 36) dX12_coach_36 ?_
    refine jd_i2l (pc := 37) dX12_coach_37 ?_
    refine jd_callSi (pc := 38) (M2 := mX12_in) (av := [.long (Int32.toInt64 x2), .long 0, .long (Int32.toInt64 ((I5 t 33) - 1))]) kX12_in sX12_in lX12_88 rfl rfl (Nat.le_of_ble_eq_true rfl) dX12_coach_38 h ?_
    intro v8 I7 J7 h
    refine jd_if_eq (pc := 41) 53 dX12_coach_41 (by decide) (fun hc => ?_) (fun hc => ?_)
    · have h := h.1 hc
      refine jd_aload_n (pc := 53) 1 dX12_coach_53 rfl rfl ?_
      refine jd_bipush (pc := 54) (v := (-5)) dX12_coach_54 (by decide) ?_
      refine jd_callVi (pc := 56) (M2 := mX12_refuse) (id := t) (ci := 11) (T := TX12) (N := 45) (av := [.int (-5)]) kX12_refuse sX12_refuse rfl ht.1 lX12_102 rfl rfl (Nat.le_of_ble_eq_true rfl) dX12_coach_56 h ?_
      intro v10 I9 J9 h
      exact jd_iretK (pc := 59) rfl rfl dX12_coach_59 h
    · have h := h.2 hc
      refine jd_aload_n (pc := 44) 1 dX12_coach_44 rfl rfl ?_
      refine jd_getR (pc := 45) (ci := 11) (k := 32) (r := (t + 32)) gX12_67 ht.1 rfl (zModel_p32 ht) dX12_coach_45 ?_
      refine jd_iload_n (pc := 48) 3 dX12_coach_48 rfl rfl ?_
      obtain ⟨hv11, h⟩ := h
      refine jd_iald (pc := 49) (len := 7) (zModel_a32 ht) hv11 dX12_coach_49 ?_
      refine jd_goto (pc := 50) 59 dX12_coach_50 (by decide) ?_
      exact jd_iretK (pc := 59) rfl rfl dX12_coach_59 h
  · have h := h.2 hc
    refine jd_iload_n (pc := 10) 0 dX12_coach_10 rfl rfl ?_
    exact jd_iretK (pc := 11) rfl rfl dX12_coach_11 h
theorem eX12_coach {G : jdG} {n : Nat} {Z : jdL} {I : jdI} {J : jdJ} {K : Int32 → jdI → jdJ → Prop} {t : Nat} {x1 : Int32} {x2 : Int32} (ht : zModel Z t) (h : Cl G mX12_noMan n 0 0 [.ref (gb G + t), .int x1] Z I J (qi Z (fun v2 I1 J1 => ((v2 = 0 → (vp_in x1 8 ∧ (vp_in x1 8 ∧ Cl G mX12_goesBy n 0 0 [.ref (gb G + t), .int (I1 (t + 14) (Int32.toNatClampNeg x1)), .int (I1 (t + 15) (Int32.toNatClampNeg x1))] Z I1 J1 (qv Z (fun I5 J5 => Cl G mX12_in n 0 0 [.long (Int32.toInt64 x2), .long 0, .long (Int32.toInt64 ((I5 t 33) - 1))] Z I5 J5 (qi Z (fun v8 I7 J7 => ((v8 = 0 → Cl G mX12_refuse n 0 0 [.ref (gb G + t), .int (-5)] Z I7 J7 (qi Z (fun v10 I9 J9 => K v10 I9 J9))) ∧ (¬ v8 = 0 → (vp_in x2 7 ∧ K (I7 (t + 32) (Int32.toNatClampNeg x2)) I7 J7)))))))))) ∧ (¬ v2 = 0 → K v2 I1 J1))))) : Cl G mX12_coach (n + 1) 0 0 [.ref (gb G + t), .int x1, .int x2] Z I J (qi Z K) :=
  Cl.of (by decide +kernel) (Nat.le_of_ble_eq_true rfl) (rX12_coach_0 ht h)
set_option maxRecDepth 4000 in
theorem rX12_left_0 {G : jdG} {n rc rs : Nat} {Z : jdL} {I : jdI} {J : jdJ} {K : Int32 → jdI → jdJ → Prop} {t : Nat} {x1 : Int32} (ht : zModel Z t) (h : Cl G mX12_noMan n 0 0 [.ref (gb G + t), .int x1] Z I J (qi Z (fun v2 I1 J1 => ((v2 = 0 → (vp_in x1 8 ∧ (vp_in x1 8 ∧ Cl G mX12_goesBy n 0 0 [.ref (gb G + t), .int (I1 (t + 14) (Int32.toNatClampNeg x1)), .int (I1 (t + 15) (Int32.toNatClampNeg x1))] Z I1 J1 (qv Z (fun I5 J5 => K (I5 t 34) I5 J5))))) ∧ (¬ v2 = 0 → K v2 I1 J1))))) : Jd G mX12_left (jdFm G (qi Z K)) (n + 1) rc rs 0 [(0, .ref (gb G + t)), (1, .int x1)] [] Z I J := by
  refine jd_aload_n (pc := 0) 0 dX12_left_0 rfl rfl ?_
  refine jd_iload_n (pc := 1) 1 dX12_left_1 rfl rfl ?_
  refine jd_callVi (pc := 2) (M2 := mX12_noMan) (id := t) (ci := 11) (T := TX12) (N := 45) (av := [.int x1]) kX12_noMan sX12_noMan rfl ht.1 lX12_290 rfl rfl (Nat.le_of_ble_eq_true rfl) dX12_left_2 h ?_
  intro v2 I1 J1 h
  refine jd_istore_n (pc := 5) [(2, .int v2), (0, .ref (gb G + t)), (1, .int x1)] dX12_left_5 rfl (by decide) rfl ?_
  refine jd_iload_n (pc := 6) 0 dX12_left_6 rfl rfl ?_
  refine jd_if_eq (pc := 7) 12 dX12_left_7 (by decide) (fun hc => ?_) (fun hc => ?_)
  · have h := h.1 hc
    refine jd_aload_n (pc := 12) 1 dX12_left_12 rfl rfl ?_
    refine jd_aload_n (pc := 13) 1 dX12_left_13 rfl rfl ?_
    refine jd_getR (pc := 14) (ci := 11) (k := 5) (r := (t + 14)) gX12_28 ht.1 rfl (zModel_p5 ht) dX12_left_14 ?_
    refine jd_iload_n (pc := 17) 2 dX12_left_17 rfl rfl ?_
    obtain ⟨hv3, h⟩ := h
    refine jd_iald (pc := 18) (len := 8) (zModel_a5 ht) hv3 dX12_left_18 ?_
    refine jd_aload_n (pc := 19) 1 dX12_left_19 rfl rfl ?_
    refine jd_getR (pc := 20) (ci := 11) (k := 6) (r := (t + 15)) gX12_31 ht.1 rfl (zModel_p6 ht) dX12_left_20 ?_
    refine jd_iload_n (pc := 23) 2 dX12_left_23 rfl rfl ?_
    obtain ⟨hv4, h⟩ := h
    refine jd_iald (pc := 24) (len := 8) (zModel_a6 ht) hv4 dX12_left_24 ?_
    refine jd_callVv (pc := 25) (M2 := mX12_goesBy) (id := t) (ci := 11) (T := TX12) (N := 45) (av := [.int (I1 (t + 14) (Int32.toNatClampNeg x1)), .int (I1 (t + 15) (Int32.toNatClampNeg x1))]) kX12_goesBy sX12_goesBy rfl ht.1 lX12_302 rfl rfl (Nat.le_of_ble_eq_true rfl) dX12_left_25 h ?_
    intro I5 J5 h
    refine jd_aload_n (pc := 28) 1 dX12_left_28 rfl rfl ?_
    refine jd_getI (pc := 29) (ci := 11) (k := 34) gX12_299 ht.1 rfl dX12_left_29 ?_
    exact jd_iretK (pc := 32) rfl rfl dX12_left_32 h
  · have h := h.2 hc
    refine jd_iload_n (pc := 10) 0 dX12_left_10 rfl rfl ?_
    exact jd_iretK (pc := 11) rfl rfl dX12_left_11 h
theorem eX12_left {G : jdG} {n : Nat} {Z : jdL} {I : jdI} {J : jdJ} {K : Int32 → jdI → jdJ → Prop} {t : Nat} {x1 : Int32} (ht : zModel Z t) (h : Cl G mX12_noMan n 0 0 [.ref (gb G + t), .int x1] Z I J (qi Z (fun v2 I1 J1 => ((v2 = 0 → (vp_in x1 8 ∧ (vp_in x1 8 ∧ Cl G mX12_goesBy n 0 0 [.ref (gb G + t), .int (I1 (t + 14) (Int32.toNatClampNeg x1)), .int (I1 (t + 15) (Int32.toNatClampNeg x1))] Z I1 J1 (qv Z (fun I5 J5 => K (I5 t 34) I5 J5))))) ∧ (¬ v2 = 0 → K v2 I1 J1))))) : Cl G mX12_left (n + 1) 0 0 [.ref (gb G + t), .int x1] Z I J (qi Z K) :=
  Cl.of (by decide +kernel) (Nat.le_of_ble_eq_true rfl) (rX12_left_0 ht h)
set_option maxRecDepth 4000 in
theorem rX12_waits_0 {G : jdG} {n rc rs : Nat} {Z : jdL} {I : jdI} {J : jdJ} {K : Int32 → jdI → jdJ → Prop} {t : Nat} {x1 : Int32} {x2 : Int32} (ht : zModel Z t) (h : Cl G mX12_in n 0 0 [.long (Int32.toInt64 x1), .long 0, .long 7] Z I J (qi Z (fun v2 I1 J1 => ((v2 = 0 → Cl G mX12_refuse n 0 0 [.ref (gb G + t), .int (-2)] Z I1 J1 (qi Z (fun v4 I3 J3 => K v4 I3 J3))) ∧ (¬ v2 = 0 → ((x2 = (-1) → Cl G mX12_noMan n 0 0 [.ref (gb G + t), .int x1] Z I1 J1 (qi Z (fun v6 I5 J5 => ((v6 = 0 → (vp_in x1 8 ∧ (vp_in x1 8 ∧ Cl G mX12_goesBy n 0 0 [.ref (gb G + t), .int (I5 (t + 14) (Int32.toNatClampNeg x1)), .int (I5 (t + 15) (Int32.toNatClampNeg x1))] Z I5 J5 (qv Z (fun I9 J9 => ((¬ x2 = (-1) → (vp_in x2 7 ∧ K (I9 (t + 33) (Int32.toNatClampNeg x2)) I9 J9)) ∧ (x2 = (-1) → Cl G mX12_waitedAll n 0 0 [.ref (gb G + t)] Z I9 J9 (qi Z (fun v13 I12 J12 => K v13 I12 J12))))))))) ∧ (¬ v6 = 0 → K v6 I5 J5))))) ∧ (¬ x2 = (-1) → Cl G mX12_isOne n 0 0 [.ref (gb G + t), .int x2] Z I1 J1 (qi Z (fun v15 I14 J14 => ((¬ v15 = 0 → Cl G mX12_noMan n 0 0 [.ref (gb G + t), .int x1] Z I14 J14 (qi Z (fun v17 I16 J16 => ((v17 = 0 → (vp_in x1 8 ∧ (vp_in x1 8 ∧ Cl G mX12_goesBy n 0 0 [.ref (gb G + t), .int (I16 (t + 14) (Int32.toNatClampNeg x1)), .int (I16 (t + 15) (Int32.toNatClampNeg x1))] Z I16 J16 (qv Z (fun I20 J20 => ((¬ x2 = (-1) → (vp_in x2 7 ∧ K (I20 (t + 33) (Int32.toNatClampNeg x2)) I20 J20)) ∧ (x2 = (-1) → Cl G mX12_waitedAll n 0 0 [.ref (gb G + t)] Z I20 J20 (qi Z (fun v24 I23 J23 => K v24 I23 J23))))))))) ∧ (¬ v17 = 0 → K v17 I16 J16))))) ∧ (v15 = 0 → Cl G mX12_refuse n 0 0 [.ref (gb G + t), .int (-2)] Z I14 J14 (qi Z (fun v26 I25 J25 => K v26 I25 J25))))))))))))) : Jd G mX12_waits (jdFm G (qi Z K)) (n + 1) rc rs 0 [(0, .ref (gb G + t)), (1, .int x1), (2, .int x2)] [] Z I J := by
  refine jd_iload_n (pc := 0) 1 dX12_waits_0 rfl rfl ?_
  refine jd_i2l (pc := 1) dX12_waits_1 ?_
  refine jd_lconst (pc := 2) (v := 0) dX12_waits_2 (by decide) ?_
  refine jd_ldc2 (pc := 3) (v := 7) qX12_96 dX12_waits_3 ?_
  refine jd_callSi (pc := 6) (M2 := mX12_in) (av := [.long (Int32.toInt64 x1), .long 0, .long 7]) kX12_in sX12_in lX12_88 rfl rfl (Nat.le_of_ble_eq_true rfl) dX12_waits_6 h ?_
  intro v2 I1 J1 h
  refine jd_if_eq (pc := 9) 25 dX12_waits_9 (by decide) (fun hc => ?_) (fun hc => ?_)
  · have h := h.1 hc
    refine jd_aload_n (pc := 25) 0 dX12_waits_25 rfl rfl ?_
    refine jd_bipush (pc := 26) (v := (-2)) dX12_waits_26 (by decide) ?_
    refine jd_callVi (pc := 28) (M2 := mX12_refuse) (id := t) (ci := 11) (T := TX12) (N := 45) (av := [.int (-2)]) kX12_refuse sX12_refuse rfl ht.1 lX12_102 rfl rfl (Nat.le_of_ble_eq_true rfl) dX12_waits_28 h ?_
    intro v4 I3 J3 h
    exact jd_iretK (pc := 31) rfl rfl dX12_waits_31 h
  · have h := h.2 hc
    refine jd_iload_n (pc := 12) 2 dX12_waits_12 rfl rfl ?_
    refine jd_iconst (pc := 13) (v := (-1)) dX12_waits_13 (by decide) ?_
    refine jd_icmp_eq (pc := 14) 32 dX12_waits_14 (by decide) (fun hc => ?_) (fun hc => ?_)
    · have h := h.1 hc
      refine jd_aload_n (pc := 32) 0 dX12_waits_32 rfl rfl ?_
      refine jd_iload_n (pc := 33) 1 dX12_waits_33 rfl rfl ?_
      refine jd_callVi (pc := 34) (M2 := mX12_noMan) (id := t) (ci := 11) (T := TX12) (N := 45) (av := [.int x1]) kX12_noMan sX12_noMan rfl ht.1 lX12_290 rfl rfl (Nat.le_of_ble_eq_true rfl) dX12_waits_34 h ?_
      intro v6 I5 J5 h
      refine jd_istore_n (pc := 37) [(3, .int v6), (0, .ref (gb G + t)), (1, .int x1), (2, .int x2)] dX12_waits_37 rfl (by decide) rfl ?_
      refine jd_iload_n (pc := 38) 0 dX12_waits_38 rfl rfl ?_
      refine jd_if_eq (pc := 39) 44 dX12_waits_39 (by decide) (fun hc => ?_) (fun hc => ?_)
      · have h := h.1 hc
        refine jd_aload_n (pc := 44) 1 dX12_waits_44 rfl rfl ?_
        refine jd_aload_n (pc := 45) 1 dX12_waits_45 rfl rfl ?_
        refine jd_getR (pc := 46) (ci := 11) (k := 5) (r := (t + 14)) gX12_28 ht.1 rfl (zModel_p5 ht) dX12_waits_46 ?_
        refine jd_iload_n (pc := 49) 2 dX12_waits_49 rfl rfl ?_
        obtain ⟨hv7, h⟩ := h
        refine jd_iald (pc := 50) (len := 8) (zModel_a5 ht) hv7 dX12_waits_50 ?_
        refine jd_aload_n (pc := 51) 1 dX12_waits_51 rfl rfl ?_
        refine jd_getR (pc := 52) (ci := 11) (k := 6) (r := (t + 15)) gX12_31 ht.1 rfl (zModel_p6 ht) dX12_waits_52 ?_
        refine jd_iload_n (pc := 55) 2 dX12_waits_55 rfl rfl ?_
        obtain ⟨hv8, h⟩ := h
        refine jd_iald (pc := 56) (len := 8) (zModel_a6 ht) hv8 dX12_waits_56 ?_
        refine jd_callVv (pc := 57) (M2 := mX12_goesBy) (id := t) (ci := 11) (T := TX12) (N := 45) (av := [.int (I5 (t + 14) (Int32.toNatClampNeg x1)), .int (I5 (t + 15) (Int32.toNatClampNeg x1))]) kX12_goesBy sX12_goesBy rfl ht.1 lX12_302 rfl rfl (Nat.le_of_ble_eq_true rfl) dX12_waits_57 h ?_
        intro I9 J9 h
        refine jd_iload_n (pc := 60) 3 dX12_waits_60 rfl rfl ?_
        refine jd_iconst (pc := 61) (v := (-1)) dX12_waits_61 (by decide) ?_
        refine jd_icmp_ne (pc := 62) 72 dX12_waits_62 (by decide) (fun hc => ?_) (fun hc => ?_)
        · have h := h.1 hc
          refine jd_aload_n (pc := 72) 1 dX12_waits_72 rfl rfl ?_
          refine jd_getR (pc := 73) (ci := 11) (k := 35) (r := (t + 33)) gX12_70 ht.1 rfl (zModel_p35 ht) dX12_waits_73 ?_
          refine jd_iload_n (pc := 76) 3 dX12_waits_76 rfl rfl ?_
          obtain ⟨hv11, h⟩ := h
          refine jd_iald (pc := 77) (len := 7) (zModel_a35 ht) hv11 dX12_waits_77 ?_
          exact jd_iretK (pc := 78) rfl rfl dX12_waits_78 h
        · have h := h.2 hc
          refine jd_aload_n (pc := 65) 1 dX12_waits_65 rfl rfl ?_
          refine jd_callVi (pc := 66) (M2 := mX12_waitedAll) (id := t) (ci := 11) (T := TX12) (N := 45) (av := []) kX12_waitedAll sX12_waitedAll rfl ht.1 lX12_305 rfl rfl (Nat.le_of_ble_eq_true rfl) dX12_waits_66 h ?_
          intro v13 I12 J12 h
          refine jd_goto (pc := 69) 78 dX12_waits_69 (by decide) ?_
          exact jd_iretK (pc := 78) rfl rfl dX12_waits_78 h
      · have h := h.2 hc
        refine jd_iload_n (pc := 42) 0 dX12_waits_42 rfl rfl ?_
        exact jd_iretK (pc := 43) rfl rfl dX12_waits_43 h
    · have h := h.2 hc
      refine jd_aload_n (pc := 17) 0 dX12_waits_17 rfl rfl ?_
      refine jd_iload_n (pc := 18) 2 dX12_waits_18 rfl rfl ?_
      refine jd_callVi (pc := 19) (M2 := mX12_isOne) (id := t) (ci := 11) (T := TX12) (N := 45) (av := [.int x2]) kX12_isOne sX12_isOne rfl ht.1 lX12_131 rfl rfl (Nat.le_of_ble_eq_true rfl) dX12_waits_19 h ?_
      intro v15 I14 J14 h
      refine jd_if_ne (pc := 22) 32 dX12_waits_22 (by decide) (fun hc => ?_) (fun hc => ?_)
      · have h := h.1 hc
        refine jd_aload_n (pc := 32) 0 dX12_waits_32 rfl rfl ?_
        refine jd_iload_n (pc := 33) 1 dX12_waits_33 rfl rfl ?_
        refine jd_callVi (pc := 34) (M2 := mX12_noMan) (id := t) (ci := 11) (T := TX12) (N := 45) (av := [.int x1]) kX12_noMan sX12_noMan rfl ht.1 lX12_290 rfl rfl (Nat.le_of_ble_eq_true rfl) dX12_waits_34 h ?_
        intro v17 I16 J16 h
        refine jd_istore_n (pc := 37) [(3, .int v17), (0, .ref (gb G + t)), (1, .int x1), (2, .int x2)] dX12_waits_37 rfl (by decide) rfl ?_
        refine jd_iload_n (pc := 38) 0 dX12_waits_38 rfl rfl ?_
        refine jd_if_eq (pc := 39) 44 dX12_waits_39 (by decide) (fun hc => ?_) (fun hc => ?_)
        · have h := h.1 hc
          refine jd_aload_n (pc := 44) 1 dX12_waits_44 rfl rfl ?_
          refine jd_aload_n (pc := 45) 1 dX12_waits_45 rfl rfl ?_
          refine jd_getR (pc := 46) (ci := 11) (k := 5) (r := (t + 14)) gX12_28 ht.1 rfl (zModel_p5 ht) dX12_waits_46 ?_
          refine jd_iload_n (pc := 49) 2 dX12_waits_49 rfl rfl ?_
          obtain ⟨hv18, h⟩ := h
          refine jd_iald (pc := 50) (len := 8) (zModel_a5 ht) hv18 dX12_waits_50 ?_
          refine jd_aload_n (pc := 51) 1 dX12_waits_51 rfl rfl ?_
          refine jd_getR (pc := 52) (ci := 11) (k := 6) (r := (t + 15)) gX12_31 ht.1 rfl (zModel_p6 ht) dX12_waits_52 ?_
          refine jd_iload_n (pc := 55) 2 dX12_waits_55 rfl rfl ?_
          obtain ⟨hv19, h⟩ := h
          refine jd_iald (pc := 56) (len := 8) (zModel_a6 ht) hv19 dX12_waits_56 ?_
          refine jd_callVv (pc := 57) (M2 := mX12_goesBy) (id := t) (ci := 11) (T := TX12) (N := 45) (av := [.int (I16 (t + 14) (Int32.toNatClampNeg x1)), .int (I16 (t + 15) (Int32.toNatClampNeg x1))]) kX12_goesBy sX12_goesBy rfl ht.1 lX12_302 rfl rfl (Nat.le_of_ble_eq_true rfl) dX12_waits_57 h ?_
          intro I20 J20 h
          refine jd_iload_n (pc := 60) 3 dX12_waits_60 rfl rfl ?_
          refine jd_iconst (pc := 61) (v := (-1)) dX12_waits_61 (by decide) ?_
          refine jd_icmp_ne (pc := 62) 72 dX12_waits_62 (by decide) (fun hc => ?_) (fun hc => ?_)
          · have h := h.1 hc
            refine jd_aload_n (pc := 72) 1 dX12_waits_72 rfl rfl ?_
            refine jd_getR (pc := 73) (ci := 11) (k := 35) (r := (t + 33)) gX12_70 ht.1 rfl (zModel_p35 ht) dX12_waits_73 ?_
            refine jd_iload_n (pc := 76) 3 dX12_waits_76 rfl rfl ?_
            obtain ⟨hv22, h⟩ := h
            refine jd_iald (pc := 77) (len := 7) (zModel_a35 ht) hv22 dX12_waits_77 ?_
            exact jd_iretK (pc := 78) rfl rfl dX12_waits_78 h
          · have h := h.2 hc
            refine jd_aload_n (pc := 65) 1 dX12_waits_65 rfl rfl ?_
            refine jd_callVi (pc := 66) (M2 := mX12_waitedAll) (id := t) (ci := 11) (T := TX12) (N := 45) (av := []) kX12_waitedAll sX12_waitedAll rfl ht.1 lX12_305 rfl rfl (Nat.le_of_ble_eq_true rfl) dX12_waits_66 h ?_
            intro v24 I23 J23 h
            refine jd_goto (pc := 69) 78 dX12_waits_69 (by decide) ?_
            exact jd_iretK (pc := 78) rfl rfl dX12_waits_78 h
        · have h := h.2 hc
          refine jd_iload_n (pc := 42) 0 dX12_waits_42 rfl rfl ?_
          exact jd_iretK (pc := 43) rfl rfl dX12_waits_43 h
      · have h := h.2 hc
        refine jd_aload_n (pc := 25) 0 dX12_waits_25 rfl rfl ?_
        refine jd_bipush (pc := 26) (v := (-2)) dX12_waits_26 (by decide) ?_
        refine jd_callVi (pc := 28) (M2 := mX12_refuse) (id := t) (ci := 11) (T := TX12) (N := 45) (av := [.int (-2)]) kX12_refuse sX12_refuse rfl ht.1 lX12_102 rfl rfl (Nat.le_of_ble_eq_true rfl) dX12_waits_28 h ?_
        intro v26 I25 J25 h
        exact jd_iretK (pc := 31) rfl rfl dX12_waits_31 h
theorem eX12_waits {G : jdG} {n : Nat} {Z : jdL} {I : jdI} {J : jdJ} {K : Int32 → jdI → jdJ → Prop} {t : Nat} {x1 : Int32} {x2 : Int32} (ht : zModel Z t) (h : Cl G mX12_in n 0 0 [.long (Int32.toInt64 x1), .long 0, .long 7] Z I J (qi Z (fun v2 I1 J1 => ((v2 = 0 → Cl G mX12_refuse n 0 0 [.ref (gb G + t), .int (-2)] Z I1 J1 (qi Z (fun v4 I3 J3 => K v4 I3 J3))) ∧ (¬ v2 = 0 → ((x2 = (-1) → Cl G mX12_noMan n 0 0 [.ref (gb G + t), .int x1] Z I1 J1 (qi Z (fun v6 I5 J5 => ((v6 = 0 → (vp_in x1 8 ∧ (vp_in x1 8 ∧ Cl G mX12_goesBy n 0 0 [.ref (gb G + t), .int (I5 (t + 14) (Int32.toNatClampNeg x1)), .int (I5 (t + 15) (Int32.toNatClampNeg x1))] Z I5 J5 (qv Z (fun I9 J9 => ((¬ x2 = (-1) → (vp_in x2 7 ∧ K (I9 (t + 33) (Int32.toNatClampNeg x2)) I9 J9)) ∧ (x2 = (-1) → Cl G mX12_waitedAll n 0 0 [.ref (gb G + t)] Z I9 J9 (qi Z (fun v13 I12 J12 => K v13 I12 J12))))))))) ∧ (¬ v6 = 0 → K v6 I5 J5))))) ∧ (¬ x2 = (-1) → Cl G mX12_isOne n 0 0 [.ref (gb G + t), .int x2] Z I1 J1 (qi Z (fun v15 I14 J14 => ((¬ v15 = 0 → Cl G mX12_noMan n 0 0 [.ref (gb G + t), .int x1] Z I14 J14 (qi Z (fun v17 I16 J16 => ((v17 = 0 → (vp_in x1 8 ∧ (vp_in x1 8 ∧ Cl G mX12_goesBy n 0 0 [.ref (gb G + t), .int (I16 (t + 14) (Int32.toNatClampNeg x1)), .int (I16 (t + 15) (Int32.toNatClampNeg x1))] Z I16 J16 (qv Z (fun I20 J20 => ((¬ x2 = (-1) → (vp_in x2 7 ∧ K (I20 (t + 33) (Int32.toNatClampNeg x2)) I20 J20)) ∧ (x2 = (-1) → Cl G mX12_waitedAll n 0 0 [.ref (gb G + t)] Z I20 J20 (qi Z (fun v24 I23 J23 => K v24 I23 J23))))))))) ∧ (¬ v17 = 0 → K v17 I16 J16))))) ∧ (v15 = 0 → Cl G mX12_refuse n 0 0 [.ref (gb G + t), .int (-2)] Z I14 J14 (qi Z (fun v26 I25 J25 => K v26 I25 J25))))))))))))) : Cl G mX12_waits (n + 1) 0 0 [.ref (gb G + t), .int x1, .int x2] Z I J (qi Z K) :=
  Cl.of (by decide +kernel) (Nat.le_of_ble_eq_true rfl) (rX12_waits_0 ht h)
set_option maxRecDepth 4000 in
theorem rX12_leastFrom_0 {G : jdG} {n rc rs : Nat} {Z : jdL} {I : jdI} {J : jdJ} {K : Int32 → jdI → jdJ → Prop} {t : Nat} {x1 : Int32} {x2 : Int32} (ht : zModel Z t) (h : (vp_in ((x1 <<< (7 &&& 31)) ||| x2) 1024 ∧ (((I (t + 34) (Int32.toNatClampNeg ((x1 <<< (7 &&& 31)) ||| x2))) < 0 → ((¬ x1 = (I t 10) → (vp_in x1 7 ∧ Cl G mX12_leastFrom n 0 0 [.ref (gb G + t), .int (x1 + 1), .int (x2 ||| (1 <<< ((I (t + 31) (Int32.toNatClampNeg x1)) &&& 31)))] Z I J (qi Z (fun v4 I3 J3 => ((¬ x1 = 0 → (vp_in (x1 - 1) 7 ∧ (vp_in (I3 (t + 31) (Int32.toNatClampNeg (x1 - 1))) 8 ∧ Jd G mX12_leastFrom (jdFm G (qi Z K)) (n + 1) rc rs 142 [(0, .ref (gb G + t)), (1, .int x1), (2, .int x2), (3, .int ((x1 <<< (7 &&& 31)) ||| x2)), (4, .int v4), (5, .int (I3 (t + 18) (Int32.toNatClampNeg (I3 (t + 31) (Int32.toNatClampNeg (x1 - 1)))))), (6, .int 0)] [] Z I3 J3))) ∧ (x1 = 0 → Jd G mX12_leastFrom (jdFm G (qi Z K)) (n + 1) rc rs 142 [(0, .ref (gb G + t)), (1, .int x1), (2, .int x2), (3, .int ((x1 <<< (7 &&& 31)) ||| x2)), (4, .int v4), (5, .int 0), (6, .int 0)] [] Z I3 J3)))))) ∧ (x1 = (I t 10) → Jd G mX12_leastFrom (jdFm G (qi Z K)) (n + 1) rc rs 37 [(0, .ref (gb G + t)), (1, .int x1), (2, .int x2), (3, .int ((x1 <<< (7 &&& 31)) ||| x2)), (4, .int 0), (5, .int 0)] [] Z I J))) ∧ (¬ (I (t + 34) (Int32.toNatClampNeg ((x1 <<< (7 &&& 31)) ||| x2))) < 0 → (vp_in ((x1 <<< (7 &&& 31)) ||| x2) 1024 ∧ K (I (t + 34) (Int32.toNatClampNeg ((x1 <<< (7 &&& 31)) ||| x2))) I J))))) : Jd G mX12_leastFrom (jdFm G (qi Z K)) (n + 1) rc rs 0 [(0, .ref (gb G + t)), (1, .int x1), (2, .int x2)] [] Z I J := by
  refine jd_iload_n (pc := 0) 1 dX12_leastFrom_0 rfl rfl ?_
  refine jd_bipush (pc := 1) (v := 7) dX12_leastFrom_1 (by decide) ?_
  refine jd_ishl (pc := 3) dX12_leastFrom_3 ?_
  refine jd_iload_n (pc := 4) 2 dX12_leastFrom_4 rfl rfl ?_
  refine jd_ior (pc := 5) dX12_leastFrom_5 ?_
  refine jd_istore_n (pc := 6) [(3, .int ((x1 <<< (7 &&& 31)) ||| x2)), (0, .ref (gb G + t)), (1, .int x1), (2, .int x2)] dX12_leastFrom_6 rfl (by decide) rfl ?_
  refine jd_aload_n (pc := 7) 1 dX12_leastFrom_7 rfl rfl ?_
  refine jd_getR (pc := 8) (ci := 11) (k := 36) (r := (t + 34)) gX12_73 ht.1 rfl (zModel_p36 ht) dX12_leastFrom_8 ?_
  refine jd_iload_n (pc := 11) 0 dX12_leastFrom_11 rfl rfl ?_
  obtain ⟨hv1, h⟩ := h
  refine jd_iald (pc := 12) (len := 1024) (zModel_a36 ht) hv1 dX12_leastFrom_12 ?_
  refine jd_if_lt (pc := 13) 23 dX12_leastFrom_13 (by decide) (fun hc => ?_) (fun hc => ?_)
  · have h := h.1 hc
    refine jd_iload_n (pc := 23) 2 dX12_leastFrom_23 rfl rfl ?_
    refine jd_aload_n (pc := 24) 1 dX12_leastFrom_24 rfl rfl ?_
    refine jd_getI (pc := 25) (ci := 11) (k := 10) gX12_85 ht.1 rfl dX12_leastFrom_25 ?_
    refine jd_icmp_ne (pc := 28) 97 dX12_leastFrom_28 (by decide) (fun hc => ?_) (fun hc => ?_)
    · have h := h.1 hc
      refine jd_aload_n (pc := 97) 1 dX12_leastFrom_97 rfl rfl ?_
      refine jd_iload_n (pc := 98) 2 dX12_leastFrom_98 rfl rfl ?_
      refine jd_iconst (pc := 99) (v := 1) dX12_leastFrom_99 (by decide) ?_
      refine jd_iadd (pc := 100) dX12_leastFrom_100 ?_
      refine jd_iload_n (pc := 101) 3 dX12_leastFrom_101 rfl rfl ?_
      refine jd_iconst (pc := 102) (v := 1) dX12_leastFrom_102 (by decide) ?_
      refine jd_aload_n (pc := 103) 1 dX12_leastFrom_103 rfl rfl ?_
      refine jd_getR (pc := 104) (ci := 11) (k := 31) (r := (t + 31)) gX12_64 ht.1 rfl (zModel_p31 ht) dX12_leastFrom_104 ?_
      refine jd_iload_n (pc := 107) 2 dX12_leastFrom_107 rfl rfl ?_
      obtain ⟨hv2, h⟩ := h
      refine jd_iald (pc := 108) (len := 7) (zModel_a31 ht) hv2 dX12_leastFrom_108 ?_
      refine jd_ishl (pc := 109) dX12_leastFrom_109 ?_
      refine jd_ior (pc := 110) dX12_leastFrom_110 ?_
      refine jd_callVi (pc := 111) (M2 := mX12_leastFrom) (id := t) (ci := 11) (T := TX12) (N := 45) (av := [.int (x1 + 1), .int (x2 ||| (1 <<< ((I (t + 31) (Int32.toNatClampNeg x1)) &&& 31)))]) kX12_leastFrom sX12_leastFrom rfl ht.1 lX12_308 rfl rfl (Nat.le_of_ble_eq_true rfl) dX12_leastFrom_111 h ?_
      intro v4 I3 J3 h
      refine jd_istore (pc := 114) [(4, .int v4), (3, .int ((x1 <<< (7 &&& 31)) ||| x2)), (0, .ref (gb G + t)), (1, .int x1), (2, .int x2)] dX12_leastFrom_114 (by decide) rfl ?_
      refine jd_iload_n (pc := 116) 3 dX12_leastFrom_116 rfl rfl ?_
      refine jd_if_ne (pc := 117) 124 dX12_leastFrom_117 (by decide) (fun hc => ?_) (fun hc => ?_)
      · have h := h.1 hc
        refine jd_aload_n (pc := 124) 2 dX12_leastFrom_124 rfl rfl ?_
        refine jd_getR (pc := 125) (ci := 11) (k := 11) (r := (t + 18)) gX12_40 ht.1 rfl (zModel_p11 ht) dX12_leastFrom_125 ?_
        refine jd_aload_n (pc := 128) 2 dX12_leastFrom_128 rfl rfl ?_
        refine jd_getR (pc := 129) (ci := 11) (k := 31) (r := (t + 31)) gX12_64 ht.1 rfl (zModel_p31 ht) dX12_leastFrom_129 ?_
        refine jd_iload_n (pc := 132) 3 dX12_leastFrom_132 rfl rfl ?_
        refine jd_iconst (pc := 133) (v := 1) dX12_leastFrom_133 (by decide) ?_
        refine jd_isub (pc := 134) dX12_leastFrom_134 ?_
        obtain ⟨hv5, h⟩ := h
        refine jd_iald (pc := 135) (len := 7) (zModel_a31 ht) hv5 dX12_leastFrom_135 ?_
        obtain ⟨hv6, h⟩ := h
        refine jd_iald (pc := 136) (len := 8) (zModel_a11 ht) hv6 dX12_leastFrom_136 ?_
        refine jd_istore (pc := 137) [(5, .int (I3 (t + 18) (Int32.toNatClampNeg (I3 (t + 31) (Int32.toNatClampNeg (x1 - 1)))))), (4, .int v4), (3, .int ((x1 <<< (7 &&& 31)) ||| x2)), (0, .ref (gb G + t)), (1, .int x1), (2, .int x2)] dX12_leastFrom_137 (by decide) rfl ?_
        refine jd_iconst (pc := 139) (v := 0) dX12_leastFrom_139 (by decide) ?_
        refine jd_istore (pc := 140) [(6, .int 0), (5, .int (I3 (t + 18) (Int32.toNatClampNeg (I3 (t + 31) (Int32.toNatClampNeg (x1 - 1)))))), (4, .int v4), (3, .int ((x1 <<< (7 &&& 31)) ||| x2)), (0, .ref (gb G + t)), (1, .int x1), (2, .int x2)] dX12_leastFrom_140 (by decide) rfl ?_
        exact jd_lv (lv2 := [(0, .ref (gb G + t)), (1, .int x1), (2, .int x2), (3, .int ((x1 <<< (7 &&& 31)) ||| x2)), (4, .int v4), (5, .int (I3 (t + 18) (Int32.toNatClampNeg (I3 (t + 31) (Int32.toNatClampNeg (x1 - 1)))))), (6, .int 0)]) [4, 5, 6, 3, 2, 1, 0] rfl h
      · have h := h.2 hc
        refine jd_iconst (pc := 120) (v := 0) dX12_leastFrom_120 (by decide) ?_
        refine jd_goto (pc := 121) 137 dX12_leastFrom_121 (by decide) ?_
        refine jd_istore (pc := 137) [(5, .int 0), (4, .int v4), (3, .int ((x1 <<< (7 &&& 31)) ||| x2)), (0, .ref (gb G + t)), (1, .int x1), (2, .int x2)] dX12_leastFrom_137 (by decide) rfl ?_
        refine jd_iconst (pc := 139) (v := 0) dX12_leastFrom_139 (by decide) ?_
        refine jd_istore (pc := 140) [(6, .int 0), (5, .int 0), (4, .int v4), (3, .int ((x1 <<< (7 &&& 31)) ||| x2)), (0, .ref (gb G + t)), (1, .int x1), (2, .int x2)] dX12_leastFrom_140 (by decide) rfl ?_
        exact jd_lv (lv2 := [(0, .ref (gb G + t)), (1, .int x1), (2, .int x2), (3, .int ((x1 <<< (7 &&& 31)) ||| x2)), (4, .int v4), (5, .int 0), (6, .int 0)]) [4, 5, 6, 3, 2, 1, 0] rfl h
    · have h := h.2 hc
      refine jd_iconst (pc := 31) (v := 0) dX12_leastFrom_31 (by decide) ?_
      refine jd_istore (pc := 32) [(4, .int 0), (3, .int ((x1 <<< (7 &&& 31)) ||| x2)), (0, .ref (gb G + t)), (1, .int x1), (2, .int x2)] dX12_leastFrom_32 (by decide) rfl ?_
      refine jd_iconst (pc := 34) (v := 0) dX12_leastFrom_34 (by decide) ?_
      refine jd_istore (pc := 35) [(5, .int 0), (4, .int 0), (3, .int ((x1 <<< (7 &&& 31)) ||| x2)), (0, .ref (gb G + t)), (1, .int x1), (2, .int x2)] dX12_leastFrom_35 (by decide) rfl ?_
      exact jd_lv (lv2 := [(0, .ref (gb G + t)), (1, .int x1), (2, .int x2), (3, .int ((x1 <<< (7 &&& 31)) ||| x2)), (4, .int 0), (5, .int 0)]) [3, 4, 5, 2, 1, 0] rfl h
  · have h := h.2 hc
    refine jd_aload_n (pc := 16) 1 dX12_leastFrom_16 rfl rfl ?_
    refine jd_getR (pc := 17) (ci := 11) (k := 36) (r := (t + 34)) gX12_73 ht.1 rfl (zModel_p36 ht) dX12_leastFrom_17 ?_
    refine jd_iload_n (pc := 20) 0 dX12_leastFrom_20 rfl rfl ?_
    obtain ⟨hv7, h⟩ := h
    refine jd_iald (pc := 21) (len := 1024) (zModel_a36 ht) hv7 dX12_leastFrom_21 ?_
    exact jd_iretK (pc := 22) rfl rfl dX12_leastFrom_22 h
set_option maxRecDepth 4000 in
theorem rX12_leastFrom_142 {G : jdG} {n rc rs : Nat} {Z : jdL} {I : jdI} {J : jdJ} {K : Int32 → jdI → jdJ → Prop} {t : Nat} {x1 : Int32} {x2 : Int32} {x3 : Int32} {x4 : Int32} {x5 : Int32} {x6 : Int32} (ht : zModel Z t) (h : (((I t 30) ≤ x6 → (vp_in x3 1024 ∧ K x4 (uI I (t + 34) (Int32.toNatClampNeg x3) x4) J)) ∧ (¬ (I t 30) ≤ x6 → (vp_in x6 70 ∧ ((¬ ((I (t + 30) (Int32.toNatClampNeg x6)) &&& (x2 ^^^ (-1))) = 0 → Jd G mX12_leastFrom (jdFm G (qi Z K)) (n + 1) rc rs 142 [(0, .ref (gb G + t)), (1, .int x1), (2, .int x2), (3, .int x3), (4, .int x4), (5, .int x5), (6, .int (x6 + 1))] [] Z I J) ∧ (((I (t + 30) (Int32.toNatClampNeg x6)) &&& (x2 ^^^ (-1))) = 0 → Jd G mX12_leastFrom (jdFm G (qi Z K)) (n + 1) rc rs 171 [(0, .ref (gb G + t)), (1, .int x1), (2, .int x2), (3, .int x3), (4, .int x4), (5, .int x5), (6, .int x6), (7, .int (-1)), (8, .int 0)] [] Z I J)))))) : Jd G mX12_leastFrom (jdFm G (qi Z K)) (n + 1) rc rs 142 [(0, .ref (gb G + t)), (1, .int x1), (2, .int x2), (3, .int x3), (4, .int x4), (5, .int x5), (6, .int x6)] [] Z I J := by
  refine jd_iload (pc := 142) 6 dX12_leastFrom_142 rfl ?_
  refine jd_aload_n (pc := 144) 0 dX12_leastFrom_144 rfl rfl ?_
  refine jd_getI (pc := 145) (ci := 11) (k := 30) gX12_257 ht.1 rfl dX12_leastFrom_145 ?_
  refine jd_icmp_ge (pc := 148) 274 dX12_leastFrom_148 (by decide) (fun hc => ?_) (fun hc => ?_)
  · have h := h.1 hc
    refine jd_aload_n (pc := 274) 0 dX12_leastFrom_274 rfl rfl ?_
    refine jd_getR (pc := 275) (ci := 11) (k := 36) (r := (t + 34)) gX12_73 ht.1 rfl (zModel_p36 ht) dX12_leastFrom_275 ?_
    refine jd_iload_n (pc := 278) 3 dX12_leastFrom_278 rfl rfl ?_
    refine jd_iload (pc := 279) 4 dX12_leastFrom_279 rfl ?_
    obtain ⟨hv1, h⟩ := h
    refine jd_iast (pc := 281) (len := 1024) (zModel_a36 ht) hv1 dX12_leastFrom_281 ?_
    refine jd_iload (pc := 282) 4 dX12_leastFrom_282 rfl ?_
    exact jd_iretK (pc := 284) rfl rfl dX12_leastFrom_284 h
  · have h := h.2 hc
    refine jd_aload_n (pc := 151) 0 dX12_leastFrom_151 rfl rfl ?_
    refine jd_getR (pc := 152) (ci := 11) (k := 29) (r := (t + 30)) gX12_61 ht.1 rfl (zModel_p29 ht) dX12_leastFrom_152 ?_
    refine jd_iload (pc := 155) 6 dX12_leastFrom_155 rfl ?_
    obtain ⟨hv2, h⟩ := h
    refine jd_iald (pc := 157) (len := 70) (zModel_a29 ht) hv2 dX12_leastFrom_157 ?_
    refine jd_iload_n (pc := 158) 2 dX12_leastFrom_158 rfl rfl ?_
    refine jd_iconst (pc := 159) (v := (-1)) dX12_leastFrom_159 (by decide) ?_
    refine jd_ixor (pc := 160) dX12_leastFrom_160 ?_
    refine jd_iand (pc := 161) dX12_leastFrom_161 ?_
    refine jd_if_ne (pc := 162) 268 dX12_leastFrom_162 (by decide) (fun hc => ?_) (fun hc => ?_)
    · have h := h.1 hc
      refine jd_iinc (pc := 268) (v := (x6 + 1)) 6 [(6, .int (x6 + 1)), (0, .ref (gb G + t)), (1, .int x1), (2, .int x2), (3, .int x3), (4, .int x4), (5, .int x5)] dX12_leastFrom_268 rfl rfl (by decide) rfl ?_
      refine jd_goto (pc := 271) 142 dX12_leastFrom_271 (by decide) ?_
      exact jd_lv (lv2 := [(0, .ref (gb G + t)), (1, .int x1), (2, .int x2), (3, .int x3), (4, .int x4), (5, .int x5), (6, .int (x6 + 1))]) [1, 2, 3, 4, 5, 6, 0] rfl h
    · have h := h.2 hc
      refine jd_iconst (pc := 165) (v := (-1)) dX12_leastFrom_165 (by decide) ?_
      refine jd_istore (pc := 166) [(7, .int (-1)), (0, .ref (gb G + t)), (1, .int x1), (2, .int x2), (3, .int x3), (4, .int x4), (5, .int x5), (6, .int x6)] dX12_leastFrom_166 (by decide) rfl ?_
      refine jd_iconst (pc := 168) (v := 0) dX12_leastFrom_168 (by decide) ?_
      refine jd_istore (pc := 169) [(8, .int 0), (7, .int (-1)), (0, .ref (gb G + t)), (1, .int x1), (2, .int x2), (3, .int x3), (4, .int x4), (5, .int x5), (6, .int x6)] dX12_leastFrom_169 (by decide) rfl ?_
      exact jd_lv (lv2 := [(0, .ref (gb G + t)), (1, .int x1), (2, .int x2), (3, .int x3), (4, .int x4), (5, .int x5), (6, .int x6), (7, .int (-1)), (8, .int 0)]) [2, 3, 4, 5, 6, 7, 8, 1, 0] rfl h
set_option maxRecDepth 4000 in
theorem rX12_leastFrom_37 {G : jdG} {n rc rs : Nat} {Z : jdL} {I : jdI} {J : jdJ} {K : Int32 → jdI → jdJ → Prop} {t : Nat} {x1 : Int32} {x2 : Int32} {x3 : Int32} {x4 : Int32} {x5 : Int32} (ht : zModel Z t) (h : (((I t 10) ≤ x5 → ((¬ x1 = 0 → (vp_in (x1 - 1) 7 ∧ (vp_in (I (t + 31) (Int32.toNatClampNeg (x1 - 1))) 8 ∧ Jd G mX12_leastFrom (jdFm G (qi Z K)) (n + 1) rc rs 142 [(0, .ref (gb G + t)), (1, .int x1), (2, .int x2), (3, .int x3), (4, .int (x4 + 9)), (5, .int (I (t + 18) (Int32.toNatClampNeg (I (t + 31) (Int32.toNatClampNeg (x1 - 1)))))), (6, .int 0)] [] Z I J))) ∧ (x1 = 0 → Jd G mX12_leastFrom (jdFm G (qi Z K)) (n + 1) rc rs 142 [(0, .ref (gb G + t)), (1, .int x1), (2, .int x2), (3, .int x3), (4, .int (x4 + 9)), (5, .int 0), (6, .int 0)] [] Z I J))) ∧ (¬ (I t 10) ≤ x5 → Cl G mX12_has n 0 0 [.int x2, .int x5] Z I J (qi Z (fun v4 I3 J3 => ((v4 = 0 → Jd G mX12_leastFrom (jdFm G (qi Z K)) (n + 1) rc rs 37 [(0, .ref (gb G + t)), (1, .int x1), (2, .int x2), (3, .int x3), (4, .int (x4 + 0)), (5, .int (x5 + 1))] [] Z I3 J3) ∧ (¬ v4 = 0 → (vp_in x5 8 ∧ (vp_in x5 8 ∧ Jd G mX12_leastFrom (jdFm G (qi Z K)) (n + 1) rc rs 37 [(0, .ref (gb G + t)), (1, .int x1), (2, .int x2), (3, .int x3), (4, .int (x4 + ((10 * (I3 (t + 19) (Int32.toNatClampNeg x5))) * (24 - (I3 (t + 18) (Int32.toNatClampNeg x5)))))), (5, .int (x5 + 1))] [] Z I3 J3))))))))) : Jd G mX12_leastFrom (jdFm G (qi Z K)) (n + 1) rc rs 37 [(0, .ref (gb G + t)), (1, .int x1), (2, .int x2), (3, .int x3), (4, .int x4), (5, .int x5)] [] Z I J := by
  refine jd_iload (pc := 37) 5 dX12_leastFrom_37 rfl ?_
  refine jd_aload_n (pc := 39) 0 dX12_leastFrom_39 rfl rfl ?_
  refine jd_getI (pc := 40) (ci := 11) (k := 10) gX12_85 ht.1 rfl dX12_leastFrom_40 ?_
  refine jd_icmp_ge (pc := 43) 91 dX12_leastFrom_43 (by decide) (fun hc => ?_) (fun hc => ?_)
  · have h := h.1 hc
    refine jd_iinc (pc := 91) (v := (x4 + 9)) 4 [(4, .int (x4 + 9)), (0, .ref (gb G + t)), (1, .int x1), (2, .int x2), (3, .int x3), (5, .int x5)] dX12_leastFrom_91 rfl rfl (by decide) rfl ?_
    refine jd_goto (pc := 94) 116 dX12_leastFrom_94 (by decide) ?_
    refine jd_iload_n (pc := 116) 2 dX12_leastFrom_116 rfl rfl ?_
    refine jd_if_ne (pc := 117) 124 dX12_leastFrom_117 (by decide) (fun hc => ?_) (fun hc => ?_)
    · have h := h.1 hc
      refine jd_aload_n (pc := 124) 1 dX12_leastFrom_124 rfl rfl ?_
      refine jd_getR (pc := 125) (ci := 11) (k := 11) (r := (t + 18)) gX12_40 ht.1 rfl (zModel_p11 ht) dX12_leastFrom_125 ?_
      refine jd_aload_n (pc := 128) 1 dX12_leastFrom_128 rfl rfl ?_
      refine jd_getR (pc := 129) (ci := 11) (k := 31) (r := (t + 31)) gX12_64 ht.1 rfl (zModel_p31 ht) dX12_leastFrom_129 ?_
      refine jd_iload_n (pc := 132) 2 dX12_leastFrom_132 rfl rfl ?_
      refine jd_iconst (pc := 133) (v := 1) dX12_leastFrom_133 (by decide) ?_
      refine jd_isub (pc := 134) dX12_leastFrom_134 ?_
      obtain ⟨hv1, h⟩ := h
      refine jd_iald (pc := 135) (len := 7) (zModel_a31 ht) hv1 dX12_leastFrom_135 ?_
      obtain ⟨hv2, h⟩ := h
      refine jd_iald (pc := 136) (len := 8) (zModel_a11 ht) hv2 dX12_leastFrom_136 ?_
      refine jd_istore (pc := 137) [(5, .int (I (t + 18) (Int32.toNatClampNeg (I (t + 31) (Int32.toNatClampNeg (x1 - 1)))))), (4, .int (x4 + 9)), (0, .ref (gb G + t)), (1, .int x1), (2, .int x2), (3, .int x3)] dX12_leastFrom_137 (by decide) rfl ?_
      refine jd_iconst (pc := 139) (v := 0) dX12_leastFrom_139 (by decide) ?_
      refine jd_istore (pc := 140) [(6, .int 0), (5, .int (I (t + 18) (Int32.toNatClampNeg (I (t + 31) (Int32.toNatClampNeg (x1 - 1)))))), (4, .int (x4 + 9)), (0, .ref (gb G + t)), (1, .int x1), (2, .int x2), (3, .int x3)] dX12_leastFrom_140 (by decide) rfl ?_
      exact jd_lv (lv2 := [(0, .ref (gb G + t)), (1, .int x1), (2, .int x2), (3, .int x3), (4, .int (x4 + 9)), (5, .int (I (t + 18) (Int32.toNatClampNeg (I (t + 31) (Int32.toNatClampNeg (x1 - 1)))))), (6, .int 0)]) [3, 4, 5, 6, 2, 1, 0] rfl h
    · have h := h.2 hc
      refine jd_iconst (pc := 120) (v := 0) dX12_leastFrom_120 (by decide) ?_
      refine jd_goto (pc := 121) 137 dX12_leastFrom_121 (by decide) ?_
      refine jd_istore (pc := 137) [(5, .int 0), (4, .int (x4 + 9)), (0, .ref (gb G + t)), (1, .int x1), (2, .int x2), (3, .int x3)] dX12_leastFrom_137 (by decide) rfl ?_
      refine jd_iconst (pc := 139) (v := 0) dX12_leastFrom_139 (by decide) ?_
      refine jd_istore (pc := 140) [(6, .int 0), (5, .int 0), (4, .int (x4 + 9)), (0, .ref (gb G + t)), (1, .int x1), (2, .int x2), (3, .int x3)] dX12_leastFrom_140 (by decide) rfl ?_
      exact jd_lv (lv2 := [(0, .ref (gb G + t)), (1, .int x1), (2, .int x2), (3, .int x3), (4, .int (x4 + 9)), (5, .int 0), (6, .int 0)]) [3, 4, 5, 6, 2, 1, 0] rfl h
  · have h := h.2 hc
    refine jd_iload (pc := 46) 4 dX12_leastFrom_46 rfl ?_
    refine jd_iload_n (pc := 48) 2 dX12_leastFrom_48 rfl rfl ?_
    refine jd_iload (pc := 49) 5 dX12_leastFrom_49 rfl ?_
    refine jd_callSi (pc := 51) (M2 := mX12_has) (av := [.int x2, .int x5]) kX12_has sX12_has lX12_151 rfl rfl (Nat.le_of_ble_eq_true rfl) dX12_leastFrom_51 h ?_
    intro v4 I3 J3 h
    refine jd_if_eq (pc := 54) 81 dX12_leastFrom_54 (by decide) (fun hc => ?_) (fun hc => ?_)
    · have h := h.1 hc
      refine jd_iconst (pc := 81) (v := 0) dX12_leastFrom_81 (by decide) ?_
      refine jd_iadd (pc := 82) dX12_leastFrom_82 ?_
      refine jd_istore (pc := 83) [(4, .int (x4 + 0)), (0, .ref (gb G + t)), (1, .int x1), (2, .int x2), (3, .int x3), (5, .int x5)] dX12_leastFrom_83 (by decide) rfl ?_
      refine jd_iinc (pc := 85) (v := (x5 + 1)) 5 [(5, .int (x5 + 1)), (4, .int (x4 + 0)), (0, .ref (gb G + t)), (1, .int x1), (2, .int x2), (3, .int x3)] dX12_leastFrom_85 rfl rfl (by decide) rfl ?_
      refine jd_goto (pc := 88) 37 dX12_leastFrom_88 (by decide) ?_
      exact jd_lv (lv2 := [(0, .ref (gb G + t)), (1, .int x1), (2, .int x2), (3, .int x3), (4, .int (x4 + 0)), (5, .int (x5 + 1))]) [2, 3, 4, 5, 1, 0] rfl h
    · have h := h.2 hc
      refine jd_bipush (pc := 57) (v := 10) dX12_leastFrom_57 (by decide) ?_
      refine jd_aload_n (pc := 59) 0 dX12_leastFrom_59 rfl rfl ?_
      refine jd_getR (pc := 60) (ci := 11) (k := 12) (r := (t + 19)) gX12_43 ht.1 rfl (zModel_p12 ht) dX12_leastFrom_60 ?_
      refine jd_iload (pc := 63) 5 dX12_leastFrom_63 rfl ?_
      obtain ⟨hv5, h⟩ := h
      refine jd_iald (pc := 65) (len := 8) (zModel_a12 ht) hv5 dX12_leastFrom_65 ?_
      refine jd_imul (pc := 66) dX12_leastFrom_66 ?_
      refine jd_bipush (pc := 67) (v := 24) dX12_leastFrom_67 (by decide) ?_
      refine jd_aload_n (pc := 69) 0 dX12_leastFrom_69 rfl rfl ?_
      refine jd_getR (pc := 70) (ci := 11) (k := 11) (r := (t + 18)) gX12_40 ht.1 rfl (zModel_p11 ht) dX12_leastFrom_70 ?_
      refine jd_iload (pc := 73) 5 dX12_leastFrom_73 rfl ?_
      obtain ⟨hv6, h⟩ := h
      refine jd_iald (pc := 75) (len := 8) (zModel_a11 ht) hv6 dX12_leastFrom_75 ?_
      refine jd_isub (pc := 76) dX12_leastFrom_76 ?_
      refine jd_imul (pc := 77) dX12_leastFrom_77 ?_
      refine jd_goto (pc := 78) 82 dX12_leastFrom_78 (by decide) ?_
      refine jd_iadd (pc := 82) dX12_leastFrom_82 ?_
      refine jd_istore (pc := 83) [(4, .int (x4 + ((10 * (I3 (t + 19) (Int32.toNatClampNeg x5))) * (24 - (I3 (t + 18) (Int32.toNatClampNeg x5)))))), (0, .ref (gb G + t)), (1, .int x1), (2, .int x2), (3, .int x3), (5, .int x5)] dX12_leastFrom_83 (by decide) rfl ?_
      refine jd_iinc (pc := 85) (v := (x5 + 1)) 5 [(5, .int (x5 + 1)), (4, .int (x4 + ((10 * (I3 (t + 19) (Int32.toNatClampNeg x5))) * (24 - (I3 (t + 18) (Int32.toNatClampNeg x5)))))), (0, .ref (gb G + t)), (1, .int x1), (2, .int x2), (3, .int x3)] dX12_leastFrom_85 rfl rfl (by decide) rfl ?_
      refine jd_goto (pc := 88) 37 dX12_leastFrom_88 (by decide) ?_
      exact jd_lv (lv2 := [(0, .ref (gb G + t)), (1, .int x1), (2, .int x2), (3, .int x3), (4, .int (x4 + ((10 * (I3 (t + 19) (Int32.toNatClampNeg x5))) * (24 - (I3 (t + 18) (Int32.toNatClampNeg x5)))))), (5, .int (x5 + 1))]) [2, 3, 4, 5, 1, 0] rfl h
set_option maxRecDepth 4000 in
theorem rX12_leastFrom_171 {G : jdG} {n rc rs : Nat} {Z : jdL} {I : jdI} {J : jdJ} {K : Int32 → jdI → jdJ → Prop} {t : Nat} {x1 : Int32} {x2 : Int32} {x3 : Int32} {x4 : Int32} {x5 : Int32} {x6 : Int32} {x7 : Int32} {x8 : Int32} (ht : zModel Z t) (h : (((I t 10) ≤ x8 → (vp_in x6 70 ∧ Cl G mX12_leastFrom n 0 0 [.ref (gb G + t), .int x1, .int (x2 &&& ((I (t + 30) (Int32.toNatClampNeg x6)) ^^^ (-1)))] Z I J (qi Z (fun v3 I2 J2 => ((x4 ≤ (x7 + v3) → Jd G mX12_leastFrom (jdFm G (qi Z K)) (n + 1) rc rs 142 [(0, .ref (gb G + t)), (1, .int x1), (2, .int x2), (3, .int x3), (4, .int x4), (5, .int x5), (6, .int (x6 + 1))] [] Z I2 J2) ∧ (¬ x4 ≤ (x7 + v3) → Jd G mX12_leastFrom (jdFm G (qi Z K)) (n + 1) rc rs 142 [(0, .ref (gb G + t)), (1, .int x1), (2, .int x2), (3, .int x3), (4, .int (x7 + v3)), (5, .int x5), (6, .int (x6 + 1))] [] Z I2 J2)))))) ∧ (¬ (I t 10) ≤ x8 → (vp_in x6 70 ∧ Cl G mX12_has n 0 0 [.int (I (t + 30) (Int32.toNatClampNeg x6)), .int x8] Z I J (qi Z (fun v6 I5 J5 => ((v6 = 0 → Jd G mX12_leastFrom (jdFm G (qi Z K)) (n + 1) rc rs 171 [(0, .ref (gb G + t)), (1, .int x1), (2, .int x2), (3, .int x3), (4, .int x4), (5, .int x5), (6, .int x6), (7, .int (x7 + 0)), (8, .int (x8 + 1))] [] Z I5 J5) ∧ (¬ v6 = 0 → (vp_in x8 8 ∧ (vp_in x8 8 ∧ Jd G mX12_leastFrom (jdFm G (qi Z K)) (n + 1) rc rs 171 [(0, .ref (gb G + t)), (1, .int x1), (2, .int x2), (3, .int x3), (4, .int x4), (5, .int x5), (6, .int x6), (7, .int (x7 + ((10 * (I5 (t + 19) (Int32.toNatClampNeg x8))) * (x5 - (I5 (t + 18) (Int32.toNatClampNeg x8)))))), (8, .int (x8 + 1))] [] Z I5 J5)))))))))) : Jd G mX12_leastFrom (jdFm G (qi Z K)) (n + 1) rc rs 171 [(0, .ref (gb G + t)), (1, .int x1), (2, .int x2), (3, .int x3), (4, .int x4), (5, .int x5), (6, .int x6), (7, .int x7), (8, .int x8)] [] Z I J := by
  refine jd_iload (pc := 171) 8 dX12_leastFrom_171 rfl ?_
  refine jd_aload_n (pc := 173) 0 dX12_leastFrom_173 rfl rfl ?_
  refine jd_getI (pc := 174) (ci := 11) (k := 10) gX12_85 ht.1 rfl dX12_leastFrom_174 ?_
  refine jd_icmp_ge (pc := 177) 231 dX12_leastFrom_177 (by decide) (fun hc => ?_) (fun hc => ?_)
  · have h := h.1 hc
    refine jd_iload (pc := 231) 7 dX12_leastFrom_231 rfl ?_
    refine jd_aload_n (pc := 233) 0 dX12_leastFrom_233 rfl rfl ?_
    refine jd_iload_n (pc := 234) 1 dX12_leastFrom_234 rfl rfl ?_
    refine jd_iload_n (pc := 235) 2 dX12_leastFrom_235 rfl rfl ?_
    refine jd_aload_n (pc := 236) 0 dX12_leastFrom_236 rfl rfl ?_
    refine jd_getR (pc := 237) (ci := 11) (k := 29) (r := (t + 30)) gX12_61 ht.1 rfl (zModel_p29 ht) dX12_leastFrom_237 ?_
    refine jd_iload (pc := 240) 6 dX12_leastFrom_240 rfl ?_
    obtain ⟨hv1, h⟩ := h
    refine jd_iald (pc := 242) (len := 70) (zModel_a29 ht) hv1 dX12_leastFrom_242 ?_
    refine jd_iconst (pc := 243) (v := (-1)) dX12_leastFrom_243 (by decide) ?_
    refine jd_ixor (pc := 244) dX12_leastFrom_244 ?_
    refine jd_iand (pc := 245) dX12_leastFrom_245 ?_
    refine jd_callVi (pc := 246) (M2 := mX12_leastFrom) (id := t) (ci := 11) (T := TX12) (N := 45) (av := [.int x1, .int (x2 &&& ((I (t + 30) (Int32.toNatClampNeg x6)) ^^^ (-1)))]) kX12_leastFrom sX12_leastFrom rfl ht.1 lX12_308 rfl rfl (Nat.le_of_ble_eq_true rfl) dX12_leastFrom_246 h ?_
    intro v3 I2 J2 h
    refine jd_iadd (pc := 249) dX12_leastFrom_249 ?_
    refine jd_istore (pc := 250) [(8, .int (x7 + v3)), (0, .ref (gb G + t)), (1, .int x1), (2, .int x2), (3, .int x3), (4, .int x4), (5, .int x5), (6, .int x6), (7, .int x7)] dX12_leastFrom_250 (by decide) rfl ?_
    refine jd_iload (pc := 252) 0 dX12_leastFrom_252 rfl ?_
    refine jd_iload (pc := 254) 5 dX12_leastFrom_254 rfl ?_
    refine jd_icmp_ge (pc := 256) 264 dX12_leastFrom_256 (by decide) (fun hc => ?_) (fun hc => ?_)
    · have h := h.1 hc
      refine jd_iload (pc := 264) 5 dX12_leastFrom_264 rfl ?_
      refine jd_istore (pc := 266) [(4, .int x4), (8, .int (x7 + v3)), (0, .ref (gb G + t)), (1, .int x1), (2, .int x2), (3, .int x3), (5, .int x5), (6, .int x6), (7, .int x7)] dX12_leastFrom_266 (by decide) rfl ?_
      refine jd_iinc (pc := 268) (v := (x6 + 1)) 7 [(6, .int (x6 + 1)), (4, .int x4), (8, .int (x7 + v3)), (0, .ref (gb G + t)), (1, .int x1), (2, .int x2), (3, .int x3), (5, .int x5), (7, .int x7)] dX12_leastFrom_268 rfl rfl (by decide) rfl ?_
      refine jd_goto (pc := 271) 142 dX12_leastFrom_271 (by decide) ?_
      exact jd_lv (lv2 := [(0, .ref (gb G + t)), (1, .int x1), (2, .int x2), (3, .int x3), (4, .int x4), (5, .int x5), (6, .int (x6 + 1))]) [3, 4, 5, 6, 1, 7, 0] rfl h
    · have h := h.2 hc
      refine jd_iload (pc := 259) 0 dX12_leastFrom_259 rfl ?_
      refine jd_goto (pc := 261) 266 dX12_leastFrom_261 (by decide) ?_
      refine jd_istore (pc := 266) [(4, .int (x7 + v3)), (8, .int (x7 + v3)), (0, .ref (gb G + t)), (1, .int x1), (2, .int x2), (3, .int x3), (5, .int x5), (6, .int x6), (7, .int x7)] dX12_leastFrom_266 (by decide) rfl ?_
      refine jd_iinc (pc := 268) (v := (x6 + 1)) 7 [(6, .int (x6 + 1)), (4, .int (x7 + v3)), (8, .int (x7 + v3)), (0, .ref (gb G + t)), (1, .int x1), (2, .int x2), (3, .int x3), (5, .int x5), (7, .int x7)] dX12_leastFrom_268 rfl rfl (by decide) rfl ?_
      refine jd_goto (pc := 271) 142 dX12_leastFrom_271 (by decide) ?_
      exact jd_lv (lv2 := [(0, .ref (gb G + t)), (1, .int x1), (2, .int x2), (3, .int x3), (4, .int (x7 + v3)), (5, .int x5), (6, .int (x6 + 1))]) [3, 4, 5, 6, 1, 7, 0] rfl h
  · have h := h.2 hc
    refine jd_iload (pc := 180) 7 dX12_leastFrom_180 rfl ?_
    refine jd_aload_n (pc := 182) 0 dX12_leastFrom_182 rfl rfl ?_
    refine jd_getR (pc := 183) (ci := 11) (k := 29) (r := (t + 30)) gX12_61 ht.1 rfl (zModel_p29 ht) dX12_leastFrom_183 ?_
    refine jd_iload (pc := 186) 6 dX12_leastFrom_186 rfl ?_
    obtain ⟨hv4, h⟩ := h
    refine jd_iald (pc := 188) (len := 70) (zModel_a29 ht) hv4 dX12_leastFrom_188 ?_
    refine jd_iload (pc := 189) 8 dX12_leastFrom_189 rfl ?_
    refine jd_callSi (pc := 191) (M2 := mX12_has) (av := [.int (I (t + 30) (Int32.toNatClampNeg x6)), .int x8]) kX12_has sX12_has lX12_151 rfl rfl (Nat.le_of_ble_eq_true rfl) dX12_leastFrom_191 h ?_
    intro v6 I5 J5 h
    refine jd_if_eq (pc := 194) 221 dX12_leastFrom_194 (by decide) (fun hc => ?_) (fun hc => ?_)
    · have h := h.1 hc
      refine jd_iconst (pc := 221) (v := 0) dX12_leastFrom_221 (by decide) ?_
      refine jd_iadd (pc := 222) dX12_leastFrom_222 ?_
      refine jd_istore (pc := 223) [(7, .int (x7 + 0)), (0, .ref (gb G + t)), (1, .int x1), (2, .int x2), (3, .int x3), (4, .int x4), (5, .int x5), (6, .int x6), (8, .int x8)] dX12_leastFrom_223 (by decide) rfl ?_
      refine jd_iinc (pc := 225) (v := (x8 + 1)) 8 [(8, .int (x8 + 1)), (7, .int (x7 + 0)), (0, .ref (gb G + t)), (1, .int x1), (2, .int x2), (3, .int x3), (4, .int x4), (5, .int x5), (6, .int x6)] dX12_leastFrom_225 rfl rfl (by decide) rfl ?_
      refine jd_goto (pc := 228) 171 dX12_leastFrom_228 (by decide) ?_
      exact jd_lv (lv2 := [(0, .ref (gb G + t)), (1, .int x1), (2, .int x2), (3, .int x3), (4, .int x4), (5, .int x5), (6, .int x6), (7, .int (x7 + 0)), (8, .int (x8 + 1))]) [2, 3, 4, 5, 6, 7, 8, 1, 0] rfl h
    · have h := h.2 hc
      refine jd_bipush (pc := 197) (v := 10) dX12_leastFrom_197 (by decide) ?_
      refine jd_aload_n (pc := 199) 0 dX12_leastFrom_199 rfl rfl ?_
      refine jd_getR (pc := 200) (ci := 11) (k := 12) (r := (t + 19)) gX12_43 ht.1 rfl (zModel_p12 ht) dX12_leastFrom_200 ?_
      refine jd_iload (pc := 203) 8 dX12_leastFrom_203 rfl ?_
      obtain ⟨hv7, h⟩ := h
      refine jd_iald (pc := 205) (len := 8) (zModel_a12 ht) hv7 dX12_leastFrom_205 ?_
      refine jd_imul (pc := 206) dX12_leastFrom_206 ?_
      refine jd_iload (pc := 207) 5 dX12_leastFrom_207 rfl ?_
      refine jd_aload_n (pc := 209) 0 dX12_leastFrom_209 rfl rfl ?_
      refine jd_getR (pc := 210) (ci := 11) (k := 11) (r := (t + 18)) gX12_40 ht.1 rfl (zModel_p11 ht) dX12_leastFrom_210 ?_
      refine jd_iload (pc := 213) 8 dX12_leastFrom_213 rfl ?_
      obtain ⟨hv8, h⟩ := h
      refine jd_iald (pc := 215) (len := 8) (zModel_a11 ht) hv8 dX12_leastFrom_215 ?_
      refine jd_isub (pc := 216) dX12_leastFrom_216 ?_
      refine jd_imul (pc := 217) dX12_leastFrom_217 ?_
      refine jd_goto (pc := 218) 222 dX12_leastFrom_218 (by decide) ?_
      refine jd_iadd (pc := 222) dX12_leastFrom_222 ?_
      refine jd_istore (pc := 223) [(7, .int (x7 + ((10 * (I5 (t + 19) (Int32.toNatClampNeg x8))) * (x5 - (I5 (t + 18) (Int32.toNatClampNeg x8)))))), (0, .ref (gb G + t)), (1, .int x1), (2, .int x2), (3, .int x3), (4, .int x4), (5, .int x5), (6, .int x6), (8, .int x8)] dX12_leastFrom_223 (by decide) rfl ?_
      refine jd_iinc (pc := 225) (v := (x8 + 1)) 8 [(8, .int (x8 + 1)), (7, .int (x7 + ((10 * (I5 (t + 19) (Int32.toNatClampNeg x8))) * (x5 - (I5 (t + 18) (Int32.toNatClampNeg x8)))))), (0, .ref (gb G + t)), (1, .int x1), (2, .int x2), (3, .int x3), (4, .int x4), (5, .int x5), (6, .int x6)] dX12_leastFrom_225 rfl rfl (by decide) rfl ?_
      refine jd_goto (pc := 228) 171 dX12_leastFrom_228 (by decide) ?_
      exact jd_lv (lv2 := [(0, .ref (gb G + t)), (1, .int x1), (2, .int x2), (3, .int x3), (4, .int x4), (5, .int x5), (6, .int x6), (7, .int (x7 + ((10 * (I5 (t + 19) (Int32.toNatClampNeg x8))) * (x5 - (I5 (t + 18) (Int32.toNatClampNeg x8)))))), (8, .int (x8 + 1))]) [2, 3, 4, 5, 6, 7, 8, 1, 0] rfl h
theorem eX12_leastFrom {G : jdG} {n : Nat} {Z : jdL} {I : jdI} {J : jdJ} {K : Int32 → jdI → jdJ → Prop} {t : Nat} {x1 : Int32} {x2 : Int32} (ht : zModel Z t) (h : (vp_in ((x1 <<< (7 &&& 31)) ||| x2) 1024 ∧ (((I (t + 34) (Int32.toNatClampNeg ((x1 <<< (7 &&& 31)) ||| x2))) < 0 → ((¬ x1 = (I t 10) → (vp_in x1 7 ∧ Cl G mX12_leastFrom n 0 0 [.ref (gb G + t), .int (x1 + 1), .int (x2 ||| (1 <<< ((I (t + 31) (Int32.toNatClampNeg x1)) &&& 31)))] Z I J (qi Z (fun v4 I3 J3 => ((¬ x1 = 0 → (vp_in (x1 - 1) 7 ∧ (vp_in (I3 (t + 31) (Int32.toNatClampNeg (x1 - 1))) 8 ∧ Jd G mX12_leastFrom (jdFm G (qi Z K)) (n + 1) 0 0 142 [(0, .ref (gb G + t)), (1, .int x1), (2, .int x2), (3, .int ((x1 <<< (7 &&& 31)) ||| x2)), (4, .int v4), (5, .int (I3 (t + 18) (Int32.toNatClampNeg (I3 (t + 31) (Int32.toNatClampNeg (x1 - 1)))))), (6, .int 0)] [] Z I3 J3))) ∧ (x1 = 0 → Jd G mX12_leastFrom (jdFm G (qi Z K)) (n + 1) 0 0 142 [(0, .ref (gb G + t)), (1, .int x1), (2, .int x2), (3, .int ((x1 <<< (7 &&& 31)) ||| x2)), (4, .int v4), (5, .int 0), (6, .int 0)] [] Z I3 J3)))))) ∧ (x1 = (I t 10) → Jd G mX12_leastFrom (jdFm G (qi Z K)) (n + 1) 0 0 37 [(0, .ref (gb G + t)), (1, .int x1), (2, .int x2), (3, .int ((x1 <<< (7 &&& 31)) ||| x2)), (4, .int 0), (5, .int 0)] [] Z I J))) ∧ (¬ (I (t + 34) (Int32.toNatClampNeg ((x1 <<< (7 &&& 31)) ||| x2))) < 0 → (vp_in ((x1 <<< (7 &&& 31)) ||| x2) 1024 ∧ K (I (t + 34) (Int32.toNatClampNeg ((x1 <<< (7 &&& 31)) ||| x2))) I J))))) : Cl G mX12_leastFrom (n + 1) 0 0 [.ref (gb G + t), .int x1, .int x2] Z I J (qi Z K) :=
  Cl.of (by decide +kernel) (Nat.le_of_ble_eq_true rfl) (rX12_leastFrom_0 ht h)
set_option maxRecDepth 4000 in
theorem rX12_least_0 {G : jdG} {n rc rs : Nat} {Z : jdL} {I : jdI} {J : jdJ} {K : Int32 → jdI → jdJ → Prop} {t : Nat} {x1 : Int32} (ht : zModel Z t) (h : Cl G mX12_in n 0 0 [.long (Int32.toInt64 x1), .long 0, .long 1] Z I J (qi Z (fun v2 I1 J1 => ((¬ v2 = 0 → Cl G mX12_findComing n 0 0 [.ref (gb G + t)] Z I1 J1 (qv Z (fun I3 J3 => Cl G mX12_listAll n 0 0 [.ref (gb G + t)] Z I3 J3 (qv Z (fun I5 J5 => Jd G mX12_least (jdFm G (qi Z K)) (n + 1) rc rs 27 [(0, .ref (gb G + t)), (1, .int x1), (2, .int 0)] [] Z I5 J5))))) ∧ (v2 = 0 → Cl G mX12_refuse n 0 0 [.ref (gb G + t), .int (-2)] Z I1 J1 (qi Z (fun v8 I7 J7 => K v8 I7 J7))))))) : Jd G mX12_least (jdFm G (qi Z K)) (n + 1) rc rs 0 [(0, .ref (gb G + t)), (1, .int x1)] [] Z I J := by
  refine jd_iload_n (pc := 0) 1 dX12_least_0 rfl rfl ?_
  refine jd_i2l (pc := 1) dX12_least_1 ?_
  refine jd_lconst (pc := 2) (v := 0) dX12_least_2 (by decide) ?_
  refine jd_lconst (pc := 3) (v := 1) dX12_least_3 (by decide) ?_
  refine jd_callSi (pc := 4) (M2 := mX12_in) (av := [.long (Int32.toInt64 x1), .long 0, .long 1]) kX12_in sX12_in lX12_88 rfl rfl (Nat.le_of_ble_eq_true rfl) dX12_least_4 h ?_
  intro v2 I1 J1 h
  refine jd_if_ne (pc := 7) 17 dX12_least_7 (by decide) (fun hc => ?_) (fun hc => ?_)
  · have h := h.1 hc
    refine jd_aload_n (pc := 17) 0 dX12_least_17 rfl rfl ?_
    refine jd_callVv (pc := 18) (M2 := mX12_findComing) (id := t) (ci := 11) (T := TX12) (N := 45) (av := []) kX12_findComing sX12_findComing rfl ht.1 lX12_293 rfl rfl (Nat.le_of_ble_eq_true rfl) dX12_least_18 h ?_
    intro I3 J3 h
    refine jd_aload_n (pc := 21) 0 dX12_least_21 rfl rfl ?_
    refine jd_callVv (pc := 22) (M2 := mX12_listAll) (id := t) (ci := 11) (T := TX12) (N := 45) (av := []) kX12_listAll sX12_listAll rfl ht.1 lX12_269 rfl rfl (Nat.le_of_ble_eq_true rfl) dX12_least_22 h ?_
    intro I5 J5 h
    refine jd_iconst (pc := 25) (v := 0) dX12_least_25 (by decide) ?_
    refine jd_istore_n (pc := 26) [(2, .int 0), (0, .ref (gb G + t)), (1, .int x1)] dX12_least_26 rfl (by decide) rfl ?_
    exact jd_lv (lv2 := [(0, .ref (gb G + t)), (1, .int x1), (2, .int 0)]) [1, 2, 0] rfl h
  · have h := h.2 hc
    refine jd_aload_n (pc := 10) 0 dX12_least_10 rfl rfl ?_
    refine jd_bipush (pc := 11) (v := (-2)) dX12_least_11 (by decide) ?_
    refine jd_callVi (pc := 13) (M2 := mX12_refuse) (id := t) (ci := 11) (T := TX12) (N := 45) (av := [.int (-2)]) kX12_refuse sX12_refuse rfl ht.1 lX12_102 rfl rfl (Nat.le_of_ble_eq_true rfl) dX12_least_13 h ?_
    intro v8 I7 J7 h
    exact jd_iretK (pc := 16) rfl rfl dX12_least_16 h
set_option maxRecDepth 4000 in
theorem rX12_least_27 {G : jdG} {n rc rs : Nat} {Z : jdL} {I : jdI} {J : jdJ} {K : Int32 → jdI → jdJ → Prop} {t : Nat} {x1 : Int32} {x2 : Int32} (ht : zModel Z t) (h : ((1024 ≤ x2 → Cl G mX12_leastFrom n 0 0 [.ref (gb G + t), .int 0, .int 0] Z I J (qi Z (fun v2 I1 J1 => ((¬ x1 = 0 → K (9 - (v2 - v2 / 10 * 10)) I1 J1) ∧ (x1 = 0 → K (v2 / 10) I1 J1))))) ∧ (¬ 1024 ≤ x2 → (vp_in x2 1024 ∧ Jd G mX12_least (jdFm G (qi Z K)) (n + 1) rc rs 27 [(0, .ref (gb G + t)), (1, .int x1), (2, .int (x2 + 1))] [] Z (uI I (t + 34) (Int32.toNatClampNeg x2) (-1)) J)))) : Jd G mX12_least (jdFm G (qi Z K)) (n + 1) rc rs 27 [(0, .ref (gb G + t)), (1, .int x1), (2, .int x2)] [] Z I J := by
  refine jd_iload_n (pc := 27) 2 dX12_least_27 rfl rfl ?_
  refine jd_aload_n (pc := 28) 0 dX12_least_28 rfl rfl ?_
  refine jd_getR (pc := 29) (ci := 11) (k := 36) (r := (t + 34)) gX12_73 ht.1 rfl (zModel_p36 ht) dX12_least_29 ?_
  refine jd_alenI (pc := 32) (len := 1024) (v := 1024) (zModel_a36 ht) rfl dX12_least_32 ?_
  refine jd_icmp_ge (pc := 33) 49 dX12_least_33 (by decide) (fun hc => ?_) (fun hc => ?_)
  · have h := h.1 hc
    refine jd_aload_n (pc := 49) 0 dX12_least_49 rfl rfl ?_
    refine jd_iconst (pc := 50) (v := 0) dX12_least_50 (by decide) ?_
    refine jd_iconst (pc := 51) (v := 0) dX12_least_51 (by decide) ?_
    refine jd_callVi (pc := 52) (M2 := mX12_leastFrom) (id := t) (ci := 11) (T := TX12) (N := 45) (av := [.int 0, .int 0]) kX12_leastFrom sX12_leastFrom rfl ht.1 lX12_308 rfl rfl (Nat.le_of_ble_eq_true rfl) dX12_least_52 h ?_
    intro v2 I1 J1 h
    refine jd_istore_n (pc := 55) [(2, .int v2), (0, .ref (gb G + t)), (1, .int x1)] dX12_least_55 rfl (by decide) rfl ?_
    refine jd_iload_n (pc := 56) 2 dX12_least_56 rfl rfl ?_
    refine jd_if_ne (pc := 57) 67 dX12_least_57 (by decide) (fun hc => ?_) (fun hc => ?_)
    · have h := h.1 hc
      refine jd_bipush (pc := 67) (v := 9) dX12_least_67 (by decide) ?_
      refine jd_iload_n (pc := 69) 0 dX12_least_69 rfl rfl ?_
      refine jd_bipush (pc := 70) (v := 10) dX12_least_70 (by decide) ?_
      refine jd_irem (pc := 72) dX12_least_72 (by decide) ?_
      refine jd_isub (pc := 73) dX12_least_73 ?_
      exact jd_iretK (pc := 74) rfl rfl dX12_least_74 h
    · have h := h.2 hc
      refine jd_iload_n (pc := 60) 0 dX12_least_60 rfl rfl ?_
      refine jd_bipush (pc := 61) (v := 10) dX12_least_61 (by decide) ?_
      refine jd_idiv (pc := 63) dX12_least_63 (by decide) ?_
      refine jd_goto (pc := 64) 74 dX12_least_64 (by decide) ?_
      exact jd_iretK (pc := 74) rfl rfl dX12_least_74 h
  · have h := h.2 hc
    refine jd_aload_n (pc := 36) 0 dX12_least_36 rfl rfl ?_
    refine jd_getR (pc := 37) (ci := 11) (k := 36) (r := (t + 34)) gX12_73 ht.1 rfl (zModel_p36 ht) dX12_least_37 ?_
    refine jd_iload_n (pc := 40) 2 dX12_least_40 rfl rfl ?_
    refine jd_iconst (pc := 41) (v := (-1)) dX12_least_41 (by decide) ?_
    obtain ⟨hv3, h⟩ := h
    refine jd_iast (pc := 42) (len := 1024) (zModel_a36 ht) hv3 dX12_least_42 ?_
    refine jd_iinc (pc := 43) (v := (x2 + 1)) 2 [(2, .int (x2 + 1)), (0, .ref (gb G + t)), (1, .int x1)] dX12_least_43 rfl rfl (by decide) rfl ?_
    refine jd_goto (pc := 46) 27 dX12_least_46 (by decide) ?_
    exact jd_lv (lv2 := [(0, .ref (gb G + t)), (1, .int x1), (2, .int (x2 + 1))]) [1, 2, 0] rfl h
theorem eX12_least {G : jdG} {n : Nat} {Z : jdL} {I : jdI} {J : jdJ} {K : Int32 → jdI → jdJ → Prop} {t : Nat} {x1 : Int32} (ht : zModel Z t) (h : Cl G mX12_in n 0 0 [.long (Int32.toInt64 x1), .long 0, .long 1] Z I J (qi Z (fun v2 I1 J1 => ((¬ v2 = 0 → Cl G mX12_findComing n 0 0 [.ref (gb G + t)] Z I1 J1 (qv Z (fun I3 J3 => Cl G mX12_listAll n 0 0 [.ref (gb G + t)] Z I3 J3 (qv Z (fun I5 J5 => Jd G mX12_least (jdFm G (qi Z K)) (n + 1) 0 0 27 [(0, .ref (gb G + t)), (1, .int x1), (2, .int 0)] [] Z I5 J5))))) ∧ (v2 = 0 → Cl G mX12_refuse n 0 0 [.ref (gb G + t), .int (-2)] Z I1 J1 (qi Z (fun v8 I7 J7 => K v8 I7 J7))))))) : Cl G mX12_least (n + 1) 0 0 [.ref (gb G + t), .int x1] Z I J (qi Z K) :=
  Cl.of (by decide +kernel) (Nat.le_of_ble_eq_true rfl) (rX12_least_0 ht h)
set_option maxRecDepth 4000 in
theorem rX12_head_0 {G : jdG} {n rc rs : Nat} {Z : jdL} {I : jdI} {J : jdJ} {K : Int32 → jdI → jdJ → Prop} {t : Nat} (ht : zModel Z t) (h : Jd G mX12_head (jdFm G (qi Z K)) (n + 1) rc rs 6 [(0, .ref (gb G + t)), (1, .int (-1)), (2, .int 0), (3, .int 0)] [] Z I J) : Jd G mX12_head (jdFm G (qi Z K)) (n + 1) rc rs 0 [(0, .ref (gb G + t))] [] Z I J := by
  refine jd_iconst (pc := 0) (v := (-1)) dX12_head_0 (by decide) ?_
  refine jd_istore_n (pc := 1) [(1, .int (-1)), (0, .ref (gb G + t))] dX12_head_1 rfl (by decide) rfl ?_
  refine jd_iconst (pc := 2) (v := 0) dX12_head_2 (by decide) ?_
  refine jd_istore_n (pc := 3) [(2, .int 0), (1, .int (-1)), (0, .ref (gb G + t))] dX12_head_3 rfl (by decide) rfl ?_
  refine jd_iconst (pc := 4) (v := 0) dX12_head_4 (by decide) ?_
  refine jd_istore_n (pc := 5) [(3, .int 0), (2, .int 0), (1, .int (-1)), (0, .ref (gb G + t))] dX12_head_5 rfl (by decide) rfl ?_
  exact jd_lv (lv2 := [(0, .ref (gb G + t)), (1, .int (-1)), (2, .int 0), (3, .int 0)]) [3, 2, 1, 0] rfl h
set_option maxRecDepth 4000 in
theorem rX12_head_6 {G : jdG} {n rc rs : Nat} {Z : jdL} {I : jdI} {J : jdJ} {K : Int32 → jdI → jdJ → Prop} {t : Nat} {x1 : Int32} {x2 : Int32} {x3 : Int32} (ht : zModel Z t) (h : ((8 ≤ x3 → ((¬ x1 = (-1) → K x1 I J) ∧ (x1 = (-1) → Cl G mX12_refuse n 0 0 [.ref (gb G + t), .int (-5)] Z I J (qi Z (fun v2 I1 J1 => K v2 I1 J1))))) ∧ (¬ 8 ≤ x3 → (vp_in x3 8 ∧ ((¬ (I (t + 1) (Int32.toNatClampNeg x3)) = 2 → Jd G mX12_head (jdFm G (qi Z K)) (n + 1) rc rs 6 [(0, .ref (gb G + t)), (1, .int x1), (2, .int x2), (3, .int (x3 + 1))] [] Z I J) ∧ ((I (t + 1) (Int32.toNatClampNeg x3)) = 2 → (vp_in x3 8 ∧ (vp_in x3 8 ∧ Cl G mX12_goesBy n 0 0 [.ref (gb G + t), .int (I (t + 14) (Int32.toNatClampNeg x3)), .int (I (t + 15) (Int32.toNatClampNeg x3))] Z I J (qv Z (fun I6 J6 => Cl G mX12_waitedAll n 0 0 [.ref (gb G + t)] Z I6 J6 (qi Z (fun v9 I8 J8 => ((x1 = (-1) → Jd G mX12_head (jdFm G (qi Z K)) (n + 1) rc rs 6 [(0, .ref (gb G + t)), (1, .int x3), (2, .int v9), (3, .int (x3 + 1))] [] Z I8 J8) ∧ (¬ x1 = (-1) → ((x2 ≤ v9 → Jd G mX12_head (jdFm G (qi Z K)) (n + 1) rc rs 6 [(0, .ref (gb G + t)), (1, .int x1), (2, .int x2), (3, .int (x3 + 1))] [] Z I8 J8) ∧ (¬ x2 ≤ v9 → Jd G mX12_head (jdFm G (qi Z K)) (n + 1) rc rs 6 [(0, .ref (gb G + t)), (1, .int x3), (2, .int v9), (3, .int (x3 + 1))] [] Z I8 J8)))))))))))))))) : Jd G mX12_head (jdFm G (qi Z K)) (n + 1) rc rs 6 [(0, .ref (gb G + t)), (1, .int x1), (2, .int x2), (3, .int x3)] [] Z I J := by
  refine jd_iload_n (pc := 6) 3 dX12_head_6 rfl rfl ?_
  refine jd_bipush (pc := 7) (v := 8) dX12_head_7 (by decide) ?_
  refine jd_icmp_ge (pc := 9) 66 dX12_head_9 (by decide) (fun hc => ?_) (fun hc => ?_)
  · have h := h.1 hc
    refine jd_iload_n (pc := 66) 1 dX12_head_66 rfl rfl ?_
    refine jd_iconst (pc := 67) (v := (-1)) dX12_head_67 (by decide) ?_
    refine jd_icmp_ne (pc := 68) 80 dX12_head_68 (by decide) (fun hc => ?_) (fun hc => ?_)
    · have h := h.1 hc
      refine jd_iload_n (pc := 80) 1 dX12_head_80 rfl rfl ?_
      exact jd_iretK (pc := 81) rfl rfl dX12_head_81 h
    · have h := h.2 hc
      refine jd_aload_n (pc := 71) 0 dX12_head_71 rfl rfl ?_
      refine jd_bipush (pc := 72) (v := (-5)) dX12_head_72 (by decide) ?_
      refine jd_callVi (pc := 74) (M2 := mX12_refuse) (id := t) (ci := 11) (T := TX12) (N := 45) (av := [.int (-5)]) kX12_refuse sX12_refuse rfl ht.1 lX12_102 rfl rfl (Nat.le_of_ble_eq_true rfl) dX12_head_74 h ?_
      intro v2 I1 J1 h
      refine jd_goto (pc := 77) 81 dX12_head_77 (by decide) ?_
      exact jd_iretK (pc := 81) rfl rfl dX12_head_81 h
  · have h := h.2 hc
    refine jd_aload_n (pc := 12) 0 dX12_head_12 rfl rfl ?_
    refine jd_getR (pc := 13) (ci := 11) (k := 0) (r := (t + 1)) gX12_7 ht.1 rfl (zModel_p0 ht) dX12_head_13 ?_
    refine jd_iload_n (pc := 16) 3 dX12_head_16 rfl rfl ?_
    obtain ⟨hv3, h⟩ := h
    refine jd_iald (pc := 17) (len := 8) (zModel_a0 ht) hv3 dX12_head_17 ?_
    refine jd_iconst (pc := 18) (v := 2) dX12_head_18 (by decide) ?_
    refine jd_icmp_ne (pc := 19) 60 dX12_head_19 (by decide) (fun hc => ?_) (fun hc => ?_)
    · have h := h.1 hc
      refine jd_iinc (pc := 60) (v := (x3 + 1)) 3 [(3, .int (x3 + 1)), (0, .ref (gb G + t)), (1, .int x1), (2, .int x2)] dX12_head_60 rfl rfl (by decide) rfl ?_
      refine jd_goto (pc := 63) 6 dX12_head_63 (by decide) ?_
      exact jd_lv (lv2 := [(0, .ref (gb G + t)), (1, .int x1), (2, .int x2), (3, .int (x3 + 1))]) [1, 2, 3, 0] rfl h
    · have h := h.2 hc
      refine jd_aload_n (pc := 22) 0 dX12_head_22 rfl rfl ?_
      refine jd_aload_n (pc := 23) 0 dX12_head_23 rfl rfl ?_
      refine jd_getR (pc := 24) (ci := 11) (k := 5) (r := (t + 14)) gX12_28 ht.1 rfl (zModel_p5 ht) dX12_head_24 ?_
      refine jd_iload_n (pc := 27) 3 dX12_head_27 rfl rfl ?_
      obtain ⟨hv4, h⟩ := h
      refine jd_iald (pc := 28) (len := 8) (zModel_a5 ht) hv4 dX12_head_28 ?_
      refine jd_aload_n (pc := 29) 0 dX12_head_29 rfl rfl ?_
      refine jd_getR (pc := 30) (ci := 11) (k := 6) (r := (t + 15)) gX12_31 ht.1 rfl (zModel_p6 ht) dX12_head_30 ?_
      refine jd_iload_n (pc := 33) 3 dX12_head_33 rfl rfl ?_
      obtain ⟨hv5, h⟩ := h
      refine jd_iald (pc := 34) (len := 8) (zModel_a6 ht) hv5 dX12_head_34 ?_
      refine jd_callVv (pc := 35) (M2 := mX12_goesBy) (id := t) (ci := 11) (T := TX12) (N := 45) (av := [.int (I (t + 14) (Int32.toNatClampNeg x3)), .int (I (t + 15) (Int32.toNatClampNeg x3))]) kX12_goesBy sX12_goesBy rfl ht.1 lX12_302 rfl rfl (Nat.le_of_ble_eq_true rfl) dX12_head_35 h ?_
      intro I6 J6 h
      refine jd_aload_n (pc := 38) 0 dX12_head_38 rfl rfl ?_
      refine jd_callVi (pc := 39) (M2 := mX12_waitedAll) (id := t) (ci := 11) (T := TX12) (N := 45) (av := []) kX12_waitedAll sX12_waitedAll rfl ht.1 lX12_305 rfl rfl (Nat.le_of_ble_eq_true rfl) dX12_head_39 h ?_
      intro v9 I8 J8 h
      refine jd_istore (pc := 42) [(4, .int v9), (0, .ref (gb G + t)), (1, .int x1), (2, .int x2), (3, .int x3)] dX12_head_42 (by decide) rfl ?_
      refine jd_iload_n (pc := 44) 2 dX12_head_44 rfl rfl ?_
      refine jd_iconst (pc := 45) (v := (-1)) dX12_head_45 (by decide) ?_
      refine jd_icmp_eq (pc := 46) 55 dX12_head_46 (by decide) (fun hc => ?_) (fun hc => ?_)
      · have h := h.1 hc
        refine jd_iload_n (pc := 55) 4 dX12_head_55 rfl rfl ?_
        refine jd_istore_n (pc := 56) [(1, .int x3), (4, .int v9), (0, .ref (gb G + t)), (2, .int x2), (3, .int x3)] dX12_head_56 rfl (by decide) rfl ?_
        refine jd_iload (pc := 57) 1 dX12_head_57 rfl ?_
        refine jd_istore_n (pc := 59) [(2, .int v9), (1, .int x3), (4, .int v9), (0, .ref (gb G + t)), (3, .int x3)] dX12_head_59 rfl (by decide) rfl ?_
        refine jd_iinc (pc := 60) (v := (x3 + 1)) 4 [(3, .int (x3 + 1)), (2, .int v9), (1, .int x3), (4, .int v9), (0, .ref (gb G + t))] dX12_head_60 rfl rfl (by decide) rfl ?_
        refine jd_goto (pc := 63) 6 dX12_head_63 (by decide) ?_
        exact jd_lv (lv2 := [(0, .ref (gb G + t)), (1, .int x3), (2, .int v9), (3, .int (x3 + 1))]) [4, 2, 1, 0] rfl h
      · have h := h.2 hc
        refine jd_iload (pc := 49) 0 dX12_head_49 rfl ?_
        refine jd_iload_n (pc := 51) 3 dX12_head_51 rfl rfl ?_
        refine jd_icmp_ge (pc := 52) 60 dX12_head_52 (by decide) (fun hc => ?_) (fun hc => ?_)
        · have h := h.1 hc
          refine jd_iinc (pc := 60) (v := (x3 + 1)) 4 [(3, .int (x3 + 1)), (4, .int v9), (0, .ref (gb G + t)), (1, .int x1), (2, .int x2)] dX12_head_60 rfl rfl (by decide) rfl ?_
          refine jd_goto (pc := 63) 6 dX12_head_63 (by decide) ?_
          exact jd_lv (lv2 := [(0, .ref (gb G + t)), (1, .int x1), (2, .int x2), (3, .int (x3 + 1))]) [2, 3, 4, 0] rfl h
        · have h := h.2 hc
          refine jd_iload_n (pc := 55) 4 dX12_head_55 rfl rfl ?_
          refine jd_istore_n (pc := 56) [(1, .int x3), (4, .int v9), (0, .ref (gb G + t)), (2, .int x2), (3, .int x3)] dX12_head_56 rfl (by decide) rfl ?_
          refine jd_iload (pc := 57) 1 dX12_head_57 rfl ?_
          refine jd_istore_n (pc := 59) [(2, .int v9), (1, .int x3), (4, .int v9), (0, .ref (gb G + t)), (3, .int x3)] dX12_head_59 rfl (by decide) rfl ?_
          refine jd_iinc (pc := 60) (v := (x3 + 1)) 4 [(3, .int (x3 + 1)), (2, .int v9), (1, .int x3), (4, .int v9), (0, .ref (gb G + t))] dX12_head_60 rfl rfl (by decide) rfl ?_
          refine jd_goto (pc := 63) 6 dX12_head_63 (by decide) ?_
          exact jd_lv (lv2 := [(0, .ref (gb G + t)), (1, .int x3), (2, .int v9), (3, .int (x3 + 1))]) [4, 2, 1, 0] rfl h
theorem eX12_head {G : jdG} {n : Nat} {Z : jdL} {I : jdI} {J : jdJ} {K : Int32 → jdI → jdJ → Prop} {t : Nat} (ht : zModel Z t) (h : Jd G mX12_head (jdFm G (qi Z K)) (n + 1) 0 0 6 [(0, .ref (gb G + t)), (1, .int (-1)), (2, .int 0), (3, .int 0)] [] Z I J) : Cl G mX12_head (n + 1) 0 0 [.ref (gb G + t)] Z I J (qi Z K) :=
  Cl.of (by decide +kernel) (Nat.le_of_ble_eq_true rfl) (rX12_head_0 ht h)
set_option maxRecDepth 4000 in
theorem rX12_dayOf_0 {G : jdG} {n rc rs : Nat} {Z : jdL} {I : jdI} {J : jdJ} {K : Int32 → jdI → jdJ → Prop} {t : Nat} {x1 : Int32} {x2 : Int32} (ht : zModel Z t) (h : Cl G mX12_goesBy n 0 0 [.ref (gb G + t), .int x1, .int x2] Z I J (qv Z (fun I1 J1 => Jd G mX12_dayOf (jdFm G (qi Z K)) (n + 1) rc rs 8 [(0, .ref (gb G + t)), (1, .int x1), (2, .int x2), (3, .int 0)] [] Z I1 J1))) : Jd G mX12_dayOf (jdFm G (qi Z K)) (n + 1) rc rs 0 [(0, .ref (gb G + t)), (1, .int x1), (2, .int x2)] [] Z I J := by
  refine jd_aload_n (pc := 0) 0 dX12_dayOf_0 rfl rfl ?_
  refine jd_iload_n (pc := 1) 1 dX12_dayOf_1 rfl rfl ?_
  refine jd_iload_n (pc := 2) 2 dX12_dayOf_2 rfl rfl ?_
  refine jd_callVv (pc := 3) (M2 := mX12_goesBy) (id := t) (ci := 11) (T := TX12) (N := 45) (av := [.int x1, .int x2]) kX12_goesBy sX12_goesBy rfl ht.1 lX12_302 rfl rfl (Nat.le_of_ble_eq_true rfl) dX12_dayOf_3 h ?_
  intro I1 J1 h
  refine jd_iconst (pc := 6) (v := 0) dX12_dayOf_6 (by decide) ?_
  refine jd_istore_n (pc := 7) [(3, .int 0), (0, .ref (gb G + t)), (1, .int x1), (2, .int x2)] dX12_dayOf_7 rfl (by decide) rfl ?_
  exact jd_lv (lv2 := [(0, .ref (gb G + t)), (1, .int x1), (2, .int x2), (3, .int 0)]) [1, 2, 3, 0] rfl h
set_option maxRecDepth 4000 in
theorem rX12_dayOf_8 {G : jdG} {n rc rs : Nat} {Z : jdL} {I : jdI} {J : jdJ} {K : Int32 → jdI → jdJ → Prop} {t : Nat} {x1 : Int32} {x2 : Int32} {x3 : Int32} (ht : zModel Z t) (h : (((I t 33) ≤ x3 → K (I t 33) I J) ∧ (¬ (I t 33) ≤ x3 → (vp_in x3 7 ∧ Cl G mX12_meets n 0 0 [.ref (gb G + t), .int (I (t + 32) (Int32.toNatClampNeg x3))] Z I J (qi Z (fun v3 I2 J2 => Jd G mX12_dayOf (jdFm G (qi Z K)) (n + 1) rc rs 8 [(0, .ref (gb G + t)), (1, .int x1), (2, .int x2), (3, .int (x3 + 1))] [] Z I2 J2)))))) : Jd G mX12_dayOf (jdFm G (qi Z K)) (n + 1) rc rs 8 [(0, .ref (gb G + t)), (1, .int x1), (2, .int x2), (3, .int x3)] [] Z I J := by
  refine jd_iload_n (pc := 8) 3 dX12_dayOf_8 rfl rfl ?_
  refine jd_aload_n (pc := 9) 0 dX12_dayOf_9 rfl rfl ?_
  refine jd_getI (pc := 10) (ci := 11) (k := 33) gX12_296 ht.1 rfl dX12_dayOf_10 ?_
  refine jd_icmp_ge (pc := 13) 33 dX12_dayOf_13 (by decide) (fun hc => ?_) (fun hc => ?_)
  · have h := h.1 hc
    refine jd_aload_n (pc := 33) 0 dX12_dayOf_33 rfl rfl ?_
    refine jd_getI (pc := 34) (ci := 11) (k := 33) gX12_296 ht.1 rfl dX12_dayOf_34 ?_
    exact jd_iretK (pc := 37) rfl rfl dX12_dayOf_37 h
  · have h := h.2 hc
    refine jd_aload_n (pc := 16) 0 dX12_dayOf_16 rfl rfl ?_
    refine jd_aload_n (pc := 17) 0 dX12_dayOf_17 rfl rfl ?_
    refine jd_getR (pc := 18) (ci := 11) (k := 32) (r := (t + 32)) gX12_67 ht.1 rfl (zModel_p32 ht) dX12_dayOf_18 ?_
    refine jd_iload_n (pc := 21) 3 dX12_dayOf_21 rfl rfl ?_
    obtain ⟨hv1, h⟩ := h
    refine jd_iald (pc := 22) (len := 7) (zModel_a32 ht) hv1 dX12_dayOf_22 ?_
    refine jd_callVi (pc := 23) (M2 := mX12_meets) (id := t) (ci := 11) (T := TX12) (N := 45) (av := [.int (I (t + 32) (Int32.toNatClampNeg x3))]) kX12_meets sX12_meets rfl ht.1 lX12_213 rfl rfl (Nat.le_of_ble_eq_true rfl) dX12_dayOf_23 h ?_
    intro v3 I2 J2 h
    refine jd_pop (pc := 26) dX12_dayOf_26 rfl ?_
    refine jd_iinc (pc := 27) (v := (x3 + 1)) 3 [(3, .int (x3 + 1)), (0, .ref (gb G + t)), (1, .int x1), (2, .int x2)] dX12_dayOf_27 rfl rfl (by decide) rfl ?_
    refine jd_goto (pc := 30) 8 dX12_dayOf_30 (by decide) ?_
    exact jd_lv (lv2 := [(0, .ref (gb G + t)), (1, .int x1), (2, .int x2), (3, .int (x3 + 1))]) [1, 2, 3, 0] rfl h
theorem eX12_dayOf {G : jdG} {n : Nat} {Z : jdL} {I : jdI} {J : jdJ} {K : Int32 → jdI → jdJ → Prop} {t : Nat} {x1 : Int32} {x2 : Int32} (ht : zModel Z t) (h : Cl G mX12_goesBy n 0 0 [.ref (gb G + t), .int x1, .int x2] Z I J (qv Z (fun I1 J1 => Jd G mX12_dayOf (jdFm G (qi Z K)) (n + 1) 0 0 8 [(0, .ref (gb G + t)), (1, .int x1), (2, .int x2), (3, .int 0)] [] Z I1 J1))) : Cl G mX12_dayOf (n + 1) 0 0 [.ref (gb G + t), .int x1, .int x2] Z I J (qi Z K) :=
  Cl.of (by decide +kernel) (Nat.le_of_ble_eq_true rfl) (rX12_dayOf_0 ht h)
set_option maxRecDepth 4000 in
theorem rX12_days_0 {G : jdG} {n rc rs : Nat} {Z : jdL} {I : jdI} {J : jdJ} {Q : jdQ} {t : Nat} {x1 : Int32} (ht : zModel Z t) (h : Cl G mX12_noMan n 0 0 [.ref (gb G + t), .int x1] Z I J (qi Z (fun v2 I1 J1 => ((v2 = 0 → (∃ mc3 ms3 rc3 rs3 : Nat, mc3 + rc3 ≤ rc ∧ ms3 + rs3 ≤ rs ∧ Cl G mX12_fresh n mc3 ms3 [.ref (gb G + t)] Z I1 J1 (fun r3 Z3 I3 J3 => ∃ w3 : Nat, r3 = some (.ref (gb G + w3)) ∧ (zModel Z3 t ∧ (zModel Z3 w3 ∧ Jd G mX12_days (jdFm G Q) (n + 1) rc3 rs3 20 [(0, .ref (gb G + t)), (1, .int x1), (2, .int v2), (3, .ref (gb G + w3)), (4, .int 0)] [] Z3 I3 J3))))) ∧ (¬ v2 = 0 → Q (some (.int v2)) Z I1 J1))))) : Jd G mX12_days (jdFm G Q) (n + 1) rc rs 0 [(0, .ref (gb G + t)), (1, .int x1)] [] Z I J := by
  refine jd_aload_n (pc := 0) 0 dX12_days_0 rfl rfl ?_
  refine jd_iload_n (pc := 1) 1 dX12_days_1 rfl rfl ?_
  refine jd_callVi (pc := 2) (M2 := mX12_noMan) (id := t) (ci := 11) (T := TX12) (N := 45) (av := [.int x1]) kX12_noMan sX12_noMan rfl ht.1 lX12_290 rfl rfl (Nat.le_of_ble_eq_true rfl) dX12_days_2 h ?_
  intro v2 I1 J1 h
  refine jd_istore_n (pc := 5) [(2, .int v2), (0, .ref (gb G + t)), (1, .int x1)] dX12_days_5 rfl (by decide) rfl ?_
  refine jd_iload_n (pc := 6) 0 dX12_days_6 rfl rfl ?_
  refine jd_if_eq (pc := 7) 12 dX12_days_7 (by decide) (fun hc => ?_) (fun hc => ?_)
  · have h := h.1 hc
    refine jd_aload_n (pc := 12) 1 dX12_days_12 rfl rfl ?_
    obtain ⟨mc3, ms3, rc3, rs3, hb1, hb2, h⟩ := h
    refine jd_callV (pc := 13) (M2 := mX12_fresh) (id := t) (ci := 11) (T := TX12) (N := 45) (rc2 := rc3) (rs2 := rs3) (av := []) kX12_fresh sX12_fresh rfl ht.1 lX12_238 rfl rfl (Nat.le_of_ble_eq_true rfl) hb1 hb2 dX12_days_13 (Cl.mono h (fun r3 Z3 I3 J3 h => ?_))
    obtain ⟨w3, rfl, h⟩ := h
    obtain ⟨ht, h⟩ := h
    obtain ⟨hzw3, h⟩ := h
    refine jd_astore_n (pc := 16) [(3, .ref (gb G + w3)), (2, .int v2), (0, .ref (gb G + t)), (1, .int x1)] dX12_days_16 rfl (by decide) rfl ?_
    refine jd_iconst (pc := 17) (v := 0) dX12_days_17 (by decide) ?_
    refine jd_istore (pc := 18) [(4, .int 0), (3, .ref (gb G + w3)), (2, .int v2), (0, .ref (gb G + t)), (1, .int x1)] dX12_days_18 (by decide) rfl ?_
    exact jd_lv (lv2 := [(0, .ref (gb G + t)), (1, .int x1), (2, .int v2), (3, .ref (gb G + w3)), (4, .int 0)]) [3, 4, 2, 1, 0] rfl h
  · have h := h.2 hc
    refine jd_iload_n (pc := 10) 0 dX12_days_10 rfl rfl ?_
    exact jd_iret (pc := 11) (ty := .int) rfl rfl dX12_days_11 h
set_option maxRecDepth 4000 in
theorem rX12_days_20 {G : jdG} {n rc rs : Nat} {Z : jdL} {I : jdI} {J : jdJ} {Q : jdQ} {t : Nat} {x1 : Int32} {x2 : Int32} {u3 : Nat} {x4 : Int32} (ht : zModel Z t) (hu3 : zModel Z u3) (h : ((30 ≤ x4 → Q (some (.int x4)) Z I J) ∧ (¬ 30 ≤ x4 → (vp_in x1 8 ∧ (vp_in x1 8 ∧ Cl G mX12_dayOf n 0 0 [.ref (gb G + u3), .int (I (t + 14) (Int32.toNatClampNeg x1)), .int (I (t + 15) (Int32.toNatClampNeg x1))] Z I J (qi Z (fun v4 I3 J3 => ((v4 ≤ 0 → Q (some (.int x4)) Z I3 J3) ∧ (¬ v4 ≤ 0 → Jd G mX12_days (jdFm G Q) (n + 1) rc rs 20 [(0, .ref (gb G + t)), (1, .int x1), (2, .int x2), (3, .ref (gb G + u3)), (4, .int (x4 + 1))] [] Z I3 J3))))))))) : Jd G mX12_days (jdFm G Q) (n + 1) rc rs 20 [(0, .ref (gb G + t)), (1, .int x1), (2, .int x2), (3, .ref (gb G + u3)), (4, .int x4)] [] Z I J := by
  refine jd_iload (pc := 20) 4 dX12_days_20 rfl ?_
  refine jd_bipush (pc := 22) (v := 30) dX12_days_22 (by decide) ?_
  refine jd_icmp_ge (pc := 24) 52 dX12_days_24 (by decide) (fun hc => ?_) (fun hc => ?_)
  · have h := h.1 hc
    refine jd_iload (pc := 52) 4 dX12_days_52 rfl ?_
    exact jd_iret (pc := 54) (ty := .int) rfl rfl dX12_days_54 h
  · have h := h.2 hc
    refine jd_aload_n (pc := 27) 3 dX12_days_27 rfl rfl ?_
    refine jd_aload_n (pc := 28) 0 dX12_days_28 rfl rfl ?_
    refine jd_getR (pc := 29) (ci := 11) (k := 5) (r := (t + 14)) gX12_28 ht.1 rfl (zModel_p5 ht) dX12_days_29 ?_
    refine jd_iload_n (pc := 32) 1 dX12_days_32 rfl rfl ?_
    obtain ⟨hv1, h⟩ := h
    refine jd_iald (pc := 33) (len := 8) (zModel_a5 ht) hv1 dX12_days_33 ?_
    refine jd_aload_n (pc := 34) 0 dX12_days_34 rfl rfl ?_
    refine jd_getR (pc := 35) (ci := 11) (k := 6) (r := (t + 15)) gX12_31 ht.1 rfl (zModel_p6 ht) dX12_days_35 ?_
    refine jd_iload_n (pc := 38) 1 dX12_days_38 rfl rfl ?_
    obtain ⟨hv2, h⟩ := h
    refine jd_iald (pc := 39) (len := 8) (zModel_a6 ht) hv2 dX12_days_39 ?_
    refine jd_callVi (pc := 40) (M2 := mX12_dayOf) (id := u3) (ci := 11) (T := TX12) (N := 45) (av := [.int (I (t + 14) (Int32.toNatClampNeg x1)), .int (I (t + 15) (Int32.toNatClampNeg x1))]) kX12_dayOf sX12_dayOf rfl hu3.1 lX12_312 rfl rfl (Nat.le_of_ble_eq_true rfl) dX12_days_40 h ?_
    intro v4 I3 J3 h
    refine jd_if_le (pc := 43) 52 dX12_days_43 (by decide) (fun hc => ?_) (fun hc => ?_)
    · have h := h.1 hc
      refine jd_iload (pc := 52) 4 dX12_days_52 rfl ?_
      exact jd_iret (pc := 54) (ty := .int) rfl rfl dX12_days_54 h
    · have h := h.2 hc
      refine jd_iinc (pc := 46) (v := (x4 + 1)) 4 [(4, .int (x4 + 1)), (0, .ref (gb G + t)), (1, .int x1), (2, .int x2), (3, .ref (gb G + u3))] dX12_days_46 rfl rfl (by decide) rfl ?_
      refine jd_goto (pc := 49) 20 dX12_days_49 (by decide) ?_
      exact jd_lv (lv2 := [(0, .ref (gb G + t)), (1, .int x1), (2, .int x2), (3, .ref (gb G + u3)), (4, .int (x4 + 1))]) [1, 2, 3, 4, 0] rfl h
theorem eX12_days {G : jdG} {n mc ms : Nat} {Z : jdL} {I : jdI} {J : jdJ} {Q : jdQ} {t : Nat} {x1 : Int32} (ht : zModel Z t) (h : Cl G mX12_noMan n 0 0 [.ref (gb G + t), .int x1] Z I J (qi Z (fun v2 I1 J1 => ((v2 = 0 → (∃ mc3 ms3 rc3 rs3 : Nat, mc3 + rc3 ≤ mc ∧ ms3 + rs3 ≤ ms ∧ Cl G mX12_fresh n mc3 ms3 [.ref (gb G + t)] Z I1 J1 (fun r3 Z3 I3 J3 => ∃ w3 : Nat, r3 = some (.ref (gb G + w3)) ∧ (zModel Z3 t ∧ (zModel Z3 w3 ∧ Jd G mX12_days (jdFm G Q) (n + 1) rc3 rs3 20 [(0, .ref (gb G + t)), (1, .int x1), (2, .int v2), (3, .ref (gb G + w3)), (4, .int 0)] [] Z3 I3 J3))))) ∧ (¬ v2 = 0 → Q (some (.int v2)) Z I1 J1))))) : Cl G mX12_days (n + 1) mc ms [.ref (gb G + t), .int x1] Z I J Q :=
  Cl.of (by decide +kernel) (Nat.le_of_ble_eq_true rfl) (rX12_days_0 ht h)
set_option maxRecDepth 4000 in
theorem rX12_pairsOf_0 {G : jdG} {n rc rs : Nat} {Z : jdL} {I : jdI} {J : jdJ} {K : Int32 → jdI → jdJ → Prop} {t : Nat} {x1 : Int32} (ht : zModel Z t) (h : Jd G mX12_pairsOf (jdFm G (qi Z K)) (n + 1) rc rs 4 [(0, .ref (gb G + t)), (1, .int x1), (2, .int 0), (3, .int 0)] [] Z I J) : Jd G mX12_pairsOf (jdFm G (qi Z K)) (n + 1) rc rs 0 [(0, .ref (gb G + t)), (1, .int x1)] [] Z I J := by
  refine jd_iconst (pc := 0) (v := 0) dX12_pairsOf_0 (by decide) ?_
  refine jd_istore_n (pc := 1) [(2, .int 0), (0, .ref (gb G + t)), (1, .int x1)] dX12_pairsOf_1 rfl (by decide) rfl ?_
  refine jd_iconst (pc := 2) (v := 0) dX12_pairsOf_2 (by decide) ?_
  refine jd_istore_n (pc := 3) [(3, .int 0), (2, .int 0), (0, .ref (gb G + t)), (1, .int x1)] dX12_pairsOf_3 rfl (by decide) rfl ?_
  exact jd_lv (lv2 := [(0, .ref (gb G + t)), (1, .int x1), (2, .int 0), (3, .int 0)]) [2, 3, 1, 0] rfl h
set_option maxRecDepth 4000 in
theorem rX12_pairsOf_4 {G : jdG} {n rc rs : Nat} {Z : jdL} {I : jdI} {J : jdJ} {K : Int32 → jdI → jdJ → Prop} {t : Nat} {x1 : Int32} {x2 : Int32} {x3 : Int32} (ht : zModel Z t) (h : (((I t 10) ≤ x3 → K x2 I J) ∧ (¬ (I t 10) ≤ x3 → Jd G mX12_pairsOf (jdFm G (qi Z K)) (n + 1) rc rs 15 [(0, .ref (gb G + t)), (1, .int x1), (2, .int x2), (3, .int x3), (4, .int 0)] [] Z I J))) : Jd G mX12_pairsOf (jdFm G (qi Z K)) (n + 1) rc rs 4 [(0, .ref (gb G + t)), (1, .int x1), (2, .int x2), (3, .int x3)] [] Z I J := by
  refine jd_iload_n (pc := 4) 3 dX12_pairsOf_4 rfl rfl ?_
  refine jd_aload_n (pc := 5) 0 dX12_pairsOf_5 rfl rfl ?_
  refine jd_getI (pc := 6) (ci := 11) (k := 10) gX12_85 ht.1 rfl dX12_pairsOf_6 ?_
  refine jd_icmp_ge (pc := 9) 71 dX12_pairsOf_9 (by decide) (fun hc => ?_) (fun hc => ?_)
  · have h := h.1 hc
    refine jd_iload_n (pc := 71) 2 dX12_pairsOf_71 rfl rfl ?_
    exact jd_iretK (pc := 72) rfl rfl dX12_pairsOf_72 h
  · have h := h.2 hc
    refine jd_iconst (pc := 12) (v := 0) dX12_pairsOf_12 (by decide) ?_
    refine jd_istore (pc := 13) [(4, .int 0), (0, .ref (gb G + t)), (1, .int x1), (2, .int x2), (3, .int x3)] dX12_pairsOf_13 (by decide) rfl ?_
    exact jd_lv (lv2 := [(0, .ref (gb G + t)), (1, .int x1), (2, .int x2), (3, .int x3), (4, .int 0)]) [1, 2, 3, 4, 0] rfl h
set_option maxRecDepth 4000 in
theorem rX12_pairsOf_15 {G : jdG} {n rc rs : Nat} {Z : jdL} {I : jdI} {J : jdJ} {K : Int32 → jdI → jdJ → Prop} {t : Nat} {x1 : Int32} {x2 : Int32} {x3 : Int32} {x4 : Int32} (ht : zModel Z t) (h : ((x3 ≤ x4 → Jd G mX12_pairsOf (jdFm G (qi Z K)) (n + 1) rc rs 4 [(0, .ref (gb G + t)), (1, .int x1), (2, .int x2), (3, .int (x3 + 1))] [] Z I J) ∧ (¬ x3 ≤ x4 → Cl G mX12_has n 0 0 [.int x1, .int x3] Z I J (qi Z (fun v2 I1 J1 => ((v2 = 0 → Jd G mX12_pairsOf (jdFm G (qi Z K)) (n + 1) rc rs 15 [(0, .ref (gb G + t)), (1, .int x1), (2, .int (x2 + 0)), (3, .int x3), (4, .int (x4 + 1))] [] Z I1 J1) ∧ (¬ v2 = 0 → Cl G mX12_has n 0 0 [.int x1, .int x4] Z I1 J1 (qi Z (fun v4 I3 J3 => ((v4 = 0 → Jd G mX12_pairsOf (jdFm G (qi Z K)) (n + 1) rc rs 15 [(0, .ref (gb G + t)), (1, .int x1), (2, .int (x2 + 0)), (3, .int x3), (4, .int (x4 + 1))] [] Z I3 J3) ∧ (¬ v4 = 0 → (vp_in x3 8 ∧ (vp_in x4 8 ∧ ((¬ (I3 (t + 21 + (Int32.toNatClampNeg x3)) (Int32.toNatClampNeg x4)) = (-1) → Jd G mX12_pairsOf (jdFm G (qi Z K)) (n + 1) rc rs 15 [(0, .ref (gb G + t)), (1, .int x1), (2, .int (x2 + 0)), (3, .int x3), (4, .int (x4 + 1))] [] Z I3 J3) ∧ ((I3 (t + 21 + (Int32.toNatClampNeg x3)) (Int32.toNatClampNeg x4)) = (-1) → Jd G mX12_pairsOf (jdFm G (qi Z K)) (n + 1) rc rs 15 [(0, .ref (gb G + t)), (1, .int x1), (2, .int (x2 + 1)), (3, .int x3), (4, .int (x4 + 1))] [] Z I3 J3))))))))))))))) : Jd G mX12_pairsOf (jdFm G (qi Z K)) (n + 1) rc rs 15 [(0, .ref (gb G + t)), (1, .int x1), (2, .int x2), (3, .int x3), (4, .int x4)] [] Z I J := by
  refine jd_iload (pc := 15) 4 dX12_pairsOf_15 rfl ?_
  refine jd_iload_n (pc := 17) 3 dX12_pairsOf_17 rfl rfl ?_
  refine jd_icmp_ge (pc := 18) 65 dX12_pairsOf_18 (by decide) (fun hc => ?_) (fun hc => ?_)
  · have h := h.1 hc
    refine jd_iinc (pc := 65) (v := (x3 + 1)) 3 [(3, .int (x3 + 1)), (0, .ref (gb G + t)), (1, .int x1), (2, .int x2), (4, .int x4)] dX12_pairsOf_65 rfl rfl (by decide) rfl ?_
    refine jd_goto (pc := 68) 4 dX12_pairsOf_68 (by decide) ?_
    exact jd_lv (lv2 := [(0, .ref (gb G + t)), (1, .int x1), (2, .int x2), (3, .int (x3 + 1))]) [1, 2, 3, 0] rfl h
  · have h := h.2 hc
    refine jd_iload_n (pc := 21) 2 dX12_pairsOf_21 rfl rfl ?_
    refine jd_iload_n (pc := 22) 1 dX12_pairsOf_22 rfl rfl ?_
    refine jd_iload_n (pc := 23) 3 dX12_pairsOf_23 rfl rfl ?_
    refine jd_callSi (pc := 24) (M2 := mX12_has) (av := [.int x1, .int x3]) kX12_has sX12_has lX12_151 rfl rfl (Nat.le_of_ble_eq_true rfl) dX12_pairsOf_24 h ?_
    intro v2 I1 J1 h
    refine jd_if_eq (pc := 27) 56 dX12_pairsOf_27 (by decide) (fun hc => ?_) (fun hc => ?_)
    · have h := h.1 hc
      refine jd_iconst (pc := 56) (v := 0) dX12_pairsOf_56 (by decide) ?_
      refine jd_iadd (pc := 57) dX12_pairsOf_57 ?_
      refine jd_istore_n (pc := 58) [(2, .int (x2 + 0)), (0, .ref (gb G + t)), (1, .int x1), (3, .int x3), (4, .int x4)] dX12_pairsOf_58 rfl (by decide) rfl ?_
      refine jd_iinc (pc := 59) (v := (x4 + 1)) 4 [(4, .int (x4 + 1)), (2, .int (x2 + 0)), (0, .ref (gb G + t)), (1, .int x1), (3, .int x3)] dX12_pairsOf_59 rfl rfl (by decide) rfl ?_
      refine jd_goto (pc := 62) 15 dX12_pairsOf_62 (by decide) ?_
      exact jd_lv (lv2 := [(0, .ref (gb G + t)), (1, .int x1), (2, .int (x2 + 0)), (3, .int x3), (4, .int (x4 + 1))]) [2, 3, 1, 4, 0] rfl h
    · have h := h.2 hc
      refine jd_iload_n (pc := 30) 1 dX12_pairsOf_30 rfl rfl ?_
      refine jd_iload (pc := 31) 4 dX12_pairsOf_31 rfl ?_
      refine jd_callSi (pc := 33) (M2 := mX12_has) (av := [.int x1, .int x4]) kX12_has sX12_has lX12_151 rfl rfl (Nat.le_of_ble_eq_true rfl) dX12_pairsOf_33 h ?_
      intro v4 I3 J3 h
      refine jd_if_eq (pc := 36) 56 dX12_pairsOf_36 (by decide) (fun hc => ?_) (fun hc => ?_)
      · have h := h.1 hc
        refine jd_iconst (pc := 56) (v := 0) dX12_pairsOf_56 (by decide) ?_
        refine jd_iadd (pc := 57) dX12_pairsOf_57 ?_
        refine jd_istore_n (pc := 58) [(2, .int (x2 + 0)), (0, .ref (gb G + t)), (1, .int x1), (3, .int x3), (4, .int x4)] dX12_pairsOf_58 rfl (by decide) rfl ?_
        refine jd_iinc (pc := 59) (v := (x4 + 1)) 4 [(4, .int (x4 + 1)), (2, .int (x2 + 0)), (0, .ref (gb G + t)), (1, .int x1), (3, .int x3)] dX12_pairsOf_59 rfl rfl (by decide) rfl ?_
        refine jd_goto (pc := 62) 15 dX12_pairsOf_62 (by decide) ?_
        exact jd_lv (lv2 := [(0, .ref (gb G + t)), (1, .int x1), (2, .int (x2 + 0)), (3, .int x3), (4, .int (x4 + 1))]) [2, 3, 1, 4, 0] rfl h
      · have h := h.2 hc
        refine jd_aload_n (pc := 39) 0 dX12_pairsOf_39 rfl rfl ?_
        refine jd_getR (pc := 40) (ci := 11) (k := 13) (r := (t + 20)) gX12_48 ht.1 rfl (zModel_p13 ht) dX12_pairsOf_40 ?_
        refine jd_iload_n (pc := 43) 3 dX12_pairsOf_43 rfl rfl ?_
        obtain ⟨hv5, h⟩ := h
        refine jd_aald (pc := 44) (len := 8) (k := 2) (zModel_a13 ht) (by decide) hv5 (zModel_known ht (vp_lt hv5)) dX12_pairsOf_44 ?_
        refine jd_iload (pc := 45) 4 dX12_pairsOf_45 rfl ?_
        obtain ⟨hv6, h⟩ := h
        refine jd_iald (pc := 47) (len := 8) (zModel_knownA ht (vp_lt hv5)) hv6 dX12_pairsOf_47 ?_
        refine jd_iconst (pc := 48) (v := (-1)) dX12_pairsOf_48 (by decide) ?_
        refine jd_icmp_ne (pc := 49) 56 dX12_pairsOf_49 (by decide) (fun hc => ?_) (fun hc => ?_)
        · have h := h.1 hc
          refine jd_iconst (pc := 56) (v := 0) dX12_pairsOf_56 (by decide) ?_
          refine jd_iadd (pc := 57) dX12_pairsOf_57 ?_
          refine jd_istore_n (pc := 58) [(2, .int (x2 + 0)), (0, .ref (gb G + t)), (1, .int x1), (3, .int x3), (4, .int x4)] dX12_pairsOf_58 rfl (by decide) rfl ?_
          refine jd_iinc (pc := 59) (v := (x4 + 1)) 4 [(4, .int (x4 + 1)), (2, .int (x2 + 0)), (0, .ref (gb G + t)), (1, .int x1), (3, .int x3)] dX12_pairsOf_59 rfl rfl (by decide) rfl ?_
          refine jd_goto (pc := 62) 15 dX12_pairsOf_62 (by decide) ?_
          exact jd_lv (lv2 := [(0, .ref (gb G + t)), (1, .int x1), (2, .int (x2 + 0)), (3, .int x3), (4, .int (x4 + 1))]) [2, 3, 1, 4, 0] rfl h
        · have h := h.2 hc
          refine jd_iconst (pc := 52) (v := 1) dX12_pairsOf_52 (by decide) ?_
          refine jd_goto (pc := 53) 57 dX12_pairsOf_53 (by decide) ?_
          refine jd_iadd (pc := 57) dX12_pairsOf_57 ?_
          refine jd_istore_n (pc := 58) [(2, .int (x2 + 1)), (0, .ref (gb G + t)), (1, .int x1), (3, .int x3), (4, .int x4)] dX12_pairsOf_58 rfl (by decide) rfl ?_
          refine jd_iinc (pc := 59) (v := (x4 + 1)) 4 [(4, .int (x4 + 1)), (2, .int (x2 + 1)), (0, .ref (gb G + t)), (1, .int x1), (3, .int x3)] dX12_pairsOf_59 rfl rfl (by decide) rfl ?_
          refine jd_goto (pc := 62) 15 dX12_pairsOf_62 (by decide) ?_
          exact jd_lv (lv2 := [(0, .ref (gb G + t)), (1, .int x1), (2, .int (x2 + 1)), (3, .int x3), (4, .int (x4 + 1))]) [2, 3, 1, 4, 0] rfl h
theorem eX12_pairsOf {G : jdG} {n : Nat} {Z : jdL} {I : jdI} {J : jdJ} {K : Int32 → jdI → jdJ → Prop} {t : Nat} {x1 : Int32} (ht : zModel Z t) (h : Jd G mX12_pairsOf (jdFm G (qi Z K)) (n + 1) 0 0 4 [(0, .ref (gb G + t)), (1, .int x1), (2, .int 0), (3, .int 0)] [] Z I J) : Cl G mX12_pairsOf (n + 1) 0 0 [.ref (gb G + t), .int x1] Z I J (qi Z K) :=
  Cl.of (by decide +kernel) (Nat.le_of_ble_eq_true rfl) (rX12_pairsOf_0 ht h)
set_option maxRecDepth 4000 in
theorem rX12_seekEver_0 {G : jdG} {n rc rs : Nat} {Z : jdL} {I : jdI} {J : jdJ} {K : jdI → jdJ → Prop} {t : Nat} {x1 : Int32} {u2 : Nat} {n2 : Nat} {x3 : Int32} (ht : zModel Z t) (hu2 : Z.1 u2 = some (0, n2)) (h : ((¬ x1 = (I t 30) → (vp_in x1 70 ∧ Cl G mX12_isApart n 0 0 [.ref (gb G + u2), .int x3, .int (I (t + 30) (Int32.toNatClampNeg x1))] Z I J (qi Z (fun v3 I2 J2 => ((v3 = 0 → Cl G mX12_seekEver n 0 0 [.ref (gb G + t), .int (x1 + 1), .ref (gb G + u2), .int x3] Z I2 J2 (qv Z (fun I4 J4 => K I4 J4))) ∧ (¬ v3 = 0 → (vp_in x1 70 ∧ (vp_in x3 n2 ∧ Cl G mX12_seekEver n 0 0 [.ref (gb G + t), .int (x1 + 1), .ref (gb G + u2), .int (x3 + 1)] Z (uI I2 u2 (Int32.toNatClampNeg x3) (I2 (t + 30) (Int32.toNatClampNeg x1))) J2 (qv Z (fun I8 J8 => Cl G mX12_seekEver n 0 0 [.ref (gb G + t), .int (x1 + 1), .ref (gb G + u2), .int x3] Z I8 J8 (qv Z (fun I10 J10 => K I10 J10)))))))))))) ∧ (x1 = (I t 30) → Jd G mX12_seekEver (jdFm G (qv Z K)) (n + 1) rc rs 14 [(0, .ref (gb G + t)), (1, .int x1), (2, .ref (gb G + u2)), (3, .int x3), (4, .int 1), (5, .int 0)] [] Z I J))) : Jd G mX12_seekEver (jdFm G (qv Z K)) (n + 1) rc rs 0 [(0, .ref (gb G + t)), (1, .int x1), (2, .ref (gb G + u2)), (3, .int x3)] [] Z I J := by
  refine jd_iload_n (pc := 0) 1 dX12_seekEver_0 rfl rfl ?_
  refine jd_aload_n (pc := 1) 0 dX12_seekEver_1 rfl rfl ?_
  refine jd_getI (pc := 2) (ci := 11) (k := 30) gX12_257 ht.1 rfl dX12_seekEver_2 ?_
  refine jd_icmp_ne (pc := 5) 110 dX12_seekEver_5 (by decide) (fun hc => ?_) (fun hc => ?_)
  · have h := h.1 hc
    refine jd_aload_n (pc := 110) 2 dX12_seekEver_110 rfl rfl ?_
    refine jd_iload_n (pc := 111) 3 dX12_seekEver_111 rfl rfl ?_
    refine jd_aload_n (pc := 112) 0 dX12_seekEver_112 rfl rfl ?_
    refine jd_getR (pc := 113) (ci := 11) (k := 29) (r := (t + 30)) gX12_61 ht.1 rfl (zModel_p29 ht) dX12_seekEver_113 ?_
    refine jd_iload_n (pc := 116) 1 dX12_seekEver_116 rfl rfl ?_
    obtain ⟨hv1, h⟩ := h
    refine jd_iald (pc := 117) (len := 70) (zModel_a29 ht) hv1 dX12_seekEver_117 ?_
    refine jd_callSi (pc := 118) (M2 := mX12_isApart) (av := [.ref (gb G + u2), .int x3, .int (I (t + 30) (Int32.toNatClampNeg x1))]) kX12_isApart sX12_isApart lX12_315 rfl rfl (Nat.le_of_ble_eq_true rfl) dX12_seekEver_118 h ?_
    intro v3 I2 J2 h
    refine jd_if_eq (pc := 121) 144 dX12_seekEver_121 (by decide) (fun hc => ?_) (fun hc => ?_)
    · have h := h.1 hc
      refine jd_aload_n (pc := 144) 0 dX12_seekEver_144 rfl rfl ?_
      refine jd_iload_n (pc := 145) 1 dX12_seekEver_145 rfl rfl ?_
      refine jd_iconst (pc := 146) (v := 1) dX12_seekEver_146 (by decide) ?_
      refine jd_iadd (pc := 147) dX12_seekEver_147 ?_
      refine jd_aload_n (pc := 148) 2 dX12_seekEver_148 rfl rfl ?_
      refine jd_iload_n (pc := 149) 3 dX12_seekEver_149 rfl rfl ?_
      refine jd_callVv (pc := 150) (M2 := mX12_seekEver) (id := t) (ci := 11) (T := TX12) (N := 45) (av := [.int (x1 + 1), .ref (gb G + u2), .int x3]) kX12_seekEver sX12_seekEver rfl ht.1 lX12_325 rfl rfl (Nat.le_of_ble_eq_true rfl) dX12_seekEver_150 h ?_
      intro I4 J4 h
      exact jd_vretK (pc := 153) rfl dX12_seekEver_153 h
    · have h := h.2 hc
      refine jd_aload_n (pc := 124) 2 dX12_seekEver_124 rfl rfl ?_
      refine jd_iload_n (pc := 125) 3 dX12_seekEver_125 rfl rfl ?_
      refine jd_aload_n (pc := 126) 0 dX12_seekEver_126 rfl rfl ?_
      refine jd_getR (pc := 127) (ci := 11) (k := 29) (r := (t + 30)) gX12_61 ht.1 rfl (zModel_p29 ht) dX12_seekEver_127 ?_
      refine jd_iload_n (pc := 130) 1 dX12_seekEver_130 rfl rfl ?_
      obtain ⟨hv6, h⟩ := h
      refine jd_iald (pc := 131) (len := 70) (zModel_a29 ht) hv6 dX12_seekEver_131 ?_
      obtain ⟨hv7, h⟩ := h
      refine jd_iast (pc := 132) (len := n2) hu2 hv7 dX12_seekEver_132 ?_
      refine jd_aload_n (pc := 133) 0 dX12_seekEver_133 rfl rfl ?_
      refine jd_iload_n (pc := 134) 1 dX12_seekEver_134 rfl rfl ?_
      refine jd_iconst (pc := 135) (v := 1) dX12_seekEver_135 (by decide) ?_
      refine jd_iadd (pc := 136) dX12_seekEver_136 ?_
      refine jd_aload_n (pc := 137) 2 dX12_seekEver_137 rfl rfl ?_
      refine jd_iload_n (pc := 138) 3 dX12_seekEver_138 rfl rfl ?_
      refine jd_iconst (pc := 139) (v := 1) dX12_seekEver_139 (by decide) ?_
      refine jd_iadd (pc := 140) dX12_seekEver_140 ?_
      refine jd_callVv (pc := 141) (M2 := mX12_seekEver) (id := t) (ci := 11) (T := TX12) (N := 45) (av := [.int (x1 + 1), .ref (gb G + u2), .int (x3 + 1)]) kX12_seekEver sX12_seekEver rfl ht.1 lX12_325 rfl rfl (Nat.le_of_ble_eq_true rfl) dX12_seekEver_141 h ?_
      intro I8 J8 h
      refine jd_aload_n (pc := 144) 0 dX12_seekEver_144 rfl rfl ?_
      refine jd_iload_n (pc := 145) 1 dX12_seekEver_145 rfl rfl ?_
      refine jd_iconst (pc := 146) (v := 1) dX12_seekEver_146 (by decide) ?_
      refine jd_iadd (pc := 147) dX12_seekEver_147 ?_
      refine jd_aload_n (pc := 148) 2 dX12_seekEver_148 rfl rfl ?_
      refine jd_iload_n (pc := 149) 3 dX12_seekEver_149 rfl rfl ?_
      refine jd_callVv (pc := 150) (M2 := mX12_seekEver) (id := t) (ci := 11) (T := TX12) (N := 45) (av := [.int (x1 + 1), .ref (gb G + u2), .int x3]) kX12_seekEver sX12_seekEver rfl ht.1 lX12_325 rfl rfl (Nat.le_of_ble_eq_true rfl) dX12_seekEver_150 h ?_
      intro I10 J10 h
      exact jd_vretK (pc := 153) rfl dX12_seekEver_153 h
  · have h := h.2 hc
    refine jd_iconst (pc := 8) (v := 1) dX12_seekEver_8 (by decide) ?_
    refine jd_istore (pc := 9) [(4, .int 1), (0, .ref (gb G + t)), (1, .int x1), (2, .ref (gb G + u2)), (3, .int x3)] dX12_seekEver_9 (by decide) rfl ?_
    refine jd_iconst (pc := 11) (v := 0) dX12_seekEver_11 (by decide) ?_
    refine jd_istore (pc := 12) [(5, .int 0), (4, .int 1), (0, .ref (gb G + t)), (1, .int x1), (2, .ref (gb G + u2)), (3, .int x3)] dX12_seekEver_12 (by decide) rfl ?_
    exact jd_lv (lv2 := [(0, .ref (gb G + t)), (1, .int x1), (2, .ref (gb G + u2)), (3, .int x3), (4, .int 1), (5, .int 0)]) [2, 3, 4, 5, 1, 0] rfl h
set_option maxRecDepth 4000 in
theorem rX12_seekEver_14 {G : jdG} {n rc rs : Nat} {Z : jdL} {I : jdI} {J : jdJ} {K : jdI → jdJ → Prop} {n2 : Nat} {u2 : Nat} {t : Nat} {x1 : Int32} {x3 : Int32} {x4 : Int32} {x5 : Int32} (ht : zModel Z t) (hu2 : Z.1 u2 = some (0, n2)) (h : (((I t 30) ≤ x5 → ((x4 = 0 → K I J) ∧ (¬ x4 = 0 → ((x3 ≤ (I t 37) → (((I t 38) = (-1) → K (uI (uI I t 37 (I t 37)) t 38 x3) J) ∧ (¬ (I t 38) = (-1) → (((I t 38) ≤ x3 → K (uI (uI I t 37 (I t 37)) t 38 (I t 38)) J) ∧ (¬ (I t 38) ≤ x3 → K (uI (uI I t 37 (I t 37)) t 38 x3) J))))) ∧ (¬ x3 ≤ (I t 37) → (((I t 38) = (-1) → K (uI (uI I t 37 x3) t 38 x3) J) ∧ (¬ (I t 38) = (-1) → (((I t 38) ≤ x3 → K (uI (uI I t 37 x3) t 38 (I t 38)) J) ∧ (¬ (I t 38) ≤ x3 → K (uI (uI I t 37 x3) t 38 x3) J))))))))) ∧ (¬ (I t 30) ≤ x5 → ((x4 = 0 → ((x4 = 0 → K I J) ∧ (¬ x4 = 0 → ((x3 ≤ (I t 37) → (((I t 38) = (-1) → K (uI (uI I t 37 (I t 37)) t 38 x3) J) ∧ (¬ (I t 38) = (-1) → (((I t 38) ≤ x3 → K (uI (uI I t 37 (I t 37)) t 38 (I t 38)) J) ∧ (¬ (I t 38) ≤ x3 → K (uI (uI I t 37 (I t 37)) t 38 x3) J))))) ∧ (¬ x3 ≤ (I t 37) → (((I t 38) = (-1) → K (uI (uI I t 37 x3) t 38 x3) J) ∧ (¬ (I t 38) = (-1) → (((I t 38) ≤ x3 → K (uI (uI I t 37 x3) t 38 (I t 38)) J) ∧ (¬ (I t 38) ≤ x3 → K (uI (uI I t 37 x3) t 38 x3) J))))))))) ∧ (¬ x4 = 0 → (vp_in x5 70 ∧ Cl G mX12_isApart n 0 0 [.ref (gb G + u2), .int x3, .int (I (t + 30) (Int32.toNatClampNeg x5))] Z I J (qi Z (fun v3 I2 J2 => ((¬ v3 = 0 → Jd G mX12_seekEver (jdFm G (qv Z K)) (n + 1) rc rs 14 [(0, .ref (gb G + t)), (1, .int x1), (2, .ref (gb G + u2)), (3, .int x3), (4, .int 0), (5, .int (x5 + 1))] [] Z I2 J2) ∧ (v3 = 0 → Jd G mX12_seekEver (jdFm G (qv Z K)) (n + 1) rc rs 14 [(0, .ref (gb G + t)), (1, .int x1), (2, .ref (gb G + u2)), (3, .int x3), (4, .int 1), (5, .int (x5 + 1))] [] Z I2 J2)))))))))) : Jd G mX12_seekEver (jdFm G (qv Z K)) (n + 1) rc rs 14 [(0, .ref (gb G + t)), (1, .int x1), (2, .ref (gb G + u2)), (3, .int x3), (4, .int x4), (5, .int x5)] [] Z I J := by
  refine jd_iload (pc := 14) 5 dX12_seekEver_14 rfl ?_
  refine jd_aload_n (pc := 16) 0 dX12_seekEver_16 rfl rfl ?_
  refine jd_getI (pc := 17) (ci := 11) (k := 30) gX12_257 ht.1 rfl dX12_seekEver_17 ?_
  refine jd_icmp_ge (pc := 20) 56 dX12_seekEver_20 (by decide) (fun hc => ?_) (fun hc => ?_)
  · have h := h.1 hc
    refine jd_iload (pc := 56) 4 dX12_seekEver_56 rfl ?_
    refine jd_if_eq (pc := 58) 109 dX12_seekEver_58 (by decide) (fun hc => ?_) (fun hc => ?_)
    · have h := h.1 hc
      exact jd_vretK (pc := 109) rfl dX12_seekEver_109 h
    · have h := h.2 hc
      refine jd_aload_n (pc := 61) 0 dX12_seekEver_61 rfl rfl ?_
      refine jd_iload_n (pc := 62) 3 dX12_seekEver_62 rfl rfl ?_
      refine jd_aload_n (pc := 63) 0 dX12_seekEver_63 rfl rfl ?_
      refine jd_getI (pc := 64) (ci := 11) (k := 37) gX12_319 ht.1 rfl dX12_seekEver_64 ?_
      refine jd_icmp_le (pc := 67) 74 dX12_seekEver_67 (by decide) (fun hc => ?_) (fun hc => ?_)
      · have h := h.1 hc
        refine jd_aload_n (pc := 74) 0 dX12_seekEver_74 rfl rfl ?_
        refine jd_getI (pc := 75) (ci := 11) (k := 37) gX12_319 ht.1 rfl dX12_seekEver_75 ?_
        refine jd_putI (pc := 78) (ci := 11) (k := 37) pX12_319 ht.1 rfl rfl rfl dX12_seekEver_78 ?_
        refine jd_aload_n (pc := 81) 0 dX12_seekEver_81 rfl rfl ?_
        refine jd_aload_n (pc := 82) 0 dX12_seekEver_82 rfl rfl ?_
        refine jd_getIe (pc := 83) (ci := 11) (k := 38) (e := (I t 38)) (uI_sk (by decide) rfl) gX12_322 ht.1 rfl dX12_seekEver_83 ?_
        refine jd_iconst (pc := 86) (v := (-1)) dX12_seekEver_86 (by decide) ?_
        refine jd_icmp_eq (pc := 87) 98 dX12_seekEver_87 (by decide) (fun hc => ?_) (fun hc => ?_)
        · have h := h.1 hc
          refine jd_iload_n (pc := 98) 3 dX12_seekEver_98 rfl rfl ?_
          refine jd_goto (pc := 99) 106 dX12_seekEver_99 (by decide) ?_
          refine jd_putI (pc := 106) (ci := 11) (k := 38) pX12_322 ht.1 rfl rfl rfl dX12_seekEver_106 ?_
          exact jd_vretK (pc := 109) rfl dX12_seekEver_109 h
        · have h := h.2 hc
          refine jd_iload_n (pc := 90) 3 dX12_seekEver_90 rfl rfl ?_
          refine jd_aload_n (pc := 91) 0 dX12_seekEver_91 rfl rfl ?_
          refine jd_getIe (pc := 92) (ci := 11) (k := 38) (e := (I t 38)) (uI_sk (by decide) rfl) gX12_322 ht.1 rfl dX12_seekEver_92 ?_
          refine jd_icmp_ge (pc := 95) 102 dX12_seekEver_95 (by decide) (fun hc => ?_) (fun hc => ?_)
          · have h := h.1 hc
            refine jd_aload_n (pc := 102) 0 dX12_seekEver_102 rfl rfl ?_
            refine jd_getIe (pc := 103) (ci := 11) (k := 38) (e := (I t 38)) (uI_sk (by decide) rfl) gX12_322 ht.1 rfl dX12_seekEver_103 ?_
            refine jd_putI (pc := 106) (ci := 11) (k := 38) pX12_322 ht.1 rfl rfl rfl dX12_seekEver_106 ?_
            exact jd_vretK (pc := 109) rfl dX12_seekEver_109 h
          · have h := h.2 hc
            refine jd_iload_n (pc := 98) 3 dX12_seekEver_98 rfl rfl ?_
            refine jd_goto (pc := 99) 106 dX12_seekEver_99 (by decide) ?_
            refine jd_putI (pc := 106) (ci := 11) (k := 38) pX12_322 ht.1 rfl rfl rfl dX12_seekEver_106 ?_
            exact jd_vretK (pc := 109) rfl dX12_seekEver_109 h
      · have h := h.2 hc
        refine jd_iload_n (pc := 70) 3 dX12_seekEver_70 rfl rfl ?_
        refine jd_goto (pc := 71) 78 dX12_seekEver_71 (by decide) ?_
        refine jd_putI (pc := 78) (ci := 11) (k := 37) pX12_319 ht.1 rfl rfl rfl dX12_seekEver_78 ?_
        refine jd_aload_n (pc := 81) 0 dX12_seekEver_81 rfl rfl ?_
        refine jd_aload_n (pc := 82) 0 dX12_seekEver_82 rfl rfl ?_
        refine jd_getIe (pc := 83) (ci := 11) (k := 38) (e := (I t 38)) (uI_sk (by decide) rfl) gX12_322 ht.1 rfl dX12_seekEver_83 ?_
        refine jd_iconst (pc := 86) (v := (-1)) dX12_seekEver_86 (by decide) ?_
        refine jd_icmp_eq (pc := 87) 98 dX12_seekEver_87 (by decide) (fun hc => ?_) (fun hc => ?_)
        · have h := h.1 hc
          refine jd_iload_n (pc := 98) 3 dX12_seekEver_98 rfl rfl ?_
          refine jd_goto (pc := 99) 106 dX12_seekEver_99 (by decide) ?_
          refine jd_putI (pc := 106) (ci := 11) (k := 38) pX12_322 ht.1 rfl rfl rfl dX12_seekEver_106 ?_
          exact jd_vretK (pc := 109) rfl dX12_seekEver_109 h
        · have h := h.2 hc
          refine jd_iload_n (pc := 90) 3 dX12_seekEver_90 rfl rfl ?_
          refine jd_aload_n (pc := 91) 0 dX12_seekEver_91 rfl rfl ?_
          refine jd_getIe (pc := 92) (ci := 11) (k := 38) (e := (I t 38)) (uI_sk (by decide) rfl) gX12_322 ht.1 rfl dX12_seekEver_92 ?_
          refine jd_icmp_ge (pc := 95) 102 dX12_seekEver_95 (by decide) (fun hc => ?_) (fun hc => ?_)
          · have h := h.1 hc
            refine jd_aload_n (pc := 102) 0 dX12_seekEver_102 rfl rfl ?_
            refine jd_getIe (pc := 103) (ci := 11) (k := 38) (e := (I t 38)) (uI_sk (by decide) rfl) gX12_322 ht.1 rfl dX12_seekEver_103 ?_
            refine jd_putI (pc := 106) (ci := 11) (k := 38) pX12_322 ht.1 rfl rfl rfl dX12_seekEver_106 ?_
            exact jd_vretK (pc := 109) rfl dX12_seekEver_109 h
          · have h := h.2 hc
            refine jd_iload_n (pc := 98) 3 dX12_seekEver_98 rfl rfl ?_
            refine jd_goto (pc := 99) 106 dX12_seekEver_99 (by decide) ?_
            refine jd_putI (pc := 106) (ci := 11) (k := 38) pX12_322 ht.1 rfl rfl rfl dX12_seekEver_106 ?_
            exact jd_vretK (pc := 109) rfl dX12_seekEver_109 h
  · have h := h.2 hc
    refine jd_iload (pc := 23) 4 dX12_seekEver_23 rfl ?_
    refine jd_if_eq (pc := 25) 56 dX12_seekEver_25 (by decide) (fun hc => ?_) (fun hc => ?_)
    · have h := h.1 hc
      refine jd_iload (pc := 56) 4 dX12_seekEver_56 rfl ?_
      refine jd_if_eq (pc := 58) 109 dX12_seekEver_58 (by decide) (fun hc => ?_) (fun hc => ?_)
      · have h := h.1 hc
        exact jd_vretK (pc := 109) rfl dX12_seekEver_109 h
      · have h := h.2 hc
        refine jd_aload_n (pc := 61) 0 dX12_seekEver_61 rfl rfl ?_
        refine jd_iload_n (pc := 62) 3 dX12_seekEver_62 rfl rfl ?_
        refine jd_aload_n (pc := 63) 0 dX12_seekEver_63 rfl rfl ?_
        refine jd_getI (pc := 64) (ci := 11) (k := 37) gX12_319 ht.1 rfl dX12_seekEver_64 ?_
        refine jd_icmp_le (pc := 67) 74 dX12_seekEver_67 (by decide) (fun hc => ?_) (fun hc => ?_)
        · have h := h.1 hc
          refine jd_aload_n (pc := 74) 0 dX12_seekEver_74 rfl rfl ?_
          refine jd_getI (pc := 75) (ci := 11) (k := 37) gX12_319 ht.1 rfl dX12_seekEver_75 ?_
          refine jd_putI (pc := 78) (ci := 11) (k := 37) pX12_319 ht.1 rfl rfl rfl dX12_seekEver_78 ?_
          refine jd_aload_n (pc := 81) 0 dX12_seekEver_81 rfl rfl ?_
          refine jd_aload_n (pc := 82) 0 dX12_seekEver_82 rfl rfl ?_
          refine jd_getIe (pc := 83) (ci := 11) (k := 38) (e := (I t 38)) (uI_sk (by decide) rfl) gX12_322 ht.1 rfl dX12_seekEver_83 ?_
          refine jd_iconst (pc := 86) (v := (-1)) dX12_seekEver_86 (by decide) ?_
          refine jd_icmp_eq (pc := 87) 98 dX12_seekEver_87 (by decide) (fun hc => ?_) (fun hc => ?_)
          · have h := h.1 hc
            refine jd_iload_n (pc := 98) 3 dX12_seekEver_98 rfl rfl ?_
            refine jd_goto (pc := 99) 106 dX12_seekEver_99 (by decide) ?_
            refine jd_putI (pc := 106) (ci := 11) (k := 38) pX12_322 ht.1 rfl rfl rfl dX12_seekEver_106 ?_
            exact jd_vretK (pc := 109) rfl dX12_seekEver_109 h
          · have h := h.2 hc
            refine jd_iload_n (pc := 90) 3 dX12_seekEver_90 rfl rfl ?_
            refine jd_aload_n (pc := 91) 0 dX12_seekEver_91 rfl rfl ?_
            refine jd_getIe (pc := 92) (ci := 11) (k := 38) (e := (I t 38)) (uI_sk (by decide) rfl) gX12_322 ht.1 rfl dX12_seekEver_92 ?_
            refine jd_icmp_ge (pc := 95) 102 dX12_seekEver_95 (by decide) (fun hc => ?_) (fun hc => ?_)
            · have h := h.1 hc
              refine jd_aload_n (pc := 102) 0 dX12_seekEver_102 rfl rfl ?_
              refine jd_getIe (pc := 103) (ci := 11) (k := 38) (e := (I t 38)) (uI_sk (by decide) rfl) gX12_322 ht.1 rfl dX12_seekEver_103 ?_
              refine jd_putI (pc := 106) (ci := 11) (k := 38) pX12_322 ht.1 rfl rfl rfl dX12_seekEver_106 ?_
              exact jd_vretK (pc := 109) rfl dX12_seekEver_109 h
            · have h := h.2 hc
              refine jd_iload_n (pc := 98) 3 dX12_seekEver_98 rfl rfl ?_
              refine jd_goto (pc := 99) 106 dX12_seekEver_99 (by decide) ?_
              refine jd_putI (pc := 106) (ci := 11) (k := 38) pX12_322 ht.1 rfl rfl rfl dX12_seekEver_106 ?_
              exact jd_vretK (pc := 109) rfl dX12_seekEver_109 h
        · have h := h.2 hc
          refine jd_iload_n (pc := 70) 3 dX12_seekEver_70 rfl rfl ?_
          refine jd_goto (pc := 71) 78 dX12_seekEver_71 (by decide) ?_
          refine jd_putI (pc := 78) (ci := 11) (k := 37) pX12_319 ht.1 rfl rfl rfl dX12_seekEver_78 ?_
          refine jd_aload_n (pc := 81) 0 dX12_seekEver_81 rfl rfl ?_
          refine jd_aload_n (pc := 82) 0 dX12_seekEver_82 rfl rfl ?_
          refine jd_getIe (pc := 83) (ci := 11) (k := 38) (e := (I t 38)) (uI_sk (by decide) rfl) gX12_322 ht.1 rfl dX12_seekEver_83 ?_
          refine jd_iconst (pc := 86) (v := (-1)) dX12_seekEver_86 (by decide) ?_
          refine jd_icmp_eq (pc := 87) 98 dX12_seekEver_87 (by decide) (fun hc => ?_) (fun hc => ?_)
          · have h := h.1 hc
            refine jd_iload_n (pc := 98) 3 dX12_seekEver_98 rfl rfl ?_
            refine jd_goto (pc := 99) 106 dX12_seekEver_99 (by decide) ?_
            refine jd_putI (pc := 106) (ci := 11) (k := 38) pX12_322 ht.1 rfl rfl rfl dX12_seekEver_106 ?_
            exact jd_vretK (pc := 109) rfl dX12_seekEver_109 h
          · have h := h.2 hc
            refine jd_iload_n (pc := 90) 3 dX12_seekEver_90 rfl rfl ?_
            refine jd_aload_n (pc := 91) 0 dX12_seekEver_91 rfl rfl ?_
            refine jd_getIe (pc := 92) (ci := 11) (k := 38) (e := (I t 38)) (uI_sk (by decide) rfl) gX12_322 ht.1 rfl dX12_seekEver_92 ?_
            refine jd_icmp_ge (pc := 95) 102 dX12_seekEver_95 (by decide) (fun hc => ?_) (fun hc => ?_)
            · have h := h.1 hc
              refine jd_aload_n (pc := 102) 0 dX12_seekEver_102 rfl rfl ?_
              refine jd_getIe (pc := 103) (ci := 11) (k := 38) (e := (I t 38)) (uI_sk (by decide) rfl) gX12_322 ht.1 rfl dX12_seekEver_103 ?_
              refine jd_putI (pc := 106) (ci := 11) (k := 38) pX12_322 ht.1 rfl rfl rfl dX12_seekEver_106 ?_
              exact jd_vretK (pc := 109) rfl dX12_seekEver_109 h
            · have h := h.2 hc
              refine jd_iload_n (pc := 98) 3 dX12_seekEver_98 rfl rfl ?_
              refine jd_goto (pc := 99) 106 dX12_seekEver_99 (by decide) ?_
              refine jd_putI (pc := 106) (ci := 11) (k := 38) pX12_322 ht.1 rfl rfl rfl dX12_seekEver_106 ?_
              exact jd_vretK (pc := 109) rfl dX12_seekEver_109 h
    · have h := h.2 hc
      refine jd_aload_n (pc := 28) 2 dX12_seekEver_28 rfl rfl ?_
      refine jd_iload_n (pc := 29) 3 dX12_seekEver_29 rfl rfl ?_
      refine jd_aload_n (pc := 30) 0 dX12_seekEver_30 rfl rfl ?_
      refine jd_getR (pc := 31) (ci := 11) (k := 29) (r := (t + 30)) gX12_61 ht.1 rfl (zModel_p29 ht) dX12_seekEver_31 ?_
      refine jd_iload (pc := 34) 5 dX12_seekEver_34 rfl ?_
      obtain ⟨hv1, h⟩ := h
      refine jd_iald (pc := 36) (len := 70) (zModel_a29 ht) hv1 dX12_seekEver_36 ?_
      refine jd_callSi (pc := 37) (M2 := mX12_isApart) (av := [.ref (gb G + u2), .int x3, .int (I (t + 30) (Int32.toNatClampNeg x5))]) kX12_isApart sX12_isApart lX12_315 rfl rfl (Nat.le_of_ble_eq_true rfl) dX12_seekEver_37 h ?_
      intro v3 I2 J2 h
      refine jd_if_ne (pc := 40) 47 dX12_seekEver_40 (by decide) (fun hc => ?_) (fun hc => ?_)
      · have h := h.1 hc
        refine jd_iconst (pc := 47) (v := 0) dX12_seekEver_47 (by decide) ?_
        refine jd_istore (pc := 48) [(4, .int 0), (0, .ref (gb G + t)), (1, .int x1), (2, .ref (gb G + u2)), (3, .int x3), (5, .int x5)] dX12_seekEver_48 (by decide) rfl ?_
        refine jd_iinc (pc := 50) (v := (x5 + 1)) 5 [(5, .int (x5 + 1)), (4, .int 0), (0, .ref (gb G + t)), (1, .int x1), (2, .ref (gb G + u2)), (3, .int x3)] dX12_seekEver_50 rfl rfl (by decide) rfl ?_
        refine jd_goto (pc := 53) 14 dX12_seekEver_53 (by decide) ?_
        exact jd_lv (lv2 := [(0, .ref (gb G + t)), (1, .int x1), (2, .ref (gb G + u2)), (3, .int x3), (4, .int 0), (5, .int (x5 + 1))]) [2, 3, 4, 5, 1, 0] rfl h
      · have h := h.2 hc
        refine jd_iconst (pc := 43) (v := 1) dX12_seekEver_43 (by decide) ?_
        refine jd_goto (pc := 44) 48 dX12_seekEver_44 (by decide) ?_
        refine jd_istore (pc := 48) [(4, .int 1), (0, .ref (gb G + t)), (1, .int x1), (2, .ref (gb G + u2)), (3, .int x3), (5, .int x5)] dX12_seekEver_48 (by decide) rfl ?_
        refine jd_iinc (pc := 50) (v := (x5 + 1)) 5 [(5, .int (x5 + 1)), (4, .int 1), (0, .ref (gb G + t)), (1, .int x1), (2, .ref (gb G + u2)), (3, .int x3)] dX12_seekEver_50 rfl rfl (by decide) rfl ?_
        refine jd_goto (pc := 53) 14 dX12_seekEver_53 (by decide) ?_
        exact jd_lv (lv2 := [(0, .ref (gb G + t)), (1, .int x1), (2, .ref (gb G + u2)), (3, .int x3), (4, .int 1), (5, .int (x5 + 1))]) [2, 3, 4, 5, 1, 0] rfl h
theorem eX12_seekEver {G : jdG} {n : Nat} {Z : jdL} {I : jdI} {J : jdJ} {K : jdI → jdJ → Prop} {t : Nat} {x1 : Int32} {u2 : Nat} {n2 : Nat} {x3 : Int32} (ht : zModel Z t) (hu2 : Z.1 u2 = some (0, n2)) (h : ((¬ x1 = (I t 30) → (vp_in x1 70 ∧ Cl G mX12_isApart n 0 0 [.ref (gb G + u2), .int x3, .int (I (t + 30) (Int32.toNatClampNeg x1))] Z I J (qi Z (fun v3 I2 J2 => ((v3 = 0 → Cl G mX12_seekEver n 0 0 [.ref (gb G + t), .int (x1 + 1), .ref (gb G + u2), .int x3] Z I2 J2 (qv Z (fun I4 J4 => K I4 J4))) ∧ (¬ v3 = 0 → (vp_in x1 70 ∧ (vp_in x3 n2 ∧ Cl G mX12_seekEver n 0 0 [.ref (gb G + t), .int (x1 + 1), .ref (gb G + u2), .int (x3 + 1)] Z (uI I2 u2 (Int32.toNatClampNeg x3) (I2 (t + 30) (Int32.toNatClampNeg x1))) J2 (qv Z (fun I8 J8 => Cl G mX12_seekEver n 0 0 [.ref (gb G + t), .int (x1 + 1), .ref (gb G + u2), .int x3] Z I8 J8 (qv Z (fun I10 J10 => K I10 J10)))))))))))) ∧ (x1 = (I t 30) → Jd G mX12_seekEver (jdFm G (qv Z K)) (n + 1) 0 0 14 [(0, .ref (gb G + t)), (1, .int x1), (2, .ref (gb G + u2)), (3, .int x3), (4, .int 1), (5, .int 0)] [] Z I J))) : Cl G mX12_seekEver (n + 1) 0 0 [.ref (gb G + t), .int x1, .ref (gb G + u2), .int x3] Z I J (qv Z K) :=
  Cl.of (by decide +kernel) (Nat.le_of_ble_eq_true rfl) (rX12_seekEver_0 ht hu2 h)
set_option maxRecDepth 4000 in
theorem rX12_isApart_0 {G : jdG} {n rc rs : Nat} {Z : jdL} {I : jdI} {J : jdJ} {K : Int32 → jdI → jdJ → Prop} {u0 : Nat} {n0 : Nat} {x1 : Int32} {x2 : Int32} (hu0 : Z.1 u0 = some (0, n0)) (h : Jd G mX12_isApart (jdFm G (qi Z K)) (n + 1) rc rs 2 [(0, .ref (gb G + u0)), (1, .int x1), (2, .int x2), (3, .int 0)] [] Z I J) : Jd G mX12_isApart (jdFm G (qi Z K)) (n + 1) rc rs 0 [(0, .ref (gb G + u0)), (1, .int x1), (2, .int x2)] [] Z I J := by
  refine jd_iconst (pc := 0) (v := 0) dX12_isApart_0 (by decide) ?_
  refine jd_istore_n (pc := 1) [(3, .int 0), (0, .ref (gb G + u0)), (1, .int x1), (2, .int x2)] dX12_isApart_1 rfl (by decide) rfl ?_
  exact jd_lv (lv2 := [(0, .ref (gb G + u0)), (1, .int x1), (2, .int x2), (3, .int 0)]) [1, 2, 3, 0] rfl h
set_option maxRecDepth 4000 in
theorem rX12_isApart_2 {G : jdG} {n rc rs : Nat} {Z : jdL} {I : jdI} {J : jdJ} {K : Int32 → jdI → jdJ → Prop} {n0 : Nat} {u0 : Nat} {x1 : Int32} {x2 : Int32} {x3 : Int32} (hu0 : Z.1 u0 = some (0, n0)) (h : ((x1 ≤ x3 → K 1 I J) ∧ (¬ x1 ≤ x3 → (vp_in x3 n0 ∧ Cl G mX12_bits n 0 0 [.int ((I u0 (Int32.toNatClampNeg x3)) &&& x2)] Z I J (qi Z (fun v3 I2 J2 => ((v3 ≤ 1 → Jd G mX12_isApart (jdFm G (qi Z K)) (n + 1) rc rs 2 [(0, .ref (gb G + u0)), (1, .int x1), (2, .int x2), (3, .int (x3 + 1))] [] Z I2 J2) ∧ (¬ v3 ≤ 1 → K 0 I2 J2)))))))) : Jd G mX12_isApart (jdFm G (qi Z K)) (n + 1) rc rs 2 [(0, .ref (gb G + u0)), (1, .int x1), (2, .int x2), (3, .int x3)] [] Z I J := by
  refine jd_iload_n (pc := 2) 3 dX12_isApart_2 rfl rfl ?_
  refine jd_iload_n (pc := 3) 1 dX12_isApart_3 rfl rfl ?_
  refine jd_icmp_ge (pc := 4) 27 dX12_isApart_4 (by decide) (fun hc => ?_) (fun hc => ?_)
  · have h := h.1 hc
    refine jd_iconst (pc := 27) (v := 1) dX12_isApart_27 (by decide) ?_
    exact jd_iretK (pc := 28) (ty := .boolean) rfl (by decide) dX12_isApart_28 h
  · have h := h.2 hc
    refine jd_aload_n (pc := 7) 0 dX12_isApart_7 rfl rfl ?_
    refine jd_iload_n (pc := 8) 3 dX12_isApart_8 rfl rfl ?_
    obtain ⟨hv1, h⟩ := h
    refine jd_iald (pc := 9) (len := n0) hu0 hv1 dX12_isApart_9 ?_
    refine jd_iload_n (pc := 10) 2 dX12_isApart_10 rfl rfl ?_
    refine jd_iand (pc := 11) dX12_isApart_11 ?_
    refine jd_callSi (pc := 12) (M2 := mX12_bits) (av := [.int ((I u0 (Int32.toNatClampNeg x3)) &&& x2)]) kX12_bits sX12_bits lX12_254 rfl rfl (Nat.le_of_ble_eq_true rfl) dX12_isApart_12 h ?_
    intro v3 I2 J2 h
    refine jd_iconst (pc := 15) (v := 1) dX12_isApart_15 (by decide) ?_
    refine jd_icmp_le (pc := 16) 21 dX12_isApart_16 (by decide) (fun hc => ?_) (fun hc => ?_)
    · have h := h.1 hc
      refine jd_iinc (pc := 21) (v := (x3 + 1)) 3 [(3, .int (x3 + 1)), (0, .ref (gb G + u0)), (1, .int x1), (2, .int x2)] dX12_isApart_21 rfl rfl (by decide) rfl ?_
      refine jd_goto (pc := 24) 2 dX12_isApart_24 (by decide) ?_
      exact jd_lv (lv2 := [(0, .ref (gb G + u0)), (1, .int x1), (2, .int x2), (3, .int (x3 + 1))]) [1, 2, 3, 0] rfl h
    · have h := h.2 hc
      refine jd_iconst (pc := 19) (v := 0) dX12_isApart_19 (by decide) ?_
      exact jd_iretK (pc := 20) (ty := .boolean) rfl (by decide) dX12_isApart_20 h
theorem eX12_isApart {G : jdG} {n : Nat} {Z : jdL} {I : jdI} {J : jdJ} {K : Int32 → jdI → jdJ → Prop} {u0 : Nat} {n0 : Nat} {x1 : Int32} {x2 : Int32} (hu0 : Z.1 u0 = some (0, n0)) (h : Jd G mX12_isApart (jdFm G (qi Z K)) (n + 1) 0 0 2 [(0, .ref (gb G + u0)), (1, .int x1), (2, .int x2), (3, .int 0)] [] Z I J) : Cl G mX12_isApart (n + 1) 0 0 [.ref (gb G + u0), .int x1, .int x2] Z I J (qi Z K) :=
  Cl.of (by decide +kernel) (Nat.le_of_ble_eq_true rfl) (rX12_isApart_0 hu0 h)
set_option maxRecDepth 4000 in
theorem rX12_findEver_0 {G : jdG} {n rc rs : Nat} {Z : jdL} {I : jdI} {J : jdJ} {Q : jdQ} {t : Nat} (ht : zModel Z t) (h : ((¬ (I t 14) = 2 → Cl G mX12_listAll n 0 0 [.ref (gb G + t)] Z (uI (uI I t 37 0) t 38 (-1)) J (qv Z (fun I1 J1 => (∃ rc3 rs3 : Nat, 1 + rc3 ≤ rc ∧ 40 + rs3 ≤ rs ∧ (zModel (nZ Z (0, 40)) t ∧ Cl G mX12_seekEver n 0 0 [.ref (gb G + t), .int 0, .ref (gb G + (Z).2.2), .int 0] (nZ Z (0, 40)) (zI I1 (Z).2.2) J1 (qv (nZ Z (0, 40)) (fun I4 J4 => Q none (nZ Z (0, 40)) I4 J4))))))) ∧ ((I t 14) = 2 → Cl G mX12_all n 0 0 [.ref (gb G + t)] Z (uI (uI I t 37 0) t 38 (-1)) J (qi Z (fun v7 I6 J6 => Cl G mX12_pairsOf n 0 0 [.ref (gb G + t), .int v7] Z I6 J6 (qi Z (fun v9 I8 J8 => Q none Z (uI (uI I8 t 37 v9) t 38 v9) J8))))))) : Jd G mX12_findEver (jdFm G Q) (n + 1) rc rs 0 [(0, .ref (gb G + t))] [] Z I J := by
  refine jd_aload_n (pc := 0) 0 dX12_findEver_0 rfl rfl ?_
  refine jd_iconst (pc := 1) (v := 0) dX12_findEver_1 (by decide) ?_
  refine jd_putI (pc := 2) (ci := 11) (k := 37) pX12_319 ht.1 rfl rfl rfl dX12_findEver_2 ?_
  refine jd_aload_n (pc := 5) 0 dX12_findEver_5 rfl rfl ?_
  refine jd_iconst (pc := 6) (v := (-1)) dX12_findEver_6 (by decide) ?_
  refine jd_putI (pc := 7) (ci := 11) (k := 38) pX12_322 ht.1 rfl rfl rfl dX12_findEver_7 ?_
  refine jd_aload_n (pc := 10) 0 dX12_findEver_10 rfl rfl ?_
  refine jd_getIe (pc := 11) (ci := 11) (k := 14) (e := (I t 14)) (uI_sk (by decide) (uI_sk (by decide) rfl)) gX12_51 ht.1 rfl dX12_findEver_11 ?_
  refine jd_iconst (pc := 14) (v := 2) dX12_findEver_14 (by decide) ?_
  refine jd_icmp_ne (pc := 15) 39 dX12_findEver_15 (by decide) (fun hc => ?_) (fun hc => ?_)
  · have h := h.1 hc
    refine jd_aload_n (pc := 39) 0 dX12_findEver_39 rfl rfl ?_
    refine jd_callVv (pc := 40) (M2 := mX12_listAll) (id := t) (ci := 11) (T := TX12) (N := 45) (av := []) kX12_listAll sX12_listAll rfl ht.1 lX12_269 rfl rfl (Nat.le_of_ble_eq_true rfl) dX12_findEver_40 h ?_
    intro I1 J1 h
    refine jd_aload_n (pc := 43) 0 dX12_findEver_43 rfl rfl ?_
    refine jd_iconst (pc := 44) (v := 0) dX12_findEver_44 (by decide) ?_
    refine jd_bipush (pc := 45) (v := 40) dX12_findEver_45 (by decide) ?_
    obtain ⟨rc3, rs3, hb1, hb2, h⟩ := h
    refine jd_newI (pc := 47) (len := 40) w_aI (by decide) (by decide) (by decide) hb1 hb2 dX12_findEver_47 ?_
    obtain ⟨ht, h⟩ := h
    refine jd_iconst (pc := 49) (v := 0) dX12_findEver_49 (by decide) ?_
    refine jd_callVv (pc := 50) (M2 := mX12_seekEver) (id := t) (ci := 11) (T := TX12) (N := 45) (av := [.int 0, .ref (gb G + (Z).2.2), .int 0]) kX12_seekEver sX12_seekEver rfl ht.1 lX12_325 rfl rfl (Nat.le_of_ble_eq_true rfl) dX12_findEver_50 h ?_
    intro I4 J4 h
    exact jd_vret (pc := 53) rfl dX12_findEver_53 h
  · have h := h.2 hc
    refine jd_aload_n (pc := 18) 0 dX12_findEver_18 rfl rfl ?_
    refine jd_aload_n (pc := 19) 0 dX12_findEver_19 rfl rfl ?_
    refine jd_aload_n (pc := 20) 0 dX12_findEver_20 rfl rfl ?_
    refine jd_callVi (pc := 21) (M2 := mX12_all) (id := t) (ci := 11) (T := TX12) (N := 45) (av := []) kX12_all sX12_all rfl ht.1 lX12_92 rfl rfl (Nat.le_of_ble_eq_true rfl) dX12_findEver_21 h ?_
    intro v7 I6 J6 h
    refine jd_callVi (pc := 24) (M2 := mX12_pairsOf) (id := t) (ci := 11) (T := TX12) (N := 45) (av := [.int v7]) kX12_pairsOf sX12_pairsOf rfl ht.1 lX12_329 rfl rfl (Nat.le_of_ble_eq_true rfl) dX12_findEver_24 h ?_
    intro v9 I8 J8 h
    refine jd_putI (pc := 27) (ci := 11) (k := 37) pX12_319 ht.1 rfl rfl rfl dX12_findEver_27 ?_
    refine jd_aload_n (pc := 30) 0 dX12_findEver_30 rfl rfl ?_
    refine jd_aload_n (pc := 31) 0 dX12_findEver_31 rfl rfl ?_
    refine jd_getIe (pc := 32) (ci := 11) (k := 37) (e := v9) (uI_ss _ _ _ _) gX12_319 ht.1 rfl dX12_findEver_32 ?_
    refine jd_putI (pc := 35) (ci := 11) (k := 38) pX12_322 ht.1 rfl rfl rfl dX12_findEver_35 ?_
    exact jd_vret (pc := 38) rfl dX12_findEver_38 h
theorem eX12_findEver {G : jdG} {n mc ms : Nat} {Z : jdL} {I : jdI} {J : jdJ} {Q : jdQ} {t : Nat} (ht : zModel Z t) (h : ((¬ (I t 14) = 2 → Cl G mX12_listAll n 0 0 [.ref (gb G + t)] Z (uI (uI I t 37 0) t 38 (-1)) J (qv Z (fun I1 J1 => (∃ rc3 rs3 : Nat, 1 + rc3 ≤ mc ∧ 40 + rs3 ≤ ms ∧ (zModel (nZ Z (0, 40)) t ∧ Cl G mX12_seekEver n 0 0 [.ref (gb G + t), .int 0, .ref (gb G + (Z).2.2), .int 0] (nZ Z (0, 40)) (zI I1 (Z).2.2) J1 (qv (nZ Z (0, 40)) (fun I4 J4 => Q none (nZ Z (0, 40)) I4 J4))))))) ∧ ((I t 14) = 2 → Cl G mX12_all n 0 0 [.ref (gb G + t)] Z (uI (uI I t 37 0) t 38 (-1)) J (qi Z (fun v7 I6 J6 => Cl G mX12_pairsOf n 0 0 [.ref (gb G + t), .int v7] Z I6 J6 (qi Z (fun v9 I8 J8 => Q none Z (uI (uI I8 t 37 v9) t 38 v9) J8))))))) : Cl G mX12_findEver (n + 1) mc ms [.ref (gb G + t)] Z I J Q :=
  Cl.of (by decide +kernel) (Nat.le_of_ble_eq_true rfl) (rX12_findEver_0 ht h)
set_option maxRecDepth 4000 in
theorem rX12_ever_0 {G : jdG} {n rc rs : Nat} {Z : jdL} {I : jdI} {J : jdJ} {Q : jdQ} {t : Nat} {x1 : Int32} (ht : zModel Z t) (h : Cl G mX12_in n 0 0 [.long (Int32.toInt64 x1), .long 0, .long 1] Z I J (qi Z (fun v2 I1 J1 => ((¬ v2 = 0 → (∃ mc3 ms3 rc3 rs3 : Nat, mc3 + rc3 ≤ rc ∧ ms3 + rs3 ≤ rs ∧ Cl G mX12_findEver n mc3 ms3 [.ref (gb G + t)] Z I1 J1 (fun r3 Z3 I3 J3 => r3 = none ∧ (zModel Z3 t ∧ ((¬ x1 = 0 → Q (some (.int (I3 t 38))) Z3 I3 J3) ∧ (x1 = 0 → Q (some (.int (I3 t 37))) Z3 I3 J3)))))) ∧ (v2 = 0 → Cl G mX12_refuse n 0 0 [.ref (gb G + t), .int (-2)] Z I1 J1 (qi Z (fun v5 I4 J4 => Q (some (.int v5)) Z I4 J4))))))) : Jd G mX12_ever (jdFm G Q) (n + 1) rc rs 0 [(0, .ref (gb G + t)), (1, .int x1)] [] Z I J := by
  refine jd_iload_n (pc := 0) 1 dX12_ever_0 rfl rfl ?_
  refine jd_i2l (pc := 1) dX12_ever_1 ?_
  refine jd_lconst (pc := 2) (v := 0) dX12_ever_2 (by decide) ?_
  refine jd_lconst (pc := 3) (v := 1) dX12_ever_3 (by decide) ?_
  refine jd_callSi (pc := 4) (M2 := mX12_in) (av := [.long (Int32.toInt64 x1), .long 0, .long 1]) kX12_in sX12_in lX12_88 rfl rfl (Nat.le_of_ble_eq_true rfl) dX12_ever_4 h ?_
  intro v2 I1 J1 h
  refine jd_if_ne (pc := 7) 17 dX12_ever_7 (by decide) (fun hc => ?_) (fun hc => ?_)
  · have h := h.1 hc
    refine jd_aload_n (pc := 17) 0 dX12_ever_17 rfl rfl ?_
    obtain ⟨mc3, ms3, rc3, rs3, hb1, hb2, h⟩ := h
    refine jd_callV (pc := 18) (M2 := mX12_findEver) (id := t) (ci := 11) (T := TX12) (N := 45) (rc2 := rc3) (rs2 := rs3) (av := []) kX12_findEver sX12_findEver rfl ht.1 lX12_332 rfl rfl (Nat.le_of_ble_eq_true rfl) hb1 hb2 dX12_ever_18 (Cl.mono h (fun r3 Z3 I3 J3 h => ?_))
    obtain ⟨rfl, h⟩ := h
    obtain ⟨ht, h⟩ := h
    refine jd_iload_n (pc := 21) 1 dX12_ever_21 rfl rfl ?_
    refine jd_if_ne (pc := 22) 32 dX12_ever_22 (by decide) (fun hc => ?_) (fun hc => ?_)
    · have h := h.1 hc
      refine jd_aload_n (pc := 32) 0 dX12_ever_32 rfl rfl ?_
      refine jd_getI (pc := 33) (ci := 11) (k := 38) gX12_322 ht.1 rfl dX12_ever_33 ?_
      exact jd_iret (pc := 36) (ty := .int) rfl rfl dX12_ever_36 h
    · have h := h.2 hc
      refine jd_aload_n (pc := 25) 0 dX12_ever_25 rfl rfl ?_
      refine jd_getI (pc := 26) (ci := 11) (k := 37) gX12_319 ht.1 rfl dX12_ever_26 ?_
      refine jd_goto (pc := 29) 36 dX12_ever_29 (by decide) ?_
      exact jd_iret (pc := 36) (ty := .int) rfl rfl dX12_ever_36 h
  · have h := h.2 hc
    refine jd_aload_n (pc := 10) 0 dX12_ever_10 rfl rfl ?_
    refine jd_bipush (pc := 11) (v := (-2)) dX12_ever_11 (by decide) ?_
    refine jd_callVi (pc := 13) (M2 := mX12_refuse) (id := t) (ci := 11) (T := TX12) (N := 45) (av := [.int (-2)]) kX12_refuse sX12_refuse rfl ht.1 lX12_102 rfl rfl (Nat.le_of_ble_eq_true rfl) dX12_ever_13 h ?_
    intro v5 I4 J4 h
    exact jd_iret (pc := 16) (ty := .int) rfl rfl dX12_ever_16 h
theorem eX12_ever {G : jdG} {n mc ms : Nat} {Z : jdL} {I : jdI} {J : jdJ} {Q : jdQ} {t : Nat} {x1 : Int32} (ht : zModel Z t) (h : Cl G mX12_in n 0 0 [.long (Int32.toInt64 x1), .long 0, .long 1] Z I J (qi Z (fun v2 I1 J1 => ((¬ v2 = 0 → (∃ mc3 ms3 rc3 rs3 : Nat, mc3 + rc3 ≤ mc ∧ ms3 + rs3 ≤ ms ∧ Cl G mX12_findEver n mc3 ms3 [.ref (gb G + t)] Z I1 J1 (fun r3 Z3 I3 J3 => r3 = none ∧ (zModel Z3 t ∧ ((¬ x1 = 0 → Q (some (.int (I3 t 38))) Z3 I3 J3) ∧ (x1 = 0 → Q (some (.int (I3 t 37))) Z3 I3 J3)))))) ∧ (v2 = 0 → Cl G mX12_refuse n 0 0 [.ref (gb G + t), .int (-2)] Z I1 J1 (qi Z (fun v5 I4 J4 => Q (some (.int v5)) Z I4 J4))))))) : Cl G mX12_ever (n + 1) mc ms [.ref (gb G + t), .int x1] Z I J Q :=
  Cl.of (by decide +kernel) (Nat.le_of_ble_eq_true rfl) (rX12_ever_0 ht h)
set_option maxRecDepth 4000 in
theorem rX12_hire_0 {G : jdG} {n rc rs : Nat} {Z : jdL} {I : jdI} {J : jdJ} {Q : jdQ} {t : Nat} (ht : zModel Z t) (h : Cl G mX12_listAll n 0 0 [.ref (gb G + t)] Z I J (qv Z (fun I1 J1 => Cl G mX12_all n 0 0 [.ref (gb G + t)] Z I1 J1 (qi Z (fun v4 I3 J3 => Cl G mX12_mostIn n 0 0 [.ref (gb G + t), .int v4] Z I3 J3 (qi Z (fun v6 I5 J5 => (∃ mc7 ms7 rc7 rs7 : Nat, mc7 + rc7 ≤ rc ∧ ms7 + rs7 ≤ rs ∧ Cl G mX12_fresh n mc7 ms7 [.ref (gb G + t)] Z I5 J5 (fun r7 Z7 I7 J7 => ∃ w7 : Nat, r7 = some (.ref (gb G + w7)) ∧ (zModel Z7 t ∧ (zModel Z7 w7 ∧ Cl G mX12_addOne n 0 0 [.ref (gb G + w7), .int 0, .int 0] Z7 I7 J7 (qv Z7 (fun I8 J8 => Cl G mX12_listAll n 0 0 [.ref (gb G + w7)] Z7 I8 J8 (qv Z7 (fun I10 J10 => Cl G mX12_all n 0 0 [.ref (gb G + w7)] Z7 I10 J10 (qi Z7 (fun v13 I12 J12 => Cl G mX12_mostIn n 0 0 [.ref (gb G + w7), .int v13] Z7 I12 J12 (qi Z7 (fun v15 I14 J14 => Q (some (.int (v15 - v6))) Z7 I14 J14))))))))))))))))))) : Jd G mX12_hire (jdFm G Q) (n + 1) rc rs 0 [(0, .ref (gb G + t))] [] Z I J := by
  refine jd_aload_n (pc := 0) 0 dX12_hire_0 rfl rfl ?_
  refine jd_callVv (pc := 1) (M2 := mX12_listAll) (id := t) (ci := 11) (T := TX12) (N := 45) (av := []) kX12_listAll sX12_listAll rfl ht.1 lX12_269 rfl rfl (Nat.le_of_ble_eq_true rfl) dX12_hire_1 h ?_
  intro I1 J1 h
  refine jd_aload_n (pc := 4) 0 dX12_hire_4 rfl rfl ?_
  refine jd_aload_n (pc := 5) 0 dX12_hire_5 rfl rfl ?_
  refine jd_callVi (pc := 6) (M2 := mX12_all) (id := t) (ci := 11) (T := TX12) (N := 45) (av := []) kX12_all sX12_all rfl ht.1 lX12_92 rfl rfl (Nat.le_of_ble_eq_true rfl) dX12_hire_6 h ?_
  intro v4 I3 J3 h
  refine jd_callVi (pc := 9) (M2 := mX12_mostIn) (id := t) (ci := 11) (T := TX12) (N := 45) (av := [.int v4]) kX12_mostIn sX12_mostIn rfl ht.1 lX12_278 rfl rfl (Nat.le_of_ble_eq_true rfl) dX12_hire_9 h ?_
  intro v6 I5 J5 h
  refine jd_istore_n (pc := 12) [(1, .int v6), (0, .ref (gb G + t))] dX12_hire_12 rfl (by decide) rfl ?_
  refine jd_aload_n (pc := 13) 1 dX12_hire_13 rfl rfl ?_
  obtain ⟨mc7, ms7, rc7, rs7, hb1, hb2, h⟩ := h
  refine jd_callV (pc := 14) (M2 := mX12_fresh) (id := t) (ci := 11) (T := TX12) (N := 45) (rc2 := rc7) (rs2 := rs7) (av := []) kX12_fresh sX12_fresh rfl ht.1 lX12_238 rfl rfl (Nat.le_of_ble_eq_true rfl) hb1 hb2 dX12_hire_14 (Cl.mono h (fun r7 Z7 I7 J7 h => ?_))
  obtain ⟨w7, rfl, h⟩ := h
  obtain ⟨ht, h⟩ := h
  obtain ⟨hzw7, h⟩ := h
  refine jd_astore_n (pc := 17) [(2, .ref (gb G + w7)), (1, .int v6), (0, .ref (gb G + t))] dX12_hire_17 rfl (by decide) rfl ?_
  refine jd_aload_n (pc := 18) 0 dX12_hire_18 rfl rfl ?_
  refine jd_iconst (pc := 19) (v := 0) dX12_hire_19 (by decide) ?_
  refine jd_iconst (pc := 20) (v := 0) dX12_hire_20 (by decide) ?_
  refine jd_callVv (pc := 21) (M2 := mX12_addOne) (id := w7) (ci := 11) (T := TX12) (N := 45) (av := [.int 0, .int 0]) kX12_addOne sX12_addOne rfl hzw7.1 lX12_127 rfl rfl (Nat.le_of_ble_eq_true rfl) dX12_hire_21 h ?_
  intro I8 J8 h
  refine jd_aload_n (pc := 24) 0 dX12_hire_24 rfl rfl ?_
  refine jd_callVv (pc := 25) (M2 := mX12_listAll) (id := w7) (ci := 11) (T := TX12) (N := 45) (av := []) kX12_listAll sX12_listAll rfl hzw7.1 lX12_269 rfl rfl (Nat.le_of_ble_eq_true rfl) dX12_hire_25 h ?_
  intro I10 J10 h
  refine jd_aload_n (pc := 28) 0 dX12_hire_28 rfl rfl ?_
  refine jd_aload_n (pc := 29) 0 dX12_hire_29 rfl rfl ?_
  refine jd_callVi (pc := 30) (M2 := mX12_all) (id := w7) (ci := 11) (T := TX12) (N := 45) (av := []) kX12_all sX12_all rfl hzw7.1 lX12_92 rfl rfl (Nat.le_of_ble_eq_true rfl) dX12_hire_30 h ?_
  intro v13 I12 J12 h
  refine jd_callVi (pc := 33) (M2 := mX12_mostIn) (id := w7) (ci := 11) (T := TX12) (N := 45) (av := [.int v13]) kX12_mostIn sX12_mostIn rfl hzw7.1 lX12_278 rfl rfl (Nat.le_of_ble_eq_true rfl) dX12_hire_33 h ?_
  intro v15 I14 J14 h
  refine jd_iload_n (pc := 36) 1 dX12_hire_36 rfl rfl ?_
  refine jd_isub (pc := 37) dX12_hire_37 ?_
  exact jd_iret (pc := 38) (ty := .int) rfl rfl dX12_hire_38 h
theorem eX12_hire {G : jdG} {n mc ms : Nat} {Z : jdL} {I : jdI} {J : jdJ} {Q : jdQ} {t : Nat} (ht : zModel Z t) (h : Cl G mX12_listAll n 0 0 [.ref (gb G + t)] Z I J (qv Z (fun I1 J1 => Cl G mX12_all n 0 0 [.ref (gb G + t)] Z I1 J1 (qi Z (fun v4 I3 J3 => Cl G mX12_mostIn n 0 0 [.ref (gb G + t), .int v4] Z I3 J3 (qi Z (fun v6 I5 J5 => (∃ mc7 ms7 rc7 rs7 : Nat, mc7 + rc7 ≤ mc ∧ ms7 + rs7 ≤ ms ∧ Cl G mX12_fresh n mc7 ms7 [.ref (gb G + t)] Z I5 J5 (fun r7 Z7 I7 J7 => ∃ w7 : Nat, r7 = some (.ref (gb G + w7)) ∧ (zModel Z7 t ∧ (zModel Z7 w7 ∧ Cl G mX12_addOne n 0 0 [.ref (gb G + w7), .int 0, .int 0] Z7 I7 J7 (qv Z7 (fun I8 J8 => Cl G mX12_listAll n 0 0 [.ref (gb G + w7)] Z7 I8 J8 (qv Z7 (fun I10 J10 => Cl G mX12_all n 0 0 [.ref (gb G + w7)] Z7 I10 J10 (qi Z7 (fun v13 I12 J12 => Cl G mX12_mostIn n 0 0 [.ref (gb G + w7), .int v13] Z7 I12 J12 (qi Z7 (fun v15 I14 J14 => Q (some (.int (v15 - v6))) Z7 I14 J14))))))))))))))))))) : Cl G mX12_hire (n + 1) mc ms [.ref (gb G + t)] Z I J Q :=
  Cl.of (by decide +kernel) (Nat.le_of_ble_eq_true rfl) (rX12_hire_0 ht h)
set_option maxRecDepth 4000 in
theorem rX12_feast_0 {G : jdG} {n rc rs : Nat} {Z : jdL} {I : jdI} {J : jdJ} {Q : jdQ} {t : Nat} {x1 : Int32} (ht : zModel Z t) (h : Cl G mX12_isSet n 0 0 [.ref (gb G + t), .int x1] Z I J (qi Z (fun v2 I1 J1 => ((¬ v2 = 0 → (∃ mc3 ms3 rc3 rs3 : Nat, mc3 + rc3 ≤ rc ∧ ms3 + rs3 ≤ rs ∧ Cl G mX12_findEver n mc3 ms3 [.ref (gb G + t)] Z I1 J1 (fun r3 Z3 I3 J3 => r3 = none ∧ (zModel Z3 t ∧ (∃ mc4 ms4 rc4 rs4 : Nat, mc4 + rc4 ≤ rc3 ∧ ms4 + rs4 ≤ rs3 ∧ Cl G mX12_fresh n mc4 ms4 [.ref (gb G + t)] Z3 I3 J3 (fun r4 Z4 I4 J4 => ∃ w4 : Nat, r4 = some (.ref (gb G + w4)) ∧ (zModel Z4 t ∧ (zModel Z4 w4 ∧ Cl G mX12_meets n 0 0 [.ref (gb G + w4), .int x1] Z4 I4 J4 (qi Z4 (fun v6 I5 J5 => (∃ mc7 ms7 rc7 rs7 : Nat, mc7 + rc7 ≤ rc4 ∧ ms7 + rs7 ≤ rs4 ∧ Cl G mX12_findEver n mc7 ms7 [.ref (gb G + w4)] Z4 I5 J5 (fun r7 Z7 I7 J7 => r7 = none ∧ (zModel Z7 t ∧ (zModel Z7 w4 ∧ Q (some (.int ((I7 t 37) - (I7 w4 37)))) Z7 I7 J7)))))))))))))) ∧ (v2 = 0 → Cl G mX12_refuse n 0 0 [.ref (gb G + t), .int (-2)] Z I1 J1 (qi Z (fun v9 I8 J8 => Q (some (.int v9)) Z I8 J8))))))) : Jd G mX12_feast (jdFm G Q) (n + 1) rc rs 0 [(0, .ref (gb G + t)), (1, .int x1)] [] Z I J := by
  refine jd_aload_n (pc := 0) 0 dX12_feast_0 rfl rfl ?_
  refine jd_iload_n (pc := 1) 1 dX12_feast_1 rfl rfl ?_
  refine jd_callVi (pc := 2) (M2 := mX12_isSet) (id := t) (ci := 11) (T := TX12) (N := 45) (av := [.int x1]) kX12_isSet sX12_isSet rfl ht.1 lX12_263 rfl rfl (Nat.le_of_ble_eq_true rfl) dX12_feast_2 h ?_
  intro v2 I1 J1 h
  refine jd_if_ne (pc := 5) 15 dX12_feast_5 (by decide) (fun hc => ?_) (fun hc => ?_)
  · have h := h.1 hc
    refine jd_aload_n (pc := 15) 0 dX12_feast_15 rfl rfl ?_
    obtain ⟨mc3, ms3, rc3, rs3, hb1, hb2, h⟩ := h
    refine jd_callV (pc := 16) (M2 := mX12_findEver) (id := t) (ci := 11) (T := TX12) (N := 45) (rc2 := rc3) (rs2 := rs3) (av := []) kX12_findEver sX12_findEver rfl ht.1 lX12_332 rfl rfl (Nat.le_of_ble_eq_true rfl) hb1 hb2 dX12_feast_16 (Cl.mono h (fun r3 Z3 I3 J3 h => ?_))
    obtain ⟨rfl, h⟩ := h
    obtain ⟨ht, h⟩ := h
    refine jd_aload_n (pc := 19) 0 dX12_feast_19 rfl rfl ?_
    obtain ⟨mc4, ms4, rc4, rs4, hb1, hb2, h⟩ := h
    refine jd_callV (pc := 20) (M2 := mX12_fresh) (id := t) (ci := 11) (T := TX12) (N := 45) (rc2 := rc4) (rs2 := rs4) (av := []) kX12_fresh sX12_fresh rfl ht.1 lX12_238 rfl rfl (Nat.le_of_ble_eq_true rfl) hb1 hb2 dX12_feast_20 (Cl.mono h (fun r4 Z4 I4 J4 h => ?_))
    obtain ⟨w4, rfl, h⟩ := h
    obtain ⟨ht, h⟩ := h
    obtain ⟨hzw4, h⟩ := h
    refine jd_astore_n (pc := 23) [(2, .ref (gb G + w4)), (0, .ref (gb G + t)), (1, .int x1)] dX12_feast_23 rfl (by decide) rfl ?_
    refine jd_aload_n (pc := 24) 0 dX12_feast_24 rfl rfl ?_
    refine jd_iload_n (pc := 25) 2 dX12_feast_25 rfl rfl ?_
    refine jd_callVi (pc := 26) (M2 := mX12_meets) (id := w4) (ci := 11) (T := TX12) (N := 45) (av := [.int x1]) kX12_meets sX12_meets rfl hzw4.1 lX12_213 rfl rfl (Nat.le_of_ble_eq_true rfl) dX12_feast_26 h ?_
    intro v6 I5 J5 h
    refine jd_pop (pc := 29) dX12_feast_29 rfl ?_
    refine jd_aload_n (pc := 30) 0 dX12_feast_30 rfl rfl ?_
    obtain ⟨mc7, ms7, rc7, rs7, hb1, hb2, h⟩ := h
    refine jd_callV (pc := 31) (M2 := mX12_findEver) (id := w4) (ci := 11) (T := TX12) (N := 45) (rc2 := rc7) (rs2 := rs7) (av := []) kX12_findEver sX12_findEver rfl hzw4.1 lX12_332 rfl rfl (Nat.le_of_ble_eq_true rfl) hb1 hb2 dX12_feast_31 (Cl.mono h (fun r7 Z7 I7 J7 h => ?_))
    obtain ⟨rfl, h⟩ := h
    obtain ⟨ht, h⟩ := h
    obtain ⟨hzw4, h⟩ := h
    refine jd_aload_n (pc := 34) 1 dX12_feast_34 rfl rfl ?_
    refine jd_getI (pc := 35) (ci := 11) (k := 37) gX12_319 ht.1 rfl dX12_feast_35 ?_
    refine jd_aload_n (pc := 38) 0 dX12_feast_38 rfl rfl ?_
    refine jd_getI (pc := 39) (ci := 11) (k := 37) gX12_319 hzw4.1 rfl dX12_feast_39 ?_
    refine jd_isub (pc := 42) dX12_feast_42 ?_
    exact jd_iret (pc := 43) (ty := .int) rfl rfl dX12_feast_43 h
  · have h := h.2 hc
    refine jd_aload_n (pc := 8) 0 dX12_feast_8 rfl rfl ?_
    refine jd_bipush (pc := 9) (v := (-2)) dX12_feast_9 (by decide) ?_
    refine jd_callVi (pc := 11) (M2 := mX12_refuse) (id := t) (ci := 11) (T := TX12) (N := 45) (av := [.int (-2)]) kX12_refuse sX12_refuse rfl ht.1 lX12_102 rfl rfl (Nat.le_of_ble_eq_true rfl) dX12_feast_11 h ?_
    intro v9 I8 J8 h
    exact jd_iret (pc := 14) (ty := .int) rfl rfl dX12_feast_14 h
theorem eX12_feast {G : jdG} {n mc ms : Nat} {Z : jdL} {I : jdI} {J : jdJ} {Q : jdQ} {t : Nat} {x1 : Int32} (ht : zModel Z t) (h : Cl G mX12_isSet n 0 0 [.ref (gb G + t), .int x1] Z I J (qi Z (fun v2 I1 J1 => ((¬ v2 = 0 → (∃ mc3 ms3 rc3 rs3 : Nat, mc3 + rc3 ≤ mc ∧ ms3 + rs3 ≤ ms ∧ Cl G mX12_findEver n mc3 ms3 [.ref (gb G + t)] Z I1 J1 (fun r3 Z3 I3 J3 => r3 = none ∧ (zModel Z3 t ∧ (∃ mc4 ms4 rc4 rs4 : Nat, mc4 + rc4 ≤ rc3 ∧ ms4 + rs4 ≤ rs3 ∧ Cl G mX12_fresh n mc4 ms4 [.ref (gb G + t)] Z3 I3 J3 (fun r4 Z4 I4 J4 => ∃ w4 : Nat, r4 = some (.ref (gb G + w4)) ∧ (zModel Z4 t ∧ (zModel Z4 w4 ∧ Cl G mX12_meets n 0 0 [.ref (gb G + w4), .int x1] Z4 I4 J4 (qi Z4 (fun v6 I5 J5 => (∃ mc7 ms7 rc7 rs7 : Nat, mc7 + rc7 ≤ rc4 ∧ ms7 + rs7 ≤ rs4 ∧ Cl G mX12_findEver n mc7 ms7 [.ref (gb G + w4)] Z4 I5 J5 (fun r7 Z7 I7 J7 => r7 = none ∧ (zModel Z7 t ∧ (zModel Z7 w4 ∧ Q (some (.int ((I7 t 37) - (I7 w4 37)))) Z7 I7 J7)))))))))))))) ∧ (v2 = 0 → Cl G mX12_refuse n 0 0 [.ref (gb G + t), .int (-2)] Z I1 J1 (qi Z (fun v9 I8 J8 => Q (some (.int v9)) Z I8 J8))))))) : Cl G mX12_feast (n + 1) mc ms [.ref (gb G + t), .int x1] Z I J Q :=
  Cl.of (by decide +kernel) (Nat.le_of_ble_eq_true rfl) (rX12_feast_0 ht h)
set_option maxRecDepth 4000 in
theorem rX12_closesOf_0 {G : jdG} {n rc rs : Nat} {Z : jdL} {I : jdI} {J : jdJ} {Q : jdQ} {t : Nat} {x1 : Int32} {x2 : Int32} (ht : zModel Z t) (h : (∃ mc1 ms1 rc1 rs1 : Nat, mc1 + rc1 ≤ rc ∧ ms1 + rs1 ≤ rs ∧ Cl G mX12_fresh n mc1 ms1 [.ref (gb G + t)] Z I J (fun r1 Z1 I1 J1 => ∃ w1 : Nat, r1 = some (.ref (gb G + w1)) ∧ (zModel Z1 t ∧ (zModel Z1 w1 ∧ Cl G mX12_knows n 0 0 [.ref (gb G + w1), .int x1, .int x2, .int 0] Z1 I1 J1 (qv Z1 (fun I2 J2 => Cl G mX12_all n 0 0 [.ref (gb G + t)] Z1 I2 J2 (qi Z1 (fun v5 I4 J4 => Cl G mX12_groupsOf n 0 0 [.ref (gb G + t), .int v5] Z1 I4 J4 (qi Z1 (fun v7 I6 J6 => Cl G mX12_all n 0 0 [.ref (gb G + t)] Z1 I6 J6 (qi Z1 (fun v9 I8 J8 => Cl G mX12_groupsOf n 0 0 [.ref (gb G + w1), .int v9] Z1 I8 J8 (qi Z1 (fun v11 I10 J10 => Q (some (.int (v7 - v11))) Z1 I10 J10))))))))))))))) : Jd G mX12_closesOf (jdFm G Q) (n + 1) rc rs 0 [(0, .ref (gb G + t)), (1, .int x1), (2, .int x2)] [] Z I J := by
  refine jd_aload_n (pc := 0) 0 dX12_closesOf_0 rfl rfl ?_
  obtain ⟨mc1, ms1, rc1, rs1, hb1, hb2, h⟩ := h
  refine jd_callV (pc := 1) (M2 := mX12_fresh) (id := t) (ci := 11) (T := TX12) (N := 45) (rc2 := rc1) (rs2 := rs1) (av := []) kX12_fresh sX12_fresh rfl ht.1 lX12_238 rfl rfl (Nat.le_of_ble_eq_true rfl) hb1 hb2 dX12_closesOf_1 (Cl.mono h (fun r1 Z1 I1 J1 h => ?_))
  obtain ⟨w1, rfl, h⟩ := h
  obtain ⟨ht, h⟩ := h
  obtain ⟨hzw1, h⟩ := h
  refine jd_astore_n (pc := 4) [(3, .ref (gb G + w1)), (0, .ref (gb G + t)), (1, .int x1), (2, .int x2)] dX12_closesOf_4 rfl (by decide) rfl ?_
  refine jd_aload_n (pc := 5) 0 dX12_closesOf_5 rfl rfl ?_
  refine jd_iload_n (pc := 6) 2 dX12_closesOf_6 rfl rfl ?_
  refine jd_iload_n (pc := 7) 3 dX12_closesOf_7 rfl rfl ?_
  refine jd_iconst (pc := 8) (v := 0) dX12_closesOf_8 (by decide) ?_
  refine jd_callVv (pc := 9) (M2 := mX12_knows) (id := w1) (ci := 11) (T := TX12) (N := 45) (av := [.int x1, .int x2, .int 0]) kX12_knows sX12_knows rfl hzw1.1 lX12_142 rfl rfl (Nat.le_of_ble_eq_true rfl) dX12_closesOf_9 h ?_
  intro I2 J2 h
  refine jd_aload_n (pc := 12) 1 dX12_closesOf_12 rfl rfl ?_
  refine jd_aload_n (pc := 13) 1 dX12_closesOf_13 rfl rfl ?_
  refine jd_callVi (pc := 14) (M2 := mX12_all) (id := t) (ci := 11) (T := TX12) (N := 45) (av := []) kX12_all sX12_all rfl ht.1 lX12_92 rfl rfl (Nat.le_of_ble_eq_true rfl) dX12_closesOf_14 h ?_
  intro v5 I4 J4 h
  refine jd_callVi (pc := 17) (M2 := mX12_groupsOf) (id := t) (ci := 11) (T := TX12) (N := 45) (av := [.int v5]) kX12_groupsOf sX12_groupsOf rfl ht.1 lX12_272 rfl rfl (Nat.le_of_ble_eq_true rfl) dX12_closesOf_17 h ?_
  intro v7 I6 J6 h
  refine jd_aload_n (pc := 20) 0 dX12_closesOf_20 rfl rfl ?_
  refine jd_aload_n (pc := 21) 1 dX12_closesOf_21 rfl rfl ?_
  refine jd_callVi (pc := 22) (M2 := mX12_all) (id := t) (ci := 11) (T := TX12) (N := 45) (av := []) kX12_all sX12_all rfl ht.1 lX12_92 rfl rfl (Nat.le_of_ble_eq_true rfl) dX12_closesOf_22 h ?_
  intro v9 I8 J8 h
  refine jd_callVi (pc := 25) (M2 := mX12_groupsOf) (id := w1) (ci := 11) (T := TX12) (N := 45) (av := [.int v9]) kX12_groupsOf sX12_groupsOf rfl hzw1.1 lX12_272 rfl rfl (Nat.le_of_ble_eq_true rfl) dX12_closesOf_25 h ?_
  intro v11 I10 J10 h
  refine jd_isub (pc := 28) dX12_closesOf_28 ?_
  exact jd_iret (pc := 29) (ty := .int) rfl rfl dX12_closesOf_29 h
theorem eX12_closesOf {G : jdG} {n mc ms : Nat} {Z : jdL} {I : jdI} {J : jdJ} {Q : jdQ} {t : Nat} {x1 : Int32} {x2 : Int32} (ht : zModel Z t) (h : (∃ mc1 ms1 rc1 rs1 : Nat, mc1 + rc1 ≤ mc ∧ ms1 + rs1 ≤ ms ∧ Cl G mX12_fresh n mc1 ms1 [.ref (gb G + t)] Z I J (fun r1 Z1 I1 J1 => ∃ w1 : Nat, r1 = some (.ref (gb G + w1)) ∧ (zModel Z1 t ∧ (zModel Z1 w1 ∧ Cl G mX12_knows n 0 0 [.ref (gb G + w1), .int x1, .int x2, .int 0] Z1 I1 J1 (qv Z1 (fun I2 J2 => Cl G mX12_all n 0 0 [.ref (gb G + t)] Z1 I2 J2 (qi Z1 (fun v5 I4 J4 => Cl G mX12_groupsOf n 0 0 [.ref (gb G + t), .int v5] Z1 I4 J4 (qi Z1 (fun v7 I6 J6 => Cl G mX12_all n 0 0 [.ref (gb G + t)] Z1 I6 J6 (qi Z1 (fun v9 I8 J8 => Cl G mX12_groupsOf n 0 0 [.ref (gb G + w1), .int v9] Z1 I8 J8 (qi Z1 (fun v11 I10 J10 => Q (some (.int (v7 - v11))) Z1 I10 J10))))))))))))))) : Cl G mX12_closesOf (n + 1) mc ms [.ref (gb G + t), .int x1, .int x2] Z I J Q :=
  Cl.of (by decide +kernel) (Nat.le_of_ble_eq_true rfl) (rX12_closesOf_0 ht h)
set_option maxRecDepth 4000 in
theorem rX12_closes_0 {G : jdG} {n rc rs : Nat} {Z : jdL} {I : jdI} {J : jdJ} {Q : jdQ} {t : Nat} {x1 : Int32} {x2 : Int32} (ht : zModel Z t) (h : Cl G mX12_areTwo n 0 0 [.ref (gb G + t), .int x1, .int x2] Z I J (qi Z (fun v2 I1 J1 => ((v2 = 0 → Cl G mX12_refuse n 0 0 [.ref (gb G + t), .int (-2)] Z I1 J1 (qi Z (fun v4 I3 J3 => Q (some (.int v4)) Z I3 J3))) ∧ (¬ v2 = 0 → (∃ mc5 ms5 rc5 rs5 : Nat, mc5 + rc5 ≤ rc ∧ ms5 + rs5 ≤ rs ∧ Cl G mX12_closesOf n mc5 ms5 [.ref (gb G + t), .int x1, .int x2] Z I1 J1 (fun r5 Z5 I5 J5 => ∃ v5 : Int32, r5 = some (.int v5) ∧ (zModel Z5 t ∧ Q (some (.int v5)) Z5 I5 J5)))))))) : Jd G mX12_closes (jdFm G Q) (n + 1) rc rs 0 [(0, .ref (gb G + t)), (1, .int x1), (2, .int x2)] [] Z I J := by
  refine jd_aload_n (pc := 0) 0 dX12_closes_0 rfl rfl ?_
  refine jd_iload_n (pc := 1) 1 dX12_closes_1 rfl rfl ?_
  refine jd_iload_n (pc := 2) 2 dX12_closes_2 rfl rfl ?_
  refine jd_callVi (pc := 3) (M2 := mX12_areTwo) (id := t) (ci := 11) (T := TX12) (N := 45) (av := [.int x1, .int x2]) kX12_areTwo sX12_areTwo rfl ht.1 lX12_135 rfl rfl (Nat.le_of_ble_eq_true rfl) dX12_closes_3 h ?_
  intro v2 I1 J1 h
  refine jd_if_eq (pc := 6) 18 dX12_closes_6 (by decide) (fun hc => ?_) (fun hc => ?_)
  · have h := h.1 hc
    refine jd_aload_n (pc := 18) 0 dX12_closes_18 rfl rfl ?_
    refine jd_bipush (pc := 19) (v := (-2)) dX12_closes_19 (by decide) ?_
    refine jd_callVi (pc := 21) (M2 := mX12_refuse) (id := t) (ci := 11) (T := TX12) (N := 45) (av := [.int (-2)]) kX12_refuse sX12_refuse rfl ht.1 lX12_102 rfl rfl (Nat.le_of_ble_eq_true rfl) dX12_closes_21 h ?_
    intro v4 I3 J3 h
    exact jd_iret (pc := 24) (ty := .int) rfl rfl dX12_closes_24 h
  · have h := h.2 hc
    refine jd_aload_n (pc := 9) 0 dX12_closes_9 rfl rfl ?_
    refine jd_iload_n (pc := 10) 1 dX12_closes_10 rfl rfl ?_
    refine jd_iload_n (pc := 11) 2 dX12_closes_11 rfl rfl ?_
    obtain ⟨mc5, ms5, rc5, rs5, hb1, hb2, h⟩ := h
    refine jd_callV (pc := 12) (M2 := mX12_closesOf) (id := t) (ci := 11) (T := TX12) (N := 45) (rc2 := rc5) (rs2 := rs5) (av := [.int x1, .int x2]) kX12_closesOf sX12_closesOf rfl ht.1 lX12_335 rfl rfl (Nat.le_of_ble_eq_true rfl) hb1 hb2 dX12_closes_12 (Cl.mono h (fun r5 Z5 I5 J5 h => ?_))
    obtain ⟨v5, rfl, h⟩ := h
    obtain ⟨ht, h⟩ := h
    refine jd_goto (pc := 15) 24 dX12_closes_15 (by decide) ?_
    exact jd_iret (pc := 24) (ty := .int) rfl rfl dX12_closes_24 h
theorem eX12_closes {G : jdG} {n mc ms : Nat} {Z : jdL} {I : jdI} {J : jdJ} {Q : jdQ} {t : Nat} {x1 : Int32} {x2 : Int32} (ht : zModel Z t) (h : Cl G mX12_areTwo n 0 0 [.ref (gb G + t), .int x1, .int x2] Z I J (qi Z (fun v2 I1 J1 => ((v2 = 0 → Cl G mX12_refuse n 0 0 [.ref (gb G + t), .int (-2)] Z I1 J1 (qi Z (fun v4 I3 J3 => Q (some (.int v4)) Z I3 J3))) ∧ (¬ v2 = 0 → (∃ mc5 ms5 rc5 rs5 : Nat, mc5 + rc5 ≤ mc ∧ ms5 + rs5 ≤ ms ∧ Cl G mX12_closesOf n mc5 ms5 [.ref (gb G + t), .int x1, .int x2] Z I1 J1 (fun r5 Z5 I5 J5 => ∃ v5 : Int32, r5 = some (.int v5) ∧ (zModel Z5 t ∧ Q (some (.int v5)) Z5 I5 J5)))))))) : Cl G mX12_closes (n + 1) mc ms [.ref (gb G + t), .int x1, .int x2] Z I J Q :=
  Cl.of (by decide +kernel) (Nat.le_of_ble_eq_true rfl) (rX12_closes_0 ht h)
set_option maxRecDepth 4000 in
theorem rX12_worst_0 {G : jdG} {n rc rs : Nat} {Z : jdL} {I : jdI} {J : jdJ} {Q : jdQ} {t : Nat} (ht : zModel Z t) (h : Jd G mX12_worst (jdFm G Q) (n + 1) rc rs 6 [(0, .ref (gb G + t)), (1, .int (-1)), (2, .int (-1)), (3, .int 0)] [] Z I J) : Jd G mX12_worst (jdFm G Q) (n + 1) rc rs 0 [(0, .ref (gb G + t))] [] Z I J := by
  refine jd_iconst (pc := 0) (v := (-1)) dX12_worst_0 (by decide) ?_
  refine jd_istore_n (pc := 1) [(1, .int (-1)), (0, .ref (gb G + t))] dX12_worst_1 rfl (by decide) rfl ?_
  refine jd_iconst (pc := 2) (v := (-1)) dX12_worst_2 (by decide) ?_
  refine jd_istore_n (pc := 3) [(2, .int (-1)), (1, .int (-1)), (0, .ref (gb G + t))] dX12_worst_3 rfl (by decide) rfl ?_
  refine jd_iconst (pc := 4) (v := 0) dX12_worst_4 (by decide) ?_
  refine jd_istore_n (pc := 5) [(3, .int 0), (2, .int (-1)), (1, .int (-1)), (0, .ref (gb G + t))] dX12_worst_5 rfl (by decide) rfl ?_
  exact jd_lv (lv2 := [(0, .ref (gb G + t)), (1, .int (-1)), (2, .int (-1)), (3, .int 0)]) [3, 2, 1, 0] rfl h
set_option maxRecDepth 4000 in
theorem rX12_worst_6 {G : jdG} {n rc rs : Nat} {Z : jdL} {I : jdI} {J : jdJ} {Q : jdQ} {t : Nat} {x1 : Int32} {x2 : Int32} {x3 : Int32} (ht : zModel Z t) (h : (((I t 10) ≤ x3 → ((¬ x1 = (-1) → Q (some (.int x1)) Z I J) ∧ (x1 = (-1) → Cl G mX12_refuse n 0 0 [.ref (gb G + t), .int (-5)] Z I J (qi Z (fun v2 I1 J1 => Q (some (.int v2)) Z I1 J1))))) ∧ (¬ (I t 10) ≤ x3 → Jd G mX12_worst (jdFm G Q) (n + 1) rc rs 19 [(0, .ref (gb G + t)), (1, .int x1), (2, .int x2), (3, .int x3), (4, .int (x3 + 1))] [] Z I J))) : Jd G mX12_worst (jdFm G Q) (n + 1) rc rs 6 [(0, .ref (gb G + t)), (1, .int x1), (2, .int x2), (3, .int x3)] [] Z I J := by
  refine jd_iload_n (pc := 6) 3 dX12_worst_6 rfl rfl ?_
  refine jd_aload_n (pc := 7) 0 dX12_worst_7 rfl rfl ?_
  refine jd_getI (pc := 8) (ci := 11) (k := 10) gX12_85 ht.1 rfl dX12_worst_8 ?_
  refine jd_icmp_ge (pc := 11) 79 dX12_worst_11 (by decide) (fun hc => ?_) (fun hc => ?_)
  · have h := h.1 hc
    refine jd_iload_n (pc := 79) 1 dX12_worst_79 rfl rfl ?_
    refine jd_iconst (pc := 80) (v := (-1)) dX12_worst_80 (by decide) ?_
    refine jd_icmp_ne (pc := 81) 93 dX12_worst_81 (by decide) (fun hc => ?_) (fun hc => ?_)
    · have h := h.1 hc
      refine jd_iload_n (pc := 93) 1 dX12_worst_93 rfl rfl ?_
      exact jd_iret (pc := 94) (ty := .int) rfl rfl dX12_worst_94 h
    · have h := h.2 hc
      refine jd_aload_n (pc := 84) 0 dX12_worst_84 rfl rfl ?_
      refine jd_bipush (pc := 85) (v := (-5)) dX12_worst_85 (by decide) ?_
      refine jd_callVi (pc := 87) (M2 := mX12_refuse) (id := t) (ci := 11) (T := TX12) (N := 45) (av := [.int (-5)]) kX12_refuse sX12_refuse rfl ht.1 lX12_102 rfl rfl (Nat.le_of_ble_eq_true rfl) dX12_worst_87 h ?_
      intro v2 I1 J1 h
      refine jd_goto (pc := 90) 94 dX12_worst_90 (by decide) ?_
      exact jd_iret (pc := 94) (ty := .int) rfl rfl dX12_worst_94 h
  · have h := h.2 hc
    refine jd_iload_n (pc := 14) 3 dX12_worst_14 rfl rfl ?_
    refine jd_iconst (pc := 15) (v := 1) dX12_worst_15 (by decide) ?_
    refine jd_iadd (pc := 16) dX12_worst_16 ?_
    refine jd_istore (pc := 17) [(4, .int (x3 + 1)), (0, .ref (gb G + t)), (1, .int x1), (2, .int x2), (3, .int x3)] dX12_worst_17 (by decide) rfl ?_
    exact jd_lv (lv2 := [(0, .ref (gb G + t)), (1, .int x1), (2, .int x2), (3, .int x3), (4, .int (x3 + 1))]) [1, 2, 3, 4, 0] rfl h
set_option maxRecDepth 4000 in
theorem rX12_worst_19 {G : jdG} {n rc rs : Nat} {Z : jdL} {I : jdI} {J : jdJ} {Q : jdQ} {t : Nat} {x1 : Int32} {x2 : Int32} {x3 : Int32} {x4 : Int32} (ht : zModel Z t) (h : (((I t 10) ≤ x4 → Jd G mX12_worst (jdFm G Q) (n + 1) rc rs 6 [(0, .ref (gb G + t)), (1, .int x1), (2, .int x2), (3, .int (x3 + 1))] [] Z I J) ∧ (¬ (I t 10) ≤ x4 → (vp_in x3 8 ∧ (vp_in x4 8 ∧ ((¬ (I (t + 21 + (Int32.toNatClampNeg x3)) (Int32.toNatClampNeg x4)) = (-1) → Jd G mX12_worst (jdFm G Q) (n + 1) rc rs 19 [(0, .ref (gb G + t)), (1, .int x1), (2, .int x2), (3, .int x3), (4, .int (x4 + 1))] [] Z I J) ∧ ((I (t + 21 + (Int32.toNatClampNeg x3)) (Int32.toNatClampNeg x4)) = (-1) → (∃ mc3 ms3 rc3 rs3 : Nat, mc3 + rc3 ≤ rc ∧ ms3 + rs3 ≤ rs ∧ Cl G mX12_closesOf n mc3 ms3 [.ref (gb G + t), .int x3, .int x4] Z I J (fun r3 Z3 I3 J3 => ∃ v3 : Int32, r3 = some (.int v3) ∧ (zModel Z3 t ∧ ((v3 ≤ x2 → Jd G mX12_worst (jdFm G Q) (n + 1) rc3 rs3 19 [(0, .ref (gb G + t)), (1, .int x1), (2, .int x2), (3, .int x3), (4, .int (x4 + 1))] [] Z3 I3 J3) ∧ (¬ v3 ≤ x2 → Jd G mX12_worst (jdFm G Q) (n + 1) rc3 rs3 19 [(0, .ref (gb G + t)), (1, .int ((10 * x3) + x4)), (2, .int v3), (3, .int x3), (4, .int (x4 + 1))] [] Z3 I3 J3)))))))))))) : Jd G mX12_worst (jdFm G Q) (n + 1) rc rs 19 [(0, .ref (gb G + t)), (1, .int x1), (2, .int x2), (3, .int x3), (4, .int x4)] [] Z I J := by
  refine jd_iload (pc := 19) 4 dX12_worst_19 rfl ?_
  refine jd_aload_n (pc := 21) 0 dX12_worst_21 rfl rfl ?_
  refine jd_getI (pc := 22) (ci := 11) (k := 10) gX12_85 ht.1 rfl dX12_worst_22 ?_
  refine jd_icmp_ge (pc := 25) 73 dX12_worst_25 (by decide) (fun hc => ?_) (fun hc => ?_)
  · have h := h.1 hc
    refine jd_iinc (pc := 73) (v := (x3 + 1)) 3 [(3, .int (x3 + 1)), (0, .ref (gb G + t)), (1, .int x1), (2, .int x2), (4, .int x4)] dX12_worst_73 rfl rfl (by decide) rfl ?_
    refine jd_goto (pc := 76) 6 dX12_worst_76 (by decide) ?_
    exact jd_lv (lv2 := [(0, .ref (gb G + t)), (1, .int x1), (2, .int x2), (3, .int (x3 + 1))]) [1, 2, 3, 0] rfl h
  · have h := h.2 hc
    refine jd_aload_n (pc := 28) 0 dX12_worst_28 rfl rfl ?_
    refine jd_getR (pc := 29) (ci := 11) (k := 13) (r := (t + 20)) gX12_48 ht.1 rfl (zModel_p13 ht) dX12_worst_29 ?_
    refine jd_iload_n (pc := 32) 3 dX12_worst_32 rfl rfl ?_
    obtain ⟨hv1, h⟩ := h
    refine jd_aald (pc := 33) (len := 8) (k := 2) (zModel_a13 ht) (by decide) hv1 (zModel_known ht (vp_lt hv1)) dX12_worst_33 ?_
    refine jd_iload (pc := 34) 4 dX12_worst_34 rfl ?_
    obtain ⟨hv2, h⟩ := h
    refine jd_iald (pc := 36) (len := 8) (zModel_knownA ht (vp_lt hv1)) hv2 dX12_worst_36 ?_
    refine jd_iconst (pc := 37) (v := (-1)) dX12_worst_37 (by decide) ?_
    refine jd_icmp_ne (pc := 38) 67 dX12_worst_38 (by decide) (fun hc => ?_) (fun hc => ?_)
    · have h := h.1 hc
      refine jd_iinc (pc := 67) (v := (x4 + 1)) 4 [(4, .int (x4 + 1)), (0, .ref (gb G + t)), (1, .int x1), (2, .int x2), (3, .int x3)] dX12_worst_67 rfl rfl (by decide) rfl ?_
      refine jd_goto (pc := 70) 19 dX12_worst_70 (by decide) ?_
      exact jd_lv (lv2 := [(0, .ref (gb G + t)), (1, .int x1), (2, .int x2), (3, .int x3), (4, .int (x4 + 1))]) [1, 2, 3, 4, 0] rfl h
    · have h := h.2 hc
      refine jd_aload_n (pc := 41) 0 dX12_worst_41 rfl rfl ?_
      refine jd_iload_n (pc := 42) 3 dX12_worst_42 rfl rfl ?_
      refine jd_iload (pc := 43) 4 dX12_worst_43 rfl ?_
      obtain ⟨mc3, ms3, rc3, rs3, hb1, hb2, h⟩ := h
      refine jd_callV (pc := 45) (M2 := mX12_closesOf) (id := t) (ci := 11) (T := TX12) (N := 45) (rc2 := rc3) (rs2 := rs3) (av := [.int x3, .int x4]) kX12_closesOf sX12_closesOf rfl ht.1 lX12_335 rfl rfl (Nat.le_of_ble_eq_true rfl) hb1 hb2 dX12_worst_45 (Cl.mono h (fun r3 Z3 I3 J3 h => ?_))
      obtain ⟨v3, rfl, h⟩ := h
      obtain ⟨ht, h⟩ := h
      refine jd_istore (pc := 48) [(5, .int v3), (0, .ref (gb G + t)), (1, .int x1), (2, .int x2), (3, .int x3), (4, .int x4)] dX12_worst_48 (by decide) rfl ?_
      refine jd_iload (pc := 50) 0 dX12_worst_50 rfl ?_
      refine jd_iload_n (pc := 52) 3 dX12_worst_52 rfl rfl ?_
      refine jd_icmp_le (pc := 53) 67 dX12_worst_53 (by decide) (fun hc => ?_) (fun hc => ?_)
      · have h := h.1 hc
        refine jd_iinc (pc := 67) (v := (x4 + 1)) 5 [(4, .int (x4 + 1)), (5, .int v3), (0, .ref (gb G + t)), (1, .int x1), (2, .int x2), (3, .int x3)] dX12_worst_67 rfl rfl (by decide) rfl ?_
        refine jd_goto (pc := 70) 19 dX12_worst_70 (by decide) ?_
        exact jd_lv (lv2 := [(0, .ref (gb G + t)), (1, .int x1), (2, .int x2), (3, .int x3), (4, .int (x4 + 1))]) [2, 3, 4, 5, 0] rfl h
      · have h := h.2 hc
        refine jd_bipush (pc := 56) (v := 10) dX12_worst_56 (by decide) ?_
        refine jd_iload_n (pc := 58) 4 dX12_worst_58 rfl rfl ?_
        refine jd_imul (pc := 59) dX12_worst_59 ?_
        refine jd_iload (pc := 60) 5 dX12_worst_60 rfl ?_
        refine jd_iadd (pc := 62) dX12_worst_62 ?_
        refine jd_istore_n (pc := 63) [(1, .int ((10 * x3) + x4)), (5, .int v3), (0, .ref (gb G + t)), (2, .int x2), (3, .int x3), (4, .int x4)] dX12_worst_63 rfl (by decide) rfl ?_
        refine jd_iload (pc := 64) 1 dX12_worst_64 rfl ?_
        refine jd_istore_n (pc := 66) [(2, .int v3), (1, .int ((10 * x3) + x4)), (5, .int v3), (0, .ref (gb G + t)), (3, .int x3), (4, .int x4)] dX12_worst_66 rfl (by decide) rfl ?_
        refine jd_iinc (pc := 67) (v := (x4 + 1)) 5 [(4, .int (x4 + 1)), (2, .int v3), (1, .int ((10 * x3) + x4)), (5, .int v3), (0, .ref (gb G + t)), (3, .int x3)] dX12_worst_67 rfl rfl (by decide) rfl ?_
        refine jd_goto (pc := 70) 19 dX12_worst_70 (by decide) ?_
        exact jd_lv (lv2 := [(0, .ref (gb G + t)), (1, .int ((10 * x3) + x4)), (2, .int v3), (3, .int x3), (4, .int (x4 + 1))]) [4, 2, 1, 5, 0] rfl h
theorem eX12_worst {G : jdG} {n mc ms : Nat} {Z : jdL} {I : jdI} {J : jdJ} {Q : jdQ} {t : Nat} (ht : zModel Z t) (h : Jd G mX12_worst (jdFm G Q) (n + 1) mc ms 6 [(0, .ref (gb G + t)), (1, .int (-1)), (2, .int (-1)), (3, .int 0)] [] Z I J) : Cl G mX12_worst (n + 1) mc ms [.ref (gb G + t)] Z I J Q :=
  Cl.of (by decide +kernel) (Nat.le_of_ble_eq_true rfl) (rX12_worst_0 ht h)
set_option maxRecDepth 4000 in
theorem rX12_findWays_0 {G : jdG} {n rc rs : Nat} {Z : jdL} {I : jdI} {J : jdJ} {Q : jdQ} {t : Nat} {x1 : Int32} (ht : zModel Z t) (h : Jd G mX12_findWays (jdFm G Q) (n + 1) rc rs 7 [(0, .ref (gb G + t)), (1, .int x1), (2, .int 0)] [] Z (uI I t 42 0) J) : Jd G mX12_findWays (jdFm G Q) (n + 1) rc rs 0 [(0, .ref (gb G + t)), (1, .int x1)] [] Z I J := by
  refine jd_aload_n (pc := 0) 0 dX12_findWays_0 rfl rfl ?_
  refine jd_iconst (pc := 1) (v := 0) dX12_findWays_1 (by decide) ?_
  refine jd_putI (pc := 2) (ci := 11) (k := 42) pX12_338 ht.1 rfl rfl rfl dX12_findWays_2 ?_
  refine jd_iconst (pc := 5) (v := 0) dX12_findWays_5 (by decide) ?_
  refine jd_istore_n (pc := 6) [(2, .int 0), (0, .ref (gb G + t)), (1, .int x1)] dX12_findWays_6 rfl (by decide) rfl ?_
  exact jd_lv (lv2 := [(0, .ref (gb G + t)), (1, .int x1), (2, .int 0)]) [1, 2, 0] rfl h
set_option maxRecDepth 4000 in
theorem rX12_findWays_7 {G : jdG} {n rc rs : Nat} {Z : jdL} {I : jdI} {J : jdJ} {Q : jdQ} {t : Nat} {x1 : Int32} {x2 : Int32} (ht : zModel Z t) (h : (((I t 10) ≤ x2 → Jd G mX12_findWays (jdFm G Q) (n + 1) rc rs 114 [(0, .ref (gb G + t)), (1, .int x1), (2, .int 0)] [] Z (uI I t 43 0) J) ∧ (¬ (I t 10) ≤ x2 → Jd G mX12_findWays (jdFm G Q) (n + 1) rc rs 19 [(0, .ref (gb G + t)), (1, .int x1), (2, .int x2), (3, .int (x2 + 1))] [] Z I J))) : Jd G mX12_findWays (jdFm G Q) (n + 1) rc rs 7 [(0, .ref (gb G + t)), (1, .int x1), (2, .int x2)] [] Z I J := by
  refine jd_iload_n (pc := 7) 2 dX12_findWays_7 rfl rfl ?_
  refine jd_aload_n (pc := 8) 0 dX12_findWays_8 rfl rfl ?_
  refine jd_getI (pc := 9) (ci := 11) (k := 10) gX12_85 ht.1 rfl dX12_findWays_9 ?_
  refine jd_icmp_ge (pc := 12) 107 dX12_findWays_12 (by decide) (fun hc => ?_) (fun hc => ?_)
  · have h := h.1 hc
    refine jd_aload_n (pc := 107) 0 dX12_findWays_107 rfl rfl ?_
    refine jd_iconst (pc := 108) (v := 0) dX12_findWays_108 (by decide) ?_
    refine jd_putI (pc := 109) (ci := 11) (k := 43) pX12_341 ht.1 rfl rfl rfl dX12_findWays_109 ?_
    refine jd_iconst (pc := 112) (v := 0) dX12_findWays_112 (by decide) ?_
    refine jd_istore_n (pc := 113) [(2, .int 0), (0, .ref (gb G + t)), (1, .int x1)] dX12_findWays_113 rfl (by decide) rfl ?_
    exact jd_lv (lv2 := [(0, .ref (gb G + t)), (1, .int x1), (2, .int 0)]) [1, 2, 0] rfl h
  · have h := h.2 hc
    refine jd_iload_n (pc := 15) 2 dX12_findWays_15 rfl rfl ?_
    refine jd_iconst (pc := 16) (v := 1) dX12_findWays_16 (by decide) ?_
    refine jd_iadd (pc := 17) dX12_findWays_17 ?_
    refine jd_istore_n (pc := 18) [(3, .int (x2 + 1)), (0, .ref (gb G + t)), (1, .int x1), (2, .int x2)] dX12_findWays_18 rfl (by decide) rfl ?_
    exact jd_lv (lv2 := [(0, .ref (gb G + t)), (1, .int x1), (2, .int x2), (3, .int (x2 + 1))]) [1, 2, 3, 0] rfl h
set_option maxRecDepth 4000 in
theorem rX12_findWays_114 {G : jdG} {n rc rs : Nat} {Z : jdL} {I : jdI} {J : jdJ} {Q : jdQ} {t : Nat} {x1 : Int32} {x2 : Int32} (ht : zModel Z t) (h : (((1 <<< ((I t 42) &&& 31)) ≤ x2 → Q none Z I J) ∧ (¬ (1 <<< ((I t 42) &&& 31)) ≤ x2 → (∃ mc1 ms1 rc1 rs1 : Nat, mc1 + rc1 ≤ rc ∧ ms1 + rs1 ≤ rs ∧ Cl G mX12_fresh n mc1 ms1 [.ref (gb G + t)] Z I J (fun r1 Z1 I1 J1 => ∃ w1 : Nat, r1 = some (.ref (gb G + w1)) ∧ (zModel Z1 t ∧ (zModel Z1 w1 ∧ Jd G mX12_findWays (jdFm G Q) (n + 1) rc1 rs1 132 [(0, .ref (gb G + t)), (1, .int x1), (2, .int x2), (3, .ref (gb G + w1)), (4, .int 0)] [] Z1 I1 J1))))))) : Jd G mX12_findWays (jdFm G Q) (n + 1) rc rs 114 [(0, .ref (gb G + t)), (1, .int x1), (2, .int x2)] [] Z I J := by
  refine jd_iload_n (pc := 114) 2 dX12_findWays_114 rfl rfl ?_
  refine jd_iconst (pc := 115) (v := 1) dX12_findWays_115 (by decide) ?_
  refine jd_aload_n (pc := 116) 0 dX12_findWays_116 rfl rfl ?_
  refine jd_getI (pc := 117) (ci := 11) (k := 42) gX12_338 ht.1 rfl dX12_findWays_117 ?_
  refine jd_ishl (pc := 120) dX12_findWays_120 ?_
  refine jd_icmp_ge (pc := 121) 233 dX12_findWays_121 (by decide) (fun hc => ?_) (fun hc => ?_)
  · have h := h.1 hc
    exact jd_vret (pc := 233) rfl dX12_findWays_233 h
  · have h := h.2 hc
    refine jd_aload_n (pc := 124) 0 dX12_findWays_124 rfl rfl ?_
    obtain ⟨mc1, ms1, rc1, rs1, hb1, hb2, h⟩ := h
    refine jd_callV (pc := 125) (M2 := mX12_fresh) (id := t) (ci := 11) (T := TX12) (N := 45) (rc2 := rc1) (rs2 := rs1) (av := []) kX12_fresh sX12_fresh rfl ht.1 lX12_238 rfl rfl (Nat.le_of_ble_eq_true rfl) hb1 hb2 dX12_findWays_125 (Cl.mono h (fun r1 Z1 I1 J1 h => ?_))
    obtain ⟨w1, rfl, h⟩ := h
    obtain ⟨ht, h⟩ := h
    obtain ⟨hzw1, h⟩ := h
    refine jd_astore_n (pc := 128) [(3, .ref (gb G + w1)), (0, .ref (gb G + t)), (1, .int x1), (2, .int x2)] dX12_findWays_128 rfl (by decide) rfl ?_
    refine jd_iconst (pc := 129) (v := 0) dX12_findWays_129 (by decide) ?_
    refine jd_istore (pc := 130) [(4, .int 0), (3, .ref (gb G + w1)), (0, .ref (gb G + t)), (1, .int x1), (2, .int x2)] dX12_findWays_130 (by decide) rfl ?_
    exact jd_lv (lv2 := [(0, .ref (gb G + t)), (1, .int x1), (2, .int x2), (3, .ref (gb G + w1)), (4, .int 0)]) [2, 3, 4, 1, 0] rfl h
set_option maxRecDepth 4000 in
theorem rX12_findWays_19 {G : jdG} {n rc rs : Nat} {Z : jdL} {I : jdI} {J : jdJ} {Q : jdQ} {t : Nat} {x1 : Int32} {x2 : Int32} {x3 : Int32} (ht : zModel Z t) (h : (((I t 10) ≤ x3 → Jd G mX12_findWays (jdFm G Q) (n + 1) rc rs 7 [(0, .ref (gb G + t)), (1, .int x1), (2, .int (x2 + 1))] [] Z I J) ∧ (¬ (I t 10) ≤ x3 → Cl G mX12_has n 0 0 [.int x1, .int x2] Z I J (qi Z (fun v2 I1 J1 => ((v2 = 0 → Jd G mX12_findWays (jdFm G Q) (n + 1) rc rs 19 [(0, .ref (gb G + t)), (1, .int x1), (2, .int x2), (3, .int (x3 + 1))] [] Z I1 J1) ∧ (¬ v2 = 0 → Cl G mX12_has n 0 0 [.int x1, .int x3] Z I1 J1 (qi Z (fun v4 I3 J3 => ((v4 = 0 → Jd G mX12_findWays (jdFm G Q) (n + 1) rc rs 19 [(0, .ref (gb G + t)), (1, .int x1), (2, .int x2), (3, .int (x3 + 1))] [] Z I3 J3) ∧ (¬ v4 = 0 → (vp_in x2 8 ∧ (vp_in x3 8 ∧ ((¬ (I3 (t + 21 + (Int32.toNatClampNeg x2)) (Int32.toNatClampNeg x3)) = (-1) → Jd G mX12_findWays (jdFm G Q) (n + 1) rc rs 19 [(0, .ref (gb G + t)), (1, .int x1), (2, .int x2), (3, .int (x3 + 1))] [] Z I3 J3) ∧ ((I3 (t + 21 + (Int32.toNatClampNeg x2)) (Int32.toNatClampNeg x3)) = (-1) → (vp_in (I3 t 42) 10 ∧ (vp_in (I3 t 42) 10 ∧ (vp_in (I3 t 42) 10 ∧ Jd G mX12_findWays (jdFm G Q) (n + 1) rc rs 19 [(0, .ref (gb G + t)), (1, .int x1), (2, .int x2), (3, .int (x3 + 1))] [] Z (uI (uI (uI (uI I3 (t + 35) (Int32.toNatClampNeg (I3 t 42)) x2) (t + 36) (Int32.toNatClampNeg (I3 t 42)) x3) (t + 37) (Int32.toNatClampNeg (I3 t 42)) 0) t 42 ((I3 t 42) + 1)) J3)))))))))))))))))) : Jd G mX12_findWays (jdFm G Q) (n + 1) rc rs 19 [(0, .ref (gb G + t)), (1, .int x1), (2, .int x2), (3, .int x3)] [] Z I J := by
  refine jd_iload_n (pc := 19) 3 dX12_findWays_19 rfl rfl ?_
  refine jd_aload_n (pc := 20) 0 dX12_findWays_20 rfl rfl ?_
  refine jd_getI (pc := 21) (ci := 11) (k := 10) gX12_85 ht.1 rfl dX12_findWays_21 ?_
  refine jd_icmp_ge (pc := 24) 101 dX12_findWays_24 (by decide) (fun hc => ?_) (fun hc => ?_)
  · have h := h.1 hc
    refine jd_iinc (pc := 101) (v := (x2 + 1)) 2 [(2, .int (x2 + 1)), (0, .ref (gb G + t)), (1, .int x1), (3, .int x3)] dX12_findWays_101 rfl rfl (by decide) rfl ?_
    refine jd_goto (pc := 104) 7 dX12_findWays_104 (by decide) ?_
    exact jd_lv (lv2 := [(0, .ref (gb G + t)), (1, .int x1), (2, .int (x2 + 1))]) [1, 2, 0] rfl h
  · have h := h.2 hc
    refine jd_iload_n (pc := 27) 1 dX12_findWays_27 rfl rfl ?_
    refine jd_iload_n (pc := 28) 2 dX12_findWays_28 rfl rfl ?_
    refine jd_callSi (pc := 29) (M2 := mX12_has) (av := [.int x1, .int x2]) kX12_has sX12_has lX12_151 rfl rfl (Nat.le_of_ble_eq_true rfl) dX12_findWays_29 h ?_
    intro v2 I1 J1 h
    refine jd_if_eq (pc := 32) 95 dX12_findWays_32 (by decide) (fun hc => ?_) (fun hc => ?_)
    · have h := h.1 hc
      refine jd_iinc (pc := 95) (v := (x3 + 1)) 3 [(3, .int (x3 + 1)), (0, .ref (gb G + t)), (1, .int x1), (2, .int x2)] dX12_findWays_95 rfl rfl (by decide) rfl ?_
      refine jd_goto (pc := 98) 19 dX12_findWays_98 (by decide) ?_
      exact jd_lv (lv2 := [(0, .ref (gb G + t)), (1, .int x1), (2, .int x2), (3, .int (x3 + 1))]) [1, 2, 3, 0] rfl h
    · have h := h.2 hc
      refine jd_iload_n (pc := 35) 1 dX12_findWays_35 rfl rfl ?_
      refine jd_iload_n (pc := 36) 3 dX12_findWays_36 rfl rfl ?_
      refine jd_callSi (pc := 37) (M2 := mX12_has) (av := [.int x1, .int x3]) kX12_has sX12_has lX12_151 rfl rfl (Nat.le_of_ble_eq_true rfl) dX12_findWays_37 h ?_
      intro v4 I3 J3 h
      refine jd_if_eq (pc := 40) 95 dX12_findWays_40 (by decide) (fun hc => ?_) (fun hc => ?_)
      · have h := h.1 hc
        refine jd_iinc (pc := 95) (v := (x3 + 1)) 3 [(3, .int (x3 + 1)), (0, .ref (gb G + t)), (1, .int x1), (2, .int x2)] dX12_findWays_95 rfl rfl (by decide) rfl ?_
        refine jd_goto (pc := 98) 19 dX12_findWays_98 (by decide) ?_
        exact jd_lv (lv2 := [(0, .ref (gb G + t)), (1, .int x1), (2, .int x2), (3, .int (x3 + 1))]) [1, 2, 3, 0] rfl h
      · have h := h.2 hc
        refine jd_aload_n (pc := 43) 0 dX12_findWays_43 rfl rfl ?_
        refine jd_getR (pc := 44) (ci := 11) (k := 13) (r := (t + 20)) gX12_48 ht.1 rfl (zModel_p13 ht) dX12_findWays_44 ?_
        refine jd_iload_n (pc := 47) 2 dX12_findWays_47 rfl rfl ?_
        obtain ⟨hv5, h⟩ := h
        refine jd_aald (pc := 48) (len := 8) (k := 2) (zModel_a13 ht) (by decide) hv5 (zModel_known ht (vp_lt hv5)) dX12_findWays_48 ?_
        refine jd_iload_n (pc := 49) 3 dX12_findWays_49 rfl rfl ?_
        obtain ⟨hv6, h⟩ := h
        refine jd_iald (pc := 50) (len := 8) (zModel_knownA ht (vp_lt hv5)) hv6 dX12_findWays_50 ?_
        refine jd_iconst (pc := 51) (v := (-1)) dX12_findWays_51 (by decide) ?_
        refine jd_icmp_ne (pc := 52) 95 dX12_findWays_52 (by decide) (fun hc => ?_) (fun hc => ?_)
        · have h := h.1 hc
          refine jd_iinc (pc := 95) (v := (x3 + 1)) 3 [(3, .int (x3 + 1)), (0, .ref (gb G + t)), (1, .int x1), (2, .int x2)] dX12_findWays_95 rfl rfl (by decide) rfl ?_
          refine jd_goto (pc := 98) 19 dX12_findWays_98 (by decide) ?_
          exact jd_lv (lv2 := [(0, .ref (gb G + t)), (1, .int x1), (2, .int x2), (3, .int (x3 + 1))]) [1, 2, 3, 0] rfl h
        · have h := h.2 hc
          refine jd_aload_n (pc := 55) 0 dX12_findWays_55 rfl rfl ?_
          refine jd_getR (pc := 56) (ci := 11) (k := 39) (r := (t + 35)) gX12_76 ht.1 rfl (zModel_p39 ht) dX12_findWays_56 ?_
          refine jd_aload_n (pc := 59) 0 dX12_findWays_59 rfl rfl ?_
          refine jd_getI (pc := 60) (ci := 11) (k := 42) gX12_338 ht.1 rfl dX12_findWays_60 ?_
          refine jd_iload_n (pc := 63) 2 dX12_findWays_63 rfl rfl ?_
          obtain ⟨hv7, h⟩ := h
          refine jd_iast (pc := 64) (len := 10) (zModel_a39 ht) hv7 dX12_findWays_64 ?_
          refine jd_aload_n (pc := 65) 0 dX12_findWays_65 rfl rfl ?_
          refine jd_getR (pc := 66) (ci := 11) (k := 40) (r := (t + 36)) gX12_79 ht.1 rfl (zModel_p40 ht) dX12_findWays_66 ?_
          refine jd_aload_n (pc := 69) 0 dX12_findWays_69 rfl rfl ?_
          refine jd_getIe (pc := 70) (ci := 11) (k := 42) (e := (I3 t 42)) (uI_ne (by omega) rfl) gX12_338 ht.1 rfl dX12_findWays_70 ?_
          refine jd_iload_n (pc := 73) 3 dX12_findWays_73 rfl rfl ?_
          obtain ⟨hv8, h⟩ := h
          refine jd_iast (pc := 74) (len := 10) (zModel_a40 ht) hv8 dX12_findWays_74 ?_
          refine jd_aload_n (pc := 75) 0 dX12_findWays_75 rfl rfl ?_
          refine jd_getR (pc := 76) (ci := 11) (k := 41) (r := (t + 37)) gX12_82 ht.1 rfl (zModel_p41 ht) dX12_findWays_76 ?_
          refine jd_aload_n (pc := 79) 0 dX12_findWays_79 rfl rfl ?_
          refine jd_getIe (pc := 80) (ci := 11) (k := 42) (e := (I3 t 42)) (uI_ne (by omega) (uI_ne (by omega) rfl)) gX12_338 ht.1 rfl dX12_findWays_80 ?_
          refine jd_iconst (pc := 83) (v := 0) dX12_findWays_83 (by decide) ?_
          obtain ⟨hv9, h⟩ := h
          refine jd_iast (pc := 84) (len := 10) (zModel_a41 ht) hv9 dX12_findWays_84 ?_
          refine jd_aload_n (pc := 85) 0 dX12_findWays_85 rfl rfl ?_
          refine jd_dup (pc := 86) dX12_findWays_86 rfl ?_
          refine jd_getIe (pc := 87) (ci := 11) (k := 42) (e := (I3 t 42)) (uI_ne (by omega) (uI_ne (by omega) (uI_ne (by omega) rfl))) gX12_338 ht.1 rfl dX12_findWays_87 ?_
          refine jd_iconst (pc := 90) (v := 1) dX12_findWays_90 (by decide) ?_
          refine jd_iadd (pc := 91) dX12_findWays_91 ?_
          refine jd_putI (pc := 92) (ci := 11) (k := 42) pX12_338 ht.1 rfl rfl rfl dX12_findWays_92 ?_
          refine jd_iinc (pc := 95) (v := (x3 + 1)) 3 [(3, .int (x3 + 1)), (0, .ref (gb G + t)), (1, .int x1), (2, .int x2)] dX12_findWays_95 rfl rfl (by decide) rfl ?_
          refine jd_goto (pc := 98) 19 dX12_findWays_98 (by decide) ?_
          exact jd_lv (lv2 := [(0, .ref (gb G + t)), (1, .int x1), (2, .int x2), (3, .int (x3 + 1))]) [1, 2, 3, 0] rfl h
set_option maxRecDepth 4000 in
theorem rX12_findWays_132 {G : jdG} {n rc rs : Nat} {Z : jdL} {I : jdI} {J : jdJ} {Q : jdQ} {t : Nat} {x1 : Int32} {x2 : Int32} {u3 : Nat} {x4 : Int32} (ht : zModel Z t) (hu3 : zModel Z u3) (h : (((I t 42) ≤ x4 → Cl G mX12_groupsOf n 0 0 [.ref (gb G + u3), .int x1] Z I J (qi Z (fun v2 I1 J1 => ((¬ v2 = 0 → Jd G mX12_findWays (jdFm G Q) (n + 1) rc rs 114 [(0, .ref (gb G + t)), (1, .int x1), (2, .int (x2 + 1))] [] Z I1 J1) ∧ (v2 = 0 → Jd G mX12_findWays (jdFm G Q) (n + 1) rc rs 196 [(0, .ref (gb G + t)), (1, .int x1), (2, .int x2), (3, .ref (gb G + u3)), (4, .int 0)] [] Z (uI I1 t 43 ((I1 t 43) + 1)) J1))))) ∧ (¬ (I t 42) ≤ x4 → ((((x2 >>> (x4 &&& 31)) &&& 1) = 0 → Jd G mX12_findWays (jdFm G Q) (n + 1) rc rs 132 [(0, .ref (gb G + t)), (1, .int x1), (2, .int x2), (3, .ref (gb G + u3)), (4, .int (x4 + 1))] [] Z I J) ∧ (¬ ((x2 >>> (x4 &&& 31)) &&& 1) = 0 → (vp_in x4 10 ∧ (vp_in x4 10 ∧ Cl G mX12_knows n 0 0 [.ref (gb G + u3), .int (I (t + 35) (Int32.toNatClampNeg x4)), .int (I (t + 36) (Int32.toNatClampNeg x4)), .int 0] Z I J (qv Z (fun I5 J5 => Jd G mX12_findWays (jdFm G Q) (n + 1) rc rs 132 [(0, .ref (gb G + t)), (1, .int x1), (2, .int x2), (3, .ref (gb G + u3)), (4, .int (x4 + 1))] [] Z I5 J5))))))))) : Jd G mX12_findWays (jdFm G Q) (n + 1) rc rs 132 [(0, .ref (gb G + t)), (1, .int x1), (2, .int x2), (3, .ref (gb G + u3)), (4, .int x4)] [] Z I J := by
  refine jd_iload (pc := 132) 4 dX12_findWays_132 rfl ?_
  refine jd_aload_n (pc := 134) 0 dX12_findWays_134 rfl rfl ?_
  refine jd_getI (pc := 135) (ci := 11) (k := 42) gX12_338 ht.1 rfl dX12_findWays_135 ?_
  refine jd_icmp_ge (pc := 138) 175 dX12_findWays_138 (by decide) (fun hc => ?_) (fun hc => ?_)
  · have h := h.1 hc
    refine jd_aload_n (pc := 175) 3 dX12_findWays_175 rfl rfl ?_
    refine jd_iload_n (pc := 176) 1 dX12_findWays_176 rfl rfl ?_
    refine jd_callVi (pc := 177) (M2 := mX12_groupsOf) (id := u3) (ci := 11) (T := TX12) (N := 45) (av := [.int x1]) kX12_groupsOf sX12_groupsOf rfl hu3.1 lX12_272 rfl rfl (Nat.le_of_ble_eq_true rfl) dX12_findWays_177 h ?_
    intro v2 I1 J1 h
    refine jd_if_ne (pc := 180) 227 dX12_findWays_180 (by decide) (fun hc => ?_) (fun hc => ?_)
    · have h := h.1 hc
      refine jd_iinc (pc := 227) (v := (x2 + 1)) 2 [(2, .int (x2 + 1)), (0, .ref (gb G + t)), (1, .int x1), (3, .ref (gb G + u3)), (4, .int x4)] dX12_findWays_227 rfl rfl (by decide) rfl ?_
      refine jd_goto (pc := 230) 114 dX12_findWays_230 (by decide) ?_
      exact jd_lv (lv2 := [(0, .ref (gb G + t)), (1, .int x1), (2, .int (x2 + 1))]) [1, 2, 0] rfl h
    · have h := h.2 hc
      refine jd_aload_n (pc := 183) 0 dX12_findWays_183 rfl rfl ?_
      refine jd_dup (pc := 184) dX12_findWays_184 rfl ?_
      refine jd_getI (pc := 185) (ci := 11) (k := 43) gX12_341 ht.1 rfl dX12_findWays_185 ?_
      refine jd_iconst (pc := 188) (v := 1) dX12_findWays_188 (by decide) ?_
      refine jd_iadd (pc := 189) dX12_findWays_189 ?_
      refine jd_putI (pc := 190) (ci := 11) (k := 43) pX12_341 ht.1 rfl rfl rfl dX12_findWays_190 ?_
      refine jd_iconst (pc := 193) (v := 0) dX12_findWays_193 (by decide) ?_
      refine jd_istore (pc := 194) [(4, .int 0), (0, .ref (gb G + t)), (1, .int x1), (2, .int x2), (3, .ref (gb G + u3))] dX12_findWays_194 (by decide) rfl ?_
      exact jd_lv (lv2 := [(0, .ref (gb G + t)), (1, .int x1), (2, .int x2), (3, .ref (gb G + u3)), (4, .int 0)]) [1, 2, 3, 4, 0] rfl h
  · have h := h.2 hc
    refine jd_iload_n (pc := 141) 2 dX12_findWays_141 rfl rfl ?_
    refine jd_iload (pc := 142) 4 dX12_findWays_142 rfl ?_
    refine jd_ishr (pc := 144) dX12_findWays_144 ?_
    refine jd_iconst (pc := 145) (v := 1) dX12_findWays_145 (by decide) ?_
    refine jd_iand (pc := 146) dX12_findWays_146 ?_
    refine jd_if_eq (pc := 147) 169 dX12_findWays_147 (by decide) (fun hc => ?_) (fun hc => ?_)
    · have h := h.1 hc
      refine jd_iinc (pc := 169) (v := (x4 + 1)) 4 [(4, .int (x4 + 1)), (0, .ref (gb G + t)), (1, .int x1), (2, .int x2), (3, .ref (gb G + u3))] dX12_findWays_169 rfl rfl (by decide) rfl ?_
      refine jd_goto (pc := 172) 132 dX12_findWays_172 (by decide) ?_
      exact jd_lv (lv2 := [(0, .ref (gb G + t)), (1, .int x1), (2, .int x2), (3, .ref (gb G + u3)), (4, .int (x4 + 1))]) [1, 2, 3, 4, 0] rfl h
    · have h := h.2 hc
      refine jd_aload_n (pc := 150) 3 dX12_findWays_150 rfl rfl ?_
      refine jd_aload_n (pc := 151) 0 dX12_findWays_151 rfl rfl ?_
      refine jd_getR (pc := 152) (ci := 11) (k := 39) (r := (t + 35)) gX12_76 ht.1 rfl (zModel_p39 ht) dX12_findWays_152 ?_
      refine jd_iload (pc := 155) 4 dX12_findWays_155 rfl ?_
      obtain ⟨hv3, h⟩ := h
      refine jd_iald (pc := 157) (len := 10) (zModel_a39 ht) hv3 dX12_findWays_157 ?_
      refine jd_aload_n (pc := 158) 0 dX12_findWays_158 rfl rfl ?_
      refine jd_getR (pc := 159) (ci := 11) (k := 40) (r := (t + 36)) gX12_79 ht.1 rfl (zModel_p40 ht) dX12_findWays_159 ?_
      refine jd_iload (pc := 162) 4 dX12_findWays_162 rfl ?_
      obtain ⟨hv4, h⟩ := h
      refine jd_iald (pc := 164) (len := 10) (zModel_a40 ht) hv4 dX12_findWays_164 ?_
      refine jd_iconst (pc := 165) (v := 0) dX12_findWays_165 (by decide) ?_
      refine jd_callVv (pc := 166) (M2 := mX12_knows) (id := u3) (ci := 11) (T := TX12) (N := 45) (av := [.int (I (t + 35) (Int32.toNatClampNeg x4)), .int (I (t + 36) (Int32.toNatClampNeg x4)), .int 0]) kX12_knows sX12_knows rfl hu3.1 lX12_142 rfl rfl (Nat.le_of_ble_eq_true rfl) dX12_findWays_166 h ?_
      intro I5 J5 h
      refine jd_iinc (pc := 169) (v := (x4 + 1)) 4 [(4, .int (x4 + 1)), (0, .ref (gb G + t)), (1, .int x1), (2, .int x2), (3, .ref (gb G + u3))] dX12_findWays_169 rfl rfl (by decide) rfl ?_
      refine jd_goto (pc := 172) 132 dX12_findWays_172 (by decide) ?_
      exact jd_lv (lv2 := [(0, .ref (gb G + t)), (1, .int x1), (2, .int x2), (3, .ref (gb G + u3)), (4, .int (x4 + 1))]) [1, 2, 3, 4, 0] rfl h
set_option maxRecDepth 4000 in
theorem rX12_findWays_196 {G : jdG} {n rc rs : Nat} {Z : jdL} {I : jdI} {J : jdJ} {Q : jdQ} {u3 : Nat} {t : Nat} {x1 : Int32} {x2 : Int32} {x4 : Int32} (ht : zModel Z t) (h : (((I t 42) ≤ x4 → Jd G mX12_findWays (jdFm G Q) (n + 1) rc rs 114 [(0, .ref (gb G + t)), (1, .int x1), (2, .int (x2 + 1))] [] Z I J) ∧ (¬ (I t 42) ≤ x4 → (vp_in x4 10 ∧ (vp_in x4 10 ∧ Jd G mX12_findWays (jdFm G Q) (n + 1) rc rs 196 [(0, .ref (gb G + t)), (1, .int x1), (2, .int x2), (3, .ref (gb G + u3)), (4, .int (x4 + 1))] [] Z (uI I (t + 37) (Int32.toNatClampNeg x4) ((I (t + 37) (Int32.toNatClampNeg x4)) + ((x2 >>> (x4 &&& 31)) &&& 1))) J))))) : Jd G mX12_findWays (jdFm G Q) (n + 1) rc rs 196 [(0, .ref (gb G + t)), (1, .int x1), (2, .int x2), (3, .ref (gb G + u3)), (4, .int x4)] [] Z I J := by
  refine jd_iload (pc := 196) 4 dX12_findWays_196 rfl ?_
  refine jd_aload_n (pc := 198) 0 dX12_findWays_198 rfl rfl ?_
  refine jd_getI (pc := 199) (ci := 11) (k := 42) gX12_338 ht.1 rfl dX12_findWays_199 ?_
  refine jd_icmp_ge (pc := 202) 227 dX12_findWays_202 (by decide) (fun hc => ?_) (fun hc => ?_)
  · have h := h.1 hc
    refine jd_iinc (pc := 227) (v := (x2 + 1)) 2 [(2, .int (x2 + 1)), (0, .ref (gb G + t)), (1, .int x1), (3, .ref (gb G + u3)), (4, .int x4)] dX12_findWays_227 rfl rfl (by decide) rfl ?_
    refine jd_goto (pc := 230) 114 dX12_findWays_230 (by decide) ?_
    exact jd_lv (lv2 := [(0, .ref (gb G + t)), (1, .int x1), (2, .int (x2 + 1))]) [1, 2, 0] rfl h
  · have h := h.2 hc
    refine jd_aload_n (pc := 205) 0 dX12_findWays_205 rfl rfl ?_
    refine jd_getR (pc := 206) (ci := 11) (k := 41) (r := (t + 37)) gX12_82 ht.1 rfl (zModel_p41 ht) dX12_findWays_206 ?_
    refine jd_iload (pc := 209) 4 dX12_findWays_209 rfl ?_
    refine jd_dup2 (pc := 211) dX12_findWays_211 rfl rfl ?_
    obtain ⟨hv1, h⟩ := h
    refine jd_iald (pc := 212) (len := 10) (zModel_a41 ht) hv1 dX12_findWays_212 ?_
    refine jd_iload_n (pc := 213) 2 dX12_findWays_213 rfl rfl ?_
    refine jd_iload (pc := 214) 4 dX12_findWays_214 rfl ?_
    refine jd_ishr (pc := 216) dX12_findWays_216 ?_
    refine jd_iconst (pc := 217) (v := 1) dX12_findWays_217 (by decide) ?_
    refine jd_iand (pc := 218) dX12_findWays_218 ?_
    refine jd_iadd (pc := 219) dX12_findWays_219 ?_
    obtain ⟨hv2, h⟩ := h
    refine jd_iast (pc := 220) (len := 10) (zModel_a41 ht) hv2 dX12_findWays_220 ?_
    refine jd_iinc (pc := 221) (v := (x4 + 1)) 4 [(4, .int (x4 + 1)), (0, .ref (gb G + t)), (1, .int x1), (2, .int x2), (3, .ref (gb G + u3))] dX12_findWays_221 rfl rfl (by decide) rfl ?_
    refine jd_goto (pc := 224) 196 dX12_findWays_224 (by decide) ?_
    exact jd_lv (lv2 := [(0, .ref (gb G + t)), (1, .int x1), (2, .int x2), (3, .ref (gb G + u3)), (4, .int (x4 + 1))]) [1, 2, 3, 4, 0] rfl h
theorem eX12_findWays {G : jdG} {n mc ms : Nat} {Z : jdL} {I : jdI} {J : jdJ} {Q : jdQ} {t : Nat} {x1 : Int32} (ht : zModel Z t) (h : Jd G mX12_findWays (jdFm G Q) (n + 1) mc ms 7 [(0, .ref (gb G + t)), (1, .int x1), (2, .int 0)] [] Z (uI I t 42 0) J) : Cl G mX12_findWays (n + 1) mc ms [.ref (gb G + t), .int x1] Z I J Q :=
  Cl.of (by decide +kernel) (Nat.le_of_ble_eq_true rfl) (rX12_findWays_0 ht h)
set_option maxRecDepth 4000 in
theorem rX12_fits_0 {G : jdG} {n rc rs : Nat} {Z : jdL} {I : jdI} {J : jdJ} {Q : jdQ} {t : Nat} {x1 : Int32} (ht : zModel Z t) (h : Cl G mX12_isSet n 0 0 [.ref (gb G + t), .int x1] Z I J (qi Z (fun v2 I1 J1 => ((v2 = 0 → Cl G mX12_refuse n 0 0 [.ref (gb G + t), .int (-2)] Z I1 J1 (qi Z (fun v4 I3 J3 => Q (some (.int v4)) Z I3 J3))) ∧ (¬ v2 = 0 → Cl G mX12_bits n 0 0 [.int x1] Z I1 J1 (qi Z (fun v6 I5 J5 => ((v6 ≤ 5 → (∃ mc7 ms7 rc7 rs7 : Nat, mc7 + rc7 ≤ rc ∧ ms7 + rs7 ≤ rs ∧ Cl G mX12_findWays n mc7 ms7 [.ref (gb G + t), .int x1] Z I5 J5 (fun r7 Z7 I7 J7 => r7 = none ∧ (zModel Z7 t ∧ Q (some (.int (I7 t 43))) Z7 I7 J7)))) ∧ (¬ v6 ≤ 5 → Cl G mX12_refuse n 0 0 [.ref (gb G + t), .int (-2)] Z I5 J5 (qi Z (fun v9 I8 J8 => Q (some (.int v9)) Z I8 J8))))))))))) : Jd G mX12_fits (jdFm G Q) (n + 1) rc rs 0 [(0, .ref (gb G + t)), (1, .int x1)] [] Z I J := by
  refine jd_aload_n (pc := 0) 0 dX12_fits_0 rfl rfl ?_
  refine jd_iload_n (pc := 1) 1 dX12_fits_1 rfl rfl ?_
  refine jd_callVi (pc := 2) (M2 := mX12_isSet) (id := t) (ci := 11) (T := TX12) (N := 45) (av := [.int x1]) kX12_isSet sX12_isSet rfl ht.1 lX12_263 rfl rfl (Nat.le_of_ble_eq_true rfl) dX12_fits_2 h ?_
  intro v2 I1 J1 h
  refine jd_if_eq (pc := 5) 16 dX12_fits_5 (by decide) (fun hc => ?_) (fun hc => ?_)
  · have h := h.1 hc
    refine jd_aload_n (pc := 16) 0 dX12_fits_16 rfl rfl ?_
    refine jd_bipush (pc := 17) (v := (-2)) dX12_fits_17 (by decide) ?_
    refine jd_callVi (pc := 19) (M2 := mX12_refuse) (id := t) (ci := 11) (T := TX12) (N := 45) (av := [.int (-2)]) kX12_refuse sX12_refuse rfl ht.1 lX12_102 rfl rfl (Nat.le_of_ble_eq_true rfl) dX12_fits_19 h ?_
    intro v4 I3 J3 h
    exact jd_iret (pc := 22) (ty := .int) rfl rfl dX12_fits_22 h
  · have h := h.2 hc
    refine jd_iload_n (pc := 8) 1 dX12_fits_8 rfl rfl ?_
    refine jd_callSi (pc := 9) (M2 := mX12_bits) (av := [.int x1]) kX12_bits sX12_bits lX12_254 rfl rfl (Nat.le_of_ble_eq_true rfl) dX12_fits_9 h ?_
    intro v6 I5 J5 h
    refine jd_iconst (pc := 12) (v := 5) dX12_fits_12 (by decide) ?_
    refine jd_icmp_le (pc := 13) 23 dX12_fits_13 (by decide) (fun hc => ?_) (fun hc => ?_)
    · have h := h.1 hc
      refine jd_aload_n (pc := 23) 0 dX12_fits_23 rfl rfl ?_
      refine jd_iload_n (pc := 24) 1 dX12_fits_24 rfl rfl ?_
      obtain ⟨mc7, ms7, rc7, rs7, hb1, hb2, h⟩ := h
      refine jd_callV (pc := 25) (M2 := mX12_findWays) (id := t) (ci := 11) (T := TX12) (N := 45) (rc2 := rc7) (rs2 := rs7) (av := [.int x1]) kX12_findWays sX12_findWays rfl ht.1 lX12_344 rfl rfl (Nat.le_of_ble_eq_true rfl) hb1 hb2 dX12_fits_25 (Cl.mono h (fun r7 Z7 I7 J7 h => ?_))
      obtain ⟨rfl, h⟩ := h
      obtain ⟨ht, h⟩ := h
      refine jd_aload_n (pc := 28) 0 dX12_fits_28 rfl rfl ?_
      refine jd_getI (pc := 29) (ci := 11) (k := 43) gX12_341 ht.1 rfl dX12_fits_29 ?_
      exact jd_iret (pc := 32) (ty := .int) rfl rfl dX12_fits_32 h
    · have h := h.2 hc
      refine jd_aload_n (pc := 16) 0 dX12_fits_16 rfl rfl ?_
      refine jd_bipush (pc := 17) (v := (-2)) dX12_fits_17 (by decide) ?_
      refine jd_callVi (pc := 19) (M2 := mX12_refuse) (id := t) (ci := 11) (T := TX12) (N := 45) (av := [.int (-2)]) kX12_refuse sX12_refuse rfl ht.1 lX12_102 rfl rfl (Nat.le_of_ble_eq_true rfl) dX12_fits_19 h ?_
      intro v9 I8 J8 h
      exact jd_iret (pc := 22) (ty := .int) rfl rfl dX12_fits_22 h
theorem eX12_fits {G : jdG} {n mc ms : Nat} {Z : jdL} {I : jdI} {J : jdJ} {Q : jdQ} {t : Nat} {x1 : Int32} (ht : zModel Z t) (h : Cl G mX12_isSet n 0 0 [.ref (gb G + t), .int x1] Z I J (qi Z (fun v2 I1 J1 => ((v2 = 0 → Cl G mX12_refuse n 0 0 [.ref (gb G + t), .int (-2)] Z I1 J1 (qi Z (fun v4 I3 J3 => Q (some (.int v4)) Z I3 J3))) ∧ (¬ v2 = 0 → Cl G mX12_bits n 0 0 [.int x1] Z I1 J1 (qi Z (fun v6 I5 J5 => ((v6 ≤ 5 → (∃ mc7 ms7 rc7 rs7 : Nat, mc7 + rc7 ≤ mc ∧ ms7 + rs7 ≤ ms ∧ Cl G mX12_findWays n mc7 ms7 [.ref (gb G + t), .int x1] Z I5 J5 (fun r7 Z7 I7 J7 => r7 = none ∧ (zModel Z7 t ∧ Q (some (.int (I7 t 43))) Z7 I7 J7)))) ∧ (¬ v6 ≤ 5 → Cl G mX12_refuse n 0 0 [.ref (gb G + t), .int (-2)] Z I5 J5 (qi Z (fun v9 I8 J8 => Q (some (.int v9)) Z I8 J8))))))))))) : Cl G mX12_fits (n + 1) mc ms [.ref (gb G + t), .int x1] Z I J Q :=
  Cl.of (by decide +kernel) (Nat.le_of_ble_eq_true rfl) (rX12_fits_0 ht h)
set_option maxRecDepth 4000 in
theorem rX12_sure_0 {G : jdG} {n rc rs : Nat} {Z : jdL} {I : jdI} {J : jdJ} {Q : jdQ} {t : Nat} {x1 : Int32} (ht : zModel Z t) (h : Cl G mX12_isSet n 0 0 [.ref (gb G + t), .int x1] Z I J (qi Z (fun v2 I1 J1 => ((v2 = 0 → Cl G mX12_refuse n 0 0 [.ref (gb G + t), .int (-2)] Z I1 J1 (qi Z (fun v4 I3 J3 => Q (some (.int v4)) Z I3 J3))) ∧ (¬ v2 = 0 → Cl G mX12_bits n 0 0 [.int x1] Z I1 J1 (qi Z (fun v6 I5 J5 => ((v6 ≤ 5 → (∃ mc7 ms7 rc7 rs7 : Nat, mc7 + rc7 ≤ rc ∧ ms7 + rs7 ≤ rs ∧ Cl G mX12_findWays n mc7 ms7 [.ref (gb G + t), .int x1] Z I5 J5 (fun r7 Z7 I7 J7 => r7 = none ∧ (zModel Z7 t ∧ ((¬ (I7 t 42) = 0 → Jd G mX12_sure (jdFm G Q) (n + 1) rc7 rs7 46 [(0, .ref (gb G + t)), (1, .int x1), (2, .int 0), (3, .int 1)] [] Z7 I7 J7) ∧ ((I7 t 42) = 0 → Cl G mX12_refuse n 0 0 [.ref (gb G + t), .int (-5)] Z7 I7 J7 (qi Z7 (fun v9 I8 J8 => Q (some (.int v9)) Z7 I8 J8)))))))) ∧ (¬ v6 ≤ 5 → Cl G mX12_refuse n 0 0 [.ref (gb G + t), .int (-2)] Z I5 J5 (qi Z (fun v11 I10 J10 => Q (some (.int v11)) Z I10 J10))))))))))) : Jd G mX12_sure (jdFm G Q) (n + 1) rc rs 0 [(0, .ref (gb G + t)), (1, .int x1)] [] Z I J := by
  refine jd_aload_n (pc := 0) 0 dX12_sure_0 rfl rfl ?_
  refine jd_iload_n (pc := 1) 1 dX12_sure_1 rfl rfl ?_
  refine jd_callVi (pc := 2) (M2 := mX12_isSet) (id := t) (ci := 11) (T := TX12) (N := 45) (av := [.int x1]) kX12_isSet sX12_isSet rfl ht.1 lX12_263 rfl rfl (Nat.le_of_ble_eq_true rfl) dX12_sure_2 h ?_
  intro v2 I1 J1 h
  refine jd_if_eq (pc := 5) 16 dX12_sure_5 (by decide) (fun hc => ?_) (fun hc => ?_)
  · have h := h.1 hc
    refine jd_aload_n (pc := 16) 0 dX12_sure_16 rfl rfl ?_
    refine jd_bipush (pc := 17) (v := (-2)) dX12_sure_17 (by decide) ?_
    refine jd_callVi (pc := 19) (M2 := mX12_refuse) (id := t) (ci := 11) (T := TX12) (N := 45) (av := [.int (-2)]) kX12_refuse sX12_refuse rfl ht.1 lX12_102 rfl rfl (Nat.le_of_ble_eq_true rfl) dX12_sure_19 h ?_
    intro v4 I3 J3 h
    exact jd_iret (pc := 22) (ty := .int) rfl rfl dX12_sure_22 h
  · have h := h.2 hc
    refine jd_iload_n (pc := 8) 1 dX12_sure_8 rfl rfl ?_
    refine jd_callSi (pc := 9) (M2 := mX12_bits) (av := [.int x1]) kX12_bits sX12_bits lX12_254 rfl rfl (Nat.le_of_ble_eq_true rfl) dX12_sure_9 h ?_
    intro v6 I5 J5 h
    refine jd_iconst (pc := 12) (v := 5) dX12_sure_12 (by decide) ?_
    refine jd_icmp_le (pc := 13) 23 dX12_sure_13 (by decide) (fun hc => ?_) (fun hc => ?_)
    · have h := h.1 hc
      refine jd_aload_n (pc := 23) 0 dX12_sure_23 rfl rfl ?_
      refine jd_iload_n (pc := 24) 1 dX12_sure_24 rfl rfl ?_
      obtain ⟨mc7, ms7, rc7, rs7, hb1, hb2, h⟩ := h
      refine jd_callV (pc := 25) (M2 := mX12_findWays) (id := t) (ci := 11) (T := TX12) (N := 45) (rc2 := rc7) (rs2 := rs7) (av := [.int x1]) kX12_findWays sX12_findWays rfl ht.1 lX12_344 rfl rfl (Nat.le_of_ble_eq_true rfl) hb1 hb2 dX12_sure_25 (Cl.mono h (fun r7 Z7 I7 J7 h => ?_))
      obtain ⟨rfl, h⟩ := h
      obtain ⟨ht, h⟩ := h
      refine jd_aload_n (pc := 28) 0 dX12_sure_28 rfl rfl ?_
      refine jd_getI (pc := 29) (ci := 11) (k := 42) gX12_338 ht.1 rfl dX12_sure_29 ?_
      refine jd_if_ne (pc := 32) 42 dX12_sure_32 (by decide) (fun hc => ?_) (fun hc => ?_)
      · have h := h.1 hc
        refine jd_iconst (pc := 42) (v := 0) dX12_sure_42 (by decide) ?_
        refine jd_istore_n (pc := 43) [(2, .int 0), (0, .ref (gb G + t)), (1, .int x1)] dX12_sure_43 rfl (by decide) rfl ?_
        refine jd_iconst (pc := 44) (v := 1) dX12_sure_44 (by decide) ?_
        refine jd_istore_n (pc := 45) [(3, .int 1), (2, .int 0), (0, .ref (gb G + t)), (1, .int x1)] dX12_sure_45 rfl (by decide) rfl ?_
        exact jd_lv (lv2 := [(0, .ref (gb G + t)), (1, .int x1), (2, .int 0), (3, .int 1)]) [2, 3, 1, 0] rfl h
      · have h := h.2 hc
        refine jd_aload_n (pc := 35) 0 dX12_sure_35 rfl rfl ?_
        refine jd_bipush (pc := 36) (v := (-5)) dX12_sure_36 (by decide) ?_
        refine jd_callVi (pc := 38) (M2 := mX12_refuse) (id := t) (ci := 11) (T := TX12) (N := 45) (av := [.int (-5)]) kX12_refuse sX12_refuse rfl ht.1 lX12_102 rfl rfl (Nat.le_of_ble_eq_true rfl) dX12_sure_38 h ?_
        intro v9 I8 J8 h
        exact jd_iret (pc := 41) (ty := .int) rfl rfl dX12_sure_41 h
    · have h := h.2 hc
      refine jd_aload_n (pc := 16) 0 dX12_sure_16 rfl rfl ?_
      refine jd_bipush (pc := 17) (v := (-2)) dX12_sure_17 (by decide) ?_
      refine jd_callVi (pc := 19) (M2 := mX12_refuse) (id := t) (ci := 11) (T := TX12) (N := 45) (av := [.int (-2)]) kX12_refuse sX12_refuse rfl ht.1 lX12_102 rfl rfl (Nat.le_of_ble_eq_true rfl) dX12_sure_19 h ?_
      intro v11 I10 J10 h
      exact jd_iret (pc := 22) (ty := .int) rfl rfl dX12_sure_22 h
set_option maxRecDepth 4000 in
theorem rX12_sure_46 {G : jdG} {n rc rs : Nat} {Z : jdL} {I : jdI} {J : jdJ} {Q : jdQ} {t : Nat} {x1 : Int32} {x2 : Int32} {x3 : Int32} (ht : zModel Z t) (h : (((I t 42) ≤ x3 → (vp_in x2 10 ∧ (vp_in x2 10 ∧ Q (some (.int ((10 * (I (t + 35) (Int32.toNatClampNeg x2))) + (I (t + 36) (Int32.toNatClampNeg x2))))) Z I J))) ∧ (¬ (I t 42) ≤ x3 → (vp_in x3 10 ∧ (vp_in x2 10 ∧ (((I (t + 37) (Int32.toNatClampNeg x3)) ≤ (I (t + 37) (Int32.toNatClampNeg x2)) → Jd G mX12_sure (jdFm G Q) (n + 1) rc rs 46 [(0, .ref (gb G + t)), (1, .int x1), (2, .int x2), (3, .int (x3 + 1))] [] Z I J) ∧ (¬ (I (t + 37) (Int32.toNatClampNeg x3)) ≤ (I (t + 37) (Int32.toNatClampNeg x2)) → Jd G mX12_sure (jdFm G Q) (n + 1) rc rs 46 [(0, .ref (gb G + t)), (1, .int x1), (2, .int x3), (3, .int (x3 + 1))] [] Z I J))))))) : Jd G mX12_sure (jdFm G Q) (n + 1) rc rs 46 [(0, .ref (gb G + t)), (1, .int x1), (2, .int x2), (3, .int x3)] [] Z I J := by
  refine jd_iload_n (pc := 46) 3 dX12_sure_46 rfl rfl ?_
  refine jd_aload_n (pc := 47) 0 dX12_sure_47 rfl rfl ?_
  refine jd_getI (pc := 48) (ci := 11) (k := 42) gX12_338 ht.1 rfl dX12_sure_48 ?_
  refine jd_icmp_ge (pc := 51) 81 dX12_sure_51 (by decide) (fun hc => ?_) (fun hc => ?_)
  · have h := h.1 hc
    refine jd_bipush (pc := 81) (v := 10) dX12_sure_81 (by decide) ?_
    refine jd_aload_n (pc := 83) 0 dX12_sure_83 rfl rfl ?_
    refine jd_getR (pc := 84) (ci := 11) (k := 39) (r := (t + 35)) gX12_76 ht.1 rfl (zModel_p39 ht) dX12_sure_84 ?_
    refine jd_iload_n (pc := 87) 2 dX12_sure_87 rfl rfl ?_
    obtain ⟨hv1, h⟩ := h
    refine jd_iald (pc := 88) (len := 10) (zModel_a39 ht) hv1 dX12_sure_88 ?_
    refine jd_imul (pc := 89) dX12_sure_89 ?_
    refine jd_aload_n (pc := 90) 0 dX12_sure_90 rfl rfl ?_
    refine jd_getR (pc := 91) (ci := 11) (k := 40) (r := (t + 36)) gX12_79 ht.1 rfl (zModel_p40 ht) dX12_sure_91 ?_
    refine jd_iload_n (pc := 94) 2 dX12_sure_94 rfl rfl ?_
    obtain ⟨hv2, h⟩ := h
    refine jd_iald (pc := 95) (len := 10) (zModel_a40 ht) hv2 dX12_sure_95 ?_
    refine jd_iadd (pc := 96) dX12_sure_96 ?_
    exact jd_iret (pc := 97) (ty := .int) rfl rfl dX12_sure_97 h
  · have h := h.2 hc
    refine jd_aload_n (pc := 54) 0 dX12_sure_54 rfl rfl ?_
    refine jd_getR (pc := 55) (ci := 11) (k := 41) (r := (t + 37)) gX12_82 ht.1 rfl (zModel_p41 ht) dX12_sure_55 ?_
    refine jd_iload_n (pc := 58) 3 dX12_sure_58 rfl rfl ?_
    obtain ⟨hv3, h⟩ := h
    refine jd_iald (pc := 59) (len := 10) (zModel_a41 ht) hv3 dX12_sure_59 ?_
    refine jd_aload_n (pc := 60) 0 dX12_sure_60 rfl rfl ?_
    refine jd_getR (pc := 61) (ci := 11) (k := 41) (r := (t + 37)) gX12_82 ht.1 rfl (zModel_p41 ht) dX12_sure_61 ?_
    refine jd_iload_n (pc := 64) 2 dX12_sure_64 rfl rfl ?_
    obtain ⟨hv4, h⟩ := h
    refine jd_iald (pc := 65) (len := 10) (zModel_a41 ht) hv4 dX12_sure_65 ?_
    refine jd_icmp_le (pc := 66) 73 dX12_sure_66 (by decide) (fun hc => ?_) (fun hc => ?_)
    · have h := h.1 hc
      refine jd_iload_n (pc := 73) 2 dX12_sure_73 rfl rfl ?_
      refine jd_istore_n (pc := 74) [(2, .int x2), (0, .ref (gb G + t)), (1, .int x1), (3, .int x3)] dX12_sure_74 rfl (by decide) rfl ?_
      refine jd_iinc (pc := 75) (v := (x3 + 1)) 3 [(3, .int (x3 + 1)), (2, .int x2), (0, .ref (gb G + t)), (1, .int x1)] dX12_sure_75 rfl rfl (by decide) rfl ?_
      refine jd_goto (pc := 78) 46 dX12_sure_78 (by decide) ?_
      exact jd_lv (lv2 := [(0, .ref (gb G + t)), (1, .int x1), (2, .int x2), (3, .int (x3 + 1))]) [2, 3, 1, 0] rfl h
    · have h := h.2 hc
      refine jd_iload_n (pc := 69) 3 dX12_sure_69 rfl rfl ?_
      refine jd_goto (pc := 70) 74 dX12_sure_70 (by decide) ?_
      refine jd_istore_n (pc := 74) [(2, .int x3), (0, .ref (gb G + t)), (1, .int x1), (3, .int x3)] dX12_sure_74 rfl (by decide) rfl ?_
      refine jd_iinc (pc := 75) (v := (x3 + 1)) 3 [(3, .int (x3 + 1)), (2, .int x3), (0, .ref (gb G + t)), (1, .int x1)] dX12_sure_75 rfl rfl (by decide) rfl ?_
      refine jd_goto (pc := 78) 46 dX12_sure_78 (by decide) ?_
      exact jd_lv (lv2 := [(0, .ref (gb G + t)), (1, .int x1), (2, .int x3), (3, .int (x3 + 1))]) [2, 3, 1, 0] rfl h
theorem eX12_sure {G : jdG} {n mc ms : Nat} {Z : jdL} {I : jdI} {J : jdJ} {Q : jdQ} {t : Nat} {x1 : Int32} (ht : zModel Z t) (h : Cl G mX12_isSet n 0 0 [.ref (gb G + t), .int x1] Z I J (qi Z (fun v2 I1 J1 => ((v2 = 0 → Cl G mX12_refuse n 0 0 [.ref (gb G + t), .int (-2)] Z I1 J1 (qi Z (fun v4 I3 J3 => Q (some (.int v4)) Z I3 J3))) ∧ (¬ v2 = 0 → Cl G mX12_bits n 0 0 [.int x1] Z I1 J1 (qi Z (fun v6 I5 J5 => ((v6 ≤ 5 → (∃ mc7 ms7 rc7 rs7 : Nat, mc7 + rc7 ≤ mc ∧ ms7 + rs7 ≤ ms ∧ Cl G mX12_findWays n mc7 ms7 [.ref (gb G + t), .int x1] Z I5 J5 (fun r7 Z7 I7 J7 => r7 = none ∧ (zModel Z7 t ∧ ((¬ (I7 t 42) = 0 → Jd G mX12_sure (jdFm G Q) (n + 1) rc7 rs7 46 [(0, .ref (gb G + t)), (1, .int x1), (2, .int 0), (3, .int 1)] [] Z7 I7 J7) ∧ ((I7 t 42) = 0 → Cl G mX12_refuse n 0 0 [.ref (gb G + t), .int (-5)] Z7 I7 J7 (qi Z7 (fun v9 I8 J8 => Q (some (.int v9)) Z7 I8 J8)))))))) ∧ (¬ v6 ≤ 5 → Cl G mX12_refuse n 0 0 [.ref (gb G + t), .int (-2)] Z I5 J5 (qi Z (fun v11 I10 J10 => Q (some (.int v11)) Z I10 J10))))))))))) : Cl G mX12_sure (n + 1) mc ms [.ref (gb G + t), .int x1] Z I J Q :=
  Cl.of (by decide +kernel) (Nat.le_of_ble_eq_true rfl) (rX12_sure_0 ht h)
set_option maxRecDepth 4000 in
theorem rX12_noDay_0 {G : jdG} {n rc rs : Nat} {Z : jdL} {I : jdI} {J : jdJ} {K : Int32 → jdI → jdJ → Prop} {t : Nat} {x1 : Int32} {x2 : Int32} (ht : zModel Z t) (h : Cl G mX12_in n 0 0 [.long (Int32.toInt64 x1), .long 0, .long 7] Z I J (qi Z (fun v2 I1 J1 => ((v2 = 0 → Cl G mX12_refuse n 0 0 [.ref (gb G + t), .int (-2)] Z I1 J1 (qi Z (fun v4 I3 J3 => K v4 I3 J3))) ∧ (¬ v2 = 0 → Cl G mX12_in n 0 0 [.long (Int32.toInt64 x2), .long 0, .long 7] Z I1 J1 (qi Z (fun v6 I5 J5 => ((¬ v6 = 0 → Cl G mX12_noRow n 0 0 [.ref (gb G + t), .int x1] Z I5 J5 (qi Z (fun v8 I7 J7 => ((v8 = 0 → (vp_in x1 8 ∧ ((x2 ≤ (I7 (t + 3) (Int32.toNatClampNeg x1)) → K 0 I7 J7) ∧ (¬ x2 ≤ (I7 (t + 3) (Int32.toNatClampNeg x1)) → Cl G mX12_refuse n 0 0 [.ref (gb G + t), .int (-2)] Z I7 J7 (qi Z (fun v11 I10 J10 => K v11 I10 J10)))))) ∧ (¬ v8 = 0 → K v8 I7 J7))))) ∧ (v6 = 0 → Cl G mX12_refuse n 0 0 [.ref (gb G + t), .int (-2)] Z I5 J5 (qi Z (fun v13 I12 J12 => K v13 I12 J12))))))))))) : Jd G mX12_noDay (jdFm G (qi Z K)) (n + 1) rc rs 0 [(0, .ref (gb G + t)), (1, .int x1), (2, .int x2)] [] Z I J := by
  refine jd_iload_n (pc := 0) 1 dX12_noDay_0 rfl rfl ?_
  refine jd_i2l (pc := 1) dX12_noDay_1 ?_
  refine jd_lconst (pc := 2) (v := 0) dX12_noDay_2 (by decide) ?_
  refine jd_ldc2 (pc := 3) (v := 7) qX12_96 dX12_noDay_3 ?_
  refine jd_callSi (pc := 6) (M2 := mX12_in) (av := [.long (Int32.toInt64 x1), .long 0, .long 7]) kX12_in sX12_in lX12_88 rfl rfl (Nat.le_of_ble_eq_true rfl) dX12_noDay_6 h ?_
  intro v2 I1 J1 h
  refine jd_if_eq (pc := 9) 24 dX12_noDay_9 (by decide) (fun hc => ?_) (fun hc => ?_)
  · have h := h.1 hc
    refine jd_aload_n (pc := 24) 0 dX12_noDay_24 rfl rfl ?_
    refine jd_bipush (pc := 25) (v := (-2)) dX12_noDay_25 (by decide) ?_
    refine jd_callVi (pc := 27) (M2 := mX12_refuse) (id := t) (ci := 11) (T := TX12) (N := 45) (av := [.int (-2)]) kX12_refuse sX12_refuse rfl ht.1 lX12_102 rfl rfl (Nat.le_of_ble_eq_true rfl) dX12_noDay_27 h ?_
    intro v4 I3 J3 h
    exact jd_iretK (pc := 30) rfl rfl dX12_noDay_30 h
  · have h := h.2 hc
    refine jd_iload_n (pc := 12) 2 dX12_noDay_12 rfl rfl ?_
    refine jd_i2l (pc := 13) dX12_noDay_13 ?_
    refine jd_lconst (pc := 14) (v := 0) dX12_noDay_14 (by decide) ?_
    refine jd_ldc2 (pc := 15) (v := 7) qX12_96 dX12_noDay_15 ?_
    refine jd_callSi (pc := 18) (M2 := mX12_in) (av := [.long (Int32.toInt64 x2), .long 0, .long 7]) kX12_in sX12_in lX12_88 rfl rfl (Nat.le_of_ble_eq_true rfl) dX12_noDay_18 h ?_
    intro v6 I5 J5 h
    refine jd_if_ne (pc := 21) 31 dX12_noDay_21 (by decide) (fun hc => ?_) (fun hc => ?_)
    · have h := h.1 hc
      refine jd_aload_n (pc := 31) 0 dX12_noDay_31 rfl rfl ?_
      refine jd_iload_n (pc := 32) 1 dX12_noDay_32 rfl rfl ?_
      refine jd_callVi (pc := 33) (M2 := mX12_noRow) (id := t) (ci := 11) (T := TX12) (N := 45) (av := [.int x1]) kX12_noRow sX12_noRow rfl ht.1 lX12_106 rfl rfl (Nat.le_of_ble_eq_true rfl) dX12_noDay_33 h ?_
      intro v8 I7 J7 h
      refine jd_istore_n (pc := 36) [(3, .int v8), (0, .ref (gb G + t)), (1, .int x1), (2, .int x2)] dX12_noDay_36 rfl (by decide) rfl ?_
      refine jd_iload_n (pc := 37) 0 dX12_noDay_37 rfl rfl ?_
      refine jd_if_eq (pc := 38) 43 dX12_noDay_38 (by decide) (fun hc => ?_) (fun hc => ?_)
      · have h := h.1 hc
        refine jd_aload_n (pc := 43) 1 dX12_noDay_43 rfl rfl ?_
        refine jd_getR (pc := 44) (ci := 11) (k := 2) (r := (t + 3)) gX12_16 ht.1 rfl (zModel_p2 ht) dX12_noDay_44 ?_
        refine jd_iload_n (pc := 47) 2 dX12_noDay_47 rfl rfl ?_
        obtain ⟨hv9, h⟩ := h
        refine jd_iald (pc := 48) (len := 8) (zModel_a2 ht) hv9 dX12_noDay_48 ?_
        refine jd_iload_n (pc := 49) 3 dX12_noDay_49 rfl rfl ?_
        refine jd_icmp_ge (pc := 50) 62 dX12_noDay_50 (by decide) (fun hc => ?_) (fun hc => ?_)
        · have h := h.1 hc
          refine jd_iconst (pc := 62) (v := 0) dX12_noDay_62 (by decide) ?_
          exact jd_iretK (pc := 63) rfl rfl dX12_noDay_63 h
        · have h := h.2 hc
          refine jd_aload_n (pc := 53) 1 dX12_noDay_53 rfl rfl ?_
          refine jd_bipush (pc := 54) (v := (-2)) dX12_noDay_54 (by decide) ?_
          refine jd_callVi (pc := 56) (M2 := mX12_refuse) (id := t) (ci := 11) (T := TX12) (N := 45) (av := [.int (-2)]) kX12_refuse sX12_refuse rfl ht.1 lX12_102 rfl rfl (Nat.le_of_ble_eq_true rfl) dX12_noDay_56 h ?_
          intro v11 I10 J10 h
          refine jd_goto (pc := 59) 63 dX12_noDay_59 (by decide) ?_
          exact jd_iretK (pc := 63) rfl rfl dX12_noDay_63 h
      · have h := h.2 hc
        refine jd_iload_n (pc := 41) 0 dX12_noDay_41 rfl rfl ?_
        exact jd_iretK (pc := 42) rfl rfl dX12_noDay_42 h
    · have h := h.2 hc
      refine jd_aload_n (pc := 24) 0 dX12_noDay_24 rfl rfl ?_
      refine jd_bipush (pc := 25) (v := (-2)) dX12_noDay_25 (by decide) ?_
      refine jd_callVi (pc := 27) (M2 := mX12_refuse) (id := t) (ci := 11) (T := TX12) (N := 45) (av := [.int (-2)]) kX12_refuse sX12_refuse rfl ht.1 lX12_102 rfl rfl (Nat.le_of_ble_eq_true rfl) dX12_noDay_27 h ?_
      intro v13 I12 J12 h
      exact jd_iretK (pc := 30) rfl rfl dX12_noDay_30 h
theorem eX12_noDay {G : jdG} {n : Nat} {Z : jdL} {I : jdI} {J : jdJ} {K : Int32 → jdI → jdJ → Prop} {t : Nat} {x1 : Int32} {x2 : Int32} (ht : zModel Z t) (h : Cl G mX12_in n 0 0 [.long (Int32.toInt64 x1), .long 0, .long 7] Z I J (qi Z (fun v2 I1 J1 => ((v2 = 0 → Cl G mX12_refuse n 0 0 [.ref (gb G + t), .int (-2)] Z I1 J1 (qi Z (fun v4 I3 J3 => K v4 I3 J3))) ∧ (¬ v2 = 0 → Cl G mX12_in n 0 0 [.long (Int32.toInt64 x2), .long 0, .long 7] Z I1 J1 (qi Z (fun v6 I5 J5 => ((¬ v6 = 0 → Cl G mX12_noRow n 0 0 [.ref (gb G + t), .int x1] Z I5 J5 (qi Z (fun v8 I7 J7 => ((v8 = 0 → (vp_in x1 8 ∧ ((x2 ≤ (I7 (t + 3) (Int32.toNatClampNeg x1)) → K 0 I7 J7) ∧ (¬ x2 ≤ (I7 (t + 3) (Int32.toNatClampNeg x1)) → Cl G mX12_refuse n 0 0 [.ref (gb G + t), .int (-2)] Z I7 J7 (qi Z (fun v11 I10 J10 => K v11 I10 J10)))))) ∧ (¬ v8 = 0 → K v8 I7 J7))))) ∧ (v6 = 0 → Cl G mX12_refuse n 0 0 [.ref (gb G + t), .int (-2)] Z I5 J5 (qi Z (fun v13 I12 J12 => K v13 I12 J12))))))))))) : Cl G mX12_noDay (n + 1) 0 0 [.ref (gb G + t), .int x1, .int x2] Z I J (qi Z K) :=
  Cl.of (by decide +kernel) (Nat.le_of_ble_eq_true rfl) (rX12_noDay_0 ht h)
set_option maxRecDepth 4000 in
theorem rX12_wrongCoach_0 {G : jdG} {n rc rs : Nat} {Z : jdL} {I : jdI} {J : jdJ} {K : Int32 → jdI → jdJ → Prop} {t : Nat} {u1 : Nat} {n1 : Nat} {x2 : Int32} (ht : zModel Z t) (hu1 : Z.1 u1 = some (1, n1)) (h : Jd G mX12_wrongCoach (jdFm G (qi Z K)) (n + 1) rc rs 7 [(0, .ref (gb G + t)), (1, .ref (gb G + u1)), (2, .int x2), (3, .int 0)] [] Z (uI I t 44 0) J) : Jd G mX12_wrongCoach (jdFm G (qi Z K)) (n + 1) rc rs 0 [(0, .ref (gb G + t)), (1, .ref (gb G + u1)), (2, .int x2)] [] Z I J := by
  refine jd_aload_n (pc := 0) 0 dX12_wrongCoach_0 rfl rfl ?_
  refine jd_iconst (pc := 1) (v := 0) dX12_wrongCoach_1 (by decide) ?_
  refine jd_putI (pc := 2) (ci := 11) (k := 44) pX12_348 ht.1 rfl rfl rfl dX12_wrongCoach_2 ?_
  refine jd_iconst (pc := 5) (v := 0) dX12_wrongCoach_5 (by decide) ?_
  refine jd_istore_n (pc := 6) [(3, .int 0), (0, .ref (gb G + t)), (1, .ref (gb G + u1)), (2, .int x2)] dX12_wrongCoach_6 rfl (by decide) rfl ?_
  exact jd_lv (lv2 := [(0, .ref (gb G + t)), (1, .ref (gb G + u1)), (2, .int x2), (3, .int 0)]) [1, 2, 3, 0] rfl h
set_option maxRecDepth 4000 in
theorem rX12_wrongCoach_7 {G : jdG} {n rc rs : Nat} {Z : jdL} {I : jdI} {J : jdJ} {K : Int32 → jdI → jdJ → Prop} {n1 : Nat} {u1 : Nat} {t : Nat} {x2 : Int32} {x3 : Int32} (ht : zModel Z t) (hu1 : Z.1 u1 = some (1, n1)) (h : ((x2 ≤ x3 → K (-1) I J) ∧ (¬ x2 ≤ x3 → (vp_in x3 n1 ∧ Cl G mX12_all n 0 0 [.ref (gb G + t)] Z I J (qi Z (fun v3 I2 J2 => Cl G mX12_in n 0 0 [.long (J u1 (Int32.toNatClampNeg x3)), .long 0, .long (Int32.toInt64 v3)] Z I2 J2 (qi Z (fun v5 I4 J4 => ((v5 = 0 → K x3 I4 J4) ∧ (¬ v5 = 0 → (vp_in x3 n1 ∧ Cl G mX12_isGroupNow n 0 0 [.ref (gb G + t), .int (Int64.toInt32 (J4 u1 (Int32.toNatClampNeg x3)))] Z I4 J4 (qi Z (fun v8 I7 J7 => ((v8 = 0 → K x3 I7 J7) ∧ (¬ v8 = 0 → (vp_in x3 n1 ∧ ((((Int64.toInt32 (J7 u1 (Int32.toNatClampNeg x3))) &&& (I7 t 44)) = 0 → (vp_in x3 n1 ∧ Jd G mX12_wrongCoach (jdFm G (qi Z K)) (n + 1) rc rs 7 [(0, .ref (gb G + t)), (1, .ref (gb G + u1)), (2, .int x2), (3, .int (x3 + 1))] [] Z (uI I7 t 44 ((I7 t 44) ||| (Int64.toInt32 (J7 u1 (Int32.toNatClampNeg x3))))) J7)) ∧ (¬ ((Int64.toInt32 (J7 u1 (Int32.toNatClampNeg x3))) &&& (I7 t 44)) = 0 → K x3 I7 J7)))))))))))))))))) : Jd G mX12_wrongCoach (jdFm G (qi Z K)) (n + 1) rc rs 7 [(0, .ref (gb G + t)), (1, .ref (gb G + u1)), (2, .int x2), (3, .int x3)] [] Z I J := by
  refine jd_iload_n (pc := 7) 3 dX12_wrongCoach_7 rfl rfl ?_
  refine jd_iload_n (pc := 8) 2 dX12_wrongCoach_8 rfl rfl ?_
  refine jd_icmp_ge (pc := 9) 71 dX12_wrongCoach_9 (by decide) (fun hc => ?_) (fun hc => ?_)
  · have h := h.1 hc
    refine jd_iconst (pc := 71) (v := (-1)) dX12_wrongCoach_71 (by decide) ?_
    exact jd_iretK (pc := 72) rfl rfl dX12_wrongCoach_72 h
  · have h := h.2 hc
    refine jd_aload_n (pc := 12) 1 dX12_wrongCoach_12 rfl rfl ?_
    refine jd_iload_n (pc := 13) 3 dX12_wrongCoach_13 rfl rfl ?_
    obtain ⟨hv1, h⟩ := h
    refine jd_lald (pc := 14) (len := n1) hu1 hv1 dX12_wrongCoach_14 ?_
    refine jd_lconst (pc := 15) (v := 0) dX12_wrongCoach_15 (by decide) ?_
    refine jd_aload_n (pc := 16) 0 dX12_wrongCoach_16 rfl rfl ?_
    refine jd_callVi (pc := 17) (M2 := mX12_all) (id := t) (ci := 11) (T := TX12) (N := 45) (av := []) kX12_all sX12_all rfl ht.1 lX12_92 rfl rfl (Nat.le_of_ble_eq_true rfl) dX12_wrongCoach_17 h ?_
    intro v3 I2 J2 h
    refine jd_i2l (pc := 20) dX12_wrongCoach_20 ?_
    refine jd_callSi (pc := 21) (M2 := mX12_in) (av := [.long (J u1 (Int32.toNatClampNeg x3)), .long 0, .long (Int32.toInt64 v3)]) kX12_in sX12_in lX12_88 rfl rfl (Nat.le_of_ble_eq_true rfl) dX12_wrongCoach_21 h ?_
    intro v5 I4 J4 h
    refine jd_if_eq (pc := 24) 50 dX12_wrongCoach_24 (by decide) (fun hc => ?_) (fun hc => ?_)
    · have h := h.1 hc
      refine jd_iload_n (pc := 50) 3 dX12_wrongCoach_50 rfl rfl ?_
      exact jd_iretK (pc := 51) rfl rfl dX12_wrongCoach_51 h
    · have h := h.2 hc
      refine jd_aload_n (pc := 27) 0 dX12_wrongCoach_27 rfl rfl ?_
      refine jd_aload_n (pc := 28) 1 dX12_wrongCoach_28 rfl rfl ?_
      refine jd_iload_n (pc := 29) 3 dX12_wrongCoach_29 rfl rfl ?_
      obtain ⟨hv6, h⟩ := h
      refine jd_lald (pc := 30) (len := n1) hu1 hv6 dX12_wrongCoach_30 ?_
      refine jd_l2i (pc := 31) dX12_wrongCoach_31 ?_
      refine jd_callVi (pc := 32) (M2 := mX12_isGroupNow) (id := t) (ci := 11) (T := TX12) (N := 45) (av := [.int (Int64.toInt32 (J4 u1 (Int32.toNatClampNeg x3)))]) kX12_isGroupNow sX12_isGroupNow rfl ht.1 lX12_266 rfl rfl (Nat.le_of_ble_eq_true rfl) dX12_wrongCoach_32 h ?_
      intro v8 I7 J7 h
      refine jd_if_eq (pc := 35) 50 dX12_wrongCoach_35 (by decide) (fun hc => ?_) (fun hc => ?_)
      · have h := h.1 hc
        refine jd_iload_n (pc := 50) 3 dX12_wrongCoach_50 rfl rfl ?_
        exact jd_iretK (pc := 51) rfl rfl dX12_wrongCoach_51 h
      · have h := h.2 hc
        refine jd_aload_n (pc := 38) 1 dX12_wrongCoach_38 rfl rfl ?_
        refine jd_iload_n (pc := 39) 3 dX12_wrongCoach_39 rfl rfl ?_
        obtain ⟨hv9, h⟩ := h
        refine jd_lald (pc := 40) (len := n1) hu1 hv9 dX12_wrongCoach_40 ?_
        refine jd_l2i (pc := 41) dX12_wrongCoach_41 ?_
        refine jd_aload_n (pc := 42) 0 dX12_wrongCoach_42 rfl rfl ?_
        refine jd_getI (pc := 43) (ci := 11) (k := 44) gX12_348 ht.1 rfl dX12_wrongCoach_43 ?_
        refine jd_iand (pc := 46) dX12_wrongCoach_46 ?_
        refine jd_if_eq (pc := 47) 52 dX12_wrongCoach_47 (by decide) (fun hc => ?_) (fun hc => ?_)
        · have h := h.1 hc
          refine jd_aload_n (pc := 52) 0 dX12_wrongCoach_52 rfl rfl ?_
          refine jd_dup (pc := 53) dX12_wrongCoach_53 rfl ?_
          refine jd_getI (pc := 54) (ci := 11) (k := 44) gX12_348 ht.1 rfl dX12_wrongCoach_54 ?_
          refine jd_aload_n (pc := 57) 1 dX12_wrongCoach_57 rfl rfl ?_
          refine jd_iload_n (pc := 58) 3 dX12_wrongCoach_58 rfl rfl ?_
          obtain ⟨hv10, h⟩ := h
          refine jd_lald (pc := 59) (len := n1) hu1 hv10 dX12_wrongCoach_59 ?_
          refine jd_l2i (pc := 60) dX12_wrongCoach_60 ?_
          refine jd_ior (pc := 61) dX12_wrongCoach_61 ?_
          refine jd_putI (pc := 62) (ci := 11) (k := 44) pX12_348 ht.1 rfl rfl rfl dX12_wrongCoach_62 ?_
          refine jd_iinc (pc := 65) (v := (x3 + 1)) 3 [(3, .int (x3 + 1)), (0, .ref (gb G + t)), (1, .ref (gb G + u1)), (2, .int x2)] dX12_wrongCoach_65 rfl rfl (by decide) rfl ?_
          refine jd_goto (pc := 68) 7 dX12_wrongCoach_68 (by decide) ?_
          exact jd_lv (lv2 := [(0, .ref (gb G + t)), (1, .ref (gb G + u1)), (2, .int x2), (3, .int (x3 + 1))]) [1, 2, 3, 0] rfl h
        · have h := h.2 hc
          refine jd_iload_n (pc := 50) 3 dX12_wrongCoach_50 rfl rfl ?_
          exact jd_iretK (pc := 51) rfl rfl dX12_wrongCoach_51 h
theorem eX12_wrongCoach {G : jdG} {n : Nat} {Z : jdL} {I : jdI} {J : jdJ} {K : Int32 → jdI → jdJ → Prop} {t : Nat} {u1 : Nat} {n1 : Nat} {x2 : Int32} (ht : zModel Z t) (hu1 : Z.1 u1 = some (1, n1)) (h : Jd G mX12_wrongCoach (jdFm G (qi Z K)) (n + 1) 0 0 7 [(0, .ref (gb G + t)), (1, .ref (gb G + u1)), (2, .int x2), (3, .int 0)] [] Z (uI I t 44 0) J) : Cl G mX12_wrongCoach (n + 1) 0 0 [.ref (gb G + t), .ref (gb G + u1), .int x2] Z I J (qi Z K) :=
  Cl.of (by decide +kernel) (Nat.le_of_ble_eq_true rfl) (rX12_wrongCoach_0 ht hu1 h)
set_option maxRecDepth 4000 in
theorem rX12_judge_0 {G : jdG} {n rc rs : Nat} {Z : jdL} {I : jdI} {J : jdJ} {K : Int32 → jdI → jdJ → Prop} {t : Nat} {x1 : Int32} {x2 : Int32} (ht : zModel Z t) (h : Cl G mX12_noDay n 0 0 [.ref (gb G + t), .int x1, .int x2] Z I J (qi Z (fun v2 I1 J1 => ((v2 = 0 → (vp_in x1 8 ∧ Cl G mX12_wrongCoach n 0 0 [.ref (gb G + t), .ref (gb G + (t + 5 + (Int32.toNatClampNeg x1))), .int x2] Z I1 J1 (qi Z (fun v5 I4 J4 => K v5 I4 J4)))) ∧ (¬ v2 = 0 → K v2 I1 J1))))) : Jd G mX12_judge (jdFm G (qi Z K)) (n + 1) rc rs 0 [(0, .ref (gb G + t)), (1, .int x1), (2, .int x2)] [] Z I J := by
  refine jd_aload_n (pc := 0) 0 dX12_judge_0 rfl rfl ?_
  refine jd_iload_n (pc := 1) 1 dX12_judge_1 rfl rfl ?_
  refine jd_iload_n (pc := 2) 2 dX12_judge_2 rfl rfl ?_
  refine jd_callVi (pc := 3) (M2 := mX12_noDay) (id := t) (ci := 11) (T := TX12) (N := 45) (av := [.int x1, .int x2]) kX12_noDay sX12_noDay rfl ht.1 lX12_351 rfl rfl (Nat.le_of_ble_eq_true rfl) dX12_judge_3 h ?_
  intro v2 I1 J1 h
  refine jd_istore_n (pc := 6) [(3, .int v2), (0, .ref (gb G + t)), (1, .int x1), (2, .int x2)] dX12_judge_6 rfl (by decide) rfl ?_
  refine jd_iload_n (pc := 7) 0 dX12_judge_7 rfl rfl ?_
  refine jd_if_eq (pc := 8) 15 dX12_judge_8 (by decide) (fun hc => ?_) (fun hc => ?_)
  · have h := h.1 hc
    refine jd_aload_n (pc := 15) 1 dX12_judge_15 rfl rfl ?_
    refine jd_aload_n (pc := 16) 1 dX12_judge_16 rfl rfl ?_
    refine jd_getR (pc := 17) (ci := 11) (k := 3) (r := (t + 4)) gX12_21 ht.1 rfl (zModel_p3 ht) dX12_judge_17 ?_
    refine jd_iload_n (pc := 20) 2 dX12_judge_20 rfl rfl ?_
    obtain ⟨hv3, h⟩ := h
    refine jd_aald (pc := 21) (len := 8) (k := 3) (zModel_a3 ht) (by decide) hv3 (zModel_rows ht (vp_lt hv3)) dX12_judge_21 ?_
    refine jd_iload_n (pc := 22) 3 dX12_judge_22 rfl rfl ?_
    refine jd_callVi (pc := 23) (M2 := mX12_wrongCoach) (id := t) (ci := 11) (T := TX12) (N := 45) (av := [.ref (gb G + (t + 5 + (Int32.toNatClampNeg x1))), .int x2]) kX12_wrongCoach sX12_wrongCoach rfl ht.1 lX12_354 rfl rfl (Nat.le_of_ble_eq_true rfl) dX12_judge_23 h ?_
    intro v5 I4 J4 h
    exact jd_iretK (pc := 26) rfl rfl dX12_judge_26 h
  · have h := h.2 hc
    refine jd_iload_n (pc := 11) 0 dX12_judge_11 rfl rfl ?_
    refine jd_goto (pc := 12) 26 dX12_judge_12 (by decide) ?_
    exact jd_iretK (pc := 26) rfl rfl dX12_judge_26 h
theorem eX12_judge {G : jdG} {n : Nat} {Z : jdL} {I : jdI} {J : jdJ} {K : Int32 → jdI → jdJ → Prop} {t : Nat} {x1 : Int32} {x2 : Int32} (ht : zModel Z t) (h : Cl G mX12_noDay n 0 0 [.ref (gb G + t), .int x1, .int x2] Z I J (qi Z (fun v2 I1 J1 => ((v2 = 0 → (vp_in x1 8 ∧ Cl G mX12_wrongCoach n 0 0 [.ref (gb G + t), .ref (gb G + (t + 5 + (Int32.toNatClampNeg x1))), .int x2] Z I1 J1 (qi Z (fun v5 I4 J4 => K v5 I4 J4)))) ∧ (¬ v2 = 0 → K v2 I1 J1))))) : Cl G mX12_judge (n + 1) 0 0 [.ref (gb G + t), .int x1, .int x2] Z I J (qi Z K) :=
  Cl.of (by decide +kernel) (Nat.le_of_ble_eq_true rfl) (rX12_judge_0 ht h)
set_option maxRecDepth 4000 in
theorem rX12_behind_0 {G : jdG} {n rc rs : Nat} {Z : jdL} {I : jdI} {J : jdJ} {Q : jdQ} {t : Nat} {x1 : Int32} {x2 : Int32} {x3 : Int32} (ht : zModel Z t) (h : Cl G mX12_in n 0 0 [.long (Int32.toInt64 x3), .long 0, .long 1] Z I J (qi Z (fun v2 I1 J1 => ((¬ v2 = 0 → Cl G mX12_noDay n 0 0 [.ref (gb G + t), .int x1, .int x2] Z I1 J1 (qi Z (fun v4 I3 J3 => ((v4 = 0 → (vp_in x1 8 ∧ Cl G mX12_wrongCoach n 0 0 [.ref (gb G + t), .ref (gb G + (t + 5 + (Int32.toNatClampNeg x1))), .int x2] Z I3 J3 (qi Z (fun v7 I6 J6 => ((v7 = (-1) → ((¬ x3 = 0 → (∃ mc8 ms8 rc8 rs8 : Nat, mc8 + rc8 ≤ rc ∧ ms8 + rs8 ≤ rs ∧ Cl G mX12_fresh n mc8 ms8 [.ref (gb G + t)] Z I6 J6 (fun r8 Z8 I8 J8 => ∃ w8 : Nat, r8 = some (.ref (gb G + w8)) ∧ (zModel Z8 t ∧ (zModel Z8 w8 ∧ Jd G mX12_behind (jdFm G Q) (n + 1) rc8 rs8 80 [(0, .ref (gb G + t)), (1, .int x1), (2, .int x2), (3, .int x3), (4, .int v4), (5, .ref (gb G + w8)), (6, .int 0)] [] Z8 I8 J8))))) ∧ (x3 = 0 → Cl G mX12_all n 0 0 [.ref (gb G + t)] Z I6 J6 (qi Z (fun v10 I9 J9 => Q (some (.int (v10 &&& ((I9 t 44) ^^^ (-1))))) Z I9 J9))))) ∧ (¬ v7 = (-1) → Cl G mX12_refuse n 0 0 [.ref (gb G + t), .int (-5)] Z I6 J6 (qi Z (fun v12 I11 J11 => Q (some (.int v12)) Z I11 J11)))))))) ∧ (¬ v4 = 0 → Q (some (.int v4)) Z I3 J3))))) ∧ (v2 = 0 → Cl G mX12_refuse n 0 0 [.ref (gb G + t), .int (-2)] Z I1 J1 (qi Z (fun v14 I13 J13 => Q (some (.int v14)) Z I13 J13))))))) : Jd G mX12_behind (jdFm G Q) (n + 1) rc rs 0 [(0, .ref (gb G + t)), (1, .int x1), (2, .int x2), (3, .int x3)] [] Z I J := by
  refine jd_iload_n (pc := 0) 3 dX12_behind_0 rfl rfl ?_
  refine jd_i2l (pc := 1) dX12_behind_1 ?_
  refine jd_lconst (pc := 2) (v := 0) dX12_behind_2 (by decide) ?_
  refine jd_lconst (pc := 3) (v := 1) dX12_behind_3 (by decide) ?_
  refine jd_callSi (pc := 4) (M2 := mX12_in) (av := [.long (Int32.toInt64 x3), .long 0, .long 1]) kX12_in sX12_in lX12_88 rfl rfl (Nat.le_of_ble_eq_true rfl) dX12_behind_4 h ?_
  intro v2 I1 J1 h
  refine jd_if_ne (pc := 7) 17 dX12_behind_7 (by decide) (fun hc => ?_) (fun hc => ?_)
  · have h := h.1 hc
    refine jd_aload_n (pc := 17) 0 dX12_behind_17 rfl rfl ?_
    refine jd_iload_n (pc := 18) 1 dX12_behind_18 rfl rfl ?_
    refine jd_iload_n (pc := 19) 2 dX12_behind_19 rfl rfl ?_
    refine jd_callVi (pc := 20) (M2 := mX12_noDay) (id := t) (ci := 11) (T := TX12) (N := 45) (av := [.int x1, .int x2]) kX12_noDay sX12_noDay rfl ht.1 lX12_351 rfl rfl (Nat.le_of_ble_eq_true rfl) dX12_behind_20 h ?_
    intro v4 I3 J3 h
    refine jd_istore (pc := 23) [(4, .int v4), (0, .ref (gb G + t)), (1, .int x1), (2, .int x2), (3, .int x3)] dX12_behind_23 (by decide) rfl ?_
    refine jd_iload (pc := 25) 0 dX12_behind_25 rfl ?_
    refine jd_if_eq (pc := 27) 33 dX12_behind_27 (by decide) (fun hc => ?_) (fun hc => ?_)
    · have h := h.1 hc
      refine jd_aload_n (pc := 33) 1 dX12_behind_33 rfl rfl ?_
      refine jd_aload_n (pc := 34) 1 dX12_behind_34 rfl rfl ?_
      refine jd_getR (pc := 35) (ci := 11) (k := 3) (r := (t + 4)) gX12_21 ht.1 rfl (zModel_p3 ht) dX12_behind_35 ?_
      refine jd_iload_n (pc := 38) 2 dX12_behind_38 rfl rfl ?_
      obtain ⟨hv5, h⟩ := h
      refine jd_aald (pc := 39) (len := 8) (k := 3) (zModel_a3 ht) (by decide) hv5 (zModel_rows ht (vp_lt hv5)) dX12_behind_39 ?_
      refine jd_iload_n (pc := 40) 3 dX12_behind_40 rfl rfl ?_
      refine jd_callVi (pc := 41) (M2 := mX12_wrongCoach) (id := t) (ci := 11) (T := TX12) (N := 45) (av := [.ref (gb G + (t + 5 + (Int32.toNatClampNeg x1))), .int x2]) kX12_wrongCoach sX12_wrongCoach rfl ht.1 lX12_354 rfl rfl (Nat.le_of_ble_eq_true rfl) dX12_behind_41 h ?_
      intro v7 I6 J6 h
      refine jd_iconst (pc := 44) (v := (-1)) dX12_behind_44 (by decide) ?_
      refine jd_icmp_eq (pc := 45) 55 dX12_behind_45 (by decide) (fun hc => ?_) (fun hc => ?_)
      · have h := h.1 hc
        refine jd_iload_n (pc := 55) 4 dX12_behind_55 rfl rfl ?_
        refine jd_if_ne (pc := 56) 71 dX12_behind_56 (by decide) (fun hc => ?_) (fun hc => ?_)
        · have h := h.1 hc
          refine jd_aload_n (pc := 71) 1 dX12_behind_71 rfl rfl ?_
          obtain ⟨mc8, ms8, rc8, rs8, hb1, hb2, h⟩ := h
          refine jd_callV (pc := 72) (M2 := mX12_fresh) (id := t) (ci := 11) (T := TX12) (N := 45) (rc2 := rc8) (rs2 := rs8) (av := []) kX12_fresh sX12_fresh rfl ht.1 lX12_238 rfl rfl (Nat.le_of_ble_eq_true rfl) hb1 hb2 dX12_behind_72 (Cl.mono h (fun r8 Z8 I8 J8 h => ?_))
          obtain ⟨w8, rfl, h⟩ := h
          obtain ⟨ht, h⟩ := h
          obtain ⟨hzw8, h⟩ := h
          refine jd_astore (pc := 75) [(5, .ref (gb G + w8)), (4, .int v4), (0, .ref (gb G + t)), (1, .int x1), (2, .int x2), (3, .int x3)] dX12_behind_75 (by decide) rfl ?_
          refine jd_iconst (pc := 77) (v := 0) dX12_behind_77 (by decide) ?_
          refine jd_istore (pc := 78) [(6, .int 0), (5, .ref (gb G + w8)), (4, .int v4), (0, .ref (gb G + t)), (1, .int x1), (2, .int x2), (3, .int x3)] dX12_behind_78 (by decide) rfl ?_
          exact jd_lv (lv2 := [(0, .ref (gb G + t)), (1, .int x1), (2, .int x2), (3, .int x3), (4, .int v4), (5, .ref (gb G + w8)), (6, .int 0)]) [3, 4, 5, 6, 2, 1, 0] rfl h
        · have h := h.2 hc
          refine jd_aload_n (pc := 59) 1 dX12_behind_59 rfl rfl ?_
          refine jd_callVi (pc := 60) (M2 := mX12_all) (id := t) (ci := 11) (T := TX12) (N := 45) (av := []) kX12_all sX12_all rfl ht.1 lX12_92 rfl rfl (Nat.le_of_ble_eq_true rfl) dX12_behind_60 h ?_
          intro v10 I9 J9 h
          refine jd_aload_n (pc := 63) 1 dX12_behind_63 rfl rfl ?_
          refine jd_getI (pc := 64) (ci := 11) (k := 44) gX12_348 ht.1 rfl dX12_behind_64 ?_
          refine jd_iconst (pc := 67) (v := (-1)) dX12_behind_67 (by decide) ?_
          refine jd_ixor (pc := 68) dX12_behind_68 ?_
          refine jd_iand (pc := 69) dX12_behind_69 ?_
          exact jd_iret (pc := 70) (ty := .int) rfl rfl dX12_behind_70 h
      · have h := h.2 hc
        refine jd_aload_n (pc := 48) 1 dX12_behind_48 rfl rfl ?_
        refine jd_bipush (pc := 49) (v := (-5)) dX12_behind_49 (by decide) ?_
        refine jd_callVi (pc := 51) (M2 := mX12_refuse) (id := t) (ci := 11) (T := TX12) (N := 45) (av := [.int (-5)]) kX12_refuse sX12_refuse rfl ht.1 lX12_102 rfl rfl (Nat.le_of_ble_eq_true rfl) dX12_behind_51 h ?_
        intro v12 I11 J11 h
        exact jd_iret (pc := 54) (ty := .int) rfl rfl dX12_behind_54 h
    · have h := h.2 hc
      refine jd_iload (pc := 30) 0 dX12_behind_30 rfl ?_
      exact jd_iret (pc := 32) (ty := .int) rfl rfl dX12_behind_32 h
  · have h := h.2 hc
    refine jd_aload_n (pc := 10) 0 dX12_behind_10 rfl rfl ?_
    refine jd_bipush (pc := 11) (v := (-2)) dX12_behind_11 (by decide) ?_
    refine jd_callVi (pc := 13) (M2 := mX12_refuse) (id := t) (ci := 11) (T := TX12) (N := 45) (av := [.int (-2)]) kX12_refuse sX12_refuse rfl ht.1 lX12_102 rfl rfl (Nat.le_of_ble_eq_true rfl) dX12_behind_13 h ?_
    intro v14 I13 J13 h
    exact jd_iret (pc := 16) (ty := .int) rfl rfl dX12_behind_16 h
set_option maxRecDepth 4000 in
theorem rX12_behind_80 {G : jdG} {n rc rs : Nat} {Z : jdL} {I : jdI} {J : jdJ} {Q : jdQ} {t : Nat} {x1 : Int32} {x2 : Int32} {x3 : Int32} {x4 : Int32} {u5 : Nat} {x6 : Int32} (ht : zModel Z t) (hu5 : zModel Z u5) (h : ((x2 ≤ x6 → Cl G mX12_all n 0 0 [.ref (gb G + t)] Z I J (qi Z (fun v2 I1 J1 => Cl G mX12_groupsOf n 0 0 [.ref (gb G + u5), .int v2] Z I1 J1 (qi Z (fun v4 I3 J3 => Q (some (.int v4)) Z I3 J3))))) ∧ (¬ x2 ≤ x6 → (vp_in x1 8 ∧ (vp_in x6 40 ∧ Cl G mX12_meets n 0 0 [.ref (gb G + u5), .int (Int64.toInt32 (J (t + 5 + (Int32.toNatClampNeg x1)) (Int32.toNatClampNeg x6)))] Z I J (qi Z (fun v8 I7 J7 => Jd G mX12_behind (jdFm G Q) (n + 1) rc rs 80 [(0, .ref (gb G + t)), (1, .int x1), (2, .int x2), (3, .int x3), (4, .int x4), (5, .ref (gb G + u5)), (6, .int (x6 + 1))] [] Z I7 J7))))))) : Jd G mX12_behind (jdFm G Q) (n + 1) rc rs 80 [(0, .ref (gb G + t)), (1, .int x1), (2, .int x2), (3, .int x3), (4, .int x4), (5, .ref (gb G + u5)), (6, .int x6)] [] Z I J := by
  refine jd_iload (pc := 80) 6 dX12_behind_80 rfl ?_
  refine jd_iload_n (pc := 82) 2 dX12_behind_82 rfl rfl ?_
  refine jd_icmp_ge (pc := 83) 108 dX12_behind_83 (by decide) (fun hc => ?_) (fun hc => ?_)
  · have h := h.1 hc
    refine jd_aload (pc := 108) 5 dX12_behind_108 rfl ?_
    refine jd_aload_n (pc := 110) 0 dX12_behind_110 rfl rfl ?_
    refine jd_callVi (pc := 111) (M2 := mX12_all) (id := t) (ci := 11) (T := TX12) (N := 45) (av := []) kX12_all sX12_all rfl ht.1 lX12_92 rfl rfl (Nat.le_of_ble_eq_true rfl) dX12_behind_111 h ?_
    intro v2 I1 J1 h
    refine jd_callVi (pc := 114) (M2 := mX12_groupsOf) (id := u5) (ci := 11) (T := TX12) (N := 45) (av := [.int v2]) kX12_groupsOf sX12_groupsOf rfl hu5.1 lX12_272 rfl rfl (Nat.le_of_ble_eq_true rfl) dX12_behind_114 h ?_
    intro v4 I3 J3 h
    exact jd_iret (pc := 117) (ty := .int) rfl rfl dX12_behind_117 h
  · have h := h.2 hc
    refine jd_aload (pc := 86) 5 dX12_behind_86 rfl ?_
    refine jd_aload_n (pc := 88) 0 dX12_behind_88 rfl rfl ?_
    refine jd_getR (pc := 89) (ci := 11) (k := 3) (r := (t + 4)) gX12_21 ht.1 rfl (zModel_p3 ht) dX12_behind_89 ?_
    refine jd_iload_n (pc := 92) 1 dX12_behind_92 rfl rfl ?_
    obtain ⟨hv5, h⟩ := h
    refine jd_aald (pc := 93) (len := 8) (k := 3) (zModel_a3 ht) (by decide) hv5 (zModel_rows ht (vp_lt hv5)) dX12_behind_93 ?_
    refine jd_iload (pc := 94) 6 dX12_behind_94 rfl ?_
    obtain ⟨hv6, h⟩ := h
    refine jd_lald (pc := 96) (len := 40) (zModel_rowsA ht (vp_lt hv5)) hv6 dX12_behind_96 ?_
    refine jd_l2i (pc := 97) dX12_behind_97 ?_
    refine jd_callVi (pc := 98) (M2 := mX12_meets) (id := u5) (ci := 11) (T := TX12) (N := 45) (av := [.int (Int64.toInt32 (J (t + 5 + (Int32.toNatClampNeg x1)) (Int32.toNatClampNeg x6)))]) kX12_meets sX12_meets rfl hu5.1 lX12_213 rfl rfl (Nat.le_of_ble_eq_true rfl) dX12_behind_98 h ?_
    intro v8 I7 J7 h
    refine jd_pop (pc := 101) dX12_behind_101 rfl ?_
    refine jd_iinc (pc := 102) (v := (x6 + 1)) 6 [(6, .int (x6 + 1)), (0, .ref (gb G + t)), (1, .int x1), (2, .int x2), (3, .int x3), (4, .int x4), (5, .ref (gb G + u5))] dX12_behind_102 rfl rfl (by decide) rfl ?_
    refine jd_goto (pc := 105) 80 dX12_behind_105 (by decide) ?_
    exact jd_lv (lv2 := [(0, .ref (gb G + t)), (1, .int x1), (2, .int x2), (3, .int x3), (4, .int x4), (5, .ref (gb G + u5)), (6, .int (x6 + 1))]) [1, 2, 3, 4, 5, 6, 0] rfl h
theorem eX12_behind {G : jdG} {n mc ms : Nat} {Z : jdL} {I : jdI} {J : jdJ} {Q : jdQ} {t : Nat} {x1 : Int32} {x2 : Int32} {x3 : Int32} (ht : zModel Z t) (h : Cl G mX12_in n 0 0 [.long (Int32.toInt64 x3), .long 0, .long 1] Z I J (qi Z (fun v2 I1 J1 => ((¬ v2 = 0 → Cl G mX12_noDay n 0 0 [.ref (gb G + t), .int x1, .int x2] Z I1 J1 (qi Z (fun v4 I3 J3 => ((v4 = 0 → (vp_in x1 8 ∧ Cl G mX12_wrongCoach n 0 0 [.ref (gb G + t), .ref (gb G + (t + 5 + (Int32.toNatClampNeg x1))), .int x2] Z I3 J3 (qi Z (fun v7 I6 J6 => ((v7 = (-1) → ((¬ x3 = 0 → (∃ mc8 ms8 rc8 rs8 : Nat, mc8 + rc8 ≤ mc ∧ ms8 + rs8 ≤ ms ∧ Cl G mX12_fresh n mc8 ms8 [.ref (gb G + t)] Z I6 J6 (fun r8 Z8 I8 J8 => ∃ w8 : Nat, r8 = some (.ref (gb G + w8)) ∧ (zModel Z8 t ∧ (zModel Z8 w8 ∧ Jd G mX12_behind (jdFm G Q) (n + 1) rc8 rs8 80 [(0, .ref (gb G + t)), (1, .int x1), (2, .int x2), (3, .int x3), (4, .int v4), (5, .ref (gb G + w8)), (6, .int 0)] [] Z8 I8 J8))))) ∧ (x3 = 0 → Cl G mX12_all n 0 0 [.ref (gb G + t)] Z I6 J6 (qi Z (fun v10 I9 J9 => Q (some (.int (v10 &&& ((I9 t 44) ^^^ (-1))))) Z I9 J9))))) ∧ (¬ v7 = (-1) → Cl G mX12_refuse n 0 0 [.ref (gb G + t), .int (-5)] Z I6 J6 (qi Z (fun v12 I11 J11 => Q (some (.int v12)) Z I11 J11)))))))) ∧ (¬ v4 = 0 → Q (some (.int v4)) Z I3 J3))))) ∧ (v2 = 0 → Cl G mX12_refuse n 0 0 [.ref (gb G + t), .int (-2)] Z I1 J1 (qi Z (fun v14 I13 J13 => Q (some (.int v14)) Z I13 J13))))))) : Cl G mX12_behind (n + 1) mc ms [.ref (gb G + t), .int x1, .int x2, .int x3] Z I J Q :=
  Cl.of (by decide +kernel) (Nat.le_of_ble_eq_true rfl) (rX12_behind_0 ht h)
set_option maxRecDepth 4000 in
theorem rX12_rides_0 {G : jdG} {n rc rs : Nat} {Z : jdL} {I : jdI} {J : jdJ} {K : Int32 → jdI → jdJ → Prop} {t : Nat} {x1 : Int32} {x2 : Int32} (ht : zModel Z t) (h : Cl G mX12_noDay n 0 0 [.ref (gb G + t), .int x1, .int x2] Z I J (qi Z (fun v2 I1 J1 => ((v2 = 0 → (vp_in x1 8 ∧ Cl G mX12_wrongCoach n 0 0 [.ref (gb G + t), .ref (gb G + (t + 5 + (Int32.toNatClampNeg x1))), .int x2] Z I1 J1 (qi Z (fun v5 I4 J4 => ((v5 = (-1) → Jd G mX12_rides (jdFm G (qi Z K)) (n + 1) rc rs 38 [(0, .ref (gb G + t)), (1, .int x1), (2, .int x2), (3, .int v2), (4, .int 0)] [] Z I4 J4) ∧ (¬ v5 = (-1) → Cl G mX12_refuse n 0 0 [.ref (gb G + t), .int (-5)] Z I4 J4 (qi Z (fun v7 I6 J6 => K v7 I6 J6)))))))) ∧ (¬ v2 = 0 → K v2 I1 J1))))) : Jd G mX12_rides (jdFm G (qi Z K)) (n + 1) rc rs 0 [(0, .ref (gb G + t)), (1, .int x1), (2, .int x2)] [] Z I J := by
  refine jd_aload_n (pc := 0) 0 dX12_rides_0 rfl rfl ?_
  refine jd_iload_n (pc := 1) 1 dX12_rides_1 rfl rfl ?_
  refine jd_iload_n (pc := 2) 2 dX12_rides_2 rfl rfl ?_
  refine jd_callVi (pc := 3) (M2 := mX12_noDay) (id := t) (ci := 11) (T := TX12) (N := 45) (av := [.int x1, .int x2]) kX12_noDay sX12_noDay rfl ht.1 lX12_351 rfl rfl (Nat.le_of_ble_eq_true rfl) dX12_rides_3 h ?_
  intro v2 I1 J1 h
  refine jd_istore_n (pc := 6) [(3, .int v2), (0, .ref (gb G + t)), (1, .int x1), (2, .int x2)] dX12_rides_6 rfl (by decide) rfl ?_
  refine jd_iload_n (pc := 7) 0 dX12_rides_7 rfl rfl ?_
  refine jd_if_eq (pc := 8) 13 dX12_rides_8 (by decide) (fun hc => ?_) (fun hc => ?_)
  · have h := h.1 hc
    refine jd_aload_n (pc := 13) 1 dX12_rides_13 rfl rfl ?_
    refine jd_aload_n (pc := 14) 1 dX12_rides_14 rfl rfl ?_
    refine jd_getR (pc := 15) (ci := 11) (k := 3) (r := (t + 4)) gX12_21 ht.1 rfl (zModel_p3 ht) dX12_rides_15 ?_
    refine jd_iload_n (pc := 18) 2 dX12_rides_18 rfl rfl ?_
    obtain ⟨hv3, h⟩ := h
    refine jd_aald (pc := 19) (len := 8) (k := 3) (zModel_a3 ht) (by decide) hv3 (zModel_rows ht (vp_lt hv3)) dX12_rides_19 ?_
    refine jd_iload_n (pc := 20) 3 dX12_rides_20 rfl rfl ?_
    refine jd_callVi (pc := 21) (M2 := mX12_wrongCoach) (id := t) (ci := 11) (T := TX12) (N := 45) (av := [.ref (gb G + (t + 5 + (Int32.toNatClampNeg x1))), .int x2]) kX12_wrongCoach sX12_wrongCoach rfl ht.1 lX12_354 rfl rfl (Nat.le_of_ble_eq_true rfl) dX12_rides_21 h ?_
    intro v5 I4 J4 h
    refine jd_iconst (pc := 24) (v := (-1)) dX12_rides_24 (by decide) ?_
    refine jd_icmp_eq (pc := 25) 35 dX12_rides_25 (by decide) (fun hc => ?_) (fun hc => ?_)
    · have h := h.1 hc
      refine jd_iconst (pc := 35) (v := 0) dX12_rides_35 (by decide) ?_
      refine jd_istore (pc := 36) [(4, .int 0), (3, .int v2), (0, .ref (gb G + t)), (1, .int x1), (2, .int x2)] dX12_rides_36 (by decide) rfl ?_
      exact jd_lv (lv2 := [(0, .ref (gb G + t)), (1, .int x1), (2, .int x2), (3, .int v2), (4, .int 0)]) [2, 3, 4, 1, 0] rfl h
    · have h := h.2 hc
      refine jd_aload_n (pc := 28) 1 dX12_rides_28 rfl rfl ?_
      refine jd_bipush (pc := 29) (v := (-5)) dX12_rides_29 (by decide) ?_
      refine jd_callVi (pc := 31) (M2 := mX12_refuse) (id := t) (ci := 11) (T := TX12) (N := 45) (av := [.int (-5)]) kX12_refuse sX12_refuse rfl ht.1 lX12_102 rfl rfl (Nat.le_of_ble_eq_true rfl) dX12_rides_31 h ?_
      intro v7 I6 J6 h
      exact jd_iretK (pc := 34) rfl rfl dX12_rides_34 h
  · have h := h.2 hc
    refine jd_iload_n (pc := 11) 0 dX12_rides_11 rfl rfl ?_
    exact jd_iretK (pc := 12) rfl rfl dX12_rides_12 h
set_option maxRecDepth 4000 in
theorem rX12_rides_38 {G : jdG} {n rc rs : Nat} {Z : jdL} {I : jdI} {J : jdJ} {K : Int32 → jdI → jdJ → Prop} {t : Nat} {x1 : Int32} {x2 : Int32} {x3 : Int32} {x4 : Int32} (ht : zModel Z t) (h : ((x2 ≤ x4 → K x2 (uI (uI I t 16 ((I t 16) + x2)) t 17 ((I t 17) + 1)) J) ∧ (¬ x2 ≤ x4 → (vp_in x1 8 ∧ (vp_in x4 40 ∧ Cl G mX12_meets n 0 0 [.ref (gb G + t), .int (Int64.toInt32 (J (t + 5 + (Int32.toNatClampNeg x1)) (Int32.toNatClampNeg x4)))] Z I J (qi Z (fun v4 I3 J3 => Jd G mX12_rides (jdFm G (qi Z K)) (n + 1) rc rs 38 [(0, .ref (gb G + t)), (1, .int x1), (2, .int x2), (3, .int x3), (4, .int (x4 + 1))] [] Z I3 J3))))))) : Jd G mX12_rides (jdFm G (qi Z K)) (n + 1) rc rs 38 [(0, .ref (gb G + t)), (1, .int x1), (2, .int x2), (3, .int x3), (4, .int x4)] [] Z I J := by
  refine jd_iload (pc := 38) 4 dX12_rides_38 rfl ?_
  refine jd_iload_n (pc := 40) 2 dX12_rides_40 rfl rfl ?_
  refine jd_icmp_ge (pc := 41) 65 dX12_rides_41 (by decide) (fun hc => ?_) (fun hc => ?_)
  · have h := h.1 hc
    refine jd_aload_n (pc := 65) 0 dX12_rides_65 rfl rfl ?_
    refine jd_dup (pc := 66) dX12_rides_66 rfl ?_
    refine jd_getI (pc := 67) (ci := 11) (k := 16) gX12_358 ht.1 rfl dX12_rides_67 ?_
    refine jd_iload_n (pc := 70) 2 dX12_rides_70 rfl rfl ?_
    refine jd_iadd (pc := 71) dX12_rides_71 ?_
    refine jd_putI (pc := 72) (ci := 11) (k := 16) pX12_358 ht.1 rfl rfl rfl dX12_rides_72 ?_
    refine jd_aload_n (pc := 75) 0 dX12_rides_75 rfl rfl ?_
    refine jd_dup (pc := 76) dX12_rides_76 rfl ?_
    refine jd_getIe (pc := 77) (ci := 11) (k := 17) (e := (I t 17)) (uI_sk (by decide) rfl) gX12_361 ht.1 rfl dX12_rides_77 ?_
    refine jd_iconst (pc := 80) (v := 1) dX12_rides_80 (by decide) ?_
    refine jd_iadd (pc := 81) dX12_rides_81 ?_
    refine jd_putI (pc := 82) (ci := 11) (k := 17) pX12_361 ht.1 rfl rfl rfl dX12_rides_82 ?_
    refine jd_iload_n (pc := 85) 2 dX12_rides_85 rfl rfl ?_
    exact jd_iretK (pc := 86) rfl rfl dX12_rides_86 h
  · have h := h.2 hc
    refine jd_aload_n (pc := 44) 0 dX12_rides_44 rfl rfl ?_
    refine jd_aload_n (pc := 45) 0 dX12_rides_45 rfl rfl ?_
    refine jd_getR (pc := 46) (ci := 11) (k := 3) (r := (t + 4)) gX12_21 ht.1 rfl (zModel_p3 ht) dX12_rides_46 ?_
    refine jd_iload_n (pc := 49) 1 dX12_rides_49 rfl rfl ?_
    obtain ⟨hv1, h⟩ := h
    refine jd_aald (pc := 50) (len := 8) (k := 3) (zModel_a3 ht) (by decide) hv1 (zModel_rows ht (vp_lt hv1)) dX12_rides_50 ?_
    refine jd_iload (pc := 51) 4 dX12_rides_51 rfl ?_
    obtain ⟨hv2, h⟩ := h
    refine jd_lald (pc := 53) (len := 40) (zModel_rowsA ht (vp_lt hv1)) hv2 dX12_rides_53 ?_
    refine jd_l2i (pc := 54) dX12_rides_54 ?_
    refine jd_callVi (pc := 55) (M2 := mX12_meets) (id := t) (ci := 11) (T := TX12) (N := 45) (av := [.int (Int64.toInt32 (J (t + 5 + (Int32.toNatClampNeg x1)) (Int32.toNatClampNeg x4)))]) kX12_meets sX12_meets rfl ht.1 lX12_213 rfl rfl (Nat.le_of_ble_eq_true rfl) dX12_rides_55 h ?_
    intro v4 I3 J3 h
    refine jd_pop (pc := 58) dX12_rides_58 rfl ?_
    refine jd_iinc (pc := 59) (v := (x4 + 1)) 4 [(4, .int (x4 + 1)), (0, .ref (gb G + t)), (1, .int x1), (2, .int x2), (3, .int x3)] dX12_rides_59 rfl rfl (by decide) rfl ?_
    refine jd_goto (pc := 62) 38 dX12_rides_62 (by decide) ?_
    exact jd_lv (lv2 := [(0, .ref (gb G + t)), (1, .int x1), (2, .int x2), (3, .int x3), (4, .int (x4 + 1))]) [1, 2, 3, 4, 0] rfl h
theorem eX12_rides {G : jdG} {n : Nat} {Z : jdL} {I : jdI} {J : jdJ} {K : Int32 → jdI → jdJ → Prop} {t : Nat} {x1 : Int32} {x2 : Int32} (ht : zModel Z t) (h : Cl G mX12_noDay n 0 0 [.ref (gb G + t), .int x1, .int x2] Z I J (qi Z (fun v2 I1 J1 => ((v2 = 0 → (vp_in x1 8 ∧ Cl G mX12_wrongCoach n 0 0 [.ref (gb G + t), .ref (gb G + (t + 5 + (Int32.toNatClampNeg x1))), .int x2] Z I1 J1 (qi Z (fun v5 I4 J4 => ((v5 = (-1) → Jd G mX12_rides (jdFm G (qi Z K)) (n + 1) 0 0 38 [(0, .ref (gb G + t)), (1, .int x1), (2, .int x2), (3, .int v2), (4, .int 0)] [] Z I4 J4) ∧ (¬ v5 = (-1) → Cl G mX12_refuse n 0 0 [.ref (gb G + t), .int (-5)] Z I4 J4 (qi Z (fun v7 I6 J6 => K v7 I6 J6)))))))) ∧ (¬ v2 = 0 → K v2 I1 J1))))) : Cl G mX12_rides (n + 1) 0 0 [.ref (gb G + t), .int x1, .int x2] Z I J (qi Z K) :=
  Cl.of (by decide +kernel) (Nat.le_of_ble_eq_true rfl) (rX12_rides_0 ht h)
set_option maxRecDepth 4000 in
theorem rX12_day_0 {G : jdG} {n rc rs : Nat} {Z : jdL} {I : jdI} {J : jdJ} {K : Int32 → jdI → jdJ → Prop} {t : Nat} {x1 : Int32} (ht : zModel Z t) (h : Cl G mX12_noMan n 0 0 [.ref (gb G + t), .int x1] Z I J (qi Z (fun v2 I1 J1 => ((v2 = 0 → (vp_in x1 8 ∧ (vp_in x1 8 ∧ Cl G mX12_dayOf n 0 0 [.ref (gb G + t), .int (I1 (t + 14) (Int32.toNatClampNeg x1)), .int (I1 (t + 15) (Int32.toNatClampNeg x1))] Z I1 J1 (qi Z (fun v6 I5 J5 => K v6 (uI (uI I5 t 16 ((I5 t 16) + v6)) t 17 ((I5 t 17) + 1)) J5))))) ∧ (¬ v2 = 0 → K v2 I1 J1))))) : Jd G mX12_day (jdFm G (qi Z K)) (n + 1) rc rs 0 [(0, .ref (gb G + t)), (1, .int x1)] [] Z I J := by
  refine jd_aload_n (pc := 0) 0 dX12_day_0 rfl rfl ?_
  refine jd_iload_n (pc := 1) 1 dX12_day_1 rfl rfl ?_
  refine jd_callVi (pc := 2) (M2 := mX12_noMan) (id := t) (ci := 11) (T := TX12) (N := 45) (av := [.int x1]) kX12_noMan sX12_noMan rfl ht.1 lX12_290 rfl rfl (Nat.le_of_ble_eq_true rfl) dX12_day_2 h ?_
  intro v2 I1 J1 h
  refine jd_istore_n (pc := 5) [(2, .int v2), (0, .ref (gb G + t)), (1, .int x1)] dX12_day_5 rfl (by decide) rfl ?_
  refine jd_iload_n (pc := 6) 0 dX12_day_6 rfl rfl ?_
  refine jd_if_eq (pc := 7) 12 dX12_day_7 (by decide) (fun hc => ?_) (fun hc => ?_)
  · have h := h.1 hc
    refine jd_aload_n (pc := 12) 1 dX12_day_12 rfl rfl ?_
    refine jd_aload_n (pc := 13) 1 dX12_day_13 rfl rfl ?_
    refine jd_getR (pc := 14) (ci := 11) (k := 5) (r := (t + 14)) gX12_28 ht.1 rfl (zModel_p5 ht) dX12_day_14 ?_
    refine jd_iload_n (pc := 17) 2 dX12_day_17 rfl rfl ?_
    obtain ⟨hv3, h⟩ := h
    refine jd_iald (pc := 18) (len := 8) (zModel_a5 ht) hv3 dX12_day_18 ?_
    refine jd_aload_n (pc := 19) 1 dX12_day_19 rfl rfl ?_
    refine jd_getR (pc := 20) (ci := 11) (k := 6) (r := (t + 15)) gX12_31 ht.1 rfl (zModel_p6 ht) dX12_day_20 ?_
    refine jd_iload_n (pc := 23) 2 dX12_day_23 rfl rfl ?_
    obtain ⟨hv4, h⟩ := h
    refine jd_iald (pc := 24) (len := 8) (zModel_a6 ht) hv4 dX12_day_24 ?_
    refine jd_callVi (pc := 25) (M2 := mX12_dayOf) (id := t) (ci := 11) (T := TX12) (N := 45) (av := [.int (I1 (t + 14) (Int32.toNatClampNeg x1)), .int (I1 (t + 15) (Int32.toNatClampNeg x1))]) kX12_dayOf sX12_dayOf rfl ht.1 lX12_312 rfl rfl (Nat.le_of_ble_eq_true rfl) dX12_day_25 h ?_
    intro v6 I5 J5 h
    refine jd_istore_n (pc := 28) [(3, .int v6), (2, .int v2), (0, .ref (gb G + t)), (1, .int x1)] dX12_day_28 rfl (by decide) rfl ?_
    refine jd_aload_n (pc := 29) 2 dX12_day_29 rfl rfl ?_
    refine jd_dup (pc := 30) dX12_day_30 rfl ?_
    refine jd_getI (pc := 31) (ci := 11) (k := 16) gX12_358 ht.1 rfl dX12_day_31 ?_
    refine jd_iload_n (pc := 34) 0 dX12_day_34 rfl rfl ?_
    refine jd_iadd (pc := 35) dX12_day_35 ?_
    refine jd_putI (pc := 36) (ci := 11) (k := 16) pX12_358 ht.1 rfl rfl rfl dX12_day_36 ?_
    refine jd_aload_n (pc := 39) 2 dX12_day_39 rfl rfl ?_
    refine jd_dup (pc := 40) dX12_day_40 rfl ?_
    refine jd_getIe (pc := 41) (ci := 11) (k := 17) (e := (I5 t 17)) (uI_sk (by decide) rfl) gX12_361 ht.1 rfl dX12_day_41 ?_
    refine jd_iconst (pc := 44) (v := 1) dX12_day_44 (by decide) ?_
    refine jd_iadd (pc := 45) dX12_day_45 ?_
    refine jd_putI (pc := 46) (ci := 11) (k := 17) pX12_361 ht.1 rfl rfl rfl dX12_day_46 ?_
    refine jd_iload_n (pc := 49) 0 dX12_day_49 rfl rfl ?_
    exact jd_iretK (pc := 50) rfl rfl dX12_day_50 h
  · have h := h.2 hc
    refine jd_iload_n (pc := 10) 0 dX12_day_10 rfl rfl ?_
    exact jd_iretK (pc := 11) rfl rfl dX12_day_11 h
theorem eX12_day {G : jdG} {n : Nat} {Z : jdL} {I : jdI} {J : jdJ} {K : Int32 → jdI → jdJ → Prop} {t : Nat} {x1 : Int32} (ht : zModel Z t) (h : Cl G mX12_noMan n 0 0 [.ref (gb G + t), .int x1] Z I J (qi Z (fun v2 I1 J1 => ((v2 = 0 → (vp_in x1 8 ∧ (vp_in x1 8 ∧ Cl G mX12_dayOf n 0 0 [.ref (gb G + t), .int (I1 (t + 14) (Int32.toNatClampNeg x1)), .int (I1 (t + 15) (Int32.toNatClampNeg x1))] Z I1 J1 (qi Z (fun v6 I5 J5 => K v6 (uI (uI I5 t 16 ((I5 t 16) + v6)) t 17 ((I5 t 17) + 1)) J5))))) ∧ (¬ v2 = 0 → K v2 I1 J1))))) : Cl G mX12_day (n + 1) 0 0 [.ref (gb G + t), .int x1] Z I J (qi Z K) :=
  Cl.of (by decide +kernel) (Nat.le_of_ble_eq_true rfl) (rX12_day_0 ht h)
set_option maxRecDepth 4000 in
theorem rX12_meet_0 {G : jdG} {n rc rs : Nat} {Z : jdL} {I : jdI} {J : jdJ} {K : Int32 → jdI → jdJ → Prop} {t : Nat} {x1 : Int32} (ht : zModel Z t) (h : Cl G mX12_isSet n 0 0 [.ref (gb G + t), .int x1] Z I J (qi Z (fun v2 I1 J1 => ((v2 = 0 → Cl G mX12_refuse n 0 0 [.ref (gb G + t), .int (-2)] Z I1 J1 (qi Z (fun v4 I3 J3 => K v4 I3 J3))) ∧ (¬ v2 = 0 → Cl G mX12_meets n 0 0 [.ref (gb G + t), .int x1] Z I1 J1 (qi Z (fun v6 I5 J5 => K v6 I5 J5))))))) : Jd G mX12_meet (jdFm G (qi Z K)) (n + 1) rc rs 0 [(0, .ref (gb G + t)), (1, .int x1)] [] Z I J := by
  refine jd_aload_n (pc := 0) 0 dX12_meet_0 rfl rfl ?_
  refine jd_iload_n (pc := 1) 1 dX12_meet_1 rfl rfl ?_
  refine jd_callVi (pc := 2) (M2 := mX12_isSet) (id := t) (ci := 11) (T := TX12) (N := 45) (av := [.int x1]) kX12_isSet sX12_isSet rfl ht.1 lX12_263 rfl rfl (Nat.le_of_ble_eq_true rfl) dX12_meet_2 h ?_
  intro v2 I1 J1 h
  refine jd_if_eq (pc := 5) 16 dX12_meet_5 (by decide) (fun hc => ?_) (fun hc => ?_)
  · have h := h.1 hc
    refine jd_aload_n (pc := 16) 0 dX12_meet_16 rfl rfl ?_
    refine jd_bipush (pc := 17) (v := (-2)) dX12_meet_17 (by decide) ?_
    refine jd_callVi (pc := 19) (M2 := mX12_refuse) (id := t) (ci := 11) (T := TX12) (N := 45) (av := [.int (-2)]) kX12_refuse sX12_refuse rfl ht.1 lX12_102 rfl rfl (Nat.le_of_ble_eq_true rfl) dX12_meet_19 h ?_
    intro v4 I3 J3 h
    exact jd_iretK (pc := 22) rfl rfl dX12_meet_22 h
  · have h := h.2 hc
    refine jd_aload_n (pc := 8) 0 dX12_meet_8 rfl rfl ?_
    refine jd_iload_n (pc := 9) 1 dX12_meet_9 rfl rfl ?_
    refine jd_callVi (pc := 10) (M2 := mX12_meets) (id := t) (ci := 11) (T := TX12) (N := 45) (av := [.int x1]) kX12_meets sX12_meets rfl ht.1 lX12_213 rfl rfl (Nat.le_of_ble_eq_true rfl) dX12_meet_10 h ?_
    intro v6 I5 J5 h
    refine jd_goto (pc := 13) 22 dX12_meet_13 (by decide) ?_
    exact jd_iretK (pc := 22) rfl rfl dX12_meet_22 h
theorem eX12_meet {G : jdG} {n : Nat} {Z : jdL} {I : jdI} {J : jdJ} {K : Int32 → jdI → jdJ → Prop} {t : Nat} {x1 : Int32} (ht : zModel Z t) (h : Cl G mX12_isSet n 0 0 [.ref (gb G + t), .int x1] Z I J (qi Z (fun v2 I1 J1 => ((v2 = 0 → Cl G mX12_refuse n 0 0 [.ref (gb G + t), .int (-2)] Z I1 J1 (qi Z (fun v4 I3 J3 => K v4 I3 J3))) ∧ (¬ v2 = 0 → Cl G mX12_meets n 0 0 [.ref (gb G + t), .int x1] Z I1 J1 (qi Z (fun v6 I5 J5 => K v6 I5 J5))))))) : Cl G mX12_meet (n + 1) 0 0 [.ref (gb G + t), .int x1] Z I J (qi Z K) :=
  Cl.of (by decide +kernel) (Nat.le_of_ble_eq_true rfl) (rX12_meet_0 ht h)
set_option maxRecDepth 4000 in
theorem rX12_year_0 {G : jdG} {n rc rs : Nat} {Z : jdL} {I : jdI} {J : jdJ} {K : Int32 → jdI → jdJ → Prop} {t : Nat} (ht : zModel Z t) (h : Jd G mX12_year (jdFm G (qi Z K)) (n + 1) rc rs 4 [(0, .ref (gb G + t)), (1, .int 0), (2, .int 0)] [] Z I J) : Jd G mX12_year (jdFm G (qi Z K)) (n + 1) rc rs 0 [(0, .ref (gb G + t))] [] Z I J := by
  refine jd_iconst (pc := 0) (v := 0) dX12_year_0 (by decide) ?_
  refine jd_istore_n (pc := 1) [(1, .int 0), (0, .ref (gb G + t))] dX12_year_1 rfl (by decide) rfl ?_
  refine jd_iconst (pc := 2) (v := 0) dX12_year_2 (by decide) ?_
  refine jd_istore_n (pc := 3) [(2, .int 0), (1, .int 0), (0, .ref (gb G + t))] dX12_year_3 rfl (by decide) rfl ?_
  exact jd_lv (lv2 := [(0, .ref (gb G + t)), (1, .int 0), (2, .int 0)]) [2, 1, 0] rfl h
set_option maxRecDepth 4000 in
theorem rX12_year_4 {G : jdG} {n rc rs : Nat} {Z : jdL} {I : jdI} {J : jdJ} {K : Int32 → jdI → jdJ → Prop} {t : Nat} {x1 : Int32} {x2 : Int32} (ht : zModel Z t) (h : (((I t 10) ≤ x2 → K x1 (uI I t 18 ((I t 18) + 1)) J) ∧ (¬ (I t 10) ≤ x2 → Jd G mX12_year (jdFm G (qi Z K)) (n + 1) rc rs 14 [(0, .ref (gb G + t)), (1, .int x1), (2, .int x2), (3, .int 0)] [] Z I J))) : Jd G mX12_year (jdFm G (qi Z K)) (n + 1) rc rs 4 [(0, .ref (gb G + t)), (1, .int x1), (2, .int x2)] [] Z I J := by
  refine jd_iload_n (pc := 4) 2 dX12_year_4 rfl rfl ?_
  refine jd_aload_n (pc := 5) 0 dX12_year_5 rfl rfl ?_
  refine jd_getI (pc := 6) (ci := 11) (k := 10) gX12_85 ht.1 rfl dX12_year_6 ?_
  refine jd_icmp_ge (pc := 9) 118 dX12_year_9 (by decide) (fun hc => ?_) (fun hc => ?_)
  · have h := h.1 hc
    refine jd_aload_n (pc := 118) 0 dX12_year_118 rfl rfl ?_
    refine jd_dup (pc := 119) dX12_year_119 rfl ?_
    refine jd_getI (pc := 120) (ci := 11) (k := 18) gX12_364 ht.1 rfl dX12_year_120 ?_
    refine jd_iconst (pc := 123) (v := 1) dX12_year_123 (by decide) ?_
    refine jd_iadd (pc := 124) dX12_year_124 ?_
    refine jd_putI (pc := 125) (ci := 11) (k := 18) pX12_364 ht.1 rfl rfl rfl dX12_year_125 ?_
    refine jd_iload_n (pc := 128) 1 dX12_year_128 rfl rfl ?_
    exact jd_iretK (pc := 129) rfl rfl dX12_year_129 h
  · have h := h.2 hc
    refine jd_iconst (pc := 12) (v := 0) dX12_year_12 (by decide) ?_
    refine jd_istore_n (pc := 13) [(3, .int 0), (0, .ref (gb G + t)), (1, .int x1), (2, .int x2)] dX12_year_13 rfl (by decide) rfl ?_
    exact jd_lv (lv2 := [(0, .ref (gb G + t)), (1, .int x1), (2, .int x2), (3, .int 0)]) [1, 2, 3, 0] rfl h
set_option maxRecDepth 4000 in
theorem rX12_year_14 {G : jdG} {n rc rs : Nat} {Z : jdL} {I : jdI} {J : jdJ} {K : Int32 → jdI → jdJ → Prop} {t : Nat} {x1 : Int32} {x2 : Int32} {x3 : Int32} (ht : zModel Z t) (h : ((x2 ≤ x3 → Jd G mX12_year (jdFm G (qi Z K)) (n + 1) rc rs 4 [(0, .ref (gb G + t)), (1, .int x1), (2, .int (x2 + 1))] [] Z I J) ∧ (¬ x2 ≤ x3 → (vp_in x2 8 ∧ (vp_in x3 8 ∧ (((I (t + 21 + (Int32.toNatClampNeg x2)) (Int32.toNatClampNeg x3)) = (-1) → Jd G mX12_year (jdFm G (qi Z K)) (n + 1) rc rs 14 [(0, .ref (gb G + t)), (1, .int x1), (2, .int x2), (3, .int (x3 + 1))] [] Z I J) ∧ (¬ (I (t + 21 + (Int32.toNatClampNeg x2)) (Int32.toNatClampNeg x3)) = (-1) → ((99 ≤ (I (t + 21 + (Int32.toNatClampNeg x2)) (Int32.toNatClampNeg x3)) → (((I t 15) = 0 → Cl G mX12_knows n 0 0 [.ref (gb G + t), .int x2, .int x3, .int 99] Z I J (qv Z (fun I3 J3 => Jd G mX12_year (jdFm G (qi Z K)) (n + 1) rc rs 14 [(0, .ref (gb G + t)), (1, .int (x1 + 0)), (2, .int x2), (3, .int (x3 + 1))] [] Z I3 J3))) ∧ (¬ (I t 15) = 0 → ((99 ≤ (I t 15) → Cl G mX12_knows n 0 0 [.ref (gb G + t), .int x2, .int x3, .int 99] Z I J (qv Z (fun I5 J5 => Jd G mX12_year (jdFm G (qi Z K)) (n + 1) rc rs 14 [(0, .ref (gb G + t)), (1, .int (x1 + 0)), (2, .int x2), (3, .int (x3 + 1))] [] Z I5 J5))) ∧ (¬ 99 ≤ (I t 15) → Cl G mX12_knows n 0 0 [.ref (gb G + t), .int x2, .int x3, .int (-1)] Z I J (qv Z (fun I7 J7 => Jd G mX12_year (jdFm G (qi Z K)) (n + 1) rc rs 14 [(0, .ref (gb G + t)), (1, .int (x1 + 1)), (2, .int x2), (3, .int (x3 + 1))] [] Z I7 J7))))))) ∧ (¬ 99 ≤ (I (t + 21 + (Int32.toNatClampNeg x2)) (Int32.toNatClampNeg x3)) → (((I t 15) = 0 → Cl G mX12_knows n 0 0 [.ref (gb G + t), .int x2, .int x3, .int ((I (t + 21 + (Int32.toNatClampNeg x2)) (Int32.toNatClampNeg x3)) + 1)] Z I J (qv Z (fun I9 J9 => Jd G mX12_year (jdFm G (qi Z K)) (n + 1) rc rs 14 [(0, .ref (gb G + t)), (1, .int (x1 + 0)), (2, .int x2), (3, .int (x3 + 1))] [] Z I9 J9))) ∧ (¬ (I t 15) = 0 → ((((I (t + 21 + (Int32.toNatClampNeg x2)) (Int32.toNatClampNeg x3)) + 1) ≤ (I t 15) → Cl G mX12_knows n 0 0 [.ref (gb G + t), .int x2, .int x3, .int ((I (t + 21 + (Int32.toNatClampNeg x2)) (Int32.toNatClampNeg x3)) + 1)] Z I J (qv Z (fun I11 J11 => Jd G mX12_year (jdFm G (qi Z K)) (n + 1) rc rs 14 [(0, .ref (gb G + t)), (1, .int (x1 + 0)), (2, .int x2), (3, .int (x3 + 1))] [] Z I11 J11))) ∧ (¬ ((I (t + 21 + (Int32.toNatClampNeg x2)) (Int32.toNatClampNeg x3)) + 1) ≤ (I t 15) → Cl G mX12_knows n 0 0 [.ref (gb G + t), .int x2, .int x3, .int (-1)] Z I J (qv Z (fun I13 J13 => Jd G mX12_year (jdFm G (qi Z K)) (n + 1) rc rs 14 [(0, .ref (gb G + t)), (1, .int (x1 + 1)), (2, .int x2), (3, .int (x3 + 1))] [] Z I13 J13))))))))))))))) : Jd G mX12_year (jdFm G (qi Z K)) (n + 1) rc rs 14 [(0, .ref (gb G + t)), (1, .int x1), (2, .int x2), (3, .int x3)] [] Z I J := by
  refine jd_iload_n (pc := 14) 3 dX12_year_14 rfl rfl ?_
  refine jd_iload_n (pc := 15) 2 dX12_year_15 rfl rfl ?_
  refine jd_icmp_ge (pc := 16) 112 dX12_year_16 (by decide) (fun hc => ?_) (fun hc => ?_)
  · have h := h.1 hc
    refine jd_iinc (pc := 112) (v := (x2 + 1)) 2 [(2, .int (x2 + 1)), (0, .ref (gb G + t)), (1, .int x1), (3, .int x3)] dX12_year_112 rfl rfl (by decide) rfl ?_
    refine jd_goto (pc := 115) 4 dX12_year_115 (by decide) ?_
    exact jd_lv (lv2 := [(0, .ref (gb G + t)), (1, .int x1), (2, .int (x2 + 1))]) [1, 2, 0] rfl h
  · have h := h.2 hc
    refine jd_aload_n (pc := 19) 0 dX12_year_19 rfl rfl ?_
    refine jd_getR (pc := 20) (ci := 11) (k := 13) (r := (t + 20)) gX12_48 ht.1 rfl (zModel_p13 ht) dX12_year_20 ?_
    refine jd_iload_n (pc := 23) 2 dX12_year_23 rfl rfl ?_
    obtain ⟨hv1, h⟩ := h
    refine jd_aald (pc := 24) (len := 8) (k := 2) (zModel_a13 ht) (by decide) hv1 (zModel_known ht (vp_lt hv1)) dX12_year_24 ?_
    refine jd_iload_n (pc := 25) 3 dX12_year_25 rfl rfl ?_
    obtain ⟨hv2, h⟩ := h
    refine jd_iald (pc := 26) (len := 8) (zModel_knownA ht (vp_lt hv1)) hv2 dX12_year_26 ?_
    refine jd_istore (pc := 27) [(4, .int (I (t + 21 + (Int32.toNatClampNeg x2)) (Int32.toNatClampNeg x3))), (0, .ref (gb G + t)), (1, .int x1), (2, .int x2), (3, .int x3)] dX12_year_27 (by decide) rfl ?_
    refine jd_iload (pc := 29) 0 dX12_year_29 rfl ?_
    refine jd_iconst (pc := 31) (v := (-1)) dX12_year_31 (by decide) ?_
    refine jd_icmp_eq (pc := 32) 106 dX12_year_32 (by decide) (fun hc => ?_) (fun hc => ?_)
    · have h := h.1 hc
      refine jd_iinc (pc := 106) (v := (x3 + 1)) 4 [(3, .int (x3 + 1)), (4, .int (I (t + 21 + (Int32.toNatClampNeg x2)) (Int32.toNatClampNeg x3))), (0, .ref (gb G + t)), (1, .int x1), (2, .int x2)] dX12_year_106 rfl rfl (by decide) rfl ?_
      refine jd_goto (pc := 109) 14 dX12_year_109 (by decide) ?_
      exact jd_lv (lv2 := [(0, .ref (gb G + t)), (1, .int x1), (2, .int x2), (3, .int (x3 + 1))]) [2, 3, 4, 0] rfl h
    · have h := h.2 hc
      refine jd_iload (pc := 35) 0 dX12_year_35 rfl ?_
      refine jd_bipush (pc := 37) (v := 99) dX12_year_37 (by decide) ?_
      refine jd_icmp_ge (pc := 39) 49 dX12_year_39 (by decide) (fun hc => ?_) (fun hc => ?_)
      · have h := h.1 hc
        refine jd_bipush (pc := 49) (v := 99) dX12_year_49 (by decide) ?_
        refine jd_istore (pc := 51) [(4, .int 99), (0, .ref (gb G + t)), (1, .int x1), (2, .int x2), (3, .int x3)] dX12_year_51 (by decide) rfl ?_
        refine jd_aload_n (pc := 53) 1 dX12_year_53 rfl rfl ?_
        refine jd_getI (pc := 54) (ci := 11) (k := 15) gX12_148 ht.1 rfl dX12_year_54 ?_
        refine jd_if_eq (pc := 57) 73 dX12_year_57 (by decide) (fun hc => ?_) (fun hc => ?_)
        · have h := h.1 hc
          refine jd_iconst (pc := 73) (v := 0) dX12_year_73 (by decide) ?_
          refine jd_istore (pc := 74) [(5, .int 0), (4, .int 99), (0, .ref (gb G + t)), (1, .int x1), (2, .int x2), (3, .int x3)] dX12_year_74 (by decide) rfl ?_
          refine jd_iload_n (pc := 76) 3 dX12_year_76 rfl rfl ?_
          refine jd_iload (pc := 77) 0 dX12_year_77 rfl ?_
          refine jd_if_eq (pc := 79) 86 dX12_year_79 (by decide) (fun _ => ?_) (fun hc => absurd (show (0 : Int32) = 0 by decide) hc)
          refine jd_iconst (pc := 86) (v := 0) dX12_year_86 (by decide) ?_
          refine jd_iadd (pc := 87) dX12_year_87 ?_
          refine jd_istore_n (pc := 88) [(1, .int (x1 + 0)), (5, .int 0), (4, .int 99), (0, .ref (gb G + t)), (2, .int x2), (3, .int x3)] dX12_year_88 rfl (by decide) rfl ?_
          refine jd_aload_n (pc := 89) 3 dX12_year_89 rfl rfl ?_
          refine jd_iload_n (pc := 90) 4 dX12_year_90 rfl rfl ?_
          refine jd_iload_n (pc := 91) 5 dX12_year_91 rfl rfl ?_
          refine jd_iload (pc := 92) 1 dX12_year_92 rfl ?_
          refine jd_if_eq (pc := 94) 101 dX12_year_94 (by decide) (fun _ => ?_) (fun hc => absurd (show (0 : Int32) = 0 by decide) hc)
          refine jd_iload (pc := 101) 2 dX12_year_101 rfl ?_
          refine jd_callVv (pc := 103) (M2 := mX12_knows) (id := t) (ci := 11) (T := TX12) (N := 45) (av := [.int x2, .int x3, .int 99]) kX12_knows sX12_knows rfl ht.1 lX12_142 rfl rfl (Nat.le_of_ble_eq_true rfl) dX12_year_103 h ?_
          intro I3 J3 h
          refine jd_iinc (pc := 106) (v := (x3 + 1)) 5 [(3, .int (x3 + 1)), (1, .int (x1 + 0)), (5, .int 0), (4, .int 99), (0, .ref (gb G + t)), (2, .int x2)] dX12_year_106 rfl rfl (by decide) rfl ?_
          refine jd_goto (pc := 109) 14 dX12_year_109 (by decide) ?_
          exact jd_lv (lv2 := [(0, .ref (gb G + t)), (1, .int (x1 + 0)), (2, .int x2), (3, .int (x3 + 1))]) [4, 1, 5, 0] rfl h
        · have h := h.2 hc
          refine jd_iload (pc := 60) 0 dX12_year_60 rfl ?_
          refine jd_aload_n (pc := 62) 1 dX12_year_62 rfl rfl ?_
          refine jd_getI (pc := 63) (ci := 11) (k := 15) gX12_148 ht.1 rfl dX12_year_63 ?_
          refine jd_icmp_le (pc := 66) 73 dX12_year_66 (by decide) (fun hc => ?_) (fun hc => ?_)
          · have h := h.1 hc
            refine jd_iconst (pc := 73) (v := 0) dX12_year_73 (by decide) ?_
            refine jd_istore (pc := 74) [(5, .int 0), (4, .int 99), (0, .ref (gb G + t)), (1, .int x1), (2, .int x2), (3, .int x3)] dX12_year_74 (by decide) rfl ?_
            refine jd_iload_n (pc := 76) 3 dX12_year_76 rfl rfl ?_
            refine jd_iload (pc := 77) 0 dX12_year_77 rfl ?_
            refine jd_if_eq (pc := 79) 86 dX12_year_79 (by decide) (fun _ => ?_) (fun hc => absurd (show (0 : Int32) = 0 by decide) hc)
            refine jd_iconst (pc := 86) (v := 0) dX12_year_86 (by decide) ?_
            refine jd_iadd (pc := 87) dX12_year_87 ?_
            refine jd_istore_n (pc := 88) [(1, .int (x1 + 0)), (5, .int 0), (4, .int 99), (0, .ref (gb G + t)), (2, .int x2), (3, .int x3)] dX12_year_88 rfl (by decide) rfl ?_
            refine jd_aload_n (pc := 89) 3 dX12_year_89 rfl rfl ?_
            refine jd_iload_n (pc := 90) 4 dX12_year_90 rfl rfl ?_
            refine jd_iload_n (pc := 91) 5 dX12_year_91 rfl rfl ?_
            refine jd_iload (pc := 92) 1 dX12_year_92 rfl ?_
            refine jd_if_eq (pc := 94) 101 dX12_year_94 (by decide) (fun _ => ?_) (fun hc => absurd (show (0 : Int32) = 0 by decide) hc)
            refine jd_iload (pc := 101) 2 dX12_year_101 rfl ?_
            refine jd_callVv (pc := 103) (M2 := mX12_knows) (id := t) (ci := 11) (T := TX12) (N := 45) (av := [.int x2, .int x3, .int 99]) kX12_knows sX12_knows rfl ht.1 lX12_142 rfl rfl (Nat.le_of_ble_eq_true rfl) dX12_year_103 h ?_
            intro I5 J5 h
            refine jd_iinc (pc := 106) (v := (x3 + 1)) 5 [(3, .int (x3 + 1)), (1, .int (x1 + 0)), (5, .int 0), (4, .int 99), (0, .ref (gb G + t)), (2, .int x2)] dX12_year_106 rfl rfl (by decide) rfl ?_
            refine jd_goto (pc := 109) 14 dX12_year_109 (by decide) ?_
            exact jd_lv (lv2 := [(0, .ref (gb G + t)), (1, .int (x1 + 0)), (2, .int x2), (3, .int (x3 + 1))]) [4, 1, 5, 0] rfl h
          · have h := h.2 hc
            refine jd_iconst (pc := 69) (v := 1) dX12_year_69 (by decide) ?_
            refine jd_goto (pc := 70) 74 dX12_year_70 (by decide) ?_
            refine jd_istore (pc := 74) [(5, .int 1), (4, .int 99), (0, .ref (gb G + t)), (1, .int x1), (2, .int x2), (3, .int x3)] dX12_year_74 (by decide) rfl ?_
            refine jd_iload_n (pc := 76) 3 dX12_year_76 rfl rfl ?_
            refine jd_iload (pc := 77) 0 dX12_year_77 rfl ?_
            refine jd_if_eq (pc := 79) 86 dX12_year_79 (by decide) (fun hc => absurd hc (by decide)) (fun _ => ?_)
            refine jd_iconst (pc := 82) (v := 1) dX12_year_82 (by decide) ?_
            refine jd_goto (pc := 83) 87 dX12_year_83 (by decide) ?_
            refine jd_iadd (pc := 87) dX12_year_87 ?_
            refine jd_istore_n (pc := 88) [(1, .int (x1 + 1)), (5, .int 1), (4, .int 99), (0, .ref (gb G + t)), (2, .int x2), (3, .int x3)] dX12_year_88 rfl (by decide) rfl ?_
            refine jd_aload_n (pc := 89) 3 dX12_year_89 rfl rfl ?_
            refine jd_iload_n (pc := 90) 4 dX12_year_90 rfl rfl ?_
            refine jd_iload_n (pc := 91) 5 dX12_year_91 rfl rfl ?_
            refine jd_iload (pc := 92) 1 dX12_year_92 rfl ?_
            refine jd_if_eq (pc := 94) 101 dX12_year_94 (by decide) (fun hc => absurd hc (by decide)) (fun _ => ?_)
            refine jd_iconst (pc := 97) (v := (-1)) dX12_year_97 (by decide) ?_
            refine jd_goto (pc := 98) 103 dX12_year_98 (by decide) ?_
            refine jd_callVv (pc := 103) (M2 := mX12_knows) (id := t) (ci := 11) (T := TX12) (N := 45) (av := [.int x2, .int x3, .int (-1)]) kX12_knows sX12_knows rfl ht.1 lX12_142 rfl rfl (Nat.le_of_ble_eq_true rfl) dX12_year_103 h ?_
            intro I7 J7 h
            refine jd_iinc (pc := 106) (v := (x3 + 1)) 5 [(3, .int (x3 + 1)), (1, .int (x1 + 1)), (5, .int 1), (4, .int 99), (0, .ref (gb G + t)), (2, .int x2)] dX12_year_106 rfl rfl (by decide) rfl ?_
            refine jd_goto (pc := 109) 14 dX12_year_109 (by decide) ?_
            exact jd_lv (lv2 := [(0, .ref (gb G + t)), (1, .int (x1 + 1)), (2, .int x2), (3, .int (x3 + 1))]) [4, 1, 5, 0] rfl h
      · have h := h.2 hc
        refine jd_iload (pc := 42) 0 dX12_year_42 rfl ?_
        refine jd_iconst (pc := 44) (v := 1) dX12_year_44 (by decide) ?_
        refine jd_iadd (pc := 45) dX12_year_45 ?_
        refine jd_goto (pc := 46) 51 dX12_year_46 (by decide) ?_
        refine jd_istore (pc := 51) [(4, .int ((I (t + 21 + (Int32.toNatClampNeg x2)) (Int32.toNatClampNeg x3)) + 1)), (0, .ref (gb G + t)), (1, .int x1), (2, .int x2), (3, .int x3)] dX12_year_51 (by decide) rfl ?_
        refine jd_aload_n (pc := 53) 1 dX12_year_53 rfl rfl ?_
        refine jd_getI (pc := 54) (ci := 11) (k := 15) gX12_148 ht.1 rfl dX12_year_54 ?_
        refine jd_if_eq (pc := 57) 73 dX12_year_57 (by decide) (fun hc => ?_) (fun hc => ?_)
        · have h := h.1 hc
          refine jd_iconst (pc := 73) (v := 0) dX12_year_73 (by decide) ?_
          refine jd_istore (pc := 74) [(5, .int 0), (4, .int ((I (t + 21 + (Int32.toNatClampNeg x2)) (Int32.toNatClampNeg x3)) + 1)), (0, .ref (gb G + t)), (1, .int x1), (2, .int x2), (3, .int x3)] dX12_year_74 (by decide) rfl ?_
          refine jd_iload_n (pc := 76) 3 dX12_year_76 rfl rfl ?_
          refine jd_iload (pc := 77) 0 dX12_year_77 rfl ?_
          refine jd_if_eq (pc := 79) 86 dX12_year_79 (by decide) (fun _ => ?_) (fun hc => absurd (show (0 : Int32) = 0 by decide) hc)
          refine jd_iconst (pc := 86) (v := 0) dX12_year_86 (by decide) ?_
          refine jd_iadd (pc := 87) dX12_year_87 ?_
          refine jd_istore_n (pc := 88) [(1, .int (x1 + 0)), (5, .int 0), (4, .int ((I (t + 21 + (Int32.toNatClampNeg x2)) (Int32.toNatClampNeg x3)) + 1)), (0, .ref (gb G + t)), (2, .int x2), (3, .int x3)] dX12_year_88 rfl (by decide) rfl ?_
          refine jd_aload_n (pc := 89) 3 dX12_year_89 rfl rfl ?_
          refine jd_iload_n (pc := 90) 4 dX12_year_90 rfl rfl ?_
          refine jd_iload_n (pc := 91) 5 dX12_year_91 rfl rfl ?_
          refine jd_iload (pc := 92) 1 dX12_year_92 rfl ?_
          refine jd_if_eq (pc := 94) 101 dX12_year_94 (by decide) (fun _ => ?_) (fun hc => absurd (show (0 : Int32) = 0 by decide) hc)
          refine jd_iload (pc := 101) 2 dX12_year_101 rfl ?_
          refine jd_callVv (pc := 103) (M2 := mX12_knows) (id := t) (ci := 11) (T := TX12) (N := 45) (av := [.int x2, .int x3, .int ((I (t + 21 + (Int32.toNatClampNeg x2)) (Int32.toNatClampNeg x3)) + 1)]) kX12_knows sX12_knows rfl ht.1 lX12_142 rfl rfl (Nat.le_of_ble_eq_true rfl) dX12_year_103 h ?_
          intro I9 J9 h
          refine jd_iinc (pc := 106) (v := (x3 + 1)) 5 [(3, .int (x3 + 1)), (1, .int (x1 + 0)), (5, .int 0), (4, .int ((I (t + 21 + (Int32.toNatClampNeg x2)) (Int32.toNatClampNeg x3)) + 1)), (0, .ref (gb G + t)), (2, .int x2)] dX12_year_106 rfl rfl (by decide) rfl ?_
          refine jd_goto (pc := 109) 14 dX12_year_109 (by decide) ?_
          exact jd_lv (lv2 := [(0, .ref (gb G + t)), (1, .int (x1 + 0)), (2, .int x2), (3, .int (x3 + 1))]) [4, 1, 5, 0] rfl h
        · have h := h.2 hc
          refine jd_iload (pc := 60) 0 dX12_year_60 rfl ?_
          refine jd_aload_n (pc := 62) 1 dX12_year_62 rfl rfl ?_
          refine jd_getI (pc := 63) (ci := 11) (k := 15) gX12_148 ht.1 rfl dX12_year_63 ?_
          refine jd_icmp_le (pc := 66) 73 dX12_year_66 (by decide) (fun hc => ?_) (fun hc => ?_)
          · have h := h.1 hc
            refine jd_iconst (pc := 73) (v := 0) dX12_year_73 (by decide) ?_
            refine jd_istore (pc := 74) [(5, .int 0), (4, .int ((I (t + 21 + (Int32.toNatClampNeg x2)) (Int32.toNatClampNeg x3)) + 1)), (0, .ref (gb G + t)), (1, .int x1), (2, .int x2), (3, .int x3)] dX12_year_74 (by decide) rfl ?_
            refine jd_iload_n (pc := 76) 3 dX12_year_76 rfl rfl ?_
            refine jd_iload (pc := 77) 0 dX12_year_77 rfl ?_
            refine jd_if_eq (pc := 79) 86 dX12_year_79 (by decide) (fun _ => ?_) (fun hc => absurd (show (0 : Int32) = 0 by decide) hc)
            refine jd_iconst (pc := 86) (v := 0) dX12_year_86 (by decide) ?_
            refine jd_iadd (pc := 87) dX12_year_87 ?_
            refine jd_istore_n (pc := 88) [(1, .int (x1 + 0)), (5, .int 0), (4, .int ((I (t + 21 + (Int32.toNatClampNeg x2)) (Int32.toNatClampNeg x3)) + 1)), (0, .ref (gb G + t)), (2, .int x2), (3, .int x3)] dX12_year_88 rfl (by decide) rfl ?_
            refine jd_aload_n (pc := 89) 3 dX12_year_89 rfl rfl ?_
            refine jd_iload_n (pc := 90) 4 dX12_year_90 rfl rfl ?_
            refine jd_iload_n (pc := 91) 5 dX12_year_91 rfl rfl ?_
            refine jd_iload (pc := 92) 1 dX12_year_92 rfl ?_
            refine jd_if_eq (pc := 94) 101 dX12_year_94 (by decide) (fun _ => ?_) (fun hc => absurd (show (0 : Int32) = 0 by decide) hc)
            refine jd_iload (pc := 101) 2 dX12_year_101 rfl ?_
            refine jd_callVv (pc := 103) (M2 := mX12_knows) (id := t) (ci := 11) (T := TX12) (N := 45) (av := [.int x2, .int x3, .int ((I (t + 21 + (Int32.toNatClampNeg x2)) (Int32.toNatClampNeg x3)) + 1)]) kX12_knows sX12_knows rfl ht.1 lX12_142 rfl rfl (Nat.le_of_ble_eq_true rfl) dX12_year_103 h ?_
            intro I11 J11 h
            refine jd_iinc (pc := 106) (v := (x3 + 1)) 5 [(3, .int (x3 + 1)), (1, .int (x1 + 0)), (5, .int 0), (4, .int ((I (t + 21 + (Int32.toNatClampNeg x2)) (Int32.toNatClampNeg x3)) + 1)), (0, .ref (gb G + t)), (2, .int x2)] dX12_year_106 rfl rfl (by decide) rfl ?_
            refine jd_goto (pc := 109) 14 dX12_year_109 (by decide) ?_
            exact jd_lv (lv2 := [(0, .ref (gb G + t)), (1, .int (x1 + 0)), (2, .int x2), (3, .int (x3 + 1))]) [4, 1, 5, 0] rfl h
          · have h := h.2 hc
            refine jd_iconst (pc := 69) (v := 1) dX12_year_69 (by decide) ?_
            refine jd_goto (pc := 70) 74 dX12_year_70 (by decide) ?_
            refine jd_istore (pc := 74) [(5, .int 1), (4, .int ((I (t + 21 + (Int32.toNatClampNeg x2)) (Int32.toNatClampNeg x3)) + 1)), (0, .ref (gb G + t)), (1, .int x1), (2, .int x2), (3, .int x3)] dX12_year_74 (by decide) rfl ?_
            refine jd_iload_n (pc := 76) 3 dX12_year_76 rfl rfl ?_
            refine jd_iload (pc := 77) 0 dX12_year_77 rfl ?_
            refine jd_if_eq (pc := 79) 86 dX12_year_79 (by decide) (fun hc => absurd hc (by decide)) (fun _ => ?_)
            refine jd_iconst (pc := 82) (v := 1) dX12_year_82 (by decide) ?_
            refine jd_goto (pc := 83) 87 dX12_year_83 (by decide) ?_
            refine jd_iadd (pc := 87) dX12_year_87 ?_
            refine jd_istore_n (pc := 88) [(1, .int (x1 + 1)), (5, .int 1), (4, .int ((I (t + 21 + (Int32.toNatClampNeg x2)) (Int32.toNatClampNeg x3)) + 1)), (0, .ref (gb G + t)), (2, .int x2), (3, .int x3)] dX12_year_88 rfl (by decide) rfl ?_
            refine jd_aload_n (pc := 89) 3 dX12_year_89 rfl rfl ?_
            refine jd_iload_n (pc := 90) 4 dX12_year_90 rfl rfl ?_
            refine jd_iload_n (pc := 91) 5 dX12_year_91 rfl rfl ?_
            refine jd_iload (pc := 92) 1 dX12_year_92 rfl ?_
            refine jd_if_eq (pc := 94) 101 dX12_year_94 (by decide) (fun hc => absurd hc (by decide)) (fun _ => ?_)
            refine jd_iconst (pc := 97) (v := (-1)) dX12_year_97 (by decide) ?_
            refine jd_goto (pc := 98) 103 dX12_year_98 (by decide) ?_
            refine jd_callVv (pc := 103) (M2 := mX12_knows) (id := t) (ci := 11) (T := TX12) (N := 45) (av := [.int x2, .int x3, .int (-1)]) kX12_knows sX12_knows rfl ht.1 lX12_142 rfl rfl (Nat.le_of_ble_eq_true rfl) dX12_year_103 h ?_
            intro I13 J13 h
            refine jd_iinc (pc := 106) (v := (x3 + 1)) 5 [(3, .int (x3 + 1)), (1, .int (x1 + 1)), (5, .int 1), (4, .int ((I (t + 21 + (Int32.toNatClampNeg x2)) (Int32.toNatClampNeg x3)) + 1)), (0, .ref (gb G + t)), (2, .int x2)] dX12_year_106 rfl rfl (by decide) rfl ?_
            refine jd_goto (pc := 109) 14 dX12_year_109 (by decide) ?_
            exact jd_lv (lv2 := [(0, .ref (gb G + t)), (1, .int (x1 + 1)), (2, .int x2), (3, .int (x3 + 1))]) [4, 1, 5, 0] rfl h
theorem eX12_year {G : jdG} {n : Nat} {Z : jdL} {I : jdI} {J : jdJ} {K : Int32 → jdI → jdJ → Prop} {t : Nat} (ht : zModel Z t) (h : Jd G mX12_year (jdFm G (qi Z K)) (n + 1) 0 0 4 [(0, .ref (gb G + t)), (1, .int 0), (2, .int 0)] [] Z I J) : Cl G mX12_year (n + 1) 0 0 [.ref (gb G + t)] Z I J (qi Z K) :=
  Cl.of (by decide +kernel) (Nat.le_of_ble_eq_true rfl) (rX12_year_0 ht h)
set_option maxRecDepth 4000 in
theorem rX12_below_0 {G : jdG} {n rc rs : Nat} {Z : jdL} {I : jdI} {J : jdJ} {K : Int32 → jdI → jdJ → Prop} {t : Nat} {x1 : Int32} (ht : zModel Z t) (h : (¬ x1 = 0 ∧ K ((Int32.toUInt32 (((I t 19) * 1103515245) + 12345) >>> (Int32.toUInt32 16 &&& Int32.toUInt32 31)).toInt32 - (Int32.toUInt32 (((I t 19) * 1103515245) + 12345) >>> (Int32.toUInt32 16 &&& Int32.toUInt32 31)).toInt32 / x1 * x1) (uI I t 19 (((I t 19) * 1103515245) + 12345)) J)) : Jd G mX12_below (jdFm G (qi Z K)) n rc rs 0 [(0, .ref (gb G + t)), (1, .int x1)] [] Z I J := by
  refine jd_aload_n (pc := 0) 0 dX12_below_0 rfl rfl ?_
  refine jd_aload_n (pc := 1) 0 dX12_below_1 rfl rfl ?_
  refine jd_getI (pc := 2) (ci := 11) (k := 19) gX12_55 ht.1 rfl dX12_below_2 ?_
  refine jd_ldcw (pc := 5) (v := 1103515245) qX12_367 dX12_below_5 ?_
  refine jd_imul (pc := 8) dX12_below_8 ?_
  refine jd_sipush (pc := 9) (v := 12345) dX12_below_9 (by decide) ?_
  refine jd_iadd (pc := 12) dX12_below_12 ?_
  refine jd_putI (pc := 13) (ci := 11) (k := 19) pX12_55 ht.1 rfl rfl rfl dX12_below_13 ?_
  refine jd_aload_n (pc := 16) 0 dX12_below_16 rfl rfl ?_
  refine jd_getIe (pc := 17) (ci := 11) (k := 19) (e := (((I t 19) * 1103515245) + 12345)) (uI_ss _ _ _ _) gX12_55 ht.1 rfl dX12_below_17 ?_
  refine jd_bipush (pc := 20) (v := 16) dX12_below_20 (by decide) ?_
  refine jd_iushr (pc := 22) dX12_below_22 ?_
  refine jd_iload_n (pc := 23) 1 dX12_below_23 rfl rfl ?_
  obtain ⟨hv1, h⟩ := h
  refine jd_irem (pc := 24) dX12_below_24 hv1 ?_
  exact jd_iretK (pc := 25) rfl rfl dX12_below_25 h
theorem eX12_below {G : jdG} {n : Nat} {Z : jdL} {I : jdI} {J : jdJ} {K : Int32 → jdI → jdJ → Prop} {t : Nat} {x1 : Int32} (ht : zModel Z t) (h : (¬ x1 = 0 ∧ K ((Int32.toUInt32 (((I t 19) * 1103515245) + 12345) >>> (Int32.toUInt32 16 &&& Int32.toUInt32 31)).toInt32 - (Int32.toUInt32 (((I t 19) * 1103515245) + 12345) >>> (Int32.toUInt32 16 &&& Int32.toUInt32 31)).toInt32 / x1 * x1) (uI I t 19 (((I t 19) * 1103515245) + 12345)) J)) : Cl G mX12_below (n) 0 0 [.ref (gb G + t), .int x1] Z I J (qi Z K) :=
  Cl.of (by decide +kernel) (Nat.le_of_ble_eq_true rfl) (rX12_below_0 ht h)
set_option maxRecDepth 4000 in
theorem rX12_come_0 {G : jdG} {n rc rs : Nat} {Z : jdL} {I : jdI} {J : jdJ} {K : Int32 → jdI → jdJ → Prop} {t : Nat} {x1 : Int32} (ht : zModel Z t) (h : Cl G mX12_in n 0 0 [.long (Int32.toInt64 x1), .long 1, .long 7] Z I J (qi Z (fun v2 I1 J1 => ((¬ v2 = 0 → Jd G mX12_come (jdFm G (qi Z K)) (n + 1) rc rs 21 [(0, .ref (gb G + t)), (1, .int x1), (2, .int 0)] [] Z I1 J1) ∧ (v2 = 0 → Cl G mX12_refuse n 0 0 [.ref (gb G + t), .int (-2)] Z I1 J1 (qi Z (fun v4 I3 J3 => K v4 I3 J3))))))) : Jd G mX12_come (jdFm G (qi Z K)) (n + 1) rc rs 0 [(0, .ref (gb G + t)), (1, .int x1)] [] Z I J := by
  refine jd_iload_n (pc := 0) 1 dX12_come_0 rfl rfl ?_
  refine jd_i2l (pc := 1) dX12_come_1 ?_
  refine jd_lconst (pc := 2) (v := 1) dX12_come_2 (by decide) ?_
  refine jd_ldc2 (pc := 3) (v := 7) qX12_96 dX12_come_3 ?_
  refine jd_callSi (pc := 6) (M2 := mX12_in) (av := [.long (Int32.toInt64 x1), .long 1, .long 7]) kX12_in sX12_in lX12_88 rfl rfl (Nat.le_of_ble_eq_true rfl) dX12_come_6 h ?_
  intro v2 I1 J1 h
  refine jd_if_ne (pc := 9) 19 dX12_come_9 (by decide) (fun hc => ?_) (fun hc => ?_)
  · have h := h.1 hc
    refine jd_iconst (pc := 19) (v := 0) dX12_come_19 (by decide) ?_
    refine jd_istore_n (pc := 20) [(2, .int 0), (0, .ref (gb G + t)), (1, .int x1)] dX12_come_20 rfl (by decide) rfl ?_
    exact jd_lv (lv2 := [(0, .ref (gb G + t)), (1, .int x1), (2, .int 0)]) [1, 2, 0] rfl h
  · have h := h.2 hc
    refine jd_aload_n (pc := 12) 0 dX12_come_12 rfl rfl ?_
    refine jd_bipush (pc := 13) (v := (-2)) dX12_come_13 (by decide) ?_
    refine jd_callVi (pc := 15) (M2 := mX12_refuse) (id := t) (ci := 11) (T := TX12) (N := 45) (av := [.int (-2)]) kX12_refuse sX12_refuse rfl ht.1 lX12_102 rfl rfl (Nat.le_of_ble_eq_true rfl) dX12_come_15 h ?_
    intro v4 I3 J3 h
    exact jd_iretK (pc := 18) rfl rfl dX12_come_18 h
set_option maxRecDepth 4000 in
theorem rX12_come_21 {G : jdG} {n rc rs : Nat} {Z : jdL} {I : jdI} {J : jdJ} {K : Int32 → jdI → jdJ → Prop} {t : Nat} {x1 : Int32} {x2 : Int32} (ht : zModel Z t) (h : ((x1 ≤ x2 → K x2 I J) ∧ (¬ x1 ≤ x2 → ((7 ≤ (I t 10) → K x2 I J) ∧ (¬ 7 ≤ (I t 10) → Cl G mX12_below n 0 0 [.ref (gb G + t), .int 24] Z I J (qi Z (fun v2 I1 J1 => Cl G mX12_below n 0 0 [.ref (gb G + t), .int 10] Z I1 J1 (qi Z (fun v4 I3 J3 => Cl G mX12_addOne n 0 0 [.ref (gb G + t), .int v2, .int v4] Z I3 J3 (qv Z (fun I5 J5 => Jd G mX12_come (jdFm G (qi Z K)) (n + 1) rc rs 56 [(0, .ref (gb G + t)), (1, .int x1), (2, .int x2), (3, .int v2), (4, .int 0)] [] Z I5 J5))))))))))) : Jd G mX12_come (jdFm G (qi Z K)) (n + 1) rc rs 21 [(0, .ref (gb G + t)), (1, .int x1), (2, .int x2)] [] Z I J := by
  refine jd_iload_n (pc := 21) 2 dX12_come_21 rfl rfl ?_
  refine jd_iload_n (pc := 22) 1 dX12_come_22 rfl rfl ?_
  refine jd_icmp_ge (pc := 23) 100 dX12_come_23 (by decide) (fun hc => ?_) (fun hc => ?_)
  · have h := h.1 hc
    refine jd_iload_n (pc := 100) 2 dX12_come_100 rfl rfl ?_
    exact jd_iretK (pc := 101) rfl rfl dX12_come_101 h
  · have h := h.2 hc
    refine jd_aload_n (pc := 26) 0 dX12_come_26 rfl rfl ?_
    refine jd_getI (pc := 27) (ci := 11) (k := 10) gX12_85 ht.1 rfl dX12_come_27 ?_
    refine jd_bipush (pc := 30) (v := 7) dX12_come_30 (by decide) ?_
    refine jd_icmp_ge (pc := 32) 100 dX12_come_32 (by decide) (fun hc => ?_) (fun hc => ?_)
    · have h := h.1 hc
      refine jd_iload_n (pc := 100) 2 dX12_come_100 rfl rfl ?_
      exact jd_iretK (pc := 101) rfl rfl dX12_come_101 h
    · have h := h.2 hc
      refine jd_aload_n (pc := 35) 0 dX12_come_35 rfl rfl ?_
      refine jd_bipush (pc := 36) (v := 24) dX12_come_36 (by decide) ?_
      refine jd_callVi (pc := 38) (M2 := mX12_below) (id := t) (ci := 11) (T := TX12) (N := 45) (av := [.int 24]) kX12_below sX12_below rfl ht.1 lX12_368 rfl rfl (Nat.le_of_ble_eq_true rfl) dX12_come_38 h ?_
      intro v2 I1 J1 h
      refine jd_istore_n (pc := 41) [(3, .int v2), (0, .ref (gb G + t)), (1, .int x1), (2, .int x2)] dX12_come_41 rfl (by decide) rfl ?_
      refine jd_aload_n (pc := 42) 1 dX12_come_42 rfl rfl ?_
      refine jd_iload_n (pc := 43) 0 dX12_come_43 rfl rfl ?_
      refine jd_aload_n (pc := 44) 1 dX12_come_44 rfl rfl ?_
      refine jd_bipush (pc := 45) (v := 10) dX12_come_45 (by decide) ?_
      refine jd_callVi (pc := 47) (M2 := mX12_below) (id := t) (ci := 11) (T := TX12) (N := 45) (av := [.int 10]) kX12_below sX12_below rfl ht.1 lX12_368 rfl rfl (Nat.le_of_ble_eq_true rfl) dX12_come_47 h ?_
      intro v4 I3 J3 h
      refine jd_callVv (pc := 50) (M2 := mX12_addOne) (id := t) (ci := 11) (T := TX12) (N := 45) (av := [.int v2, .int v4]) kX12_addOne sX12_addOne rfl ht.1 lX12_127 rfl rfl (Nat.le_of_ble_eq_true rfl) dX12_come_50 h ?_
      intro I5 J5 h
      refine jd_iconst (pc := 53) (v := 0) dX12_come_53 (by decide) ?_
      refine jd_istore (pc := 54) [(4, .int 0), (3, .int v2), (0, .ref (gb G + t)), (1, .int x1), (2, .int x2)] dX12_come_54 (by decide) rfl ?_
      exact jd_lv (lv2 := [(0, .ref (gb G + t)), (1, .int x1), (2, .int x2), (3, .int v2), (4, .int 0)]) [2, 3, 4, 1, 0] rfl h
set_option maxRecDepth 4000 in
theorem rX12_come_56 {G : jdG} {n rc rs : Nat} {Z : jdL} {I : jdI} {J : jdJ} {K : Int32 → jdI → jdJ → Prop} {t : Nat} {x1 : Int32} {x2 : Int32} {x3 : Int32} {x4 : Int32} (ht : zModel Z t) (h : ((((I t 10) - 1) ≤ x4 → Jd G mX12_come (jdFm G (qi Z K)) (n + 1) rc rs 21 [(0, .ref (gb G + t)), (1, .int x1), (2, .int (x2 + 1))] [] Z I J) ∧ (¬ ((I t 10) - 1) ≤ x4 → Cl G mX12_below n 0 0 [.ref (gb G + t), .int 3] Z I J (qi Z (fun v2 I1 J1 => ((¬ v2 = 0 → Jd G mX12_come (jdFm G (qi Z K)) (n + 1) rc rs 56 [(0, .ref (gb G + t)), (1, .int x1), (2, .int x2), (3, .int x3), (4, .int (x4 + 1))] [] Z I1 J1) ∧ (v2 = 0 → Cl G mX12_knows n 0 0 [.ref (gb G + t), .int ((I1 t 10) - 1), .int x4, .int 0] Z I1 J1 (qv Z (fun I3 J3 => Jd G mX12_come (jdFm G (qi Z K)) (n + 1) rc rs 56 [(0, .ref (gb G + t)), (1, .int x1), (2, .int x2), (3, .int x3), (4, .int (x4 + 1))] [] Z I3 J3))))))))) : Jd G mX12_come (jdFm G (qi Z K)) (n + 1) rc rs 56 [(0, .ref (gb G + t)), (1, .int x1), (2, .int x2), (3, .int x3), (4, .int x4)] [] Z I J := by
  refine jd_iload (pc := 56) 4 dX12_come_56 rfl ?_
  refine jd_aload_n (pc := 58) 0 dX12_come_58 rfl rfl ?_
  refine jd_getI (pc := 59) (ci := 11) (k := 10) gX12_85 ht.1 rfl dX12_come_59 ?_
  refine jd_iconst (pc := 62) (v := 1) dX12_come_62 (by decide) ?_
  refine jd_isub (pc := 63) dX12_come_63 ?_
  refine jd_icmp_ge (pc := 64) 94 dX12_come_64 (by decide) (fun hc => ?_) (fun hc => ?_)
  · have h := h.1 hc
    refine jd_iinc (pc := 94) (v := (x2 + 1)) 2 [(2, .int (x2 + 1)), (0, .ref (gb G + t)), (1, .int x1), (3, .int x3), (4, .int x4)] dX12_come_94 rfl rfl (by decide) rfl ?_
    refine jd_goto (pc := 97) 21 dX12_come_97 (by decide) ?_
    exact jd_lv (lv2 := [(0, .ref (gb G + t)), (1, .int x1), (2, .int (x2 + 1))]) [1, 2, 0] rfl h
  · have h := h.2 hc
    refine jd_aload_n (pc := 67) 0 dX12_come_67 rfl rfl ?_
    refine jd_iconst (pc := 68) (v := 3) dX12_come_68 (by decide) ?_
    refine jd_callVi (pc := 69) (M2 := mX12_below) (id := t) (ci := 11) (T := TX12) (N := 45) (av := [.int 3]) kX12_below sX12_below rfl ht.1 lX12_368 rfl rfl (Nat.le_of_ble_eq_true rfl) dX12_come_69 h ?_
    intro v2 I1 J1 h
    refine jd_if_ne (pc := 72) 88 dX12_come_72 (by decide) (fun hc => ?_) (fun hc => ?_)
    · have h := h.1 hc
      refine jd_iinc (pc := 88) (v := (x4 + 1)) 4 [(4, .int (x4 + 1)), (0, .ref (gb G + t)), (1, .int x1), (2, .int x2), (3, .int x3)] dX12_come_88 rfl rfl (by decide) rfl ?_
      refine jd_goto (pc := 91) 56 dX12_come_91 (by decide) ?_
      exact jd_lv (lv2 := [(0, .ref (gb G + t)), (1, .int x1), (2, .int x2), (3, .int x3), (4, .int (x4 + 1))]) [1, 2, 3, 4, 0] rfl h
    · have h := h.2 hc
      refine jd_aload_n (pc := 75) 0 dX12_come_75 rfl rfl ?_
      refine jd_aload_n (pc := 76) 0 dX12_come_76 rfl rfl ?_
      refine jd_getI (pc := 77) (ci := 11) (k := 10) gX12_85 ht.1 rfl dX12_come_77 ?_
      refine jd_iconst (pc := 80) (v := 1) dX12_come_80 (by decide) ?_
      refine jd_isub (pc := 81) dX12_come_81 ?_
      refine jd_iload (pc := 82) 4 dX12_come_82 rfl ?_
      refine jd_iconst (pc := 84) (v := 0) dX12_come_84 (by decide) ?_
      refine jd_callVv (pc := 85) (M2 := mX12_knows) (id := t) (ci := 11) (T := TX12) (N := 45) (av := [.int ((I1 t 10) - 1), .int x4, .int 0]) kX12_knows sX12_knows rfl ht.1 lX12_142 rfl rfl (Nat.le_of_ble_eq_true rfl) dX12_come_85 h ?_
      intro I3 J3 h
      refine jd_iinc (pc := 88) (v := (x4 + 1)) 4 [(4, .int (x4 + 1)), (0, .ref (gb G + t)), (1, .int x1), (2, .int x2), (3, .int x3)] dX12_come_88 rfl rfl (by decide) rfl ?_
      refine jd_goto (pc := 91) 56 dX12_come_91 (by decide) ?_
      exact jd_lv (lv2 := [(0, .ref (gb G + t)), (1, .int x1), (2, .int x2), (3, .int x3), (4, .int (x4 + 1))]) [1, 2, 3, 4, 0] rfl h
theorem eX12_come {G : jdG} {n : Nat} {Z : jdL} {I : jdI} {J : jdJ} {K : Int32 → jdI → jdJ → Prop} {t : Nat} {x1 : Int32} (ht : zModel Z t) (h : Cl G mX12_in n 0 0 [.long (Int32.toInt64 x1), .long 1, .long 7] Z I J (qi Z (fun v2 I1 J1 => ((¬ v2 = 0 → Jd G mX12_come (jdFm G (qi Z K)) (n + 1) 0 0 21 [(0, .ref (gb G + t)), (1, .int x1), (2, .int 0)] [] Z I1 J1) ∧ (v2 = 0 → Cl G mX12_refuse n 0 0 [.ref (gb G + t), .int (-2)] Z I1 J1 (qi Z (fun v4 I3 J3 => K v4 I3 J3))))))) : Cl G mX12_come (n + 1) 0 0 [.ref (gb G + t), .int x1] Z I J (qi Z K) :=
  Cl.of (by decide +kernel) (Nat.le_of_ble_eq_true rfl) (rX12_come_0 ht h)
set_option maxRecDepth 4000 in
theorem rX12_seed_0 {G : jdG} {n rc rs : Nat} {Z : jdL} {I : jdI} {J : jdJ} {K : Int32 → jdI → jdJ → Prop} {t : Nat} {x1 : Int32} (ht : zModel Z t) (h : K (I t 19) (uI I t 19 x1) J) : Jd G mX12_seed (jdFm G (qi Z K)) n rc rs 0 [(0, .ref (gb G + t)), (1, .int x1)] [] Z I J := by
  refine jd_aload_n (pc := 0) 0 dX12_seed_0 rfl rfl ?_
  refine jd_getI (pc := 1) (ci := 11) (k := 19) gX12_55 ht.1 rfl dX12_seed_1 ?_
  refine jd_istore_n (pc := 4) [(2, .int (I t 19)), (0, .ref (gb G + t)), (1, .int x1)] dX12_seed_4 rfl (by decide) rfl ?_
  refine jd_aload_n (pc := 5) 1 dX12_seed_5 rfl rfl ?_
  refine jd_iload_n (pc := 6) 2 dX12_seed_6 rfl rfl ?_
  refine jd_putI (pc := 7) (ci := 11) (k := 19) pX12_55 ht.1 rfl rfl rfl dX12_seed_7 ?_
  refine jd_iload_n (pc := 10) 0 dX12_seed_10 rfl rfl ?_
  exact jd_iretK (pc := 11) rfl rfl dX12_seed_11 h
theorem eX12_seed {G : jdG} {n : Nat} {Z : jdL} {I : jdI} {J : jdJ} {K : Int32 → jdI → jdJ → Prop} {t : Nat} {x1 : Int32} (ht : zModel Z t) (h : K (I t 19) (uI I t 19 x1) J) : Cl G mX12_seed (n) 0 0 [.ref (gb G + t), .int x1] Z I J (qi Z K) :=
  Cl.of (by decide +kernel) (Nat.le_of_ble_eq_true rfl) (rX12_seed_0 ht h)
set_option maxRecDepth 4000 in
theorem rX12_fresh_0 {G : jdG} {n rc rs : Nat} {Z : jdL} {I : jdI} {J : jdJ} {Q : jdQ} {t : Nat} (ht : zModel Z t) (h : (((Z).2.1 t 21 = none → (∃ rc3 rs3 : Nat, 1 + rc3 ≤ rc ∧ 45 + rs3 ≤ rs ∧ (zModel (nZ Z (11 + 10, 0)) t ∧ (∃ mc4 ms4 rc4 rs4 : Nat, mc4 + rc4 ≤ rc3 ∧ ms4 + rs4 ≤ rs3 ∧ Cl G mX12_init n mc4 ms4 [.ref (gb G + (Z).2.2)] (nZ Z (11 + 10, 0)) (zI I (Z).2.2) J (fun r4 Z4 I4 J4 => r4 = none ∧ (zModel Z4 t ∧ (zModel (uP Z4 t 21 (some (Z).2.2)) t ∧ ((((uP Z4 t 21 (some (Z).2.2))).2.1 t 21 = none → False) ∧ (∀ w6, ((uP Z4 t 21 (some (Z).2.2))).2.1 t 21 = some w6 → (zModel (uP Z4 t 21 (some (Z).2.2)) w6 ∧ Cl G mX12_takeFrom n 0 0 [.ref (gb G + w6), .ref (gb G + t)] (uP Z4 t 21 (some (Z).2.2)) I4 J4 (qv (uP Z4 t 21 (some (Z).2.2)) (fun I7 J7 => ((((uP Z4 t 21 (some (Z).2.2))).2.1 t 21 = none → Q (some .null) (uP Z4 t 21 (some (Z).2.2)) I7 J7) ∧ (∀ w10, ((uP Z4 t 21 (some (Z).2.2))).2.1 t 21 = some w10 → (zModel (uP Z4 t 21 (some (Z).2.2)) w10 ∧ Q (some (.ref (gb G + w10))) (uP Z4 t 21 (some (Z).2.2)) I7 J7))))))))))))))) ∧ (∀ w2, (Z).2.1 t 21 = some w2 → (zModel Z w2 ∧ (((Z).2.1 t 21 = none → False) ∧ (∀ w12, (Z).2.1 t 21 = some w12 → (zModel Z w12 ∧ Cl G mX12_takeFrom n 0 0 [.ref (gb G + w12), .ref (gb G + t)] Z I J (qv Z (fun I13 J13 => (((Z).2.1 t 21 = none → Q (some .null) Z I13 J13) ∧ (∀ w16, (Z).2.1 t 21 = some w16 → (zModel Z w16 ∧ Q (some (.ref (gb G + w16))) Z I13 J13)))))))))))) : Jd G mX12_fresh (jdFm G Q) (n + 1) rc rs 0 [(0, .ref (gb G + t))] [] Z I J := by
  refine jd_aload_n (pc := 0) 0 dX12_fresh_0 rfl rfl ?_
  rcases hq1 : (Z).2.1 t 21 with _ | w2
  · have h := h.1 hq1
    refine jd_getN (pc := 1) (ci := 11) (k := 21) gX12_371 ht.1 rfl hq1 dX12_fresh_1 ?_
    refine jd_ifnonnullN (pc := 4) dX12_fresh_4 ?_
    refine jd_aload_n (pc := 7) 0 dX12_fresh_7 rfl rfl ?_
    obtain ⟨rc3, rs3, hb1, hb2, h⟩ := h
    refine jd_new (pc := 8) (ci := 11) (N := 45) nX12_8 hb1 hb2 dX12_fresh_8 ?_
    obtain ⟨ht, h⟩ := h
    refine jd_dup (pc := 11) dX12_fresh_11 rfl ?_
    obtain ⟨mc4, ms4, rc4, rs4, hb1, hb2, h⟩ := h
    refine jd_callI (pc := 12) (M2 := mX12_init) (id := (Z).2.2) (rc2 := rc4) (rs2 := rs4) (av := []) kX12_init sX12_init lX12_375 rfl rfl (Nat.le_of_ble_eq_true rfl) hb1 hb2 dX12_fresh_12 (Cl.mono h (fun r4 Z4 I4 J4 h => ?_))
    obtain ⟨rfl, h⟩ := h
    obtain ⟨ht, h⟩ := h
    refine jd_putR (pc := 15) (ci := 11) (k := 21) pX12_371 ht.1 rfl rfl rfl dX12_fresh_15 ?_
    obtain ⟨ht, h⟩ := h
    refine jd_aload_n (pc := 18) 0 dX12_fresh_18 rfl rfl ?_
    rcases hq5 : ((uP Z4 t 21 (some (Z).2.2))).2.1 t 21 with _ | w6
    · have h := h.1 hq5
      refine jd_getN (pc := 19) (ci := 11) (k := 21) gX12_371 ht.1 rfl hq5 dX12_fresh_19 ?_
      refine jd_aload_n (pc := 22) 0 dX12_fresh_22 rfl rfl ?_
      exact h.elim
    · have h := h.2 w6 hq5
      refine jd_getR (pc := 19) (ci := 11) (k := 21) (r := w6) gX12_371 ht.1 rfl hq5 dX12_fresh_19 ?_
      obtain ⟨hzw6, h⟩ := h
      refine jd_aload_n (pc := 22) 0 dX12_fresh_22 rfl rfl ?_
      refine jd_callVv (pc := 23) (M2 := mX12_takeFrom) (id := w6) (ci := 11) (T := TX12) (N := 45) (av := [.ref (gb G + t)]) kX12_takeFrom sX12_takeFrom rfl hzw6.1 lX12_245 rfl rfl (Nat.le_of_ble_eq_true rfl) dX12_fresh_23 h ?_
      intro I7 J7 h
      refine jd_aload_n (pc := 26) 0 dX12_fresh_26 rfl rfl ?_
      rcases hq9 : ((uP Z4 t 21 (some (Z).2.2))).2.1 t 21 with _ | w10
      · have h := h.1 hq9
        refine jd_getN (pc := 27) (ci := 11) (k := 21) gX12_371 ht.1 rfl hq9 dX12_fresh_27 ?_
        exact jd_aret (pc := 30) rfl (Or.inl rfl) dX12_fresh_30 h
      · have h := h.2 w10 hq9
        refine jd_getR (pc := 27) (ci := 11) (k := 21) (r := w10) gX12_371 ht.1 rfl hq9 dX12_fresh_27 ?_
        obtain ⟨hzw10, h⟩ := h
        exact jd_aret (pc := 30) rfl (Or.inr ⟨_, rfl⟩) dX12_fresh_30 h
  · have h := h.2 w2 hq1
    refine jd_getR (pc := 1) (ci := 11) (k := 21) (r := w2) gX12_371 ht.1 rfl hq1 dX12_fresh_1 ?_
    obtain ⟨hzw2, h⟩ := h
    refine jd_ifnonnull (pc := 4) 18 dX12_fresh_4 (by decide) ?_
    refine jd_aload_n (pc := 18) 0 dX12_fresh_18 rfl rfl ?_
    rcases hq11 : (Z).2.1 t 21 with _ | w12
    · have h := h.1 hq11
      refine jd_getN (pc := 19) (ci := 11) (k := 21) gX12_371 ht.1 rfl hq11 dX12_fresh_19 ?_
      refine jd_aload_n (pc := 22) 0 dX12_fresh_22 rfl rfl ?_
      exact h.elim
    · have h := h.2 w12 hq11
      refine jd_getR (pc := 19) (ci := 11) (k := 21) (r := w12) gX12_371 ht.1 rfl hq11 dX12_fresh_19 ?_
      obtain ⟨hzw12, h⟩ := h
      refine jd_aload_n (pc := 22) 0 dX12_fresh_22 rfl rfl ?_
      refine jd_callVv (pc := 23) (M2 := mX12_takeFrom) (id := w12) (ci := 11) (T := TX12) (N := 45) (av := [.ref (gb G + t)]) kX12_takeFrom sX12_takeFrom rfl hzw12.1 lX12_245 rfl rfl (Nat.le_of_ble_eq_true rfl) dX12_fresh_23 h ?_
      intro I13 J13 h
      refine jd_aload_n (pc := 26) 0 dX12_fresh_26 rfl rfl ?_
      rcases hq15 : (Z).2.1 t 21 with _ | w16
      · have h := h.1 hq15
        refine jd_getN (pc := 27) (ci := 11) (k := 21) gX12_371 ht.1 rfl hq15 dX12_fresh_27 ?_
        exact jd_aret (pc := 30) rfl (Or.inl rfl) dX12_fresh_30 h
      · have h := h.2 w16 hq15
        refine jd_getR (pc := 27) (ci := 11) (k := 21) (r := w16) gX12_371 ht.1 rfl hq15 dX12_fresh_27 ?_
        obtain ⟨hzw16, h⟩ := h
        exact jd_aret (pc := 30) rfl (Or.inr ⟨_, rfl⟩) dX12_fresh_30 h
theorem eX12_fresh {G : jdG} {n mc ms : Nat} {Z : jdL} {I : jdI} {J : jdJ} {Q : jdQ} {t : Nat} (ht : zModel Z t) (h : (((Z).2.1 t 21 = none → (∃ rc3 rs3 : Nat, 1 + rc3 ≤ mc ∧ 45 + rs3 ≤ ms ∧ (zModel (nZ Z (11 + 10, 0)) t ∧ (∃ mc4 ms4 rc4 rs4 : Nat, mc4 + rc4 ≤ rc3 ∧ ms4 + rs4 ≤ rs3 ∧ Cl G mX12_init n mc4 ms4 [.ref (gb G + (Z).2.2)] (nZ Z (11 + 10, 0)) (zI I (Z).2.2) J (fun r4 Z4 I4 J4 => r4 = none ∧ (zModel Z4 t ∧ (zModel (uP Z4 t 21 (some (Z).2.2)) t ∧ ((((uP Z4 t 21 (some (Z).2.2))).2.1 t 21 = none → False) ∧ (∀ w6, ((uP Z4 t 21 (some (Z).2.2))).2.1 t 21 = some w6 → (zModel (uP Z4 t 21 (some (Z).2.2)) w6 ∧ Cl G mX12_takeFrom n 0 0 [.ref (gb G + w6), .ref (gb G + t)] (uP Z4 t 21 (some (Z).2.2)) I4 J4 (qv (uP Z4 t 21 (some (Z).2.2)) (fun I7 J7 => ((((uP Z4 t 21 (some (Z).2.2))).2.1 t 21 = none → Q (some .null) (uP Z4 t 21 (some (Z).2.2)) I7 J7) ∧ (∀ w10, ((uP Z4 t 21 (some (Z).2.2))).2.1 t 21 = some w10 → (zModel (uP Z4 t 21 (some (Z).2.2)) w10 ∧ Q (some (.ref (gb G + w10))) (uP Z4 t 21 (some (Z).2.2)) I7 J7))))))))))))))) ∧ (∀ w2, (Z).2.1 t 21 = some w2 → (zModel Z w2 ∧ (((Z).2.1 t 21 = none → False) ∧ (∀ w12, (Z).2.1 t 21 = some w12 → (zModel Z w12 ∧ Cl G mX12_takeFrom n 0 0 [.ref (gb G + w12), .ref (gb G + t)] Z I J (qv Z (fun I13 J13 => (((Z).2.1 t 21 = none → Q (some .null) Z I13 J13) ∧ (∀ w16, (Z).2.1 t 21 = some w16 → (zModel Z w16 ∧ Q (some (.ref (gb G + w16))) Z I13 J13)))))))))))) : Cl G mX12_fresh (n + 1) mc ms [.ref (gb G + t)] Z I J Q :=
  Cl.of (by decide +kernel) (Nat.le_of_ble_eq_true rfl) (rX12_fresh_0 ht h)
set_option maxRecDepth 4000 in
theorem rX12_over_0 {G : jdG} {n rc rs : Nat} {Z : jdL} {I : jdI} {J : jdJ} {K : jdI → jdJ → Prop} {u0 : Nat} {n0 : Nat} {u1 : Nat} {n1 : Nat} (hu0 : Z.1 u0 = some (0, n0)) (hu1 : Z.1 u1 = some (0, n1)) (h : Jd G mX12_over (jdFm G (qv Z K)) n rc rs 2 [(0, .ref (gb G + u0)), (1, .ref (gb G + u1)), (2, .int 0)] [] Z I J) : Jd G mX12_over (jdFm G (qv Z K)) n rc rs 0 [(0, .ref (gb G + u0)), (1, .ref (gb G + u1))] [] Z I J := by
  refine jd_iconst (pc := 0) (v := 0) dX12_over_0 (by decide) ?_
  refine jd_istore_n (pc := 1) [(2, .int 0), (0, .ref (gb G + u0)), (1, .ref (gb G + u1))] dX12_over_1 rfl (by decide) rfl ?_
  exact jd_lv (lv2 := [(0, .ref (gb G + u0)), (1, .ref (gb G + u1)), (2, .int 0)]) [1, 2, 0] rfl h
set_option maxRecDepth 4000 in
theorem rX12_over_2 {G : jdG} {n rc rs : Nat} {Z : jdL} {I : jdI} {J : jdJ} {K : jdI → jdJ → Prop} {n1 : Nat} {u1 : Nat} {n0 : Nat} {u0 : Nat} {x2 : Int32} (hu0 : Z.1 u0 = some (0, n0)) (hu1 : Z.1 u1 = some (0, n1)) (h : (((Int32.ofNat n0) ≤ x2 → K I J) ∧ (¬ (Int32.ofNat n0) ≤ x2 → (vp_in x2 n0 ∧ (vp_in x2 n1 ∧ Jd G mX12_over (jdFm G (qv Z K)) n rc rs 2 [(0, .ref (gb G + u0)), (1, .ref (gb G + u1)), (2, .int (x2 + 1))] [] Z (uI I u1 (Int32.toNatClampNeg x2) (I u0 (Int32.toNatClampNeg x2))) J))))) : Jd G mX12_over (jdFm G (qv Z K)) n rc rs 2 [(0, .ref (gb G + u0)), (1, .ref (gb G + u1)), (2, .int x2)] [] Z I J := by
  refine jd_iload_n (pc := 2) 2 dX12_over_2 rfl rfl ?_
  refine jd_aload_n (pc := 3) 0 dX12_over_3 rfl rfl ?_
  refine jd_alenI (pc := 4) (len := n0) (v := (Int32.ofNat n0)) hu0 rfl dX12_over_4 ?_
  refine jd_icmp_ge (pc := 5) 20 dX12_over_5 (by decide) (fun hc => ?_) (fun hc => ?_)
  · have h := h.1 hc
    exact jd_vretK (pc := 20) rfl dX12_over_20 h
  · have h := h.2 hc
    refine jd_aload_n (pc := 8) 1 dX12_over_8 rfl rfl ?_
    refine jd_iload_n (pc := 9) 2 dX12_over_9 rfl rfl ?_
    refine jd_aload_n (pc := 10) 0 dX12_over_10 rfl rfl ?_
    refine jd_iload_n (pc := 11) 2 dX12_over_11 rfl rfl ?_
    obtain ⟨hv1, h⟩ := h
    refine jd_iald (pc := 12) (len := n0) hu0 hv1 dX12_over_12 ?_
    obtain ⟨hv2, h⟩ := h
    refine jd_iast (pc := 13) (len := n1) hu1 hv2 dX12_over_13 ?_
    refine jd_iinc (pc := 14) (v := (x2 + 1)) 2 [(2, .int (x2 + 1)), (0, .ref (gb G + u0)), (1, .ref (gb G + u1))] dX12_over_14 rfl rfl (by decide) rfl ?_
    refine jd_goto (pc := 17) 2 dX12_over_17 (by decide) ?_
    exact jd_lv (lv2 := [(0, .ref (gb G + u0)), (1, .ref (gb G + u1)), (2, .int (x2 + 1))]) [1, 2, 0] rfl h
theorem eX12_over {G : jdG} {n : Nat} {Z : jdL} {I : jdI} {J : jdJ} {K : jdI → jdJ → Prop} {u0 : Nat} {n0 : Nat} {u1 : Nat} {n1 : Nat} (hu0 : Z.1 u0 = some (0, n0)) (hu1 : Z.1 u1 = some (0, n1)) (h : Jd G mX12_over (jdFm G (qv Z K)) n 0 0 2 [(0, .ref (gb G + u0)), (1, .ref (gb G + u1)), (2, .int 0)] [] Z I J) : Cl G mX12_over (n) 0 0 [.ref (gb G + u0), .ref (gb G + u1)] Z I J (qv Z K) :=
  Cl.of (by decide +kernel) (Nat.le_of_ble_eq_true rfl) (rX12_over_0 hu0 hu1 h)
set_option maxRecDepth 4000 in
theorem rX12_takeFrom_0 {G : jdG} {n rc rs : Nat} {Z : jdL} {I : jdI} {J : jdJ} {K : jdI → jdJ → Prop} {t : Nat} {u1 : Nat} (ht : zModel Z t) (hu1 : zModel Z u1) (h : Cl G mX12_over n 0 0 [.ref (gb G + (u1 + 18)), .ref (gb G + (t + 18))] Z (uI I t 10 (I u1 10)) J (qv Z (fun I1 J1 => Cl G mX12_over n 0 0 [.ref (gb G + (u1 + 19)), .ref (gb G + (t + 19))] Z I1 J1 (qv Z (fun I3 J3 => Jd G mX12_takeFrom (jdFm G (qv Z K)) (n + 1) rc rs 32 [(0, .ref (gb G + t)), (1, .ref (gb G + u1)), (2, .int 0)] [] Z I3 J3))))) : Jd G mX12_takeFrom (jdFm G (qv Z K)) (n + 1) rc rs 0 [(0, .ref (gb G + t)), (1, .ref (gb G + u1))] [] Z I J := by
  refine jd_aload_n (pc := 0) 0 dX12_takeFrom_0 rfl rfl ?_
  refine jd_aload_n (pc := 1) 1 dX12_takeFrom_1 rfl rfl ?_
  refine jd_getI (pc := 2) (ci := 11) (k := 10) gX12_85 hu1.1 rfl dX12_takeFrom_2 ?_
  refine jd_putI (pc := 5) (ci := 11) (k := 10) pX12_85 ht.1 rfl rfl rfl dX12_takeFrom_5 ?_
  refine jd_aload_n (pc := 8) 1 dX12_takeFrom_8 rfl rfl ?_
  refine jd_getR (pc := 9) (ci := 11) (k := 11) (r := (u1 + 18)) gX12_40 hu1.1 rfl (zModel_p11 hu1) dX12_takeFrom_9 ?_
  refine jd_aload_n (pc := 12) 0 dX12_takeFrom_12 rfl rfl ?_
  refine jd_getR (pc := 13) (ci := 11) (k := 11) (r := (t + 18)) gX12_40 ht.1 rfl (zModel_p11 ht) dX12_takeFrom_13 ?_
  refine jd_callSv (pc := 16) (M2 := mX12_over) (av := [.ref (gb G + (u1 + 18)), .ref (gb G + (t + 18))]) kX12_over sX12_over lX12_376 rfl rfl (Nat.le_of_ble_eq_true rfl) dX12_takeFrom_16 h ?_
  intro I1 J1 h
  refine jd_aload_n (pc := 19) 1 dX12_takeFrom_19 rfl rfl ?_
  refine jd_getR (pc := 20) (ci := 11) (k := 12) (r := (u1 + 19)) gX12_43 hu1.1 rfl (zModel_p12 hu1) dX12_takeFrom_20 ?_
  refine jd_aload_n (pc := 23) 0 dX12_takeFrom_23 rfl rfl ?_
  refine jd_getR (pc := 24) (ci := 11) (k := 12) (r := (t + 19)) gX12_43 ht.1 rfl (zModel_p12 ht) dX12_takeFrom_24 ?_
  refine jd_callSv (pc := 27) (M2 := mX12_over) (av := [.ref (gb G + (u1 + 19)), .ref (gb G + (t + 19))]) kX12_over sX12_over lX12_376 rfl rfl (Nat.le_of_ble_eq_true rfl) dX12_takeFrom_27 h ?_
  intro I3 J3 h
  refine jd_iconst (pc := 30) (v := 0) dX12_takeFrom_30 (by decide) ?_
  refine jd_istore_n (pc := 31) [(2, .int 0), (0, .ref (gb G + t)), (1, .ref (gb G + u1))] dX12_takeFrom_31 rfl (by decide) rfl ?_
  exact jd_lv (lv2 := [(0, .ref (gb G + t)), (1, .ref (gb G + u1)), (2, .int 0)]) [1, 2, 0] rfl h
set_option maxRecDepth 4000 in
theorem rX12_takeFrom_32 {G : jdG} {n rc rs : Nat} {Z : jdL} {I : jdI} {J : jdJ} {K : jdI → jdJ → Prop} {u1 : Nat} {t : Nat} {x2 : Int32} (ht : zModel Z t) (hu1 : zModel Z u1) (h : ((7 < x2 → K (uI (uI (uI (uI (uI (uI I t 14 (I u1 14)) t 15 ((uI I t 14 (I u1 14)) u1 15)) t 16 ((uI (uI I t 14 (I u1 14)) t 15 ((uI I t 14 (I u1 14)) u1 15)) u1 16)) t 17 ((uI (uI (uI I t 14 (I u1 14)) t 15 ((uI I t 14 (I u1 14)) u1 15)) t 16 ((uI (uI I t 14 (I u1 14)) t 15 ((uI I t 14 (I u1 14)) u1 15)) u1 16)) u1 17)) t 18 ((uI (uI (uI (uI I t 14 (I u1 14)) t 15 ((uI I t 14 (I u1 14)) u1 15)) t 16 ((uI (uI I t 14 (I u1 14)) t 15 ((uI I t 14 (I u1 14)) u1 15)) u1 16)) t 17 ((uI (uI (uI I t 14 (I u1 14)) t 15 ((uI I t 14 (I u1 14)) u1 15)) t 16 ((uI (uI I t 14 (I u1 14)) t 15 ((uI I t 14 (I u1 14)) u1 15)) u1 16)) u1 17)) u1 18)) t 19 ((uI (uI (uI (uI (uI I t 14 (I u1 14)) t 15 ((uI I t 14 (I u1 14)) u1 15)) t 16 ((uI (uI I t 14 (I u1 14)) t 15 ((uI I t 14 (I u1 14)) u1 15)) u1 16)) t 17 ((uI (uI (uI I t 14 (I u1 14)) t 15 ((uI I t 14 (I u1 14)) u1 15)) t 16 ((uI (uI I t 14 (I u1 14)) t 15 ((uI I t 14 (I u1 14)) u1 15)) u1 16)) u1 17)) t 18 ((uI (uI (uI (uI I t 14 (I u1 14)) t 15 ((uI I t 14 (I u1 14)) u1 15)) t 16 ((uI (uI I t 14 (I u1 14)) t 15 ((uI I t 14 (I u1 14)) u1 15)) u1 16)) t 17 ((uI (uI (uI I t 14 (I u1 14)) t 15 ((uI I t 14 (I u1 14)) u1 15)) t 16 ((uI (uI I t 14 (I u1 14)) t 15 ((uI I t 14 (I u1 14)) u1 15)) u1 16)) u1 17)) u1 18)) u1 19)) J) ∧ (¬ 7 < x2 → (vp_in x2 8 ∧ (vp_in x2 8 ∧ Cl G mX12_over n 0 0 [.ref (gb G + (u1 + 21 + (Int32.toNatClampNeg x2))), .ref (gb G + (t + 21 + (Int32.toNatClampNeg x2)))] Z I J (qv Z (fun I3 J3 => Jd G mX12_takeFrom (jdFm G (qv Z K)) (n + 1) rc rs 32 [(0, .ref (gb G + t)), (1, .ref (gb G + u1)), (2, .int (x2 + 1))] [] Z I3 J3))))))) : Jd G mX12_takeFrom (jdFm G (qv Z K)) (n + 1) rc rs 32 [(0, .ref (gb G + t)), (1, .ref (gb G + u1)), (2, .int x2)] [] Z I J := by
  refine jd_iload_n (pc := 32) 2 dX12_takeFrom_32 rfl rfl ?_
  refine jd_bipush (pc := 33) (v := 7) dX12_takeFrom_33 (by decide) ?_
  refine jd_icmp_gt (pc := 35) 59 dX12_takeFrom_35 (by decide) (fun hc => ?_) (fun hc => ?_)
  · have h := h.1 hc
    refine jd_aload_n (pc := 59) 0 dX12_takeFrom_59 rfl rfl ?_
    refine jd_aload_n (pc := 60) 1 dX12_takeFrom_60 rfl rfl ?_
    refine jd_getI (pc := 61) (ci := 11) (k := 14) gX12_51 hu1.1 rfl dX12_takeFrom_61 ?_
    refine jd_putI (pc := 64) (ci := 11) (k := 14) pX12_51 ht.1 rfl rfl rfl dX12_takeFrom_64 ?_
    refine jd_aload_n (pc := 67) 0 dX12_takeFrom_67 rfl rfl ?_
    refine jd_aload_n (pc := 68) 1 dX12_takeFrom_68 rfl rfl ?_
    refine jd_getI (pc := 69) (ci := 11) (k := 15) gX12_148 hu1.1 rfl dX12_takeFrom_69 ?_
    refine jd_putI (pc := 72) (ci := 11) (k := 15) pX12_148 ht.1 rfl rfl rfl dX12_takeFrom_72 ?_
    refine jd_aload_n (pc := 75) 0 dX12_takeFrom_75 rfl rfl ?_
    refine jd_aload_n (pc := 76) 1 dX12_takeFrom_76 rfl rfl ?_
    refine jd_getI (pc := 77) (ci := 11) (k := 16) gX12_358 hu1.1 rfl dX12_takeFrom_77 ?_
    refine jd_putI (pc := 80) (ci := 11) (k := 16) pX12_358 ht.1 rfl rfl rfl dX12_takeFrom_80 ?_
    refine jd_aload_n (pc := 83) 0 dX12_takeFrom_83 rfl rfl ?_
    refine jd_aload_n (pc := 84) 1 dX12_takeFrom_84 rfl rfl ?_
    refine jd_getI (pc := 85) (ci := 11) (k := 17) gX12_361 hu1.1 rfl dX12_takeFrom_85 ?_
    refine jd_putI (pc := 88) (ci := 11) (k := 17) pX12_361 ht.1 rfl rfl rfl dX12_takeFrom_88 ?_
    refine jd_aload_n (pc := 91) 0 dX12_takeFrom_91 rfl rfl ?_
    refine jd_aload_n (pc := 92) 1 dX12_takeFrom_92 rfl rfl ?_
    refine jd_getI (pc := 93) (ci := 11) (k := 18) gX12_364 hu1.1 rfl dX12_takeFrom_93 ?_
    refine jd_putI (pc := 96) (ci := 11) (k := 18) pX12_364 ht.1 rfl rfl rfl dX12_takeFrom_96 ?_
    refine jd_aload_n (pc := 99) 0 dX12_takeFrom_99 rfl rfl ?_
    refine jd_aload_n (pc := 100) 1 dX12_takeFrom_100 rfl rfl ?_
    refine jd_getI (pc := 101) (ci := 11) (k := 19) gX12_55 hu1.1 rfl dX12_takeFrom_101 ?_
    refine jd_putI (pc := 104) (ci := 11) (k := 19) pX12_55 ht.1 rfl rfl rfl dX12_takeFrom_104 ?_
    exact jd_vretK (pc := 107) rfl dX12_takeFrom_107 h
  · have h := h.2 hc
    refine jd_aload_n (pc := 38) 1 dX12_takeFrom_38 rfl rfl ?_
    refine jd_getR (pc := 39) (ci := 11) (k := 13) (r := (u1 + 20)) gX12_48 hu1.1 rfl (zModel_p13 hu1) dX12_takeFrom_39 ?_
    refine jd_iload_n (pc := 42) 2 dX12_takeFrom_42 rfl rfl ?_
    obtain ⟨hv1, h⟩ := h
    refine jd_aald (pc := 43) (len := 8) (k := 2) (zModel_a13 hu1) (by decide) hv1 (zModel_known hu1 (vp_lt hv1)) dX12_takeFrom_43 ?_
    refine jd_aload_n (pc := 44) 0 dX12_takeFrom_44 rfl rfl ?_
    refine jd_getR (pc := 45) (ci := 11) (k := 13) (r := (t + 20)) gX12_48 ht.1 rfl (zModel_p13 ht) dX12_takeFrom_45 ?_
    refine jd_iload_n (pc := 48) 2 dX12_takeFrom_48 rfl rfl ?_
    obtain ⟨hv2, h⟩ := h
    refine jd_aald (pc := 49) (len := 8) (k := 2) (zModel_a13 ht) (by decide) hv2 (zModel_known ht (vp_lt hv2)) dX12_takeFrom_49 ?_
    refine jd_callSv (pc := 50) (M2 := mX12_over) (av := [.ref (gb G + (u1 + 21 + (Int32.toNatClampNeg x2))), .ref (gb G + (t + 21 + (Int32.toNatClampNeg x2)))]) kX12_over sX12_over lX12_376 rfl rfl (Nat.le_of_ble_eq_true rfl) dX12_takeFrom_50 h ?_
    intro I3 J3 h
    refine jd_iinc (pc := 53) (v := (x2 + 1)) 2 [(2, .int (x2 + 1)), (0, .ref (gb G + t)), (1, .ref (gb G + u1))] dX12_takeFrom_53 rfl rfl (by decide) rfl ?_
    refine jd_goto (pc := 56) 32 dX12_takeFrom_56 (by decide) ?_
    exact jd_lv (lv2 := [(0, .ref (gb G + t)), (1, .ref (gb G + u1)), (2, .int (x2 + 1))]) [1, 2, 0] rfl h
theorem eX12_takeFrom {G : jdG} {n : Nat} {Z : jdL} {I : jdI} {J : jdJ} {K : jdI → jdJ → Prop} {t : Nat} {u1 : Nat} (ht : zModel Z t) (hu1 : zModel Z u1) (h : Cl G mX12_over n 0 0 [.ref (gb G + (u1 + 18)), .ref (gb G + (t + 18))] Z (uI I t 10 (I u1 10)) J (qv Z (fun I1 J1 => Cl G mX12_over n 0 0 [.ref (gb G + (u1 + 19)), .ref (gb G + (t + 19))] Z I1 J1 (qv Z (fun I3 J3 => Jd G mX12_takeFrom (jdFm G (qv Z K)) (n + 1) 0 0 32 [(0, .ref (gb G + t)), (1, .ref (gb G + u1)), (2, .int 0)] [] Z I3 J3))))) : Cl G mX12_takeFrom (n + 1) 0 0 [.ref (gb G + t), .ref (gb G + u1)] Z I J (qv Z K) :=
  Cl.of (by decide +kernel) (Nat.le_of_ble_eq_true rfl) (rX12_takeFrom_0 ht hu1 h)
set_option maxRecDepth 4000 in
theorem rX12_image_0 {G : jdG} {n rc rs : Nat} {Z : jdL} {I : jdI} {J : jdJ} {Q : jdQ} {t : Nat} (ht : zModel Z t) (h : (((Z).2.1 t 20 = none → (∃ rc3 rs3 : Nat, 1 + rc3 ≤ rc ∧ 45 + rs3 ≤ rs ∧ (zModel (nZ Z (11 + 10, 0)) t ∧ (∃ mc4 ms4 rc4 rs4 : Nat, mc4 + rc4 ≤ rc3 ∧ ms4 + rs4 ≤ rs3 ∧ Cl G mX12_init n mc4 ms4 [.ref (gb G + (Z).2.2)] (nZ Z (11 + 10, 0)) (zI I (Z).2.2) J (fun r4 Z4 I4 J4 => r4 = none ∧ (zModel Z4 t ∧ (zModel (uP Z4 t 20 (some (Z).2.2)) t ∧ ((((uP Z4 t 20 (some (Z).2.2))).2.1 t 20 = none → False) ∧ (∀ w6, ((uP Z4 t 20 (some (Z).2.2))).2.1 t 20 = some w6 → (zModel (uP Z4 t 20 (some (Z).2.2)) w6 ∧ Cl G mX12_takeFrom n 0 0 [.ref (gb G + w6), .ref (gb G + t)] (uP Z4 t 20 (some (Z).2.2)) I4 J4 (qv (uP Z4 t 20 (some (Z).2.2)) (fun I7 J7 => Q (some (.int 1)) (uP Z4 t 20 (some (Z).2.2)) I7 J7)))))))))))) ∧ (∀ w2, (Z).2.1 t 20 = some w2 → (zModel Z w2 ∧ (((Z).2.1 t 20 = none → False) ∧ (∀ w10, (Z).2.1 t 20 = some w10 → (zModel Z w10 ∧ Cl G mX12_takeFrom n 0 0 [.ref (gb G + w10), .ref (gb G + t)] Z I J (qv Z (fun I11 J11 => Q (some (.int 1)) Z I11 J11))))))))) : Jd G mX12_image (jdFm G Q) (n + 1) rc rs 0 [(0, .ref (gb G + t))] [] Z I J := by
  refine jd_aload_n (pc := 0) 0 dX12_image_0 rfl rfl ?_
  rcases hq1 : (Z).2.1 t 20 with _ | w2
  · have h := h.1 hq1
    refine jd_getN (pc := 1) (ci := 11) (k := 20) gX12_380 ht.1 rfl hq1 dX12_image_1 ?_
    refine jd_ifnonnullN (pc := 4) dX12_image_4 ?_
    refine jd_aload_n (pc := 7) 0 dX12_image_7 rfl rfl ?_
    obtain ⟨rc3, rs3, hb1, hb2, h⟩ := h
    refine jd_new (pc := 8) (ci := 11) (N := 45) nX12_8 hb1 hb2 dX12_image_8 ?_
    obtain ⟨ht, h⟩ := h
    refine jd_dup (pc := 11) dX12_image_11 rfl ?_
    obtain ⟨mc4, ms4, rc4, rs4, hb1, hb2, h⟩ := h
    refine jd_callI (pc := 12) (M2 := mX12_init) (id := (Z).2.2) (rc2 := rc4) (rs2 := rs4) (av := []) kX12_init sX12_init lX12_375 rfl rfl (Nat.le_of_ble_eq_true rfl) hb1 hb2 dX12_image_12 (Cl.mono h (fun r4 Z4 I4 J4 h => ?_))
    obtain ⟨rfl, h⟩ := h
    obtain ⟨ht, h⟩ := h
    refine jd_putR (pc := 15) (ci := 11) (k := 20) pX12_380 ht.1 rfl rfl rfl dX12_image_15 ?_
    obtain ⟨ht, h⟩ := h
    refine jd_aload_n (pc := 18) 0 dX12_image_18 rfl rfl ?_
    rcases hq5 : ((uP Z4 t 20 (some (Z).2.2))).2.1 t 20 with _ | w6
    · have h := h.1 hq5
      refine jd_getN (pc := 19) (ci := 11) (k := 20) gX12_380 ht.1 rfl hq5 dX12_image_19 ?_
      refine jd_aload_n (pc := 22) 0 dX12_image_22 rfl rfl ?_
      exact h.elim
    · have h := h.2 w6 hq5
      refine jd_getR (pc := 19) (ci := 11) (k := 20) (r := w6) gX12_380 ht.1 rfl hq5 dX12_image_19 ?_
      obtain ⟨hzw6, h⟩ := h
      refine jd_aload_n (pc := 22) 0 dX12_image_22 rfl rfl ?_
      refine jd_callVv (pc := 23) (M2 := mX12_takeFrom) (id := w6) (ci := 11) (T := TX12) (N := 45) (av := [.ref (gb G + t)]) kX12_takeFrom sX12_takeFrom rfl hzw6.1 lX12_245 rfl rfl (Nat.le_of_ble_eq_true rfl) dX12_image_23 h ?_
      intro I7 J7 h
      refine jd_iconst (pc := 26) (v := 1) dX12_image_26 (by decide) ?_
      exact jd_iret (pc := 27) (ty := .int) rfl rfl dX12_image_27 h
  · have h := h.2 w2 hq1
    refine jd_getR (pc := 1) (ci := 11) (k := 20) (r := w2) gX12_380 ht.1 rfl hq1 dX12_image_1 ?_
    obtain ⟨hzw2, h⟩ := h
    refine jd_ifnonnull (pc := 4) 18 dX12_image_4 (by decide) ?_
    refine jd_aload_n (pc := 18) 0 dX12_image_18 rfl rfl ?_
    rcases hq9 : (Z).2.1 t 20 with _ | w10
    · have h := h.1 hq9
      refine jd_getN (pc := 19) (ci := 11) (k := 20) gX12_380 ht.1 rfl hq9 dX12_image_19 ?_
      refine jd_aload_n (pc := 22) 0 dX12_image_22 rfl rfl ?_
      exact h.elim
    · have h := h.2 w10 hq9
      refine jd_getR (pc := 19) (ci := 11) (k := 20) (r := w10) gX12_380 ht.1 rfl hq9 dX12_image_19 ?_
      obtain ⟨hzw10, h⟩ := h
      refine jd_aload_n (pc := 22) 0 dX12_image_22 rfl rfl ?_
      refine jd_callVv (pc := 23) (M2 := mX12_takeFrom) (id := w10) (ci := 11) (T := TX12) (N := 45) (av := [.ref (gb G + t)]) kX12_takeFrom sX12_takeFrom rfl hzw10.1 lX12_245 rfl rfl (Nat.le_of_ble_eq_true rfl) dX12_image_23 h ?_
      intro I11 J11 h
      refine jd_iconst (pc := 26) (v := 1) dX12_image_26 (by decide) ?_
      exact jd_iret (pc := 27) (ty := .int) rfl rfl dX12_image_27 h
theorem eX12_image {G : jdG} {n mc ms : Nat} {Z : jdL} {I : jdI} {J : jdJ} {Q : jdQ} {t : Nat} (ht : zModel Z t) (h : (((Z).2.1 t 20 = none → (∃ rc3 rs3 : Nat, 1 + rc3 ≤ mc ∧ 45 + rs3 ≤ ms ∧ (zModel (nZ Z (11 + 10, 0)) t ∧ (∃ mc4 ms4 rc4 rs4 : Nat, mc4 + rc4 ≤ rc3 ∧ ms4 + rs4 ≤ rs3 ∧ Cl G mX12_init n mc4 ms4 [.ref (gb G + (Z).2.2)] (nZ Z (11 + 10, 0)) (zI I (Z).2.2) J (fun r4 Z4 I4 J4 => r4 = none ∧ (zModel Z4 t ∧ (zModel (uP Z4 t 20 (some (Z).2.2)) t ∧ ((((uP Z4 t 20 (some (Z).2.2))).2.1 t 20 = none → False) ∧ (∀ w6, ((uP Z4 t 20 (some (Z).2.2))).2.1 t 20 = some w6 → (zModel (uP Z4 t 20 (some (Z).2.2)) w6 ∧ Cl G mX12_takeFrom n 0 0 [.ref (gb G + w6), .ref (gb G + t)] (uP Z4 t 20 (some (Z).2.2)) I4 J4 (qv (uP Z4 t 20 (some (Z).2.2)) (fun I7 J7 => Q (some (.int 1)) (uP Z4 t 20 (some (Z).2.2)) I7 J7)))))))))))) ∧ (∀ w2, (Z).2.1 t 20 = some w2 → (zModel Z w2 ∧ (((Z).2.1 t 20 = none → False) ∧ (∀ w10, (Z).2.1 t 20 = some w10 → (zModel Z w10 ∧ Cl G mX12_takeFrom n 0 0 [.ref (gb G + w10), .ref (gb G + t)] Z I J (qv Z (fun I11 J11 => Q (some (.int 1)) Z I11 J11))))))))) : Cl G mX12_image (n + 1) mc ms [.ref (gb G + t)] Z I J Q :=
  Cl.of (by decide +kernel) (Nat.le_of_ble_eq_true rfl) (rX12_image_0 ht h)
set_option maxRecDepth 4000 in
theorem rX12_back_0 {G : jdG} {n rc rs : Nat} {Z : jdL} {I : jdI} {J : jdJ} {K : Int32 → jdI → jdJ → Prop} {t : Nat} (ht : zModel Z t) (h : (((Z).2.1 t 20 = none → Cl G mX12_refuse n 0 0 [.ref (gb G + t), .int (-5)] Z I J (qi Z (fun v4 I3 J3 => K v4 I3 J3))) ∧ (∀ w2, (Z).2.1 t 20 = some w2 → (zModel Z w2 ∧ (((Z).2.1 t 20 = none → Cl G mX12_takeFrom n 0 0 [.ref (gb G + t), .null] Z I J (qv Z (fun I7 J7 => K 1 I7 J7))) ∧ (∀ w6, (Z).2.1 t 20 = some w6 → (zModel Z w6 ∧ Cl G mX12_takeFrom n 0 0 [.ref (gb G + t), .ref (gb G + w6)] Z I J (qv Z (fun I9 J9 => K 1 I9 J9))))))))) : Jd G mX12_back (jdFm G (qi Z K)) (n + 1) rc rs 0 [(0, .ref (gb G + t))] [] Z I J := by
  refine jd_aload_n (pc := 0) 0 dX12_back_0 rfl rfl ?_
  rcases hq1 : (Z).2.1 t 20 with _ | w2
  · have h := h.1 hq1
    refine jd_getN (pc := 1) (ci := 11) (k := 20) gX12_380 ht.1 rfl hq1 dX12_back_1 ?_
    refine jd_ifnonnullN (pc := 4) dX12_back_4 ?_
    refine jd_aload_n (pc := 7) 0 dX12_back_7 rfl rfl ?_
    refine jd_bipush (pc := 8) (v := (-5)) dX12_back_8 (by decide) ?_
    refine jd_callVi (pc := 10) (M2 := mX12_refuse) (id := t) (ci := 11) (T := TX12) (N := 45) (av := [.int (-5)]) kX12_refuse sX12_refuse rfl ht.1 lX12_102 rfl rfl (Nat.le_of_ble_eq_true rfl) dX12_back_10 h ?_
    intro v4 I3 J3 h
    exact jd_iretK (pc := 13) rfl rfl dX12_back_13 h
  · have h := h.2 w2 hq1
    refine jd_getR (pc := 1) (ci := 11) (k := 20) (r := w2) gX12_380 ht.1 rfl hq1 dX12_back_1 ?_
    obtain ⟨hzw2, h⟩ := h
    refine jd_ifnonnull (pc := 4) 14 dX12_back_4 (by decide) ?_
    refine jd_aload_n (pc := 14) 0 dX12_back_14 rfl rfl ?_
    refine jd_aload_n (pc := 15) 0 dX12_back_15 rfl rfl ?_
    rcases hq5 : (Z).2.1 t 20 with _ | w6
    · have h := h.1 hq5
      refine jd_getN (pc := 16) (ci := 11) (k := 20) gX12_380 ht.1 rfl hq5 dX12_back_16 ?_
      refine jd_callVv (pc := 19) (M2 := mX12_takeFrom) (id := t) (ci := 11) (T := TX12) (N := 45) (av := [.null]) kX12_takeFrom sX12_takeFrom rfl ht.1 lX12_245 rfl rfl (Nat.le_of_ble_eq_true rfl) dX12_back_19 h ?_
      intro I7 J7 h
      refine jd_iconst (pc := 22) (v := 1) dX12_back_22 (by decide) ?_
      exact jd_iretK (pc := 23) rfl rfl dX12_back_23 h
    · have h := h.2 w6 hq5
      refine jd_getR (pc := 16) (ci := 11) (k := 20) (r := w6) gX12_380 ht.1 rfl hq5 dX12_back_16 ?_
      obtain ⟨hzw6, h⟩ := h
      refine jd_callVv (pc := 19) (M2 := mX12_takeFrom) (id := t) (ci := 11) (T := TX12) (N := 45) (av := [.ref (gb G + w6)]) kX12_takeFrom sX12_takeFrom rfl ht.1 lX12_245 rfl rfl (Nat.le_of_ble_eq_true rfl) dX12_back_19 h ?_
      intro I9 J9 h
      refine jd_iconst (pc := 22) (v := 1) dX12_back_22 (by decide) ?_
      exact jd_iretK (pc := 23) rfl rfl dX12_back_23 h
theorem eX12_back {G : jdG} {n : Nat} {Z : jdL} {I : jdI} {J : jdJ} {K : Int32 → jdI → jdJ → Prop} {t : Nat} (ht : zModel Z t) (h : (((Z).2.1 t 20 = none → Cl G mX12_refuse n 0 0 [.ref (gb G + t), .int (-5)] Z I J (qi Z (fun v4 I3 J3 => K v4 I3 J3))) ∧ (∀ w2, (Z).2.1 t 20 = some w2 → (zModel Z w2 ∧ (((Z).2.1 t 20 = none → Cl G mX12_takeFrom n 0 0 [.ref (gb G + t), .null] Z I J (qv Z (fun I7 J7 => K 1 I7 J7))) ∧ (∀ w6, (Z).2.1 t 20 = some w6 → (zModel Z w6 ∧ Cl G mX12_takeFrom n 0 0 [.ref (gb G + t), .ref (gb G + w6)] Z I J (qv Z (fun I9 J9 => K 1 I9 J9))))))))) : Cl G mX12_back (n + 1) 0 0 [.ref (gb G + t)] Z I J (qi Z K) :=
  Cl.of (by decide +kernel) (Nat.le_of_ble_eq_true rfl) (rX12_back_0 ht h)
set_option maxRecDepth 4000 in
theorem rX12_status_0 {G : jdG} {n rc rs : Nat} {Z : jdL} {I : jdI} {J : jdJ} {K : Int32 → jdI → jdJ → Prop} {t : Nat} {x1 : Int32} (ht : zModel Z t) (h : (((x1 : Int32).toInt < 0 ∨ 9 < (x1 : Int32).toInt → Cl G mX12_in n 0 0 [.long (Int32.toInt64 x1), .long 12, .long 16] Z I J (qi Z (fun v2 I1 J1 => ((v2 = 0 → K (-1) I1 J1) ∧ (¬ v2 = 0 → (vp_in (x1 - 10) 8 ∧ K (I1 (t + 17) (Int32.toNatClampNeg (x1 - 10))) I1 J1)))))) ∧ ((x1 : Int32).toInt = 0 → K (I t 10) I J) ∧ ((x1 : Int32).toInt = 1 → K (I t 14) I J) ∧ ((x1 : Int32).toInt = 2 → K (I t 15) I J) ∧ ((x1 : Int32).toInt = 3 → Cl G mX12_all n 0 0 [.ref (gb G + t)] Z I J (qi Z (fun v5 I4 J4 => Cl G mX12_pairsOf n 0 0 [.ref (gb G + t), .int v5] Z I4 J4 (qi Z (fun v7 I6 J6 => K v7 I6 J6))))) ∧ ((x1 : Int32).toInt = 4 → K (I t 16) I J) ∧ ((x1 : Int32).toInt = 5 → K (I t 17) I J) ∧ ((x1 : Int32).toInt = 6 → K (I t 18) I J) ∧ ((x1 : Int32).toInt = 7 → K (I t 8) I J) ∧ ((x1 : Int32).toInt = 8 → K (I t 19) I J) ∧ ((x1 : Int32).toInt = 9 → Jd G mX12_status (jdFm G (qi Z K)) (n + 1) rc rs 107 [(0, .ref (gb G + t)), (1, .int x1), (2, .int 0), (3, .int 0)] [] Z I J))) : Jd G mX12_status (jdFm G (qi Z K)) (n + 1) rc rs 0 [(0, .ref (gb G + t)), (1, .int x1)] [] Z I J := by
  refine jd_iconst (pc := 0) (v := 0) dX12_status_0 (by decide) ?_
  refine jd_istore_n (pc := 1) [(2, .int 0), (0, .ref (gb G + t)), (1, .int x1)] dX12_status_1 rfl (by decide) rfl ?_
  refine jd_iload_n (pc := 2) 2 dX12_status_2 rfl rfl ?_
  by_cases hs : (x1 : Int32).toInt < 0 ∨ 9 < (x1 : Int32).toInt
  · have h := h.1 hs
    refine jd_tableOut (pc := 3) 138 dX12_status_3 hs (by decide) ?_
    refine jd_iload_n (pc := 138) 2 dX12_status_138 rfl rfl ?_
    refine jd_i2l (pc := 139) dX12_status_139 ?_
    refine jd_ldc2 (pc := 140) (v := 12) qX12_383 dX12_status_140 ?_
    refine jd_ldc2 (pc := 143) (v := 16) qX12_385 dX12_status_143 ?_
    refine jd_callSi (pc := 146) (M2 := mX12_in) (av := [.long (Int32.toInt64 x1), .long 12, .long 16]) kX12_in sX12_in lX12_88 rfl rfl (Nat.le_of_ble_eq_true rfl) dX12_status_146 h ?_
    intro v2 I1 J1 h
    refine jd_if_eq (pc := 149) 164 dX12_status_149 (by decide) (fun hc => ?_) (fun hc => ?_)
    · have h := h.1 hc
      refine jd_iconst (pc := 164) (v := (-1)) dX12_status_164 (by decide) ?_
      exact jd_iretK (pc := 165) rfl rfl dX12_status_165 h
    · have h := h.2 hc
      refine jd_aload_n (pc := 152) 1 dX12_status_152 rfl rfl ?_
      refine jd_getR (pc := 153) (ci := 11) (k := 9) (r := (t + 17)) gX12_37 ht.1 rfl (zModel_p9 ht) dX12_status_153 ?_
      refine jd_iload_n (pc := 156) 2 dX12_status_156 rfl rfl ?_
      refine jd_bipush (pc := 157) (v := 10) dX12_status_157 (by decide) ?_
      refine jd_isub (pc := 159) dX12_status_159 ?_
      obtain ⟨hv3, h⟩ := h
      refine jd_iald (pc := 160) (len := 8) (zModel_a9 ht) hv3 dX12_status_160 ?_
      refine jd_goto (pc := 161) 165 dX12_status_161 (by decide) ?_
      exact jd_iretK (pc := 165) rfl rfl dX12_status_165 h
  · have h := h.2
    have hs2 : (x1 : Int32).toInt = 0 ∨ (x1 : Int32).toInt = 1 ∨ (x1 : Int32).toInt = 2 ∨ (x1 : Int32).toInt = 3 ∨ (x1 : Int32).toInt = 4 ∨ (x1 : Int32).toInt = 5 ∨ (x1 : Int32).toInt = 6 ∨ (x1 : Int32).toInt = 7 ∨ (x1 : Int32).toInt = 8 ∨ (x1 : Int32).toInt = 9 := by omega
    rcases hs2 with hq | hq | hq | hq | hq | hq | hq | hq | hq | hq
    · have h := h.1 hq
      refine jd_tableIn (pc := 3) 56 dX12_status_3 (by omega) (by omega) (by rw [hq]; rfl) (by decide) ?_
      refine jd_aload_n (pc := 56) 1 dX12_status_56 rfl rfl ?_
      refine jd_getI (pc := 57) (ci := 11) (k := 10) gX12_85 ht.1 rfl dX12_status_57 ?_
      exact jd_iretK (pc := 60) rfl rfl dX12_status_60 h
    · have h := h.2.1 hq
      refine jd_tableIn (pc := 3) 61 dX12_status_3 (by omega) (by omega) (by rw [hq]; rfl) (by decide) ?_
      refine jd_aload_n (pc := 61) 1 dX12_status_61 rfl rfl ?_
      refine jd_getI (pc := 62) (ci := 11) (k := 14) gX12_51 ht.1 rfl dX12_status_62 ?_
      exact jd_iretK (pc := 65) rfl rfl dX12_status_65 h
    · have h := h.2.2.1 hq
      refine jd_tableIn (pc := 3) 66 dX12_status_3 (by omega) (by omega) (by rw [hq]; rfl) (by decide) ?_
      refine jd_aload_n (pc := 66) 1 dX12_status_66 rfl rfl ?_
      refine jd_getI (pc := 67) (ci := 11) (k := 15) gX12_148 ht.1 rfl dX12_status_67 ?_
      exact jd_iretK (pc := 70) rfl rfl dX12_status_70 h
    · have h := h.2.2.2.1 hq
      refine jd_tableIn (pc := 3) 71 dX12_status_3 (by omega) (by omega) (by rw [hq]; rfl) (by decide) ?_
      refine jd_aload_n (pc := 71) 1 dX12_status_71 rfl rfl ?_
      refine jd_aload_n (pc := 72) 1 dX12_status_72 rfl rfl ?_
      refine jd_callVi (pc := 73) (M2 := mX12_all) (id := t) (ci := 11) (T := TX12) (N := 45) (av := []) kX12_all sX12_all rfl ht.1 lX12_92 rfl rfl (Nat.le_of_ble_eq_true rfl) dX12_status_73 h ?_
      intro v5 I4 J4 h
      refine jd_callVi (pc := 76) (M2 := mX12_pairsOf) (id := t) (ci := 11) (T := TX12) (N := 45) (av := [.int v5]) kX12_pairsOf sX12_pairsOf rfl ht.1 lX12_329 rfl rfl (Nat.le_of_ble_eq_true rfl) dX12_status_76 h ?_
      intro v7 I6 J6 h
      exact jd_iretK (pc := 79) rfl rfl dX12_status_79 h
    · have h := h.2.2.2.2.1 hq
      refine jd_tableIn (pc := 3) 80 dX12_status_3 (by omega) (by omega) (by rw [hq]; rfl) (by decide) ?_
      refine jd_aload_n (pc := 80) 1 dX12_status_80 rfl rfl ?_
      refine jd_getI (pc := 81) (ci := 11) (k := 16) gX12_358 ht.1 rfl dX12_status_81 ?_
      exact jd_iretK (pc := 84) rfl rfl dX12_status_84 h
    · have h := h.2.2.2.2.2.1 hq
      refine jd_tableIn (pc := 3) 85 dX12_status_3 (by omega) (by omega) (by rw [hq]; rfl) (by decide) ?_
      refine jd_aload_n (pc := 85) 1 dX12_status_85 rfl rfl ?_
      refine jd_getI (pc := 86) (ci := 11) (k := 17) gX12_361 ht.1 rfl dX12_status_86 ?_
      exact jd_iretK (pc := 89) rfl rfl dX12_status_89 h
    · have h := h.2.2.2.2.2.2.1 hq
      refine jd_tableIn (pc := 3) 90 dX12_status_3 (by omega) (by omega) (by rw [hq]; rfl) (by decide) ?_
      refine jd_aload_n (pc := 90) 1 dX12_status_90 rfl rfl ?_
      refine jd_getI (pc := 91) (ci := 11) (k := 18) gX12_364 ht.1 rfl dX12_status_91 ?_
      exact jd_iretK (pc := 94) rfl rfl dX12_status_94 h
    · have h := h.2.2.2.2.2.2.2.1 hq
      refine jd_tableIn (pc := 3) 95 dX12_status_3 (by omega) (by omega) (by rw [hq]; rfl) (by decide) ?_
      refine jd_aload_n (pc := 95) 1 dX12_status_95 rfl rfl ?_
      refine jd_getI (pc := 96) (ci := 11) (k := 8) gX12_156 ht.1 rfl dX12_status_96 ?_
      exact jd_iretK (pc := 99) rfl rfl dX12_status_99 h
    · have h := h.2.2.2.2.2.2.2.2.1 hq
      refine jd_tableIn (pc := 3) 100 dX12_status_3 (by omega) (by omega) (by rw [hq]; rfl) (by decide) ?_
      refine jd_aload_n (pc := 100) 1 dX12_status_100 rfl rfl ?_
      refine jd_getI (pc := 101) (ci := 11) (k := 19) gX12_55 ht.1 rfl dX12_status_101 ?_
      exact jd_iretK (pc := 104) rfl rfl dX12_status_104 h
    · have h := h.2.2.2.2.2.2.2.2.2 hq
      refine jd_tableIn (pc := 3) 105 dX12_status_3 (by omega) (by omega) (by rw [hq]; rfl) (by decide) ?_
      refine jd_iconst (pc := 105) (v := 0) dX12_status_105 (by decide) ?_
      refine jd_istore_n (pc := 106) [(3, .int 0), (2, .int 0), (0, .ref (gb G + t)), (1, .int x1)] dX12_status_106 rfl (by decide) rfl ?_
      exact jd_lv (lv2 := [(0, .ref (gb G + t)), (1, .int x1), (2, .int 0), (3, .int 0)]) [2, 3, 1, 0] rfl h
set_option maxRecDepth 4000 in
theorem rX12_status_107 {G : jdG} {n rc rs : Nat} {Z : jdL} {I : jdI} {J : jdJ} {K : Int32 → jdI → jdJ → Prop} {t : Nat} {x1 : Int32} {x2 : Int32} {x3 : Int32} (ht : zModel Z t) (h : ((8 ≤ x3 → K x2 I J) ∧ (¬ 8 ≤ x3 → (vp_in x3 8 ∧ (((I (t + 1) (Int32.toNatClampNeg x3)) = 0 → Jd G mX12_status (jdFm G (qi Z K)) (n + 1) rc rs 107 [(0, .ref (gb G + t)), (1, .int x1), (2, .int (x2 + 0)), (3, .int (x3 + 1))] [] Z I J) ∧ (¬ (I (t + 1) (Int32.toNatClampNeg x3)) = 0 → Jd G mX12_status (jdFm G (qi Z K)) (n + 1) rc rs 107 [(0, .ref (gb G + t)), (1, .int x1), (2, .int (x2 + 1)), (3, .int (x3 + 1))] [] Z I J)))))) : Jd G mX12_status (jdFm G (qi Z K)) (n + 1) rc rs 107 [(0, .ref (gb G + t)), (1, .int x1), (2, .int x2), (3, .int x3)] [] Z I J := by
  refine jd_iload_n (pc := 107) 3 dX12_status_107 rfl rfl ?_
  refine jd_bipush (pc := 108) (v := 8) dX12_status_108 (by decide) ?_
  refine jd_icmp_ge (pc := 110) 136 dX12_status_110 (by decide) (fun hc => ?_) (fun hc => ?_)
  · have h := h.1 hc
    refine jd_iload_n (pc := 136) 2 dX12_status_136 rfl rfl ?_
    exact jd_iretK (pc := 137) rfl rfl dX12_status_137 h
  · have h := h.2 hc
    refine jd_iload_n (pc := 113) 2 dX12_status_113 rfl rfl ?_
    refine jd_aload_n (pc := 114) 0 dX12_status_114 rfl rfl ?_
    refine jd_getR (pc := 115) (ci := 11) (k := 0) (r := (t + 1)) gX12_7 ht.1 rfl (zModel_p0 ht) dX12_status_115 ?_
    refine jd_iload_n (pc := 118) 3 dX12_status_118 rfl rfl ?_
    obtain ⟨hv1, h⟩ := h
    refine jd_iald (pc := 119) (len := 8) (zModel_a0 ht) hv1 dX12_status_119 ?_
    refine jd_if_eq (pc := 120) 127 dX12_status_120 (by decide) (fun hc => ?_) (fun hc => ?_)
    · have h := h.1 hc
      refine jd_iconst (pc := 127) (v := 0) dX12_status_127 (by decide) ?_
      refine jd_iadd (pc := 128) dX12_status_128 ?_
      refine jd_istore_n (pc := 129) [(2, .int (x2 + 0)), (0, .ref (gb G + t)), (1, .int x1), (3, .int x3)] dX12_status_129 rfl (by decide) rfl ?_
      refine jd_iinc (pc := 130) (v := (x3 + 1)) 3 [(3, .int (x3 + 1)), (2, .int (x2 + 0)), (0, .ref (gb G + t)), (1, .int x1)] dX12_status_130 rfl rfl (by decide) rfl ?_
      refine jd_goto (pc := 133) 107 dX12_status_133 (by decide) ?_
      exact jd_lv (lv2 := [(0, .ref (gb G + t)), (1, .int x1), (2, .int (x2 + 0)), (3, .int (x3 + 1))]) [2, 3, 1, 0] rfl h
    · have h := h.2 hc
      refine jd_iconst (pc := 123) (v := 1) dX12_status_123 (by decide) ?_
      refine jd_goto (pc := 124) 128 dX12_status_124 (by decide) ?_
      refine jd_iadd (pc := 128) dX12_status_128 ?_
      refine jd_istore_n (pc := 129) [(2, .int (x2 + 1)), (0, .ref (gb G + t)), (1, .int x1), (3, .int x3)] dX12_status_129 rfl (by decide) rfl ?_
      refine jd_iinc (pc := 130) (v := (x3 + 1)) 3 [(3, .int (x3 + 1)), (2, .int (x2 + 1)), (0, .ref (gb G + t)), (1, .int x1)] dX12_status_130 rfl rfl (by decide) rfl ?_
      refine jd_goto (pc := 133) 107 dX12_status_133 (by decide) ?_
      exact jd_lv (lv2 := [(0, .ref (gb G + t)), (1, .int x1), (2, .int (x2 + 1)), (3, .int (x3 + 1))]) [2, 3, 1, 0] rfl h
theorem eX12_status {G : jdG} {n : Nat} {Z : jdL} {I : jdI} {J : jdJ} {K : Int32 → jdI → jdJ → Prop} {t : Nat} {x1 : Int32} (ht : zModel Z t) (h : (((x1 : Int32).toInt < 0 ∨ 9 < (x1 : Int32).toInt → Cl G mX12_in n 0 0 [.long (Int32.toInt64 x1), .long 12, .long 16] Z I J (qi Z (fun v2 I1 J1 => ((v2 = 0 → K (-1) I1 J1) ∧ (¬ v2 = 0 → (vp_in (x1 - 10) 8 ∧ K (I1 (t + 17) (Int32.toNatClampNeg (x1 - 10))) I1 J1)))))) ∧ ((x1 : Int32).toInt = 0 → K (I t 10) I J) ∧ ((x1 : Int32).toInt = 1 → K (I t 14) I J) ∧ ((x1 : Int32).toInt = 2 → K (I t 15) I J) ∧ ((x1 : Int32).toInt = 3 → Cl G mX12_all n 0 0 [.ref (gb G + t)] Z I J (qi Z (fun v5 I4 J4 => Cl G mX12_pairsOf n 0 0 [.ref (gb G + t), .int v5] Z I4 J4 (qi Z (fun v7 I6 J6 => K v7 I6 J6))))) ∧ ((x1 : Int32).toInt = 4 → K (I t 16) I J) ∧ ((x1 : Int32).toInt = 5 → K (I t 17) I J) ∧ ((x1 : Int32).toInt = 6 → K (I t 18) I J) ∧ ((x1 : Int32).toInt = 7 → K (I t 8) I J) ∧ ((x1 : Int32).toInt = 8 → K (I t 19) I J) ∧ ((x1 : Int32).toInt = 9 → Jd G mX12_status (jdFm G (qi Z K)) (n + 1) 0 0 107 [(0, .ref (gb G + t)), (1, .int x1), (2, .int 0), (3, .int 0)] [] Z I J))) : Cl G mX12_status (n + 1) 0 0 [.ref (gb G + t), .int x1] Z I J (qi Z K) :=
  Cl.of (by decide +kernel) (Nat.le_of_ble_eq_true rfl) (rX12_status_0 ht h)
