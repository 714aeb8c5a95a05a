set_option maxRecDepth 4000 in
theorem rX9_has_0 {G : jdG} {n rc rs : Nat} {Z : jdL} {I : jdI} {J : jdJ} {K : Int32 → jdI → jdJ → Prop} {t : Nat} {x1 : Int32} (ht : zTown Z t) (h : ((x1 < 0 → K 0 I J) ∧ (¬ x1 < 0 → (((I t 3) ≤ x1 → K 0 I J) ∧ (¬ (I t 3) ≤ x1 → K 1 I J))))) : Jd G mX9_has (jdFm G (qi Z K)) n rc rs 0 [(0, .ref (gb G + t)), (1, .int x1)] [] Z I J := by
  refine jd_iload_n (pc := 0) 1 dX9_has_0 rfl rfl ?_
  refine jd_if_lt (pc := 1) 16 dX9_has_1 (by decide) (fun hc => ?_) (fun hc => ?_)
  · have h := h.1 hc
    refine jd_iconst (pc := 16) (v := 0) dX9_has_16 (by decide) ?_
    exact jd_iretK (pc := 17) (ty := .boolean) rfl (by decide) dX9_has_17 h
  · have h := h.2 hc
    refine jd_iload_n (pc := 4) 1 dX9_has_4 rfl rfl ?_
    refine jd_aload_n (pc := 5) 0 dX9_has_5 rfl rfl ?_
    refine jd_getI (pc := 6) (ci := 8) (k := 3) gX9_28 ht.1 rfl dX9_has_6 ?_
    refine jd_icmp_ge (pc := 9) 16 dX9_has_9 (by decide) (fun hc => ?_) (fun hc => ?_)
    · have h := h.1 hc
      refine jd_iconst (pc := 16) (v := 0) dX9_has_16 (by decide) ?_
      exact jd_iretK (pc := 17) (ty := .boolean) rfl (by decide) dX9_has_17 h
    · have h := h.2 hc
      refine jd_iconst (pc := 12) (v := 1) dX9_has_12 (by decide) ?_
      refine jd_goto (pc := 13) 17 dX9_has_13 (by decide) ?_
      exact jd_iretK (pc := 17) (ty := .boolean) rfl (by decide) dX9_has_17 h
theorem eX9_has {G : jdG} {n : Nat} {Z : jdL} {I : jdI} {J : jdJ} {K : Int32 → jdI → jdJ → Prop} {t : Nat} {x1 : Int32} (ht : zTown Z t) (h : ((x1 < 0 → K 0 I J) ∧ (¬ x1 < 0 → (((I t 3) ≤ x1 → K 0 I J) ∧ (¬ (I t 3) ≤ x1 → K 1 I J))))) : Cl G mX9_has (n) 0 0 [.ref (gb G + t), .int x1] Z I J (qi Z K) :=
  Cl.of (by decide +kernel) (Nat.le_of_ble_eq_true rfl) (rX9_has_0 ht h)
set_option maxRecDepth 4000 in
theorem rX9_hasTwo_0 {G : jdG} {n rc rs : Nat} {Z : jdL} {I : jdI} {J : jdJ} {K : Int32 → jdI → jdJ → Prop} {t : Nat} {x1 : Int32} {x2 : Int32} (ht : zTown Z t) (h : Cl G mX9_has n 0 0 [.ref (gb G + t), .int x1] Z I J (qi Z (fun v2 I1 J1 => ((v2 = 0 → K 0 I1 J1) ∧ (¬ v2 = 0 → Cl G mX9_has n 0 0 [.ref (gb G + t), .int x2] Z I1 J1 (qi Z (fun v4 I3 J3 => ((v4 = 0 → K 0 I3 J3) ∧ (¬ v4 = 0 → ((x1 = x2 → K 0 I3 J3) ∧ (¬ x1 = x2 → K 1 I3 J3))))))))))) : Jd G mX9_hasTwo (jdFm G (qi Z K)) (n + 1) rc rs 0 [(0, .ref (gb G + t)), (1, .int x1), (2, .int x2)] [] Z I J := by
  refine jd_aload_n (pc := 0) 0 dX9_hasTwo_0 rfl rfl ?_
  refine jd_iload_n (pc := 1) 1 dX9_hasTwo_1 rfl rfl ?_
  refine jd_callVi (pc := 2) (M2 := mX9_has) (id := t) (ci := 8) (T := TX9) (N := 10) (av := [.int x1]) kX9_has sX9_has rfl ht.1 lX9_31 rfl rfl (Nat.le_of_ble_eq_true rfl) dX9_hasTwo_2 h ?_
  intro v2 I1 J1 h
  refine jd_if_eq (pc := 5) 25 dX9_hasTwo_5 (by decide) (fun hc => ?_) (fun hc => ?_)
  · have h := h.1 hc
    refine jd_iconst (pc := 25) (v := 0) dX9_hasTwo_25 (by decide) ?_
    exact jd_iretK (pc := 26) (ty := .boolean) rfl (by decide) dX9_hasTwo_26 h
  · have h := h.2 hc
    refine jd_aload_n (pc := 8) 0 dX9_hasTwo_8 rfl rfl ?_
    refine jd_iload_n (pc := 9) 2 dX9_hasTwo_9 rfl rfl ?_
    refine jd_callVi (pc := 10) (M2 := mX9_has) (id := t) (ci := 8) (T := TX9) (N := 10) (av := [.int x2]) kX9_has sX9_has rfl ht.1 lX9_31 rfl rfl (Nat.le_of_ble_eq_true rfl) dX9_hasTwo_10 h ?_
    intro v4 I3 J3 h
    refine jd_if_eq (pc := 13) 25 dX9_hasTwo_13 (by decide) (fun hc => ?_) (fun hc => ?_)
    · have h := h.1 hc
      refine jd_iconst (pc := 25) (v := 0) dX9_hasTwo_25 (by decide) ?_
      exact jd_iretK (pc := 26) (ty := .boolean) rfl (by decide) dX9_hasTwo_26 h
    · have h := h.2 hc
      refine jd_iload_n (pc := 16) 1 dX9_hasTwo_16 rfl rfl ?_
      refine jd_iload_n (pc := 17) 2 dX9_hasTwo_17 rfl rfl ?_
      refine jd_icmp_eq (pc := 18) 25 dX9_hasTwo_18 (by decide) (fun hc => ?_) (fun hc => ?_)
      · have h := h.1 hc
        refine jd_iconst (pc := 25) (v := 0) dX9_hasTwo_25 (by decide) ?_
        exact jd_iretK (pc := 26) (ty := .boolean) rfl (by decide) dX9_hasTwo_26 h
      · have h := h.2 hc
        refine jd_iconst (pc := 21) (v := 1) dX9_hasTwo_21 (by decide) ?_
        refine jd_goto (pc := 22) 26 dX9_hasTwo_22 (by decide) ?_
        exact jd_iretK (pc := 26) (ty := .boolean) rfl (by decide) dX9_hasTwo_26 h
theorem eX9_hasTwo {G : jdG} {n : Nat} {Z : jdL} {I : jdI} {J : jdJ} {K : Int32 → jdI → jdJ → Prop} {t : Nat} {x1 : Int32} {x2 : Int32} (ht : zTown Z t) (h : Cl G mX9_has n 0 0 [.ref (gb G + t), .int x1] Z I J (qi Z (fun v2 I1 J1 => ((v2 = 0 → K 0 I1 J1) ∧ (¬ v2 = 0 → Cl G mX9_has n 0 0 [.ref (gb G + t), .int x2] Z I1 J1 (qi Z (fun v4 I3 J3 => ((v4 = 0 → K 0 I3 J3) ∧ (¬ v4 = 0 → ((x1 = x2 → K 0 I3 J3) ∧ (¬ x1 = x2 → K 1 I3 J3))))))))))) : Cl G mX9_hasTwo (n + 1) 0 0 [.ref (gb G + t), .int x1, .int x2] Z I J (qi Z K) :=
  Cl.of (by decide +kernel) (Nat.le_of_ble_eq_true rfl) (rX9_hasTwo_0 ht h)
set_option maxRecDepth 4000 in
theorem rX9_hasAll_0 {G : jdG} {n rc rs : Nat} {Z : jdL} {I : jdI} {J : jdJ} {K : Int32 → jdI → jdJ → Prop} {t : Nat} {x1 : Int32} (ht : zTown Z t) (h : ((x1 < 0 → K 0 I J) ∧ (¬ x1 < 0 → Cl G mX9_everybody n 0 0 [.ref (gb G + t)] Z I J (qi Z (fun v2 I1 J1 => ((v2 < x1 → K 0 I1 J1) ∧ (¬ v2 < x1 → K 1 I1 J1))))))) : Jd G mX9_hasAll (jdFm G (qi Z K)) (n + 1) rc rs 0 [(0, .ref (gb G + t)), (1, .int x1)] [] Z I J := by
  refine jd_iload_n (pc := 0) 1 dX9_hasAll_0 rfl rfl ?_
  refine jd_if_lt (pc := 1) 16 dX9_hasAll_1 (by decide) (fun hc => ?_) (fun hc => ?_)
  · have h := h.1 hc
    refine jd_iconst (pc := 16) (v := 0) dX9_hasAll_16 (by decide) ?_
    exact jd_iretK (pc := 17) (ty := .boolean) rfl (by decide) dX9_hasAll_17 h
  · have h := h.2 hc
    refine jd_iload_n (pc := 4) 1 dX9_hasAll_4 rfl rfl ?_
    refine jd_aload_n (pc := 5) 0 dX9_hasAll_5 rfl rfl ?_
    refine jd_callVi (pc := 6) (M2 := mX9_everybody) (id := t) (ci := 8) (T := TX9) (N := 10) (av := []) kX9_everybody sX9_everybody rfl ht.1 lX9_35 rfl rfl (Nat.le_of_ble_eq_true rfl) dX9_hasAll_6 h ?_
    intro v2 I1 J1 h
    refine jd_icmp_gt (pc := 9) 16 dX9_hasAll_9 (by decide) (fun hc => ?_) (fun hc => ?_)
    · have h := h.1 hc
      refine jd_iconst (pc := 16) (v := 0) dX9_hasAll_16 (by decide) ?_
      exact jd_iretK (pc := 17) (ty := .boolean) rfl (by decide) dX9_hasAll_17 h
    · have h := h.2 hc
      refine jd_iconst (pc := 12) (v := 1) dX9_hasAll_12 (by decide) ?_
      refine jd_goto (pc := 13) 17 dX9_hasAll_13 (by decide) ?_
      exact jd_iretK (pc := 17) (ty := .boolean) rfl (by decide) dX9_hasAll_17 h
theorem eX9_hasAll {G : jdG} {n : Nat} {Z : jdL} {I : jdI} {J : jdJ} {K : Int32 → jdI → jdJ → Prop} {t : Nat} {x1 : Int32} (ht : zTown Z t) (h : ((x1 < 0 → K 0 I J) ∧ (¬ x1 < 0 → Cl G mX9_everybody n 0 0 [.ref (gb G + t)] Z I J (qi Z (fun v2 I1 J1 => ((v2 < x1 → K 0 I1 J1) ∧ (¬ v2 < x1 → K 1 I1 J1))))))) : Cl G mX9_hasAll (n + 1) 0 0 [.ref (gb G + t), .int x1] Z I J (qi Z K) :=
  Cl.of (by decide +kernel) (Nat.le_of_ble_eq_true rfl) (rX9_hasAll_0 ht h)
set_option maxRecDepth 4000 in
theorem rX9_everybody_0 {G : jdG} {n rc rs : Nat} {Z : jdL} {I : jdI} {J : jdJ} {K : Int32 → jdI → jdJ → Prop} {t : Nat} (ht : zTown Z t) (h : K ((1 <<< ((I t 3) &&& 31)) - 1) I J) : Jd G mX9_everybody (jdFm G (qi Z K)) n rc rs 0 [(0, .ref (gb G + t))] [] Z I J := by
  refine jd_iconst (pc := 0) (v := 1) dX9_everybody_0 (by decide) ?_
  refine jd_aload_n (pc := 1) 0 dX9_everybody_1 rfl rfl ?_
  refine jd_getI (pc := 2) (ci := 8) (k := 3) gX9_28 ht.1 rfl dX9_everybody_2 ?_
  refine jd_ishl (pc := 5) dX9_everybody_5 ?_
  refine jd_iconst (pc := 6) (v := 1) dX9_everybody_6 (by decide) ?_
  refine jd_isub (pc := 7) dX9_everybody_7 ?_
  exact jd_iretK (pc := 8) rfl rfl dX9_everybody_8 h
theorem eX9_everybody {G : jdG} {n : Nat} {Z : jdL} {I : jdI} {J : jdJ} {K : Int32 → jdI → jdJ → Prop} {t : Nat} (ht : zTown Z t) (h : K ((1 <<< ((I t 3) &&& 31)) - 1) I J) : Cl G mX9_everybody (n) 0 0 [.ref (gb G + t)] Z I J (qi Z K) :=
  Cl.of (by decide +kernel) (Nat.le_of_ble_eq_true rfl) (rX9_everybody_0 ht h)
set_option maxRecDepth 4000 in
theorem rX9_since_0 {G : jdG} {n rc rs : Nat} {Z : jdL} {I : jdI} {J : jdJ} {K : Int32 → jdI → jdJ → Prop} {t : Nat} {x1 : Int32} {x2 : Int32} (ht : zTown Z t) (h : (vp_in ((x1 * 7) + x2) 49 ∧ K (I (t + 3) (Int32.toNatClampNeg ((x1 * 7) + x2))) I J)) : Jd G mX9_since (jdFm G (qi Z K)) n rc rs 0 [(0, .ref (gb G + t)), (1, .int x1), (2, .int x2)] [] Z I J := by
  refine jd_aload_n (pc := 0) 0 dX9_since_0 rfl rfl ?_
  refine jd_getR (pc := 1) (ci := 8) (k := 2) (r := (t + 3)) gX9_18 ht.1 rfl (zTown_p2 ht) dX9_since_1 ?_
  refine jd_iload_n (pc := 4) 1 dX9_since_4 rfl rfl ?_
  refine jd_bipush (pc := 5) (v := 7) dX9_since_5 (by decide) ?_
  refine jd_imul (pc := 7) dX9_since_7 ?_
  refine jd_iload_n (pc := 8) 2 dX9_since_8 rfl rfl ?_
  refine jd_iadd (pc := 9) dX9_since_9 ?_
  obtain ⟨hv1, h⟩ := h
  refine jd_iald (pc := 10) (len := 49) (zTown_a2 ht) hv1 dX9_since_10 ?_
  exact jd_iretK (pc := 11) rfl rfl dX9_since_11 h
theorem eX9_since {G : jdG} {n : Nat} {Z : jdL} {I : jdI} {J : jdJ} {K : Int32 → jdI → jdJ → Prop} {t : Nat} {x1 : Int32} {x2 : Int32} (ht : zTown Z t) (h : (vp_in ((x1 * 7) + x2) 49 ∧ K (I (t + 3) (Int32.toNatClampNeg ((x1 * 7) + x2))) I J)) : Cl G mX9_since (n) 0 0 [.ref (gb G + t), .int x1, .int x2] Z I J (qi Z K) :=
  Cl.of (by decide +kernel) (Nat.le_of_ble_eq_true rfl) (rX9_since_0 ht h)
set_option maxRecDepth 4000 in
theorem rX9_tie_0 {G : jdG} {n rc rs : Nat} {Z : jdL} {I : jdI} {J : jdJ} {K : jdI → jdJ → Prop} {t : Nat} {x1 : Int32} {x2 : Int32} {x3 : Int32} (ht : zTown Z t) (h : (vp_in ((x1 * 7) + x2) 49 ∧ (vp_in ((x2 * 7) + x1) 49 ∧ K (uI (uI I (t + 3) (Int32.toNatClampNeg ((x1 * 7) + x2)) x3) (t + 3) (Int32.toNatClampNeg ((x2 * 7) + x1)) x3) J))) : Jd G mX9_tie (jdFm G (qv Z K)) n rc rs 0 [(0, .ref (gb G + t)), (1, .int x1), (2, .int x2), (3, .int x3)] [] Z I J := by
  refine jd_aload_n (pc := 0) 0 dX9_tie_0 rfl rfl ?_
  refine jd_getR (pc := 1) (ci := 8) (k := 2) (r := (t + 3)) gX9_18 ht.1 rfl (zTown_p2 ht) dX9_tie_1 ?_
  refine jd_iload_n (pc := 4) 1 dX9_tie_4 rfl rfl ?_
  refine jd_bipush (pc := 5) (v := 7) dX9_tie_5 (by decide) ?_
  refine jd_imul (pc := 7) dX9_tie_7 ?_
  refine jd_iload_n (pc := 8) 2 dX9_tie_8 rfl rfl ?_
  refine jd_iadd (pc := 9) dX9_tie_9 ?_
  refine jd_iload_n (pc := 10) 3 dX9_tie_10 rfl rfl ?_
  obtain ⟨hv1, h⟩ := h
  refine jd_iast (pc := 11) (len := 49) (zTown_a2 ht) hv1 dX9_tie_11 ?_
  refine jd_aload_n (pc := 12) 0 dX9_tie_12 rfl rfl ?_
  refine jd_getR (pc := 13) (ci := 8) (k := 2) (r := (t + 3)) gX9_18 ht.1 rfl (zTown_p2 ht) dX9_tie_13 ?_
  refine jd_iload_n (pc := 16) 2 dX9_tie_16 rfl rfl ?_
  refine jd_bipush (pc := 17) (v := 7) dX9_tie_17 (by decide) ?_
  refine jd_imul (pc := 19) dX9_tie_19 ?_
  refine jd_iload_n (pc := 20) 1 dX9_tie_20 rfl rfl ?_
  refine jd_iadd (pc := 21) dX9_tie_21 ?_
  refine jd_iload_n (pc := 22) 3 dX9_tie_22 rfl rfl ?_
  obtain ⟨hv2, h⟩ := h
  refine jd_iast (pc := 23) (len := 49) (zTown_a2 ht) hv2 dX9_tie_23 ?_
  exact jd_vretK (pc := 24) rfl dX9_tie_24 h
theorem eX9_tie {G : jdG} {n : Nat} {Z : jdL} {I : jdI} {J : jdJ} {K : jdI → jdJ → Prop} {t : Nat} {x1 : Int32} {x2 : Int32} {x3 : Int32} (ht : zTown Z t) (h : (vp_in ((x1 * 7) + x2) 49 ∧ (vp_in ((x2 * 7) + x1) 49 ∧ K (uI (uI I (t + 3) (Int32.toNatClampNeg ((x1 * 7) + x2)) x3) (t + 3) (Int32.toNatClampNeg ((x2 * 7) + x1)) x3) J))) : Cl G mX9_tie (n) 0 0 [.ref (gb G + t), .int x1, .int x2, .int x3] Z I J (qv Z K) :=
  Cl.of (by decide +kernel) (Nat.le_of_ble_eq_true rfl) (rX9_tie_0 ht h)
set_option maxRecDepth 4000 in
theorem rX9_add_0 {G : jdG} {n rc rs : Nat} {Z : jdL} {I : jdI} {J : jdJ} {K : Int32 → jdI → jdJ → Prop} {t : Nat} {x1 : Int32} {x2 : Int32} (ht : zTown Z t) (h : (((I t 3) < 7 → (vp_in (I t 3) 7 ∧ (vp_in (I t 3) 7 ∧ Jd G mX9_add (jdFm G (qi Z K)) (n + 1) rc rs 43 [(0, .ref (gb G + t)), (1, .int x1), (2, .int x2), (3, .int (I t 3)), (4, .int 0)] [] Z (uI (uI (uI I t 3 ((I t 3) + 1)) (t + 1) (Int32.toNatClampNeg (I t 3)) x1) (t + 2) (Int32.toNatClampNeg (I t 3)) x2) J))) ∧ (¬ (I t 3) < 7 → K (-1) I J))) : Jd G mX9_add (jdFm G (qi Z K)) (n + 1) rc rs 0 [(0, .ref (gb G + t)), (1, .int x1), (2, .int x2)] [] Z I J := by
  refine jd_aload_n (pc := 0) 0 dX9_add_0 rfl rfl ?_
  refine jd_getI (pc := 1) (ci := 8) (k := 3) gX9_28 ht.1 rfl dX9_add_1 ?_
  refine jd_bipush (pc := 4) (v := 7) dX9_add_4 (by decide) ?_
  refine jd_icmp_lt (pc := 6) 11 dX9_add_6 (by decide) (fun hc => ?_) (fun hc => ?_)
  · have h := h.1 hc
    refine jd_aload_n (pc := 11) 0 dX9_add_11 rfl rfl ?_
    refine jd_getI (pc := 12) (ci := 8) (k := 3) gX9_28 ht.1 rfl dX9_add_12 ?_
    refine jd_istore_n (pc := 15) [(3, .int (I t 3)), (0, .ref (gb G + t)), (1, .int x1), (2, .int x2)] dX9_add_15 rfl (by decide) rfl ?_
    refine jd_aload_n (pc := 16) 1 dX9_add_16 rfl rfl ?_
    refine jd_dup (pc := 17) dX9_add_17 rfl ?_
    refine jd_getI (pc := 18) (ci := 8) (k := 3) gX9_28 ht.1 rfl dX9_add_18 ?_
    refine jd_iconst (pc := 21) (v := 1) dX9_add_21 (by decide) ?_
    refine jd_iadd (pc := 22) dX9_add_22 ?_
    refine jd_putI (pc := 23) (ci := 8) (k := 3) pX9_28 ht.1 rfl rfl rfl dX9_add_23 ?_
    refine jd_aload_n (pc := 26) 1 dX9_add_26 rfl rfl ?_
    refine jd_getR (pc := 27) (ci := 8) (k := 0) (r := (t + 1)) gX9_9 ht.1 rfl (zTown_p0 ht) dX9_add_27 ?_
    refine jd_iload_n (pc := 30) 0 dX9_add_30 rfl rfl ?_
    refine jd_iload_n (pc := 31) 2 dX9_add_31 rfl rfl ?_
    obtain ⟨hv1, h⟩ := h
    refine jd_iast (pc := 32) (len := 7) (zTown_a0 ht) hv1 dX9_add_32 ?_
    refine jd_aload_n (pc := 33) 1 dX9_add_33 rfl rfl ?_
    refine jd_getR (pc := 34) (ci := 8) (k := 1) (r := (t + 2)) gX9_15 ht.1 rfl (zTown_p1 ht) dX9_add_34 ?_
    refine jd_iload_n (pc := 37) 0 dX9_add_37 rfl rfl ?_
    refine jd_iload_n (pc := 38) 3 dX9_add_38 rfl rfl ?_
    obtain ⟨hv2, h⟩ := h
    refine jd_iast (pc := 39) (len := 7) (zTown_a1 ht) hv2 dX9_add_39 ?_
    refine jd_iconst (pc := 40) (v := 0) dX9_add_40 (by decide) ?_
    refine jd_istore (pc := 41) [(4, .int 0), (3, .int (I t 3)), (0, .ref (gb G + t)), (1, .int x1), (2, .int x2)] dX9_add_41 (by decide) rfl ?_
    exact jd_lv (lv2 := [(0, .ref (gb G + t)), (1, .int x1), (2, .int x2), (3, .int (I t 3)), (4, .int 0)]) [2, 3, 4, 1, 0] rfl h
  · have h := h.2 hc
    refine jd_iconst (pc := 9) (v := (-1)) dX9_add_9 (by decide) ?_
    exact jd_iretK (pc := 10) rfl rfl dX9_add_10 h
set_option maxRecDepth 4000 in
theorem rX9_add_43 {G : jdG} {n rc rs : Nat} {Z : jdL} {I : jdI} {J : jdJ} {K : Int32 → jdI → jdJ → Prop} {t : Nat} {x1 : Int32} {x2 : Int32} {x3 : Int32} {x4 : Int32} (ht : zTown Z t) (h : ((x3 ≤ x4 → K x3 I J) ∧ (¬ x3 ≤ x4 → Cl G mX9_tie n 0 0 [.ref (gb G + t), .int x3, .int x4, .int (-1)] Z I J (qv Z (fun I1 J1 => Jd G mX9_add (jdFm G (qi Z K)) (n + 1) rc rs 43 [(0, .ref (gb G + t)), (1, .int x1), (2, .int x2), (3, .int x3), (4, .int (x4 + 1))] [] Z I1 J1))))) : Jd G mX9_add (jdFm G (qi Z K)) (n + 1) rc rs 43 [(0, .ref (gb G + t)), (1, .int x1), (2, .int x2), (3, .int x3), (4, .int x4)] [] Z I J := by
  refine jd_iload (pc := 43) 4 dX9_add_43 rfl ?_
  refine jd_iload_n (pc := 45) 3 dX9_add_45 rfl rfl ?_
  refine jd_icmp_ge (pc := 46) 63 dX9_add_46 (by decide) (fun hc => ?_) (fun hc => ?_)
  · have h := h.1 hc
    refine jd_iload_n (pc := 63) 3 dX9_add_63 rfl rfl ?_
    exact jd_iretK (pc := 64) rfl rfl dX9_add_64 h
  · have h := h.2 hc
    refine jd_aload_n (pc := 49) 0 dX9_add_49 rfl rfl ?_
    refine jd_iload_n (pc := 50) 3 dX9_add_50 rfl rfl ?_
    refine jd_iload (pc := 51) 4 dX9_add_51 rfl ?_
    refine jd_iconst (pc := 53) (v := (-1)) dX9_add_53 (by decide) ?_
    refine jd_callVv (pc := 54) (M2 := mX9_tie) (id := t) (ci := 8) (T := TX9) (N := 10) (av := [.int x3, .int x4, .int (-1)]) kX9_tie sX9_tie rfl ht.1 lX9_39 rfl rfl (Nat.le_of_ble_eq_true rfl) dX9_add_54 h ?_
    intro I1 J1 h
    refine jd_iinc (pc := 57) (v := (x4 + 1)) 4 [(4, .int (x4 + 1)), (0, .ref (gb G + t)), (1, .int x1), (2, .int x2), (3, .int x3)] dX9_add_57 rfl rfl (by decide) rfl ?_
    refine jd_goto (pc := 60) 43 dX9_add_60 (by decide) ?_
    exact jd_lv (lv2 := [(0, .ref (gb G + t)), (1, .int x1), (2, .int x2), (3, .int x3), (4, .int (x4 + 1))]) [1, 2, 3, 4, 0] rfl h
theorem eX9_add {G : jdG} {n : Nat} {Z : jdL} {I : jdI} {J : jdJ} {K : Int32 → jdI → jdJ → Prop} {t : Nat} {x1 : Int32} {x2 : Int32} (ht : zTown Z t) (h : (((I t 3) < 7 → (vp_in (I t 3) 7 ∧ (vp_in (I t 3) 7 ∧ Jd G mX9_add (jdFm G (qi Z K)) (n + 1) 0 0 43 [(0, .ref (gb G + t)), (1, .int x1), (2, .int x2), (3, .int (I t 3)), (4, .int 0)] [] Z (uI (uI (uI I t 3 ((I t 3) + 1)) (t + 1) (Int32.toNatClampNeg (I t 3)) x1) (t + 2) (Int32.toNatClampNeg (I t 3)) x2) J))) ∧ (¬ (I t 3) < 7 → K (-1) I J))) : Cl G mX9_add (n + 1) 0 0 [.ref (gb G + t), .int x1, .int x2] Z I J (qi Z K) :=
  Cl.of (by decide +kernel) (Nat.le_of_ble_eq_true rfl) (rX9_add_0 ht h)
set_option maxRecDepth 4000 in
theorem rX9_addByDraws_0 {G : jdG} {n rc rs : Nat} {Z : jdL} {I : jdI} {J : jdJ} {K : jdI → jdJ → Prop} {t : Nat} (ht : zTown Z t) (h : Cl G mX9_draw n 0 0 [.ref (gb G + t), .int 24] Z I J (qi Z (fun v2 I1 J1 => Cl G mX9_draw n 0 0 [.ref (gb G + t), .int 10] Z I1 J1 (qi Z (fun v4 I3 J3 => Cl G mX9_add n 0 0 [.ref (gb G + t), .int v2, .int v4] Z I3 J3 (qi Z (fun v6 I5 J5 => Jd G mX9_addByDraws (jdFm G (qv Z K)) (n + 1) rc rs 24 [(0, .ref (gb G + t)), (1, .int v2), (2, .int v4), (3, .int v6), (4, .int 0)] [] Z I5 J5))))))) : Jd G mX9_addByDraws (jdFm G (qv Z K)) (n + 1) rc rs 0 [(0, .ref (gb G + t))] [] Z I J := by
  refine jd_aload_n (pc := 0) 0 dX9_addByDraws_0 rfl rfl ?_
  refine jd_bipush (pc := 1) (v := 24) dX9_addByDraws_1 (by decide) ?_
  refine jd_callVi (pc := 3) (M2 := mX9_draw) (id := t) (ci := 8) (T := TX9) (N := 10) (av := [.int 24]) kX9_draw sX9_draw rfl ht.1 lX9_43 rfl rfl (Nat.le_of_ble_eq_true rfl) dX9_addByDraws_3 h ?_
  intro v2 I1 J1 h
  refine jd_istore_n (pc := 6) [(1, .int v2), (0, .ref (gb G + t))] dX9_addByDraws_6 rfl (by decide) rfl ?_
  refine jd_aload_n (pc := 7) 1 dX9_addByDraws_7 rfl rfl ?_
  refine jd_bipush (pc := 8) (v := 10) dX9_addByDraws_8 (by decide) ?_
  refine jd_callVi (pc := 10) (M2 := mX9_draw) (id := t) (ci := 8) (T := TX9) (N := 10) (av := [.int 10]) kX9_draw sX9_draw rfl ht.1 lX9_43 rfl rfl (Nat.le_of_ble_eq_true rfl) dX9_addByDraws_10 h ?_
  intro v4 I3 J3 h
  refine jd_istore_n (pc := 13) [(2, .int v4), (1, .int v2), (0, .ref (gb G + t))] dX9_addByDraws_13 rfl (by decide) rfl ?_
  refine jd_aload_n (pc := 14) 2 dX9_addByDraws_14 rfl rfl ?_
  refine jd_iload_n (pc := 15) 1 dX9_addByDraws_15 rfl rfl ?_
  refine jd_iload_n (pc := 16) 0 dX9_addByDraws_16 rfl rfl ?_
  refine jd_callVi (pc := 17) (M2 := mX9_add) (id := t) (ci := 8) (T := TX9) (N := 10) (av := [.int v2, .int v4]) kX9_add sX9_add rfl ht.1 lX9_47 rfl rfl (Nat.le_of_ble_eq_true rfl) dX9_addByDraws_17 h ?_
  intro v6 I5 J5 h
  refine jd_istore_n (pc := 20) [(3, .int v6), (2, .int v4), (1, .int v2), (0, .ref (gb G + t))] dX9_addByDraws_20 rfl (by decide) rfl ?_
  refine jd_iconst (pc := 21) (v := 0) dX9_addByDraws_21 (by decide) ?_
  refine jd_istore (pc := 22) [(4, .int 0), (3, .int v6), (2, .int v4), (1, .int v2), (0, .ref (gb G + t))] dX9_addByDraws_22 (by decide) rfl ?_
  exact jd_lv (lv2 := [(0, .ref (gb G + t)), (1, .int v2), (2, .int v4), (3, .int v6), (4, .int 0)]) [4, 3, 2, 1, 0] rfl h
set_option maxRecDepth 4000 in
theorem rX9_addByDraws_24 {G : jdG} {n rc rs : Nat} {Z : jdL} {I : jdI} {J : jdJ} {K : jdI → jdJ → Prop} {t : Nat} {x1 : Int32} {x2 : Int32} {x3 : Int32} {x4 : Int32} (ht : zTown Z t) (h : ((x3 ≤ x4 → K I J) ∧ (¬ x3 ≤ x4 → Cl G mX9_draw n 0 0 [.ref (gb G + t), .int 3] Z I J (qi Z (fun v2 I1 J1 => ((¬ v2 = 0 → Jd G mX9_addByDraws (jdFm G (qv Z K)) (n + 1) rc rs 24 [(0, .ref (gb G + t)), (1, .int x1), (2, .int x2), (3, .int x3), (4, .int (x4 + 1))] [] Z I1 J1) ∧ (v2 = 0 → Cl G mX9_tie n 0 0 [.ref (gb G + t), .int x3, .int x4, .int 0] Z I1 J1 (qv Z (fun I3 J3 => Jd G mX9_addByDraws (jdFm G (qv Z K)) (n + 1) rc rs 24 [(0, .ref (gb G + t)), (1, .int x1), (2, .int x2), (3, .int x3), (4, .int (x4 + 1))] [] Z I3 J3))))))))) : Jd G mX9_addByDraws (jdFm G (qv Z K)) (n + 1) rc rs 24 [(0, .ref (gb G + t)), (1, .int x1), (2, .int x2), (3, .int x3), (4, .int x4)] [] Z I J := by
  refine jd_iload (pc := 24) 4 dX9_addByDraws_24 rfl ?_
  refine jd_iload_n (pc := 26) 3 dX9_addByDraws_26 rfl rfl ?_
  refine jd_icmp_ge (pc := 27) 52 dX9_addByDraws_27 (by decide) (fun hc => ?_) (fun hc => ?_)
  · have h := h.1 hc
    exact jd_vretK (pc := 52) rfl dX9_addByDraws_52 h
  · have h := h.2 hc
    refine jd_aload_n (pc := 30) 0 dX9_addByDraws_30 rfl rfl ?_
    refine jd_iconst (pc := 31) (v := 3) dX9_addByDraws_31 (by decide) ?_
    refine jd_callVi (pc := 32) (M2 := mX9_draw) (id := t) (ci := 8) (T := TX9) (N := 10) (av := [.int 3]) kX9_draw sX9_draw rfl ht.1 lX9_43 rfl rfl (Nat.le_of_ble_eq_true rfl) dX9_addByDraws_32 h ?_
    intro v2 I1 J1 h
    refine jd_if_ne (pc := 35) 46 dX9_addByDraws_35 (by decide) (fun hc => ?_) (fun hc => ?_)
    · have h := h.1 hc
      refine jd_iinc (pc := 46) (v := (x4 + 1)) 4 [(4, .int (x4 + 1)), (0, .ref (gb G + t)), (1, .int x1), (2, .int x2), (3, .int x3)] dX9_addByDraws_46 rfl rfl (by decide) rfl ?_
      refine jd_goto (pc := 49) 24 dX9_addByDraws_49 (by decide) ?_
      exact jd_lv (lv2 := [(0, .ref (gb G + t)), (1, .int x1), (2, .int x2), (3, .int x3), (4, .int (x4 + 1))]) [1, 2, 3, 4, 0] rfl h
    · have h := h.2 hc
      refine jd_aload_n (pc := 38) 0 dX9_addByDraws_38 rfl rfl ?_
      refine jd_iload_n (pc := 39) 3 dX9_addByDraws_39 rfl rfl ?_
      refine jd_iload (pc := 40) 4 dX9_addByDraws_40 rfl ?_
      refine jd_iconst (pc := 42) (v := 0) dX9_addByDraws_42 (by decide) ?_
      refine jd_callVv (pc := 43) (M2 := mX9_tie) (id := t) (ci := 8) (T := TX9) (N := 10) (av := [.int x3, .int x4, .int 0]) kX9_tie sX9_tie rfl ht.1 lX9_39 rfl rfl (Nat.le_of_ble_eq_true rfl) dX9_addByDraws_43 h ?_
      intro I3 J3 h
      refine jd_iinc (pc := 46) (v := (x4 + 1)) 4 [(4, .int (x4 + 1)), (0, .ref (gb G + t)), (1, .int x1), (2, .int x2), (3, .int x3)] dX9_addByDraws_46 rfl rfl (by decide) rfl ?_
      refine jd_goto (pc := 49) 24 dX9_addByDraws_49 (by decide) ?_
      exact jd_lv (lv2 := [(0, .ref (gb G + t)), (1, .int x1), (2, .int x2), (3, .int x3), (4, .int (x4 + 1))]) [1, 2, 3, 4, 0] rfl h
theorem eX9_addByDraws {G : jdG} {n : Nat} {Z : jdL} {I : jdI} {J : jdJ} {K : jdI → jdJ → Prop} {t : Nat} (ht : zTown Z t) (h : Cl G mX9_draw n 0 0 [.ref (gb G + t), .int 24] Z I J (qi Z (fun v2 I1 J1 => Cl G mX9_draw n 0 0 [.ref (gb G + t), .int 10] Z I1 J1 (qi Z (fun v4 I3 J3 => Cl G mX9_add n 0 0 [.ref (gb G + t), .int v2, .int v4] Z I3 J3 (qi Z (fun v6 I5 J5 => Jd G mX9_addByDraws (jdFm G (qv Z K)) (n + 1) 0 0 24 [(0, .ref (gb G + t)), (1, .int v2), (2, .int v4), (3, .int v6), (4, .int 0)] [] Z I5 J5))))))) : Cl G mX9_addByDraws (n + 1) 0 0 [.ref (gb G + t)] Z I J (qv Z K) :=
  Cl.of (by decide +kernel) (Nat.le_of_ble_eq_true rfl) (rX9_addByDraws_0 ht h)
set_option maxRecDepth 4000 in
theorem rX9_draw_0 {G : jdG} {n rc rs : Nat} {Z : jdL} {I : jdI} {J : jdJ} {K : Int32 → jdI → jdJ → Prop} {t : Nat} {x1 : Int32} (ht : zTown Z t) (h : ((1 ≤ x1 → (¬ x1 = 0 ∧ K ((Int32.toUInt32 (((I t 6) * 1103515245) + 12345) >>> (Int32.toUInt32 16 &&& Int32.toUInt32 31)).toInt32 - (Int32.toUInt32 (((I t 6) * 1103515245) + 12345) >>> (Int32.toUInt32 16 &&& Int32.toUInt32 31)).toInt32 / x1 * x1) (uI I t 6 (((I t 6) * 1103515245) + 12345)) J)) ∧ (¬ 1 ≤ x1 → K 0 (uI I t 6 (((I t 6) * 1103515245) + 12345)) J))) : Jd G mX9_draw (jdFm G (qi Z K)) n rc rs 0 [(0, .ref (gb G + t)), (1, .int x1)] [] Z I J := by
  refine jd_aload_n (pc := 0) 0 dX9_draw_0 rfl rfl ?_
  refine jd_aload_n (pc := 1) 0 dX9_draw_1 rfl rfl ?_
  refine jd_getI (pc := 2) (ci := 8) (k := 6) gX9_25 ht.1 rfl dX9_draw_2 ?_
  refine jd_ldc (pc := 5) (v := 1103515245) qX9_51 dX9_draw_5 ?_
  refine jd_imul (pc := 7) dX9_draw_7 ?_
  refine jd_sipush (pc := 8) (v := 12345) dX9_draw_8 (by decide) ?_
  refine jd_iadd (pc := 11) dX9_draw_11 ?_
  refine jd_putI (pc := 12) (ci := 8) (k := 6) pX9_25 ht.1 rfl rfl rfl dX9_draw_12 ?_
  refine jd_iload_n (pc := 15) 1 dX9_draw_15 rfl rfl ?_
  refine jd_iconst (pc := 16) (v := 1) dX9_draw_16 (by decide) ?_
  refine jd_icmp_ge (pc := 17) 24 dX9_draw_17 (by decide) (fun hc => ?_) (fun hc => ?_)
  · have h := h.1 hc
    refine jd_aload_n (pc := 24) 0 dX9_draw_24 rfl rfl ?_
    refine jd_getIe (pc := 25) (ci := 8) (k := 6) (e := (((I t 6) * 1103515245) + 12345)) (uI_ss _ _ _ _) gX9_25 ht.1 rfl dX9_draw_25 ?_
    refine jd_bipush (pc := 28) (v := 16) dX9_draw_28 (by decide) ?_
    refine jd_iushr (pc := 30) dX9_draw_30 ?_
    refine jd_iload_n (pc := 31) 1 dX9_draw_31 rfl rfl ?_
    obtain ⟨hv1, h⟩ := h
    refine jd_irem (pc := 32) dX9_draw_32 hv1 ?_
    exact jd_iretK (pc := 33) rfl rfl dX9_draw_33 h
  · have h := h.2 hc
    refine jd_iconst (pc := 20) (v := 0) dX9_draw_20 (by decide) ?_
    refine jd_goto (pc := 21) 33 dX9_draw_21 (by decide) ?_
    exact jd_iretK (pc := 33) rfl rfl dX9_draw_33 h
theorem eX9_draw {G : jdG} {n : Nat} {Z : jdL} {I : jdI} {J : jdJ} {K : Int32 → jdI → jdJ → Prop} {t : Nat} {x1 : Int32} (ht : zTown Z t) (h : ((1 ≤ x1 → (¬ x1 = 0 ∧ K ((Int32.toUInt32 (((I t 6) * 1103515245) + 12345) >>> (Int32.toUInt32 16 &&& Int32.toUInt32 31)).toInt32 - (Int32.toUInt32 (((I t 6) * 1103515245) + 12345) >>> (Int32.toUInt32 16 &&& Int32.toUInt32 31)).toInt32 / x1 * x1) (uI I t 6 (((I t 6) * 1103515245) + 12345)) J)) ∧ (¬ 1 ≤ x1 → K 0 (uI I t 6 (((I t 6) * 1103515245) + 12345)) J))) : Cl G mX9_draw (n) 0 0 [.ref (gb G + t), .int x1] Z I J (qi Z K) :=
  Cl.of (by decide +kernel) (Nat.le_of_ble_eq_true rfl) (rX9_draw_0 ht h)
set_option maxRecDepth 4000 in
theorem rX9_strangersTo_0 {G : jdG} {n rc rs : Nat} {Z : jdL} {I : jdI} {J : jdJ} {K : Int32 → jdI → jdJ → Prop} {t : Nat} {x1 : Int32} (ht : zTown Z t) (h : Jd G mX9_strangersTo (jdFm G (qi Z K)) (n + 1) rc rs 4 [(0, .ref (gb G + t)), (1, .int x1), (2, .int 0), (3, .int 0)] [] Z I J) : Jd G mX9_strangersTo (jdFm G (qi Z K)) (n + 1) rc rs 0 [(0, .ref (gb G + t)), (1, .int x1)] [] Z I J := by
  refine jd_iconst (pc := 0) (v := 0) dX9_strangersTo_0 (by decide) ?_
  refine jd_istore_n (pc := 1) [(2, .int 0), (0, .ref (gb G + t)), (1, .int x1)] dX9_strangersTo_1 rfl (by decide) rfl ?_
  refine jd_iconst (pc := 2) (v := 0) dX9_strangersTo_2 (by decide) ?_
  refine jd_istore_n (pc := 3) [(3, .int 0), (2, .int 0), (0, .ref (gb G + t)), (1, .int x1)] dX9_strangersTo_3 rfl (by decide) rfl ?_
  exact jd_lv (lv2 := [(0, .ref (gb G + t)), (1, .int x1), (2, .int 0), (3, .int 0)]) [2, 3, 1, 0] rfl h
set_option maxRecDepth 4000 in
theorem rX9_strangersTo_4 {G : jdG} {n rc rs : Nat} {Z : jdL} {I : jdI} {J : jdJ} {K : Int32 → jdI → jdJ → Prop} {t : Nat} {x1 : Int32} {x2 : Int32} {x3 : Int32} (ht : zTown Z t) (h : (((I t 3) ≤ x3 → K x2 I J) ∧ (¬ (I t 3) ≤ x3 → ((x3 = x1 → Jd G mX9_strangersTo (jdFm G (qi Z K)) (n + 1) rc rs 4 [(0, .ref (gb G + t)), (1, .int x1), (2, .int x2), (3, .int (x3 + 1))] [] Z I J) ∧ (¬ x3 = x1 → Cl G mX9_since n 0 0 [.ref (gb G + t), .int x1, .int x3] Z I J (qi Z (fun v2 I1 J1 => ((¬ v2 = (-1) → Jd G mX9_strangersTo (jdFm G (qi Z K)) (n + 1) rc rs 4 [(0, .ref (gb G + t)), (1, .int x1), (2, .int x2), (3, .int (x3 + 1))] [] Z I1 J1) ∧ (v2 = (-1) → Jd G mX9_strangersTo (jdFm G (qi Z K)) (n + 1) rc rs 4 [(0, .ref (gb G + t)), (1, .int x1), (2, .int (x2 ||| (1 <<< (x3 &&& 31)))), (3, .int (x3 + 1))] [] Z I1 J1))))))))) : Jd G mX9_strangersTo (jdFm G (qi Z K)) (n + 1) rc rs 4 [(0, .ref (gb G + t)), (1, .int x1), (2, .int x2), (3, .int x3)] [] Z I J := by
  refine jd_iload_n (pc := 4) 3 dX9_strangersTo_4 rfl rfl ?_
  refine jd_aload_n (pc := 5) 0 dX9_strangersTo_5 rfl rfl ?_
  refine jd_getI (pc := 6) (ci := 8) (k := 3) gX9_28 ht.1 rfl dX9_strangersTo_6 ?_
  refine jd_icmp_ge (pc := 9) 39 dX9_strangersTo_9 (by decide) (fun hc => ?_) (fun hc => ?_)
  · have h := h.1 hc
    refine jd_iload_n (pc := 39) 2 dX9_strangersTo_39 rfl rfl ?_
    exact jd_iretK (pc := 40) rfl rfl dX9_strangersTo_40 h
  · have h := h.2 hc
    refine jd_iload_n (pc := 12) 3 dX9_strangersTo_12 rfl rfl ?_
    refine jd_iload_n (pc := 13) 1 dX9_strangersTo_13 rfl rfl ?_
    refine jd_icmp_eq (pc := 14) 33 dX9_strangersTo_14 (by decide) (fun hc => ?_) (fun hc => ?_)
    · have h := h.1 hc
      refine jd_iinc (pc := 33) (v := (x3 + 1)) 3 [(3, .int (x3 + 1)), (0, .ref (gb G + t)), (1, .int x1), (2, .int x2)] dX9_strangersTo_33 rfl rfl (by decide) rfl ?_
      refine jd_goto (pc := 36) 4 dX9_strangersTo_36 (by decide) ?_
      exact jd_lv (lv2 := [(0, .ref (gb G + t)), (1, .int x1), (2, .int x2), (3, .int (x3 + 1))]) [1, 2, 3, 0] rfl h
    · have h := h.2 hc
      refine jd_aload_n (pc := 17) 0 dX9_strangersTo_17 rfl rfl ?_
      refine jd_iload_n (pc := 18) 1 dX9_strangersTo_18 rfl rfl ?_
      refine jd_iload_n (pc := 19) 3 dX9_strangersTo_19 rfl rfl ?_
      refine jd_callVi (pc := 20) (M2 := mX9_since) (id := t) (ci := 8) (T := TX9) (N := 10) (av := [.int x1, .int x3]) kX9_since sX9_since rfl ht.1 lX9_52 rfl rfl (Nat.le_of_ble_eq_true rfl) dX9_strangersTo_20 h ?_
      intro v2 I1 J1 h
      refine jd_iconst (pc := 23) (v := (-1)) dX9_strangersTo_23 (by decide) ?_
      refine jd_icmp_ne (pc := 24) 33 dX9_strangersTo_24 (by decide) (fun hc => ?_) (fun hc => ?_)
      · have h := h.1 hc
        refine jd_iinc (pc := 33) (v := (x3 + 1)) 3 [(3, .int (x3 + 1)), (0, .ref (gb G + t)), (1, .int x1), (2, .int x2)] dX9_strangersTo_33 rfl rfl (by decide) rfl ?_
        refine jd_goto (pc := 36) 4 dX9_strangersTo_36 (by decide) ?_
        exact jd_lv (lv2 := [(0, .ref (gb G + t)), (1, .int x1), (2, .int x2), (3, .int (x3 + 1))]) [1, 2, 3, 0] rfl h
      · have h := h.2 hc
        refine jd_iload_n (pc := 27) 2 dX9_strangersTo_27 rfl rfl ?_
        refine jd_iconst (pc := 28) (v := 1) dX9_strangersTo_28 (by decide) ?_
        refine jd_iload_n (pc := 29) 3 dX9_strangersTo_29 rfl rfl ?_
        refine jd_ishl (pc := 30) dX9_strangersTo_30 ?_
        refine jd_ior (pc := 31) dX9_strangersTo_31 ?_
        refine jd_istore_n (pc := 32) [(2, .int (x2 ||| (1 <<< (x3 &&& 31)))), (0, .ref (gb G + t)), (1, .int x1), (3, .int x3)] dX9_strangersTo_32 rfl (by decide) rfl ?_
        refine jd_iinc (pc := 33) (v := (x3 + 1)) 3 [(3, .int (x3 + 1)), (2, .int (x2 ||| (1 <<< (x3 &&& 31)))), (0, .ref (gb G + t)), (1, .int x1)] dX9_strangersTo_33 rfl rfl (by decide) rfl ?_
        refine jd_goto (pc := 36) 4 dX9_strangersTo_36 (by decide) ?_
        exact jd_lv (lv2 := [(0, .ref (gb G + t)), (1, .int x1), (2, .int (x2 ||| (1 <<< (x3 &&& 31)))), (3, .int (x3 + 1))]) [2, 3, 1, 0] rfl h
theorem eX9_strangersTo {G : jdG} {n : Nat} {Z : jdL} {I : jdI} {J : jdJ} {K : Int32 → jdI → jdJ → Prop} {t : Nat} {x1 : Int32} (ht : zTown Z t) (h : Jd G mX9_strangersTo (jdFm G (qi Z K)) (n + 1) 0 0 4 [(0, .ref (gb G + t)), (1, .int x1), (2, .int 0), (3, .int 0)] [] Z I J) : Cl G mX9_strangersTo (n + 1) 0 0 [.ref (gb G + t), .int x1] Z I J (qi Z K) :=
  Cl.of (by decide +kernel) (Nat.le_of_ble_eq_true rfl) (rX9_strangersTo_0 ht h)
set_option maxRecDepth 4000 in
theorem rX9_countStrangers_0 {G : jdG} {n rc rs : Nat} {Z : jdL} {I : jdI} {J : jdJ} {K : Int32 → jdI → jdJ → Prop} {t : Nat} (ht : zTown Z t) (h : Jd G mX9_countStrangers (jdFm G (qi Z K)) (n + 1) rc rs 4 [(0, .ref (gb G + t)), (1, .int 0), (2, .int 0)] [] Z I J) : Jd G mX9_countStrangers (jdFm G (qi Z K)) (n + 1) rc rs 0 [(0, .ref (gb G + t))] [] Z I J := by
  refine jd_iconst (pc := 0) (v := 0) dX9_countStrangers_0 (by decide) ?_
  refine jd_istore_n (pc := 1) [(1, .int 0), (0, .ref (gb G + t))] dX9_countStrangers_1 rfl (by decide) rfl ?_
  refine jd_iconst (pc := 2) (v := 0) dX9_countStrangers_2 (by decide) ?_
  refine jd_istore_n (pc := 3) [(2, .int 0), (1, .int 0), (0, .ref (gb G + t))] dX9_countStrangers_3 rfl (by decide) rfl ?_
  exact jd_lv (lv2 := [(0, .ref (gb G + t)), (1, .int 0), (2, .int 0)]) [2, 1, 0] rfl h
set_option maxRecDepth 4000 in
theorem rX9_countStrangers_4 {G : jdG} {n rc rs : Nat} {Z : jdL} {I : jdI} {J : jdJ} {K : Int32 → jdI → jdJ → Prop} {t : Nat} {x1 : Int32} {x2 : Int32} (ht : zTown Z t) (h : (((I t 3) ≤ x2 → K (x1 / 2) I J) ∧ (¬ (I t 3) ≤ x2 → Cl G mX9_strangersTo n 0 0 [.ref (gb G + t), .int x2] Z I J (qi Z (fun v2 I1 J1 => Cl G mJ6_bitCount_0f7a4 n 0 0 [.int v2] Z I1 J1 (qi Z (fun v4 I3 J3 => Jd G mX9_countStrangers (jdFm G (qi Z K)) (n + 1) rc rs 4 [(0, .ref (gb G + t)), (1, .int (x1 + v4)), (2, .int (x2 + 1))] [] Z I3 J3))))))) : Jd G mX9_countStrangers (jdFm G (qi Z K)) (n + 1) rc rs 4 [(0, .ref (gb G + t)), (1, .int x1), (2, .int x2)] [] Z I J := by
  refine jd_iload_n (pc := 4) 2 dX9_countStrangers_4 rfl rfl ?_
  refine jd_aload_n (pc := 5) 0 dX9_countStrangers_5 rfl rfl ?_
  refine jd_getI (pc := 6) (ci := 8) (k := 3) gX9_28 ht.1 rfl dX9_countStrangers_6 ?_
  refine jd_icmp_ge (pc := 9) 29 dX9_countStrangers_9 (by decide) (fun hc => ?_) (fun hc => ?_)
  · have h := h.1 hc
    refine jd_iload_n (pc := 29) 1 dX9_countStrangers_29 rfl rfl ?_
    refine jd_iconst (pc := 30) (v := 2) dX9_countStrangers_30 (by decide) ?_
    refine jd_idiv (pc := 31) dX9_countStrangers_31 (by decide) ?_
    exact jd_iretK (pc := 32) rfl rfl dX9_countStrangers_32 h
  · have h := h.2 hc
    refine jd_iload_n (pc := 12) 1 dX9_countStrangers_12 rfl rfl ?_
    refine jd_aload_n (pc := 13) 0 dX9_countStrangers_13 rfl rfl ?_
    refine jd_iload_n (pc := 14) 2 dX9_countStrangers_14 rfl rfl ?_
    refine jd_callVi (pc := 15) (M2 := mX9_strangersTo) (id := t) (ci := 8) (T := TX9) (N := 10) (av := [.int x2]) kX9_strangersTo sX9_strangersTo rfl ht.1 lX9_54 rfl rfl (Nat.le_of_ble_eq_true rfl) dX9_countStrangers_15 h ?_
    intro v2 I1 J1 h
    refine jd_callSi (pc := 18) (M2 := mJ6_bitCount_0f7a4) (av := [.int v2]) kJ6_bitCount_0f7a4 sJ6_bitCount_0f7a4 lX9_57 rfl rfl (Nat.le_of_ble_eq_true rfl) dX9_countStrangers_18 h ?_
    intro v4 I3 J3 h
    refine jd_iadd (pc := 21) dX9_countStrangers_21 ?_
    refine jd_istore_n (pc := 22) [(1, .int (x1 + v4)), (0, .ref (gb G + t)), (2, .int x2)] dX9_countStrangers_22 rfl (by decide) rfl ?_
    refine jd_iinc (pc := 23) (v := (x2 + 1)) 2 [(2, .int (x2 + 1)), (1, .int (x1 + v4)), (0, .ref (gb G + t))] dX9_countStrangers_23 rfl rfl (by decide) rfl ?_
    refine jd_goto (pc := 26) 4 dX9_countStrangers_26 (by decide) ?_
    exact jd_lv (lv2 := [(0, .ref (gb G + t)), (1, .int (x1 + v4)), (2, .int (x2 + 1))]) [2, 1, 0] rfl h
theorem eX9_countStrangers {G : jdG} {n : Nat} {Z : jdL} {I : jdI} {J : jdJ} {K : Int32 → jdI → jdJ → Prop} {t : Nat} (ht : zTown Z t) (h : Jd G mX9_countStrangers (jdFm G (qi Z K)) (n + 1) 0 0 4 [(0, .ref (gb G + t)), (1, .int 0), (2, .int 0)] [] Z I J) : Cl G mX9_countStrangers (n + 1) 0 0 [.ref (gb G + t)] Z I J (qi Z K) :=
  Cl.of (by decide +kernel) (Nat.le_of_ble_eq_true rfl) (rX9_countStrangers_0 ht h)
set_option maxRecDepth 4000 in
theorem rX9_acquaint_0 {G : jdG} {n rc rs : Nat} {Z : jdL} {I : jdI} {J : jdJ} {K : Int32 → jdI → jdJ → Prop} {t : Nat} {x1 : Int32} (ht : zTown Z t) (h : Jd G mX9_acquaint (jdFm G (qi Z K)) (n + 1) rc rs 4 [(0, .ref (gb G + t)), (1, .int x1), (2, .int 0), (3, .int 0)] [] Z I J) : Jd G mX9_acquaint (jdFm G (qi Z K)) (n + 1) rc rs 0 [(0, .ref (gb G + t)), (1, .int x1)] [] Z I J := by
  refine jd_iconst (pc := 0) (v := 0) dX9_acquaint_0 (by decide) ?_
  refine jd_istore_n (pc := 1) [(2, .int 0), (0, .ref (gb G + t)), (1, .int x1)] dX9_acquaint_1 rfl (by decide) rfl ?_
  refine jd_iconst (pc := 2) (v := 0) dX9_acquaint_2 (by decide) ?_
  refine jd_istore_n (pc := 3) [(3, .int 0), (2, .int 0), (0, .ref (gb G + t)), (1, .int x1)] dX9_acquaint_3 rfl (by decide) rfl ?_
  exact jd_lv (lv2 := [(0, .ref (gb G + t)), (1, .int x1), (2, .int 0), (3, .int 0)]) [2, 3, 1, 0] rfl h
set_option maxRecDepth 4000 in
theorem rX9_acquaint_4 {G : jdG} {n rc rs : Nat} {Z : jdL} {I : jdI} {J : jdJ} {K : Int32 → jdI → jdJ → Prop} {t : Nat} {x1 : Int32} {x2 : Int32} {x3 : Int32} (ht : zTown Z t) (h : (((I t 3) ≤ x3 → K x2 I J) ∧ (¬ (I t 3) ≤ x3 → Jd G mX9_acquaint (jdFm G (qi Z K)) (n + 1) rc rs 15 [(0, .ref (gb G + t)), (1, .int x1), (2, .int x2), (3, .int x3), (4, .int 0)] [] Z I J))) : Jd G mX9_acquaint (jdFm G (qi Z K)) (n + 1) rc rs 4 [(0, .ref (gb G + t)), (1, .int x1), (2, .int x2), (3, .int x3)] [] Z I J := by
  refine jd_iload_n (pc := 4) 3 dX9_acquaint_4 rfl rfl ?_
  refine jd_aload_n (pc := 5) 0 dX9_acquaint_5 rfl rfl ?_
  refine jd_getI (pc := 6) (ci := 8) (k := 3) gX9_28 ht.1 rfl dX9_acquaint_6 ?_
  refine jd_icmp_ge (pc := 9) 73 dX9_acquaint_9 (by decide) (fun hc => ?_) (fun hc => ?_)
  · have h := h.1 hc
    refine jd_iload_n (pc := 73) 2 dX9_acquaint_73 rfl rfl ?_
    exact jd_iretK (pc := 74) rfl rfl dX9_acquaint_74 h
  · have h := h.2 hc
    refine jd_iconst (pc := 12) (v := 0) dX9_acquaint_12 (by decide) ?_
    refine jd_istore (pc := 13) [(4, .int 0), (0, .ref (gb G + t)), (1, .int x1), (2, .int x2), (3, .int x3)] dX9_acquaint_13 (by decide) rfl ?_
    exact jd_lv (lv2 := [(0, .ref (gb G + t)), (1, .int x1), (2, .int x2), (3, .int x3), (4, .int 0)]) [1, 2, 3, 4, 0] rfl h
set_option maxRecDepth 4000 in
theorem rX9_acquaint_15 {G : jdG} {n rc rs : Nat} {Z : jdL} {I : jdI} {J : jdJ} {K : Int32 → jdI → jdJ → Prop} {t : Nat} {x1 : Int32} {x2 : Int32} {x3 : Int32} {x4 : Int32} (ht : zTown Z t) (h : ((x3 ≤ x4 → Jd G mX9_acquaint (jdFm G (qi Z K)) (n + 1) rc rs 4 [(0, .ref (gb G + t)), (1, .int x1), (2, .int x2), (3, .int (x3 + 1))] [] Z I J) ∧ (¬ x3 ≤ x4 → (((((x1 >>> (x3 &&& 31)) &&& (x1 >>> (x4 &&& 31))) &&& 1) = 0 → Jd G mX9_acquaint (jdFm G (qi Z K)) (n + 1) rc rs 15 [(0, .ref (gb G + t)), (1, .int x1), (2, .int x2), (3, .int x3), (4, .int (x4 + 1))] [] Z I J) ∧ (¬ (((x1 >>> (x3 &&& 31)) &&& (x1 >>> (x4 &&& 31))) &&& 1) = 0 → Cl G mX9_since n 0 0 [.ref (gb G + t), .int x3, .int x4] Z I J (qi Z (fun v2 I1 J1 => ((¬ v2 = (-1) → Cl G mX9_tie n 0 0 [.ref (gb G + t), .int x3, .int x4, .int 0] Z I1 J1 (qv Z (fun I3 J3 => Jd G mX9_acquaint (jdFm G (qi Z K)) (n + 1) rc rs 15 [(0, .ref (gb G + t)), (1, .int x1), (2, .int (x2 + 0)), (3, .int x3), (4, .int (x4 + 1))] [] Z I3 J3))) ∧ (v2 = (-1) → Cl G mX9_tie n 0 0 [.ref (gb G + t), .int x3, .int x4, .int 0] Z I1 J1 (qv Z (fun I5 J5 => Jd G mX9_acquaint (jdFm G (qi Z K)) (n + 1) rc rs 15 [(0, .ref (gb G + t)), (1, .int x1), (2, .int (x2 + 1)), (3, .int x3), (4, .int (x4 + 1))] [] Z I5 J5))))))))))) : Jd G mX9_acquaint (jdFm G (qi Z K)) (n + 1) rc rs 15 [(0, .ref (gb G + t)), (1, .int x1), (2, .int x2), (3, .int x3), (4, .int x4)] [] Z I J := by
  refine jd_iload (pc := 15) 4 dX9_acquaint_15 rfl ?_
  refine jd_iload_n (pc := 17) 3 dX9_acquaint_17 rfl rfl ?_
  refine jd_icmp_ge (pc := 18) 67 dX9_acquaint_18 (by decide) (fun hc => ?_) (fun hc => ?_)
  · have h := h.1 hc
    refine jd_iinc (pc := 67) (v := (x3 + 1)) 3 [(3, .int (x3 + 1)), (0, .ref (gb G + t)), (1, .int x1), (2, .int x2), (4, .int x4)] dX9_acquaint_67 rfl rfl (by decide) rfl ?_
    refine jd_goto (pc := 70) 4 dX9_acquaint_70 (by decide) ?_
    exact jd_lv (lv2 := [(0, .ref (gb G + t)), (1, .int x1), (2, .int x2), (3, .int (x3 + 1))]) [1, 2, 3, 0] rfl h
  · have h := h.2 hc
    refine jd_iload_n (pc := 21) 1 dX9_acquaint_21 rfl rfl ?_
    refine jd_iload_n (pc := 22) 3 dX9_acquaint_22 rfl rfl ?_
    refine jd_ishr (pc := 23) dX9_acquaint_23 ?_
    refine jd_iload_n (pc := 24) 1 dX9_acquaint_24 rfl rfl ?_
    refine jd_iload (pc := 25) 4 dX9_acquaint_25 rfl ?_
    refine jd_ishr (pc := 27) dX9_acquaint_27 ?_
    refine jd_iand (pc := 28) dX9_acquaint_28 ?_
    refine jd_iconst (pc := 29) (v := 1) dX9_acquaint_29 (by decide) ?_
    refine jd_iand (pc := 30) dX9_acquaint_30 ?_
    refine jd_if_eq (pc := 31) 61 dX9_acquaint_31 (by decide) (fun hc => ?_) (fun hc => ?_)
    · have h := h.1 hc
      refine jd_iinc (pc := 61) (v := (x4 + 1)) 4 [(4, .int (x4 + 1)), (0, .ref (gb G + t)), (1, .int x1), (2, .int x2), (3, .int x3)] dX9_acquaint_61 rfl rfl (by decide) rfl ?_
      refine jd_goto (pc := 64) 15 dX9_acquaint_64 (by decide) ?_
      exact jd_lv (lv2 := [(0, .ref (gb G + t)), (1, .int x1), (2, .int x2), (3, .int x3), (4, .int (x4 + 1))]) [1, 2, 3, 4, 0] rfl h
    · have h := h.2 hc
      refine jd_iload_n (pc := 34) 2 dX9_acquaint_34 rfl rfl ?_
      refine jd_aload_n (pc := 35) 0 dX9_acquaint_35 rfl rfl ?_
      refine jd_iload_n (pc := 36) 3 dX9_acquaint_36 rfl rfl ?_
      refine jd_iload (pc := 37) 4 dX9_acquaint_37 rfl ?_
      refine jd_callVi (pc := 39) (M2 := mX9_since) (id := t) (ci := 8) (T := TX9) (N := 10) (av := [.int x3, .int x4]) kX9_since sX9_since rfl ht.1 lX9_52 rfl rfl (Nat.le_of_ble_eq_true rfl) dX9_acquaint_39 h ?_
      intro v2 I1 J1 h
      refine jd_iconst (pc := 42) (v := (-1)) dX9_acquaint_42 (by decide) ?_
      refine jd_icmp_ne (pc := 43) 50 dX9_acquaint_43 (by decide) (fun hc => ?_) (fun hc => ?_)
      · have h := h.1 hc
        refine jd_iconst (pc := 50) (v := 0) dX9_acquaint_50 (by decide) ?_
        refine jd_iadd (pc := 51) dX9_acquaint_51 ?_
        refine jd_istore_n (pc := 52) [(2, .int (x2 + 0)), (0, .ref (gb G + t)), (1, .int x1), (3, .int x3), (4, .int x4)] dX9_acquaint_52 rfl (by decide) rfl ?_
        refine jd_aload_n (pc := 53) 1 dX9_acquaint_53 rfl rfl ?_
        refine jd_iload_n (pc := 54) 3 dX9_acquaint_54 rfl rfl ?_
        refine jd_iload (pc := 55) 4 dX9_acquaint_55 rfl ?_
        refine jd_iconst (pc := 57) (v := 0) dX9_acquaint_57 (by decide) ?_
        refine jd_callVv (pc := 58) (M2 := mX9_tie) (id := t) (ci := 8) (T := TX9) (N := 10) (av := [.int x3, .int x4, .int 0]) kX9_tie sX9_tie rfl ht.1 lX9_39 rfl rfl (Nat.le_of_ble_eq_true rfl) dX9_acquaint_58 h ?_
        intro I3 J3 h
        refine jd_iinc (pc := 61) (v := (x4 + 1)) 4 [(4, .int (x4 + 1)), (2, .int (x2 + 0)), (0, .ref (gb G + t)), (1, .int x1), (3, .int x3)] dX9_acquaint_61 rfl rfl (by decide) rfl ?_
        refine jd_goto (pc := 64) 15 dX9_acquaint_64 (by decide) ?_
        exact jd_lv (lv2 := [(0, .ref (gb G + t)), (1, .int x1), (2, .int (x2 + 0)), (3, .int x3), (4, .int (x4 + 1))]) [2, 3, 1, 4, 0] rfl h
      · have h := h.2 hc
        refine jd_iconst (pc := 46) (v := 1) dX9_acquaint_46 (by decide) ?_
        refine jd_goto (pc := 47) 51 dX9_acquaint_47 (by decide) ?_
        refine jd_iadd (pc := 51) dX9_acquaint_51 ?_
        refine jd_istore_n (pc := 52) [(2, .int (x2 + 1)), (0, .ref (gb G + t)), (1, .int x1), (3, .int x3), (4, .int x4)] dX9_acquaint_52 rfl (by decide) rfl ?_
        refine jd_aload_n (pc := 53) 1 dX9_acquaint_53 rfl rfl ?_
        refine jd_iload_n (pc := 54) 3 dX9_acquaint_54 rfl rfl ?_
        refine jd_iload (pc := 55) 4 dX9_acquaint_55 rfl ?_
        refine jd_iconst (pc := 57) (v := 0) dX9_acquaint_57 (by decide) ?_
        refine jd_callVv (pc := 58) (M2 := mX9_tie) (id := t) (ci := 8) (T := TX9) (N := 10) (av := [.int x3, .int x4, .int 0]) kX9_tie sX9_tie rfl ht.1 lX9_39 rfl rfl (Nat.le_of_ble_eq_true rfl) dX9_acquaint_58 h ?_
        intro I5 J5 h
        refine jd_iinc (pc := 61) (v := (x4 + 1)) 4 [(4, .int (x4 + 1)), (2, .int (x2 + 1)), (0, .ref (gb G + t)), (1, .int x1), (3, .int x3)] dX9_acquaint_61 rfl rfl (by decide) rfl ?_
        refine jd_goto (pc := 64) 15 dX9_acquaint_64 (by decide) ?_
        exact jd_lv (lv2 := [(0, .ref (gb G + t)), (1, .int x1), (2, .int (x2 + 1)), (3, .int x3), (4, .int (x4 + 1))]) [2, 3, 1, 4, 0] rfl h
theorem eX9_acquaint {G : jdG} {n : Nat} {Z : jdL} {I : jdI} {J : jdJ} {K : Int32 → jdI → jdJ → Prop} {t : Nat} {x1 : Int32} (ht : zTown Z t) (h : Jd G mX9_acquaint (jdFm G (qi Z K)) (n + 1) 0 0 4 [(0, .ref (gb G + t)), (1, .int x1), (2, .int 0), (3, .int 0)] [] Z I J) : Cl G mX9_acquaint (n + 1) 0 0 [.ref (gb G + t), .int x1] Z I J (qi Z K) :=
  Cl.of (by decide +kernel) (Nat.le_of_ble_eq_true rfl) (rX9_acquaint_0 ht h)
set_option maxRecDepth 4000 in
theorem rX9_endDay_0 {G : jdG} {n rc rs : Nat} {Z : jdL} {I : jdI} {J : jdJ} {K : jdI → jdJ → Prop} {t : Nat} {x1 : Int32} (ht : zTown Z t) (h : K (uI (uI I t 7 ((I t 7) + x1)) t 8 ((I t 8) + 1)) J) : Jd G mX9_endDay (jdFm G (qv Z K)) n rc rs 0 [(0, .ref (gb G + t)), (1, .int x1)] [] Z I J := by
  refine jd_aload_n (pc := 0) 0 dX9_endDay_0 rfl rfl ?_
  refine jd_dup (pc := 1) dX9_endDay_1 rfl ?_
  refine jd_getI (pc := 2) (ci := 8) (k := 7) gX9_62 ht.1 rfl dX9_endDay_2 ?_
  refine jd_iload_n (pc := 5) 1 dX9_endDay_5 rfl rfl ?_
  refine jd_iadd (pc := 6) dX9_endDay_6 ?_
  refine jd_putI (pc := 7) (ci := 8) (k := 7) pX9_62 ht.1 rfl rfl rfl dX9_endDay_7 ?_
  refine jd_aload_n (pc := 10) 0 dX9_endDay_10 rfl rfl ?_
  refine jd_dup (pc := 11) dX9_endDay_11 rfl ?_
  refine jd_getIe (pc := 12) (ci := 8) (k := 8) (e := (I t 8)) (uI_sk (by decide) rfl) gX9_65 ht.1 rfl dX9_endDay_12 ?_
  refine jd_iconst (pc := 15) (v := 1) dX9_endDay_15 (by decide) ?_
  refine jd_iadd (pc := 16) dX9_endDay_16 ?_
  refine jd_putI (pc := 17) (ci := 8) (k := 8) pX9_65 ht.1 rfl rfl rfl dX9_endDay_17 ?_
  exact jd_vretK (pc := 20) rfl dX9_endDay_20 h
theorem eX9_endDay {G : jdG} {n : Nat} {Z : jdL} {I : jdI} {J : jdJ} {K : jdI → jdJ → Prop} {t : Nat} {x1 : Int32} (ht : zTown Z t) (h : K (uI (uI I t 7 ((I t 7) + x1)) t 8 ((I t 8) + 1)) J) : Cl G mX9_endDay (n) 0 0 [.ref (gb G + t), .int x1] Z I J (qv Z K) :=
  Cl.of (by decide +kernel) (Nat.le_of_ble_eq_true rfl) (rX9_endDay_0 ht h)
set_option maxRecDepth 4000 in
theorem rX9_age_0 {G : jdG} {n rc rs : Nat} {Z : jdL} {I : jdI} {J : jdJ} {K : Int32 → jdI → jdJ → Prop} {t : Nat} (ht : zTown Z t) (h : Jd G mX9_age (jdFm G (qi Z K)) (n + 1) rc rs 14 [(0, .ref (gb G + t)), (1, .int 0), (2, .int 0)] [] Z (uI I t 9 ((I t 9) + 1)) J) : Jd G mX9_age (jdFm G (qi Z K)) (n + 1) rc rs 0 [(0, .ref (gb G + t))] [] Z I J := by
  refine jd_iconst (pc := 0) (v := 0) dX9_age_0 (by decide) ?_
  refine jd_istore_n (pc := 1) [(1, .int 0), (0, .ref (gb G + t))] dX9_age_1 rfl (by decide) rfl ?_
  refine jd_aload_n (pc := 2) 1 dX9_age_2 rfl rfl ?_
  refine jd_dup (pc := 3) dX9_age_3 rfl ?_
  refine jd_getI (pc := 4) (ci := 8) (k := 9) gX9_68 ht.1 rfl dX9_age_4 ?_
  refine jd_iconst (pc := 7) (v := 1) dX9_age_7 (by decide) ?_
  refine jd_iadd (pc := 8) dX9_age_8 ?_
  refine jd_putI (pc := 9) (ci := 8) (k := 9) pX9_68 ht.1 rfl rfl rfl dX9_age_9 ?_
  refine jd_iconst (pc := 12) (v := 0) dX9_age_12 (by decide) ?_
  refine jd_istore_n (pc := 13) [(2, .int 0), (1, .int 0), (0, .ref (gb G + t))] dX9_age_13 rfl (by decide) rfl ?_
  exact jd_lv (lv2 := [(0, .ref (gb G + t)), (1, .int 0), (2, .int 0)]) [2, 1, 0] rfl h
set_option maxRecDepth 4000 in
theorem rX9_age_14 {G : jdG} {n rc rs : Nat} {Z : jdL} {I : jdI} {J : jdJ} {K : Int32 → jdI → jdJ → Prop} {t : Nat} {x1 : Int32} {x2 : Int32} (ht : zTown Z t) (h : (((I t 3) ≤ x2 → K x1 I J) ∧ (¬ (I t 3) ≤ x2 → Jd G mX9_age (jdFm G (qi Z K)) (n + 1) rc rs 24 [(0, .ref (gb G + t)), (1, .int x1), (2, .int x2), (3, .int 0)] [] Z I J))) : Jd G mX9_age (jdFm G (qi Z K)) (n + 1) rc rs 14 [(0, .ref (gb G + t)), (1, .int x1), (2, .int x2)] [] Z I J := by
  refine jd_iload_n (pc := 14) 2 dX9_age_14 rfl rfl ?_
  refine jd_aload_n (pc := 15) 0 dX9_age_15 rfl rfl ?_
  refine jd_getI (pc := 16) (ci := 8) (k := 3) gX9_28 ht.1 rfl dX9_age_16 ?_
  refine jd_icmp_ge (pc := 19) 119 dX9_age_19 (by decide) (fun hc => ?_) (fun hc => ?_)
  · have h := h.1 hc
    refine jd_iload_n (pc := 119) 1 dX9_age_119 rfl rfl ?_
    exact jd_iretK (pc := 120) rfl rfl dX9_age_120 h
  · have h := h.2 hc
    refine jd_iconst (pc := 22) (v := 0) dX9_age_22 (by decide) ?_
    refine jd_istore_n (pc := 23) [(3, .int 0), (0, .ref (gb G + t)), (1, .int x1), (2, .int x2)] dX9_age_23 rfl (by decide) rfl ?_
    exact jd_lv (lv2 := [(0, .ref (gb G + t)), (1, .int x1), (2, .int x2), (3, .int 0)]) [1, 2, 3, 0] rfl h
set_option maxRecDepth 4000 in
theorem rX9_age_24 {G : jdG} {n rc rs : Nat} {Z : jdL} {I : jdI} {J : jdJ} {K : Int32 → jdI → jdJ → Prop} {t : Nat} {x1 : Int32} {x2 : Int32} {x3 : Int32} (ht : zTown Z t) (h : ((x2 ≤ x3 → Jd G mX9_age (jdFm G (qi Z K)) (n + 1) rc rs 14 [(0, .ref (gb G + t)), (1, .int x1), (2, .int (x2 + 1))] [] Z I J) ∧ (¬ x2 ≤ x3 → Cl G mX9_since n 0 0 [.ref (gb G + t), .int x2, .int x3] Z I J (qi Z (fun v2 I1 J1 => ((v2 = (-1) → Jd G mX9_age (jdFm G (qi Z K)) (n + 1) rc rs 24 [(0, .ref (gb G + t)), (1, .int x1), (2, .int x2), (3, .int (x3 + 1))] [] Z I1 J1) ∧ (¬ v2 = (-1) → (((I1 t 5) = 0 → Cl G mX9_tie n 0 0 [.ref (gb G + t), .int x2, .int x3, .int (if 99 < (v2 + 1) then 99 else (v2 + 1))] Z I1 J1 (qv Z (fun I3 J3 => Jd G mX9_age (jdFm G (qi Z K)) (n + 1) rc rs 24 [(0, .ref (gb G + t)), (1, .int (x1 + 0)), (2, .int x2), (3, .int (x3 + 1))] [] Z I3 J3))) ∧ (¬ (I1 t 5) = 0 → (((if 99 < (v2 + 1) then 99 else (v2 + 1)) ≤ (I1 t 5) → Cl G mX9_tie n 0 0 [.ref (gb G + t), .int x2, .int x3, .int (if 99 < (v2 + 1) then 99 else (v2 + 1))] Z I1 J1 (qv Z (fun I5 J5 => Jd G mX9_age (jdFm G (qi Z K)) (n + 1) rc rs 24 [(0, .ref (gb G + t)), (1, .int (x1 + 0)), (2, .int x2), (3, .int (x3 + 1))] [] Z I5 J5))) ∧ (¬ (if 99 < (v2 + 1) then 99 else (v2 + 1)) ≤ (I1 t 5) → Cl G mX9_tie n 0 0 [.ref (gb G + t), .int x2, .int x3, .int (-1)] Z I1 J1 (qv Z (fun I7 J7 => Jd G mX9_age (jdFm G (qi Z K)) (n + 1) rc rs 24 [(0, .ref (gb G + t)), (1, .int (x1 + 1)), (2, .int x2), (3, .int (x3 + 1))] [] Z I7 J7))))))))))))) : Jd G mX9_age (jdFm G (qi Z K)) (n + 1) rc rs 24 [(0, .ref (gb G + t)), (1, .int x1), (2, .int x2), (3, .int x3)] [] Z I J := by
  refine jd_iload_n (pc := 24) 3 dX9_age_24 rfl rfl ?_
  refine jd_iload_n (pc := 25) 2 dX9_age_25 rfl rfl ?_
  refine jd_icmp_ge (pc := 26) 113 dX9_age_26 (by decide) (fun hc => ?_) (fun hc => ?_)
  · have h := h.1 hc
    refine jd_iinc (pc := 113) (v := (x2 + 1)) 2 [(2, .int (x2 + 1)), (0, .ref (gb G + t)), (1, .int x1), (3, .int x3)] dX9_age_113 rfl rfl (by decide) rfl ?_
    refine jd_goto (pc := 116) 14 dX9_age_116 (by decide) ?_
    exact jd_lv (lv2 := [(0, .ref (gb G + t)), (1, .int x1), (2, .int (x2 + 1))]) [1, 2, 0] rfl h
  · have h := h.2 hc
    refine jd_aload_n (pc := 29) 0 dX9_age_29 rfl rfl ?_
    refine jd_iload_n (pc := 30) 2 dX9_age_30 rfl rfl ?_
    refine jd_iload_n (pc := 31) 3 dX9_age_31 rfl rfl ?_
    refine jd_callVi (pc := 32) (M2 := mX9_since) (id := t) (ci := 8) (T := TX9) (N := 10) (av := [.int x2, .int x3]) kX9_since sX9_since rfl ht.1 lX9_52 rfl rfl (Nat.le_of_ble_eq_true rfl) dX9_age_32 h ?_
    intro v2 I1 J1 h
    refine jd_istore (pc := 35) [(4, .int v2), (0, .ref (gb G + t)), (1, .int x1), (2, .int x2), (3, .int x3)] dX9_age_35 (by decide) rfl ?_
    refine jd_iload (pc := 37) 0 dX9_age_37 rfl ?_
    refine jd_iconst (pc := 39) (v := (-1)) dX9_age_39 (by decide) ?_
    refine jd_icmp_eq (pc := 40) 107 dX9_age_40 (by decide) (fun hc => ?_) (fun hc => ?_)
    · have h := h.1 hc
      refine jd_iinc (pc := 107) (v := (x3 + 1)) 4 [(3, .int (x3 + 1)), (4, .int v2), (0, .ref (gb G + t)), (1, .int x1), (2, .int x2)] dX9_age_107 rfl rfl (by decide) rfl ?_
      refine jd_goto (pc := 110) 24 dX9_age_110 (by decide) ?_
      exact jd_lv (lv2 := [(0, .ref (gb G + t)), (1, .int x1), (2, .int x2), (3, .int (x3 + 1))]) [2, 3, 4, 0] rfl h
    · have h := h.2 hc
      refine jd_iload (pc := 43) 0 dX9_age_43 rfl ?_
      refine jd_iconst (pc := 45) (v := 1) dX9_age_45 (by decide) ?_
      refine jd_iadd (pc := 46) dX9_age_46 ?_
      refine jd_bipush (pc := 47) (v := 99) dX9_age_47 (by decide) ?_
      refine jd_min (pc := 49) xX9_71 (Nat.le_of_ble_eq_true rfl) dX9_age_49 ?_
      refine jd_istore (pc := 52) [(5, .int (if 99 < (v2 + 1) then 99 else (v2 + 1))), (4, .int v2), (0, .ref (gb G + t)), (1, .int x1), (2, .int x2), (3, .int x3)] dX9_age_52 (by decide) rfl ?_
      refine jd_aload_n (pc := 54) 2 dX9_age_54 rfl rfl ?_
      refine jd_getI (pc := 55) (ci := 8) (k := 5) gX9_76 ht.1 rfl dX9_age_55 ?_
      refine jd_if_eq (pc := 58) 74 dX9_age_58 (by decide) (fun hc => ?_) (fun hc => ?_)
      · have h := h.1 hc
        refine jd_iconst (pc := 74) (v := 0) dX9_age_74 (by decide) ?_
        refine jd_istore (pc := 75) [(6, .int 0), (5, .int (if 99 < (v2 + 1) then 99 else (v2 + 1))), (4, .int v2), (0, .ref (gb G + t)), (1, .int x1), (2, .int x2), (3, .int x3)] dX9_age_75 (by decide) rfl ?_
        refine jd_aload_n (pc := 77) 3 dX9_age_77 rfl rfl ?_
        refine jd_iload_n (pc := 78) 5 dX9_age_78 rfl rfl ?_
        refine jd_iload_n (pc := 79) 6 dX9_age_79 rfl rfl ?_
        refine jd_iload (pc := 80) 0 dX9_age_80 rfl ?_
        refine jd_if_eq (pc := 82) 89 dX9_age_82 (by decide) (fun _ => ?_) (fun hc => absurd (show (0 : Int32) = 0 by decide) hc)
        refine jd_iload (pc := 89) 1 dX9_age_89 rfl ?_
        refine jd_callVv (pc := 91) (M2 := mX9_tie) (id := t) (ci := 8) (T := TX9) (N := 10) (av := [.int x2, .int x3, .int (if 99 < (v2 + 1) then 99 else (v2 + 1))]) kX9_tie sX9_tie rfl ht.1 lX9_39 rfl rfl (Nat.le_of_ble_eq_true rfl) dX9_age_91 h ?_
        intro I3 J3 h
        refine jd_iload_n (pc := 94) 4 dX9_age_94 rfl rfl ?_
        refine jd_iload (pc := 95) 0 dX9_age_95 rfl ?_
        refine jd_if_eq (pc := 97) 104 dX9_age_97 (by decide) (fun _ => ?_) (fun hc => absurd (show (0 : Int32) = 0 by decide) hc)
        refine jd_iconst (pc := 104) (v := 0) dX9_age_104 (by decide) ?_
        refine jd_iadd (pc := 105) dX9_age_105 ?_
        refine jd_istore_n (pc := 106) [(1, .int (x1 + 0)), (6, .int 0), (5, .int (if 99 < (v2 + 1) then 99 else (v2 + 1))), (4, .int v2), (0, .ref (gb G + t)), (2, .int x2), (3, .int x3)] dX9_age_106 rfl (by decide) rfl ?_
        refine jd_iinc (pc := 107) (v := (x3 + 1)) 6 [(3, .int (x3 + 1)), (1, .int (x1 + 0)), (6, .int 0), (5, .int (if 99 < (v2 + 1) then 99 else (v2 + 1))), (4, .int v2), (0, .ref (gb G + t)), (2, .int x2)] dX9_age_107 rfl rfl (by decide) rfl ?_
        refine jd_goto (pc := 110) 24 dX9_age_110 (by decide) ?_
        exact jd_lv (lv2 := [(0, .ref (gb G + t)), (1, .int (x1 + 0)), (2, .int x2), (3, .int (x3 + 1))]) [5, 1, 6, 0] rfl h
      · have h := h.2 hc
        refine jd_iload (pc := 61) 0 dX9_age_61 rfl ?_
        refine jd_aload_n (pc := 63) 2 dX9_age_63 rfl rfl ?_
        refine jd_getI (pc := 64) (ci := 8) (k := 5) gX9_76 ht.1 rfl dX9_age_64 ?_
        refine jd_icmp_le (pc := 67) 74 dX9_age_67 (by decide) (fun hc => ?_) (fun hc => ?_)
        · have h := h.1 hc
          refine jd_iconst (pc := 74) (v := 0) dX9_age_74 (by decide) ?_
          refine jd_istore (pc := 75) [(6, .int 0), (5, .int (if 99 < (v2 + 1) then 99 else (v2 + 1))), (4, .int v2), (0, .ref (gb G + t)), (1, .int x1), (2, .int x2), (3, .int x3)] dX9_age_75 (by decide) rfl ?_
          refine jd_aload_n (pc := 77) 3 dX9_age_77 rfl rfl ?_
          refine jd_iload_n (pc := 78) 5 dX9_age_78 rfl rfl ?_
          refine jd_iload_n (pc := 79) 6 dX9_age_79 rfl rfl ?_
          refine jd_iload (pc := 80) 0 dX9_age_80 rfl ?_
          refine jd_if_eq (pc := 82) 89 dX9_age_82 (by decide) (fun _ => ?_) (fun hc => absurd (show (0 : Int32) = 0 by decide) hc)
          refine jd_iload (pc := 89) 1 dX9_age_89 rfl ?_
          refine jd_callVv (pc := 91) (M2 := mX9_tie) (id := t) (ci := 8) (T := TX9) (N := 10) (av := [.int x2, .int x3, .int (if 99 < (v2 + 1) then 99 else (v2 + 1))]) kX9_tie sX9_tie rfl ht.1 lX9_39 rfl rfl (Nat.le_of_ble_eq_true rfl) dX9_age_91 h ?_
          intro I5 J5 h
          refine jd_iload_n (pc := 94) 4 dX9_age_94 rfl rfl ?_
          refine jd_iload (pc := 95) 0 dX9_age_95 rfl ?_
          refine jd_if_eq (pc := 97) 104 dX9_age_97 (by decide) (fun _ => ?_) (fun hc => absurd (show (0 : Int32) = 0 by decide) hc)
          refine jd_iconst (pc := 104) (v := 0) dX9_age_104 (by decide) ?_
          refine jd_iadd (pc := 105) dX9_age_105 ?_
          refine jd_istore_n (pc := 106) [(1, .int (x1 + 0)), (6, .int 0), (5, .int (if 99 < (v2 + 1) then 99 else (v2 + 1))), (4, .int v2), (0, .ref (gb G + t)), (2, .int x2), (3, .int x3)] dX9_age_106 rfl (by decide) rfl ?_
          refine jd_iinc (pc := 107) (v := (x3 + 1)) 6 [(3, .int (x3 + 1)), (1, .int (x1 + 0)), (6, .int 0), (5, .int (if 99 < (v2 + 1) then 99 else (v2 + 1))), (4, .int v2), (0, .ref (gb G + t)), (2, .int x2)] dX9_age_107 rfl rfl (by decide) rfl ?_
          refine jd_goto (pc := 110) 24 dX9_age_110 (by decide) ?_
          exact jd_lv (lv2 := [(0, .ref (gb G + t)), (1, .int (x1 + 0)), (2, .int x2), (3, .int (x3 + 1))]) [5, 1, 6, 0] rfl h
        · have h := h.2 hc
          refine jd_iconst (pc := 70) (v := 1) dX9_age_70 (by decide) ?_
          refine jd_goto (pc := 71) 75 dX9_age_71 (by decide) ?_
          refine jd_istore (pc := 75) [(6, .int 1), (5, .int (if 99 < (v2 + 1) then 99 else (v2 + 1))), (4, .int v2), (0, .ref (gb G + t)), (1, .int x1), (2, .int x2), (3, .int x3)] dX9_age_75 (by decide) rfl ?_
          refine jd_aload_n (pc := 77) 3 dX9_age_77 rfl rfl ?_
          refine jd_iload_n (pc := 78) 5 dX9_age_78 rfl rfl ?_
          refine jd_iload_n (pc := 79) 6 dX9_age_79 rfl rfl ?_
          refine jd_iload (pc := 80) 0 dX9_age_80 rfl ?_
          refine jd_if_eq (pc := 82) 89 dX9_age_82 (by decide) (fun hc => absurd hc (by decide)) (fun _ => ?_)
          refine jd_iconst (pc := 85) (v := (-1)) dX9_age_85 (by decide) ?_
          refine jd_goto (pc := 86) 91 dX9_age_86 (by decide) ?_
          refine jd_callVv (pc := 91) (M2 := mX9_tie) (id := t) (ci := 8) (T := TX9) (N := 10) (av := [.int x2, .int x3, .int (-1)]) kX9_tie sX9_tie rfl ht.1 lX9_39 rfl rfl (Nat.le_of_ble_eq_true rfl) dX9_age_91 h ?_
          intro I7 J7 h
          refine jd_iload_n (pc := 94) 4 dX9_age_94 rfl rfl ?_
          refine jd_iload (pc := 95) 0 dX9_age_95 rfl ?_
          refine jd_if_eq (pc := 97) 104 dX9_age_97 (by decide) (fun hc => absurd hc (by decide)) (fun _ => ?_)
          refine jd_iconst (pc := 100) (v := 1) dX9_age_100 (by decide) ?_
          refine jd_goto (pc := 101) 105 dX9_age_101 (by decide) ?_
          refine jd_iadd (pc := 105) dX9_age_105 ?_
          refine jd_istore_n (pc := 106) [(1, .int (x1 + 1)), (6, .int 1), (5, .int (if 99 < (v2 + 1) then 99 else (v2 + 1))), (4, .int v2), (0, .ref (gb G + t)), (2, .int x2), (3, .int x3)] dX9_age_106 rfl (by decide) rfl ?_
          refine jd_iinc (pc := 107) (v := (x3 + 1)) 6 [(3, .int (x3 + 1)), (1, .int (x1 + 1)), (6, .int 1), (5, .int (if 99 < (v2 + 1) then 99 else (v2 + 1))), (4, .int v2), (0, .ref (gb G + t)), (2, .int x2)] dX9_age_107 rfl rfl (by decide) rfl ?_
          refine jd_goto (pc := 110) 24 dX9_age_110 (by decide) ?_
          exact jd_lv (lv2 := [(0, .ref (gb G + t)), (1, .int (x1 + 1)), (2, .int x2), (3, .int (x3 + 1))]) [5, 1, 6, 0] rfl h
theorem eX9_age {G : jdG} {n : Nat} {Z : jdL} {I : jdI} {J : jdJ} {K : Int32 → jdI → jdJ → Prop} {t : Nat} (ht : zTown Z t) (h : Jd G mX9_age (jdFm G (qi Z K)) (n + 1) 0 0 14 [(0, .ref (gb G + t)), (1, .int 0), (2, .int 0)] [] Z (uI I t 9 ((I t 9) + 1)) J) : Cl G mX9_age (n + 1) 0 0 [.ref (gb G + t)] Z I J (qi Z K) :=
  Cl.of (by decide +kernel) (Nat.le_of_ble_eq_true rfl) (rX9_age_0 ht h)
set_option maxRecDepth 4000 in
theorem rX9_become_0 {G : jdG} {n rc rs : Nat} {Z : jdL} {I : jdI} {J : jdJ} {K : jdI → jdJ → Prop} {t : Nat} {u1 : Nat} (ht : zTown Z t) (hu1 : zTown Z u1) (h : K (uI (uI (uI (uI (uI (uI (uI (cI (cI (cI I (u1 + 1) (t + 1) 0 0 7) (u1 + 2) (t + 2) 0 0 7) (u1 + 3) (t + 3) 0 0 49) t 3 ((cI (cI (cI I (u1 + 1) (t + 1) 0 0 7) (u1 + 2) (t + 2) 0 0 7) (u1 + 3) (t + 3) 0 0 49) u1 3)) t 4 ((uI (cI (cI (cI I (u1 + 1) (t + 1) 0 0 7) (u1 + 2) (t + 2) 0 0 7) (u1 + 3) (t + 3) 0 0 49) t 3 ((cI (cI (cI I (u1 + 1) (t + 1) 0 0 7) (u1 + 2) (t + 2) 0 0 7) (u1 + 3) (t + 3) 0 0 49) u1 3)) u1 4)) t 5 ((uI (uI (cI (cI (cI I (u1 + 1) (t + 1) 0 0 7) (u1 + 2) (t + 2) 0 0 7) (u1 + 3) (t + 3) 0 0 49) t 3 ((cI (cI (cI I (u1 + 1) (t + 1) 0 0 7) (u1 + 2) (t + 2) 0 0 7) (u1 + 3) (t + 3) 0 0 49) u1 3)) t 4 ((uI (cI (cI (cI I (u1 + 1) (t + 1) 0 0 7) (u1 + 2) (t + 2) 0 0 7) (u1 + 3) (t + 3) 0 0 49) t 3 ((cI (cI (cI I (u1 + 1) (t + 1) 0 0 7) (u1 + 2) (t + 2) 0 0 7) (u1 + 3) (t + 3) 0 0 49) u1 3)) u1 4)) u1 5)) t 6 ((uI (uI (uI (cI (cI (cI I (u1 + 1) (t + 1) 0 0 7) (u1 + 2) (t + 2) 0 0 7) (u1 + 3) (t + 3) 0 0 49) t 3 ((cI (cI (cI I (u1 + 1) (t + 1) 0 0 7) (u1 + 2) (t + 2) 0 0 7) (u1 + 3) (t + 3) 0 0 49) u1 3)) t 4 ((uI (cI (cI (cI I (u1 + 1) (t + 1) 0 0 7) (u1 + 2) (t + 2) 0 0 7) (u1 + 3) (t + 3) 0 0 49) t 3 ((cI (cI (cI I (u1 + 1) (t + 1) 0 0 7) (u1 + 2) (t + 2) 0 0 7) (u1 + 3) (t + 3) 0 0 49) u1 3)) u1 4)) t 5 ((uI (uI (cI (cI (cI I (u1 + 1) (t + 1) 0 0 7) (u1 + 2) (t + 2) 0 0 7) (u1 + 3) (t + 3) 0 0 49) t 3 ((cI (cI (cI I (u1 + 1) (t + 1) 0 0 7) (u1 + 2) (t + 2) 0 0 7) (u1 + 3) (t + 3) 0 0 49) u1 3)) t 4 ((uI (cI (cI (cI I (u1 + 1) (t + 1) 0 0 7) (u1 + 2) (t + 2) 0 0 7) (u1 + 3) (t + 3) 0 0 49) t 3 ((cI (cI (cI I (u1 + 1) (t + 1) 0 0 7) (u1 + 2) (t + 2) 0 0 7) (u1 + 3) (t + 3) 0 0 49) u1 3)) u1 4)) u1 5)) u1 6)) t 7 ((uI (uI (uI (uI (cI (cI (cI I (u1 + 1) (t + 1) 0 0 7) (u1 + 2) (t + 2) 0 0 7) (u1 + 3) (t + 3) 0 0 49) t 3 ((cI (cI (cI I (u1 + 1) (t + 1) 0 0 7) (u1 + 2) (t + 2) 0 0 7) (u1 + 3) (t + 3) 0 0 49) u1 3)) t 4 ((uI (cI (cI (cI I (u1 + 1) (t + 1) 0 0 7) (u1 + 2) (t + 2) 0 0 7) (u1 + 3) (t + 3) 0 0 49) t 3 ((cI (cI (cI I (u1 + 1) (t + 1) 0 0 7) (u1 + 2) (t + 2) 0 0 7) (u1 + 3) (t + 3) 0 0 49) u1 3)) u1 4)) t 5 ((uI (uI (cI (cI (cI I (u1 + 1) (t + 1) 0 0 7) (u1 + 2) (t + 2) 0 0 7) (u1 + 3) (t + 3) 0 0 49) t 3 ((cI (cI (cI I (u1 + 1) (t + 1) 0 0 7) (u1 + 2) (t + 2) 0 0 7) (u1 + 3) (t + 3) 0 0 49) u1 3)) t 4 ((uI (cI (cI (cI I (u1 + 1) (t + 1) 0 0 7) (u1 + 2) (t + 2) 0 0 7) (u1 + 3) (t + 3) 0 0 49) t 3 ((cI (cI (cI I (u1 + 1) (t + 1) 0 0 7) (u1 + 2) (t + 2) 0 0 7) (u1 + 3) (t + 3) 0 0 49) u1 3)) u1 4)) u1 5)) t 6 ((uI (uI (uI (cI (cI (cI I (u1 + 1) (t + 1) 0 0 7) (u1 + 2) (t + 2) 0 0 7) (u1 + 3) (t + 3) 0 0 49) t 3 ((cI (cI (cI I (u1 + 1) (t + 1) 0 0 7) (u1 + 2) (t + 2) 0 0 7) (u1 + 3) (t + 3) 0 0 49) u1 3)) t 4 ((uI (cI (cI (cI I (u1 + 1) (t + 1) 0 0 7) (u1 + 2) (t + 2) 0 0 7) (u1 + 3) (t + 3) 0 0 49) t 3 ((cI (cI (cI I (u1 + 1) (t + 1) 0 0 7) (u1 + 2) (t + 2) 0 0 7) (u1 + 3) (t + 3) 0 0 49) u1 3)) u1 4)) t 5 ((uI (uI (cI (cI (cI I (u1 + 1) (t + 1) 0 0 7) (u1 + 2) (t + 2) 0 0 7) (u1 + 3) (t + 3) 0 0 49) t 3 ((cI (cI (cI I (u1 + 1) (t + 1) 0 0 7) (u1 + 2) (t + 2) 0 0 7) (u1 + 3) (t + 3) 0 0 49) u1 3)) t 4 ((uI (cI (cI (cI I (u1 + 1) (t + 1) 0 0 7) (u1 + 2) (t + 2) 0 0 7) (u1 + 3) (t + 3) 0 0 49) t 3 ((cI (cI (cI I (u1 + 1) (t + 1) 0 0 7) (u1 + 2) (t + 2) 0 0 7) (u1 + 3) (t + 3) 0 0 49) u1 3)) u1 4)) u1 5)) u1 6)) u1 7)) t 8 ((uI (uI (uI (uI (uI (cI (cI (cI I (u1 + 1) (t + 1) 0 0 7) (u1 + 2) (t + 2) 0 0 7) (u1 + 3) (t + 3) 0 0 49) t 3 ((cI (cI (cI I (u1 + 1) (t + 1) 0 0 7) (u1 + 2) (t + 2) 0 0 7) (u1 + 3) (t + 3) 0 0 49) u1 3)) t 4 ((uI (cI (cI (cI I (u1 + 1) (t + 1) 0 0 7) (u1 + 2) (t + 2) 0 0 7) (u1 + 3) (t + 3) 0 0 49) t 3 ((cI (cI (cI I (u1 + 1) (t + 1) 0 0 7) (u1 + 2) (t + 2) 0 0 7) (u1 + 3) (t + 3) 0 0 49) u1 3)) u1 4)) t 5 ((uI (uI (cI (cI (cI I (u1 + 1) (t + 1) 0 0 7) (u1 + 2) (t + 2) 0 0 7) (u1 + 3) (t + 3) 0 0 49) t 3 ((cI (cI (cI I (u1 + 1) (t + 1) 0 0 7) (u1 + 2) (t + 2) 0 0 7) (u1 + 3) (t + 3) 0 0 49) u1 3)) t 4 ((uI (cI (cI (cI I (u1 + 1) (t + 1) 0 0 7) (u1 + 2) (t + 2) 0 0 7) (u1 + 3) (t + 3) 0 0 49) t 3 ((cI (cI (cI I (u1 + 1) (t + 1) 0 0 7) (u1 + 2) (t + 2) 0 0 7) (u1 + 3) (t + 3) 0 0 49) u1 3)) u1 4)) u1 5)) t 6 ((uI (uI (uI (cI (cI (cI I (u1 + 1) (t + 1) 0 0 7) (u1 + 2) (t + 2) 0 0 7) (u1 + 3) (t + 3) 0 0 49) t 3 ((cI (cI (cI I (u1 + 1) (t + 1) 0 0 7) (u1 + 2) (t + 2) 0 0 7) (u1 + 3) (t + 3) 0 0 49) u1 3)) t 4 ((uI (cI (cI (cI I (u1 + 1) (t + 1) 0 0 7) (u1 + 2) (t + 2) 0 0 7) (u1 + 3) (t + 3) 0 0 49) t 3 ((cI (cI (cI I (u1 + 1) (t + 1) 0 0 7) (u1 + 2) (t + 2) 0 0 7) (u1 + 3) (t + 3) 0 0 49) u1 3)) u1 4)) t 5 ((uI (uI (cI (cI (cI I (u1 + 1) (t + 1) 0 0 7) (u1 + 2) (t + 2) 0 0 7) (u1 + 3) (t + 3) 0 0 49) t 3 ((cI (cI (cI I (u1 + 1) (t + 1) 0 0 7) (u1 + 2) (t + 2) 0 0 7) (u1 + 3) (t + 3) 0 0 49) u1 3)) t 4 ((uI (cI (cI (cI I (u1 + 1) (t + 1) 0 0 7) (u1 + 2) (t + 2) 0 0 7) (u1 + 3) (t + 3) 0 0 49) t 3 ((cI (cI (cI I (u1 + 1) (t + 1) 0 0 7) (u1 + 2) (t + 2) 0 0 7) (u1 + 3) (t + 3) 0 0 49) u1 3)) u1 4)) u1 5)) u1 6)) t 7 ((uI (uI (uI (uI (cI (cI (cI I (u1 + 1) (t + 1) 0 0 7) (u1 + 2) (t + 2) 0 0 7) (u1 + 3) (t + 3) 0 0 49) t 3 ((cI (cI (cI I (u1 + 1) (t + 1) 0 0 7) (u1 + 2) (t + 2) 0 0 7) (u1 + 3) (t + 3) 0 0 49) u1 3)) t 4 ((uI (cI (cI (cI I (u1 + 1) (t + 1) 0 0 7) (u1 + 2) (t + 2) 0 0 7) (u1 + 3) (t + 3) 0 0 49) t 3 ((cI (cI (cI I (u1 + 1) (t + 1) 0 0 7) (u1 + 2) (t + 2) 0 0 7) (u1 + 3) (t + 3) 0 0 49) u1 3)) u1 4)) t 5 ((uI (uI (cI (cI (cI I (u1 + 1) (t + 1) 0 0 7) (u1 + 2) (t + 2) 0 0 7) (u1 + 3) (t + 3) 0 0 49) t 3 ((cI (cI (cI I (u1 + 1) (t + 1) 0 0 7) (u1 + 2) (t + 2) 0 0 7) (u1 + 3) (t + 3) 0 0 49) u1 3)) t 4 ((uI (cI (cI (cI I (u1 + 1) (t + 1) 0 0 7) (u1 + 2) (t + 2) 0 0 7) (u1 + 3) (t + 3) 0 0 49) t 3 ((cI (cI (cI I (u1 + 1) (t + 1) 0 0 7) (u1 + 2) (t + 2) 0 0 7) (u1 + 3) (t + 3) 0 0 49) u1 3)) u1 4)) u1 5)) t 6 ((uI (uI (uI (cI (cI (cI I (u1 + 1) (t + 1) 0 0 7) (u1 + 2) (t + 2) 0 0 7) (u1 + 3) (t + 3) 0 0 49) t 3 ((cI (cI (cI I (u1 + 1) (t + 1) 0 0 7) (u1 + 2) (t + 2) 0 0 7) (u1 + 3) (t + 3) 0 0 49) u1 3)) t 4 ((uI (cI (cI (cI I (u1 + 1) (t + 1) 0 0 7) (u1 + 2) (t + 2) 0 0 7) (u1 + 3) (t + 3) 0 0 49) t 3 ((cI (cI (cI I (u1 + 1) (t + 1) 0 0 7) (u1 + 2) (t + 2) 0 0 7) (u1 + 3) (t + 3) 0 0 49) u1 3)) u1 4)) t 5 ((uI (uI (cI (cI (cI I (u1 + 1) (t + 1) 0 0 7) (u1 + 2) (t + 2) 0 0 7) (u1 + 3) (t + 3) 0 0 49) t 3 ((cI (cI (cI I (u1 + 1) (t + 1) 0 0 7) (u1 + 2) (t + 2) 0 0 7) (u1 + 3) (t + 3) 0 0 49) u1 3)) t 4 ((uI (cI (cI (cI I (u1 + 1) (t + 1) 0 0 7) (u1 + 2) (t + 2) 0 0 7) (u1 + 3) (t + 3) 0 0 49) t 3 ((cI (cI (cI I (u1 + 1) (t + 1) 0 0 7) (u1 + 2) (t + 2) 0 0 7) (u1 + 3) (t + 3) 0 0 49) u1 3)) u1 4)) u1 5)) u1 6)) u1 7)) u1 8)) t 9 ((uI (uI (uI (uI (uI (uI (cI (cI (cI I (u1 + 1) (t + 1) 0 0 7) (u1 + 2) (t + 2) 0 0 7) (u1 + 3) (t + 3) 0 0 49) t 3 ((cI (cI (cI I (u1 + 1) (t + 1) 0 0 7) (u1 + 2) (t + 2) 0 0 7) (u1 + 3) (t + 3) 0 0 49) u1 3)) t 4 ((uI (cI (cI (cI I (u1 + 1) (t + 1) 0 0 7) (u1 + 2) (t + 2) 0 0 7) (u1 + 3) (t + 3) 0 0 49) t 3 ((cI (cI (cI I (u1 + 1) (t + 1) 0 0 7) (u1 + 2) (t + 2) 0 0 7) (u1 + 3) (t + 3) 0 0 49) u1 3)) u1 4)) t 5 ((uI (uI (cI (cI (cI I (u1 + 1) (t + 1) 0 0 7) (u1 + 2) (t + 2) 0 0 7) (u1 + 3) (t + 3) 0 0 49) t 3 ((cI (cI (cI I (u1 + 1) (t + 1) 0 0 7) (u1 + 2) (t + 2) 0 0 7) (u1 + 3) (t + 3) 0 0 49) u1 3)) t 4 ((uI (cI (cI (cI I (u1 + 1) (t + 1) 0 0 7) (u1 + 2) (t + 2) 0 0 7) (u1 + 3) (t + 3) 0 0 49) t 3 ((cI (cI (cI I (u1 + 1) (t + 1) 0 0 7) (u1 + 2) (t + 2) 0 0 7) (u1 + 3) (t + 3) 0 0 49) u1 3)) u1 4)) u1 5)) t 6 ((uI (uI (uI (cI (cI (cI I (u1 + 1) (t + 1) 0 0 7) (u1 + 2) (t + 2) 0 0 7) (u1 + 3) (t + 3) 0 0 49) t 3 ((cI (cI (cI I (u1 + 1) (t + 1) 0 0 7) (u1 + 2) (t + 2) 0 0 7) (u1 + 3) (t + 3) 0 0 49) u1 3)) t 4 ((uI (cI (cI (cI I (u1 + 1) (t + 1) 0 0 7) (u1 + 2) (t + 2) 0 0 7) (u1 + 3) (t + 3) 0 0 49) t 3 ((cI (cI (cI I (u1 + 1) (t + 1) 0 0 7) (u1 + 2) (t + 2) 0 0 7) (u1 + 3) (t + 3) 0 0 49) u1 3)) u1 4)) t 5 ((uI (uI (cI (cI (cI I (u1 + 1) (t + 1) 0 0 7) (u1 + 2) (t + 2) 0 0 7) (u1 + 3) (t + 3) 0 0 49) t 3 ((cI (cI (cI I (u1 + 1) (t + 1) 0 0 7) (u1 + 2) (t + 2) 0 0 7) (u1 + 3) (t + 3) 0 0 49) u1 3)) t 4 ((uI (cI (cI (cI I (u1 + 1) (t + 1) 0 0 7) (u1 + 2) (t + 2) 0 0 7) (u1 + 3) (t + 3) 0 0 49) t 3 ((cI (cI (cI I (u1 + 1) (t + 1) 0 0 7) (u1 + 2) (t + 2) 0 0 7) (u1 + 3) (t + 3) 0 0 49) u1 3)) u1 4)) u1 5)) u1 6)) t 7 ((uI (uI (uI (uI (cI (cI (cI I (u1 + 1) (t + 1) 0 0 7) (u1 + 2) (t + 2) 0 0 7) (u1 + 3) (t + 3) 0 0 49) t 3 ((cI (cI (cI I (u1 + 1) (t + 1) 0 0 7) (u1 + 2) (t + 2) 0 0 7) (u1 + 3) (t + 3) 0 0 49) u1 3)) t 4 ((uI (cI (cI (cI I (u1 + 1) (t + 1) 0 0 7) (u1 + 2) (t + 2) 0 0 7) (u1 + 3) (t + 3) 0 0 49) t 3 ((cI (cI (cI I (u1 + 1) (t + 1) 0 0 7) (u1 + 2) (t + 2) 0 0 7) (u1 + 3) (t + 3) 0 0 49) u1 3)) u1 4)) t 5 ((uI (uI (cI (cI (cI I (u1 + 1) (t + 1) 0 0 7) (u1 + 2) (t + 2) 0 0 7) (u1 + 3) (t + 3) 0 0 49) t 3 ((cI (cI (cI I (u1 + 1) (t + 1) 0 0 7) (u1 + 2) (t + 2) 0 0 7) (u1 + 3) (t + 3) 0 0 49) u1 3)) t 4 ((uI (cI (cI (cI I (u1 + 1) (t + 1) 0 0 7) (u1 + 2) (t + 2) 0 0 7) (u1 + 3) (t + 3) 0 0 49) t 3 ((cI (cI (cI I (u1 + 1) (t + 1) 0 0 7) (u1 + 2) (t + 2) 0 0 7) (u1 + 3) (t + 3) 0 0 49) u1 3)) u1 4)) u1 5)) t 6 ((uI (uI (uI (cI (cI (cI I (u1 + 1) (t + 1) 0 0 7) (u1 + 2) (t + 2) 0 0 7) (u1 + 3) (t + 3) 0 0 49) t 3 ((cI (cI (cI I (u1 + 1) (t + 1) 0 0 7) (u1 + 2) (t + 2) 0 0 7) (u1 + 3) (t + 3) 0 0 49) u1 3)) t 4 ((uI (cI (cI (cI I (u1 + 1) (t + 1) 0 0 7) (u1 + 2) (t + 2) 0 0 7) (u1 + 3) (t + 3) 0 0 49) t 3 ((cI (cI (cI I (u1 + 1) (t + 1) 0 0 7) (u1 + 2) (t + 2) 0 0 7) (u1 + 3) (t + 3) 0 0 49) u1 3)) u1 4)) t 5 ((uI (uI (cI (cI (cI I (u1 + 1) (t + 1) 0 0 7) (u1 + 2) (t + 2) 0 0 7) (u1 + 3) (t + 3) 0 0 49) t 3 ((cI (cI (cI I (u1 + 1) (t + 1) 0 0 7) (u1 + 2) (t + 2) 0 0 7) (u1 + 3) (t + 3) 0 0 49) u1 3)) t 4 ((uI (cI (cI (cI I (u1 + 1) (t + 1) 0 0 7) (u1 + 2) (t + 2) 0 0 7) (u1 + 3) (t + 3) 0 0 49) t 3 ((cI (cI (cI I (u1 + 1) (t + 1) 0 0 7) (u1 + 2) (t + 2) 0 0 7) (u1 + 3) (t + 3) 0 0 49) u1 3)) u1 4)) u1 5)) u1 6)) u1 7)) t 8 ((uI (uI (uI (uI (uI (cI (cI (cI I (u1 + 1) (t + 1) 0 0 7) (u1 + 2) (t + 2) 0 0 7) (u1 + 3) (t + 3) 0 0 49) t 3 ((cI (cI (cI I (u1 + 1) (t + 1) 0 0 7) (u1 + 2) (t + 2) 0 0 7) (u1 + 3) (t + 3) 0 0 49) u1 3)) t 4 ((uI (cI (cI (cI I (u1 + 1) (t + 1) 0 0 7) (u1 + 2) (t + 2) 0 0 7) (u1 + 3) (t + 3) 0 0 49) t 3 ((cI (cI (cI I (u1 + 1) (t + 1) 0 0 7) (u1 + 2) (t + 2) 0 0 7) (u1 + 3) (t + 3) 0 0 49) u1 3)) u1 4)) t 5 ((uI (uI (cI (cI (cI I (u1 + 1) (t + 1) 0 0 7) (u1 + 2) (t + 2) 0 0 7) (u1 + 3) (t + 3) 0 0 49) t 3 ((cI (cI (cI I (u1 + 1) (t + 1) 0 0 7) (u1 + 2) (t + 2) 0 0 7) (u1 + 3) (t + 3) 0 0 49) u1 3)) t 4 ((uI (cI (cI (cI I (u1 + 1) (t + 1) 0 0 7) (u1 + 2) (t + 2) 0 0 7) (u1 + 3) (t + 3) 0 0 49) t 3 ((cI (cI (cI I (u1 + 1) (t + 1) 0 0 7) (u1 + 2) (t + 2) 0 0 7) (u1 + 3) (t + 3) 0 0 49) u1 3)) u1 4)) u1 5)) t 6 ((uI (uI (uI (cI (cI (cI I (u1 + 1) (t + 1) 0 0 7) (u1 + 2) (t + 2) 0 0 7) (u1 + 3) (t + 3) 0 0 49) t 3 ((cI (cI (cI I (u1 + 1) (t + 1) 0 0 7) (u1 + 2) (t + 2) 0 0 7) (u1 + 3) (t + 3) 0 0 49) u1 3)) t 4 ((uI (cI (cI (cI I (u1 + 1) (t + 1) 0 0 7) (u1 + 2) (t + 2) 0 0 7) (u1 + 3) (t + 3) 0 0 49) t 3 ((cI (cI (cI I (u1 + 1) (t + 1) 0 0 7) (u1 + 2) (t + 2) 0 0 7) (u1 + 3) (t + 3) 0 0 49) u1 3)) u1 4)) t 5 ((uI (uI (cI (cI (cI I (u1 + 1) (t + 1) 0 0 7) (u1 + 2) (t + 2) 0 0 7) (u1 + 3) (t + 3) 0 0 49) t 3 ((cI (cI (cI I (u1 + 1) (t + 1) 0 0 7) (u1 + 2) (t + 2) 0 0 7) (u1 + 3) (t + 3) 0 0 49) u1 3)) t 4 ((uI (cI (cI (cI I (u1 + 1) (t + 1) 0 0 7) (u1 + 2) (t + 2) 0 0 7) (u1 + 3) (t + 3) 0 0 49) t 3 ((cI (cI (cI I (u1 + 1) (t + 1) 0 0 7) (u1 + 2) (t + 2) 0 0 7) (u1 + 3) (t + 3) 0 0 49) u1 3)) u1 4)) u1 5)) u1 6)) t 7 ((uI (uI (uI (uI (cI (cI (cI I (u1 + 1) (t + 1) 0 0 7) (u1 + 2) (t + 2) 0 0 7) (u1 + 3) (t + 3) 0 0 49) t 3 ((cI (cI (cI I (u1 + 1) (t + 1) 0 0 7) (u1 + 2) (t + 2) 0 0 7) (u1 + 3) (t + 3) 0 0 49) u1 3)) t 4 ((uI (cI (cI (cI I (u1 + 1) (t + 1) 0 0 7) (u1 + 2) (t + 2) 0 0 7) (u1 + 3) (t + 3) 0 0 49) t 3 ((cI (cI (cI I (u1 + 1) (t + 1) 0 0 7) (u1 + 2) (t + 2) 0 0 7) (u1 + 3) (t + 3) 0 0 49) u1 3)) u1 4)) t 5 ((uI (uI (cI (cI (cI I (u1 + 1) (t + 1) 0 0 7) (u1 + 2) (t + 2) 0 0 7) (u1 + 3) (t + 3) 0 0 49) t 3 ((cI (cI (cI I (u1 + 1) (t + 1) 0 0 7) (u1 + 2) (t + 2) 0 0 7) (u1 + 3) (t + 3) 0 0 49) u1 3)) t 4 ((uI (cI (cI (cI I (u1 + 1) (t + 1) 0 0 7) (u1 + 2) (t + 2) 0 0 7) (u1 + 3) (t + 3) 0 0 49) t 3 ((cI (cI (cI I (u1 + 1) (t + 1) 0 0 7) (u1 + 2) (t + 2) 0 0 7) (u1 + 3) (t + 3) 0 0 49) u1 3)) u1 4)) u1 5)) t 6 ((uI (uI (uI (cI (cI (cI I (u1 + 1) (t + 1) 0 0 7) (u1 + 2) (t + 2) 0 0 7) (u1 + 3) (t + 3) 0 0 49) t 3 ((cI (cI (cI I (u1 + 1) (t + 1) 0 0 7) (u1 + 2) (t + 2) 0 0 7) (u1 + 3) (t + 3) 0 0 49) u1 3)) t 4 ((uI (cI (cI (cI I (u1 + 1) (t + 1) 0 0 7) (u1 + 2) (t + 2) 0 0 7) (u1 + 3) (t + 3) 0 0 49) t 3 ((cI (cI (cI I (u1 + 1) (t + 1) 0 0 7) (u1 + 2) (t + 2) 0 0 7) (u1 + 3) (t + 3) 0 0 49) u1 3)) u1 4)) t 5 ((uI (uI (cI (cI (cI I (u1 + 1) (t + 1) 0 0 7) (u1 + 2) (t + 2) 0 0 7) (u1 + 3) (t + 3) 0 0 49) t 3 ((cI (cI (cI I (u1 + 1) (t + 1) 0 0 7) (u1 + 2) (t + 2) 0 0 7) (u1 + 3) (t + 3) 0 0 49) u1 3)) t 4 ((uI (cI (cI (cI I (u1 + 1) (t + 1) 0 0 7) (u1 + 2) (t + 2) 0 0 7) (u1 + 3) (t + 3) 0 0 49) t 3 ((cI (cI (cI I (u1 + 1) (t + 1) 0 0 7) (u1 + 2) (t + 2) 0 0 7) (u1 + 3) (t + 3) 0 0 49) u1 3)) u1 4)) u1 5)) u1 6)) u1 7)) u1 8)) u1 9)) J) : Jd G mX9_become (jdFm G (qv Z K)) (n + 1) rc rs 0 [(0, .ref (gb G + t)), (1, .ref (gb G + u1))] [] Z I J := by
  refine jd_aload_n (pc := 0) 1 dX9_become_0 rfl rfl ?_
  refine jd_getR (pc := 1) (ci := 8) (k := 0) (r := (u1 + 1)) gX9_9 hu1.1 rfl (zTown_p0 hu1) dX9_become_1 ?_
  refine jd_iconst (pc := 4) (v := 0) dX9_become_4 (by decide) ?_
  refine jd_aload_n (pc := 5) 0 dX9_become_5 rfl rfl ?_
  refine jd_getR (pc := 6) (ci := 8) (k := 0) (r := (t + 1)) gX9_9 ht.1 rfl (zTown_p0 ht) dX9_become_6 ?_
  refine jd_iconst (pc := 9) (v := 0) dX9_become_9 (by decide) ?_
  refine jd_bipush (pc := 10) (v := 7) dX9_become_10 (by decide) ?_
  refine jd_copyI (pc := 12) (n0 := 7) (n1 := 7) cX9_79 (zTown_a0 hu1) (zTown_a0 ht) (Nat.le_of_ble_eq_true rfl) (by decide) (by decide) (by decide) (by decide) (by decide) dX9_become_12 ?_
  refine jd_aload_n (pc := 15) 1 dX9_become_15 rfl rfl ?_
  refine jd_getR (pc := 16) (ci := 8) (k := 1) (r := (u1 + 2)) gX9_15 hu1.1 rfl (zTown_p1 hu1) dX9_become_16 ?_
  refine jd_iconst (pc := 19) (v := 0) dX9_become_19 (by decide) ?_
  refine jd_aload_n (pc := 20) 0 dX9_become_20 rfl rfl ?_
  refine jd_getR (pc := 21) (ci := 8) (k := 1) (r := (t + 2)) gX9_15 ht.1 rfl (zTown_p1 ht) dX9_become_21 ?_
  refine jd_iconst (pc := 24) (v := 0) dX9_become_24 (by decide) ?_
  refine jd_bipush (pc := 25) (v := 7) dX9_become_25 (by decide) ?_
  refine jd_copyI (pc := 27) (n0 := 7) (n1 := 7) cX9_79 (zTown_a1 hu1) (zTown_a1 ht) (Nat.le_of_ble_eq_true rfl) (by decide) (by decide) (by decide) (by decide) (by decide) dX9_become_27 ?_
  refine jd_aload_n (pc := 30) 1 dX9_become_30 rfl rfl ?_
  refine jd_getR (pc := 31) (ci := 8) (k := 2) (r := (u1 + 3)) gX9_18 hu1.1 rfl (zTown_p2 hu1) dX9_become_31 ?_
  refine jd_iconst (pc := 34) (v := 0) dX9_become_34 (by decide) ?_
  refine jd_aload_n (pc := 35) 0 dX9_become_35 rfl rfl ?_
  refine jd_getR (pc := 36) (ci := 8) (k := 2) (r := (t + 3)) gX9_18 ht.1 rfl (zTown_p2 ht) dX9_become_36 ?_
  refine jd_iconst (pc := 39) (v := 0) dX9_become_39 (by decide) ?_
  refine jd_bipush (pc := 40) (v := 49) dX9_become_40 (by decide) ?_
  refine jd_copyI (pc := 42) (n0 := 49) (n1 := 49) cX9_79 (zTown_a2 hu1) (zTown_a2 ht) (Nat.le_of_ble_eq_true rfl) (by decide) (by decide) (by decide) (by decide) (by decide) dX9_become_42 ?_
  refine jd_aload_n (pc := 45) 0 dX9_become_45 rfl rfl ?_
  refine jd_aload_n (pc := 46) 1 dX9_become_46 rfl rfl ?_
  refine jd_getI (pc := 47) (ci := 8) (k := 3) gX9_28 hu1.1 rfl dX9_become_47 ?_
  refine jd_putI (pc := 50) (ci := 8) (k := 3) pX9_28 ht.1 rfl rfl rfl dX9_become_50 ?_
  refine jd_aload_n (pc := 53) 0 dX9_become_53 rfl rfl ?_
  refine jd_aload_n (pc := 54) 1 dX9_become_54 rfl rfl ?_
  refine jd_getI (pc := 55) (ci := 8) (k := 4) gX9_21 hu1.1 rfl dX9_become_55 ?_
  refine jd_putI (pc := 58) (ci := 8) (k := 4) pX9_21 ht.1 rfl rfl rfl dX9_become_58 ?_
  refine jd_aload_n (pc := 61) 0 dX9_become_61 rfl rfl ?_
  refine jd_aload_n (pc := 62) 1 dX9_become_62 rfl rfl ?_
  refine jd_getI (pc := 63) (ci := 8) (k := 5) gX9_76 hu1.1 rfl dX9_become_63 ?_
  refine jd_putI (pc := 66) (ci := 8) (k := 5) pX9_76 ht.1 rfl rfl rfl dX9_become_66 ?_
  refine jd_aload_n (pc := 69) 0 dX9_become_69 rfl rfl ?_
  refine jd_aload_n (pc := 70) 1 dX9_become_70 rfl rfl ?_
  refine jd_getI (pc := 71) (ci := 8) (k := 6) gX9_25 hu1.1 rfl dX9_become_71 ?_
  refine jd_putI (pc := 74) (ci := 8) (k := 6) pX9_25 ht.1 rfl rfl rfl dX9_become_74 ?_
  refine jd_aload_n (pc := 77) 0 dX9_become_77 rfl rfl ?_
  refine jd_aload_n (pc := 78) 1 dX9_become_78 rfl rfl ?_
  refine jd_getI (pc := 79) (ci := 8) (k := 7) gX9_62 hu1.1 rfl dX9_become_79 ?_
  refine jd_putI (pc := 82) (ci := 8) (k := 7) pX9_62 ht.1 rfl rfl rfl dX9_become_82 ?_
  refine jd_aload_n (pc := 85) 0 dX9_become_85 rfl rfl ?_
  refine jd_aload_n (pc := 86) 1 dX9_become_86 rfl rfl ?_
  refine jd_getI (pc := 87) (ci := 8) (k := 8) gX9_65 hu1.1 rfl dX9_become_87 ?_
  refine jd_putI (pc := 90) (ci := 8) (k := 8) pX9_65 ht.1 rfl rfl rfl dX9_become_90 ?_
  refine jd_aload_n (pc := 93) 0 dX9_become_93 rfl rfl ?_
  refine jd_aload_n (pc := 94) 1 dX9_become_94 rfl rfl ?_
  refine jd_getI (pc := 95) (ci := 8) (k := 9) gX9_68 hu1.1 rfl dX9_become_95 ?_
  refine jd_putI (pc := 98) (ci := 8) (k := 9) pX9_68 ht.1 rfl rfl rfl dX9_become_98 ?_
  exact jd_vretK (pc := 101) rfl dX9_become_101 h
theorem eX9_become {G : jdG} {n : Nat} {Z : jdL} {I : jdI} {J : jdJ} {K : jdI → jdJ → Prop} {t : Nat} {u1 : Nat} (ht : zTown Z t) (hu1 : zTown Z u1) (h : K (uI (uI (uI (uI (uI (uI (uI (cI (cI (cI I (u1 + 1) (t + 1) 0 0 7) (u1 + 2) (t + 2) 0 0 7) (u1 + 3) (t + 3) 0 0 49) t 3 ((cI (cI (cI I (u1 + 1) (t + 1) 0 0 7) (u1 + 2) (t + 2) 0 0 7) (u1 + 3) (t + 3) 0 0 49) u1 3)) t 4 ((uI (cI (cI (cI I (u1 + 1) (t + 1) 0 0 7) (u1 + 2) (t + 2) 0 0 7) (u1 + 3) (t + 3) 0 0 49) t 3 ((cI (cI (cI I (u1 + 1) (t + 1) 0 0 7) (u1 + 2) (t + 2) 0 0 7) (u1 + 3) (t + 3) 0 0 49) u1 3)) u1 4)) t 5 ((uI (uI (cI (cI (cI I (u1 + 1) (t + 1) 0 0 7) (u1 + 2) (t + 2) 0 0 7) (u1 + 3) (t + 3) 0 0 49) t 3 ((cI (cI (cI I (u1 + 1) (t + 1) 0 0 7) (u1 + 2) (t + 2) 0 0 7) (u1 + 3) (t + 3) 0 0 49) u1 3)) t 4 ((uI (cI (cI (cI I (u1 + 1) (t + 1) 0 0 7) (u1 + 2) (t + 2) 0 0 7) (u1 + 3) (t + 3) 0 0 49) t 3 ((cI (cI (cI I (u1 + 1) (t + 1) 0 0 7) (u1 + 2) (t + 2) 0 0 7) (u1 + 3) (t + 3) 0 0 49) u1 3)) u1 4)) u1 5)) t 6 ((uI (uI (uI (cI (cI (cI I (u1 + 1) (t + 1) 0 0 7) (u1 + 2) (t + 2) 0 0 7) (u1 + 3) (t + 3) 0 0 49) t 3 ((cI (cI (cI I (u1 + 1) (t + 1) 0 0 7) (u1 + 2) (t + 2) 0 0 7) (u1 + 3) (t + 3) 0 0 49) u1 3)) t 4 ((uI (cI (cI (cI I (u1 + 1) (t + 1) 0 0 7) (u1 + 2) (t + 2) 0 0 7) (u1 + 3) (t + 3) 0 0 49) t 3 ((cI (cI (cI I (u1 + 1) (t + 1) 0 0 7) (u1 + 2) (t + 2) 0 0 7) (u1 + 3) (t + 3) 0 0 49) u1 3)) u1 4)) t 5 ((uI (uI (cI (cI (cI I (u1 + 1) (t + 1) 0 0 7) (u1 + 2) (t + 2) 0 0 7) (u1 + 3) (t + 3) 0 0 49) t 3 ((cI (cI (cI I (u1 + 1) (t + 1) 0 0 7) (u1 + 2) (t + 2) 0 0 7) (u1 + 3) (t + 3) 0 0 49) u1 3)) t 4 ((uI (cI (cI (cI I (u1 + 1) (t + 1) 0 0 7) (u1 + 2) (t + 2) 0 0 7) (u1 + 3) (t + 3) 0 0 49) t 3 ((cI (cI (cI I (u1 + 1) (t + 1) 0 0 7) (u1 + 2) (t + 2) 0 0 7) (u1 + 3) (t + 3) 0 0 49) u1 3)) u1 4)) u1 5)) u1 6)) t 7 ((uI (uI (uI (uI (cI (cI (cI I (u1 + 1) (t + 1) 0 0 7) (u1 + 2) (t + 2) 0 0 7) (u1 + 3) (t + 3) 0 0 49) t 3 ((cI (cI (cI I (u1 + 1) (t + 1) 0 0 7) (u1 + 2) (t + 2) 0 0 7) (u1 + 3) (t + 3) 0 0 49) u1 3)) t 4 ((uI (cI (cI (cI I (u1 + 1) (t + 1) 0 0 7) (u1 + 2) (t + 2) 0 0 7) (u1 + 3) (t + 3) 0 0 49) t 3 ((cI (cI (cI I (u1 + 1) (t + 1) 0 0 7) (u1 + 2) (t + 2) 0 0 7) (u1 + 3) (t + 3) 0 0 49) u1 3)) u1 4)) t 5 ((uI (uI (cI (cI (cI I (u1 + 1) (t + 1) 0 0 7) (u1 + 2) (t + 2) 0 0 7) (u1 + 3) (t + 3) 0 0 49) t 3 ((cI (cI (cI I (u1 + 1) (t + 1) 0 0 7) (u1 + 2) (t + 2) 0 0 7) (u1 + 3) (t + 3) 0 0 49) u1 3)) t 4 ((uI (cI (cI (cI I (u1 + 1) (t + 1) 0 0 7) (u1 + 2) (t + 2) 0 0 7) (u1 + 3) (t + 3) 0 0 49) t 3 ((cI (cI (cI I (u1 + 1) (t + 1) 0 0 7) (u1 + 2) (t + 2) 0 0 7) (u1 + 3) (t + 3) 0 0 49) u1 3)) u1 4)) u1 5)) t 6 ((uI (uI (uI (cI (cI (cI I (u1 + 1) (t + 1) 0 0 7) (u1 + 2) (t + 2) 0 0 7) (u1 + 3) (t + 3) 0 0 49) t 3 ((cI (cI (cI I (u1 + 1) (t + 1) 0 0 7) (u1 + 2) (t + 2) 0 0 7) (u1 + 3) (t + 3) 0 0 49) u1 3)) t 4 ((uI (cI (cI (cI I (u1 + 1) (t + 1) 0 0 7) (u1 + 2) (t + 2) 0 0 7) (u1 + 3) (t + 3) 0 0 49) t 3 ((cI (cI (cI I (u1 + 1) (t + 1) 0 0 7) (u1 + 2) (t + 2) 0 0 7) (u1 + 3) (t + 3) 0 0 49) u1 3)) u1 4)) t 5 ((uI (uI (cI (cI (cI I (u1 + 1) (t + 1) 0 0 7) (u1 + 2) (t + 2) 0 0 7) (u1 + 3) (t + 3) 0 0 49) t 3 ((cI (cI (cI I (u1 + 1) (t + 1) 0 0 7) (u1 + 2) (t + 2) 0 0 7) (u1 + 3) (t + 3) 0 0 49) u1 3)) t 4 ((uI (cI (cI (cI I (u1 + 1) (t + 1) 0 0 7) (u1 + 2) (t + 2) 0 0 7) (u1 + 3) (t + 3) 0 0 49) t 3 ((cI (cI (cI I (u1 + 1) (t + 1) 0 0 7) (u1 + 2) (t + 2) 0 0 7) (u1 + 3) (t + 3) 0 0 49) u1 3)) u1 4)) u1 5)) u1 6)) u1 7)) t 8 ((uI (uI (uI (uI (uI (cI (cI (cI I (u1 + 1) (t + 1) 0 0 7) (u1 + 2) (t + 2) 0 0 7) (u1 + 3) (t + 3) 0 0 49) t 3 ((cI (cI (cI I (u1 + 1) (t + 1) 0 0 7) (u1 + 2) (t + 2) 0 0 7) (u1 + 3) (t + 3) 0 0 49) u1 3)) t 4 ((uI (cI (cI (cI I (u1 + 1) (t + 1) 0 0 7) (u1 + 2) (t + 2) 0 0 7) (u1 + 3) (t + 3) 0 0 49) t 3 ((cI (cI (cI I (u1 + 1) (t + 1) 0 0 7) (u1 + 2) (t + 2) 0 0 7) (u1 + 3) (t + 3) 0 0 49) u1 3)) u1 4)) t 5 ((uI (uI (cI (cI (cI I (u1 + 1) (t + 1) 0 0 7) (u1 + 2) (t + 2) 0 0 7) (u1 + 3) (t + 3) 0 0 49) t 3 ((cI (cI (cI I (u1 + 1) (t + 1) 0 0 7) (u1 + 2) (t + 2) 0 0 7) (u1 + 3) (t + 3) 0 0 49) u1 3)) t 4 ((uI (cI (cI (cI I (u1 + 1) (t + 1) 0 0 7) (u1 + 2) (t + 2) 0 0 7) (u1 + 3) (t + 3) 0 0 49) t 3 ((cI (cI (cI I (u1 + 1) (t + 1) 0 0 7) (u1 + 2) (t + 2) 0 0 7) (u1 + 3) (t + 3) 0 0 49) u1 3)) u1 4)) u1 5)) t 6 ((uI (uI (uI (cI (cI (cI I (u1 + 1) (t + 1) 0 0 7) (u1 + 2) (t + 2) 0 0 7) (u1 + 3) (t + 3) 0 0 49) t 3 ((cI (cI (cI I (u1 + 1) (t + 1) 0 0 7) (u1 + 2) (t + 2) 0 0 7) (u1 + 3) (t + 3) 0 0 49) u1 3)) t 4 ((uI (cI (cI (cI I (u1 + 1) (t + 1) 0 0 7) (u1 + 2) (t + 2) 0 0 7) (u1 + 3) (t + 3) 0 0 49) t 3 ((cI (cI (cI I (u1 + 1) (t + 1) 0 0 7) (u1 + 2) (t + 2) 0 0 7) (u1 + 3) (t + 3) 0 0 49) u1 3)) u1 4)) t 5 ((uI (uI (cI (cI (cI I (u1 + 1) (t + 1) 0 0 7) (u1 + 2) (t + 2) 0 0 7) (u1 + 3) (t + 3) 0 0 49) t 3 ((cI (cI (cI I (u1 + 1) (t + 1) 0 0 7) (u1 + 2) (t + 2) 0 0 7) (u1 + 3) (t + 3) 0 0 49) u1 3)) t 4 ((uI (cI (cI (cI I (u1 + 1) (t + 1) 0 0 7) (u1 + 2) (t + 2) 0 0 7) (u1 + 3) (t + 3) 0 0 49) t 3 ((cI (cI (cI I (u1 + 1) (t + 1) 0 0 7) (u1 + 2) (t + 2) 0 0 7) (u1 + 3) (t + 3) 0 0 49) u1 3)) u1 4)) u1 5)) u1 6)) t 7 ((uI (uI (uI (uI (cI (cI (cI I (u1 + 1) (t + 1) 0 0 7) (u1 + 2) (t + 2) 0 0 7) (u1 + 3) (t + 3) 0 0 49) t 3 ((cI (cI (cI I (u1 + 1) (t + 1) 0 0 7) (u1 + 2) (t + 2) 0 0 7) (u1 + 3) (t + 3) 0 0 49) u1 3)) t 4 ((uI (cI (cI (cI I (u1 + 1) (t + 1) 0 0 7) (u1 + 2) (t + 2) 0 0 7) (u1 + 3) (t + 3) 0 0 49) t 3 ((cI (cI (cI I (u1 + 1) (t + 1) 0 0 7) (u1 + 2) (t + 2) 0 0 7) (u1 + 3) (t + 3) 0 0 49) u1 3)) u1 4)) t 5 ((uI (uI (cI (cI (cI I (u1 + 1) (t + 1) 0 0 7) (u1 + 2) (t + 2) 0 0 7) (u1 + 3) (t + 3) 0 0 49) t 3 ((cI (cI (cI I (u1 + 1) (t + 1) 0 0 7) (u1 + 2) (t + 2) 0 0 7) (u1 + 3) (t + 3) 0 0 49) u1 3)) t 4 ((uI (cI (cI (cI I (u1 + 1) (t + 1) 0 0 7) (u1 + 2) (t + 2) 0 0 7) (u1 + 3) (t + 3) 0 0 49) t 3 ((cI (cI (cI I (u1 + 1) (t + 1) 0 0 7) (u1 + 2) (t + 2) 0 0 7) (u1 + 3) (t + 3) 0 0 49) u1 3)) u1 4)) u1 5)) t 6 ((uI (uI (uI (cI (cI (cI I (u1 + 1) (t + 1) 0 0 7) (u1 + 2) (t + 2) 0 0 7) (u1 + 3) (t + 3) 0 0 49) t 3 ((cI (cI (cI I (u1 + 1) (t + 1) 0 0 7) (u1 + 2) (t + 2) 0 0 7) (u1 + 3) (t + 3) 0 0 49) u1 3)) t 4 ((uI (cI (cI (cI I (u1 + 1) (t + 1) 0 0 7) (u1 + 2) (t + 2) 0 0 7) (u1 + 3) (t + 3) 0 0 49) t 3 ((cI (cI (cI I (u1 + 1) (t + 1) 0 0 7) (u1 + 2) (t + 2) 0 0 7) (u1 + 3) (t + 3) 0 0 49) u1 3)) u1 4)) t 5 ((uI (uI (cI (cI (cI I (u1 + 1) (t + 1) 0 0 7) (u1 + 2) (t + 2) 0 0 7) (u1 + 3) (t + 3) 0 0 49) t 3 ((cI (cI (cI I (u1 + 1) (t + 1) 0 0 7) (u1 + 2) (t + 2) 0 0 7) (u1 + 3) (t + 3) 0 0 49) u1 3)) t 4 ((uI (cI (cI (cI I (u1 + 1) (t + 1) 0 0 7) (u1 + 2) (t + 2) 0 0 7) (u1 + 3) (t + 3) 0 0 49) t 3 ((cI (cI (cI I (u1 + 1) (t + 1) 0 0 7) (u1 + 2) (t + 2) 0 0 7) (u1 + 3) (t + 3) 0 0 49) u1 3)) u1 4)) u1 5)) u1 6)) u1 7)) u1 8)) t 9 ((uI (uI (uI (uI (uI (uI (cI (cI (cI I (u1 + 1) (t + 1) 0 0 7) (u1 + 2) (t + 2) 0 0 7) (u1 + 3) (t + 3) 0 0 49) t 3 ((cI (cI (cI I (u1 + 1) (t + 1) 0 0 7) (u1 + 2) (t + 2) 0 0 7) (u1 + 3) (t + 3) 0 0 49) u1 3)) t 4 ((uI (cI (cI (cI I (u1 + 1) (t + 1) 0 0 7) (u1 + 2) (t + 2) 0 0 7) (u1 + 3) (t + 3) 0 0 49) t 3 ((cI (cI (cI I (u1 + 1) (t + 1) 0 0 7) (u1 + 2) (t + 2) 0 0 7) (u1 + 3) (t + 3) 0 0 49) u1 3)) u1 4)) t 5 ((uI (uI (cI (cI (cI I (u1 + 1) (t + 1) 0 0 7) (u1 + 2) (t + 2) 0 0 7) (u1 + 3) (t + 3) 0 0 49) t 3 ((cI (cI (cI I (u1 + 1) (t + 1) 0 0 7) (u1 + 2) (t + 2) 0 0 7) (u1 + 3) (t + 3) 0 0 49) u1 3)) t 4 ((uI (cI (cI (cI I (u1 + 1) (t + 1) 0 0 7) (u1 + 2) (t + 2) 0 0 7) (u1 + 3) (t + 3) 0 0 49) t 3 ((cI (cI (cI I (u1 + 1) (t + 1) 0 0 7) (u1 + 2) (t + 2) 0 0 7) (u1 + 3) (t + 3) 0 0 49) u1 3)) u1 4)) u1 5)) t 6 ((uI (uI (uI (cI (cI (cI I (u1 + 1) (t + 1) 0 0 7) (u1 + 2) (t + 2) 0 0 7) (u1 + 3) (t + 3) 0 0 49) t 3 ((cI (cI (cI I (u1 + 1) (t + 1) 0 0 7) (u1 + 2) (t + 2) 0 0 7) (u1 + 3) (t + 3) 0 0 49) u1 3)) t 4 ((uI (cI (cI (cI I (u1 + 1) (t + 1) 0 0 7) (u1 + 2) (t + 2) 0 0 7) (u1 + 3) (t + 3) 0 0 49) t 3 ((cI (cI (cI I (u1 + 1) (t + 1) 0 0 7) (u1 + 2) (t + 2) 0 0 7) (u1 + 3) (t + 3) 0 0 49) u1 3)) u1 4)) t 5 ((uI (uI (cI (cI (cI I (u1 + 1) (t + 1) 0 0 7) (u1 + 2) (t + 2) 0 0 7) (u1 + 3) (t + 3) 0 0 49) t 3 ((cI (cI (cI I (u1 + 1) (t + 1) 0 0 7) (u1 + 2) (t + 2) 0 0 7) (u1 + 3) (t + 3) 0 0 49) u1 3)) t 4 ((uI (cI (cI (cI I (u1 + 1) (t + 1) 0 0 7) (u1 + 2) (t + 2) 0 0 7) (u1 + 3) (t + 3) 0 0 49) t 3 ((cI (cI (cI I (u1 + 1) (t + 1) 0 0 7) (u1 + 2) (t + 2) 0 0 7) (u1 + 3) (t + 3) 0 0 49) u1 3)) u1 4)) u1 5)) u1 6)) t 7 ((uI (uI (uI (uI (cI (cI (cI I (u1 + 1) (t + 1) 0 0 7) (u1 + 2) (t + 2) 0 0 7) (u1 + 3) (t + 3) 0 0 49) t 3 ((cI (cI (cI I (u1 + 1) (t + 1) 0 0 7) (u1 + 2) (t + 2) 0 0 7) (u1 + 3) (t + 3) 0 0 49) u1 3)) t 4 ((uI (cI (cI (cI I (u1 + 1) (t + 1) 0 0 7) (u1 + 2) (t + 2) 0 0 7) (u1 + 3) (t + 3) 0 0 49) t 3 ((cI (cI (cI I (u1 + 1) (t + 1) 0 0 7) (u1 + 2) (t + 2) 0 0 7) (u1 + 3) (t + 3) 0 0 49) u1 3)) u1 4)) t 5 ((uI (uI (cI (cI (cI I (u1 + 1) (t + 1) 0 0 7) (u1 + 2) (t + 2) 0 0 7) (u1 + 3) (t + 3) 0 0 49) t 3 ((cI (cI (cI I (u1 + 1) (t + 1) 0 0 7) (u1 + 2) (t + 2) 0 0 7) (u1 + 3) (t + 3) 0 0 49) u1 3)) t 4 ((uI (cI (cI (cI I (u1 + 1) (t + 1) 0 0 7) (u1 + 2) (t + 2) 0 0 7) (u1 + 3) (t + 3) 0 0 49) t 3 ((cI (cI (cI I (u1 + 1) (t + 1) 0 0 7) (u1 + 2) (t + 2) 0 0 7) (u1 + 3) (t + 3) 0 0 49) u1 3)) u1 4)) u1 5)) t 6 ((uI (uI (uI (cI (cI (cI I (u1 + 1) (t + 1) 0 0 7) (u1 + 2) (t + 2) 0 0 7) (u1 + 3) (t + 3) 0 0 49) t 3 ((cI (cI (cI I (u1 + 1) (t + 1) 0 0 7) (u1 + 2) (t + 2) 0 0 7) (u1 + 3) (t + 3) 0 0 49) u1 3)) t 4 ((uI (cI (cI (cI I (u1 + 1) (t + 1) 0 0 7) (u1 + 2) (t + 2) 0 0 7) (u1 + 3) (t + 3) 0 0 49) t 3 ((cI (cI (cI I (u1 + 1) (t + 1) 0 0 7) (u1 + 2) (t + 2) 0 0 7) (u1 + 3) (t + 3) 0 0 49) u1 3)) u1 4)) t 5 ((uI (uI (cI (cI (cI I (u1 + 1) (t + 1) 0 0 7) (u1 + 2) (t + 2) 0 0 7) (u1 + 3) (t + 3) 0 0 49) t 3 ((cI (cI (cI I (u1 + 1) (t + 1) 0 0 7) (u1 + 2) (t + 2) 0 0 7) (u1 + 3) (t + 3) 0 0 49) u1 3)) t 4 ((uI (cI (cI (cI I (u1 + 1) (t + 1) 0 0 7) (u1 + 2) (t + 2) 0 0 7) (u1 + 3) (t + 3) 0 0 49) t 3 ((cI (cI (cI I (u1 + 1) (t + 1) 0 0 7) (u1 + 2) (t + 2) 0 0 7) (u1 + 3) (t + 3) 0 0 49) u1 3)) u1 4)) u1 5)) u1 6)) u1 7)) t 8 ((uI (uI (uI (uI (uI (cI (cI (cI I (u1 + 1) (t + 1) 0 0 7) (u1 + 2) (t + 2) 0 0 7) (u1 + 3) (t + 3) 0 0 49) t 3 ((cI (cI (cI I (u1 + 1) (t + 1) 0 0 7) (u1 + 2) (t + 2) 0 0 7) (u1 + 3) (t + 3) 0 0 49) u1 3)) t 4 ((uI (cI (cI (cI I (u1 + 1) (t + 1) 0 0 7) (u1 + 2) (t + 2) 0 0 7) (u1 + 3) (t + 3) 0 0 49) t 3 ((cI (cI (cI I (u1 + 1) (t + 1) 0 0 7) (u1 + 2) (t + 2) 0 0 7) (u1 + 3) (t + 3) 0 0 49) u1 3)) u1 4)) t 5 ((uI (uI (cI (cI (cI I (u1 + 1) (t + 1) 0 0 7) (u1 + 2) (t + 2) 0 0 7) (u1 + 3) (t + 3) 0 0 49) t 3 ((cI (cI (cI I (u1 + 1) (t + 1) 0 0 7) (u1 + 2) (t + 2) 0 0 7) (u1 + 3) (t + 3) 0 0 49) u1 3)) t 4 ((uI (cI (cI (cI I (u1 + 1) (t + 1) 0 0 7) (u1 + 2) (t + 2) 0 0 7) (u1 + 3) (t + 3) 0 0 49) t 3 ((cI (cI (cI I (u1 + 1) (t + 1) 0 0 7) (u1 + 2) (t + 2) 0 0 7) (u1 + 3) (t + 3) 0 0 49) u1 3)) u1 4)) u1 5)) t 6 ((uI (uI (uI (cI (cI (cI I (u1 + 1) (t + 1) 0 0 7) (u1 + 2) (t + 2) 0 0 7) (u1 + 3) (t + 3) 0 0 49) t 3 ((cI (cI (cI I (u1 + 1) (t + 1) 0 0 7) (u1 + 2) (t + 2) 0 0 7) (u1 + 3) (t + 3) 0 0 49) u1 3)) t 4 ((uI (cI (cI (cI I (u1 + 1) (t + 1) 0 0 7) (u1 + 2) (t + 2) 0 0 7) (u1 + 3) (t + 3) 0 0 49) t 3 ((cI (cI (cI I (u1 + 1) (t + 1) 0 0 7) (u1 + 2) (t + 2) 0 0 7) (u1 + 3) (t + 3) 0 0 49) u1 3)) u1 4)) t 5 ((uI (uI (cI (cI (cI I (u1 + 1) (t + 1) 0 0 7) (u1 + 2) (t + 2) 0 0 7) (u1 + 3) (t + 3) 0 0 49) t 3 ((cI (cI (cI I (u1 + 1) (t + 1) 0 0 7) (u1 + 2) (t + 2) 0 0 7) (u1 + 3) (t + 3) 0 0 49) u1 3)) t 4 ((uI (cI (cI (cI I (u1 + 1) (t + 1) 0 0 7) (u1 + 2) (t + 2) 0 0 7) (u1 + 3) (t + 3) 0 0 49) t 3 ((cI (cI (cI I (u1 + 1) (t + 1) 0 0 7) (u1 + 2) (t + 2) 0 0 7) (u1 + 3) (t + 3) 0 0 49) u1 3)) u1 4)) u1 5)) u1 6)) t 7 ((uI (uI (uI (uI (cI (cI (cI I (u1 + 1) (t + 1) 0 0 7) (u1 + 2) (t + 2) 0 0 7) (u1 + 3) (t + 3) 0 0 49) t 3 ((cI (cI (cI I (u1 + 1) (t + 1) 0 0 7) (u1 + 2) (t + 2) 0 0 7) (u1 + 3) (t + 3) 0 0 49) u1 3)) t 4 ((uI (cI (cI (cI I (u1 + 1) (t + 1) 0 0 7) (u1 + 2) (t + 2) 0 0 7) (u1 + 3) (t + 3) 0 0 49) t 3 ((cI (cI (cI I (u1 + 1) (t + 1) 0 0 7) (u1 + 2) (t + 2) 0 0 7) (u1 + 3) (t + 3) 0 0 49) u1 3)) u1 4)) t 5 ((uI (uI (cI (cI (cI I (u1 + 1) (t + 1) 0 0 7) (u1 + 2) (t + 2) 0 0 7) (u1 + 3) (t + 3) 0 0 49) t 3 ((cI (cI (cI I (u1 + 1) (t + 1) 0 0 7) (u1 + 2) (t + 2) 0 0 7) (u1 + 3) (t + 3) 0 0 49) u1 3)) t 4 ((uI (cI (cI (cI I (u1 + 1) (t + 1) 0 0 7) (u1 + 2) (t + 2) 0 0 7) (u1 + 3) (t + 3) 0 0 49) t 3 ((cI (cI (cI I (u1 + 1) (t + 1) 0 0 7) (u1 + 2) (t + 2) 0 0 7) (u1 + 3) (t + 3) 0 0 49) u1 3)) u1 4)) u1 5)) t 6 ((uI (uI (uI (cI (cI (cI I (u1 + 1) (t + 1) 0 0 7) (u1 + 2) (t + 2) 0 0 7) (u1 + 3) (t + 3) 0 0 49) t 3 ((cI (cI (cI I (u1 + 1) (t + 1) 0 0 7) (u1 + 2) (t + 2) 0 0 7) (u1 + 3) (t + 3) 0 0 49) u1 3)) t 4 ((uI (cI (cI (cI I (u1 + 1) (t + 1) 0 0 7) (u1 + 2) (t + 2) 0 0 7) (u1 + 3) (t + 3) 0 0 49) t 3 ((cI (cI (cI I (u1 + 1) (t + 1) 0 0 7) (u1 + 2) (t + 2) 0 0 7) (u1 + 3) (t + 3) 0 0 49) u1 3)) u1 4)) t 5 ((uI (uI (cI (cI (cI I (u1 + 1) (t + 1) 0 0 7) (u1 + 2) (t + 2) 0 0 7) (u1 + 3) (t + 3) 0 0 49) t 3 ((cI (cI (cI I (u1 + 1) (t + 1) 0 0 7) (u1 + 2) (t + 2) 0 0 7) (u1 + 3) (t + 3) 0 0 49) u1 3)) t 4 ((uI (cI (cI (cI I (u1 + 1) (t + 1) 0 0 7) (u1 + 2) (t + 2) 0 0 7) (u1 + 3) (t + 3) 0 0 49) t 3 ((cI (cI (cI I (u1 + 1) (t + 1) 0 0 7) (u1 + 2) (t + 2) 0 0 7) (u1 + 3) (t + 3) 0 0 49) u1 3)) u1 4)) u1 5)) u1 6)) u1 7)) u1 8)) u1 9)) J) : Cl G mX9_become (n + 1) 0 0 [.ref (gb G + t), .ref (gb G + u1)] Z I J (qv Z K) :=
  Cl.of (by decide +kernel) (Nat.le_of_ble_eq_true rfl) (rX9_become_0 ht hu1 h)
