set_option maxRecDepth 4000 in
theorem rX6_isRow_0 {G : jdG} {n rc rs : Nat} {Z : jdL} {I : jdI} {J : jdJ} {K : Int32 → jdI → jdJ → Prop} {t : Nat} (ht : zShelf Z t) (h : (((I t 1) = (-1) → K 0 I J) ∧ (¬ (I t 1) = (-1) → K 1 I J))) : Jd G mX6_isRow (jdFm G (qi Z K)) n rc rs 0 [(0, .ref (gb G + t))] [] Z I J := by
  refine jd_aload_n (pc := 0) 0 dX6_isRow_0 rfl rfl ?_
  refine jd_getI (pc := 1) (ci := 5) (k := 1) gX6_15 ht.1 rfl dX6_isRow_1 ?_
  refine jd_iconst (pc := 4) (v := (-1)) dX6_isRow_4 (by decide) ?_
  refine jd_icmp_eq (pc := 5) 12 dX6_isRow_5 (by decide) (fun hc => ?_) (fun hc => ?_)
  · have h := h.1 hc
    refine jd_iconst (pc := 12) (v := 0) dX6_isRow_12 (by decide) ?_
    exact jd_iretK (pc := 13) (ty := .boolean) rfl (by decide) dX6_isRow_13 h
  · have h := h.2 hc
    refine jd_iconst (pc := 8) (v := 1) dX6_isRow_8 (by decide) ?_
    refine jd_goto (pc := 9) 13 dX6_isRow_9 (by decide) ?_
    exact jd_iretK (pc := 13) (ty := .boolean) rfl (by decide) dX6_isRow_13 h
theorem eX6_isRow {G : jdG} {n : Nat} {Z : jdL} {I : jdI} {J : jdJ} {K : Int32 → jdI → jdJ → Prop} {t : Nat} (ht : zShelf Z t) (h : (((I t 1) = (-1) → K 0 I J) ∧ (¬ (I t 1) = (-1) → K 1 I J))) : Cl G mX6_isRow (n) 0 0 [.ref (gb G + t)] Z I J (qi Z K) :=
  Cl.of (by decide +kernel) (Nat.le_of_ble_eq_true rfl) (rX6_isRow_0 ht h)
set_option maxRecDepth 4000 in
theorem rX6_takeRow_0 {G : jdG} {n rc rs : Nat} {Z : jdL} {I : jdI} {J : jdJ} {Q : jdQ} {t : Nat} {x1 : Int32} {x2 : Int32} (ht : zShelf Z t) (h : (zShelf (uP Z t 3 none) t ∧ Jd G mX6_takeRow (jdFm G Q) n rc rs 17 [(0, .ref (gb G + t)), (1, .int x1), (2, .int x2), (3, .int 0)] [] (uP Z t 3 none) (uI (uI I t 1 x1) t 2 x2) J)) : Jd G mX6_takeRow (jdFm G Q) n rc rs 0 [(0, .ref (gb G + t)), (1, .int x1), (2, .int x2)] [] Z I J := by
  refine jd_aload_n (pc := 0) 0 dX6_takeRow_0 rfl rfl ?_
  refine jd_null (pc := 1) dX6_takeRow_1 ?_
  refine jd_putN (pc := 2) (ci := 5) (k := 3) pX6_19 ht.1 rfl rfl rfl dX6_takeRow_2 ?_
  obtain ⟨ht, h⟩ := h
  refine jd_aload_n (pc := 5) 0 dX6_takeRow_5 rfl rfl ?_
  refine jd_iload_n (pc := 6) 1 dX6_takeRow_6 rfl rfl ?_
  refine jd_putI (pc := 7) (ci := 5) (k := 1) pX6_15 ht.1 rfl rfl rfl dX6_takeRow_7 ?_
  refine jd_aload_n (pc := 10) 0 dX6_takeRow_10 rfl rfl ?_
  refine jd_iload_n (pc := 11) 2 dX6_takeRow_11 rfl rfl ?_
  refine jd_putI (pc := 12) (ci := 5) (k := 2) pX6_23 ht.1 rfl rfl rfl dX6_takeRow_12 ?_
  refine jd_iconst (pc := 15) (v := 0) dX6_takeRow_15 (by decide) ?_
  refine jd_istore_n (pc := 16) [(3, .int 0), (0, .ref (gb G + t)), (1, .int x1), (2, .int x2)] dX6_takeRow_16 rfl (by decide) rfl ?_
  exact jd_lv (lv2 := [(0, .ref (gb G + t)), (1, .int x1), (2, .int x2), (3, .int 0)]) [1, 2, 3, 0] rfl h
set_option maxRecDepth 4000 in
theorem rX6_takeRow_17 {G : jdG} {n rc rs : Nat} {Z : jdL} {I : jdI} {J : jdJ} {Q : jdQ} {t : Nat} {x1 : Int32} {x2 : Int32} {x3 : Int32} (ht : zShelf Z t) (h : ((40 ≤ x3 → Q none Z I J) ∧ (¬ 40 ≤ x3 → (vp_in x3 40 ∧ Jd G mX6_takeRow (jdFm G Q) n rc rs 17 [(0, .ref (gb G + t)), (1, .int x1), (2, .int x2), (3, .int (x3 + 1))] [] Z I (uJ J (t + 1) (Int32.toNatClampNeg x3) 0))))) : Jd G mX6_takeRow (jdFm G Q) n rc rs 17 [(0, .ref (gb G + t)), (1, .int x1), (2, .int x2), (3, .int x3)] [] Z I J := by
  refine jd_iload_n (pc := 17) 3 dX6_takeRow_17 rfl rfl ?_
  refine jd_bipush (pc := 18) (v := 40) dX6_takeRow_18 (by decide) ?_
  refine jd_icmp_ge (pc := 20) 36 dX6_takeRow_20 (by decide) (fun hc => ?_) (fun hc => ?_)
  · have h := h.1 hc
    exact jd_vret (pc := 36) rfl dX6_takeRow_36 h
  · have h := h.2 hc
    refine jd_aload_n (pc := 23) 0 dX6_takeRow_23 rfl rfl ?_
    refine jd_getR (pc := 24) (ci := 5) (k := 0) (r := (t + 1)) gX6_9 ht.1 rfl (zShelf_p0 ht) dX6_takeRow_24 ?_
    refine jd_iload_n (pc := 27) 3 dX6_takeRow_27 rfl rfl ?_
    refine jd_lconst (pc := 28) (v := 0) dX6_takeRow_28 (by decide) ?_
    obtain ⟨hv1, h⟩ := h
    refine jd_last (pc := 29) (len := 40) (zShelf_a0 ht) hv1 dX6_takeRow_29 ?_
    refine jd_iinc (pc := 30) (v := (x3 + 1)) 3 [(3, .int (x3 + 1)), (0, .ref (gb G + t)), (1, .int x1), (2, .int x2)] dX6_takeRow_30 rfl rfl (by decide) rfl ?_
    refine jd_goto (pc := 33) 17 dX6_takeRow_33 (by decide) ?_
    exact jd_lv (lv2 := [(0, .ref (gb G + t)), (1, .int x1), (2, .int x2), (3, .int (x3 + 1))]) [1, 2, 3, 0] rfl h
theorem eX6_takeRow {G : jdG} {n mc ms : Nat} {Z : jdL} {I : jdI} {J : jdJ} {Q : jdQ} {t : Nat} {x1 : Int32} {x2 : Int32} (ht : zShelf Z t) (h : (zShelf (uP Z t 3 none) t ∧ Jd G mX6_takeRow (jdFm G Q) n mc ms 17 [(0, .ref (gb G + t)), (1, .int x1), (2, .int x2), (3, .int 0)] [] (uP Z t 3 none) (uI (uI I t 1 x1) t 2 x2) J)) : Cl G mX6_takeRow (n) mc ms [.ref (gb G + t), .int x1, .int x2] Z I J Q :=
  Cl.of (by decide +kernel) (Nat.le_of_ble_eq_true rfl) (rX6_takeRow_0 ht h)
set_option maxRecDepth 4000 in
theorem rX6_takeMan_0 {G : jdG} {n rc rs : Nat} {Z : jdL} {I : jdI} {J : jdJ} {Q : jdQ} {t : Nat} {u1 : Nat} (ht : zShelf Z t) (h : (zShelf (uP Z t 3 (some u1)) t ∧ Q none (uP Z t 3 (some u1)) (uI (uI I t 1 (-1)) t 2 0) J)) : Jd G mX6_takeMan (jdFm G Q) n rc rs 0 [(0, .ref (gb G + t)), (1, .ref (gb G + u1))] [] Z I J := by
  refine jd_aload_n (pc := 0) 0 dX6_takeMan_0 rfl rfl ?_
  refine jd_aload_n (pc := 1) 1 dX6_takeMan_1 rfl rfl ?_
  refine jd_putR (pc := 2) (ci := 5) (k := 3) pX6_19 ht.1 rfl rfl rfl dX6_takeMan_2 ?_
  obtain ⟨ht, h⟩ := h
  refine jd_aload_n (pc := 5) 0 dX6_takeMan_5 rfl rfl ?_
  refine jd_iconst (pc := 6) (v := (-1)) dX6_takeMan_6 (by decide) ?_
  refine jd_putI (pc := 7) (ci := 5) (k := 1) pX6_15 ht.1 rfl rfl rfl dX6_takeMan_7 ?_
  refine jd_aload_n (pc := 10) 0 dX6_takeMan_10 rfl rfl ?_
  refine jd_iconst (pc := 11) (v := 0) dX6_takeMan_11 (by decide) ?_
  refine jd_putI (pc := 12) (ci := 5) (k := 2) pX6_23 ht.1 rfl rfl rfl dX6_takeMan_12 ?_
  exact jd_vret (pc := 15) rfl dX6_takeMan_15 h
theorem eX6_takeMan {G : jdG} {n mc ms : Nat} {Z : jdL} {I : jdI} {J : jdJ} {Q : jdQ} {t : Nat} {u1 : Nat} (ht : zShelf Z t) (h : (zShelf (uP Z t 3 (some u1)) t ∧ Q none (uP Z t 3 (some u1)) (uI (uI I t 1 (-1)) t 2 0) J)) : Cl G mX6_takeMan (n) mc ms [.ref (gb G + t), .ref (gb G + u1)] Z I J Q :=
  Cl.of (by decide +kernel) (Nat.le_of_ble_eq_true rfl) (rX6_takeMan_0 ht h)
set_option maxRecDepth 4000 in
theorem rX6_put_0 {G : jdG} {n rc rs : Nat} {Z : jdL} {I : jdI} {J : jdJ} {K : jdI → jdJ → Prop} {t : Nat} {x1 : Int32} {y2 : Int64} (ht : zShelf Z t) (h : ((x1 < 0 → K I J) ∧ (¬ x1 < 0 → (((I t 2) ≤ x1 → K I J) ∧ (¬ (I t 2) ≤ x1 → Cl G mX6_cut n 0 0 [.ref (gb G + t), .long y2] Z I J (ql Z (fun v2 I1 J1 => (vp_in x1 40 ∧ K I1 (uJ J1 (t + 1) (Int32.toNatClampNeg x1) v2))))))))) : Jd G mX6_put (jdFm G (qv Z K)) (n + 1) rc rs 0 [(0, .ref (gb G + t)), (1, .int x1), (2, .long y2)] [] Z I J := by
  refine jd_iload_n (pc := 0) 1 dX6_put_0 rfl rfl ?_
  refine jd_if_lt (pc := 1) 23 dX6_put_1 (by decide) (fun hc => ?_) (fun hc => ?_)
  · have h := h.1 hc
    exact jd_vretK (pc := 23) rfl dX6_put_23 h
  · have h := h.2 hc
    refine jd_iload_n (pc := 4) 1 dX6_put_4 rfl rfl ?_
    refine jd_aload_n (pc := 5) 0 dX6_put_5 rfl rfl ?_
    refine jd_getI (pc := 6) (ci := 5) (k := 2) gX6_23 ht.1 rfl dX6_put_6 ?_
    refine jd_icmp_ge (pc := 9) 23 dX6_put_9 (by decide) (fun hc => ?_) (fun hc => ?_)
    · have h := h.1 hc
      exact jd_vretK (pc := 23) rfl dX6_put_23 h
    · have h := h.2 hc
      refine jd_aload_n (pc := 12) 0 dX6_put_12 rfl rfl ?_
      refine jd_getR (pc := 13) (ci := 5) (k := 0) (r := (t + 1)) gX6_9 ht.1 rfl (zShelf_p0 ht) dX6_put_13 ?_
      refine jd_iload_n (pc := 16) 1 dX6_put_16 rfl rfl ?_
      refine jd_aload_n (pc := 17) 0 dX6_put_17 rfl rfl ?_
      refine jd_lload_n (pc := 18) 2 dX6_put_18 rfl rfl ?_
      refine jd_callVl (pc := 19) (M2 := mX6_cut) (id := t) (ci := 5) (T := TX6) (N := 4) (av := [.long y2]) kX6_cut sX6_cut rfl ht.1 lX6_26 rfl rfl (Nat.le_of_ble_eq_true rfl) dX6_put_19 h ?_
      intro v2 I1 J1 h
      obtain ⟨hv3, h⟩ := h
      refine jd_last (pc := 22) (len := 40) (zShelf_a0 ht) hv3 dX6_put_22 ?_
      exact jd_vretK (pc := 23) rfl dX6_put_23 h
theorem eX6_put {G : jdG} {n : Nat} {Z : jdL} {I : jdI} {J : jdJ} {K : jdI → jdJ → Prop} {t : Nat} {x1 : Int32} {y2 : Int64} (ht : zShelf Z t) (h : ((x1 < 0 → K I J) ∧ (¬ x1 < 0 → (((I t 2) ≤ x1 → K I J) ∧ (¬ (I t 2) ≤ x1 → Cl G mX6_cut n 0 0 [.ref (gb G + t), .long y2] Z I J (ql Z (fun v2 I1 J1 => (vp_in x1 40 ∧ K I1 (uJ J1 (t + 1) (Int32.toNatClampNeg x1) v2))))))))) : Cl G mX6_put (n + 1) 0 0 [.ref (gb G + t), .int x1, .long y2] Z I J (qv Z K) :=
  Cl.of (by decide +kernel) (Nat.le_of_ble_eq_true rfl) (rX6_put_0 ht h)
set_option maxRecDepth 4000 in
theorem rX6_cut_0 {G : jdG} {n rc rs : Nat} {Z : jdL} {I : jdI} {J : jdJ} {K : Int64 → jdI → jdJ → Prop} {t : Nat} {y1 : Int64} (ht : zShelf Z t) (h : ((((I t 1) : Int32).toInt < 0 ∨ 4 < ((I t 1) : Int32).toInt → K y1 I J) ∧ (((I t 1) : Int32).toInt = 0 → K (Int32.toInt64 (Int8.toInt32 (Int32.toInt8 (Int64.toInt32 y1)))) I J) ∧ (((I t 1) : Int32).toInt = 1 → K (Int32.toInt64 (Int16.toInt32 (Int32.toInt16 (Int64.toInt32 y1)))) I J) ∧ (((I t 1) : Int32).toInt = 2 → K (Int32.toInt64 (Int64.toInt32 y1)) I J) ∧ (((I t 1) : Int32).toInt = 3 → K y1 I J) ∧ (((I t 1) : Int32).toInt = 4 → (((lg_cmp y1 0) = 0 → K 0 I J) ∧ (¬ (lg_cmp y1 0) = 0 → K 1 I J))))) : Jd G mX6_cut (jdFm G (ql Z K)) n rc rs 0 [(0, .ref (gb G + t)), (1, .long y1)] [] Z I J := by
  refine jd_aload_n (pc := 0) 0 dX6_cut_0 rfl rfl ?_
  refine jd_getI (pc := 1) (ci := 5) (k := 1) gX6_15 ht.1 rfl dX6_cut_1 ?_
  by_cases hs : ((I t 1) : Int32).toInt < 0 ∨ 4 < ((I t 1) : Int32).toInt
  · have h := h.1 hs
    refine jd_tableOut (pc := 4) 66 dX6_cut_4 hs (by decide) ?_
    refine jd_lload_n (pc := 66) 1 dX6_cut_66 rfl rfl ?_
    exact jd_lretK (pc := 67) rfl dX6_cut_67 h
  · have h := h.2
    have hs2 : ((I t 1) : Int32).toInt = 0 ∨ ((I t 1) : Int32).toInt = 1 ∨ ((I t 1) : Int32).toInt = 2 ∨ ((I t 1) : Int32).toInt = 3 ∨ ((I t 1) : Int32).toInt = 4 := by omega
    rcases hs2 with hq | hq | hq | hq | hq
    · have h := h.1 hq
      refine jd_tableIn (pc := 4) 40 dX6_cut_4 (by omega) (by omega) (by rw [hq]; rfl) (by decide) ?_
      refine jd_lload_n (pc := 40) 1 dX6_cut_40 rfl rfl ?_
      refine jd_l2i (pc := 41) dX6_cut_41 ?_
      refine jd_i2b (pc := 42) dX6_cut_42 ?_
      refine jd_i2l (pc := 43) dX6_cut_43 ?_
      exact jd_lretK (pc := 44) rfl dX6_cut_44 h
    · have h := h.2.1 hq
      refine jd_tableIn (pc := 4) 45 dX6_cut_4 (by omega) (by omega) (by rw [hq]; rfl) (by decide) ?_
      refine jd_lload_n (pc := 45) 1 dX6_cut_45 rfl rfl ?_
      refine jd_l2i (pc := 46) dX6_cut_46 ?_
      refine jd_i2s (pc := 47) dX6_cut_47 ?_
      refine jd_i2l (pc := 48) dX6_cut_48 ?_
      exact jd_lretK (pc := 49) rfl dX6_cut_49 h
    · have h := h.2.2.1 hq
      refine jd_tableIn (pc := 4) 50 dX6_cut_4 (by omega) (by omega) (by rw [hq]; rfl) (by decide) ?_
      refine jd_lload_n (pc := 50) 1 dX6_cut_50 rfl rfl ?_
      refine jd_l2i (pc := 51) dX6_cut_51 ?_
      refine jd_i2l (pc := 52) dX6_cut_52 ?_
      exact jd_lretK (pc := 53) rfl dX6_cut_53 h
    · have h := h.2.2.2.1 hq
      refine jd_tableIn (pc := 4) 66 dX6_cut_4 (by omega) (by omega) (by rw [hq]; rfl) (by decide) ?_
      refine jd_lload_n (pc := 66) 1 dX6_cut_66 rfl rfl ?_
      exact jd_lretK (pc := 67) rfl dX6_cut_67 h
    · have h := h.2.2.2.2 hq
      refine jd_tableIn (pc := 4) 54 dX6_cut_4 (by omega) (by omega) (by rw [hq]; rfl) (by decide) ?_
      refine jd_lload_n (pc := 54) 1 dX6_cut_54 rfl rfl ?_
      refine jd_lconst (pc := 55) (v := 0) dX6_cut_55 (by decide) ?_
      refine jd_lcmp (pc := 56) dX6_cut_56 ?_
      refine jd_if_eq (pc := 57) 64 dX6_cut_57 (by decide) (fun hc => ?_) (fun hc => ?_)
      · have h := h.1 hc
        refine jd_lconst (pc := 64) (v := 0) dX6_cut_64 (by decide) ?_
        exact jd_lretK (pc := 65) rfl dX6_cut_65 h
      · have h := h.2 hc
        refine jd_lconst (pc := 60) (v := 1) dX6_cut_60 (by decide) ?_
        refine jd_goto (pc := 61) 65 dX6_cut_61 (by decide) ?_
        exact jd_lretK (pc := 65) rfl dX6_cut_65 h
theorem eX6_cut {G : jdG} {n : Nat} {Z : jdL} {I : jdI} {J : jdJ} {K : Int64 → jdI → jdJ → Prop} {t : Nat} {y1 : Int64} (ht : zShelf Z t) (h : ((((I t 1) : Int32).toInt < 0 ∨ 4 < ((I t 1) : Int32).toInt → K y1 I J) ∧ (((I t 1) : Int32).toInt = 0 → K (Int32.toInt64 (Int8.toInt32 (Int32.toInt8 (Int64.toInt32 y1)))) I J) ∧ (((I t 1) : Int32).toInt = 1 → K (Int32.toInt64 (Int16.toInt32 (Int32.toInt16 (Int64.toInt32 y1)))) I J) ∧ (((I t 1) : Int32).toInt = 2 → K (Int32.toInt64 (Int64.toInt32 y1)) I J) ∧ (((I t 1) : Int32).toInt = 3 → K y1 I J) ∧ (((I t 1) : Int32).toInt = 4 → (((lg_cmp y1 0) = 0 → K 0 I J) ∧ (¬ (lg_cmp y1 0) = 0 → K 1 I J))))) : Cl G mX6_cut (n) 0 0 [.ref (gb G + t), .long y1] Z I J (ql Z K) :=
  Cl.of (by decide +kernel) (Nat.le_of_ble_eq_true rfl) (rX6_cut_0 ht h)
