theorem wj_value : Cond.fieldLink RJ0 9 RJ0 "value" "[B" ∈ jdW := (jdW_in (List.mem_of_getElem? (i := 1648) (by decide +kernel)) (by decide +kernel))
theorem wj_coder : Cond.fieldLink RJ0 15 RJ0 "coder" "B" ∈ jdW := (jdW_in (List.mem_of_getElem? (i := 1649) (by decide +kernel)) (by decide +kernel))
theorem wj_cs : Cond.fieldLink RJ0 38 RJ0 "COMPACT_STRINGS" "Z" ∈ jdW := (jdW_in (List.mem_of_getElem? (i := 666) (by decide +kernel)) (by decide +kernel))
theorem wj_sf : Cond.fieldLink RJ0 1053 RJ3 "SIOOBE_FORMATTER" "Ljava/util/function/BiFunction;" ∈ jdW := (jdW_in (List.mem_of_getElem? (i := 682) (by decide +kernel)) (by decide +kernel))
section JK
variable {G : jdG} {M : jdM} {F : jdF} {n rc rs pc : Nat} {lv : List (Nat × Value)} {st : List Value} {Z : jdL} {I : jdI} {J : jdJ}
theorem jd_oget {o nm ds : String} {a index : Nat} {v : Value} (hX : ∀ U, G.2.2.2.2 U → va_OF o nm ds v a (fun q => gb G ≤ q) U G.2.2.1) (hw : Cond.fieldLink M.1.cls index o nm ds ∈ jdW) (hdg : decode M.2.1 pc = .ok (.getfield index, 3)) (kk : Jd G M F n rc rs (pc + 3) lv (v :: st) Z I J) : Jd G M F n rc rs pc lv (.ref a :: st) Z I J := by
  intro p e R s m args below meth c H locs cells slots ls hC hR hL hl h1 h2
  obtain ⟨cf, k, fi, f, cell, q1, q2, q3, q4, q5, q6⟩ := (hX s hC.2.2.2.2.2.2.2.2.1.2.1).kept (jd_old hR)
  exact W.getf hC.1 hC.2.1 hC.2.2.2.2.1 (hC.2.2.2.2.2.1 _ hw) q1 q2 q3 q4 (v := v) q5 rfl rfl hdg (kk p e R s m args below meth c H locs cells slots ls hC hR hL hl h1 h2)
theorem jd_gets {o nm ds : String} {index : Nat} {v : Value} (hX : ∀ U, G.2.2.2.2 U → va_Z o nm ds v (fun q => gb G ≤ q) U G.2.2.1) (hw : Cond.fieldLink M.1.cls index o nm ds ∈ jdW) (hdg : decode M.2.1 pc = .ok (.getstatic index, 3)) (kk : Jd G M F n rc rs (pc + 3) lv (v :: st) Z I J) : Jd G M F n rc rs pc lv st Z I J := by
  intro p e R s m args below meth c H locs cells slots ls hC hR hL hl h1 h2
  obtain ⟨cf, kf, fi, f, a, cell, q1, q2, q3, q4, q5, q6, q7, q8⟩ := (hX s hC.2.2.2.2.2.2.2.2.1.2.1).kept (jd_old hR)
  exact W.gets hC.1 hC.2.1 hC.2.2.2.2.1 (hC.2.2.2.2.2.1 _ hw) q1 q2 q3 q4 q5 (fun e => by rw [e] at q6; cases q6) q7 rfl hdg (kk p e R s m args below meth c H locs cells slots ls hC hR hL hl h1 h2)
theorem jd_getsq {o nm ds : String} {index : Nat} (hX : ∀ U, G.2.2.2.2 U → va_Zq o nm ds (fun q => gb G ≤ q) U G.2.2.1) (hw : Cond.fieldLink M.1.cls index o nm ds ∈ jdW) (hdg : decode M.2.1 pc = .ok (.getstatic index, 3)) (kk : ∀ v : Value, v.category = 1 → Jd G M F n rc rs (pc + 3) lv (v :: st) Z I J) : Jd G M F n rc rs pc lv st Z I J := by
  intro p e R s m args below meth c H locs cells slots ls hC hR hL hl h1 h2
  rcases hX s hC.2.2.2.2.2.2.2.2.1.2.1 with h | ⟨t, h⟩
  · obtain ⟨cf, kf, fi, f, a, cell, q1, q2, q3, q4, q5, q6, q7, q8⟩ := h.kept (jd_old hR)
    exact W.gets hC.1 hC.2.1 hC.2.2.2.2.1 (hC.2.2.2.2.2.1 _ hw) q1 q2 q3 q4 q5 (fun e => by rw [e] at q6; cases q6) q7 rfl hdg (kk .null rfl p e R s m args below meth c H locs cells slots ls hC hR hL hl h1 h2)
  · obtain ⟨cf, kf, fi, f, a, cell, q1, q2, q3, q4, q5, q6, q7, q8⟩ := h.kept (jd_old hR)
    exact W.gets hC.1 hC.2.1 hC.2.2.2.2.1 (hC.2.2.2.2.2.1 _ hw) q1 q2 q3 q4 q5 (fun e => by rw [e] at q6; cases q6) q7 rfl hdg (kk (.ref t) rfl p e R s m args below meth c H locs cells slots ls hC hR hL hl h1 h2)
theorem jd_obald {a N : Nat} {f : Nat → Value} {i : Int32} {v : Value} (hX : ∀ U, G.2.2.2.2 U → va_T .byte a N f (fun q => gb G ≤ q) U G.2.2.1) (hin : vp_in i N) (hv : f i.toNatClampNeg = v) (hdg : decode M.2.1 pc = .ok (.baload, 1)) (kk : Jd G M F n rc rs (pc + 1) lv (v :: st) Z I J) : Jd G M F n rc rs pc lv (.int i :: .ref a :: st) Z I J := by
  intro p e R s m args below meth c H locs cells slots ls hC hR hL hl h1 h2
  obtain ⟨cell, q1, q2, q3, q4, q5, q6, q7⟩ := (hX s hC.2.2.2.2.2.2.2.2.1.2.1).kept (jd_old hR)
  have hlt := vp_lt hin
  exact W.bald hC.1 hC.2.1 q1 q2 q3 (fun h => h.elim (fun h => hin (Or.inl h)) (fun h => by omega)) (by rw [q6 _ hlt, hv]) rfl rfl hdg (kk p e R s m args below meth c H locs cells slots ls hC hR hL hl h1 h2)
theorem jd_oalen {a N : Nat} {f : Nat → Value} (hX : ∀ U, G.2.2.2.2 U → va_T .byte a N f (fun q => gb G ≤ q) U G.2.2.1) (hdg : decode M.2.1 pc = .ok (.arraylength, 1)) (kk : Jd G M F n rc rs (pc + 1) lv (.int (Int32.ofNat N) :: st) Z I J) : Jd G M F n rc rs pc lv (.ref a :: st) Z I J := by
  intro p e R s m args below meth c H locs cells slots ls hC hR hL hl h1 h2
  obtain ⟨cell, q1, q2, q3, q4, q5, q6, q7⟩ := (hX s hC.2.2.2.2.2.2.2.2.1.2.1).kept (jd_old hR)
  exact W.alen hC.1 hC.2.1 q1 q2 q5 rfl rfl hdg (kk p e R s m args below meth c H locs cells slots ls hC hR hL hl h1 h2)
end JK
section JM
variable {G : jdG} {n : Nat} {Z : jdL} {I : jdI} {J : jdJ} {K : Int32 → jdI → jdJ → Prop} {sA sV : Nat → Nat}
theorem v_J0_coder (hG : gOK G sA sV) {i : Nat} (hi : i < 14) (h : K 0 I J) : Cl G mJ0_coder_7d493 n 0 0 [.ref (sA i)] Z I J (qi Z K) := by
  refine Cl.of (by decide +kernel) (Nat.le_of_ble_eq_true rfl) ?_
  refine jd_gets (pc := 0) (v := .int 1) (fun U hU => gOK_cs hG U hU) wj_cs dJ0_coder_7d493_0 ?_
  refine jd_if_eq (pc := 3) 13 dJ0_coder_7d493_3 (by decide) (fun hc => absurd hc (by decide)) (fun _ => ?_)
  refine jd_aload_n (pc := 6) 0 dJ0_coder_7d493_6 rfl rfl ?_
  refine jd_oget (pc := 7) (v := .int 0) (fun U hU => (gOK_O hG hi U hU).2.1) wj_coder dJ0_coder_7d493_7 ?_
  refine jd_goto (pc := 10) 14 dJ0_coder_7d493_10 (by decide) ?_
  exact jd_iretK (pc := 14) (ty := .byte) rfl (by decide) dJ0_coder_7d493_14 h
theorem v_J0_isLatin1 (hG : gOK G sA sV) {i : Nat} (hi : i < 14) (h : K 1 I J) : Cl G mJ0_isLatin1_aae02 n 0 0 [.ref (sA i)] Z I J (qi Z K) := by
  refine Cl.of (by decide +kernel) (Nat.le_of_ble_eq_true rfl) ?_
  refine jd_gets (pc := 0) (v := .int 1) (fun U hU => gOK_cs hG U hU) wj_cs dJ0_isLatin1_aae02_0 ?_
  refine jd_if_eq (pc := 3) 17 dJ0_isLatin1_aae02_3 (by decide) (fun hc => absurd hc (by decide)) (fun _ => ?_)
  refine jd_aload_n (pc := 6) 0 dJ0_isLatin1_aae02_6 rfl rfl ?_
  refine jd_oget (pc := 7) (v := .int 0) (fun U hU => (gOK_O hG hi U hU).2.1) wj_coder dJ0_isLatin1_aae02_7 ?_
  refine jd_if_ne (pc := 10) 17 dJ0_isLatin1_aae02_10 (by decide) (fun hc => absurd rfl hc) (fun _ => ?_)
  refine jd_iconst (pc := 13) (v := 1) dJ0_isLatin1_aae02_13 (by decide) ?_
  refine jd_goto (pc := 14) 18 dJ0_isLatin1_aae02_14 (by decide) ?_
  exact jd_iretK (pc := 18) (ty := .boolean) rfl (by decide) dJ0_isLatin1_aae02_18 h
theorem v_J0_length (hG : gOK G sA sV) {i : Nat} (hi : i < 14) (h : K (Int32.ofNat (sLen.getD (i % 7) 0) >>> ((0 : Int32) &&& 31)) I J) : Cl G mJ0_length_8abf5 (n + 1) 0 0 [.ref (sA i)] Z I J (qi Z K) := by
  refine Cl.of (by decide +kernel) (Nat.le_of_ble_eq_true rfl) ?_
  refine jd_aload_n (pc := 0) 0 dJ0_length_8abf5_0 rfl rfl ?_
  refine jd_oget (pc := 1) (v := .ref (sV i)) (fun U hU => (gOK_O hG hi U hU).2.2.1) wj_value dJ0_length_8abf5_1 ?_
  refine jd_oalen (pc := 4) (fun U hU => (gOK_O hG hi U hU).2.2.2) dJ0_length_8abf5_4 ?_
  refine jd_aload_n (pc := 5) 0 dJ0_length_8abf5_5 rfl rfl ?_
  refine jd_callStr (pc := 6) (M2 := mJ0_coder_7d493) (av := []) (K := fun v I2 J2 => v = 0 ∧ I2 = I ∧ J2 = J) hG hi kJ0_coder_7d493 sJ0_coder_7d493 rfl lJ0_335 rfl rfl (Nat.le_of_ble_eq_true rfl) dJ0_length_8abf5_6 (v_J0_coder hG hi ⟨rfl, rfl, rfl⟩) ?_
  intro v I2 J2 hv
  obtain ⟨rfl, rfl, rfl⟩ := hv
  refine jd_ishr (pc := 9) dJ0_length_8abf5_9 ?_
  exact jd_iretK (pc := 10) (ty := .int) rfl rfl dJ0_length_8abf5_10 h
theorem v_J3_checkIndex {x y : Int32} {v : Value} (hv : v.category = 1) (h0 : ¬ x < 0) (h1 : x < y) (h : K x I J) : Cl G mJ3_checkIndex_8e157 n 0 0 [.int x, .int y, v] Z I J (qi Z K) := by
  refine Cl.of (by decide +kernel) (by
    have e9 : (if v.category = 2 then [Slot.val v, Slot.second] else [Slot.val v]) = [Slot.val v] := if_neg (by omega)
    simp only [lg_sl, List.flatMap_cons, List.flatMap_nil, e9]
    exact Nat.le_of_ble_eq_true rfl) ?_
  refine jd_iload_n (pc := 0) 0 dJ3_checkIndex_8e157_0 rfl rfl ?_
  refine jd_if_lt (pc := 1) 9 dJ3_checkIndex_8e157_1 (by decide) (fun hc => absurd hc h0) (fun _ => ?_)
  refine jd_iload_n (pc := 4) 0 dJ3_checkIndex_8e157_4 rfl rfl ?_
  refine jd_iload_n (pc := 5) 1 dJ3_checkIndex_8e157_5 rfl rfl ?_
  refine jd_icmp_lt (pc := 6) 16 dJ3_checkIndex_8e157_6 (by decide) (fun _ => ?_) (fun hc => absurd h1 hc)
  refine jd_iload_n (pc := 16) 0 dJ3_checkIndex_8e157_16 rfl rfl ?_
  exact jd_iretK (pc := 17) (ty := .int) rfl rfl dJ3_checkIndex_8e157_17 h
theorem v_J0_checkIndex (hG : gOK G sA sV) {x y : Int32} {K : jdI → jdJ → Prop} (h0 : ¬ x < 0) (h1 : x < y) (h : K I J) : Cl G mJ0_checkIndex_df160 (n + 1) 0 0 [.int x, .int y] Z I J (qv Z K) := by
  refine Cl.of (by decide +kernel) (Nat.le_of_ble_eq_true rfl) ?_
  refine jd_iload_n (pc := 0) 0 dJ0_checkIndex_df160_0 rfl rfl ?_
  refine jd_iload_n (pc := 1) 1 dJ0_checkIndex_df160_1 rfl rfl ?_
  refine jd_getsq (pc := 2) (fun U hU => gOK_sf hG U hU) wj_sf dJ0_checkIndex_df160_2 (fun v hv => ?_)
  refine jd_callSi (pc := 5) (M2 := mJ3_checkIndex_8e157) (av := [.int x, .int y, v]) (K := fun _ I2 J2 => I2 = I ∧ J2 = J) kJ3_checkIndex_8e157 sJ3_checkIndex_8e157 lJ0_1059 rfl rfl (Nat.le_of_ble_eq_true rfl) dJ0_checkIndex_df160_5 (v_J3_checkIndex hv h0 h1 ⟨rfl, rfl⟩) ?_
  intro v2 I2 J2 hq
  obtain ⟨rfl, rfl⟩ := hq
  refine jd_pop (pc := 8) dJ0_checkIndex_df160_8 rfl ?_
  exact jd_vretK (pc := 9) rfl dJ0_checkIndex_df160_9 h
theorem v_J1_charAt (hG : gOK G sA sV) {i : Nat} {x c9 : Int32} (hi : i < 14) (h0 : vp_in x (sLen.getD (i % 7) 0)) (h1 : x < Int32.ofNat (sLen.getD (i % 7) 0)) (hc : (((((sByt.getD (i % 7) []).getD x.toNatClampNeg 0) &&& 255).toUInt32 % 65536).toInt32) = c9) (h2 : narrow .char (.int c9) = .int c9) (h : K c9 I J) : Cl G mJ1_charAt_3b067 (n + 1 + 1) 0 0 [.ref (sV i), .int x] Z I J (qi Z K) := by
  refine Cl.of (by decide +kernel) (Nat.le_of_ble_eq_true rfl) ?_
  refine jd_iload_n (pc := 0) 1 dJ1_charAt_3b067_0 rfl rfl ?_
  refine jd_aload_n (pc := 1) 0 dJ1_charAt_3b067_1 rfl rfl ?_
  refine jd_oalen (pc := 2) (fun U hU => (gOK_O hG hi U hU).2.2.2) dJ1_charAt_3b067_2 ?_
  refine jd_callSv (pc := 3) (M2 := mJ0_checkIndex_df160) (av := [.int x, .int (Int32.ofNat (sLen.getD (i % 7) 0))]) (K := fun I2 J2 => I2 = I ∧ J2 = J) kJ0_checkIndex_df160 sJ0_checkIndex_df160 lJ1_9 rfl rfl (Nat.le_of_ble_eq_true rfl) dJ1_charAt_3b067_3 (v_J0_checkIndex hG (fun h => h0 (Or.inl h)) h1 ⟨rfl, rfl⟩) ?_
  intro I2 J2 hq
  obtain ⟨rfl, rfl⟩ := hq
  refine jd_aload_n (pc := 6) 0 dJ1_charAt_3b067_6 rfl rfl ?_
  refine jd_iload_n (pc := 7) 1 dJ1_charAt_3b067_7 rfl rfl ?_
  refine jd_obald (pc := 8) (v := .int ((sByt.getD (i % 7) []).getD x.toNatClampNeg 0)) (fun U hU => (gOK_O hG hi U hU).2.2.2) h0 rfl dJ1_charAt_3b067_8 ?_
  refine jd_sipush (pc := 9) (v := 255) dJ1_charAt_3b067_9 (by decide) ?_
  refine jd_iand (pc := 12) dJ1_charAt_3b067_12 ?_
  refine jd_i2c (pc := 13) (v := c9) dJ1_charAt_3b067_13 hc ?_
  exact jd_iretK (pc := 14) (ty := .char) rfl h2 dJ1_charAt_3b067_14 h
theorem v_J0_charAt (hG : gOK G sA sV) {i : Nat} {x c9 : Int32} (hi : i < 14) (h0 : vp_in x (sLen.getD (i % 7) 0)) (h1 : x < Int32.ofNat (sLen.getD (i % 7) 0)) (hc : (((((sByt.getD (i % 7) []).getD x.toNatClampNeg 0) &&& 255).toUInt32 % 65536).toInt32) = c9) (h2 : narrow .char (.int c9) = .int c9) (h : K c9 I J) : Cl G mJ0_charAt_5068e (n + 1 + 1 + 1) 0 0 [.ref (sA i), .int x] Z I J (qi Z K) := by
  refine Cl.of (by decide +kernel) (Nat.le_of_ble_eq_true rfl) ?_
  refine jd_aload_n (pc := 0) 0 dJ0_charAt_5068e_0 rfl rfl ?_
  refine jd_callStr (pc := 1) (M2 := mJ0_isLatin1_aae02) (av := []) (K := fun v I2 J2 => v = 1 ∧ I2 = I ∧ J2 = J) hG hi kJ0_isLatin1_aae02 sJ0_isLatin1_aae02 rfl lJ0_492 rfl rfl (Nat.le_of_ble_eq_true rfl) dJ0_charAt_5068e_1 (v_J0_isLatin1 hG hi ⟨rfl, rfl, rfl⟩) ?_
  intro v I2 J2 hv
  obtain ⟨rfl, rfl, rfl⟩ := hv
  refine jd_if_eq (pc := 4) 16 dJ0_charAt_5068e_4 (by decide) (fun hc => absurd hc (by decide)) (fun _ => ?_)
  refine jd_aload_n (pc := 7) 0 dJ0_charAt_5068e_7 rfl rfl ?_
  refine jd_oget (pc := 8) (v := .ref (sV i)) (fun U hU => (gOK_O hG hi U hU).2.2.1) wj_value dJ0_charAt_5068e_8 ?_
  refine jd_iload_n (pc := 11) 1 dJ0_charAt_5068e_11 rfl rfl ?_
  refine jd_callSi (pc := 12) (M2 := mJ1_charAt_3b067) (av := [.ref (sV i), .int x]) (K := fun v I3 J3 => v = c9 ∧ I3 = I2 ∧ J3 = J2) kJ1_charAt_3b067 sJ1_charAt_3b067 lJ0_495 rfl rfl (Nat.le_of_ble_eq_true rfl) dJ0_charAt_5068e_12 (v_J1_charAt hG hi h0 h1 hc h2 ⟨rfl, rfl, rfl⟩) ?_
  intro v I3 J3 hv
  obtain ⟨rfl, rfl, rfl⟩ := hv
  exact jd_iretK (pc := 15) (ty := .char) rfl h2 dJ0_charAt_5068e_15 h
theorem v_number {t : Nat} (ht : zMan Z t) (h : K (I t 0) I J) : Cl G mX2_number n 0 0 [.ref (gb G + t)] Z I J (qi Z K) := by
  refine Cl.of (by decide +kernel) (Nat.le_of_ble_eq_true rfl) ?_
  refine jd_aload_n (pc := 0) 0 dX2_number_0 rfl rfl ?_
  obtain ⟨ci, hci, hT⟩ := ht
  rcases hci with rfl | rfl | rfl | rfl | rfl
  · exact jd_getI (pc := 1) (ci := 0) (k := 0) gX2_7_0 hT rfl dX2_number_1 (jd_iretK (pc := 4) rfl rfl dX2_number_4 h)
  · exact jd_getI (pc := 1) (ci := 1) (k := 0) gX2_7_1 hT rfl dX2_number_1 (jd_iretK (pc := 4) rfl rfl dX2_number_4 h)
  · exact jd_getI (pc := 1) (ci := 3) (k := 0) gX2_7_3 hT rfl dX2_number_1 (jd_iretK (pc := 4) rfl rfl dX2_number_4 h)
  · exact jd_getI (pc := 1) (ci := 6) (k := 0) gX2_7_6 hT rfl dX2_number_1 (jd_iretK (pc := 4) rfl rfl dX2_number_4 h)
  · exact jd_getI (pc := 1) (ci := 9) (k := 0) gX2_7_9 hT rfl dX2_number_1 (jd_iretK (pc := 4) rfl rfl dX2_number_4 h)

/-- the number of a class's kind, and whether it is of a kind -/
def kindF : Nat → Int32
  | 0 => 5
  | 1 => 2
  | 3 => 1
  | 6 => 4
  | 9 => 3
  | _ => 0
def isOfF (ci : Nat) (x : Int32) : Int32 := if x = 0 then 1 else if x = 1 then (if ci = 3 ∨ ci = 9 then 1 else 0) else if x = 2 then (if ci = 0 ∨ ci = 1 ∨ ci = 6 then 1 else 0) else if kindF ci = x then 1 else 0
theorem isOfF_out {ci : Nat} {x : Int32} (h : x.toInt < 0 ∨ 2 < x.toInt) : isOfF ci x = if kindF ci = x then 1 else 0 := by
  have h0 : ¬ x = 0 := fun e => by subst e; revert h; decide
  have h1 : ¬ x = 1 := fun e => by subst e; revert h; decide
  have h2 : ¬ x = 2 := fun e => by subst e; revert h; decide
  unfold isOfF
  rw [if_neg h0, if_neg h1, if_neg h2]
theorem i32_of {x : Int32} {k : Int} {y : Int32} (h : x.toInt = k) (hy : y.toInt = k) : x = y := Int32.toInt_inj.mp (h.trans hy.symm)
theorem v_isOf_0 (hG : gOK G sA sV) {t : Nat} {x : Int32} (hT : Z.1 t = some (0 + 10, 0)) (h : K (isOfF 0 x) I J) : Cl G mX2_isOf (n + 1) 0 0 [.ref (gb G + t), .int x] Z I J (qi Z K) := by
  refine Cl.of (by decide +kernel) (Nat.le_of_ble_eq_true rfl) ?_
  refine jd_iload_n (pc := 0) 1 dX2_isOf_0 rfl rfl ?_
  by_cases hs : x.toInt < 0 ∨ 2 < x.toInt
  · refine jd_tableOut (pc := 1) 40 dX2_isOf_1 hs (by decide) ?_
    rw [isOfF_out hs] at h
    refine jd_aload_n (pc := 40) 0 dX2_isOf_40 rfl rfl ?_
    refine jd_vkind (pc := 41) (id := t) (av := []) (K := fun v I2 J2 => v = kindF 0 ∧ I2 = I ∧ J2 = J) hG ⟨0, by omega, hT⟩ lX2_17 rfl rfl (Nat.le_of_ble_eq_true rfl) dX2_isOf_41 (fun q hq hq2 => ?_) ?_
    · have e : q.1 = 0 := by
        rw [hT] at hq2
        have e2 : (0 + 10, 0) = (q.1 + 10, 0) := Option.some.inj hq2
        have e3 := congrArg Prod.fst e2
        have e4 : 0 + 10 = q.1 + 10 := e3
        omega
      simp only [a_kind, List.mem_cons, List.not_mem_nil, or_false] at hq
      rcases hq with rfl | rfl | rfl | rfl | rfl
      all_goals first | exact absurd e (by decide) | exact eX0_kind hT ⟨rfl, rfl, rfl⟩
    · intro v I2 J2 hv
      obtain ⟨rfl, rfl, rfl⟩ := hv
      refine jd_iload_n (pc := 44) 1 dX2_isOf_44 rfl rfl ?_
      refine jd_icmp_ne (pc := 45) 52 dX2_isOf_45 (by decide) (fun hc => ?_) (fun hc => ?_)
      · refine jd_iconst (pc := 52) (v := 0) dX2_isOf_52 (by decide) ?_
        rw [if_neg hc] at h
        exact jd_iretK (pc := 53) (ty := .boolean) rfl (by decide) dX2_isOf_53 h
      · refine jd_iconst (pc := 48) (v := 1) dX2_isOf_48 (by decide) ?_
        refine jd_goto (pc := 49) 53 dX2_isOf_49 (by decide) ?_
        rw [if_pos hc] at h
        exact jd_iretK (pc := 53) (ty := .boolean) rfl (by decide) dX2_isOf_53 h
  · have hs2 : x.toInt = 0 ∨ x.toInt = 1 ∨ x.toInt = 2 := by omega
    rcases hs2 with hq | hq | hq
    · have e := i32_of (y := 0) hq (by decide)
      subst e
      refine jd_tableIn (pc := 1) 28 dX2_isOf_1 (by decide) (by decide) rfl (by decide) ?_
      refine jd_iconst (pc := 28) (v := 1) dX2_isOf_28 (by decide) ?_
      exact jd_iretK (pc := 29) (ty := .boolean) rfl (by decide) dX2_isOf_29 h
    · have e := i32_of (y := 1) hq (by decide)
      subst e
      refine jd_tableIn (pc := 1) 30 dX2_isOf_1 (by decide) (by decide) rfl (by decide) ?_
      refine jd_aload_n (pc := 30) 0 dX2_isOf_30 rfl rfl ?_
      refine jd_instNo (pc := 31) (C := RX0) (ci := 0) (T := TX0) (N := 1) (nm := RX4) hX2_13 (fun U hU => (gOK_ncast hG U hU).1) rfl hT dX2_isOf_31 ?_
      exact jd_iretK (pc := 34) (ty := .boolean) rfl (by decide) dX2_isOf_34 h
    · have e := i32_of (y := 2) hq (by decide)
      subst e
      refine jd_tableIn (pc := 1) 35 dX2_isOf_1 (by decide) (by decide) rfl (by decide) ?_
      refine jd_aload_n (pc := 35) 0 dX2_isOf_35 rfl rfl ?_
      refine jd_instY (pc := 36) (C := RX0) (ci := 0) (T := TX0) (N := 1) (nm := RX1) hX2_15 (fun U hU => (gOK_cast hG U hU).2.1) rfl hT dX2_isOf_36 ?_
      exact jd_iretK (pc := 39) (ty := .boolean) rfl (by decide) dX2_isOf_39 h
theorem v_isOf_1 (hG : gOK G sA sV) {t : Nat} {x : Int32} (hT : Z.1 t = some (1 + 10, 0)) (h : K (isOfF 1 x) I J) : Cl G mX2_isOf (n + 1) 0 0 [.ref (gb G + t), .int x] Z I J (qi Z K) := by
  refine Cl.of (by decide +kernel) (Nat.le_of_ble_eq_true rfl) ?_
  refine jd_iload_n (pc := 0) 1 dX2_isOf_0 rfl rfl ?_
  by_cases hs : x.toInt < 0 ∨ 2 < x.toInt
  · refine jd_tableOut (pc := 1) 40 dX2_isOf_1 hs (by decide) ?_
    rw [isOfF_out hs] at h
    refine jd_aload_n (pc := 40) 0 dX2_isOf_40 rfl rfl ?_
    refine jd_vkind (pc := 41) (id := t) (av := []) (K := fun v I2 J2 => v = kindF 1 ∧ I2 = I ∧ J2 = J) hG ⟨1, by omega, hT⟩ lX2_17 rfl rfl (Nat.le_of_ble_eq_true rfl) dX2_isOf_41 (fun q hq hq2 => ?_) ?_
    · have e : q.1 = 1 := by
        rw [hT] at hq2
        have e2 : (1 + 10, 0) = (q.1 + 10, 0) := Option.some.inj hq2
        have e3 := congrArg Prod.fst e2
        have e4 : 1 + 10 = q.1 + 10 := e3
        omega
      simp only [a_kind, List.mem_cons, List.not_mem_nil, or_false] at hq
      rcases hq with rfl | rfl | rfl | rfl | rfl
      all_goals first | exact absurd e (by decide) | exact eX1_kind hT ⟨rfl, rfl, rfl⟩
    · intro v I2 J2 hv
      obtain ⟨rfl, rfl, rfl⟩ := hv
      refine jd_iload_n (pc := 44) 1 dX2_isOf_44 rfl rfl ?_
      refine jd_icmp_ne (pc := 45) 52 dX2_isOf_45 (by decide) (fun hc => ?_) (fun hc => ?_)
      · refine jd_iconst (pc := 52) (v := 0) dX2_isOf_52 (by decide) ?_
        rw [if_neg hc] at h
        exact jd_iretK (pc := 53) (ty := .boolean) rfl (by decide) dX2_isOf_53 h
      · refine jd_iconst (pc := 48) (v := 1) dX2_isOf_48 (by decide) ?_
        refine jd_goto (pc := 49) 53 dX2_isOf_49 (by decide) ?_
        rw [if_pos hc] at h
        exact jd_iretK (pc := 53) (ty := .boolean) rfl (by decide) dX2_isOf_53 h
  · have hs2 : x.toInt = 0 ∨ x.toInt = 1 ∨ x.toInt = 2 := by omega
    rcases hs2 with hq | hq | hq
    · have e := i32_of (y := 0) hq (by decide)
      subst e
      refine jd_tableIn (pc := 1) 28 dX2_isOf_1 (by decide) (by decide) rfl (by decide) ?_
      refine jd_iconst (pc := 28) (v := 1) dX2_isOf_28 (by decide) ?_
      exact jd_iretK (pc := 29) (ty := .boolean) rfl (by decide) dX2_isOf_29 h
    · have e := i32_of (y := 1) hq (by decide)
      subst e
      refine jd_tableIn (pc := 1) 30 dX2_isOf_1 (by decide) (by decide) rfl (by decide) ?_
      refine jd_aload_n (pc := 30) 0 dX2_isOf_30 rfl rfl ?_
      refine jd_instNo (pc := 31) (C := RX1) (ci := 1) (T := TX1) (N := 1) (nm := RX4) hX2_13 (fun U hU => (gOK_ncast hG U hU).2.1) rfl hT dX2_isOf_31 ?_
      exact jd_iretK (pc := 34) (ty := .boolean) rfl (by decide) dX2_isOf_34 h
    · have e := i32_of (y := 2) hq (by decide)
      subst e
      refine jd_tableIn (pc := 1) 35 dX2_isOf_1 (by decide) (by decide) rfl (by decide) ?_
      refine jd_aload_n (pc := 35) 0 dX2_isOf_35 rfl rfl ?_
      refine jd_instS (pc := 36) (C := RX1) (ci := 1) (T := TX1) (N := 1) hX2_15 rfl hT dX2_isOf_36 ?_
      exact jd_iretK (pc := 39) (ty := .boolean) rfl (by decide) dX2_isOf_39 h
theorem v_isOf_3 (hG : gOK G sA sV) {t : Nat} {x : Int32} (hT : Z.1 t = some (3 + 10, 0)) (h : K (isOfF 3 x) I J) : Cl G mX2_isOf (n + 1) 0 0 [.ref (gb G + t), .int x] Z I J (qi Z K) := by
  refine Cl.of (by decide +kernel) (Nat.le_of_ble_eq_true rfl) ?_
  refine jd_iload_n (pc := 0) 1 dX2_isOf_0 rfl rfl ?_
  by_cases hs : x.toInt < 0 ∨ 2 < x.toInt
  · refine jd_tableOut (pc := 1) 40 dX2_isOf_1 hs (by decide) ?_
    rw [isOfF_out hs] at h
    refine jd_aload_n (pc := 40) 0 dX2_isOf_40 rfl rfl ?_
    refine jd_vkind (pc := 41) (id := t) (av := []) (K := fun v I2 J2 => v = kindF 3 ∧ I2 = I ∧ J2 = J) hG ⟨3, by omega, hT⟩ lX2_17 rfl rfl (Nat.le_of_ble_eq_true rfl) dX2_isOf_41 (fun q hq hq2 => ?_) ?_
    · have e : q.1 = 3 := by
        rw [hT] at hq2
        have e2 : (3 + 10, 0) = (q.1 + 10, 0) := Option.some.inj hq2
        have e3 := congrArg Prod.fst e2
        have e4 : 3 + 10 = q.1 + 10 := e3
        omega
      simp only [a_kind, List.mem_cons, List.not_mem_nil, or_false] at hq
      rcases hq with rfl | rfl | rfl | rfl | rfl
      all_goals first | exact absurd e (by decide) | exact eX4_kind hT ⟨rfl, rfl, rfl⟩
    · intro v I2 J2 hv
      obtain ⟨rfl, rfl, rfl⟩ := hv
      refine jd_iload_n (pc := 44) 1 dX2_isOf_44 rfl rfl ?_
      refine jd_icmp_ne (pc := 45) 52 dX2_isOf_45 (by decide) (fun hc => ?_) (fun hc => ?_)
      · refine jd_iconst (pc := 52) (v := 0) dX2_isOf_52 (by decide) ?_
        rw [if_neg hc] at h
        exact jd_iretK (pc := 53) (ty := .boolean) rfl (by decide) dX2_isOf_53 h
      · refine jd_iconst (pc := 48) (v := 1) dX2_isOf_48 (by decide) ?_
        refine jd_goto (pc := 49) 53 dX2_isOf_49 (by decide) ?_
        rw [if_pos hc] at h
        exact jd_iretK (pc := 53) (ty := .boolean) rfl (by decide) dX2_isOf_53 h
  · have hs2 : x.toInt = 0 ∨ x.toInt = 1 ∨ x.toInt = 2 := by omega
    rcases hs2 with hq | hq | hq
    · have e := i32_of (y := 0) hq (by decide)
      subst e
      refine jd_tableIn (pc := 1) 28 dX2_isOf_1 (by decide) (by decide) rfl (by decide) ?_
      refine jd_iconst (pc := 28) (v := 1) dX2_isOf_28 (by decide) ?_
      exact jd_iretK (pc := 29) (ty := .boolean) rfl (by decide) dX2_isOf_29 h
    · have e := i32_of (y := 1) hq (by decide)
      subst e
      refine jd_tableIn (pc := 1) 30 dX2_isOf_1 (by decide) (by decide) rfl (by decide) ?_
      refine jd_aload_n (pc := 30) 0 dX2_isOf_30 rfl rfl ?_
      refine jd_instS (pc := 31) (C := RX4) (ci := 3) (T := TX4) (N := 1) hX2_13 rfl hT dX2_isOf_31 ?_
      exact jd_iretK (pc := 34) (ty := .boolean) rfl (by decide) dX2_isOf_34 h
    · have e := i32_of (y := 2) hq (by decide)
      subst e
      refine jd_tableIn (pc := 1) 35 dX2_isOf_1 (by decide) (by decide) rfl (by decide) ?_
      refine jd_aload_n (pc := 35) 0 dX2_isOf_35 rfl rfl ?_
      refine jd_instNo (pc := 36) (C := RX4) (ci := 3) (T := TX4) (N := 1) (nm := RX1) hX2_15 (fun U hU => (gOK_ncast hG U hU).2.2.2.1) rfl hT dX2_isOf_36 ?_
      exact jd_iretK (pc := 39) (ty := .boolean) rfl (by decide) dX2_isOf_39 h
theorem v_isOf_6 (hG : gOK G sA sV) {t : Nat} {x : Int32} (hT : Z.1 t = some (6 + 10, 0)) (h : K (isOfF 6 x) I J) : Cl G mX2_isOf (n + 1) 0 0 [.ref (gb G + t), .int x] Z I J (qi Z K) := by
  refine Cl.of (by decide +kernel) (Nat.le_of_ble_eq_true rfl) ?_
  refine jd_iload_n (pc := 0) 1 dX2_isOf_0 rfl rfl ?_
  by_cases hs : x.toInt < 0 ∨ 2 < x.toInt
  · refine jd_tableOut (pc := 1) 40 dX2_isOf_1 hs (by decide) ?_
    rw [isOfF_out hs] at h
    refine jd_aload_n (pc := 40) 0 dX2_isOf_40 rfl rfl ?_
    refine jd_vkind (pc := 41) (id := t) (av := []) (K := fun v I2 J2 => v = kindF 6 ∧ I2 = I ∧ J2 = J) hG ⟨6, by omega, hT⟩ lX2_17 rfl rfl (Nat.le_of_ble_eq_true rfl) dX2_isOf_41 (fun q hq hq2 => ?_) ?_
    · have e : q.1 = 6 := by
        rw [hT] at hq2
        have e2 : (6 + 10, 0) = (q.1 + 10, 0) := Option.some.inj hq2
        have e3 := congrArg Prod.fst e2
        have e4 : 6 + 10 = q.1 + 10 := e3
        omega
      simp only [a_kind, List.mem_cons, List.not_mem_nil, or_false] at hq
      rcases hq with rfl | rfl | rfl | rfl | rfl
      all_goals first | exact absurd e (by decide) | exact eX7_kind hT ⟨rfl, rfl, rfl⟩
    · intro v I2 J2 hv
      obtain ⟨rfl, rfl, rfl⟩ := hv
      refine jd_iload_n (pc := 44) 1 dX2_isOf_44 rfl rfl ?_
      refine jd_icmp_ne (pc := 45) 52 dX2_isOf_45 (by decide) (fun hc => ?_) (fun hc => ?_)
      · refine jd_iconst (pc := 52) (v := 0) dX2_isOf_52 (by decide) ?_
        rw [if_neg hc] at h
        exact jd_iretK (pc := 53) (ty := .boolean) rfl (by decide) dX2_isOf_53 h
      · refine jd_iconst (pc := 48) (v := 1) dX2_isOf_48 (by decide) ?_
        refine jd_goto (pc := 49) 53 dX2_isOf_49 (by decide) ?_
        rw [if_pos hc] at h
        exact jd_iretK (pc := 53) (ty := .boolean) rfl (by decide) dX2_isOf_53 h
  · have hs2 : x.toInt = 0 ∨ x.toInt = 1 ∨ x.toInt = 2 := by omega
    rcases hs2 with hq | hq | hq
    · have e := i32_of (y := 0) hq (by decide)
      subst e
      refine jd_tableIn (pc := 1) 28 dX2_isOf_1 (by decide) (by decide) rfl (by decide) ?_
      refine jd_iconst (pc := 28) (v := 1) dX2_isOf_28 (by decide) ?_
      exact jd_iretK (pc := 29) (ty := .boolean) rfl (by decide) dX2_isOf_29 h
    · have e := i32_of (y := 1) hq (by decide)
      subst e
      refine jd_tableIn (pc := 1) 30 dX2_isOf_1 (by decide) (by decide) rfl (by decide) ?_
      refine jd_aload_n (pc := 30) 0 dX2_isOf_30 rfl rfl ?_
      refine jd_instNo (pc := 31) (C := RX7) (ci := 6) (T := TX7) (N := 1) (nm := RX4) hX2_13 (fun U hU => (gOK_ncast hG U hU).2.2.1) rfl hT dX2_isOf_31 ?_
      exact jd_iretK (pc := 34) (ty := .boolean) rfl (by decide) dX2_isOf_34 h
    · have e := i32_of (y := 2) hq (by decide)
      subst e
      refine jd_tableIn (pc := 1) 35 dX2_isOf_1 (by decide) (by decide) rfl (by decide) ?_
      refine jd_aload_n (pc := 35) 0 dX2_isOf_35 rfl rfl ?_
      refine jd_instY (pc := 36) (C := RX7) (ci := 6) (T := TX7) (N := 1) (nm := RX1) hX2_15 (fun U hU => (gOK_cast hG U hU).2.2) rfl hT dX2_isOf_36 ?_
      exact jd_iretK (pc := 39) (ty := .boolean) rfl (by decide) dX2_isOf_39 h
theorem v_isOf_9 (hG : gOK G sA sV) {t : Nat} {x : Int32} (hT : Z.1 t = some (9 + 10, 0)) (h : K (isOfF 9 x) I J) : Cl G mX2_isOf (n + 1) 0 0 [.ref (gb G + t), .int x] Z I J (qi Z K) := by
  refine Cl.of (by decide +kernel) (Nat.le_of_ble_eq_true rfl) ?_
  refine jd_iload_n (pc := 0) 1 dX2_isOf_0 rfl rfl ?_
  by_cases hs : x.toInt < 0 ∨ 2 < x.toInt
  · refine jd_tableOut (pc := 1) 40 dX2_isOf_1 hs (by decide) ?_
    rw [isOfF_out hs] at h
    refine jd_aload_n (pc := 40) 0 dX2_isOf_40 rfl rfl ?_
    refine jd_vkind (pc := 41) (id := t) (av := []) (K := fun v I2 J2 => v = kindF 9 ∧ I2 = I ∧ J2 = J) hG ⟨9, by omega, hT⟩ lX2_17 rfl rfl (Nat.le_of_ble_eq_true rfl) dX2_isOf_41 (fun q hq hq2 => ?_) ?_
    · have e : q.1 = 9 := by
        rw [hT] at hq2
        have e2 : (9 + 10, 0) = (q.1 + 10, 0) := Option.some.inj hq2
        have e3 := congrArg Prod.fst e2
        have e4 : 9 + 10 = q.1 + 10 := e3
        omega
      simp only [a_kind, List.mem_cons, List.not_mem_nil, or_false] at hq
      rcases hq with rfl | rfl | rfl | rfl | rfl
      all_goals first | exact absurd e (by decide) | exact eX10_kind hT ⟨rfl, rfl, rfl⟩
    · intro v I2 J2 hv
      obtain ⟨rfl, rfl, rfl⟩ := hv
      refine jd_iload_n (pc := 44) 1 dX2_isOf_44 rfl rfl ?_
      refine jd_icmp_ne (pc := 45) 52 dX2_isOf_45 (by decide) (fun hc => ?_) (fun hc => ?_)
      · refine jd_iconst (pc := 52) (v := 0) dX2_isOf_52 (by decide) ?_
        rw [if_neg hc] at h
        exact jd_iretK (pc := 53) (ty := .boolean) rfl (by decide) dX2_isOf_53 h
      · refine jd_iconst (pc := 48) (v := 1) dX2_isOf_48 (by decide) ?_
        refine jd_goto (pc := 49) 53 dX2_isOf_49 (by decide) ?_
        rw [if_pos hc] at h
        exact jd_iretK (pc := 53) (ty := .boolean) rfl (by decide) dX2_isOf_53 h
  · have hs2 : x.toInt = 0 ∨ x.toInt = 1 ∨ x.toInt = 2 := by omega
    rcases hs2 with hq | hq | hq
    · have e := i32_of (y := 0) hq (by decide)
      subst e
      refine jd_tableIn (pc := 1) 28 dX2_isOf_1 (by decide) (by decide) rfl (by decide) ?_
      refine jd_iconst (pc := 28) (v := 1) dX2_isOf_28 (by decide) ?_
      exact jd_iretK (pc := 29) (ty := .boolean) rfl (by decide) dX2_isOf_29 h
    · have e := i32_of (y := 1) hq (by decide)
      subst e
      refine jd_tableIn (pc := 1) 30 dX2_isOf_1 (by decide) (by decide) rfl (by decide) ?_
      refine jd_aload_n (pc := 30) 0 dX2_isOf_30 rfl rfl ?_
      refine jd_instY (pc := 31) (C := RX10) (ci := 9) (T := TX10) (N := 1) (nm := RX4) hX2_13 (fun U hU => (gOK_cast hG U hU).1) rfl hT dX2_isOf_31 ?_
      exact jd_iretK (pc := 34) (ty := .boolean) rfl (by decide) dX2_isOf_34 h
    · have e := i32_of (y := 2) hq (by decide)
      subst e
      refine jd_tableIn (pc := 1) 35 dX2_isOf_1 (by decide) (by decide) rfl (by decide) ?_
      refine jd_aload_n (pc := 35) 0 dX2_isOf_35 rfl rfl ?_
      refine jd_instNo (pc := 36) (C := RX10) (ci := 9) (T := TX10) (N := 1) (nm := RX1) hX2_15 (fun U hU => (gOK_ncast hG U hU).2.2.2.2) rfl hT dX2_isOf_36 ?_
      exact jd_iretK (pc := 39) (ty := .boolean) rfl (by decide) dX2_isOf_39 h
end JM
