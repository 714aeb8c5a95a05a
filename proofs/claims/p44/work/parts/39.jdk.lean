theorem wj_value : Cond.fieldLink RJ0 9 RJ0 "value" "[B" ∈ jdW := (jdW_in (List.mem_of_getElem? (i := 1648) (by decide +kernel)) (by decide +kernel))
theorem wj_coder : Cond.fieldLink RJ0 15 RJ0 "coder" "B" ∈ jdW := (jdW_in (List.mem_of_getElem? (i := 1649) (by decide +kernel)) (by decide +kernel))
theorem wj_cs : Cond.fieldLink RJ0 38 RJ0 "COMPACT_STRINGS" "Z" ∈ jdW := (jdW_in (List.mem_of_getElem? (i := 666) (by decide +kernel)) (by decide +kernel))
theorem wj_sf : Cond.fieldLink RJ0 1053 RJ3 "SIOOBE_FORMATTER" "Ljava/util/function/BiFunction;" ∈ jdW := (jdW_in (List.mem_of_getElem? (i := 682) (by decide +kernel)) (by decide +kernel))
section JK
variable {G : jdG} {M : jdM} {F : jdF} {n rc rs pc : Nat} {lv : List (Nat × Value)} {st : List Value} {Z : jdL} {I : jdI} {J : jdJ}
theorem jd_oget {o nm ds : String} {a index : Nat} {v : Value} (hX : ∀ U, G.2.2.2.2 U → va_OF o nm ds v a (fun q => gb G ≤ q) U G.2.2.1) (hw : Cond.fieldLink M.1.cls index o nm ds ∈ jdW) (hdg : decode M.2.1 pc = .ok (.getfield index, 3)) (kk : Jd G M F n rc rs (pc + 3) lv (v :: st) Z I J) : Jd G M F n rc rs pc lv (.ref a :: st) Z I J := by
  intro p e R s m args below meth c H locs cells slots ls hC hR hL hl h1 h2
  obtain ⟨cf, k, fi, f, cell, q1, q2, q3, q4, q5, q6⟩ := (hX s hC.2.2.2.2.2.2.2.2.1.2.1).kept (jd_old hR)
  exact W.getf hC.1 hC.2.1 hC.2.2.2.2.1 (hC.2.2.2.2.2.1 _ hw) q1 q2 q3 q4 (v := v) q5 rfl rfl hdg (kk p e R s m args below meth c H locs cells slots ls hC hR hL hl h1 h2)
theorem jd_gets {o nm ds : String} {index : Nat} {v : Value} (hX : ∀ U, G.2.2.2.2 U → va_Z o nm ds v (fun q => gb G ≤ q) U G.2.2.1) (hw : Cond.fieldLink M.1.cls index o nm ds ∈ jdW) (hdg : decode M.2.1 pc = .ok (.getstatic index, 3)) (kk : Jd G M F n rc rs (pc + 3) lv (v :: st) Z I J) : Jd G M F n rc rs pc lv st Z I J := by
  intro p e R s m args below meth c H locs cells slots ls hC hR hL hl h1 h2
  obtain ⟨cf, kf, fi, f, a, cell, q1, q2, q3, q4, q5, q6, q7, q8⟩ := (hX s hC.2.2.2.2.2.2.2.2.1.2.1).kept (jd_old hR)
  exact W.gets hC.1 hC.2.1 hC.2.2.2.2.1 (hC.2.2.2.2.2.1 _ hw) q1 q2 q3 q4 q5 (fun e => by rw [e] at q6; cases q6) q7 rfl hdg (kk p e R s m args below meth c H locs cells slots ls hC hR hL hl h1 h2)
theorem jd_getsq {o nm ds : String} {index : Nat} (hX : ∀ U, G.2.2.2.2 U → va_Zq o nm ds (fun q => gb G ≤ q) U G.2.2.1) (hw : Cond.fieldLink M.1.cls index o nm ds ∈ jdW) (hdg : decode M.2.1 pc = .ok (.getstatic index, 3)) (kk : ∀ v : Value, v.category = 1 → Jd G M F n rc rs (pc + 3) lv (v :: st) Z I J) : Jd G M F n rc rs pc lv st Z I J := by
  intro p e R s m args below meth c H locs cells slots ls hC hR hL hl h1 h2
  rcases hX s hC.2.2.2.2.2.2.2.2.1.2.1 with h | ⟨t, h⟩
  · obtain ⟨cf, kf, fi, f, a, cell, q1, q2, q3, q4, q5, q6, q7, q8⟩ := h.kept (jd_old hR)
    exact W.gets hC.1 hC.2.1 hC.2.2.2.2.1 (hC.2.2.2.2.2.1 _ hw) q1 q2 q3 q4 q5 (fun e => by rw [e] at q6; cases q6) q7 rfl hdg (kk .null rfl p e R s m args below meth c H locs cells slots ls hC hR hL hl h1 h2)
  · obtain ⟨cf, kf, fi, f, a, cell, q1, q2, q3, q4, q5, q6, q7, q8⟩ := h.kept (jd_old hR)
    exact W.gets hC.1 hC.2.1 hC.2.2.2.2.1 (hC.2.2.2.2.2.1 _ hw) q1 q2 q3 q4 q5 (fun e => by rw [e] at q6; cases q6) q7 rfl hdg (kk (.ref t) rfl p e R s m args below meth c H locs cells slots ls hC hR hL hl h1 h2)
theorem jd_obald {a N : Nat} {f : Nat → Value} {i : Int32} {v : Value} (hX : ∀ U, G.2.2.2.2 U → va_T .byte a N f (fun q => gb G ≤ q) U G.2.2.1) (hin : vp_in i N) (hv : f i.toNatClampNeg = v) (hdg : decode M.2.1 pc = .ok (.baload, 1)) (kk : Jd G M F n rc rs (pc + 1) lv (v :: st) Z I J) : Jd G M F n rc rs pc lv (.int i :: .ref a :: st) Z I J := by
  intro p e R s m args below meth c H locs cells slots ls hC hR hL hl h1 h2
  obtain ⟨cell, q1, q2, q3, q4, q5, q6, q7⟩ := (hX s hC.2.2.2.2.2.2.2.2.1.2.1).kept (jd_old hR)
  have hlt := vp_lt hin
  exact W.bald hC.1 hC.2.1 q1 q2 q3 (fun h => h.elim (fun h => hin (Or.inl h)) (fun h => by omega)) (by rw [q6 _ hlt, hv]) rfl rfl hdg (kk p e R s m args below meth c H locs cells slots ls hC hR hL hl h1 h2)
theorem jd_oalen {a N : Nat} {f : Nat → Value} (hX : ∀ U, G.2.2.2.2 U → va_T .byte a N f (fun q => gb G ≤ q) U G.2.2.1) (hdg : decode M.2.1 pc = .ok (.arraylength, 1)) (kk : Jd G M F n rc rs (pc + 1) lv (.int (Int32.ofNat N) :: st) Z I J) : Jd G M F n rc rs pc lv (.ref a :: st) Z I J := by
  intro p e R s m args below meth c H locs cells slots ls hC hR hL hl h1 h2
  obtain ⟨cell, q1, q2, q3, q4, q5, q6, q7⟩ := (hX s hC.2.2.2.2.2.2.2.2.1.2.1).kept (jd_old hR)
  exact W.alen hC.1 hC.2.1 q1 q2 q5 rfl rfl hdg (kk p e R s m args below meth c H locs cells slots ls hC hR hL hl h1 h2)
end JK
section JM
variable {G : jdG} {n : Nat} {Z : jdL} {I : jdI} {J : jdJ} {K : Int32 → jdI → jdJ → Prop} {sA sV : Nat → Nat}
theorem v_J0_coder (hG : gOK G sA sV) {i : Nat} (hi : i < 14) (h : K 0 I J) : Cl G mJ0_coder_7d493 n 0 0 [.ref (sA i)] Z I J (qi Z K) := by
  refine Cl.of (by decide +kernel) (Nat.le_of_ble_eq_true rfl) ?_
  refine jd_gets (pc := 0) (v := .int 1) (fun U hU => gOK_cs hG U hU) wj_cs dJ0_coder_7d493_0 ?_
  refine jd_if_eq (pc := 3) 13 dJ0_coder_7d493_3 (by decide) (fun hc => absurd hc (by decide)) (fun _ => ?_)
  refine jd_aload_n (pc := 6) 0 dJ0_coder_7d493_6 rfl rfl ?_
  refine jd_oget (pc := 7) (v := .int 0) (fun U hU => (gOK_O hG hi U hU).2.1) wj_coder dJ0_coder_7d493_7 ?_
  refine jd_goto (pc := 10) 14 dJ0_coder_7d493_10 (by decide) ?_
  exact jd_iretK (pc := 14) (ty := .byte) rfl (by decide) dJ0_coder_7d493_14 h
theorem v_J0_isLatin1 (hG : gOK G sA sV) {i : Nat} (hi : i < 14) (h : K 1 I J) : Cl G mJ0_isLatin1_aae02 n 0 0 [.ref (sA i)] Z I J (qi Z K) := by
  refine Cl.of (by decide +kernel) (Nat.le_of_ble_eq_true rfl) ?_
  refine jd_gets (pc := 0) (v := .int 1) (fun U hU => gOK_cs hG U hU) wj_cs dJ0_isLatin1_aae02_0 ?_
  refine jd_if_eq (pc := 3) 17 dJ0_isLatin1_aae02_3 (by decide) (fun hc => absurd hc (by decide)) (fun _ => ?_)
  refine jd_aload_n (pc := 6) 0 dJ0_isLatin1_aae02_6 rfl rfl ?_
  refine jd_oget (pc := 7) (v := .int 0) (fun U hU => (gOK_O hG hi U hU).2.1) wj_coder dJ0_isLatin1_aae02_7 ?_
  refine jd_if_ne (pc := 10) 17 dJ0_isLatin1_aae02_10 (by decide) (fun hc => absurd rfl hc) (fun _ => ?_)
  refine jd_iconst (pc := 13) (v := 1) dJ0_isLatin1_aae02_13 (by decide) ?_
  refine jd_goto (pc := 14) 18 dJ0_isLatin1_aae02_14 (by decide) ?_
  exact jd_iretK (pc := 18) (ty := .boolean) rfl (by decide) dJ0_isLatin1_aae02_18 h
theorem v_J0_length (hG : gOK G sA sV) {i : Nat} (hi : i < 14) (h : K (Int32.ofNat (sLen.getD (i % 7) 0) >>> ((0 : Int32) &&& 31)) I J) : Cl G mJ0_length_8abf5 (n + 1) 0 0 [.ref (sA i)] Z I J (qi Z K) := by
  refine Cl.of (by decide +kernel) (Nat.le_of_ble_eq_true rfl) ?_
  refine jd_aload_n (pc := 0) 0 dJ0_length_8abf5_0 rfl rfl ?_
  refine jd_oget (pc := 1) (v := .ref (sV i)) (fun U hU => (gOK_O hG hi U hU).2.2.1) wj_value dJ0_length_8abf5_1 ?_
  refine jd_oalen (pc := 4) (fun U hU => (gOK_O hG hi U hU).2.2.2) dJ0_length_8abf5_4 ?_
  refine jd_aload_n (pc := 5) 0 dJ0_length_8abf5_5 rfl rfl ?_
  refine jd_callStr (pc := 6) (M2 := mJ0_coder_7d493) (av := []) (K := fun v I2 J2 => v = 0 ∧ I2 = I ∧ J2 = J) hG hi kJ0_coder_7d493 sJ0_coder_7d493 rfl lJ0_335 rfl rfl (Nat.le_of_ble_eq_true rfl) dJ0_length_8abf5_6 (v_J0_coder hG hi ⟨rfl, rfl, rfl⟩) ?_
  intro v I2 J2 hv
  obtain ⟨rfl, rfl, rfl⟩ := hv
  refine jd_ishr (pc := 9) dJ0_length_8abf5_9 ?_
  exact jd_iretK (pc := 10) (ty := .int) rfl rfl dJ0_length_8abf5_10 h
theorem v_J3_checkIndex {x y : Int32} {v : Value} (hv : v.category = 1) (h0 : ¬ x < 0) (h1 : x < y) (h : K x I J) : Cl G mJ3_checkIndex_8e157 n 0 0 [.int x, .int y, v] Z I J (qi Z K) := by
  refine Cl.of (by decide +kernel) (by
    have e9 : (if v.category = 2 then [Slot.val v, Slot.second] else [Slot.val v]) = [Slot.val v] := if_neg (by omega)
    simp only [lg_sl, List.flatMap_cons, List.flatMap_nil, e9]
    exact Nat.le_of_ble_eq_true rfl) ?_
  refine jd_iload_n (pc := 0) 0 dJ3_checkIndex_8e157_0 rfl rfl ?_
  refine jd_if_lt (pc := 1) 9 dJ3_checkIndex_8e157_1 (by decide) (fun hc => absurd hc h0) (fun _ => ?_)
  refine jd_iload_n (pc := 4) 0 dJ3_checkIndex_8e157_4 rfl rfl ?_
  refine jd_iload_n (pc := 5) 1 dJ3_checkIndex_8e157_5 rfl rfl ?_
  refine jd_icmp_lt (pc := 6) 16 dJ3_checkIndex_8e157_6 (by decide) (fun _ => ?_) (fun hc => absurd h1 hc)
  refine jd_iload_n (pc := 16) 0 dJ3_checkIndex_8e157_16 rfl rfl ?_
  exact jd_iretK (pc := 17) (ty := .int) rfl rfl dJ3_checkIndex_8e157_17 h
theorem v_J0_checkIndex (hG : gOK G sA sV) {x y : Int32} {K : jdI → jdJ → Prop} (h0 : ¬ x < 0) (h1 : x < y) (h : K I J) : Cl G mJ0_checkIndex_df160 (n + 1) 0 0 [.int x, .int y] Z I J (qv Z K) := by
  refine Cl.of (by decide +kernel) (Nat.le_of_ble_eq_true rfl) ?_
  refine jd_iload_n (pc := 0) 0 dJ0_checkIndex_df160_0 rfl rfl ?_
  refine jd_iload_n (pc := 1) 1 dJ0_checkIndex_df160_1 rfl rfl ?_
  refine jd_getsq (pc := 2) (fun U hU => gOK_sf hG U hU) wj_sf dJ0_checkIndex_df160_2 (fun v hv => ?_)
  refine jd_callSi (pc := 5) (M2 := mJ3_checkIndex_8e157) (av := [.int x, .int y, v]) (K := fun _ I2 J2 => I2 = I ∧ J2 = J) kJ3_checkIndex_8e157 sJ3_checkIndex_8e157 lJ0_1059 rfl rfl (Nat.le_of_ble_eq_true rfl) dJ0_checkIndex_df160_5 (v_J3_checkIndex hv h0 h1 ⟨rfl, rfl⟩) ?_
  intro v2 I2 J2 hq
  obtain ⟨rfl, rfl⟩ := hq
  refine jd_pop (pc := 8) dJ0_checkIndex_df160_8 rfl ?_
  exact jd_vretK (pc := 9) rfl dJ0_checkIndex_df160_9 h
theorem v_J1_charAt (hG : gOK G sA sV) {i : Nat} {x c9 : Int32} (hi : i < 14) (h0 : vp_in x (sLen.getD (i % 7) 0)) (h1 : x < Int32.ofNat (sLen.getD (i % 7) 0)) (hc : (((((sByt.getD (i % 7) []).getD x.toNatClampNeg 0) &&& 255).toUInt32 % 65536).toInt32) = c9) (h2 : narrow .char (.int c9) = .int c9) (h : K c9 I J) : Cl G mJ1_charAt_3b067 (n + 1 + 1) 0 0 [.ref (sV i), .int x] Z I J (qi Z K) := by
  refine Cl.of (by decide +kernel) (Nat.le_of_ble_eq_true rfl) ?_
  refine jd_iload_n (pc := 0) 1 dJ1_charAt_3b067_0 rfl rfl ?_
  refine jd_aload_n (pc := 1) 0 dJ1_charAt_3b067_1 rfl rfl ?_
  refine jd_oalen (pc := 2) (fun U hU => (gOK_O hG hi U hU).2.2.2) dJ1_charAt_3b067_2 ?_
  refine jd_callSv (pc := 3) (M2 := mJ0_checkIndex_df160) (av := [.int x, .int (Int32.ofNat (sLen.getD (i % 7) 0))]) (K := fun I2 J2 => I2 = I ∧ J2 = J) kJ0_checkIndex_df160 sJ0_checkIndex_df160 lJ1_9 rfl rfl (Nat.le_of_ble_eq_true rfl) dJ1_charAt_3b067_3 (v_J0_checkIndex hG (fun h => h0 (Or.inl h)) h1 ⟨rfl, rfl⟩) ?_
  intro I2 J2 hq
  obtain ⟨rfl, rfl⟩ := hq
  refine jd_aload_n (pc := 6) 0 dJ1_charAt_3b067_6 rfl rfl ?_
  refine jd_iload_n (pc := 7) 1 dJ1_charAt_3b067_7 rfl rfl ?_
  refine jd_obald (pc := 8) (v := .int ((sByt.getD (i % 7) []).getD x.toNatClampNeg 0)) (fun U hU => (gOK_O hG hi U hU).2.2.2) h0 rfl dJ1_charAt_3b067_8 ?_
  refine jd_sipush (pc := 9) (v := 255) dJ1_charAt_3b067_9 (by decide) ?_
  refine jd_iand (pc := 12) dJ1_charAt_3b067_12 ?_
  refine jd_i2c (pc := 13) (v := c9) dJ1_charAt_3b067_13 hc ?_
  exact jd_iretK (pc := 14) (ty := .char) rfl h2 dJ1_charAt_3b067_14 h
theorem v_J0_charAt (hG : gOK G sA sV) {i : Nat} {x c9 : Int32} (hi : i < 14) (h0 : vp_in x (sLen.getD (i % 7) 0)) (h1 : x < Int32.ofNat (sLen.getD (i % 7) 0)) (hc : (((((sByt.getD (i % 7) []).getD x.toNatClampNeg 0) &&& 255).toUInt32 % 65536).toInt32) = c9) (h2 : narrow .char (.int c9) = .int c9) (h : K c9 I J) : Cl G mJ0_charAt_5068e (n + 1 + 1 + 1) 0 0 [.ref (sA i), .int x] Z I J (qi Z K) := by
  refine Cl.of (by decide +kernel) (Nat.le_of_ble_eq_true rfl) ?_
  refine jd_aload_n (pc := 0) 0 dJ0_charAt_5068e_0 rfl rfl ?_
  refine jd_callStr (pc := 1) (M2 := mJ0_isLatin1_aae02) (av := []) (K := fun v I2 J2 => v = 1 ∧ I2 = I ∧ J2 = J) hG hi kJ0_isLatin1_aae02 sJ0_isLatin1_aae02 rfl lJ0_492 rfl rfl (Nat.le_of_ble_eq_true rfl) dJ0_charAt_5068e_1 (v_J0_isLatin1 hG hi ⟨rfl, rfl, rfl⟩) ?_
  intro v I2 J2 hv
  obtain ⟨rfl, rfl, rfl⟩ := hv
  refine jd_if_eq (pc := 4) 16 dJ0_charAt_5068e_4 (by decide) (fun hc => absurd hc (by decide)) (fun _ => ?_)
  refine jd_aload_n (pc := 7) 0 dJ0_charAt_5068e_7 rfl rfl ?_
  refine jd_oget (pc := 8) (v := .ref (sV i)) (fun U hU => (gOK_O hG hi U hU).2.2.1) wj_value dJ0_charAt_5068e_8 ?_
  refine jd_iload_n (pc := 11) 1 dJ0_charAt_5068e_11 rfl rfl ?_
  refine jd_callSi (pc := 12) (M2 := mJ1_charAt_3b067) (av := [.ref (sV i), .int x]) (K := fun v I3 J3 => v = c9 ∧ I3 = I2 ∧ J3 = J2) kJ1_charAt_3b067 sJ1_charAt_3b067 lJ0_495 rfl rfl (Nat.le_of_ble_eq_true rfl) dJ0_charAt_5068e_12 (v_J1_charAt hG hi h0 h1 hc h2 ⟨rfl, rfl, rfl⟩) ?_
  intro v I3 J3 hv
  obtain ⟨rfl, rfl, rfl⟩ := hv
  exact jd_iretK (pc := 15) (ty := .char) rfl h2 dJ0_charAt_5068e_15 h
theorem v_number {t : Nat} (ht : zMan Z t) (h : K (I t 0) I J) : Cl G mX2_number n 0 0 [.ref (gb G + t)] Z I J (qi Z K) := by
  refine Cl.of (by decide +kernel) (Nat.le_of_ble_eq_true rfl) ?_
  refine jd_aload_n (pc := 0) 0 dX2_number_0 rfl rfl ?_
  obtain ⟨ci, hci, hT⟩ := ht
  rcases hci with rfl | rfl | rfl | rfl | rfl
  · exact jd_getI (pc := 1) (ci := 0) (k := 0) gX2_7_0 hT rfl dX2_number_1 (jd_iretK (pc := 4) rfl rfl dX2_number_4 h)
  · exact jd_getI (pc := 1) (ci := 1) (k := 0) gX2_7_1 hT rfl dX2_number_1 (jd_iretK (pc := 4) rfl rfl dX2_number_4 h)
  · exact jd_getI (pc := 1) (ci := 3) (k := 0) gX2_7_3 hT rfl dX2_number_1 (jd_iretK (pc := 4) rfl rfl dX2_number_4 h)
  · exact jd_getI (pc := 1) (ci := 6) (k := 0) gX2_7_6 hT rfl dX2_number_1 (jd_iretK (pc := 4) rfl rfl dX2_number_4 h)
  · exact jd_getI (pc := 1) (ci := 9) (k := 0) gX2_7_9 hT rfl dX2_number_1 (jd_iretK (pc := 4) rfl rfl dX2_number_4 h)

/-- the number of a class's kind, and whether it is of a kind -/
def kindF : Nat → Int32
  | 0 => 5
  | 1 => 2
  | 3 => 1
  | 6 => 4
  | 9 => 3
  | _ => 0
def isOfF (ci : Nat) (x : Int32) : Int32 := if x = 0 then 1 else if x = 1 then (if ci = 3 ∨ ci = 9 then 1 else 0) else if x = 2 then (if ci = 0 ∨ ci = 1 ∨ ci = 6 then 1 else 0) else if kindF ci = x then 1 else 0
theorem isOfF_out {ci : Nat} {x : Int32} (h : x.toInt < 0 ∨ 2 < x.toInt) : isOfF ci x = if kindF ci = x then 1 else 0 := by
  have h0 : ¬ x = 0 := fun e => by subst e; revert h; decide
  have h1 : ¬ x = 1 := fun e => by subst e; revert h; decide
  have h2 : ¬ x = 2 := fun e => by subst e; revert h; decide
  unfold isOfF
  rw [if_neg h0, if_neg h1, if_neg h2]
theorem i32_of {x : Int32} {k : Int} {y : Int32} (h : x.toInt = k) (hy : y.toInt = k) : x = y := Int32.toInt_inj.mp (h.trans hy.symm)
theorem v_isOf_0 (hG : gOK G sA sV) {t : Nat} {x : Int32} (hT : Z.1 t = some (0 + 10, 0)) (h : K (isOfF 0 x) I J) : Cl G mX2_isOf (n + 1) 0 0 [.ref (gb G + t), .int x] Z I J (qi Z K) := by
  refine Cl.of (by decide +kernel) (Nat.le_of_ble_eq_true rfl) ?_
  refine jd_iload_n (pc := 0) 1 dX2_isOf_0 rfl rfl ?_
  by_cases hs : x.toInt < 0 ∨ 2 < x.toInt
  · refine jd_tableOut (pc := 1) 40 dX2_isOf_1 hs (by decide) ?_
    rw [isOfF_out hs] at h
    refine jd_aload_n (pc := 40) 0 dX2_isOf_40 rfl rfl ?_
    refine jd_vkind (pc := 41) (id := t) (av := []) (K := fun v I2 J2 => v = kindF 0 ∧ I2 = I ∧ J2 = J) hG ⟨0, by omega, hT⟩ lX2_17 rfl rfl (Nat.le_of_ble_eq_true rfl) dX2_isOf_41 (fun q hq hq2 => ?_) ?_
    · have e : q.1 = 0 := by
        rw [hT] at hq2
        have e2 : (0 + 10, 0) = (q.1 + 10, 0) := Option.some.inj hq2
        have e3 := congrArg Prod.fst e2
        have e4 : 0 + 10 = q.1 + 10 := e3
        omega
      simp only [a_kind, List.mem_cons, List.not_mem_nil, or_false] at hq
      rcases hq with rfl | rfl | rfl | rfl | rfl
      all_goals first | exact absurd e (by decide) | exact eX0_kind hT ⟨rfl, rfl, rfl⟩
    · intro v I2 J2 hv
      obtain ⟨rfl, rfl, rfl⟩ := hv
      refine jd_iload_n (pc := 44) 1 dX2_isOf_44 rfl rfl ?_
      refine jd_icmp_ne (pc := 45) 52 dX2_isOf_45 (by decide) (fun hc => ?_) (fun hc => ?_)
      · refine jd_iconst (pc := 52) (v := 0) dX2_isOf_52 (by decide) ?_
        rw [if_neg hc] at h
        exact jd_iretK (pc := 53) (ty := .boolean) rfl (by decide) dX2_isOf_53 h
      · refine jd_iconst (pc := 48) (v := 1) dX2_isOf_48 (by decide) ?_
        refine jd_goto (pc := 49) 53 dX2_isOf_49 (by decide) ?_
        rw [if_pos hc] at h
        exact jd_iretK (pc := 53) (ty := .boolean) rfl (by decide) dX2_isOf_53 h
  · have hs2 : x.toInt = 0 ∨ x.toInt = 1 ∨ x.toInt = 2 := by omega
    rcases hs2 with hq | hq | hq
    · have e := i32_of (y := 0) hq (by decide)
      subst e
      refine jd_tableIn (pc := 1) 28 dX2_isOf_1 (by decide) (by decide) rfl (by decide) ?_
      refine jd_iconst (pc := 28) (v := 1) dX2_isOf_28 (by decide) ?_
      exact jd_iretK (pc := 29) (ty := .boolean) rfl (by decide) dX2_isOf_29 h
    · have e := i32_of (y := 1) hq (by decide)
      subst e
      refine jd_tableIn (pc := 1) 30 dX2_isOf_1 (by decide) (by decide) rfl (by decide) ?_
      refine jd_aload_n (pc := 30) 0 dX2_isOf_30 rfl rfl ?_
      refine jd_instNo (pc := 31) (C := RX0) (ci := 0) (T := TX0) (N := 1) (nm := RX4) hX2_13 (fun U hU => (gOK_ncast hG U hU).1) rfl hT dX2_isOf_31 ?_
      exact jd_iretK (pc := 34) (ty := .boolean) rfl (by decide) dX2_isOf_34 h
    · have e := i32_of (y := 2) hq (by decide)
      subst e
      refine jd_tableIn (pc := 1) 35 dX2_isOf_1 (by decide) (by decide) rfl (by decide) ?_
      refine jd_aload_n (pc := 35) 0 dX2_isOf_35 rfl rfl ?_
      refine jd_instY (pc := 36) (C := RX0) (ci := 0) (T := TX0) (N := 1) (nm := RX1) hX2_15 (fun U hU => (gOK_cast hG U hU).2.1) rfl hT dX2_isOf_36 ?_
      exact jd_iretK (pc := 39) (ty := .boolean) rfl (by decide) dX2_isOf_39 h
theorem v_isOf_1 (hG : gOK G sA sV) {t : Nat} {x : Int32} (hT : Z.1 t = some (1 + 10, 0)) (h : K (isOfF 1 x) I J) : Cl G mX2_isOf (n + 1) 0 0 [.ref (gb G + t), .int x] Z I J (qi Z K) := by
  refine Cl.of (by decide +kernel) (Nat.le_of_ble_eq_true rfl) ?_
  refine jd_iload_n (pc := 0) 1 dX2_isOf_0 rfl rfl ?_
  by_cases hs : x.toInt < 0 ∨ 2 < x.toInt
  · refine jd_tableOut (pc := 1) 40 dX2_isOf_1 hs (by decide) ?_
    rw [isOfF_out hs] at h
    refine jd_aload_n (pc := 40) 0 dX2_isOf_40 rfl rfl ?_
    refine jd_vkind (pc := 41) (id := t) (av := []) (K := fun v I2 J2 => v = kindF 1 ∧ I2 = I ∧ J2 = J) hG ⟨1, by omega, hT⟩ lX2_17 rfl rfl (Nat.le_of_ble_eq_true rfl) dX2_isOf_41 (fun q hq hq2 => ?_) ?_
    · have e : q.1 = 1 := by
        rw [hT] at hq2
        have e2 : (1 + 10, 0) = (q.1 + 10, 0) := Option.some.inj hq2
        have e3 := congrArg Prod.fst e2
        have e4 : 1 + 10 = q.1 + 10 := e3
        omega
      simp only [a_kind, List.mem_cons, List.not_mem_nil, or_false] at hq
      rcases hq with rfl | rfl | rfl | rfl | rfl
      all_goals first | exact absurd e (by decide) | exact eX1_kind hT ⟨rfl, rfl, rfl⟩
    · intro v I2 J2 hv
      obtain ⟨rfl, rfl, rfl⟩ := hv
      refine jd_iload_n (pc := 44) 1 dX2_isOf_44 rfl rfl ?_
      refine jd_icmp_ne (pc := 45) 52 dX2_isOf_45 (by decide) (fun hc => ?_) (fun hc => ?_)
      · refine jd_iconst (pc := 52) (v := 0) dX2_isOf_52 (by decide) ?_
        rw [if_neg hc] at h
        exact jd_iretK (pc := 53) (ty := .boolean) rfl (by decide) dX2_isOf_53 h
      · refine jd_iconst (pc := 48) (v := 1) dX2_isOf_48 (by decide) ?_
        refine jd_goto (pc := 49) 53 dX2_isOf_49 (by decide) ?_
        rw [if_pos hc] at h
        exact jd_iretK (pc := 53) (ty := .boolean) rfl (by decide) dX2_isOf_53 h
  · have hs2 : x.toInt = 0 ∨ x.toInt = 1 ∨ x.toInt = 2 := by omega
    rcases hs2 with hq | hq | hq
    · have e := i32_of (y := 0) hq (by decide)
      subst e
      refine jd_tableIn (pc := 1) 28 dX2_isOf_1 (by decide) (by decide) rfl (by decide) ?_
      refine jd_iconst (pc := 28) (v := 1) dX2_isOf_28 (by decide) ?_
      exact jd_iretK (pc := 29) (ty := .boolean) rfl (by decide) dX2_isOf_29 h
    · have e := i32_of (y := 1) hq (by decide)
      subst e
      refine jd_tableIn (pc := 1) 30 dX2_isOf_1 (by decide) (by decide) rfl (by decide) ?_
      refine jd_aload_n (pc := 30) 0 dX2_isOf_30 rfl rfl ?_
      refine jd_instNo (pc := 31) (C := RX1) (ci := 1) (T := TX1) (N := 1) (nm := RX4) hX2_13 (fun U hU => (gOK_ncast hG U hU).2.1) rfl hT dX2_isOf_31 ?_
      exact jd_iretK (pc := 34) (ty := .boolean) rfl (by decide) dX2_isOf_34 h
    · have e := i32_of (y := 2) hq (by decide)
      subst e
      refine jd_tableIn (pc := 1) 35 dX2_isOf_1 (by decide) (by decide) rfl (by decide) ?_
      refine jd_aload_n (pc := 35) 0 dX2_isOf_35 rfl rfl ?_
      refine jd_instS (pc := 36) (C := RX1) (ci := 1) (T := TX1) (N := 1) hX2_15 rfl hT dX2_isOf_36 ?_
      exact jd_iretK (pc := 39) (ty := .boolean) rfl (by decide) dX2_isOf_39 h
theorem v_isOf_3 (hG : gOK G sA sV) {t : Nat} {x : Int32} (hT : Z.1 t = some (3 + 10, 0)) (h : K (isOfF 3 x) I J) : Cl G mX2_isOf (n + 1) 0 0 [.ref (gb G + t), .int x] Z I J (qi Z K) := by
  refine Cl.of (by decide +kernel) (Nat.le_of_ble_eq_true rfl) ?_
  refine jd_iload_n (pc := 0) 1 dX2_isOf_0 rfl rfl ?_
  by_cases hs : x.toInt < 0 ∨ 2 < x.toInt
  · refine jd_tableOut (pc := 1) 40 dX2_isOf_1 hs (by decide) ?_
    rw [isOfF_out hs] at h
    refine jd_aload_n (pc := 40) 0 dX2_isOf_40 rfl rfl ?_
    refine jd_vkind (pc := 41) (id := t) (av := []) (K := fun v I2 J2 => v = kindF 3 ∧ I2 = I ∧ J2 = J) hG ⟨3, by omega, hT⟩ lX2_17 rfl rfl (Nat.le_of_ble_eq_true rfl) dX2_isOf_41 (fun q hq hq2 => ?_) ?_
    · have e : q.1 = 3 := by
        rw [hT] at hq2
        have e2 : (3 + 10, 0) = (q.1 + 10, 0) := Option.some.inj hq2
        have e3 := congrArg Prod.fst e2
        have e4 : 3 + 10 = q.1 + 10 := e3
        omega
      simp only [a_kind, List.mem_cons, List.not_mem_nil, or_false] at hq
      rcases hq with rfl | rfl | rfl | rfl | rfl
      all_goals first | exact absurd e (by decide) | exact eX4_kind hT ⟨rfl, rfl, rfl⟩
    · intro v I2 J2 hv
      obtain ⟨rfl, rfl, rfl⟩ := hv
      refine jd_iload_n (pc := 44) 1 dX2_isOf_44 rfl rfl ?_
      refine jd_icmp_ne (pc := 45) 52 dX2_isOf_45 (by decide) (fun hc => ?_) (fun hc => ?_)
      · refine jd_iconst (pc := 52) (v := 0) dX2_isOf_52 (by decide) ?_
        rw [if_neg hc] at h
        exact jd_iretK (pc := 53) (ty := .boolean) rfl (by decide) dX2_isOf_53 h
      · refine jd_iconst (pc := 48) (v := 1) dX2_isOf_48 (by decide) ?_
        refine jd_goto (pc := 49) 53 dX2_isOf_49 (by decide) ?_
        rw [if_pos hc] at h
        exact jd_iretK (pc := 53) (ty := .boolean) rfl (by decide) dX2_isOf_53 h
  · have hs2 : x.toInt = 0 ∨ x.toInt = 1 ∨ x.toInt = 2 := by omega
    rcases hs2 with hq | hq | hq
    · have e := i32_of (y := 0) hq (by decide)
      subst e
      refine jd_tableIn (pc := 1) 28 dX2_isOf_1 (by decide) (by decide) rfl (by decide) ?_
      refine jd_iconst (pc := 28) (v := 1) dX2_isOf_28 (by decide) ?_
      exact jd_iretK (pc := 29) (ty := .boolean) rfl (by decide) dX2_isOf_29 h
    · have e := i32_of (y := 1) hq (by decide)
      subst e
      refine jd_tableIn (pc := 1) 30 dX2_isOf_1 (by decide) (by decide) rfl (by decide) ?_
      refine jd_aload_n (pc := 30) 0 dX2_isOf_30 rfl rfl ?_
      refine jd_instS (pc := 31) (C := RX4) (ci := 3) (T := TX4) (N := 1) hX2_13 rfl hT dX2_isOf_31 ?_
      exact jd_iretK (pc := 34) (ty := .boolean) rfl (by decide) dX2_isOf_34 h
    · have e := i32_of (y := 2) hq (by decide)
      subst e
      refine jd_tableIn (pc := 1) 35 dX2_isOf_1 (by decide) (by decide) rfl (by decide) ?_
      refine jd_aload_n (pc := 35) 0 dX2_isOf_35 rfl rfl ?_
      refine jd_instNo (pc := 36) (C := RX4) (ci := 3) (T := TX4) (N := 1) (nm := RX1) hX2_15 (fun U hU => (gOK_ncast hG U hU).2.2.2.1) rfl hT dX2_isOf_36 ?_
      exact jd_iretK (pc := 39) (ty := .boolean) rfl (by decide) dX2_isOf_39 h
theorem v_isOf_6 (hG : gOK G sA sV) {t : Nat} {x : Int32} (hT : Z.1 t = some (6 + 10, 0)) (h : K (isOfF 6 x) I J) : Cl G mX2_isOf (n + 1) 0 0 [.ref (gb G + t), .int x] Z I J (qi Z K) := by
  refine Cl.of (by decide +kernel) (Nat.le_of_ble_eq_true rfl) ?_
  refine jd_iload_n (pc := 0) 1 dX2_isOf_0 rfl rfl ?_
  by_cases hs : x.toInt < 0 ∨ 2 < x.toInt
  · refine jd_tableOut (pc := 1) 40 dX2_isOf_1 hs (by decide) ?_
    rw [isOfF_out hs] at h
    refine jd_aload_n (pc := 40) 0 dX2_isOf_40 rfl rfl ?_
    refine jd_vkind (pc := 41) (id := t) (av := []) (K := fun v I2 J2 => v = kindF 6 ∧ I2 = I ∧ J2 = J) hG ⟨6, by omega, hT⟩ lX2_17 rfl rfl (Nat.le_of_ble_eq_true rfl) dX2_isOf_41 (fun q hq hq2 => ?_) ?_
    · have e : q.1 = 6 := by
        rw [hT] at hq2
        have e2 : (6 + 10, 0) = (q.1 + 10, 0) := Option.some.inj hq2
        have e3 := congrArg Prod.fst e2
        have e4 : 6 + 10 = q.1 + 10 := e3
        omega
      simp only [a_kind, List.mem_cons, List.not_mem_nil, or_false] at hq
      rcases hq with rfl | rfl | rfl | rfl | rfl
      all_goals first | exact absurd e (by decide) | exact eX7_kind hT ⟨rfl, rfl, rfl⟩
    · intro v I2 J2 hv
      obtain ⟨rfl, rfl, rfl⟩ := hv
      refine jd_iload_n (pc := 44) 1 dX2_isOf_44 rfl rfl ?_
      refine jd_icmp_ne (pc := 45) 52 dX2_isOf_45 (by decide) (fun hc => ?_) (fun hc => ?_)
      · refine jd_iconst (pc := 52) (v := 0) dX2_isOf_52 (by decide) ?_
        rw [if_neg hc] at h
        exact jd_iretK (pc := 53) (ty := .boolean) rfl (by decide) dX2_isOf_53 h
      · refine jd_iconst (pc := 48) (v := 1) dX2_isOf_48 (by decide) ?_
        refine jd_goto (pc := 49) 53 dX2_isOf_49 (by decide) ?_
        rw [if_pos hc] at h
        exact jd_iretK (pc := 53) (ty := .boolean) rfl (by decide) dX2_isOf_53 h
  · have hs2 : x.toInt = 0 ∨ x.toInt = 1 ∨ x.toInt = 2 := by omega
    rcases hs2 with hq | hq | hq
    · have e := i32_of (y := 0) hq (by decide)
      subst e
      refine jd_tableIn (pc := 1) 28 dX2_isOf_1 (by decide) (by decide) rfl (by decide) ?_
      refine jd_iconst (pc := 28) (v := 1) dX2_isOf_28 (by decide) ?_
      exact jd_iretK (pc := 29) (ty := .boolean) rfl (by decide) dX2_isOf_29 h
    · have e := i32_of (y := 1) hq (by decide)
      subst e
      refine jd_tableIn (pc := 1) 30 dX2_isOf_1 (by decide) (by decide) rfl (by decide) ?_
      refine jd_aload_n (pc := 30) 0 dX2_isOf_30 rfl rfl ?_
      refine jd_instNo (pc := 31) (C := RX7) (ci := 6) (T := TX7) (N := 1) (nm := RX4) hX2_13 (fun U hU => (gOK_ncast hG U hU).2.2.1) rfl hT dX2_isOf_31 ?_
      exact jd_iretK (pc := 34) (ty := .boolean) rfl (by decide) dX2_isOf_34 h
    · have e := i32_of (y := 2) hq (by decide)
      subst e
      refine jd_tableIn (pc := 1) 35 dX2_isOf_1 (by decide) (by decide) rfl (by decide) ?_
      refine jd_aload_n (pc := 35) 0 dX2_isOf_35 rfl rfl ?_
      refine jd_instY (pc := 36) (C := RX7) (ci := 6) (T := TX7) (N := 1) (nm := RX1) hX2_15 (fun U hU => (gOK_cast hG U hU).2.2) rfl hT dX2_isOf_36 ?_
      exact jd_iretK (pc := 39) (ty := .boolean) rfl (by decide) dX2_isOf_39 h
theorem v_isOf_9 (hG : gOK G sA sV) {t : Nat} {x : Int32} (hT : Z.1 t = some (9 + 10, 0)) (h : K (isOfF 9 x) I J) : Cl G mX2_isOf (n + 1) 0 0 [.ref (gb G + t), .int x] Z I J (qi Z K) := by
  refine Cl.of (by decide +kernel) (Nat.le_of_ble_eq_true rfl) ?_
  refine jd_iload_n (pc := 0) 1 dX2_isOf_0 rfl rfl ?_
  by_cases hs : x.toInt < 0 ∨ 2 < x.toInt
  · refine jd_tableOut (pc := 1) 40 dX2_isOf_1 hs (by decide) ?_
    rw [isOfF_out hs] at h
    refine jd_aload_n (pc := 40) 0 dX2_isOf_40 rfl rfl ?_
    refine jd_vkind (pc := 41) (id := t) (av := []) (K := fun v I2 J2 => v = kindF 9 ∧ I2 = I ∧ J2 = J) hG ⟨9, by omega, hT⟩ lX2_17 rfl rfl (Nat.le_of_ble_eq_true rfl) dX2_isOf_41 (fun q hq hq2 => ?_) ?_
    · have e : q.1 = 9 := by
        rw [hT] at hq2
        have e2 : (9 + 10, 0) = (q.1 + 10, 0) := Option.some.inj hq2
        have e3 := congrArg Prod.fst e2
        have e4 : 9 + 10 = q.1 + 10 := e3
        omega
      simp only [a_kind, List.mem_cons, List.not_mem_nil, or_false] at hq
      rcases hq with rfl | rfl | rfl | rfl | rfl
      all_goals first | exact absurd e (by decide) | exact eX10_kind hT ⟨rfl, rfl, rfl⟩
    · intro v I2 J2 hv
      obtain ⟨rfl, rfl, rfl⟩ := hv
      refine jd_iload_n (pc := 44) 1 dX2_isOf_44 rfl rfl ?_
      refine jd_icmp_ne (pc := 45) 52 dX2_isOf_45 (by decide) (fun hc => ?_) (fun hc => ?_)
      · refine jd_iconst (pc := 52) (v := 0) dX2_isOf_52 (by decide) ?_
        rw [if_neg hc] at h
        exact jd_iretK (pc := 53) (ty := .boolean) rfl (by decide) dX2_isOf_53 h
      · refine jd_iconst (pc := 48) (v := 1) dX2_isOf_48 (by decide) ?_
        refine jd_goto (pc := 49) 53 dX2_isOf_49 (by decide) ?_
        rw [if_pos hc] at h
        exact jd_iretK (pc := 53) (ty := .boolean) rfl (by decide) dX2_isOf_53 h
  · have hs2 : x.toInt = 0 ∨ x.toInt = 1 ∨ x.toInt = 2 := by omega
    rcases hs2 with hq | hq | hq
    · have e := i32_of (y := 0) hq (by decide)
      subst e
      refine jd_tableIn (pc := 1) 28 dX2_isOf_1 (by decide) (by decide) rfl (by decide) ?_
      refine jd_iconst (pc := 28) (v := 1) dX2_isOf_28 (by decide) ?_
      exact jd_iretK (pc := 29) (ty := .boolean) rfl (by decide) dX2_isOf_29 h
    · have e := i32_of (y := 1) hq (by decide)
      subst e
      refine jd_tableIn (pc := 1) 30 dX2_isOf_1 (by decide) (by decide) rfl (by decide) ?_
      refine jd_aload_n (pc := 30) 0 dX2_isOf_30 rfl rfl ?_
      refine jd_instY (pc := 31) (C := RX10) (ci := 9) (T := TX10) (N := 1) (nm := RX4) hX2_13 (fun U hU => (gOK_cast hG U hU).1) rfl hT dX2_isOf_31 ?_
      exact jd_iretK (pc := 34) (ty := .boolean) rfl (by decide) dX2_isOf_34 h
    · have e := i32_of (y := 2) hq (by decide)
      subst e
      refine jd_tableIn (pc := 1) 35 dX2_isOf_1 (by decide) (by decide) rfl (by decide) ?_
      refine jd_aload_n (pc := 35) 0 dX2_isOf_35 rfl rfl ?_
      refine jd_instNo (pc := 36) (C := RX10) (ci := 9) (T := TX10) (N := 1) (nm := RX1) hX2_15 (fun U hU => (gOK_ncast hG U hU).2.2.2.2) rfl hT dX2_isOf_36 ?_
      exact jd_iretK (pc := 39) (ty := .boolean) rfl (by decide) dX2_isOf_39 h
end JM
def sA (Z : jdL) (t k : Nat) (ty : Nat × Nat) : jdL := uP (nZ Z ty) t k (some Z.2.2)
/-- an outer array of N rows of type ty: N + 1 cells, then the field k of t -/
def mZ (Z : jdL) (kd N : Nat) (ty : Nat × Nat) : jdL := ((fun a => if a = Z.2.2 then some (kd, N) else if Z.2.2 < a ∧ a ≤ Z.2.2 + N then some ty else Z.1 a), (fun a => if a = Z.2.2 then (fun i => if i < N then some (Z.2.2 + 1 + i) else none) else if Z.2.2 < a ∧ a ≤ Z.2.2 + N then (fun _ => none) else Z.2.1 a), Z.2.2 + 1 + N)
def mzI (I : jdI) (b N : Nat) : jdI := fun a => if b < a ∧ a ≤ b + N then (fun _ => 0) else I a
def mzJ (J : jdJ) (b N : Nat) : jdJ := fun a => if b < a ∧ a ≤ b + N then (fun _ => 0) else J a
theorem nZ_T {Z : jdL} {t : Nat} {x ty : Nat × Nat} (h : Z.1 t = some x) (hlt : t < Z.2.2) : (nZ Z ty).1 t = some x := by
  show (if t = Z.2.2 then some ty else Z.1 t) = some x
  rw [if_neg (by omega)]
  exact h
theorem nZ_lt {Z : jdL} {t : Nat} {ty : Nat × Nat} (hlt : t < Z.2.2) : t < (nZ Z ty).2.2 := Nat.lt_succ_of_lt hlt
theorem mZ_T {Z : jdL} {t kd N : Nat} {x ty : Nat × Nat} (h : Z.1 t = some x) (hlt : t < Z.2.2) : (mZ Z kd N ty).1 t = some x := by
  show (if t = Z.2.2 then some (kd, N) else if Z.2.2 < t ∧ t ≤ Z.2.2 + N then some ty else Z.1 t) = some x
  rw [if_neg (by omega), if_neg (by omega)]
  exact h
theorem mZ_lt {Z : jdL} {t kd N : Nat} {ty : Nat × Nat} (hlt : t < Z.2.2) : t < (mZ Z kd N ty).2.2 := by
  show t < Z.2.2 + 1 + N
  omega
section CT
variable {G : jdG} {M : jdM} {F : jdF} {n rc rs pc : Nat} {lv : List (Nat × Value)} {st : List Value} {Z : jdL} {I : jdI} {J : jdJ}
theorem jd_aast {id len r ci N : Nat} {T : u_T} {i : Int32} (hT : Z.1 id = some (4, len)) (hTr : Z.1 r = some (5 + 10, 0)) (hin : vp_in i len) (hdg : decode M.2.1 pc = .ok (.aastore, 1)) (kk : Jd G M F n rc rs (pc + 1) lv st (uP Z id i.toNatClampNeg (some r)) I J) : Jd G M F n rc rs pc lv (.ref (gb G + r) :: .int i :: .ref (gb G + id) :: st) Z I J := by
  intro p e R s m args below meth c H locs cells slots ls hC hR hL hl h1 h2
  have hK := hC.2.2.2.2.2.2.2.2.1.1
  have hat := hR.2.2 id _ hT
  rw [jdc_r _ _ _ _ _ _ _ (by omega) (by omega)] at hat
  have hlt : i.toNatClampNeg < len := vp_lt hin
  have h0 : ¬ i < 0 := fun q => hin (Or.inl q)
  have hv := hR.2.2 r _ hTr
  rw [jdc_o] at hv
  obtain ⟨r', hr', cellV, g1, g2, g3, -⟩ := hv
  have hcls := (hK.1 5 (RX6, TX6, 4) rfl).2
  obtain ⟨kA, comp, k1, k2, k3, -⟩ := (hK.2 4 _ rfl).2
  have hcomp : comp = G.2.1.1 5 := Option.some.inj (k3.symm.trans hcls.1)
  subst hcomp
  obtain ⟨kC, hkC, -⟩ := hcls.2
  refine W.aast hC.1 hC.2.1 hat (fun q h => by cases h) (fun h => by cases h) k1 k2 rfl hkC ⟨h0, by show _ < (arrV _ _ _).slots.size; rw [arrV_size]; exact hlt⟩ g1 (fun q h => by rw [g3] at h; cases h) (by rw [g2]; exact hkC) (by rw [g2]; exact va_assign hcls) rfl rfl hdg fun H1 e1 z oq => ?_
  refine kk p e R s m args below meth c H1 _ cells slots ls hC (jdR_set hR hT z oq rfl rfl (fun j u hj => jdc_uP u hj) ?_) (jd_locs hL) hl h1 h2
  rw [jdc_r _ _ _ _ _ _ _ (by omega) (by omega)]
  show H1[gb G + id]? = some (vp_cell _ _)
  rw [e1, vp_cell_q, vp_cell_q, arrV_store]
  congr 2
  funext q
  by_cases hq : q = i.toNatClampNeg
  · subst hq
    simp [updV, uP, va_up, va_rf]
  · simp [updV, uP, va_up, hq]
end CT
def kTownZ (Z : jdL) (t : Nat) : jdL := (sA (sA (sA Z t 0 (0, 7)) t 1 (0, 7)) t 2 (0, 49))
def kTownI (I : jdI) (t : Nat) : jdI := (uI (uI (zI (zI (zI I (t + 1)) (t + 2)) (t + 3)) t 4 3) t 6 1)
def kTownJ (J : jdJ) (t : Nat) : jdJ := J
set_option maxRecDepth 8000 in
set_option maxHeartbeats 4000000 in
theorem v_X9_init {G : jdG} {n : Nat} {T : Nat → Option (Nat × Nat)} {P : Nat → Nat → Option Nat} {t : Nat} {I : jdI} {J : jdJ} {Q : jdQ} (hT0 : T t = some (8 + 10, 0)) (h : Q none (kTownZ (T, P, t + 1) t) (kTownI I t) (kTownJ J t)) : Cl G mX9_init (n + 1) 3 63 [.ref (gb G + t)] (T, P, t + 1) I J Q := by
  refine Cl.of (by decide +kernel) (Nat.le_of_ble_eq_true rfl) ?_
  have hT : ((T, P, t + 1) : jdL).1 t = some (8 + 10, 0) := hT0
  have hlt : t < ((T, P, t + 1) : jdL).2.2 := Nat.lt_succ_self t
  refine jd_aload_n (pc := 0) 0 dX9_init_0 rfl rfl ?_
  refine jd_objInit (pc := 1) oX9_3 (Nat.le_of_ble_eq_true rfl) dX9_init_1 ?_
  refine jd_aload_n (pc := 4) 0 dX9_init_4 rfl rfl ?_
  refine jd_bipush (pc := 5) (v := 7) dX9_init_5 (by decide) ?_
  refine jd_newI (pc := 7) (rc2 := 2) (rs2 := 56) (len := 7) w_aI (by decide) (by decide) (by decide) (by decide) (by decide) dX9_init_7 ?_
  have hT := nZ_T (ty := (0, 7)) hT hlt
  have hlt := nZ_lt (ty := (0, 7)) hlt
  refine jd_putFR (pc := 9) (ci := 8) (k := 0) rfl pX9_9 hT rfl rfl rfl dX9_init_9 ?_
  refine jd_aload_n (pc := 12) 0 dX9_init_12 rfl rfl ?_
  refine jd_bipush (pc := 13) (v := 7) dX9_init_13 (by decide) ?_
  refine jd_newI (pc := 15) (rc2 := 1) (rs2 := 49) (len := 7) w_aI (by decide) (by decide) (by decide) (by decide) (by decide) dX9_init_15 ?_
  have hT := nZ_T (ty := (0, 7)) hT hlt
  have hlt := nZ_lt (ty := (0, 7)) hlt
  refine jd_putFR (pc := 17) (ci := 8) (k := 1) rfl pX9_15 hT rfl rfl rfl dX9_init_17 ?_
  refine jd_aload_n (pc := 20) 0 dX9_init_20 rfl rfl ?_
  refine jd_bipush (pc := 21) (v := 49) dX9_init_21 (by decide) ?_
  refine jd_newI (pc := 23) (rc2 := 0) (rs2 := 0) (len := 49) w_aI (by decide) (by decide) (by decide) (by decide) (by decide) dX9_init_23 ?_
  have hT := nZ_T (ty := (0, 49)) hT hlt
  have hlt := nZ_lt (ty := (0, 49)) hlt
  refine jd_putFR (pc := 25) (ci := 8) (k := 2) rfl pX9_18 hT rfl rfl rfl dX9_init_25 ?_
  refine jd_aload_n (pc := 28) 0 dX9_init_28 rfl rfl ?_
  refine jd_iconst (pc := 29) (v := 3) dX9_init_29 (by decide) ?_
  refine jd_putI (pc := 30) (ci := 8) (k := 4) pX9_21 hT rfl rfl rfl dX9_init_30 ?_
  refine jd_aload_n (pc := 33) 0 dX9_init_33 rfl rfl ?_
  refine jd_iconst (pc := 34) (v := 1) dX9_init_34 (by decide) ?_
  refine jd_putI (pc := 35) (ci := 8) (k := 6) pX9_25 hT rfl rfl rfl dX9_init_35 ?_
  exact jd_vret (pc := 38) rfl dX9_init_38 h
def kTiesZ (Z : jdL) (t : Nat) : jdL := (sA (sA (sA (sA (sA (sA Z t 0 (0, 8)) t 1 (0, 8)) t 2 (0, 70)) t 3 (0, 70)) t 4 (0, 256)) t 5 (0, 28))
def kTiesI (I : jdI) (t : Nat) : jdI := (zI (zI (zI (zI (zI (zI I (t + 1)) (t + 2)) (t + 3)) (t + 4)) (t + 5)) (t + 6))
def kTiesJ (J : jdJ) (t : Nat) : jdJ := J
set_option maxRecDepth 8000 in
set_option maxHeartbeats 4000000 in
theorem v_X8_init {G : jdG} {n : Nat} {T : Nat → Option (Nat × Nat)} {P : Nat → Nat → Option Nat} {t : Nat} {I : jdI} {J : jdJ} {Q : jdQ} (hT0 : T t = some (7 + 10, 0)) (h : Q none (kTiesZ (T, P, t + 1) t) (kTiesI I t) (kTiesJ J t)) : Cl G mX8_init (n + 1) 6 440 [.ref (gb G + t)] (T, P, t + 1) I J Q := by
  refine Cl.of (by decide +kernel) (Nat.le_of_ble_eq_true rfl) ?_
  have hT : ((T, P, t + 1) : jdL).1 t = some (7 + 10, 0) := hT0
  have hlt : t < ((T, P, t + 1) : jdL).2.2 := Nat.lt_succ_self t
  refine jd_aload_n (pc := 0) 0 dX8_init_0 rfl rfl ?_
  refine jd_objInit (pc := 1) oX8_5 (Nat.le_of_ble_eq_true rfl) dX8_init_1 ?_
  refine jd_aload_n (pc := 4) 0 dX8_init_4 rfl rfl ?_
  refine jd_bipush (pc := 5) (v := 8) dX8_init_5 (by decide) ?_
  refine jd_newI (pc := 7) (rc2 := 5) (rs2 := 432) (len := 8) w_aI (by decide) (by decide) (by decide) (by decide) (by decide) dX8_init_7 ?_
  have hT := nZ_T (ty := (0, 8)) hT hlt
  have hlt := nZ_lt (ty := (0, 8)) hlt
  refine jd_putFR (pc := 9) (ci := 7) (k := 0) rfl pX8_11 hT rfl rfl rfl dX8_init_9 ?_
  refine jd_aload_n (pc := 12) 0 dX8_init_12 rfl rfl ?_
  refine jd_bipush (pc := 13) (v := 8) dX8_init_13 (by decide) ?_
  refine jd_newI (pc := 15) (rc2 := 4) (rs2 := 424) (len := 8) w_aI (by decide) (by decide) (by decide) (by decide) (by decide) dX8_init_15 ?_
  have hT := nZ_T (ty := (0, 8)) hT hlt
  have hlt := nZ_lt (ty := (0, 8)) hlt
  refine jd_putFR (pc := 17) (ci := 7) (k := 1) rfl pX8_15 hT rfl rfl rfl dX8_init_17 ?_
  refine jd_aload_n (pc := 20) 0 dX8_init_20 rfl rfl ?_
  refine jd_bipush (pc := 21) (v := 70) dX8_init_21 (by decide) ?_
  refine jd_newI (pc := 23) (rc2 := 3) (rs2 := 354) (len := 70) w_aI (by decide) (by decide) (by decide) (by decide) (by decide) dX8_init_23 ?_
  have hT := nZ_T (ty := (0, 70)) hT hlt
  have hlt := nZ_lt (ty := (0, 70)) hlt
  refine jd_putFR (pc := 25) (ci := 7) (k := 2) rfl pX8_18 hT rfl rfl rfl dX8_init_25 ?_
  refine jd_aload_n (pc := 28) 0 dX8_init_28 rfl rfl ?_
  refine jd_bipush (pc := 29) (v := 70) dX8_init_29 (by decide) ?_
  refine jd_newI (pc := 31) (rc2 := 2) (rs2 := 284) (len := 70) w_aI (by decide) (by decide) (by decide) (by decide) (by decide) dX8_init_31 ?_
  have hT := nZ_T (ty := (0, 70)) hT hlt
  have hlt := nZ_lt (ty := (0, 70)) hlt
  refine jd_putFR (pc := 33) (ci := 7) (k := 3) rfl pX8_21 hT rfl rfl rfl dX8_init_33 ?_
  refine jd_aload_n (pc := 36) 0 dX8_init_36 rfl rfl ?_
  refine jd_sipush (pc := 37) (v := 256) dX8_init_37 (by decide) ?_
  refine jd_newI (pc := 40) (rc2 := 1) (rs2 := 28) (len := 256) w_aI (by decide) (by decide) (by decide) (by decide) (by decide) dX8_init_40 ?_
  have hT := nZ_T (ty := (0, 256)) hT hlt
  have hlt := nZ_lt (ty := (0, 256)) hlt
  refine jd_putFR (pc := 42) (ci := 7) (k := 4) rfl pX8_24 hT rfl rfl rfl dX8_init_42 ?_
  refine jd_aload_n (pc := 45) 0 dX8_init_45 rfl rfl ?_
  refine jd_bipush (pc := 46) (v := 28) dX8_init_46 (by decide) ?_
  refine jd_newI (pc := 48) (rc2 := 0) (rs2 := 0) (len := 28) w_aI (by decide) (by decide) (by decide) (by decide) (by decide) dX8_init_48 ?_
  have hT := nZ_T (ty := (0, 28)) hT hlt
  have hlt := nZ_lt (ty := (0, 28)) hlt
  refine jd_putFR (pc := 50) (ci := 7) (k := 5) rfl pX8_27 hT rfl rfl rfl dX8_init_50 ?_
  exact jd_vret (pc := 53) rfl dX8_init_53 h
def kDayZ (Z : jdL) (t : Nat) : jdL := (sA (sA (sA (sA Z t 0 (0, 7)) t 1 (0, 7)) t 2 (0, 128)) t 3 (0, 70))
def kDayI (I : jdI) (t : Nat) : jdI := (zI (zI (zI (zI I (t + 1)) (t + 2)) (t + 3)) (t + 4))
def kDayJ (J : jdJ) (t : Nat) : jdJ := J
set_option maxRecDepth 8000 in
set_option maxHeartbeats 4000000 in
theorem v_X3_init {G : jdG} {n : Nat} {T : Nat → Option (Nat × Nat)} {P : Nat → Nat → Option Nat} {t : Nat} {I : jdI} {J : jdJ} {Q : jdQ} (hT0 : T t = some (2 + 10, 0)) (h : Q none (kDayZ (T, P, t + 1) t) (kDayI I t) (kDayJ J t)) : Cl G mX3_init (n + 1) 4 212 [.ref (gb G + t)] (T, P, t + 1) I J Q := by
  refine Cl.of (by decide +kernel) (Nat.le_of_ble_eq_true rfl) ?_
  have hT : ((T, P, t + 1) : jdL).1 t = some (2 + 10, 0) := hT0
  have hlt : t < ((T, P, t + 1) : jdL).2.2 := Nat.lt_succ_self t
  refine jd_aload_n (pc := 0) 0 dX3_init_0 rfl rfl ?_
  refine jd_objInit (pc := 1) oX3_3 (Nat.le_of_ble_eq_true rfl) dX3_init_1 ?_
  refine jd_aload_n (pc := 4) 0 dX3_init_4 rfl rfl ?_
  refine jd_bipush (pc := 5) (v := 7) dX3_init_5 (by decide) ?_
  refine jd_newI (pc := 7) (rc2 := 3) (rs2 := 205) (len := 7) w_aI (by decide) (by decide) (by decide) (by decide) (by decide) dX3_init_7 ?_
  have hT := nZ_T (ty := (0, 7)) hT hlt
  have hlt := nZ_lt (ty := (0, 7)) hlt
  refine jd_putFR (pc := 9) (ci := 2) (k := 0) rfl pX3_9 hT rfl rfl rfl dX3_init_9 ?_
  refine jd_aload_n (pc := 12) 0 dX3_init_12 rfl rfl ?_
  refine jd_bipush (pc := 13) (v := 7) dX3_init_13 (by decide) ?_
  refine jd_newI (pc := 15) (rc2 := 2) (rs2 := 198) (len := 7) w_aI (by decide) (by decide) (by decide) (by decide) (by decide) dX3_init_15 ?_
  have hT := nZ_T (ty := (0, 7)) hT hlt
  have hlt := nZ_lt (ty := (0, 7)) hlt
  refine jd_putFR (pc := 17) (ci := 2) (k := 1) rfl pX3_15 hT rfl rfl rfl dX3_init_17 ?_
  refine jd_aload_n (pc := 20) 0 dX3_init_20 rfl rfl ?_
  refine jd_sipush (pc := 21) (v := 128) dX3_init_21 (by decide) ?_
  refine jd_newI (pc := 24) (rc2 := 1) (rs2 := 70) (len := 128) w_aI (by decide) (by decide) (by decide) (by decide) (by decide) dX3_init_24 ?_
  have hT := nZ_T (ty := (0, 128)) hT hlt
  have hlt := nZ_lt (ty := (0, 128)) hlt
  refine jd_putFR (pc := 26) (ci := 2) (k := 2) rfl pX3_18 hT rfl rfl rfl dX3_init_26 ?_
  refine jd_aload_n (pc := 29) 0 dX3_init_29 rfl rfl ?_
  refine jd_bipush (pc := 30) (v := 70) dX3_init_30 (by decide) ?_
  refine jd_newI (pc := 32) (rc2 := 0) (rs2 := 0) (len := 70) w_aI (by decide) (by decide) (by decide) (by decide) (by decide) dX3_init_32 ?_
  have hT := nZ_T (ty := (0, 70)) hT hlt
  have hlt := nZ_lt (ty := (0, 70)) hlt
  refine jd_putFR (pc := 34) (ci := 2) (k := 3) rfl pX3_23 hT rfl rfl rfl dX3_init_34 ?_
  exact jd_vret (pc := 37) rfl dX3_init_37 h
def kScribeZ (Z : jdL) (t : Nat) : jdL := (sA Z t 0 (0, 250))
def kScribeI (I : jdI) (t : Nat) : jdI := (zI I (t + 1))
def kScribeJ (J : jdJ) (t : Nat) : jdJ := J
set_option maxRecDepth 8000 in
set_option maxHeartbeats 4000000 in
theorem v_X5_init {G : jdG} {n : Nat} {T : Nat → Option (Nat × Nat)} {P : Nat → Nat → Option Nat} {t : Nat} {I : jdI} {J : jdJ} {Q : jdQ} (hT0 : T t = some (4 + 10, 0)) (h : Q none (kScribeZ (T, P, t + 1) t) (kScribeI I t) (kScribeJ J t)) : Cl G mX5_init (n + 1) 1 250 [.ref (gb G + t)] (T, P, t + 1) I J Q := by
  refine Cl.of (by decide +kernel) (Nat.le_of_ble_eq_true rfl) ?_
  have hT : ((T, P, t + 1) : jdL).1 t = some (4 + 10, 0) := hT0
  have hlt : t < ((T, P, t + 1) : jdL).2.2 := Nat.lt_succ_self t
  refine jd_aload_n (pc := 0) 0 dX5_init_0 rfl rfl ?_
  refine jd_objInit (pc := 1) oX5_3 (Nat.le_of_ble_eq_true rfl) dX5_init_1 ?_
  refine jd_aload_n (pc := 4) 0 dX5_init_4 rfl rfl ?_
  refine jd_sipush (pc := 5) (v := 250) dX5_init_5 (by decide) ?_
  refine jd_newI (pc := 8) (rc2 := 0) (rs2 := 0) (len := 250) w_aI (by decide) (by decide) (by decide) (by decide) (by decide) dX5_init_8 ?_
  have hT := nZ_T (ty := (0, 250)) hT hlt
  have hlt := nZ_lt (ty := (0, 250)) hlt
  refine jd_putFR (pc := 10) (ci := 4) (k := 0) rfl pX5_11 hT rfl rfl rfl dX5_init_10 ?_
  exact jd_vret (pc := 13) rfl dX5_init_13 h
def kShelfZ (Z : jdL) (t : Nat) : jdL := (sA Z t 0 (1, 40))
def kShelfI (I : jdI) (t : Nat) : jdI := (uI I t 1 (-1))
def kShelfJ (J : jdJ) (t : Nat) : jdJ := (zJ J (t + 1))
set_option maxRecDepth 8000 in
set_option maxHeartbeats 4000000 in
theorem v_X6_init {G : jdG} {n : Nat} {T : Nat → Option (Nat × Nat)} {P : Nat → Nat → Option Nat} {t : Nat} {I : jdI} {J : jdJ} {Q : jdQ} (hT0 : T t = some (5 + 10, 0)) (h : Q none (kShelfZ (T, P, t + 1) t) (kShelfI I t) (kShelfJ J t)) : Cl G mX6_init (n + 1) 1 40 [.ref (gb G + t)] (T, P, t + 1) I J Q := by
  refine Cl.of (by decide +kernel) (Nat.le_of_ble_eq_true rfl) ?_
  have hT : ((T, P, t + 1) : jdL).1 t = some (5 + 10, 0) := hT0
  have hlt : t < ((T, P, t + 1) : jdL).2.2 := Nat.lt_succ_self t
  refine jd_aload_n (pc := 0) 0 dX6_init_0 rfl rfl ?_
  refine jd_objInit (pc := 1) oX6_3 (Nat.le_of_ble_eq_true rfl) dX6_init_1 ?_
  refine jd_aload_n (pc := 4) 0 dX6_init_4 rfl rfl ?_
  refine jd_bipush (pc := 5) (v := 40) dX6_init_5 (by decide) ?_
  refine jd_newJ (pc := 7) (rc2 := 0) (rs2 := 0) (len := 40) w_aJ (by decide) (by decide) (by decide) (by decide) (by decide) dX6_init_7 ?_
  have hT := nZ_T (ty := (1, 40)) hT hlt
  have hlt := nZ_lt (ty := (1, 40)) hlt
  refine jd_putFR (pc := 9) (ci := 5) (k := 0) rfl pX6_9 hT rfl rfl rfl dX6_init_9 ?_
  refine jd_aload_n (pc := 12) 0 dX6_init_12 rfl rfl ?_
  refine jd_iconst (pc := 13) (v := (-1)) dX6_init_13 (by decide) ?_
  refine jd_putI (pc := 14) (ci := 5) (k := 1) pX6_15 hT rfl rfl rfl dX6_init_14 ?_
  exact jd_vret (pc := 17) rfl dX6_init_17 h
theorem vr_outer (c : ClassId) (N h0 : Nat) : ∀ i : Nat, Jvm.Free.Multi.outerC c N h0 i = arrV c N (fun j => va_rf (if j < i then some (h0 + 1 + j) else none))
  | 0 => by
    show ({ cls := c, slots := Array.replicate N .null, vm := .none } : Cell) = _
    rw [arrV_new]
    refine congrArg (arrV c N) (funext fun j => ?_)
    simp [va_rf]
  | i + 1 => by
    show (Jvm.Free.Multi.outerC c N h0 i).setSlot i (.ref (h0 + 1 + i)) = _
    rw [vr_outer c N h0 i, arrV_store]
    refine congrArg (arrV c N) (funext fun j => ?_)
    by_cases e : j = i
    · subst e
      simp [updV, va_rf]
    · by_cases h : j < i
      · simp [updV, e, h, Nat.lt_succ_of_lt h]
      · simp [updV, e, h, show ¬ j < i + 1 by omega]
theorem jd_multiI {G : jdG} {M : jdM} {F : jdF} {n rc rs pc : Nat} {lv : List (Nat × Value)} {st : List Value} {Z : jdL} {I : jdI} {J : jdJ} {N L index rc2 rs2 : Nat} {x y : Int32} (hw : Cond.classLink M.1.cls index "[[I" ∈ jdW) (ha : Cond.arrayClass .int ∈ jdW) (hX : ∀ U, G.2.2.2.2 U → (Cond.arrayOver (.array .int)).before #[] U = true) (hx : ¬ x < 0) (hy : ¬ y < 0) (hN : x.toNatClampNeg = N) (hL9 : y.toNatClampNeg = L) (h6 : N * 4 ≤ 536870912 ∧ L * 8 ≤ 536870912) (hb1 : 1 + N + rc2 ≤ rc) (hb2 : N + N * L + rs2 ≤ rs) (hdg : decode M.2.1 pc = .ok (.multianewarray index 2, 4)) (kk : Jd G M F n rc2 rs2 (pc + 4) lv (.ref (gb G + Z.2.2) :: st) (mZ Z 2 N (0, L)) (mzI I Z.2.2 N) J) : Jd G M F n rc rs pc lv (.int y :: .int x :: st) Z I J := by
  intro p e R s m args below meth c H locs cells slots ls hC hR hL hl h1 h2
  have hts := hC.2.2.2.2.2.1
  have hK := hC.2.2.2.2.2.2.2.2.1.1
  have hcl := hts _ hw
  rw [show "[[I" = "[" ++ (FieldType.array .int).toString by decide +kernel] at hcl
  subst hN
  subst hL9
  intro T hT Xs
  obtain ⟨vm₁, cA, comp, -, fA, fC, hO, -, X', step⟩ := Jvm.Stand.multianewarray2F Xs hC.1 hC.2.2.2.2.1 hcl (show (Cond.arrayOver (.array .int)).before args s = true from hX s hC.2.2.2.2.2.2.2.2.1.2.1) (hts _ ha) (g := F0 m pc ls (.int y :: .int x :: st)) rfl (by rw [hC.2.1]; exact hdg) rfl hx hy h6.1 (by show _ * 4 ≤ _; omega) (by omega) rfl rfl (by omega) (by omega)
  have ec : comp = G.2.2.2.1 0 := by
    have h9 := (hK.2 0 _ rfl).2
    have h8 : s.vm.findClass ("[" ++ (.int : FieldType).toString) = some (G.2.2.2.1 0) := h9
    exact Option.some.inj (fC.symm.trans h8)
  have ea : cA = G.2.2.2.1 2 := by
    have h9 := (hK.2 2 _ rfl).2
    have h8 : s.vm.findClass ("[" ++ (FieldType.array .int).toString) = some (G.2.2.2.1 2) := h9
    exact Option.some.inj (fA.symm.trans h8)
  subst ec
  subst ea
  generalize hF : Jvm.Free.Multi.fill (T.setVm vm₁) (G.2.2.2.1 2) (G.2.2.2.1 0) x.toNatClampNeg y.toNatClampNeg (defaultValue .int) x.toNatClampNeg = FF at X' step
  have hTh : (T.setVm vm₁).heap = H := hT
  obtain ⟨f1, f2, -, -⟩ := Jvm.Free.Multi.fill_facts (T.setVm vm₁) (G.2.2.2.1 2) (G.2.2.2.1 0) x.toNatClampNeg y.toNatClampNeg (defaultValue .int) x.toNatClampNeg
  rw [hF, hTh] at f1 f2
  have hold : ∀ q : Nat, q < H.size → FF.heap[q]? = H[q]? := fun q hq => by
    have := Jvm.Free.Multi.fill_old (T.setVm vm₁) (G.2.2.2.1 2) (G.2.2.2.1 0) x.toNatClampNeg y.toNatClampNeg (defaultValue .int) (a := q) (by rw [hTh]; exact hq) x.toNatClampNeg
    rw [hF, hTh] at this
    exact this
  have hz : ∀ c : ClassId, Jvm.Free.Multi.innerC c y.toNatClampNeg (defaultValue .int) = vp_cell c (y.toNatClampNeg, .inl (fun _ => 0)) := fun c => by
    show ({ cls := c, slots := Array.replicate y.toNatClampNeg (defaultValue .int), vm := .none } : Cell) = _
    rw [arrV_new]
    rfl
  have hrow : ∀ j : Nat, j < x.toNatClampNeg → FF.heap[H.size + 1 + j]? = some (vp_cell (G.2.2.2.1 0) (y.toNatClampNeg, .inl (fun _ => 0))) := fun j hj => by
    have := Jvm.Free.Multi.fill_inner (T.setVm vm₁) (G.2.2.2.1 2) (G.2.2.2.1 0) x.toNatClampNeg y.toNatClampNeg (defaultValue .int) x.toNatClampNeg j hj
    rw [hF, hTh, hz] at this
    exact this
  have hout : Jvm.Free.Multi.outerC (G.2.2.2.1 2) x.toNatClampNeg H.size x.toNatClampNeg = arrV (G.2.2.2.1 2) x.toNatClampNeg (fun j => va_rf (if j < x.toNatClampNeg then some (H.size + 1 + j) else none)) := vr_outer _ _ _ _
  rw [hout] at f2
  have hsz : H.size = gb G + Z.2.2 := hR.1
  have e9 : T.heap.size = gb G + Z.2.2 := by rw [hT, hsz]
  obtain ⟨t, a1, b1⟩ := kk p e R s m args below meth c FF.heap locs (cells + 1 + x.toNatClampNeg) (slots + x.toNatClampNeg + x.toNatClampNeg * y.toNatClampNeg) ls hC ⟨by
      rw [f1, hsz]
      show gb G + Z.2.2 + 1 + x.toNatClampNeg = gb G + (Z.2.2 + 1 + x.toNatClampNeg)
      omega, fun q hq => (hold q (by omega)).trans (hR.2.1 q hq), fun id u hu => by
      by_cases h8 : id = Z.2.2
      · subst h8
        have e1 : (mZ Z 2 x.toNatClampNeg (0, y.toNatClampNeg)).1 Z.2.2 = some (2, x.toNatClampNeg) := if_pos rfl
        cases e1.symm.trans hu
        rw [jdc_r _ _ _ _ _ _ _ (by omega) (by omega)]
        show FF.heap[gb G + Z.2.2]? = some (vp_cell _ _)
        rw [← hsz, f2, vp_cell_q]
        congr 2
        funext j
        have e2 : (mZ Z 2 x.toNatClampNeg (0, y.toNatClampNeg)).2.1 Z.2.2 j = if j < x.toNatClampNeg then some (Z.2.2 + 1 + j) else none := by
          simp [mZ]
        rw [e2]
        by_cases hj : j < x.toNatClampNeg
        · rw [if_pos hj, if_pos hj, hsz]
          show _ = va_rf (some (gb G + (Z.2.2 + 1 + j)))
          rw [show gb G + Z.2.2 + 1 + j = gb G + (Z.2.2 + 1 + j) by omega]
        · rw [if_neg hj, if_neg hj]
          rfl
      · by_cases h7 : Z.2.2 < id ∧ id ≤ Z.2.2 + x.toNatClampNeg
        · have e1 : (mZ Z 2 x.toNatClampNeg (0, y.toNatClampNeg)).1 id = some (0, y.toNatClampNeg) := by
            show (if id = Z.2.2 then _ else if _ then _ else _) = _
            rw [if_neg h8, if_pos h7]
          cases e1.symm.trans hu
          rw [jdc_i]
          have e3 : (mzI I Z.2.2 x.toNatClampNeg) id = (fun _ => 0) := if_pos h7
          rw [e3]
          show FF.heap[gb G + id]? = some (vp_cell _ _)
          have h5 := hrow (id - Z.2.2 - 1) (by omega)
          rw [show H.size + 1 + (id - Z.2.2 - 1) = gb G + id by omega] at h5
          exact h5
        · have e1 : (mZ Z 2 x.toNatClampNeg (0, y.toNatClampNeg)).1 id = Z.1 id := by
            show (if id = Z.2.2 then _ else if _ then _ else _) = _
            rw [if_neg h8, if_neg h7]
          rw [e1] at hu
          have e2 : jdc G (mZ Z 2 x.toNatClampNeg (0, y.toNatClampNeg)) (mzI I Z.2.2 x.toNatClampNeg) J id u = jdc G Z I J id u := by
            simp only [jdc, mZ, if_neg h8, if_neg h7, mzI]
          rw [e2]
          have hl9 := (hR.2.2 id u hu).lt
          exact (hR.2.2 id u hu).kept (hold _ hl9)⟩ hL hl (by omega) (by omega) FF rfl X'
  refine ⟨t, step t ?_, b1⟩
  rw [e9]
  exact a1
theorem jd_multiJ {G : jdG} {M : jdM} {F : jdF} {n rc rs pc : Nat} {lv : List (Nat × Value)} {st : List Value} {Z : jdL} {I : jdI} {J : jdJ} {N L index rc2 rs2 : Nat} {x y : Int32} (hw : Cond.classLink M.1.cls index "[[J" ∈ jdW) (ha : Cond.arrayClass .long ∈ jdW) (hX : ∀ U, G.2.2.2.2 U → (Cond.arrayOver (.array .long)).before #[] U = true) (hx : ¬ x < 0) (hy : ¬ y < 0) (hN : x.toNatClampNeg = N) (hL9 : y.toNatClampNeg = L) (h6 : N * 4 ≤ 536870912 ∧ L * 8 ≤ 536870912) (hb1 : 1 + N + rc2 ≤ rc) (hb2 : N + N * L + rs2 ≤ rs) (hdg : decode M.2.1 pc = .ok (.multianewarray index 2, 4)) (kk : Jd G M F n rc2 rs2 (pc + 4) lv (.ref (gb G + Z.2.2) :: st) (mZ Z 3 N (1, L)) I (mzJ J Z.2.2 N)) : Jd G M F n rc rs pc lv (.int y :: .int x :: st) Z I J := by
  intro p e R s m args below meth c H locs cells slots ls hC hR hL hl h1 h2
  have hts := hC.2.2.2.2.2.1
  have hK := hC.2.2.2.2.2.2.2.2.1.1
  have hcl := hts _ hw
  rw [show "[[J" = "[" ++ (FieldType.array .long).toString by decide +kernel] at hcl
  subst hN
  subst hL9
  intro T hT Xs
  obtain ⟨vm₁, cA, comp, -, fA, fC, hO, -, X', step⟩ := Jvm.Stand.multianewarray2F Xs hC.1 hC.2.2.2.2.1 hcl (show (Cond.arrayOver (.array .long)).before args s = true from hX s hC.2.2.2.2.2.2.2.2.1.2.1) (hts _ ha) (g := F0 m pc ls (.int y :: .int x :: st)) rfl (by rw [hC.2.1]; exact hdg) rfl hx hy h6.1 (by show _ * 8 ≤ _; omega) (by omega) rfl rfl (by omega) (by omega)
  have ec : comp = G.2.2.2.1 1 := by
    have h9 := (hK.2 1 _ rfl).2
    have h8 : s.vm.findClass ("[" ++ (.long : FieldType).toString) = some (G.2.2.2.1 1) := h9
    exact Option.some.inj (fC.symm.trans h8)
  have ea : cA = G.2.2.2.1 3 := by
    have h9 := (hK.2 3 _ rfl).2
    have h8 : s.vm.findClass ("[" ++ (FieldType.array .long).toString) = some (G.2.2.2.1 3) := h9
    exact Option.some.inj (fA.symm.trans h8)
  subst ec
  subst ea
  generalize hF : Jvm.Free.Multi.fill (T.setVm vm₁) (G.2.2.2.1 3) (G.2.2.2.1 1) x.toNatClampNeg y.toNatClampNeg (defaultValue .long) x.toNatClampNeg = FF at X' step
  have hTh : (T.setVm vm₁).heap = H := hT
  obtain ⟨f1, f2, -, -⟩ := Jvm.Free.Multi.fill_facts (T.setVm vm₁) (G.2.2.2.1 3) (G.2.2.2.1 1) x.toNatClampNeg y.toNatClampNeg (defaultValue .long) x.toNatClampNeg
  rw [hF, hTh] at f1 f2
  have hold : ∀ q : Nat, q < H.size → FF.heap[q]? = H[q]? := fun q hq => by
    have := Jvm.Free.Multi.fill_old (T.setVm vm₁) (G.2.2.2.1 3) (G.2.2.2.1 1) x.toNatClampNeg y.toNatClampNeg (defaultValue .long) (a := q) (by rw [hTh]; exact hq) x.toNatClampNeg
    rw [hF, hTh] at this
    exact this
  have hz : ∀ c : ClassId, Jvm.Free.Multi.innerC c y.toNatClampNeg (defaultValue .long) = vp_cell c (y.toNatClampNeg, .inr (.inl (fun _ => 0))) := fun c => by
    show ({ cls := c, slots := Array.replicate y.toNatClampNeg (defaultValue .long), vm := .none } : Cell) = _
    rw [arrV_new]
    rfl
  have hrow : ∀ j : Nat, j < x.toNatClampNeg → FF.heap[H.size + 1 + j]? = some (vp_cell (G.2.2.2.1 1) (y.toNatClampNeg, .inr (.inl (fun _ => 0)))) := fun j hj => by
    have := Jvm.Free.Multi.fill_inner (T.setVm vm₁) (G.2.2.2.1 3) (G.2.2.2.1 1) x.toNatClampNeg y.toNatClampNeg (defaultValue .long) x.toNatClampNeg j hj
    rw [hF, hTh, hz] at this
    exact this
  have hout : Jvm.Free.Multi.outerC (G.2.2.2.1 3) x.toNatClampNeg H.size x.toNatClampNeg = arrV (G.2.2.2.1 3) x.toNatClampNeg (fun j => va_rf (if j < x.toNatClampNeg then some (H.size + 1 + j) else none)) := vr_outer _ _ _ _
  rw [hout] at f2
  have hsz : H.size = gb G + Z.2.2 := hR.1
  have e9 : T.heap.size = gb G + Z.2.2 := by rw [hT, hsz]
  obtain ⟨t, a1, b1⟩ := kk p e R s m args below meth c FF.heap locs (cells + 1 + x.toNatClampNeg) (slots + x.toNatClampNeg + x.toNatClampNeg * y.toNatClampNeg) ls hC ⟨by
      rw [f1, hsz]
      show gb G + Z.2.2 + 1 + x.toNatClampNeg = gb G + (Z.2.2 + 1 + x.toNatClampNeg)
      omega, fun q hq => (hold q (by omega)).trans (hR.2.1 q hq), fun id u hu => by
      by_cases h8 : id = Z.2.2
      · subst h8
        have e1 : (mZ Z 3 x.toNatClampNeg (1, y.toNatClampNeg)).1 Z.2.2 = some (3, x.toNatClampNeg) := if_pos rfl
        cases e1.symm.trans hu
        rw [jdc_r _ _ _ _ _ _ _ (by omega) (by omega)]
        show FF.heap[gb G + Z.2.2]? = some (vp_cell _ _)
        rw [← hsz, f2, vp_cell_q]
        congr 2
        funext j
        have e2 : (mZ Z 3 x.toNatClampNeg (1, y.toNatClampNeg)).2.1 Z.2.2 j = if j < x.toNatClampNeg then some (Z.2.2 + 1 + j) else none := by
          simp [mZ]
        rw [e2]
        by_cases hj : j < x.toNatClampNeg
        · rw [if_pos hj, if_pos hj, hsz]
          show _ = va_rf (some (gb G + (Z.2.2 + 1 + j)))
          rw [show gb G + Z.2.2 + 1 + j = gb G + (Z.2.2 + 1 + j) by omega]
        · rw [if_neg hj, if_neg hj]
          rfl
      · by_cases h7 : Z.2.2 < id ∧ id ≤ Z.2.2 + x.toNatClampNeg
        · have e1 : (mZ Z 3 x.toNatClampNeg (1, y.toNatClampNeg)).1 id = some (1, y.toNatClampNeg) := by
            show (if id = Z.2.2 then _ else if _ then _ else _) = _
            rw [if_neg h8, if_pos h7]
          cases e1.symm.trans hu
          rw [jdc_l]
          have e3 : (mzJ J Z.2.2 x.toNatClampNeg) id = (fun _ => 0) := if_pos h7
          rw [e3]
          show FF.heap[gb G + id]? = some (vp_cell _ _)
          have h5 := hrow (id - Z.2.2 - 1) (by omega)
          rw [show H.size + 1 + (id - Z.2.2 - 1) = gb G + id by omega] at h5
          exact h5
        · have e1 : (mZ Z 3 x.toNatClampNeg (1, y.toNatClampNeg)).1 id = Z.1 id := by
            show (if id = Z.2.2 then _ else if _ then _ else _) = _
            rw [if_neg h8, if_neg h7]
          rw [e1] at hu
          have e2 : jdc G (mZ Z 3 x.toNatClampNeg (1, y.toNatClampNeg)) I (mzJ J Z.2.2 x.toNatClampNeg) id u = jdc G Z I J id u := by
            simp only [jdc, mZ, if_neg h8, if_neg h7, mzJ]
          rw [e2]
          have hl9 := (hR.2.2 id u hu).lt
          exact (hR.2.2 id u hu).kept (hold _ hl9)⟩ hL hl (by omega) (by omega) FF rfl X'
  refine ⟨t, step t ?_, b1⟩
  rw [e9]
  exact a1
def kModelZ (Z : jdL) (t : Nat) : jdL := (sA (sA (sA (sA (sA (sA (sA (sA (sA (uP (mZ (sA (sA (sA (sA (sA (sA (sA (uP (mZ (sA (sA (sA Z t 0 (0, 8)) t 1 (0, 8)) t 2 (0, 8)) 3 8 (1, 40)) t 3 (some (t + 4))) t 4 (1, 40)) t 5 (0, 8)) t 6 (0, 8)) t 7 (0, 250)) t 9 (0, 8)) t 11 (0, 8)) t 12 (0, 8)) 2 8 (0, 8)) t 13 (some (t + 20))) t 27 (0, 2)) t 29 (0, 70)) t 31 (0, 7)) t 32 (0, 7)) t 35 (0, 7)) t 36 (0, 1024)) t 39 (0, 10)) t 40 (0, 10)) t 41 (0, 10))
def kModelI (I : jdI) (t : Nat) : jdI := (zI (zI (zI (zI (zI (zI (zI (zI (zI (uI (uI (mzI (zI (zI (zI (zI (zI (zI (zI (zI (zI I (t + 1)) (t + 2)) (t + 3)) (t + 14)) (t + 15)) (t + 16)) (t + 17)) (t + 18)) (t + 19)) (t + 20) 8) t 14 3) t 19 1) (t + 29)) (t + 30)) (t + 31)) (t + 32)) (t + 33)) (t + 34)) (t + 35)) (t + 36)) (t + 37))
def kModelJ (J : jdJ) (t : Nat) : jdJ := (zJ (mzJ J (t + 4) 8) (t + 13))
set_option maxRecDepth 8000 in
set_option maxHeartbeats 4000000 in
theorem v_X12_init {G : jdG} {n : Nat} {T : Nat → Option (Nat × Nat)} {P : Nat → Nat → Option Nat} {t : Nat} {I : jdI} {J : jdJ} {Q : jdQ} {sA sV : Nat → Nat} (hG : gOK G sA sV) (hT0 : T t = some (11 + 10, 0)) (h : Q none (kModelZ (T, P, t + 1) t) (kModelI I t) (kModelJ J t)) : Cl G mX12_init (n + 1) 37 1901 [.ref (gb G + t)] (T, P, t + 1) I J Q := by
  refine Cl.of (by decide +kernel) (Nat.le_of_ble_eq_true rfl) ?_
  have hT : ((T, P, t + 1) : jdL).1 t = some (11 + 10, 0) := hT0
  have hlt : t < ((T, P, t + 1) : jdL).2.2 := Nat.lt_succ_self t
  refine jd_aload_n (pc := 0) 0 dX12_init_0 rfl rfl ?_
  refine jd_objInit (pc := 1) oX12_1 (Nat.le_of_ble_eq_true rfl) dX12_init_1 ?_
  refine jd_aload_n (pc := 4) 0 dX12_init_4 rfl rfl ?_
  refine jd_bipush (pc := 5) (v := 8) dX12_init_5 (by decide) ?_
  refine jd_newI (pc := 7) (rc2 := 36) (rs2 := 1893) (len := 8) w_aI (by decide) (by decide) (by decide) (by decide) (by decide) dX12_init_7 ?_
  have hT := nZ_T (ty := (0, 8)) hT hlt
  have hlt := nZ_lt (ty := (0, 8)) hlt
  refine jd_putFR (pc := 9) (ci := 11) (k := 0) rfl pX12_7 hT rfl rfl rfl dX12_init_9 ?_
  refine jd_aload_n (pc := 12) 0 dX12_init_12 rfl rfl ?_
  refine jd_bipush (pc := 13) (v := 8) dX12_init_13 (by decide) ?_
  refine jd_newI (pc := 15) (rc2 := 35) (rs2 := 1885) (len := 8) w_aI (by decide) (by decide) (by decide) (by decide) (by decide) dX12_init_15 ?_
  have hT := nZ_T (ty := (0, 8)) hT hlt
  have hlt := nZ_lt (ty := (0, 8)) hlt
  refine jd_putFR (pc := 17) (ci := 11) (k := 1) rfl pX12_13 hT rfl rfl rfl dX12_init_17 ?_
  refine jd_aload_n (pc := 20) 0 dX12_init_20 rfl rfl ?_
  refine jd_bipush (pc := 21) (v := 8) dX12_init_21 (by decide) ?_
  refine jd_newI (pc := 23) (rc2 := 34) (rs2 := 1877) (len := 8) w_aI (by decide) (by decide) (by decide) (by decide) (by decide) dX12_init_23 ?_
  have hT := nZ_T (ty := (0, 8)) hT hlt
  have hlt := nZ_lt (ty := (0, 8)) hlt
  refine jd_putFR (pc := 25) (ci := 11) (k := 2) rfl pX12_16 hT rfl rfl rfl dX12_init_25 ?_
  refine jd_aload_n (pc := 28) 0 dX12_init_28 rfl rfl ?_
  refine jd_bipush (pc := 29) (v := 8) dX12_init_29 (by decide) ?_
  refine jd_bipush (pc := 31) (v := 40) dX12_init_31 (by decide) ?_
  refine jd_multiJ (pc := 33) (rc2 := 25) (rs2 := 1549) (N := 8) (L := 40) hX12_19 w_aJ (fun U hU => (gOK_over hG U hU).2) (by decide) (by decide) (by decide) (by decide) (by decide) (by decide) (by decide) dX12_init_33 ?_
  have hT := mZ_T (kd := 3) (N := 8) (ty := (1, 40)) hT hlt
  have hlt := mZ_lt (kd := 3) (N := 8) (ty := (1, 40)) hlt
  refine jd_putFR (pc := 37) (ci := 11) (k := 3) rfl pX12_21 hT rfl rfl rfl dX12_init_37 ?_
  refine jd_aload_n (pc := 40) 0 dX12_init_40 rfl rfl ?_
  refine jd_bipush (pc := 41) (v := 40) dX12_init_41 (by decide) ?_
  refine jd_newJ (pc := 43) (rc2 := 24) (rs2 := 1509) (len := 40) w_aJ (by decide) (by decide) (by decide) (by decide) (by decide) dX12_init_43 ?_
  have hT := nZ_T (ty := (1, 40)) hT hlt
  have hlt := nZ_lt (ty := (1, 40)) hlt
  refine jd_putFR (pc := 45) (ci := 11) (k := 4) rfl pX12_24 hT rfl rfl rfl dX12_init_45 ?_
  refine jd_aload_n (pc := 48) 0 dX12_init_48 rfl rfl ?_
  refine jd_bipush (pc := 49) (v := 8) dX12_init_49 (by decide) ?_
  refine jd_newI (pc := 51) (rc2 := 23) (rs2 := 1501) (len := 8) w_aI (by decide) (by decide) (by decide) (by decide) (by decide) dX12_init_51 ?_
  have hT := nZ_T (ty := (0, 8)) hT hlt
  have hlt := nZ_lt (ty := (0, 8)) hlt
  refine jd_putFR (pc := 53) (ci := 11) (k := 5) rfl pX12_28 hT rfl rfl rfl dX12_init_53 ?_
  refine jd_aload_n (pc := 56) 0 dX12_init_56 rfl rfl ?_
  refine jd_bipush (pc := 57) (v := 8) dX12_init_57 (by decide) ?_
  refine jd_newI (pc := 59) (rc2 := 22) (rs2 := 1493) (len := 8) w_aI (by decide) (by decide) (by decide) (by decide) (by decide) dX12_init_59 ?_
  have hT := nZ_T (ty := (0, 8)) hT hlt
  have hlt := nZ_lt (ty := (0, 8)) hlt
  refine jd_putFR (pc := 61) (ci := 11) (k := 6) rfl pX12_31 hT rfl rfl rfl dX12_init_61 ?_
  refine jd_aload_n (pc := 64) 0 dX12_init_64 rfl rfl ?_
  refine jd_sipush (pc := 65) (v := 250) dX12_init_65 (by decide) ?_
  refine jd_newI (pc := 68) (rc2 := 21) (rs2 := 1243) (len := 250) w_aI (by decide) (by decide) (by decide) (by decide) (by decide) dX12_init_68 ?_
  have hT := nZ_T (ty := (0, 250)) hT hlt
  have hlt := nZ_lt (ty := (0, 250)) hlt
  refine jd_putFR (pc := 70) (ci := 11) (k := 7) rfl pX12_34 hT rfl rfl rfl dX12_init_70 ?_
  refine jd_aload_n (pc := 73) 0 dX12_init_73 rfl rfl ?_
  refine jd_bipush (pc := 74) (v := 8) dX12_init_74 (by decide) ?_
  refine jd_newI (pc := 76) (rc2 := 20) (rs2 := 1235) (len := 8) w_aI (by decide) (by decide) (by decide) (by decide) (by decide) dX12_init_76 ?_
  have hT := nZ_T (ty := (0, 8)) hT hlt
  have hlt := nZ_lt (ty := (0, 8)) hlt
  refine jd_putFR (pc := 78) (ci := 11) (k := 9) rfl pX12_37 hT rfl rfl rfl dX12_init_78 ?_
  refine jd_aload_n (pc := 81) 0 dX12_init_81 rfl rfl ?_
  refine jd_bipush (pc := 82) (v := 8) dX12_init_82 (by decide) ?_
  refine jd_newI (pc := 84) (rc2 := 19) (rs2 := 1227) (len := 8) w_aI (by decide) (by decide) (by decide) (by decide) (by decide) dX12_init_84 ?_
  have hT := nZ_T (ty := (0, 8)) hT hlt
  have hlt := nZ_lt (ty := (0, 8)) hlt
  refine jd_putFR (pc := 86) (ci := 11) (k := 11) rfl pX12_40 hT rfl rfl rfl dX12_init_86 ?_
  refine jd_aload_n (pc := 89) 0 dX12_init_89 rfl rfl ?_
  refine jd_bipush (pc := 90) (v := 8) dX12_init_90 (by decide) ?_
  refine jd_newI (pc := 92) (rc2 := 18) (rs2 := 1219) (len := 8) w_aI (by decide) (by decide) (by decide) (by decide) (by decide) dX12_init_92 ?_
  have hT := nZ_T (ty := (0, 8)) hT hlt
  have hlt := nZ_lt (ty := (0, 8)) hlt
  refine jd_putFR (pc := 94) (ci := 11) (k := 12) rfl pX12_43 hT rfl rfl rfl dX12_init_94 ?_
  refine jd_aload_n (pc := 97) 0 dX12_init_97 rfl rfl ?_
  refine jd_bipush (pc := 98) (v := 8) dX12_init_98 (by decide) ?_
  refine jd_bipush (pc := 100) (v := 8) dX12_init_100 (by decide) ?_
  refine jd_multiI (pc := 102) (rc2 := 9) (rs2 := 1147) (N := 8) (L := 8) hX12_46 w_aI (fun U hU => (gOK_over hG U hU).1) (by decide) (by decide) (by decide) (by decide) (by decide) (by decide) (by decide) dX12_init_102 ?_
  have hT := mZ_T (kd := 2) (N := 8) (ty := (0, 8)) hT hlt
  have hlt := mZ_lt (kd := 2) (N := 8) (ty := (0, 8)) hlt
  refine jd_putFR (pc := 106) (ci := 11) (k := 13) rfl pX12_48 hT rfl rfl rfl dX12_init_106 ?_
  refine jd_aload_n (pc := 109) 0 dX12_init_109 rfl rfl ?_
  refine jd_iconst (pc := 110) (v := 3) dX12_init_110 (by decide) ?_
  refine jd_putI (pc := 111) (ci := 11) (k := 14) pX12_51 hT rfl rfl rfl dX12_init_111 ?_
  refine jd_aload_n (pc := 114) 0 dX12_init_114 rfl rfl ?_
  refine jd_iconst (pc := 115) (v := 1) dX12_init_115 (by decide) ?_
  refine jd_putI (pc := 116) (ci := 11) (k := 19) pX12_55 hT rfl rfl rfl dX12_init_116 ?_
  refine jd_aload_n (pc := 119) 0 dX12_init_119 rfl rfl ?_
  refine jd_iconst (pc := 120) (v := 2) dX12_init_120 (by decide) ?_
  refine jd_newI (pc := 121) (rc2 := 8) (rs2 := 1145) (len := 2) w_aI (by decide) (by decide) (by decide) (by decide) (by decide) dX12_init_121 ?_
  have hT := nZ_T (ty := (0, 2)) hT hlt
  have hlt := nZ_lt (ty := (0, 2)) hlt
  refine jd_putFR (pc := 123) (ci := 11) (k := 27) rfl pX12_58 hT rfl rfl rfl dX12_init_123 ?_
  refine jd_aload_n (pc := 126) 0 dX12_init_126 rfl rfl ?_
  refine jd_bipush (pc := 127) (v := 70) dX12_init_127 (by decide) ?_
  refine jd_newI (pc := 129) (rc2 := 7) (rs2 := 1075) (len := 70) w_aI (by decide) (by decide) (by decide) (by decide) (by decide) dX12_init_129 ?_
  have hT := nZ_T (ty := (0, 70)) hT hlt
  have hlt := nZ_lt (ty := (0, 70)) hlt
  refine jd_putFR (pc := 131) (ci := 11) (k := 29) rfl pX12_61 hT rfl rfl rfl dX12_init_131 ?_
  refine jd_aload_n (pc := 134) 0 dX12_init_134 rfl rfl ?_
  refine jd_bipush (pc := 135) (v := 7) dX12_init_135 (by decide) ?_
  refine jd_newI (pc := 137) (rc2 := 6) (rs2 := 1068) (len := 7) w_aI (by decide) (by decide) (by decide) (by decide) (by decide) dX12_init_137 ?_
  have hT := nZ_T (ty := (0, 7)) hT hlt
  have hlt := nZ_lt (ty := (0, 7)) hlt
  refine jd_putFR (pc := 139) (ci := 11) (k := 31) rfl pX12_64 hT rfl rfl rfl dX12_init_139 ?_
  refine jd_aload_n (pc := 142) 0 dX12_init_142 rfl rfl ?_
  refine jd_bipush (pc := 143) (v := 7) dX12_init_143 (by decide) ?_
  refine jd_newI (pc := 145) (rc2 := 5) (rs2 := 1061) (len := 7) w_aI (by decide) (by decide) (by decide) (by decide) (by decide) dX12_init_145 ?_
  have hT := nZ_T (ty := (0, 7)) hT hlt
  have hlt := nZ_lt (ty := (0, 7)) hlt
  refine jd_putFR (pc := 147) (ci := 11) (k := 32) rfl pX12_67 hT rfl rfl rfl dX12_init_147 ?_
  refine jd_aload_n (pc := 150) 0 dX12_init_150 rfl rfl ?_
  refine jd_bipush (pc := 151) (v := 7) dX12_init_151 (by decide) ?_
  refine jd_newI (pc := 153) (rc2 := 4) (rs2 := 1054) (len := 7) w_aI (by decide) (by decide) (by decide) (by decide) (by decide) dX12_init_153 ?_
  have hT := nZ_T (ty := (0, 7)) hT hlt
  have hlt := nZ_lt (ty := (0, 7)) hlt
  refine jd_putFR (pc := 155) (ci := 11) (k := 35) rfl pX12_70 hT rfl rfl rfl dX12_init_155 ?_
  refine jd_aload_n (pc := 158) 0 dX12_init_158 rfl rfl ?_
  refine jd_sipush (pc := 159) (v := 1024) dX12_init_159 (by decide) ?_
  refine jd_newI (pc := 162) (rc2 := 3) (rs2 := 30) (len := 1024) w_aI (by decide) (by decide) (by decide) (by decide) (by decide) dX12_init_162 ?_
  have hT := nZ_T (ty := (0, 1024)) hT hlt
  have hlt := nZ_lt (ty := (0, 1024)) hlt
  refine jd_putFR (pc := 164) (ci := 11) (k := 36) rfl pX12_73 hT rfl rfl rfl dX12_init_164 ?_
  refine jd_aload_n (pc := 167) 0 dX12_init_167 rfl rfl ?_
  refine jd_bipush (pc := 168) (v := 10) dX12_init_168 (by decide) ?_
  refine jd_newI (pc := 170) (rc2 := 2) (rs2 := 20) (len := 10) w_aI (by decide) (by decide) (by decide) (by decide) (by decide) dX12_init_170 ?_
  have hT := nZ_T (ty := (0, 10)) hT hlt
  have hlt := nZ_lt (ty := (0, 10)) hlt
  refine jd_putFR (pc := 172) (ci := 11) (k := 39) rfl pX12_76 hT rfl rfl rfl dX12_init_172 ?_
  refine jd_aload_n (pc := 175) 0 dX12_init_175 rfl rfl ?_
  refine jd_bipush (pc := 176) (v := 10) dX12_init_176 (by decide) ?_
  refine jd_newI (pc := 178) (rc2 := 1) (rs2 := 10) (len := 10) w_aI (by decide) (by decide) (by decide) (by decide) (by decide) dX12_init_178 ?_
  have hT := nZ_T (ty := (0, 10)) hT hlt
  have hlt := nZ_lt (ty := (0, 10)) hlt
  refine jd_putFR (pc := 180) (ci := 11) (k := 40) rfl pX12_79 hT rfl rfl rfl dX12_init_180 ?_
  refine jd_aload_n (pc := 183) 0 dX12_init_183 rfl rfl ?_
  refine jd_bipush (pc := 184) (v := 10) dX12_init_184 (by decide) ?_
  refine jd_newI (pc := 186) (rc2 := 0) (rs2 := 0) (len := 10) w_aI (by decide) (by decide) (by decide) (by decide) (by decide) dX12_init_186 ?_
  have hT := nZ_T (ty := (0, 10)) hT hlt
  have hlt := nZ_lt (ty := (0, 10)) hlt
  refine jd_putFR (pc := 188) (ci := 11) (k := 41) rfl pX12_82 hT rfl rfl rfl dX12_init_188 ?_
  exact jd_vret (pc := 191) rfl dX12_init_191 h
theorem v_X2_init_0 {G : jdG} {n : Nat} {Z : jdL} {I : jdI} {J : jdJ} {Q : jdQ} {t : Nat} {x : Int32} (hT : Z.1 t = some (0 + 10, 0)) (h : Q none Z (uI I t 0 x) J) : Cl G mX2_init (n + 1) 0 0 [.ref (gb G + t), .int x] Z I J Q := by
  refine Cl.of (by decide +kernel) (Nat.le_of_ble_eq_true rfl) ?_
  refine jd_aload_n (pc := 0) 0 dX2_init_0 rfl rfl ?_
  refine jd_objInit (pc := 1) oX2_1 (Nat.le_of_ble_eq_true rfl) dX2_init_1 ?_
  refine jd_aload_n (pc := 4) 0 dX2_init_4 rfl rfl ?_
  refine jd_iload_n (pc := 5) 1 dX2_init_5 rfl rfl ?_
  refine jd_putFI (pc := 6) (ci := 0) (k := 0) rfl pX2_7_0 hT rfl rfl rfl dX2_init_6 ?_
  exact jd_vret (pc := 9) rfl dX2_init_9 h
theorem v_X2_init_1 {G : jdG} {n : Nat} {Z : jdL} {I : jdI} {J : jdJ} {Q : jdQ} {t : Nat} {x : Int32} (hT : Z.1 t = some (1 + 10, 0)) (h : Q none Z (uI I t 0 x) J) : Cl G mX2_init (n + 1) 0 0 [.ref (gb G + t), .int x] Z I J Q := by
  refine Cl.of (by decide +kernel) (Nat.le_of_ble_eq_true rfl) ?_
  refine jd_aload_n (pc := 0) 0 dX2_init_0 rfl rfl ?_
  refine jd_objInit (pc := 1) oX2_1 (Nat.le_of_ble_eq_true rfl) dX2_init_1 ?_
  refine jd_aload_n (pc := 4) 0 dX2_init_4 rfl rfl ?_
  refine jd_iload_n (pc := 5) 1 dX2_init_5 rfl rfl ?_
  refine jd_putFI (pc := 6) (ci := 1) (k := 0) rfl pX2_7_1 hT rfl rfl rfl dX2_init_6 ?_
  exact jd_vret (pc := 9) rfl dX2_init_9 h
theorem v_X2_init_3 {G : jdG} {n : Nat} {Z : jdL} {I : jdI} {J : jdJ} {Q : jdQ} {t : Nat} {x : Int32} (hT : Z.1 t = some (3 + 10, 0)) (h : Q none Z (uI I t 0 x) J) : Cl G mX2_init (n + 1) 0 0 [.ref (gb G + t), .int x] Z I J Q := by
  refine Cl.of (by decide +kernel) (Nat.le_of_ble_eq_true rfl) ?_
  refine jd_aload_n (pc := 0) 0 dX2_init_0 rfl rfl ?_
  refine jd_objInit (pc := 1) oX2_1 (Nat.le_of_ble_eq_true rfl) dX2_init_1 ?_
  refine jd_aload_n (pc := 4) 0 dX2_init_4 rfl rfl ?_
  refine jd_iload_n (pc := 5) 1 dX2_init_5 rfl rfl ?_
  refine jd_putFI (pc := 6) (ci := 3) (k := 0) rfl pX2_7_3 hT rfl rfl rfl dX2_init_6 ?_
  exact jd_vret (pc := 9) rfl dX2_init_9 h
theorem v_X2_init_6 {G : jdG} {n : Nat} {Z : jdL} {I : jdI} {J : jdJ} {Q : jdQ} {t : Nat} {x : Int32} (hT : Z.1 t = some (6 + 10, 0)) (h : Q none Z (uI I t 0 x) J) : Cl G mX2_init (n + 1) 0 0 [.ref (gb G + t), .int x] Z I J Q := by
  refine Cl.of (by decide +kernel) (Nat.le_of_ble_eq_true rfl) ?_
  refine jd_aload_n (pc := 0) 0 dX2_init_0 rfl rfl ?_
  refine jd_objInit (pc := 1) oX2_1 (Nat.le_of_ble_eq_true rfl) dX2_init_1 ?_
  refine jd_aload_n (pc := 4) 0 dX2_init_4 rfl rfl ?_
  refine jd_iload_n (pc := 5) 1 dX2_init_5 rfl rfl ?_
  refine jd_putFI (pc := 6) (ci := 6) (k := 0) rfl pX2_7_6 hT rfl rfl rfl dX2_init_6 ?_
  exact jd_vret (pc := 9) rfl dX2_init_9 h
theorem v_X2_init_9 {G : jdG} {n : Nat} {Z : jdL} {I : jdI} {J : jdJ} {Q : jdQ} {t : Nat} {x : Int32} (hT : Z.1 t = some (9 + 10, 0)) (h : Q none Z (uI I t 0 x) J) : Cl G mX2_init (n + 1) 0 0 [.ref (gb G + t), .int x] Z I J Q := by
  refine Cl.of (by decide +kernel) (Nat.le_of_ble_eq_true rfl) ?_
  refine jd_aload_n (pc := 0) 0 dX2_init_0 rfl rfl ?_
  refine jd_objInit (pc := 1) oX2_1 (Nat.le_of_ble_eq_true rfl) dX2_init_1 ?_
  refine jd_aload_n (pc := 4) 0 dX2_init_4 rfl rfl ?_
  refine jd_iload_n (pc := 5) 1 dX2_init_5 rfl rfl ?_
  refine jd_putFI (pc := 6) (ci := 9) (k := 0) rfl pX2_7_9 hT rfl rfl rfl dX2_init_6 ?_
  exact jd_vret (pc := 9) rfl dX2_init_9 h
theorem v_X1_init_0 {G : jdG} {n : Nat} {Z : jdL} {I : jdI} {J : jdJ} {Q : jdQ} {t : Nat} {x : Int32} (hT : Z.1 t = some (0 + 10, 0)) (h : Q none Z (uI I t 0 x) J) : Cl G mX1_init (n + 2) 0 0 [.ref (gb G + t), .int x] Z I J Q := by
  refine Cl.of (by decide +kernel) (Nat.le_of_ble_eq_true rfl) ?_
  refine jd_aload_n (pc := 0) 0 dX1_init_0 rfl rfl ?_
  refine jd_iload_n (pc := 1) 1 dX1_init_1 rfl rfl ?_
  refine jd_callI (pc := 2) (M2 := mX2_init) (id := t) (mc := 0) (ms := 0) (rc2 := 0) (rs2 := 0) (av := [.int x]) kX2_init sX2_init lX1_1 rfl rfl (Nat.le_of_ble_eq_true rfl) (Nat.le_refl _) (Nat.le_refl _) dX1_init_2 (v_X2_init_0 hT ?_)
  exact jd_vret (pc := 5) rfl dX1_init_5 h
theorem v_X1_init_1 {G : jdG} {n : Nat} {Z : jdL} {I : jdI} {J : jdJ} {Q : jdQ} {t : Nat} {x : Int32} (hT : Z.1 t = some (1 + 10, 0)) (h : Q none Z (uI I t 0 x) J) : Cl G mX1_init (n + 2) 0 0 [.ref (gb G + t), .int x] Z I J Q := by
  refine Cl.of (by decide +kernel) (Nat.le_of_ble_eq_true rfl) ?_
  refine jd_aload_n (pc := 0) 0 dX1_init_0 rfl rfl ?_
  refine jd_iload_n (pc := 1) 1 dX1_init_1 rfl rfl ?_
  refine jd_callI (pc := 2) (M2 := mX2_init) (id := t) (mc := 0) (ms := 0) (rc2 := 0) (rs2 := 0) (av := [.int x]) kX2_init sX2_init lX1_1 rfl rfl (Nat.le_of_ble_eq_true rfl) (Nat.le_refl _) (Nat.le_refl _) dX1_init_2 (v_X2_init_1 hT ?_)
  exact jd_vret (pc := 5) rfl dX1_init_5 h
theorem v_X1_init_6 {G : jdG} {n : Nat} {Z : jdL} {I : jdI} {J : jdJ} {Q : jdQ} {t : Nat} {x : Int32} (hT : Z.1 t = some (6 + 10, 0)) (h : Q none Z (uI I t 0 x) J) : Cl G mX1_init (n + 2) 0 0 [.ref (gb G + t), .int x] Z I J Q := by
  refine Cl.of (by decide +kernel) (Nat.le_of_ble_eq_true rfl) ?_
  refine jd_aload_n (pc := 0) 0 dX1_init_0 rfl rfl ?_
  refine jd_iload_n (pc := 1) 1 dX1_init_1 rfl rfl ?_
  refine jd_callI (pc := 2) (M2 := mX2_init) (id := t) (mc := 0) (ms := 0) (rc2 := 0) (rs2 := 0) (av := [.int x]) kX2_init sX2_init lX1_1 rfl rfl (Nat.le_of_ble_eq_true rfl) (Nat.le_refl _) (Nat.le_refl _) dX1_init_2 (v_X2_init_6 hT ?_)
  exact jd_vret (pc := 5) rfl dX1_init_5 h
theorem v_X4_init_3 {G : jdG} {n : Nat} {Z : jdL} {I : jdI} {J : jdJ} {Q : jdQ} {t : Nat} {x : Int32} (hT : Z.1 t = some (3 + 10, 0)) (h : Q none Z (uI I t 0 x) J) : Cl G mX4_init (n + 2) 0 0 [.ref (gb G + t), .int x] Z I J Q := by
  refine Cl.of (by decide +kernel) (Nat.le_of_ble_eq_true rfl) ?_
  refine jd_aload_n (pc := 0) 0 dX4_init_0 rfl rfl ?_
  refine jd_iload_n (pc := 1) 1 dX4_init_1 rfl rfl ?_
  refine jd_callI (pc := 2) (M2 := mX2_init) (id := t) (mc := 0) (ms := 0) (rc2 := 0) (rs2 := 0) (av := [.int x]) kX2_init sX2_init lX4_1 rfl rfl (Nat.le_of_ble_eq_true rfl) (Nat.le_refl _) (Nat.le_refl _) dX4_init_2 (v_X2_init_3 hT ?_)
  exact jd_vret (pc := 5) rfl dX4_init_5 h
theorem v_X4_init_9 {G : jdG} {n : Nat} {Z : jdL} {I : jdI} {J : jdJ} {Q : jdQ} {t : Nat} {x : Int32} (hT : Z.1 t = some (9 + 10, 0)) (h : Q none Z (uI I t 0 x) J) : Cl G mX4_init (n + 2) 0 0 [.ref (gb G + t), .int x] Z I J Q := by
  refine Cl.of (by decide +kernel) (Nat.le_of_ble_eq_true rfl) ?_
  refine jd_aload_n (pc := 0) 0 dX4_init_0 rfl rfl ?_
  refine jd_iload_n (pc := 1) 1 dX4_init_1 rfl rfl ?_
  refine jd_callI (pc := 2) (M2 := mX2_init) (id := t) (mc := 0) (ms := 0) (rc2 := 0) (rs2 := 0) (av := [.int x]) kX2_init sX2_init lX4_1 rfl rfl (Nat.le_of_ble_eq_true rfl) (Nat.le_refl _) (Nat.le_refl _) dX4_init_2 (v_X2_init_9 hT ?_)
  exact jd_vret (pc := 5) rfl dX4_init_5 h
theorem v_X0_init_0 {G : jdG} {n : Nat} {Z : jdL} {I : jdI} {J : jdJ} {Q : jdQ} {t : Nat} {x : Int32} (hT : Z.1 t = some (0 + 10, 0)) (h : Q none Z (uI I t 0 x) J) : Cl G mX0_init (n + 3) 0 0 [.ref (gb G + t), .int x] Z I J Q := by
  refine Cl.of (by decide +kernel) (Nat.le_of_ble_eq_true rfl) ?_
  refine jd_aload_n (pc := 0) 0 dX0_init_0 rfl rfl ?_
  refine jd_iload_n (pc := 1) 1 dX0_init_1 rfl rfl ?_
  refine jd_callI (pc := 2) (M2 := mX1_init) (id := t) (mc := 0) (ms := 0) (rc2 := 0) (rs2 := 0) (av := [.int x]) kX1_init sX1_init lX0_1 rfl rfl (Nat.le_of_ble_eq_true rfl) (Nat.le_refl _) (Nat.le_refl _) dX0_init_2 (v_X1_init_0 hT ?_)
  exact jd_vret (pc := 5) rfl dX0_init_5 h
theorem v_X7_init_6 {G : jdG} {n : Nat} {Z : jdL} {I : jdI} {J : jdJ} {Q : jdQ} {t : Nat} {x : Int32} (hT : Z.1 t = some (6 + 10, 0)) (h : Q none Z (uI I t 0 x) J) : Cl G mX7_init (n + 3) 0 0 [.ref (gb G + t), .int x] Z I J Q := by
  refine Cl.of (by decide +kernel) (Nat.le_of_ble_eq_true rfl) ?_
  refine jd_aload_n (pc := 0) 0 dX7_init_0 rfl rfl ?_
  refine jd_iload_n (pc := 1) 1 dX7_init_1 rfl rfl ?_
  refine jd_callI (pc := 2) (M2 := mX1_init) (id := t) (mc := 0) (ms := 0) (rc2 := 0) (rs2 := 0) (av := [.int x]) kX1_init sX1_init lX7_1 rfl rfl (Nat.le_of_ble_eq_true rfl) (Nat.le_refl _) (Nat.le_refl _) dX7_init_2 (v_X1_init_6 hT ?_)
  exact jd_vret (pc := 5) rfl dX7_init_5 h
theorem v_X10_init_9 {G : jdG} {n : Nat} {Z : jdL} {I : jdI} {J : jdJ} {Q : jdQ} {t : Nat} {x : Int32} (hT : Z.1 t = some (9 + 10, 0)) (h : Q none Z (uI I t 0 x) J) : Cl G mX10_init (n + 3) 0 0 [.ref (gb G + t), .int x] Z I J Q := by
  refine Cl.of (by decide +kernel) (Nat.le_of_ble_eq_true rfl) ?_
  refine jd_aload_n (pc := 0) 0 dX10_init_0 rfl rfl ?_
  refine jd_iload_n (pc := 1) 1 dX10_init_1 rfl rfl ?_
  refine jd_callI (pc := 2) (M2 := mX4_init) (id := t) (mc := 0) (ms := 0) (rc2 := 0) (rs2 := 0) (av := [.int x]) kX4_init sX4_init lX10_1 rfl rfl (Nat.le_of_ble_eq_true rfl) (Nat.le_refl _) (Nat.le_refl _) dX10_init_2 (v_X4_init_9 hT ?_)
  exact jd_vret (pc := 5) rfl dX10_init_5 h
theorem w_X9_init {G : jdG} {n : Nat} {Z : jdL} {t : Nat} {I : jdI} {J : jdJ} {Q : jdQ} (hz : Z.2.2 = t + 1) (hT0 : Z.1 t = some (8 + 10, 0)) (h : Q none (kTownZ Z t) (kTownI I t) (kTownJ J t)) : Cl G mX9_init (n + 1) 3 63 [.ref (gb G + t)] Z I J Q := by
  obtain ⟨T, P, nx⟩ := Z
  have hz : nx = t + 1 := hz
  subst hz
  exact v_X9_init hT0 h
theorem w_X8_init {G : jdG} {n : Nat} {Z : jdL} {t : Nat} {I : jdI} {J : jdJ} {Q : jdQ} (hz : Z.2.2 = t + 1) (hT0 : Z.1 t = some (7 + 10, 0)) (h : Q none (kTiesZ Z t) (kTiesI I t) (kTiesJ J t)) : Cl G mX8_init (n + 1) 6 440 [.ref (gb G + t)] Z I J Q := by
  obtain ⟨T, P, nx⟩ := Z
  have hz : nx = t + 1 := hz
  subst hz
  exact v_X8_init hT0 h
theorem w_X3_init {G : jdG} {n : Nat} {Z : jdL} {t : Nat} {I : jdI} {J : jdJ} {Q : jdQ} (hz : Z.2.2 = t + 1) (hT0 : Z.1 t = some (2 + 10, 0)) (h : Q none (kDayZ Z t) (kDayI I t) (kDayJ J t)) : Cl G mX3_init (n + 1) 4 212 [.ref (gb G + t)] Z I J Q := by
  obtain ⟨T, P, nx⟩ := Z
  have hz : nx = t + 1 := hz
  subst hz
  exact v_X3_init hT0 h
theorem w_X5_init {G : jdG} {n : Nat} {Z : jdL} {t : Nat} {I : jdI} {J : jdJ} {Q : jdQ} (hz : Z.2.2 = t + 1) (hT0 : Z.1 t = some (4 + 10, 0)) (h : Q none (kScribeZ Z t) (kScribeI I t) (kScribeJ J t)) : Cl G mX5_init (n + 1) 1 250 [.ref (gb G + t)] Z I J Q := by
  obtain ⟨T, P, nx⟩ := Z
  have hz : nx = t + 1 := hz
  subst hz
  exact v_X5_init hT0 h
theorem w_X6_init {G : jdG} {n : Nat} {Z : jdL} {t : Nat} {I : jdI} {J : jdJ} {Q : jdQ} (hz : Z.2.2 = t + 1) (hT0 : Z.1 t = some (5 + 10, 0)) (h : Q none (kShelfZ Z t) (kShelfI I t) (kShelfJ J t)) : Cl G mX6_init (n + 1) 1 40 [.ref (gb G + t)] Z I J Q := by
  obtain ⟨T, P, nx⟩ := Z
  have hz : nx = t + 1 := hz
  subst hz
  exact v_X6_init hT0 h
theorem w_X12_init {G : jdG} {n : Nat} {Z : jdL} {t : Nat} {I : jdI} {J : jdJ} {Q : jdQ} {sA sV : Nat → Nat} (hG : gOK G sA sV) (hz : Z.2.2 = t + 1) (hT0 : Z.1 t = some (11 + 10, 0)) (h : Q none (kModelZ Z t) (kModelI I t) (kModelJ J t)) : Cl G mX12_init (n + 1) 37 1901 [.ref (gb G + t)] Z I J Q := by
  obtain ⟨T, P, nx⟩ := Z
  have hz : nx = t + 1 := hz
  subst hz
  exact v_X12_init hG hT0 h
section NE
variable {G : jdG} {M : jdM} {F : jdF} {n rc rs pc : Nat} {lv : List (Nat × Value)} {st : List Value} {Z : jdL} {I : jdI} {J : jdJ}
theorem jd_newE {ci index N rc2 rs2 b : Nat} (hz : Z.2.2 = b) (hf : jdNw ci M.1.cls index N) (hb1 : 1 + rc2 ≤ rc) (hb2 : N + rs2 ≤ rs) (hdg : decode M.2.1 pc = .ok (.new index, 3)) (kk : Jd G M F n rc2 rs2 (pc + 3) lv (.ref (gb G + b) :: st) (nZ Z (ci + 10, 0)) (zI I b) J) : Jd G M F n rc rs pc lv st Z I J := by
  subst hz
  exact jd_new hf hb1 hb2 hdg kk
theorem jd_newIE {rc2 rs2 len b : Nat} {x : Int32} (hz : Z.2.2 = b) (hw : Cond.arrayClass .int ∈ jdW) (hx : ¬ x < 0) (hx2 : x.toNatClampNeg = len) (hlen : len * 4 ≤ 536870912) (hb1 : 1 + rc2 ≤ rc) (hb2 : len + rs2 ≤ rs) (hdg : decode M.2.1 pc = .ok (.newarray .int, 2)) (kk : Jd G M F n rc2 rs2 (pc + 2) lv (.ref (gb G + b) :: st) (nZ Z (0, len)) (zI I b) J) : Jd G M F n rc rs pc lv (.int x :: st) Z I J := by
  subst hz
  exact jd_newI hw hx hx2 hlen hb1 hb2 hdg kk
theorem jd_anewE {rc2 rs2 len index b : Nat} {x : Int32} (hz : Z.2.2 = b) (hw : Cond.classLink M.1.cls index RX6 ∈ jdW) (hX : ∀ U, G.2.2.2.2 U → va_AO RX6 U) (hx : ¬ x < 0) (hx2 : x.toNatClampNeg = len) (hlen : len * 4 ≤ 536870912) (hb1 : 1 + rc2 ≤ rc) (hb2 : len + rs2 ≤ rs) (hdg : decode M.2.1 pc = .ok (.anewarray index, 3)) (kk : Jd G M F n rc2 rs2 (pc + 3) lv (.ref (gb G + b) :: st) (nZ Z (4, len)) I J) : Jd G M F n rc rs pc lv (.int x :: st) Z I J := by
  subst hz
  exact jd_anew hw hX hx hx2 hlen hb1 hb2 hdg kk
end NE
def kXZ (Z : jdL) : jdL := (uP (kShelfZ (nZ (uP (kShelfZ (nZ (uP (kShelfZ (nZ (uP (kShelfZ (nZ (uP (kShelfZ (nZ (uP (kShelfZ (nZ (uP (kShelfZ (nZ (uP (kShelfZ (nZ (uP (nZ (uP (nZ (uP (kScribeZ (nZ (uP (kDayZ (nZ (uP (kTiesZ (nZ (uP (kTownZ (nZ (uP (kTownZ (nZ (uP (kTownZ (nZ Z (8 + 10, 0)) 1) 0 0 (some 1)) (8 + 10, 0)) 5) 0 1 (some 5)) (8 + 10, 0)) 9) 0 2 (some 9)) (7 + 10, 0)) 13) 0 3 (some 13)) (2 + 10, 0)) 20) 0 4 (some 20)) (4 + 10, 0)) 25) 0 5 (some 25)) (4, 8)) 0 6 (some 27)) (0, 7)) 0 7 (some 28)) (5 + 10, 0)) 29) 27 0 (some 29)) (5 + 10, 0)) 31) 27 1 (some 31)) (5 + 10, 0)) 33) 27 2 (some 33)) (5 + 10, 0)) 35) 27 3 (some 35)) (5 + 10, 0)) 37) 27 4 (some 37)) (5 + 10, 0)) 39) 27 5 (some 39)) (5 + 10, 0)) 41) 27 6 (some 41)) (5 + 10, 0)) 43) 27 7 (some 43))
def kXI (I : jdI) : jdI := (kShelfI (zI (kShelfI (zI (kShelfI (zI (kShelfI (zI (kShelfI (zI (kShelfI (zI (kShelfI (zI (kShelfI (zI (zI (kScribeI (zI (kDayI (zI (kTiesI (zI (kTownI (zI (kTownI (zI (kTownI (zI I 1) 1) 5) 5) 9) 9) 13) 13) 20) 20) 25) 25) 28) 29) 29) 31) 31) 33) 33) 35) 35) 37) 37) 39) 39) 41) 41) 43) 43)
def kXJ (J : jdJ) : jdJ := (kShelfJ (kShelfJ (kShelfJ (kShelfJ (kShelfJ (kShelfJ (kShelfJ (kShelfJ (kScribeJ (kDayJ (kTiesJ (kTownJ (kTownJ (kTownJ J 1) 5) 9) 13) 20) 25) 29) 31) 33) 35) 37) 39) 41) 43)
set_option maxRecDepth 20000 in
set_option maxHeartbeats 8000000 in
theorem v_X11_init {G : jdG} {n : Nat} {T : Nat → Option (Nat × Nat)} {P : Nat → Nat → Option Nat} {I : jdI} {J : jdJ} {Q : jdQ} {sA sV : Nat → Nat} (hG : gOK G sA sV) (hT : T 0 = some (10 + 10, 0)) (h : Q none (kXZ (T, P, 1)) (kXI I) (kXJ J)) : Cl G mX11_init (n + 2) 44 1512 [.ref (gb G + 0)] (T, P, 1) I J Q := by
  refine Cl.of (by decide +kernel) (Nat.le_of_ble_eq_true rfl) ?_
  refine jd_aload_n (pc := 0) 0 dX11_init_0 rfl rfl ?_
  refine jd_objInit (pc := 1) oX11_1 (Nat.le_of_ble_eq_true rfl) dX11_init_1 ?_
  refine jd_aload_n (pc := 4) 0 dX11_init_4 rfl rfl ?_
  refine jd_newE (pc := 5) (b := 1) (rc2 := 43) (rs2 := 1502) (ci := 8) (N := 10) rfl nX11_7 (by decide) (by decide) dX11_init_5 ?_
  refine jd_dup (pc := 8) dX11_init_8 rfl ?_
  refine jd_callIN (pc := 9) (M2 := mX9_init) (id := 1) (mc := 3) (ms := 63) (rc2 := 40) (rs2 := 1439) (av := []) kX9_init sX9_init (fun U hU => (gOK_nest hG U hU).1) rfl rfl (Nat.le_of_ble_eq_true rfl) (by decide) (by decide) dX11_init_9 (w_X9_init (t := 1) rfl rfl ?_)
  refine jd_putFR (pc := 12) (ci := 10) (k := 0) (r := 1) rfl pX11_10 hT rfl rfl rfl dX11_init_12 ?_
  refine jd_aload_n (pc := 15) 0 dX11_init_15 rfl rfl ?_
  refine jd_newE (pc := 16) (b := 5) (rc2 := 39) (rs2 := 1429) (ci := 8) (N := 10) rfl nX11_7 (by decide) (by decide) dX11_init_16 ?_
  refine jd_dup (pc := 19) dX11_init_19 rfl ?_
  refine jd_callIN (pc := 20) (M2 := mX9_init) (id := 5) (mc := 3) (ms := 63) (rc2 := 36) (rs2 := 1366) (av := []) kX9_init sX9_init (fun U hU => (gOK_nest hG U hU).1) rfl rfl (Nat.le_of_ble_eq_true rfl) (by decide) (by decide) dX11_init_20 (w_X9_init (t := 5) rfl rfl ?_)
  refine jd_putFR (pc := 23) (ci := 10) (k := 1) (r := 5) rfl pX11_16 hT rfl rfl rfl dX11_init_23 ?_
  refine jd_aload_n (pc := 26) 0 dX11_init_26 rfl rfl ?_
  refine jd_newE (pc := 27) (b := 9) (rc2 := 35) (rs2 := 1356) (ci := 8) (N := 10) rfl nX11_7 (by decide) (by decide) dX11_init_27 ?_
  refine jd_dup (pc := 30) dX11_init_30 rfl ?_
  refine jd_callIN (pc := 31) (M2 := mX9_init) (id := 9) (mc := 3) (ms := 63) (rc2 := 32) (rs2 := 1293) (av := []) kX9_init sX9_init (fun U hU => (gOK_nest hG U hU).1) rfl rfl (Nat.le_of_ble_eq_true rfl) (by decide) (by decide) dX11_init_31 (w_X9_init (t := 9) rfl rfl ?_)
  refine jd_putFR (pc := 34) (ci := 10) (k := 2) (r := 9) rfl pX11_19 hT rfl rfl rfl dX11_init_34 ?_
  refine jd_aload_n (pc := 37) 0 dX11_init_37 rfl rfl ?_
  refine jd_newE (pc := 38) (b := 13) (rc2 := 31) (rs2 := 1282) (ci := 7) (N := 11) rfl nX11_22 (by decide) (by decide) dX11_init_38 ?_
  refine jd_dup (pc := 41) dX11_init_41 rfl ?_
  refine jd_callIN (pc := 42) (M2 := mX8_init) (id := 13) (mc := 6) (ms := 440) (rc2 := 25) (rs2 := 842) (av := []) kX8_init sX8_init (fun U hU => (gOK_nest hG U hU).2.1) rfl rfl (Nat.le_of_ble_eq_true rfl) (by decide) (by decide) dX11_init_42 (w_X8_init (t := 13) rfl rfl ?_)
  refine jd_putFR (pc := 45) (ci := 10) (k := 3) (r := 13) rfl pX11_25 hT rfl rfl rfl dX11_init_45 ?_
  refine jd_aload_n (pc := 48) 0 dX11_init_48 rfl rfl ?_
  refine jd_newE (pc := 49) (b := 20) (rc2 := 24) (rs2 := 835) (ci := 2) (N := 7) rfl nX11_29 (by decide) (by decide) dX11_init_49 ?_
  refine jd_dup (pc := 52) dX11_init_52 rfl ?_
  refine jd_callIN (pc := 53) (M2 := mX3_init) (id := 20) (mc := 4) (ms := 212) (rc2 := 20) (rs2 := 623) (av := []) kX3_init sX3_init (fun U hU => (gOK_nest hG U hU).2.2.1) rfl rfl (Nat.le_of_ble_eq_true rfl) (by decide) (by decide) dX11_init_53 (w_X3_init (t := 20) rfl rfl ?_)
  refine jd_putFR (pc := 56) (ci := 10) (k := 4) (r := 20) rfl pX11_32 hT rfl rfl rfl dX11_init_56 ?_
  refine jd_aload_n (pc := 59) 0 dX11_init_59 rfl rfl ?_
  refine jd_newE (pc := 60) (b := 25) (rc2 := 19) (rs2 := 617) (ci := 4) (N := 6) rfl nX11_36 (by decide) (by decide) dX11_init_60 ?_
  refine jd_dup (pc := 63) dX11_init_63 rfl ?_
  refine jd_callIN (pc := 64) (M2 := mX5_init) (id := 25) (mc := 1) (ms := 250) (rc2 := 18) (rs2 := 367) (av := []) kX5_init sX5_init (fun U hU => (gOK_nest hG U hU).2.2.2.1) rfl rfl (Nat.le_of_ble_eq_true rfl) (by decide) (by decide) dX11_init_64 (w_X5_init (t := 25) rfl rfl ?_)
  refine jd_putFR (pc := 67) (ci := 10) (k := 5) (r := 25) rfl pX11_39 hT rfl rfl rfl dX11_init_67 ?_
  refine jd_aload_n (pc := 70) 0 dX11_init_70 rfl rfl ?_
  refine jd_bipush (pc := 71) (v := 8) dX11_init_71 (by decide) ?_
  refine jd_anewE (pc := 73) (b := 27) (rc2 := 17) (rs2 := 359) (len := 8) rfl hX11_43 (fun U hU => gOK_ao hG U hU) (by decide) (by decide) (by decide) (by decide) (by decide) dX11_init_73 ?_
  refine jd_putFR (pc := 76) (ci := 10) (k := 6) (r := 27) rfl pX11_45 hT rfl rfl rfl dX11_init_76 ?_
  refine jd_aload_n (pc := 79) 0 dX11_init_79 rfl rfl ?_
  refine jd_bipush (pc := 80) (v := 7) dX11_init_80 (by decide) ?_
  refine jd_newIE (pc := 82) (b := 28) (rc2 := 16) (rs2 := 352) (len := 7) rfl w_aI (by decide) (by decide) (by decide) (by decide) (by decide) dX11_init_82 ?_
  refine jd_putFR (pc := 84) (ci := 10) (k := 7) (r := 28) rfl pX11_49 hT rfl rfl rfl dX11_init_84 ?_
  refine jd_iconst (pc := 87) (v := 0) dX11_init_87 (by decide) ?_
  refine jd_istore_n (pc := 88) [(1, .int 0), (0, .ref (gb G + 0))] dX11_init_88 rfl (by decide) rfl ?_
  refine jd_iload_n (pc := 89) 0 dX11_init_89 rfl rfl ?_
  refine jd_bipush (pc := 90) (v := 8) dX11_init_90 (by decide) ?_
  refine jd_icmp_ge (pc := 92) 114 dX11_init_92 (by decide) (fun hc => absurd hc (by decide)) (fun _ => ?_)
  refine jd_aload_n (pc := 95) 1 dX11_init_95 rfl rfl ?_
  refine jd_getR (pc := 96) (ci := 10) (k := 6) (r := 27) gX11_45 hT rfl rfl dX11_init_96 ?_
  refine jd_iload_n (pc := 99) 0 dX11_init_99 rfl rfl ?_
  refine jd_newE (pc := 100) (b := 29) (rc2 := 15) (rs2 := 348) (ci := 5) (N := 4) rfl nX11_43 (by decide) (by decide) dX11_init_100 ?_
  refine jd_dup (pc := 103) dX11_init_103 rfl ?_
  refine jd_callIN (pc := 104) (M2 := mX6_init) (id := 29) (mc := 1) (ms := 40) (rc2 := 14) (rs2 := 308) (av := []) kX6_init sX6_init (fun U hU => (gOK_nest hG U hU).2.2.2.2) rfl rfl (Nat.le_of_ble_eq_true rfl) (by decide) (by decide) dX11_init_104 (w_X6_init (t := 29) rfl rfl ?_)
  refine jd_aast (pc := 107) (id := 27) (len := 8) (r := 29) (ci := 5) (N := 4) (T := TX6) rfl rfl (by unfold vp_in; decide) dX11_init_107 ?_
  refine jd_iinc (pc := 108) (v := 1) 0 [(1, .int 1), (0, .ref (gb G + 0))] dX11_init_108 rfl (by decide) (by decide) rfl ?_
  refine jd_goto (pc := 111) 89 dX11_init_111 (by decide) ?_
  refine jd_iload_n (pc := 89) 0 dX11_init_89 rfl rfl ?_
  refine jd_bipush (pc := 90) (v := 8) dX11_init_90 (by decide) ?_
  refine jd_icmp_ge (pc := 92) 114 dX11_init_92 (by decide) (fun hc => absurd hc (by decide)) (fun _ => ?_)
  refine jd_aload_n (pc := 95) 1 dX11_init_95 rfl rfl ?_
  refine jd_getR (pc := 96) (ci := 10) (k := 6) (r := 27) gX11_45 hT rfl rfl dX11_init_96 ?_
  refine jd_iload_n (pc := 99) 0 dX11_init_99 rfl rfl ?_
  refine jd_newE (pc := 100) (b := 31) (rc2 := 13) (rs2 := 304) (ci := 5) (N := 4) rfl nX11_43 (by decide) (by decide) dX11_init_100 ?_
  refine jd_dup (pc := 103) dX11_init_103 rfl ?_
  refine jd_callIN (pc := 104) (M2 := mX6_init) (id := 31) (mc := 1) (ms := 40) (rc2 := 12) (rs2 := 264) (av := []) kX6_init sX6_init (fun U hU => (gOK_nest hG U hU).2.2.2.2) rfl rfl (Nat.le_of_ble_eq_true rfl) (by decide) (by decide) dX11_init_104 (w_X6_init (t := 31) rfl rfl ?_)
  refine jd_aast (pc := 107) (id := 27) (len := 8) (r := 31) (ci := 5) (N := 4) (T := TX6) rfl rfl (by unfold vp_in; decide) dX11_init_107 ?_
  refine jd_iinc (pc := 108) (v := 2) 0 [(1, .int 2), (0, .ref (gb G + 0))] dX11_init_108 rfl (by decide) (by decide) rfl ?_
  refine jd_goto (pc := 111) 89 dX11_init_111 (by decide) ?_
  refine jd_iload_n (pc := 89) 0 dX11_init_89 rfl rfl ?_
  refine jd_bipush (pc := 90) (v := 8) dX11_init_90 (by decide) ?_
  refine jd_icmp_ge (pc := 92) 114 dX11_init_92 (by decide) (fun hc => absurd hc (by decide)) (fun _ => ?_)
  refine jd_aload_n (pc := 95) 1 dX11_init_95 rfl rfl ?_
  refine jd_getR (pc := 96) (ci := 10) (k := 6) (r := 27) gX11_45 hT rfl rfl dX11_init_96 ?_
  refine jd_iload_n (pc := 99) 0 dX11_init_99 rfl rfl ?_
  refine jd_newE (pc := 100) (b := 33) (rc2 := 11) (rs2 := 260) (ci := 5) (N := 4) rfl nX11_43 (by decide) (by decide) dX11_init_100 ?_
  refine jd_dup (pc := 103) dX11_init_103 rfl ?_
  refine jd_callIN (pc := 104) (M2 := mX6_init) (id := 33) (mc := 1) (ms := 40) (rc2 := 10) (rs2 := 220) (av := []) kX6_init sX6_init (fun U hU => (gOK_nest hG U hU).2.2.2.2) rfl rfl (Nat.le_of_ble_eq_true rfl) (by decide) (by decide) dX11_init_104 (w_X6_init (t := 33) rfl rfl ?_)
  refine jd_aast (pc := 107) (id := 27) (len := 8) (r := 33) (ci := 5) (N := 4) (T := TX6) rfl rfl (by unfold vp_in; decide) dX11_init_107 ?_
  refine jd_iinc (pc := 108) (v := 3) 0 [(1, .int 3), (0, .ref (gb G + 0))] dX11_init_108 rfl (by decide) (by decide) rfl ?_
  refine jd_goto (pc := 111) 89 dX11_init_111 (by decide) ?_
  refine jd_iload_n (pc := 89) 0 dX11_init_89 rfl rfl ?_
  refine jd_bipush (pc := 90) (v := 8) dX11_init_90 (by decide) ?_
  refine jd_icmp_ge (pc := 92) 114 dX11_init_92 (by decide) (fun hc => absurd hc (by decide)) (fun _ => ?_)
  refine jd_aload_n (pc := 95) 1 dX11_init_95 rfl rfl ?_
  refine jd_getR (pc := 96) (ci := 10) (k := 6) (r := 27) gX11_45 hT rfl rfl dX11_init_96 ?_
  refine jd_iload_n (pc := 99) 0 dX11_init_99 rfl rfl ?_
  refine jd_newE (pc := 100) (b := 35) (rc2 := 9) (rs2 := 216) (ci := 5) (N := 4) rfl nX11_43 (by decide) (by decide) dX11_init_100 ?_
  refine jd_dup (pc := 103) dX11_init_103 rfl ?_
  refine jd_callIN (pc := 104) (M2 := mX6_init) (id := 35) (mc := 1) (ms := 40) (rc2 := 8) (rs2 := 176) (av := []) kX6_init sX6_init (fun U hU => (gOK_nest hG U hU).2.2.2.2) rfl rfl (Nat.le_of_ble_eq_true rfl) (by decide) (by decide) dX11_init_104 (w_X6_init (t := 35) rfl rfl ?_)
  refine jd_aast (pc := 107) (id := 27) (len := 8) (r := 35) (ci := 5) (N := 4) (T := TX6) rfl rfl (by unfold vp_in; decide) dX11_init_107 ?_
  refine jd_iinc (pc := 108) (v := 4) 0 [(1, .int 4), (0, .ref (gb G + 0))] dX11_init_108 rfl (by decide) (by decide) rfl ?_
  refine jd_goto (pc := 111) 89 dX11_init_111 (by decide) ?_
  refine jd_iload_n (pc := 89) 0 dX11_init_89 rfl rfl ?_
  refine jd_bipush (pc := 90) (v := 8) dX11_init_90 (by decide) ?_
  refine jd_icmp_ge (pc := 92) 114 dX11_init_92 (by decide) (fun hc => absurd hc (by decide)) (fun _ => ?_)
  refine jd_aload_n (pc := 95) 1 dX11_init_95 rfl rfl ?_
  refine jd_getR (pc := 96) (ci := 10) (k := 6) (r := 27) gX11_45 hT rfl rfl dX11_init_96 ?_
  refine jd_iload_n (pc := 99) 0 dX11_init_99 rfl rfl ?_
  refine jd_newE (pc := 100) (b := 37) (rc2 := 7) (rs2 := 172) (ci := 5) (N := 4) rfl nX11_43 (by decide) (by decide) dX11_init_100 ?_
  refine jd_dup (pc := 103) dX11_init_103 rfl ?_
  refine jd_callIN (pc := 104) (M2 := mX6_init) (id := 37) (mc := 1) (ms := 40) (rc2 := 6) (rs2 := 132) (av := []) kX6_init sX6_init (fun U hU => (gOK_nest hG U hU).2.2.2.2) rfl rfl (Nat.le_of_ble_eq_true rfl) (by decide) (by decide) dX11_init_104 (w_X6_init (t := 37) rfl rfl ?_)
  refine jd_aast (pc := 107) (id := 27) (len := 8) (r := 37) (ci := 5) (N := 4) (T := TX6) rfl rfl (by unfold vp_in; decide) dX11_init_107 ?_
  refine jd_iinc (pc := 108) (v := 5) 0 [(1, .int 5), (0, .ref (gb G + 0))] dX11_init_108 rfl (by decide) (by decide) rfl ?_
  refine jd_goto (pc := 111) 89 dX11_init_111 (by decide) ?_
  refine jd_iload_n (pc := 89) 0 dX11_init_89 rfl rfl ?_
  refine jd_bipush (pc := 90) (v := 8) dX11_init_90 (by decide) ?_
  refine jd_icmp_ge (pc := 92) 114 dX11_init_92 (by decide) (fun hc => absurd hc (by decide)) (fun _ => ?_)
  refine jd_aload_n (pc := 95) 1 dX11_init_95 rfl rfl ?_
  refine jd_getR (pc := 96) (ci := 10) (k := 6) (r := 27) gX11_45 hT rfl rfl dX11_init_96 ?_
  refine jd_iload_n (pc := 99) 0 dX11_init_99 rfl rfl ?_
  refine jd_newE (pc := 100) (b := 39) (rc2 := 5) (rs2 := 128) (ci := 5) (N := 4) rfl nX11_43 (by decide) (by decide) dX11_init_100 ?_
  refine jd_dup (pc := 103) dX11_init_103 rfl ?_
  refine jd_callIN (pc := 104) (M2 := mX6_init) (id := 39) (mc := 1) (ms := 40) (rc2 := 4) (rs2 := 88) (av := []) kX6_init sX6_init (fun U hU => (gOK_nest hG U hU).2.2.2.2) rfl rfl (Nat.le_of_ble_eq_true rfl) (by decide) (by decide) dX11_init_104 (w_X6_init (t := 39) rfl rfl ?_)
  refine jd_aast (pc := 107) (id := 27) (len := 8) (r := 39) (ci := 5) (N := 4) (T := TX6) rfl rfl (by unfold vp_in; decide) dX11_init_107 ?_
  refine jd_iinc (pc := 108) (v := 6) 0 [(1, .int 6), (0, .ref (gb G + 0))] dX11_init_108 rfl (by decide) (by decide) rfl ?_
  refine jd_goto (pc := 111) 89 dX11_init_111 (by decide) ?_
  refine jd_iload_n (pc := 89) 0 dX11_init_89 rfl rfl ?_
  refine jd_bipush (pc := 90) (v := 8) dX11_init_90 (by decide) ?_
  refine jd_icmp_ge (pc := 92) 114 dX11_init_92 (by decide) (fun hc => absurd hc (by decide)) (fun _ => ?_)
  refine jd_aload_n (pc := 95) 1 dX11_init_95 rfl rfl ?_
  refine jd_getR (pc := 96) (ci := 10) (k := 6) (r := 27) gX11_45 hT rfl rfl dX11_init_96 ?_
  refine jd_iload_n (pc := 99) 0 dX11_init_99 rfl rfl ?_
  refine jd_newE (pc := 100) (b := 41) (rc2 := 3) (rs2 := 84) (ci := 5) (N := 4) rfl nX11_43 (by decide) (by decide) dX11_init_100 ?_
  refine jd_dup (pc := 103) dX11_init_103 rfl ?_
  refine jd_callIN (pc := 104) (M2 := mX6_init) (id := 41) (mc := 1) (ms := 40) (rc2 := 2) (rs2 := 44) (av := []) kX6_init sX6_init (fun U hU => (gOK_nest hG U hU).2.2.2.2) rfl rfl (Nat.le_of_ble_eq_true rfl) (by decide) (by decide) dX11_init_104 (w_X6_init (t := 41) rfl rfl ?_)
  refine jd_aast (pc := 107) (id := 27) (len := 8) (r := 41) (ci := 5) (N := 4) (T := TX6) rfl rfl (by unfold vp_in; decide) dX11_init_107 ?_
  refine jd_iinc (pc := 108) (v := 7) 0 [(1, .int 7), (0, .ref (gb G + 0))] dX11_init_108 rfl (by decide) (by decide) rfl ?_
  refine jd_goto (pc := 111) 89 dX11_init_111 (by decide) ?_
  refine jd_iload_n (pc := 89) 0 dX11_init_89 rfl rfl ?_
  refine jd_bipush (pc := 90) (v := 8) dX11_init_90 (by decide) ?_
  refine jd_icmp_ge (pc := 92) 114 dX11_init_92 (by decide) (fun hc => absurd hc (by decide)) (fun _ => ?_)
  refine jd_aload_n (pc := 95) 1 dX11_init_95 rfl rfl ?_
  refine jd_getR (pc := 96) (ci := 10) (k := 6) (r := 27) gX11_45 hT rfl rfl dX11_init_96 ?_
  refine jd_iload_n (pc := 99) 0 dX11_init_99 rfl rfl ?_
  refine jd_newE (pc := 100) (b := 43) (rc2 := 1) (rs2 := 40) (ci := 5) (N := 4) rfl nX11_43 (by decide) (by decide) dX11_init_100 ?_
  refine jd_dup (pc := 103) dX11_init_103 rfl ?_
  refine jd_callIN (pc := 104) (M2 := mX6_init) (id := 43) (mc := 1) (ms := 40) (rc2 := 0) (rs2 := 0) (av := []) kX6_init sX6_init (fun U hU => (gOK_nest hG U hU).2.2.2.2) rfl rfl (Nat.le_of_ble_eq_true rfl) (by decide) (by decide) dX11_init_104 (w_X6_init (t := 43) rfl rfl ?_)
  refine jd_aast (pc := 107) (id := 27) (len := 8) (r := 43) (ci := 5) (N := 4) (T := TX6) rfl rfl (by unfold vp_in; decide) dX11_init_107 ?_
  refine jd_iinc (pc := 108) (v := 8) 0 [(1, .int 8), (0, .ref (gb G + 0))] dX11_init_108 rfl (by decide) (by decide) rfl ?_
  refine jd_goto (pc := 111) 89 dX11_init_111 (by decide) ?_
  refine jd_iload_n (pc := 89) 0 dX11_init_89 rfl rfl ?_
  refine jd_bipush (pc := 90) (v := 8) dX11_init_90 (by decide) ?_
  refine jd_icmp_ge (pc := 92) 114 dX11_init_92 (by decide) (fun _ => ?_) (fun hc => absurd (show (8 : Int32) ≤ 8 by decide) hc)
  exact jd_vret (pc := 114) rfl dX11_init_114 h
/-- the law's method, by whatever name it is called -/
abbrev mLaw (nm : String) : jdM := (⟨RL, nm, "([I)Z"⟩, cL_law, 4, ret)
def lawZ (below : List Frame) (s : State) : State → Prop := fun t => ∃ o, t.status = .running ∧ Ended t below o ∧ o = .returned (some (.int 1)) ∧ Framed s o t [] 600000 7302250
/-- the law's end: what is asked of it, where it began as the claim has it -/
def lawF (G : jdG) : jdF := fun below _ s mc ms t => s.heap.size = gb G → mc = 600000 → ms = 7302250 → lawZ below s t
theorem jd_lawret {G : jdG} {nm : String} {n rc rs pc : Nat} {lv : List (Nat × Value)} {Z : jdL} {I : jdI} {J : jdJ} (hdg : decode cL_law pc = .ok (.ireturn, 1)) : Jd G (mLaw nm) (lawF G) n rc rs pc lv [.int 1] Z I J := by
  intro p e R s m args below meth c H locs cells slots ls hC hR hL hl h1 h2
  by_cases h3 : s.heap.size = gb G ∧ R.cells = 600000 ∧ R.slots = 7302250
  · refine va_forget (fun q hq => by rw [h3.1]; exact hL q hq) ?_
    refine W.widen (k := 600000) (n := 7302250) (by omega) (by omega) ?_
    intro T hT X
    have hlocks : meth.locks = false := hC.2.2.2.2.2.2.1
    have hr : meth.sig.returnType = ret := hC.2.2.1
    have hx := hC.1
    have hb : c.code = code := hC.2.1
    obtain ⟨fs, hret, hrun, hended, hW, hframe⟩ := X.leave (v := some (.int 1)) (hlocks := hlocks) (fun h => by rw [hr] at h; cases h)
    have hmeth' : T.vm.method? m = some meth := X.method'
    refine ⟨T.setFrames fs, ?_, fun _ _ _ => ⟨.returned (some (.int 1)), hrun, hended, rfl, ⟨_, rfl⟩, hW, hframe⟩⟩
    have hdg : decode code pc = .ok (.ireturn, 1) := hdg
    jvm_step X.here [X.here.top, hx, hb, hdg, hmeth', hr, ret, narrow_b1]
    (try refine ⟨rfl, ?_⟩); (try refine ⟨rfl, ?_⟩)
    first | (intro acts; rw [hret _ acts rfl rfl rfl]) | rw [hret _ _ rfl rfl rfl]
    exact Steps.refl _
  · intro T hT X
    exact ⟨_, Steps.refl _, fun q1 q2 q3 => absurd ⟨q1, q2, q3⟩ h3⟩
section SC
variable {G : jdG} {M : jdM} {F : jdF} {n rc rs pc : Nat} {lv : List (Nat × Value)} {st : List Value} {Z : jdL} {I : jdI} {J : jdJ}
theorem jd_sld {b L : Nat} {xs : Nat → Int32} {i : Int32} (hX : ∀ U, G.2.2.2.2 U → va_X b L xs U G.2.2.1) (hin : vp_in i L) (hdg : decode M.2.1 pc = .ok (.iaload, 1)) (kk : Jd G M F n rc rs (pc + 1) lv (.int (xs i.toNatClampNeg) :: st) Z I J) : Jd G M F n rc rs pc lv (.int i :: .ref b :: st) Z I J := by
  intro p e R s m args below meth c H locs cells slots ls hC hR hL hl h1 h2
  obtain ⟨scr, q1, q2, q3, q4, q5⟩ := hX s hC.2.2.2.2.2.2.2.2.1.2.1
  have hb : b < gb G := (Array.getElem?_eq_some_iff.mp q1).1
  have hlt := vp_lt hin
  exact W.iald (v := .int (xs i.toNatClampNeg)) hC.1 hC.2.1 ((hR.2.1 b hb).trans q1) q2 q3 (fun h => h.elim (fun h => hin (Or.inl h)) (fun h => by omega)) (q5 _ hlt) rfl rfl hdg (kk p e R s m args below meth c H locs cells slots ls hC hR hL hl h1 h2)
theorem jd_slen {b L : Nat} {xs : Nat → Int32} (hX : ∀ U, G.2.2.2.2 U → va_X b L xs U G.2.2.1) (hdg : decode M.2.1 pc = .ok (.arraylength, 1)) (kk : Jd G M F n rc rs (pc + 1) lv (.int (Nat.toInt32 L) :: st) Z I J) : Jd G M F n rc rs pc lv (.ref b :: st) Z I J := by
  intro p e R s m args below meth c H locs cells slots ls hC hR hL hl h1 h2
  obtain ⟨scr, q1, q2, q3, q4, q5⟩ := hX s hC.2.2.2.2.2.2.2.2.1.2.1
  have hb : b < gb G := (Array.getElem?_eq_some_iff.mp q1).1
  exact W.alen (n := Nat.toInt32 L) hC.1 hC.2.1 ((hR.2.1 b hb).trans q1) q2 (by rw [q4]) rfl rfl hdg (kk p e R s m args below meth c H locs cells slots ls hC hR hL hl h1 h2)
end SC
set_option maxRecDepth 20000 in
set_option maxHeartbeats 4000000 in
theorem rL_law {G : jdG} {nm : String} {n rc rs b L : Nat} {xs : Nat → Int32} {Z : jdL} {I : jdI} {J : jdJ} {x3 : Int32} (hXs : ∀ U, G.2.2.2.2 U → va_X b L xs U G.2.2.1) (hX : zX Z) (hM : zModel Z 45) (h : ((((Nat.toInt32 L) - 6) < x3 → True) ∧ (¬ ((Nat.toInt32 L) - 6) < x3 → (vp_in x3 L ∧ (((((xs (Int32.toNatClampNeg x3)) &&& 63) : Int32).toInt < 0 ∨ 46 < (((xs (Int32.toNatClampNeg x3)) &&& 63) : Int32).toInt → Jd G (mLaw nm) (lawF G) (n + 1) rc rs 18 [(0, .ref b), (1, .ref (gb G + 0)), (2, .ref (gb G + 45)), (3, .int (x3 + 6))] [] Z I J) ∧ ((((xs (Int32.toNatClampNeg x3)) &&& 63) : Int32).toInt = 0 → (vp_in (x3 + 1) L ∧ (vp_in (x3 + 2) L ∧ (vp_in (x3 + 3) L ∧ (∃ mc5 ms5 rc5 rs5 : Nat, mc5 + rc5 ≤ rc ∧ ms5 + rs5 ≤ rs ∧ Cl G mX11_row n mc5 ms5 [.ref (gb G + 0), .int (xs (Int32.toNatClampNeg (x3 + 1))), .int (xs (Int32.toNatClampNeg (x3 + 2))), .int (xs (Int32.toNatClampNeg (x3 + 3)))] Z I J (fun r5 Z5 I5 J5 => ∃ v5 : Int32, r5 = some (.int v5) ∧ (zX Z5 ∧ (zModel Z5 45 ∧ (vp_in (x3 + 1) L ∧ (vp_in (x3 + 2) L ∧ (vp_in (x3 + 3) L ∧ Cl G mX12_row n 0 0 [.ref (gb G + 45), .int (xs (Int32.toNatClampNeg (x3 + 1))), .int (xs (Int32.toNatClampNeg (x3 + 2))), .int (xs (Int32.toNatClampNeg (x3 + 3)))] Z5 I5 J5 (qi Z5 (fun v10 I9 J9 => Jd G (mLaw nm) (lawF G) (n + 1) rc5 rs5 18 [(0, .ref b), (1, .ref (gb G + 0)), (2, .ref (gb G + 45)), (3, .int (x3 + 6))] [] Z5 I9 J9))))))))))))) ∧ ((((xs (Int32.toNatClampNeg x3)) &&& 63) : Int32).toInt = 1 → (vp_in (x3 + 1) L ∧ (vp_in (x3 + 2) L ∧ (vp_in (x3 + 3) L ∧ (vp_in (x3 + 4) L ∧ Cl G mX11_set n 0 0 [.ref (gb G + 0), .int (xs (Int32.toNatClampNeg (x3 + 1))), .int (xs (Int32.toNatClampNeg (x3 + 2))), .long (((Int32.toInt64 (xs (Int32.toNatClampNeg (x3 + 3)))) <<< (Int32.toInt64 32 &&& 63)) ||| ((Int32.toInt64 (xs (Int32.toNatClampNeg (x3 + 4)))) &&& 4294967295))] Z I J (qi Z (fun v16 I15 J15 => (vp_in (x3 + 1) L ∧ (vp_in (x3 + 2) L ∧ (vp_in (x3 + 3) L ∧ (vp_in (x3 + 4) L ∧ Cl G mX12_set n 0 0 [.ref (gb G + 45), .int (xs (Int32.toNatClampNeg (x3 + 1))), .int (xs (Int32.toNatClampNeg (x3 + 2))), .long (((Int32.toInt64 (xs (Int32.toNatClampNeg (x3 + 3)))) <<< (Int32.toInt64 32 &&& 63)) ||| ((Int32.toInt64 (xs (Int32.toNatClampNeg (x3 + 4)))) &&& 4294967295))] Z I15 J15 (qi Z (fun v22 I21 J21 => Jd G (mLaw nm) (lawF G) (n + 1) rc rs 18 [(0, .ref b), (1, .ref (gb G + 0)), (2, .ref (gb G + 45)), (3, .int (x3 + 6))] [] Z I21 J21))))))))))))) ∧ ((((xs (Int32.toNatClampNeg x3)) &&& 63) : Int32).toInt = 2 → (vp_in (x3 + 1) L ∧ (vp_in (x3 + 2) L ∧ (vp_in (x3 + 3) L ∧ (vp_in (x3 + 4) L ∧ (vp_in (x3 + 5) L ∧ Cl G mX11_copy n 0 0 [.ref (gb G + 0), .int (xs (Int32.toNatClampNeg (x3 + 1))), .int (xs (Int32.toNatClampNeg (x3 + 2))), .int (xs (Int32.toNatClampNeg (x3 + 3))), .int (xs (Int32.toNatClampNeg (x3 + 4))), .int (xs (Int32.toNatClampNeg (x3 + 5)))] Z I J (qi Z (fun v29 I28 J28 => (vp_in (x3 + 1) L ∧ (vp_in (x3 + 2) L ∧ (vp_in (x3 + 3) L ∧ (vp_in (x3 + 4) L ∧ (vp_in (x3 + 5) L ∧ Cl G mX12_copy n 0 0 [.ref (gb G + 45), .int (xs (Int32.toNatClampNeg (x3 + 1))), .int (xs (Int32.toNatClampNeg (x3 + 2))), .int (xs (Int32.toNatClampNeg (x3 + 3))), .int (xs (Int32.toNatClampNeg (x3 + 4))), .int (xs (Int32.toNatClampNeg (x3 + 5)))] Z I28 J28 (qi Z (fun v36 I35 J35 => Jd G (mLaw nm) (lawF G) (n + 1) rc rs 18 [(0, .ref b), (1, .ref (gb G + 0)), (2, .ref (gb G + 45)), (3, .int (x3 + 6))] [] Z I35 J35))))))))))))))) ∧ ((((xs (Int32.toNatClampNeg x3)) &&& 63) : Int32).toInt = 3 → (vp_in (x3 + 1) L ∧ (vp_in (x3 + 2) L ∧ Cl G mX11_element n 0 0 [.ref (gb G + 0), .int (xs (Int32.toNatClampNeg (x3 + 1))), .int (xs (Int32.toNatClampNeg (x3 + 2)))] Z I J (ql Z (fun v40 I39 J39 => (vp_in (x3 + 1) L ∧ (vp_in (x3 + 2) L ∧ Cl G mX12_element n 0 0 [.ref (gb G + 45), .int (xs (Int32.toNatClampNeg (x3 + 1))), .int (xs (Int32.toNatClampNeg (x3 + 2)))] Z I39 J39 (ql Z (fun v44 I43 J43 => Jd G (mLaw nm) (lawF G) (n + 1) rc rs 18 [(0, .ref b), (1, .ref (gb G + 0)), (2, .ref (gb G + 45)), (3, .int (x3 + 6))] [] Z I43 J43))))))))) ∧ ((((xs (Int32.toNatClampNeg x3)) &&& 63) : Int32).toInt = 4 → (vp_in (x3 + 1) L ∧ Cl G mX11_holds n 0 0 [.ref (gb G + 0), .int (xs (Int32.toNatClampNeg (x3 + 1)))] Z I J (qi Z (fun v47 I46 J46 => (vp_in (x3 + 1) L ∧ Cl G mX12_holds n 0 0 [.ref (gb G + 45), .int (xs (Int32.toNatClampNeg (x3 + 1)))] Z I46 J46 (qi Z (fun v50 I49 J49 => Jd G (mLaw nm) (lawF G) (n + 1) rc rs 18 [(0, .ref b), (1, .ref (gb G + 0)), (2, .ref (gb G + 45)), (3, .int (x3 + 6))] [] Z I49 J49))))))) ∧ ((((xs (Int32.toNatClampNeg x3)) &&& 63) : Int32).toInt = 5 → (vp_in (x3 + 1) L ∧ (vp_in (x3 + 2) L ∧ (vp_in (x3 + 3) L ∧ (∃ mc54 ms54 rc54 rs54 : Nat, mc54 + rc54 ≤ rc ∧ ms54 + rs54 ≤ rs ∧ Cl G mX11_coachman n mc54 ms54 [.ref (gb G + 0), .int (xs (Int32.toNatClampNeg (x3 + 1))), .int (xs (Int32.toNatClampNeg (x3 + 2))), .int (xs (Int32.toNatClampNeg (x3 + 3)))] Z I J (fun r54 Z54 I54 J54 => ∃ v54 : Int32, r54 = some (.int v54) ∧ (zX Z54 ∧ (zModel Z54 45 ∧ (vp_in (x3 + 1) L ∧ (vp_in (x3 + 2) L ∧ (vp_in (x3 + 3) L ∧ Cl G mX12_coachman n 0 0 [.ref (gb G + 45), .int (xs (Int32.toNatClampNeg (x3 + 1))), .int (xs (Int32.toNatClampNeg (x3 + 2))), .int (xs (Int32.toNatClampNeg (x3 + 3)))] Z54 I54 J54 (qi Z54 (fun v59 I58 J58 => Jd G (mLaw nm) (lawF G) (n + 1) rc54 rs54 18 [(0, .ref b), (1, .ref (gb G + 0)), (2, .ref (gb G + 45)), (3, .int (x3 + 6))] [] Z54 I58 J58))))))))))))) ∧ ((((xs (Int32.toNatClampNeg x3)) &&& 63) : Int32).toInt = 6 → (vp_in (x3 + 1) L ∧ (vp_in (x3 + 2) L ∧ Cl G mX11_says n 0 0 [.ref (gb G + 0), .int (xs (Int32.toNatClampNeg (x3 + 1))), .int (xs (Int32.toNatClampNeg (x3 + 2)))] Z I J (qi Z (fun v63 I62 J62 => (vp_in (x3 + 1) L ∧ (vp_in (x3 + 2) L ∧ Cl G mX12_says n 0 0 [.ref (gb G + 45), .int (xs (Int32.toNatClampNeg (x3 + 1))), .int (xs (Int32.toNatClampNeg (x3 + 2)))] Z I62 J62 (qi Z (fun v67 I66 J66 => Jd G (mLaw nm) (lawF G) (n + 1) rc rs 18 [(0, .ref b), (1, .ref (gb G + 0)), (2, .ref (gb G + 45)), (3, .int (x3 + 6))] [] Z I66 J66))))))))) ∧ ((((xs (Int32.toNatClampNeg x3)) &&& 63) : Int32).toInt = 7 → (vp_in (x3 + 1) L ∧ (vp_in (x3 + 2) L ∧ Cl G mX11_person n 0 0 [.ref (gb G + 0), .int (xs (Int32.toNatClampNeg (x3 + 1))), .int (xs (Int32.toNatClampNeg (x3 + 2)))] Z I J (qi Z (fun v71 I70 J70 => (vp_in (x3 + 1) L ∧ (vp_in (x3 + 2) L ∧ Cl G mX12_person n 0 0 [.ref (gb G + 45), .int (xs (Int32.toNatClampNeg (x3 + 1))), .int (xs (Int32.toNatClampNeg (x3 + 2)))] Z I70 J70 (qi Z (fun v75 I74 J74 => Jd G (mLaw nm) (lawF G) (n + 1) rc rs 18 [(0, .ref b), (1, .ref (gb G + 0)), (2, .ref (gb G + 45)), (3, .int (x3 + 6))] [] Z I74 J74))))))))) ∧ ((((xs (Int32.toNatClampNeg x3)) &&& 63) : Int32).toInt = 8 → (vp_in (x3 + 1) L ∧ (vp_in (x3 + 2) L ∧ (vp_in (x3 + 3) L ∧ Cl G mX11_change n 0 0 [.ref (gb G + 0), .int (xs (Int32.toNatClampNeg (x3 + 1))), .int (xs (Int32.toNatClampNeg (x3 + 2))), .int (xs (Int32.toNatClampNeg (x3 + 3)))] Z I J (qi Z (fun v80 I79 J79 => (vp_in (x3 + 1) L ∧ (vp_in (x3 + 2) L ∧ (vp_in (x3 + 3) L ∧ Cl G mX12_change n 0 0 [.ref (gb G + 45), .int (xs (Int32.toNatClampNeg (x3 + 1))), .int (xs (Int32.toNatClampNeg (x3 + 2))), .int (xs (Int32.toNatClampNeg (x3 + 3)))] Z I79 J79 (qi Z (fun v85 I84 J84 => Jd G (mLaw nm) (lawF G) (n + 1) rc rs 18 [(0, .ref b), (1, .ref (gb G + 0)), (2, .ref (gb G + 45)), (3, .int (x3 + 6))] [] Z I84 J84))))))))))) ∧ ((((xs (Int32.toNatClampNeg x3)) &&& 63) : Int32).toInt = 9 → (vp_in (x3 + 1) L ∧ (vp_in (x3 + 2) L ∧ (vp_in (x3 + 3) L ∧ Cl G mX11_know n 0 0 [.ref (gb G + 0), .int (xs (Int32.toNatClampNeg (x3 + 1))), .int (xs (Int32.toNatClampNeg (x3 + 2))), .int (xs (Int32.toNatClampNeg (x3 + 3)))] Z I J (qi Z (fun v90 I89 J89 => (vp_in (x3 + 1) L ∧ (vp_in (x3 + 2) L ∧ (vp_in (x3 + 3) L ∧ Cl G mX12_know n 0 0 [.ref (gb G + 45), .int (xs (Int32.toNatClampNeg (x3 + 1))), .int (xs (Int32.toNatClampNeg (x3 + 2))), .int (xs (Int32.toNatClampNeg (x3 + 3)))] Z I89 J89 (qi Z (fun v95 I94 J94 => Jd G (mLaw nm) (lawF G) (n + 1) rc rs 18 [(0, .ref b), (1, .ref (gb G + 0)), (2, .ref (gb G + 45)), (3, .int (x3 + 6))] [] Z I94 J94))))))))))) ∧ ((((xs (Int32.toNatClampNeg x3)) &&& 63) : Int32).toInt = 10 → (vp_in (x3 + 1) L ∧ (vp_in (x3 + 2) L ∧ Cl G mX11_ask n 0 0 [.ref (gb G + 0), .int (xs (Int32.toNatClampNeg (x3 + 1))), .int (xs (Int32.toNatClampNeg (x3 + 2)))] Z I J (qi Z (fun v99 I98 J98 => (vp_in (x3 + 1) L ∧ (vp_in (x3 + 2) L ∧ Cl G mX12_ask n 0 0 [.ref (gb G + 45), .int (xs (Int32.toNatClampNeg (x3 + 1))), .int (xs (Int32.toNatClampNeg (x3 + 2)))] Z I98 J98 (qi Z (fun v103 I102 J102 => Jd G (mLaw nm) (lawF G) (n + 1) rc rs 18 [(0, .ref b), (1, .ref (gb G + 0)), (2, .ref (gb G + 45)), (3, .int (x3 + 6))] [] Z I102 J102))))))))) ∧ ((((xs (Int32.toNatClampNeg x3)) &&& 63) : Int32).toInt = 11 → (vp_in (x3 + 1) L ∧ Cl G mX11_feed n 0 0 [.ref (gb G + 0), .int (xs (Int32.toNatClampNeg (x3 + 1)))] Z I J (qi Z (fun v106 I105 J105 => (vp_in (x3 + 1) L ∧ Cl G mX12_feed n 0 0 [.ref (gb G + 45), .int (xs (Int32.toNatClampNeg (x3 + 1)))] Z I105 J105 (qi Z (fun v109 I108 J108 => Jd G (mLaw nm) (lawF G) (n + 1) rc rs 18 [(0, .ref b), (1, .ref (gb G + 0)), (2, .ref (gb G + 45)), (3, .int (x3 + 6))] [] Z I108 J108))))))) ∧ ((((xs (Int32.toNatClampNeg x3)) &&& 63) : Int32).toInt = 12 → Cl G mX11_wipe n 0 0 [.ref (gb G + 0)] Z I J (qi Z (fun v111 I110 J110 => Cl G mX12_wipe n 0 0 [.ref (gb G + 45)] Z I110 J110 (qi Z (fun v113 I112 J112 => Jd G (mLaw nm) (lawF G) (n + 1) rc rs 18 [(0, .ref b), (1, .ref (gb G + 0)), (2, .ref (gb G + 45)), (3, .int (x3 + 6))] [] Z I112 J112))))) ∧ ((((xs (Int32.toNatClampNeg x3)) &&& 63) : Int32).toInt = 13 → Cl G mX11_town n 0 0 [.ref (gb G + 0)] Z I J (qi Z (fun v115 I114 J114 => (∃ mc116 ms116 rc116 rs116 : Nat, mc116 + rc116 ≤ rc ∧ ms116 + rs116 ≤ rs ∧ Cl G mX12_town n mc116 ms116 [.ref (gb G + 45)] Z I114 J114 (fun r116 Z116 I116 J116 => ∃ v116 : Int32, r116 = some (.int v116) ∧ (zX Z116 ∧ (zModel Z116 45 ∧ Jd G (mLaw nm) (lawF G) (n + 1) rc116 rs116 18 [(0, .ref b), (1, .ref (gb G + 0)), (2, .ref (gb G + 45)), (3, .int (x3 + 6))] [] Z116 I116 J116))))))) ∧ ((((xs (Int32.toNatClampNeg x3)) &&& 63) : Int32).toInt = 14 → (vp_in (x3 + 1) L ∧ (vp_in (x3 + 2) L ∧ Cl G mX11_personOf n 0 0 [.ref (gb G + 0), .int (xs (Int32.toNatClampNeg (x3 + 1))), .int (xs (Int32.toNatClampNeg (x3 + 2)))] Z I J (qi Z (fun v120 I119 J119 => (vp_in (x3 + 1) L ∧ (vp_in (x3 + 2) L ∧ Cl G mX12_personOf n 0 0 [.ref (gb G + 45), .int (xs (Int32.toNatClampNeg (x3 + 1))), .int (xs (Int32.toNatClampNeg (x3 + 2)))] Z I119 J119 (qi Z (fun v124 I123 J123 => Jd G (mLaw nm) (lawF G) (n + 1) rc rs 18 [(0, .ref b), (1, .ref (gb G + 0)), (2, .ref (gb G + 45)), (3, .int (x3 + 6))] [] Z I123 J123))))))))) ∧ ((((xs (Int32.toNatClampNeg x3)) &&& 63) : Int32).toInt = 15 → (vp_in (x3 + 1) L ∧ (vp_in (x3 + 2) L ∧ Cl G mX11_knownOf n 0 0 [.ref (gb G + 0), .int (xs (Int32.toNatClampNeg (x3 + 1))), .int (xs (Int32.toNatClampNeg (x3 + 2)))] Z I J (qi Z (fun v128 I127 J127 => (vp_in (x3 + 1) L ∧ (vp_in (x3 + 2) L ∧ Cl G mX12_knownOf n 0 0 [.ref (gb G + 45), .int (xs (Int32.toNatClampNeg (x3 + 1))), .int (xs (Int32.toNatClampNeg (x3 + 2)))] Z I127 J127 (qi Z (fun v132 I131 J131 => Jd G (mLaw nm) (lawF G) (n + 1) rc rs 18 [(0, .ref b), (1, .ref (gb G + 0)), (2, .ref (gb G + 45)), (3, .int (x3 + 6))] [] Z I131 J131))))))))) ∧ ((((xs (Int32.toNatClampNeg x3)) &&& 63) : Int32).toInt = 16 → (vp_in (x3 + 1) L ∧ Cl G mX11_isGroup n 0 0 [.ref (gb G + 0), .int (xs (Int32.toNatClampNeg (x3 + 1)))] Z I J (qi Z (fun v135 I134 J134 => (vp_in (x3 + 1) L ∧ Cl G mX12_isGroup n 0 0 [.ref (gb G + 45), .int (xs (Int32.toNatClampNeg (x3 + 1)))] Z I134 J134 (qi Z (fun v138 I137 J137 => Jd G (mLaw nm) (lawF G) (n + 1) rc rs 18 [(0, .ref b), (1, .ref (gb G + 0)), (2, .ref (gb G + 45)), (3, .int (x3 + 6))] [] Z I137 J137))))))) ∧ ((((xs (Int32.toNatClampNeg x3)) &&& 63) : Int32).toInt = 17 → (vp_in (x3 + 1) L ∧ Cl G mX11_groups n 0 0 [.ref (gb G + 0), .int (xs (Int32.toNatClampNeg (x3 + 1)))] Z I J (qi Z (fun v141 I140 J140 => (vp_in (x3 + 1) L ∧ Cl G mX12_groups n 0 0 [.ref (gb G + 45), .int (xs (Int32.toNatClampNeg (x3 + 1)))] Z I140 J140 (qi Z (fun v144 I143 J143 => Jd G (mLaw nm) (lawF G) (n + 1) rc rs 18 [(0, .ref b), (1, .ref (gb G + 0)), (2, .ref (gb G + 45)), (3, .int (x3 + 6))] [] Z I143 J143))))))) ∧ ((((xs (Int32.toNatClampNeg x3)) &&& 63) : Int32).toInt = 18 → (vp_in (x3 + 1) L ∧ Cl G mX11_firstOf n 0 0 [.ref (gb G + 0), .int (xs (Int32.toNatClampNeg (x3 + 1)))] Z I J (qi Z (fun v147 I146 J146 => (vp_in (x3 + 1) L ∧ Cl G mX12_firstOf n 0 0 [.ref (gb G + 45), .int (xs (Int32.toNatClampNeg (x3 + 1)))] Z I146 J146 (qi Z (fun v150 I149 J149 => Jd G (mLaw nm) (lawF G) (n + 1) rc rs 18 [(0, .ref b), (1, .ref (gb G + 0)), (2, .ref (gb G + 45)), (3, .int (x3 + 6))] [] Z I149 J149))))))) ∧ ((((xs (Int32.toNatClampNeg x3)) &&& 63) : Int32).toInt = 19 → (vp_in (x3 + 1) L ∧ Cl G mX11_most n 0 0 [.ref (gb G + 0), .int (xs (Int32.toNatClampNeg (x3 + 1)))] Z I J (qi Z (fun v153 I152 J152 => (vp_in (x3 + 1) L ∧ Cl G mX12_most n 0 0 [.ref (gb G + 45), .int (xs (Int32.toNatClampNeg (x3 + 1)))] Z I152 J152 (qi Z (fun v156 I155 J155 => Jd G (mLaw nm) (lawF G) (n + 1) rc rs 18 [(0, .ref b), (1, .ref (gb G + 0)), (2, .ref (gb G + 45)), (3, .int (x3 + 6))] [] Z I155 J155))))))) ∧ ((((xs (Int32.toNatClampNeg x3)) &&& 63) : Int32).toInt = 20 → (vp_in (x3 + 1) L ∧ (vp_in (x3 + 2) L ∧ Cl G mX11_mostOf n 0 0 [.ref (gb G + 0), .int (xs (Int32.toNatClampNeg (x3 + 1))), .int (xs (Int32.toNatClampNeg (x3 + 2)))] Z I J (qi Z (fun v160 I159 J159 => (vp_in (x3 + 1) L ∧ (vp_in (x3 + 2) L ∧ Cl G mX12_mostOf n 0 0 [.ref (gb G + 45), .int (xs (Int32.toNatClampNeg (x3 + 1))), .int (xs (Int32.toNatClampNeg (x3 + 2)))] Z I159 J159 (qi Z (fun v164 I163 J163 => Jd G (mLaw nm) (lawF G) (n + 1) rc rs 18 [(0, .ref b), (1, .ref (gb G + 0)), (2, .ref (gb G + 45)), (3, .int (x3 + 6))] [] Z I163 J163))))))))) ∧ ((((xs (Int32.toNatClampNeg x3)) &&& 63) : Int32).toInt = 21 → (vp_in (x3 + 1) L ∧ (vp_in (x3 + 2) L ∧ (vp_in (x3 + 3) L ∧ Cl G mX11_sends n 0 0 [.ref (gb G + 0), .int (xs (Int32.toNatClampNeg (x3 + 1))), .int (xs (Int32.toNatClampNeg (x3 + 2))), .int (xs (Int32.toNatClampNeg (x3 + 3)))] Z I J (qi Z (fun v169 I168 J168 => (vp_in (x3 + 1) L ∧ (vp_in (x3 + 2) L ∧ (vp_in (x3 + 3) L ∧ Cl G mX12_sends n 0 0 [.ref (gb G + 45), .int (xs (Int32.toNatClampNeg (x3 + 1))), .int (xs (Int32.toNatClampNeg (x3 + 2))), .int (xs (Int32.toNatClampNeg (x3 + 3)))] Z I168 J168 (qi Z (fun v174 I173 J173 => Jd G (mLaw nm) (lawF G) (n + 1) rc rs 18 [(0, .ref b), (1, .ref (gb G + 0)), (2, .ref (gb G + 45)), (3, .int (x3 + 6))] [] Z I173 J173))))))))))) ∧ ((((xs (Int32.toNatClampNeg x3)) &&& 63) : Int32).toInt = 22 → (vp_in (x3 + 1) L ∧ Cl G mX11_run n 0 0 [.ref (gb G + 0), .int (xs (Int32.toNatClampNeg (x3 + 1)))] Z I J (qi Z (fun v177 I176 J176 => (vp_in (x3 + 1) L ∧ Cl G mX12_run n 0 0 [.ref (gb G + 45), .int (xs (Int32.toNatClampNeg (x3 + 1)))] Z I176 J176 (qi Z (fun v180 I179 J179 => Jd G (mLaw nm) (lawF G) (n + 1) rc rs 18 [(0, .ref b), (1, .ref (gb G + 0)), (2, .ref (gb G + 45)), (3, .int (x3 + 6))] [] Z I179 J179))))))) ∧ ((((xs (Int32.toNatClampNeg x3)) &&& 63) : Int32).toInt = 23 → (vp_in (x3 + 1) L ∧ (vp_in (x3 + 2) L ∧ Cl G mX11_coach n 0 0 [.ref (gb G + 0), .int (xs (Int32.toNatClampNeg (x3 + 1))), .int (xs (Int32.toNatClampNeg (x3 + 2)))] Z I J (qi Z (fun v184 I183 J183 => (vp_in (x3 + 1) L ∧ (vp_in (x3 + 2) L ∧ Cl G mX12_coach n 0 0 [.ref (gb G + 45), .int (xs (Int32.toNatClampNeg (x3 + 1))), .int (xs (Int32.toNatClampNeg (x3 + 2)))] Z I183 J183 (qi Z (fun v188 I187 J187 => Jd G (mLaw nm) (lawF G) (n + 1) rc rs 18 [(0, .ref b), (1, .ref (gb G + 0)), (2, .ref (gb G + 45)), (3, .int (x3 + 6))] [] Z I187 J187))))))))) ∧ ((((xs (Int32.toNatClampNeg x3)) &&& 63) : Int32).toInt = 24 → (vp_in (x3 + 1) L ∧ Cl G mX11_left n 0 0 [.ref (gb G + 0), .int (xs (Int32.toNatClampNeg (x3 + 1)))] Z I J (qi Z (fun v191 I190 J190 => (vp_in (x3 + 1) L ∧ Cl G mX12_left n 0 0 [.ref (gb G + 45), .int (xs (Int32.toNatClampNeg (x3 + 1)))] Z I190 J190 (qi Z (fun v194 I193 J193 => Jd G (mLaw nm) (lawF G) (n + 1) rc rs 18 [(0, .ref b), (1, .ref (gb G + 0)), (2, .ref (gb G + 45)), (3, .int (x3 + 6))] [] Z I193 J193))))))) ∧ ((((xs (Int32.toNatClampNeg x3)) &&& 63) : Int32).toInt = 25 → (vp_in (x3 + 1) L ∧ (vp_in (x3 + 2) L ∧ Cl G mX11_waits n 0 0 [.ref (gb G + 0), .int (xs (Int32.toNatClampNeg (x3 + 1))), .int (xs (Int32.toNatClampNeg (x3 + 2)))] Z I J (qi Z (fun v198 I197 J197 => (vp_in (x3 + 1) L ∧ (vp_in (x3 + 2) L ∧ Cl G mX12_waits n 0 0 [.ref (gb G + 45), .int (xs (Int32.toNatClampNeg (x3 + 1))), .int (xs (Int32.toNatClampNeg (x3 + 2)))] Z I197 J197 (qi Z (fun v202 I201 J201 => Jd G (mLaw nm) (lawF G) (n + 1) rc rs 18 [(0, .ref b), (1, .ref (gb G + 0)), (2, .ref (gb G + 45)), (3, .int (x3 + 6))] [] Z I201 J201))))))))) ∧ ((((xs (Int32.toNatClampNeg x3)) &&& 63) : Int32).toInt = 26 → (vp_in (x3 + 1) L ∧ Cl G mX11_least n 0 0 [.ref (gb G + 0), .int (xs (Int32.toNatClampNeg (x3 + 1)))] Z I J (qi Z (fun v205 I204 J204 => (vp_in (x3 + 1) L ∧ Cl G mX12_least n 0 0 [.ref (gb G + 45), .int (xs (Int32.toNatClampNeg (x3 + 1)))] Z I204 J204 (qi Z (fun v208 I207 J207 => Jd G (mLaw nm) (lawF G) (n + 1) rc rs 18 [(0, .ref b), (1, .ref (gb G + 0)), (2, .ref (gb G + 45)), (3, .int (x3 + 6))] [] Z I207 J207))))))) ∧ ((((xs (Int32.toNatClampNeg x3)) &&& 63) : Int32).toInt = 27 → Cl G mX11_head n 0 0 [.ref (gb G + 0)] Z I J (qi Z (fun v210 I209 J209 => Cl G mX12_head n 0 0 [.ref (gb G + 45)] Z I209 J209 (qi Z (fun v212 I211 J211 => Jd G (mLaw nm) (lawF G) (n + 1) rc rs 18 [(0, .ref b), (1, .ref (gb G + 0)), (2, .ref (gb G + 45)), (3, .int (x3 + 6))] [] Z I211 J211))))) ∧ ((((xs (Int32.toNatClampNeg x3)) &&& 63) : Int32).toInt = 28 → (vp_in (x3 + 1) L ∧ Cl G mX11_days n 0 0 [.ref (gb G + 0), .int (xs (Int32.toNatClampNeg (x3 + 1)))] Z I J (qi Z (fun v215 I214 J214 => (vp_in (x3 + 1) L ∧ (∃ mc217 ms217 rc217 rs217 : Nat, mc217 + rc217 ≤ rc ∧ ms217 + rs217 ≤ rs ∧ Cl G mX12_days n mc217 ms217 [.ref (gb G + 45), .int (xs (Int32.toNatClampNeg (x3 + 1)))] Z I214 J214 (fun r217 Z217 I217 J217 => ∃ v217 : Int32, r217 = some (.int v217) ∧ (zX Z217 ∧ (zModel Z217 45 ∧ Jd G (mLaw nm) (lawF G) (n + 1) rc217 rs217 18 [(0, .ref b), (1, .ref (gb G + 0)), (2, .ref (gb G + 45)), (3, .int (x3 + 6))] [] Z217 I217 J217))))))))) ∧ ((((xs (Int32.toNatClampNeg x3)) &&& 63) : Int32).toInt = 29 → (vp_in (x3 + 1) L ∧ Cl G mX11_ever n 0 0 [.ref (gb G + 0), .int (xs (Int32.toNatClampNeg (x3 + 1)))] Z I J (qi Z (fun v220 I219 J219 => (vp_in (x3 + 1) L ∧ (∃ mc222 ms222 rc222 rs222 : Nat, mc222 + rc222 ≤ rc ∧ ms222 + rs222 ≤ rs ∧ Cl G mX12_ever n mc222 ms222 [.ref (gb G + 45), .int (xs (Int32.toNatClampNeg (x3 + 1)))] Z I219 J219 (fun r222 Z222 I222 J222 => ∃ v222 : Int32, r222 = some (.int v222) ∧ (zX Z222 ∧ (zModel Z222 45 ∧ Jd G (mLaw nm) (lawF G) (n + 1) rc222 rs222 18 [(0, .ref b), (1, .ref (gb G + 0)), (2, .ref (gb G + 45)), (3, .int (x3 + 6))] [] Z222 I222 J222))))))))) ∧ ((((xs (Int32.toNatClampNeg x3)) &&& 63) : Int32).toInt = 30 → Cl G mX11_hire n 0 0 [.ref (gb G + 0)] Z I J (qi Z (fun v224 I223 J223 => (∃ mc225 ms225 rc225 rs225 : Nat, mc225 + rc225 ≤ rc ∧ ms225 + rs225 ≤ rs ∧ Cl G mX12_hire n mc225 ms225 [.ref (gb G + 45)] Z I223 J223 (fun r225 Z225 I225 J225 => ∃ v225 : Int32, r225 = some (.int v225) ∧ (zX Z225 ∧ (zModel Z225 45 ∧ Jd G (mLaw nm) (lawF G) (n + 1) rc225 rs225 18 [(0, .ref b), (1, .ref (gb G + 0)), (2, .ref (gb G + 45)), (3, .int (x3 + 6))] [] Z225 I225 J225))))))) ∧ ((((xs (Int32.toNatClampNeg x3)) &&& 63) : Int32).toInt = 31 → (vp_in (x3 + 1) L ∧ Cl G mX11_feast n 0 0 [.ref (gb G + 0), .int (xs (Int32.toNatClampNeg (x3 + 1)))] Z I J (qi Z (fun v228 I227 J227 => (vp_in (x3 + 1) L ∧ (∃ mc230 ms230 rc230 rs230 : Nat, mc230 + rc230 ≤ rc ∧ ms230 + rs230 ≤ rs ∧ Cl G mX12_feast n mc230 ms230 [.ref (gb G + 45), .int (xs (Int32.toNatClampNeg (x3 + 1)))] Z I227 J227 (fun r230 Z230 I230 J230 => ∃ v230 : Int32, r230 = some (.int v230) ∧ (zX Z230 ∧ (zModel Z230 45 ∧ Jd G (mLaw nm) (lawF G) (n + 1) rc230 rs230 18 [(0, .ref b), (1, .ref (gb G + 0)), (2, .ref (gb G + 45)), (3, .int (x3 + 6))] [] Z230 I230 J230))))))))) ∧ ((((xs (Int32.toNatClampNeg x3)) &&& 63) : Int32).toInt = 32 → (vp_in (x3 + 1) L ∧ (vp_in (x3 + 2) L ∧ Cl G mX11_closes n 0 0 [.ref (gb G + 0), .int (xs (Int32.toNatClampNeg (x3 + 1))), .int (xs (Int32.toNatClampNeg (x3 + 2)))] Z I J (qi Z (fun v234 I233 J233 => (vp_in (x3 + 1) L ∧ (vp_in (x3 + 2) L ∧ (∃ mc237 ms237 rc237 rs237 : Nat, mc237 + rc237 ≤ rc ∧ ms237 + rs237 ≤ rs ∧ Cl G mX12_closes n mc237 ms237 [.ref (gb G + 45), .int (xs (Int32.toNatClampNeg (x3 + 1))), .int (xs (Int32.toNatClampNeg (x3 + 2)))] Z I233 J233 (fun r237 Z237 I237 J237 => ∃ v237 : Int32, r237 = some (.int v237) ∧ (zX Z237 ∧ (zModel Z237 45 ∧ Jd G (mLaw nm) (lawF G) (n + 1) rc237 rs237 18 [(0, .ref b), (1, .ref (gb G + 0)), (2, .ref (gb G + 45)), (3, .int (x3 + 6))] [] Z237 I237 J237))))))))))) ∧ ((((xs (Int32.toNatClampNeg x3)) &&& 63) : Int32).toInt = 33 → Cl G mX11_worst n 0 0 [.ref (gb G + 0)] Z I J (qi Z (fun v239 I238 J238 => (∃ mc240 ms240 rc240 rs240 : Nat, mc240 + rc240 ≤ rc ∧ ms240 + rs240 ≤ rs ∧ Cl G mX12_worst n mc240 ms240 [.ref (gb G + 45)] Z I238 J238 (fun r240 Z240 I240 J240 => ∃ v240 : Int32, r240 = some (.int v240) ∧ (zX Z240 ∧ (zModel Z240 45 ∧ Jd G (mLaw nm) (lawF G) (n + 1) rc240 rs240 18 [(0, .ref b), (1, .ref (gb G + 0)), (2, .ref (gb G + 45)), (3, .int (x3 + 6))] [] Z240 I240 J240))))))) ∧ ((((xs (Int32.toNatClampNeg x3)) &&& 63) : Int32).toInt = 34 → (vp_in (x3 + 1) L ∧ Cl G mX11_fits n 0 0 [.ref (gb G + 0), .int (xs (Int32.toNatClampNeg (x3 + 1)))] Z I J (qi Z (fun v243 I242 J242 => (vp_in (x3 + 1) L ∧ (∃ mc245 ms245 rc245 rs245 : Nat, mc245 + rc245 ≤ rc ∧ ms245 + rs245 ≤ rs ∧ Cl G mX12_fits n mc245 ms245 [.ref (gb G + 45), .int (xs (Int32.toNatClampNeg (x3 + 1)))] Z I242 J242 (fun r245 Z245 I245 J245 => ∃ v245 : Int32, r245 = some (.int v245) ∧ (zX Z245 ∧ (zModel Z245 45 ∧ Jd G (mLaw nm) (lawF G) (n + 1) rc245 rs245 18 [(0, .ref b), (1, .ref (gb G + 0)), (2, .ref (gb G + 45)), (3, .int (x3 + 6))] [] Z245 I245 J245))))))))) ∧ ((((xs (Int32.toNatClampNeg x3)) &&& 63) : Int32).toInt = 35 → (vp_in (x3 + 1) L ∧ Cl G mX11_sure n 0 0 [.ref (gb G + 0), .int (xs (Int32.toNatClampNeg (x3 + 1)))] Z I J (qi Z (fun v248 I247 J247 => (vp_in (x3 + 1) L ∧ (∃ mc250 ms250 rc250 rs250 : Nat, mc250 + rc250 ≤ rc ∧ ms250 + rs250 ≤ rs ∧ Cl G mX12_sure n mc250 ms250 [.ref (gb G + 45), .int (xs (Int32.toNatClampNeg (x3 + 1)))] Z I247 J247 (fun r250 Z250 I250 J250 => ∃ v250 : Int32, r250 = some (.int v250) ∧ (zX Z250 ∧ (zModel Z250 45 ∧ Jd G (mLaw nm) (lawF G) (n + 1) rc250 rs250 18 [(0, .ref b), (1, .ref (gb G + 0)), (2, .ref (gb G + 45)), (3, .int (x3 + 6))] [] Z250 I250 J250))))))))) ∧ ((((xs (Int32.toNatClampNeg x3)) &&& 63) : Int32).toInt = 36 → (vp_in (x3 + 1) L ∧ (vp_in (x3 + 2) L ∧ Cl G mX11_judge n 0 0 [.ref (gb G + 0), .int (xs (Int32.toNatClampNeg (x3 + 1))), .int (xs (Int32.toNatClampNeg (x3 + 2)))] Z I J (qi Z (fun v254 I253 J253 => (vp_in (x3 + 1) L ∧ (vp_in (x3 + 2) L ∧ Cl G mX12_judge n 0 0 [.ref (gb G + 45), .int (xs (Int32.toNatClampNeg (x3 + 1))), .int (xs (Int32.toNatClampNeg (x3 + 2)))] Z I253 J253 (qi Z (fun v258 I257 J257 => Jd G (mLaw nm) (lawF G) (n + 1) rc rs 18 [(0, .ref b), (1, .ref (gb G + 0)), (2, .ref (gb G + 45)), (3, .int (x3 + 6))] [] Z I257 J257))))))))) ∧ ((((xs (Int32.toNatClampNeg x3)) &&& 63) : Int32).toInt = 37 → (vp_in (x3 + 1) L ∧ (vp_in (x3 + 2) L ∧ (vp_in (x3 + 3) L ∧ Cl G mX11_behind n 0 0 [.ref (gb G + 0), .int (xs (Int32.toNatClampNeg (x3 + 1))), .int (xs (Int32.toNatClampNeg (x3 + 2))), .int (xs (Int32.toNatClampNeg (x3 + 3)))] Z I J (qi Z (fun v263 I262 J262 => (vp_in (x3 + 1) L ∧ (vp_in (x3 + 2) L ∧ (vp_in (x3 + 3) L ∧ (∃ mc267 ms267 rc267 rs267 : Nat, mc267 + rc267 ≤ rc ∧ ms267 + rs267 ≤ rs ∧ Cl G mX12_behind n mc267 ms267 [.ref (gb G + 45), .int (xs (Int32.toNatClampNeg (x3 + 1))), .int (xs (Int32.toNatClampNeg (x3 + 2))), .int (xs (Int32.toNatClampNeg (x3 + 3)))] Z I262 J262 (fun r267 Z267 I267 J267 => ∃ v267 : Int32, r267 = some (.int v267) ∧ (zX Z267 ∧ (zModel Z267 45 ∧ Jd G (mLaw nm) (lawF G) (n + 1) rc267 rs267 18 [(0, .ref b), (1, .ref (gb G + 0)), (2, .ref (gb G + 45)), (3, .int (x3 + 6))] [] Z267 I267 J267))))))))))))) ∧ ((((xs (Int32.toNatClampNeg x3)) &&& 63) : Int32).toInt = 38 → (vp_in (x3 + 1) L ∧ (vp_in (x3 + 2) L ∧ Cl G mX11_rides n 0 0 [.ref (gb G + 0), .int (xs (Int32.toNatClampNeg (x3 + 1))), .int (xs (Int32.toNatClampNeg (x3 + 2)))] Z I J (qi Z (fun v271 I270 J270 => (vp_in (x3 + 1) L ∧ (vp_in (x3 + 2) L ∧ Cl G mX12_rides n 0 0 [.ref (gb G + 45), .int (xs (Int32.toNatClampNeg (x3 + 1))), .int (xs (Int32.toNatClampNeg (x3 + 2)))] Z I270 J270 (qi Z (fun v275 I274 J274 => Jd G (mLaw nm) (lawF G) (n + 1) rc rs 18 [(0, .ref b), (1, .ref (gb G + 0)), (2, .ref (gb G + 45)), (3, .int (x3 + 6))] [] Z I274 J274))))))))) ∧ ((((xs (Int32.toNatClampNeg x3)) &&& 63) : Int32).toInt = 39 → (vp_in (x3 + 1) L ∧ Cl G mX11_day n 0 0 [.ref (gb G + 0), .int (xs (Int32.toNatClampNeg (x3 + 1)))] Z I J (qi Z (fun v278 I277 J277 => (vp_in (x3 + 1) L ∧ Cl G mX12_day n 0 0 [.ref (gb G + 45), .int (xs (Int32.toNatClampNeg (x3 + 1)))] Z I277 J277 (qi Z (fun v281 I280 J280 => Jd G (mLaw nm) (lawF G) (n + 1) rc rs 18 [(0, .ref b), (1, .ref (gb G + 0)), (2, .ref (gb G + 45)), (3, .int (x3 + 6))] [] Z I280 J280))))))) ∧ ((((xs (Int32.toNatClampNeg x3)) &&& 63) : Int32).toInt = 40 → (vp_in (x3 + 1) L ∧ Cl G mX11_meet n 0 0 [.ref (gb G + 0), .int (xs (Int32.toNatClampNeg (x3 + 1)))] Z I J (qi Z (fun v284 I283 J283 => (vp_in (x3 + 1) L ∧ Cl G mX12_meet n 0 0 [.ref (gb G + 45), .int (xs (Int32.toNatClampNeg (x3 + 1)))] Z I283 J283 (qi Z (fun v287 I286 J286 => Jd G (mLaw nm) (lawF G) (n + 1) rc rs 18 [(0, .ref b), (1, .ref (gb G + 0)), (2, .ref (gb G + 45)), (3, .int (x3 + 6))] [] Z I286 J286))))))) ∧ ((((xs (Int32.toNatClampNeg x3)) &&& 63) : Int32).toInt = 41 → Cl G mX11_year n 0 0 [.ref (gb G + 0)] Z I J (qi Z (fun v289 I288 J288 => Cl G mX12_year n 0 0 [.ref (gb G + 45)] Z I288 J288 (qi Z (fun v291 I290 J290 => Jd G (mLaw nm) (lawF G) (n + 1) rc rs 18 [(0, .ref b), (1, .ref (gb G + 0)), (2, .ref (gb G + 45)), (3, .int (x3 + 6))] [] Z I290 J290))))) ∧ ((((xs (Int32.toNatClampNeg x3)) &&& 63) : Int32).toInt = 42 → (vp_in (x3 + 1) L ∧ Cl G mX11_come n 0 0 [.ref (gb G + 0), .int (xs (Int32.toNatClampNeg (x3 + 1)))] Z I J (qi Z (fun v294 I293 J293 => (vp_in (x3 + 1) L ∧ Cl G mX12_come n 0 0 [.ref (gb G + 45), .int (xs (Int32.toNatClampNeg (x3 + 1)))] Z I293 J293 (qi Z (fun v297 I296 J296 => ((v294 = v297 → Jd G (mLaw nm) (lawF G) (n + 1) rc rs 18 [(0, .ref b), (1, .ref (gb G + 0)), (2, .ref (gb G + 45)), (3, .int (x3 + 6))] [] Z I296 J296) ∧ (¬ v294 = v297 → False))))))))) ∧ ((((xs (Int32.toNatClampNeg x3)) &&& 63) : Int32).toInt = 43 → (vp_in (x3 + 1) L ∧ Cl G mX11_seed n 0 0 [.ref (gb G + 0), .int (xs (Int32.toNatClampNeg (x3 + 1)))] Z I J (qi Z (fun v300 I299 J299 => (vp_in (x3 + 1) L ∧ Cl G mX12_seed n 0 0 [.ref (gb G + 45), .int (xs (Int32.toNatClampNeg (x3 + 1)))] Z I299 J299 (qi Z (fun v303 I302 J302 => Jd G (mLaw nm) (lawF G) (n + 1) rc rs 18 [(0, .ref b), (1, .ref (gb G + 0)), (2, .ref (gb G + 45)), (3, .int (x3 + 6))] [] Z I302 J302))))))) ∧ ((((xs (Int32.toNatClampNeg x3)) &&& 63) : Int32).toInt = 44 → Cl G mX11_image n 0 0 [.ref (gb G + 0)] Z I J (qi Z (fun v305 I304 J304 => (∃ mc306 ms306 rc306 rs306 : Nat, mc306 + rc306 ≤ rc ∧ ms306 + rs306 ≤ rs ∧ Cl G mX12_image n mc306 ms306 [.ref (gb G + 45)] Z I304 J304 (fun r306 Z306 I306 J306 => ∃ v306 : Int32, r306 = some (.int v306) ∧ (zX Z306 ∧ (zModel Z306 45 ∧ Jd G (mLaw nm) (lawF G) (n + 1) rc306 rs306 18 [(0, .ref b), (1, .ref (gb G + 0)), (2, .ref (gb G + 45)), (3, .int (x3 + 6))] [] Z306 I306 J306))))))) ∧ ((((xs (Int32.toNatClampNeg x3)) &&& 63) : Int32).toInt = 45 → Cl G mX11_back n 0 0 [.ref (gb G + 0)] Z I J (qi Z (fun v308 I307 J307 => Cl G mX12_back n 0 0 [.ref (gb G + 45)] Z I307 J307 (qi Z (fun v310 I309 J309 => Jd G (mLaw nm) (lawF G) (n + 1) rc rs 18 [(0, .ref b), (1, .ref (gb G + 0)), (2, .ref (gb G + 45)), (3, .int (x3 + 6))] [] Z I309 J309))))) ∧ ((((xs (Int32.toNatClampNeg x3)) &&& 63) : Int32).toInt = 46 → (vp_in (x3 + 1) L ∧ Cl G mX11_status n 0 0 [.ref (gb G + 0), .int (xs (Int32.toNatClampNeg (x3 + 1)))] Z I J (qi Z (fun v313 I312 J312 => (vp_in (x3 + 1) L ∧ Cl G mX12_status n 0 0 [.ref (gb G + 45), .int (xs (Int32.toNatClampNeg (x3 + 1)))] Z I312 J312 (qi Z (fun v316 I315 J315 => Jd G (mLaw nm) (lawF G) (n + 1) rc rs 18 [(0, .ref b), (1, .ref (gb G + 0)), (2, .ref (gb G + 45)), (3, .int (x3 + 6))] [] Z I315 J315)))))))))))) : Jd G (mLaw nm) (lawF G) (n + 1) rc rs 18 [(0, .ref b), (1, .ref (gb G + 0)), (2, .ref (gb G + 45)), (3, .int x3)] [] Z I J := by
  refine jd_iload_n (pc := 18) 3 dL_law_18 rfl rfl ?_
  refine jd_aload_n (pc := 19) 0 dL_law_19 rfl rfl ?_
  refine jd_slen (pc := 20) hXs dL_law_20 ?_
  refine jd_bipush (pc := 21) (v := 6) dL_law_21 (by decide) ?_
  refine jd_isub (pc := 23) dL_law_23 ?_
  refine jd_icmp_gt (pc := 24) 1573 dL_law_24 (by decide) (fun hc => ?_) (fun hc => ?_)
  · have h := h.1 hc
    refine jd_iconst (pc := 1573) (v := 1) dL_law_1573 (by decide) ?_
    exact jd_lawret (pc := 1574) dL_law_1574
  · have h := h.2 hc
    refine jd_aload_n (pc := 27) 0 dL_law_27 rfl rfl ?_
    refine jd_iload_n (pc := 28) 3 dL_law_28 rfl rfl ?_
    obtain ⟨hv1, h⟩ := h
    refine jd_sld (pc := 29) hXs hv1 dL_law_29 ?_
    refine jd_bipush (pc := 30) (v := 63) dL_law_30 (by decide) ?_
    refine jd_iand (pc := 32) dL_law_32 ?_
    by_cases hs : (((xs (Int32.toNatClampNeg x3)) &&& 63) : Int32).toInt < 0 ∨ 46 < (((xs (Int32.toNatClampNeg x3)) &&& 63) : Int32).toInt
    · have h := h.1 hs
      refine jd_tableOut (pc := 33) 1567 dL_law_33 hs (by decide) ?_
      refine jd_iinc (pc := 1567) (v := (x3 + 6)) 3 [(3, .int (x3 + 6)), (0, .ref b), (1, .ref (gb G + 0)), (2, .ref (gb G + 45))] dL_law_1567 rfl rfl (Nat.le_of_ble_eq_true rfl) rfl ?_
      refine jd_goto (pc := 1570) 18 dL_law_1570 (by decide) ?_
      exact jd_lv (lv2 := [(0, .ref b), (1, .ref (gb G + 0)), (2, .ref (gb G + 45)), (3, .int (x3 + 6))]) [1, 2, 3, 0] rfl h
    · have h := h.2
      have hs2 : (((xs (Int32.toNatClampNeg x3)) &&& 63) : Int32).toInt = 0 ∨ (((xs (Int32.toNatClampNeg x3)) &&& 63) : Int32).toInt = 1 ∨ (((xs (Int32.toNatClampNeg x3)) &&& 63) : Int32).toInt = 2 ∨ (((xs (Int32.toNatClampNeg x3)) &&& 63) : Int32).toInt = 3 ∨ (((xs (Int32.toNatClampNeg x3)) &&& 63) : Int32).toInt = 4 ∨ (((xs (Int32.toNatClampNeg x3)) &&& 63) : Int32).toInt = 5 ∨ (((xs (Int32.toNatClampNeg x3)) &&& 63) : Int32).toInt = 6 ∨ (((xs (Int32.toNatClampNeg x3)) &&& 63) : Int32).toInt = 7 ∨ (((xs (Int32.toNatClampNeg x3)) &&& 63) : Int32).toInt = 8 ∨ (((xs (Int32.toNatClampNeg x3)) &&& 63) : Int32).toInt = 9 ∨ (((xs (Int32.toNatClampNeg x3)) &&& 63) : Int32).toInt = 10 ∨ (((xs (Int32.toNatClampNeg x3)) &&& 63) : Int32).toInt = 11 ∨ (((xs (Int32.toNatClampNeg x3)) &&& 63) : Int32).toInt = 12 ∨ (((xs (Int32.toNatClampNeg x3)) &&& 63) : Int32).toInt = 13 ∨ (((xs (Int32.toNatClampNeg x3)) &&& 63) : Int32).toInt = 14 ∨ (((xs (Int32.toNatClampNeg x3)) &&& 63) : Int32).toInt = 15 ∨ (((xs (Int32.toNatClampNeg x3)) &&& 63) : Int32).toInt = 16 ∨ (((xs (Int32.toNatClampNeg x3)) &&& 63) : Int32).toInt = 17 ∨ (((xs (Int32.toNatClampNeg x3)) &&& 63) : Int32).toInt = 18 ∨ (((xs (Int32.toNatClampNeg x3)) &&& 63) : Int32).toInt = 19 ∨ (((xs (Int32.toNatClampNeg x3)) &&& 63) : Int32).toInt = 20 ∨ (((xs (Int32.toNatClampNeg x3)) &&& 63) : Int32).toInt = 21 ∨ (((xs (Int32.toNatClampNeg x3)) &&& 63) : Int32).toInt = 22 ∨ (((xs (Int32.toNatClampNeg x3)) &&& 63) : Int32).toInt = 23 ∨ (((xs (Int32.toNatClampNeg x3)) &&& 63) : Int32).toInt = 24 ∨ (((xs (Int32.toNatClampNeg x3)) &&& 63) : Int32).toInt = 25 ∨ (((xs (Int32.toNatClampNeg x3)) &&& 63) : Int32).toInt = 26 ∨ (((xs (Int32.toNatClampNeg x3)) &&& 63) : Int32).toInt = 27 ∨ (((xs (Int32.toNatClampNeg x3)) &&& 63) : Int32).toInt = 28 ∨ (((xs (Int32.toNatClampNeg x3)) &&& 63) : Int32).toInt = 29 ∨ (((xs (Int32.toNatClampNeg x3)) &&& 63) : Int32).toInt = 30 ∨ (((xs (Int32.toNatClampNeg x3)) &&& 63) : Int32).toInt = 31 ∨ (((xs (Int32.toNatClampNeg x3)) &&& 63) : Int32).toInt = 32 ∨ (((xs (Int32.toNatClampNeg x3)) &&& 63) : Int32).toInt = 33 ∨ (((xs (Int32.toNatClampNeg x3)) &&& 63) : Int32).toInt = 34 ∨ (((xs (Int32.toNatClampNeg x3)) &&& 63) : Int32).toInt = 35 ∨ (((xs (Int32.toNatClampNeg x3)) &&& 63) : Int32).toInt = 36 ∨ (((xs (Int32.toNatClampNeg x3)) &&& 63) : Int32).toInt = 37 ∨ (((xs (Int32.toNatClampNeg x3)) &&& 63) : Int32).toInt = 38 ∨ (((xs (Int32.toNatClampNeg x3)) &&& 63) : Int32).toInt = 39 ∨ (((xs (Int32.toNatClampNeg x3)) &&& 63) : Int32).toInt = 40 ∨ (((xs (Int32.toNatClampNeg x3)) &&& 63) : Int32).toInt = 41 ∨ (((xs (Int32.toNatClampNeg x3)) &&& 63) : Int32).toInt = 42 ∨ (((xs (Int32.toNatClampNeg x3)) &&& 63) : Int32).toInt = 43 ∨ (((xs (Int32.toNatClampNeg x3)) &&& 63) : Int32).toInt = 44 ∨ (((xs (Int32.toNatClampNeg x3)) &&& 63) : Int32).toInt = 45 ∨ (((xs (Int32.toNatClampNeg x3)) &&& 63) : Int32).toInt = 46 := by omega
      rcases hs2 with hq | hq | hq | hq | hq | hq | hq | hq | hq | hq | hq | hq | hq | hq | hq | hq | hq | hq | hq | hq | hq | hq | hq | hq | hq | hq | hq | hq | hq | hq | hq | hq | hq | hq | hq | hq | hq | hq | hq | hq | hq | hq | hq | hq | hq | hq | hq
      · have h := h.1 hq
        refine jd_tableIn (pc := 33) 236 dL_law_33 (by omega) (by omega) (by rw [hq]; rfl) (by decide) ?_
        refine jd_aload_n (pc := 236) 1 dL_law_236 rfl rfl ?_
        refine jd_aload_n (pc := 237) 0 dL_law_237 rfl rfl ?_
        refine jd_iload_n (pc := 238) 3 dL_law_238 rfl rfl ?_
        refine jd_iconst (pc := 239) (v := 1) dL_law_239 (by decide) ?_
        refine jd_iadd (pc := 240) dL_law_240 ?_
        obtain ⟨hv2, h⟩ := h
        refine jd_sld (pc := 241) hXs hv2 dL_law_241 ?_
        refine jd_aload_n (pc := 242) 0 dL_law_242 rfl rfl ?_
        refine jd_iload_n (pc := 243) 3 dL_law_243 rfl rfl ?_
        refine jd_iconst (pc := 244) (v := 2) dL_law_244 (by decide) ?_
        refine jd_iadd (pc := 245) dL_law_245 ?_
        obtain ⟨hv3, h⟩ := h
        refine jd_sld (pc := 246) hXs hv3 dL_law_246 ?_
        refine jd_aload_n (pc := 247) 0 dL_law_247 rfl rfl ?_
        refine jd_iload_n (pc := 248) 3 dL_law_248 rfl rfl ?_
        refine jd_iconst (pc := 249) (v := 3) dL_law_249 (by decide) ?_
        refine jd_iadd (pc := 250) dL_law_250 ?_
        obtain ⟨hv4, h⟩ := h
        refine jd_sld (pc := 251) hXs hv4 dL_law_251 ?_
        obtain ⟨mc5, ms5, rc5, rs5, hb1, hb2, h⟩ := h
        refine jd_callV (pc := 252) (M2 := mX11_row) (id := 0) (ci := 10) (T := TX11) (N := 9) (rc2 := rc5) (rs2 := rs5) (av := [.int (xs (Int32.toNatClampNeg (x3 + 1))), .int (xs (Int32.toNatClampNeg (x3 + 2))), .int (xs (Int32.toNatClampNeg (x3 + 3)))]) kX11_row sX11_row rfl hX.1 lL_13 rfl rfl (Nat.le_of_ble_eq_true rfl) hb1 hb2 dL_law_252 (Cl.mono h (fun r5 Z5 I5 J5 h => ?_))
        obtain ⟨v5, rfl, h⟩ := h
        obtain ⟨hX, h⟩ := h
        obtain ⟨hM, h⟩ := h
        refine jd_pop (pc := 255) dL_law_255 rfl ?_
        refine jd_aload_n (pc := 256) 2 dL_law_256 rfl rfl ?_
        refine jd_aload_n (pc := 257) 0 dL_law_257 rfl rfl ?_
        refine jd_iload_n (pc := 258) 3 dL_law_258 rfl rfl ?_
        refine jd_iconst (pc := 259) (v := 1) dL_law_259 (by decide) ?_
        refine jd_iadd (pc := 260) dL_law_260 ?_
        obtain ⟨hv6, h⟩ := h
        refine jd_sld (pc := 261) hXs hv6 dL_law_261 ?_
        refine jd_aload_n (pc := 262) 0 dL_law_262 rfl rfl ?_
        refine jd_iload_n (pc := 263) 3 dL_law_263 rfl rfl ?_
        refine jd_iconst (pc := 264) (v := 2) dL_law_264 (by decide) ?_
        refine jd_iadd (pc := 265) dL_law_265 ?_
        obtain ⟨hv7, h⟩ := h
        refine jd_sld (pc := 266) hXs hv7 dL_law_266 ?_
        refine jd_aload_n (pc := 267) 0 dL_law_267 rfl rfl ?_
        refine jd_iload_n (pc := 268) 3 dL_law_268 rfl rfl ?_
        refine jd_iconst (pc := 269) (v := 3) dL_law_269 (by decide) ?_
        refine jd_iadd (pc := 270) dL_law_270 ?_
        obtain ⟨hv8, h⟩ := h
        refine jd_sld (pc := 271) hXs hv8 dL_law_271 ?_
        refine jd_callVi (pc := 272) (M2 := mX12_row) (id := 45) (ci := 11) (T := TX12) (N := 45) (av := [.int (xs (Int32.toNatClampNeg (x3 + 1))), .int (xs (Int32.toNatClampNeg (x3 + 2))), .int (xs (Int32.toNatClampNeg (x3 + 3)))]) kX12_row sX12_row rfl hM.1 lL_17 rfl rfl (Nat.le_of_ble_eq_true rfl) dL_law_272 h ?_
        intro v10 I9 J9 h
        refine jd_pop (pc := 275) dL_law_275 rfl ?_
        refine jd_goto (pc := 276) 1567 dL_law_276 (by decide) ?_
        refine jd_iinc (pc := 1567) (v := (x3 + 6)) 3 [(3, .int (x3 + 6)), (0, .ref b), (1, .ref (gb G + 0)), (2, .ref (gb G + 45))] dL_law_1567 rfl rfl (Nat.le_of_ble_eq_true rfl) rfl ?_
        refine jd_goto (pc := 1570) 18 dL_law_1570 (by decide) ?_
        exact jd_lv (lv2 := [(0, .ref b), (1, .ref (gb G + 0)), (2, .ref (gb G + 45)), (3, .int (x3 + 6))]) [1, 2, 3, 0] rfl h
      · have h := h.2.1 hq
        refine jd_tableIn (pc := 33) 279 dL_law_33 (by omega) (by omega) (by rw [hq]; rfl) (by decide) ?_
        refine jd_aload_n (pc := 279) 1 dL_law_279 rfl rfl ?_
        refine jd_aload_n (pc := 280) 0 dL_law_280 rfl rfl ?_
        refine jd_iload_n (pc := 281) 3 dL_law_281 rfl rfl ?_
        refine jd_iconst (pc := 282) (v := 1) dL_law_282 (by decide) ?_
        refine jd_iadd (pc := 283) dL_law_283 ?_
        obtain ⟨hv11, h⟩ := h
        refine jd_sld (pc := 284) hXs hv11 dL_law_284 ?_
        refine jd_aload_n (pc := 285) 0 dL_law_285 rfl rfl ?_
        refine jd_iload_n (pc := 286) 3 dL_law_286 rfl rfl ?_
        refine jd_iconst (pc := 287) (v := 2) dL_law_287 (by decide) ?_
        refine jd_iadd (pc := 288) dL_law_288 ?_
        obtain ⟨hv12, h⟩ := h
        refine jd_sld (pc := 289) hXs hv12 dL_law_289 ?_
        refine jd_aload_n (pc := 290) 0 dL_law_290 rfl rfl ?_
        refine jd_iload_n (pc := 291) 3 dL_law_291 rfl rfl ?_
        refine jd_iconst (pc := 292) (v := 3) dL_law_292 (by decide) ?_
        refine jd_iadd (pc := 293) dL_law_293 ?_
        obtain ⟨hv13, h⟩ := h
        refine jd_sld (pc := 294) hXs hv13 dL_law_294 ?_
        refine jd_i2l (pc := 295) dL_law_295 ?_
        refine jd_bipush (pc := 296) (v := 32) dL_law_296 (by decide) ?_
        refine jd_lshl (pc := 298) dL_law_298 ?_
        refine jd_aload_n (pc := 299) 0 dL_law_299 rfl rfl ?_
        refine jd_iload_n (pc := 300) 3 dL_law_300 rfl rfl ?_
        refine jd_iconst (pc := 301) (v := 4) dL_law_301 (by decide) ?_
        refine jd_iadd (pc := 302) dL_law_302 ?_
        obtain ⟨hv14, h⟩ := h
        refine jd_sld (pc := 303) hXs hv14 dL_law_303 ?_
        refine jd_i2l (pc := 304) dL_law_304 ?_
        refine jd_ldc2 (pc := 305) (v := 4294967295) qL_18 dL_law_305 ?_
        refine jd_land (pc := 308) dL_law_308 ?_
        refine jd_lor (pc := 309) dL_law_309 ?_
        refine jd_callVi (pc := 310) (M2 := mX11_set) (id := 0) (ci := 10) (T := TX11) (N := 9) (av := [.int (xs (Int32.toNatClampNeg (x3 + 1))), .int (xs (Int32.toNatClampNeg (x3 + 2))), .long (((Int32.toInt64 (xs (Int32.toNatClampNeg (x3 + 3)))) <<< (Int32.toInt64 32 &&& 63)) ||| ((Int32.toInt64 (xs (Int32.toNatClampNeg (x3 + 4)))) &&& 4294967295))]) kX11_set sX11_set rfl hX.1 lL_20 rfl rfl (Nat.le_of_ble_eq_true rfl) dL_law_310 h ?_
        intro v16 I15 J15 h
        refine jd_pop (pc := 313) dL_law_313 rfl ?_
        refine jd_aload_n (pc := 314) 2 dL_law_314 rfl rfl ?_
        refine jd_aload_n (pc := 315) 0 dL_law_315 rfl rfl ?_
        refine jd_iload_n (pc := 316) 3 dL_law_316 rfl rfl ?_
        refine jd_iconst (pc := 317) (v := 1) dL_law_317 (by decide) ?_
        refine jd_iadd (pc := 318) dL_law_318 ?_
        obtain ⟨hv17, h⟩ := h
        refine jd_sld (pc := 319) hXs hv17 dL_law_319 ?_
        refine jd_aload_n (pc := 320) 0 dL_law_320 rfl rfl ?_
        refine jd_iload_n (pc := 321) 3 dL_law_321 rfl rfl ?_
        refine jd_iconst (pc := 322) (v := 2) dL_law_322 (by decide) ?_
        refine jd_iadd (pc := 323) dL_law_323 ?_
        obtain ⟨hv18, h⟩ := h
        refine jd_sld (pc := 324) hXs hv18 dL_law_324 ?_
        refine jd_aload_n (pc := 325) 0 dL_law_325 rfl rfl ?_
        refine jd_iload_n (pc := 326) 3 dL_law_326 rfl rfl ?_
        refine jd_iconst (pc := 327) (v := 3) dL_law_327 (by decide) ?_
        refine jd_iadd (pc := 328) dL_law_328 ?_
        obtain ⟨hv19, h⟩ := h
        refine jd_sld (pc := 329) hXs hv19 dL_law_329 ?_
        refine jd_i2l (pc := 330) dL_law_330 ?_
        refine jd_bipush (pc := 331) (v := 32) dL_law_331 (by decide) ?_
        refine jd_lshl (pc := 333) dL_law_333 ?_
        refine jd_aload_n (pc := 334) 0 dL_law_334 rfl rfl ?_
        refine jd_iload_n (pc := 335) 3 dL_law_335 rfl rfl ?_
        refine jd_iconst (pc := 336) (v := 4) dL_law_336 (by decide) ?_
        refine jd_iadd (pc := 337) dL_law_337 ?_
        obtain ⟨hv20, h⟩ := h
        refine jd_sld (pc := 338) hXs hv20 dL_law_338 ?_
        refine jd_i2l (pc := 339) dL_law_339 ?_
        refine jd_ldc2 (pc := 340) (v := 4294967295) qL_18 dL_law_340 ?_
        refine jd_land (pc := 343) dL_law_343 ?_
        refine jd_lor (pc := 344) dL_law_344 ?_
        refine jd_callVi (pc := 345) (M2 := mX12_set) (id := 45) (ci := 11) (T := TX12) (N := 45) (av := [.int (xs (Int32.toNatClampNeg (x3 + 1))), .int (xs (Int32.toNatClampNeg (x3 + 2))), .long (((Int32.toInt64 (xs (Int32.toNatClampNeg (x3 + 3)))) <<< (Int32.toInt64 32 &&& 63)) ||| ((Int32.toInt64 (xs (Int32.toNatClampNeg (x3 + 4)))) &&& 4294967295))]) kX12_set sX12_set rfl hM.1 lL_24 rfl rfl (Nat.le_of_ble_eq_true rfl) dL_law_345 h ?_
        intro v22 I21 J21 h
        refine jd_pop (pc := 348) dL_law_348 rfl ?_
        refine jd_goto (pc := 349) 1567 dL_law_349 (by decide) ?_
        refine jd_iinc (pc := 1567) (v := (x3 + 6)) 3 [(3, .int (x3 + 6)), (0, .ref b), (1, .ref (gb G + 0)), (2, .ref (gb G + 45))] dL_law_1567 rfl rfl (Nat.le_of_ble_eq_true rfl) rfl ?_
        refine jd_goto (pc := 1570) 18 dL_law_1570 (by decide) ?_
        exact jd_lv (lv2 := [(0, .ref b), (1, .ref (gb G + 0)), (2, .ref (gb G + 45)), (3, .int (x3 + 6))]) [1, 2, 3, 0] rfl h
      · have h := h.2.2.1 hq
        refine jd_tableIn (pc := 33) 352 dL_law_33 (by omega) (by omega) (by rw [hq]; rfl) (by decide) ?_
        refine jd_aload_n (pc := 352) 1 dL_law_352 rfl rfl ?_
        refine jd_aload_n (pc := 353) 0 dL_law_353 rfl rfl ?_
        refine jd_iload_n (pc := 354) 3 dL_law_354 rfl rfl ?_
        refine jd_iconst (pc := 355) (v := 1) dL_law_355 (by decide) ?_
        refine jd_iadd (pc := 356) dL_law_356 ?_
        obtain ⟨hv23, h⟩ := h
        refine jd_sld (pc := 357) hXs hv23 dL_law_357 ?_
        refine jd_aload_n (pc := 358) 0 dL_law_358 rfl rfl ?_
        refine jd_iload_n (pc := 359) 3 dL_law_359 rfl rfl ?_
        refine jd_iconst (pc := 360) (v := 2) dL_law_360 (by decide) ?_
        refine jd_iadd (pc := 361) dL_law_361 ?_
        obtain ⟨hv24, h⟩ := h
        refine jd_sld (pc := 362) hXs hv24 dL_law_362 ?_
        refine jd_aload_n (pc := 363) 0 dL_law_363 rfl rfl ?_
        refine jd_iload_n (pc := 364) 3 dL_law_364 rfl rfl ?_
        refine jd_iconst (pc := 365) (v := 3) dL_law_365 (by decide) ?_
        refine jd_iadd (pc := 366) dL_law_366 ?_
        obtain ⟨hv25, h⟩ := h
        refine jd_sld (pc := 367) hXs hv25 dL_law_367 ?_
        refine jd_aload_n (pc := 368) 0 dL_law_368 rfl rfl ?_
        refine jd_iload_n (pc := 369) 3 dL_law_369 rfl rfl ?_
        refine jd_iconst (pc := 370) (v := 4) dL_law_370 (by decide) ?_
        refine jd_iadd (pc := 371) dL_law_371 ?_
        obtain ⟨hv26, h⟩ := h
        refine jd_sld (pc := 372) hXs hv26 dL_law_372 ?_
        refine jd_aload_n (pc := 373) 0 dL_law_373 rfl rfl ?_
        refine jd_iload_n (pc := 374) 3 dL_law_374 rfl rfl ?_
        refine jd_iconst (pc := 375) (v := 5) dL_law_375 (by decide) ?_
        refine jd_iadd (pc := 376) dL_law_376 ?_
        obtain ⟨hv27, h⟩ := h
        refine jd_sld (pc := 377) hXs hv27 dL_law_377 ?_
        refine jd_callVi (pc := 378) (M2 := mX11_copy) (id := 0) (ci := 10) (T := TX11) (N := 9) (av := [.int (xs (Int32.toNatClampNeg (x3 + 1))), .int (xs (Int32.toNatClampNeg (x3 + 2))), .int (xs (Int32.toNatClampNeg (x3 + 3))), .int (xs (Int32.toNatClampNeg (x3 + 4))), .int (xs (Int32.toNatClampNeg (x3 + 5)))]) kX11_copy sX11_copy rfl hX.1 lL_25 rfl rfl (Nat.le_of_ble_eq_true rfl) dL_law_378 h ?_
        intro v29 I28 J28 h
        refine jd_pop (pc := 381) dL_law_381 rfl ?_
        refine jd_aload_n (pc := 382) 2 dL_law_382 rfl rfl ?_
        refine jd_aload_n (pc := 383) 0 dL_law_383 rfl rfl ?_
        refine jd_iload_n (pc := 384) 3 dL_law_384 rfl rfl ?_
        refine jd_iconst (pc := 385) (v := 1) dL_law_385 (by decide) ?_
        refine jd_iadd (pc := 386) dL_law_386 ?_
        obtain ⟨hv30, h⟩ := h
        refine jd_sld (pc := 387) hXs hv30 dL_law_387 ?_
        refine jd_aload_n (pc := 388) 0 dL_law_388 rfl rfl ?_
        refine jd_iload_n (pc := 389) 3 dL_law_389 rfl rfl ?_
        refine jd_iconst (pc := 390) (v := 2) dL_law_390 (by decide) ?_
        refine jd_iadd (pc := 391) dL_law_391 ?_
        obtain ⟨hv31, h⟩ := h
        refine jd_sld (pc := 392) hXs hv31 dL_law_392 ?_
        refine jd_aload_n (pc := 393) 0 dL_law_393 rfl rfl ?_
        refine jd_iload_n (pc := 394) 3 dL_law_394 rfl rfl ?_
        refine jd_iconst (pc := 395) (v := 3) dL_law_395 (by decide) ?_
        refine jd_iadd (pc := 396) dL_law_396 ?_
        obtain ⟨hv32, h⟩ := h
        refine jd_sld (pc := 397) hXs hv32 dL_law_397 ?_
        refine jd_aload_n (pc := 398) 0 dL_law_398 rfl rfl ?_
        refine jd_iload_n (pc := 399) 3 dL_law_399 rfl rfl ?_
        refine jd_iconst (pc := 400) (v := 4) dL_law_400 (by decide) ?_
        refine jd_iadd (pc := 401) dL_law_401 ?_
        obtain ⟨hv33, h⟩ := h
        refine jd_sld (pc := 402) hXs hv33 dL_law_402 ?_
        refine jd_aload_n (pc := 403) 0 dL_law_403 rfl rfl ?_
        refine jd_iload_n (pc := 404) 3 dL_law_404 rfl rfl ?_
        refine jd_iconst (pc := 405) (v := 5) dL_law_405 (by decide) ?_
        refine jd_iadd (pc := 406) dL_law_406 ?_
        obtain ⟨hv34, h⟩ := h
        refine jd_sld (pc := 407) hXs hv34 dL_law_407 ?_
        refine jd_callVi (pc := 408) (M2 := mX12_copy) (id := 45) (ci := 11) (T := TX12) (N := 45) (av := [.int (xs (Int32.toNatClampNeg (x3 + 1))), .int (xs (Int32.toNatClampNeg (x3 + 2))), .int (xs (Int32.toNatClampNeg (x3 + 3))), .int (xs (Int32.toNatClampNeg (x3 + 4))), .int (xs (Int32.toNatClampNeg (x3 + 5)))]) kX12_copy sX12_copy rfl hM.1 lL_29 rfl rfl (Nat.le_of_ble_eq_true rfl) dL_law_408 h ?_
        intro v36 I35 J35 h
        refine jd_pop (pc := 411) dL_law_411 rfl ?_
        refine jd_goto (pc := 412) 1567 dL_law_412 (by decide) ?_
        refine jd_iinc (pc := 1567) (v := (x3 + 6)) 3 [(3, .int (x3 + 6)), (0, .ref b), (1, .ref (gb G + 0)), (2, .ref (gb G + 45))] dL_law_1567 rfl rfl (Nat.le_of_ble_eq_true rfl) rfl ?_
        refine jd_goto (pc := 1570) 18 dL_law_1570 (by decide) ?_
        exact jd_lv (lv2 := [(0, .ref b), (1, .ref (gb G + 0)), (2, .ref (gb G + 45)), (3, .int (x3 + 6))]) [1, 2, 3, 0] rfl h
      · have h := h.2.2.2.1 hq
        refine jd_tableIn (pc := 33) 415 dL_law_33 (by omega) (by omega) (by rw [hq]; rfl) (by decide) ?_
        refine jd_aload_n (pc := 415) 1 dL_law_415 rfl rfl ?_
        refine jd_aload_n (pc := 416) 0 dL_law_416 rfl rfl ?_
        refine jd_iload_n (pc := 417) 3 dL_law_417 rfl rfl ?_
        refine jd_iconst (pc := 418) (v := 1) dL_law_418 (by decide) ?_
        refine jd_iadd (pc := 419) dL_law_419 ?_
        obtain ⟨hv37, h⟩ := h
        refine jd_sld (pc := 420) hXs hv37 dL_law_420 ?_
        refine jd_aload_n (pc := 421) 0 dL_law_421 rfl rfl ?_
        refine jd_iload_n (pc := 422) 3 dL_law_422 rfl rfl ?_
        refine jd_iconst (pc := 423) (v := 2) dL_law_423 (by decide) ?_
        refine jd_iadd (pc := 424) dL_law_424 ?_
        obtain ⟨hv38, h⟩ := h
        refine jd_sld (pc := 425) hXs hv38 dL_law_425 ?_
        refine jd_callVl (pc := 426) (M2 := mX11_element) (id := 0) (ci := 10) (T := TX11) (N := 9) (av := [.int (xs (Int32.toNatClampNeg (x3 + 1))), .int (xs (Int32.toNatClampNeg (x3 + 2)))]) kX11_element sX11_element rfl hX.1 lL_30 rfl rfl (Nat.le_of_ble_eq_true rfl) dL_law_426 h ?_
        intro v40 I39 J39 h
        refine jd_pop2 (pc := 429) dL_law_429 rfl ?_
        refine jd_aload_n (pc := 430) 2 dL_law_430 rfl rfl ?_
        refine jd_aload_n (pc := 431) 0 dL_law_431 rfl rfl ?_
        refine jd_iload_n (pc := 432) 3 dL_law_432 rfl rfl ?_
        refine jd_iconst (pc := 433) (v := 1) dL_law_433 (by decide) ?_
        refine jd_iadd (pc := 434) dL_law_434 ?_
        obtain ⟨hv41, h⟩ := h
        refine jd_sld (pc := 435) hXs hv41 dL_law_435 ?_
        refine jd_aload_n (pc := 436) 0 dL_law_436 rfl rfl ?_
        refine jd_iload_n (pc := 437) 3 dL_law_437 rfl rfl ?_
        refine jd_iconst (pc := 438) (v := 2) dL_law_438 (by decide) ?_
        refine jd_iadd (pc := 439) dL_law_439 ?_
        obtain ⟨hv42, h⟩ := h
        refine jd_sld (pc := 440) hXs hv42 dL_law_440 ?_
        refine jd_callVl (pc := 441) (M2 := mX12_element) (id := 45) (ci := 11) (T := TX12) (N := 45) (av := [.int (xs (Int32.toNatClampNeg (x3 + 1))), .int (xs (Int32.toNatClampNeg (x3 + 2)))]) kX12_element sX12_element rfl hM.1 lL_34 rfl rfl (Nat.le_of_ble_eq_true rfl) dL_law_441 h ?_
        intro v44 I43 J43 h
        refine jd_pop2 (pc := 444) dL_law_444 rfl ?_
        refine jd_goto (pc := 445) 1567 dL_law_445 (by decide) ?_
        refine jd_iinc (pc := 1567) (v := (x3 + 6)) 3 [(3, .int (x3 + 6)), (0, .ref b), (1, .ref (gb G + 0)), (2, .ref (gb G + 45))] dL_law_1567 rfl rfl (Nat.le_of_ble_eq_true rfl) rfl ?_
        refine jd_goto (pc := 1570) 18 dL_law_1570 (by decide) ?_
        exact jd_lv (lv2 := [(0, .ref b), (1, .ref (gb G + 0)), (2, .ref (gb G + 45)), (3, .int (x3 + 6))]) [1, 2, 3, 0] rfl h
      · have h := h.2.2.2.2.1 hq
        refine jd_tableIn (pc := 33) 448 dL_law_33 (by omega) (by omega) (by rw [hq]; rfl) (by decide) ?_
        refine jd_aload_n (pc := 448) 1 dL_law_448 rfl rfl ?_
        refine jd_aload_n (pc := 449) 0 dL_law_449 rfl rfl ?_
        refine jd_iload_n (pc := 450) 3 dL_law_450 rfl rfl ?_
        refine jd_iconst (pc := 451) (v := 1) dL_law_451 (by decide) ?_
        refine jd_iadd (pc := 452) dL_law_452 ?_
        obtain ⟨hv45, h⟩ := h
        refine jd_sld (pc := 453) hXs hv45 dL_law_453 ?_
        refine jd_callVi (pc := 454) (M2 := mX11_holds) (id := 0) (ci := 10) (T := TX11) (N := 9) (av := [.int (xs (Int32.toNatClampNeg (x3 + 1)))]) kX11_holds sX11_holds rfl hX.1 lL_35 rfl rfl (Nat.le_of_ble_eq_true rfl) dL_law_454 h ?_
        intro v47 I46 J46 h
        refine jd_pop (pc := 457) dL_law_457 rfl ?_
        refine jd_aload_n (pc := 458) 2 dL_law_458 rfl rfl ?_
        refine jd_aload_n (pc := 459) 0 dL_law_459 rfl rfl ?_
        refine jd_iload_n (pc := 460) 3 dL_law_460 rfl rfl ?_
        refine jd_iconst (pc := 461) (v := 1) dL_law_461 (by decide) ?_
        refine jd_iadd (pc := 462) dL_law_462 ?_
        obtain ⟨hv48, h⟩ := h
        refine jd_sld (pc := 463) hXs hv48 dL_law_463 ?_
        refine jd_callVi (pc := 464) (M2 := mX12_holds) (id := 45) (ci := 11) (T := TX12) (N := 45) (av := [.int (xs (Int32.toNatClampNeg (x3 + 1)))]) kX12_holds sX12_holds rfl hM.1 lL_39 rfl rfl (Nat.le_of_ble_eq_true rfl) dL_law_464 h ?_
        intro v50 I49 J49 h
        refine jd_pop (pc := 467) dL_law_467 rfl ?_
        refine jd_goto (pc := 468) 1567 dL_law_468 (by decide) ?_
        refine jd_iinc (pc := 1567) (v := (x3 + 6)) 3 [(3, .int (x3 + 6)), (0, .ref b), (1, .ref (gb G + 0)), (2, .ref (gb G + 45))] dL_law_1567 rfl rfl (Nat.le_of_ble_eq_true rfl) rfl ?_
        refine jd_goto (pc := 1570) 18 dL_law_1570 (by decide) ?_
        exact jd_lv (lv2 := [(0, .ref b), (1, .ref (gb G + 0)), (2, .ref (gb G + 45)), (3, .int (x3 + 6))]) [1, 2, 3, 0] rfl h
      · have h := h.2.2.2.2.2.1 hq
        refine jd_tableIn (pc := 33) 471 dL_law_33 (by omega) (by omega) (by rw [hq]; rfl) (by decide) ?_
        refine jd_aload_n (pc := 471) 1 dL_law_471 rfl rfl ?_
        refine jd_aload_n (pc := 472) 0 dL_law_472 rfl rfl ?_
        refine jd_iload_n (pc := 473) 3 dL_law_473 rfl rfl ?_
        refine jd_iconst (pc := 474) (v := 1) dL_law_474 (by decide) ?_
        refine jd_iadd (pc := 475) dL_law_475 ?_
        obtain ⟨hv51, h⟩ := h
        refine jd_sld (pc := 476) hXs hv51 dL_law_476 ?_
        refine jd_aload_n (pc := 477) 0 dL_law_477 rfl rfl ?_
        refine jd_iload_n (pc := 478) 3 dL_law_478 rfl rfl ?_
        refine jd_iconst (pc := 479) (v := 2) dL_law_479 (by decide) ?_
        refine jd_iadd (pc := 480) dL_law_480 ?_
        obtain ⟨hv52, h⟩ := h
        refine jd_sld (pc := 481) hXs hv52 dL_law_481 ?_
        refine jd_aload_n (pc := 482) 0 dL_law_482 rfl rfl ?_
        refine jd_iload_n (pc := 483) 3 dL_law_483 rfl rfl ?_
        refine jd_iconst (pc := 484) (v := 3) dL_law_484 (by decide) ?_
        refine jd_iadd (pc := 485) dL_law_485 ?_
        obtain ⟨hv53, h⟩ := h
        refine jd_sld (pc := 486) hXs hv53 dL_law_486 ?_
        obtain ⟨mc54, ms54, rc54, rs54, hb1, hb2, h⟩ := h
        refine jd_callV (pc := 487) (M2 := mX11_coachman) (id := 0) (ci := 10) (T := TX11) (N := 9) (rc2 := rc54) (rs2 := rs54) (av := [.int (xs (Int32.toNatClampNeg (x3 + 1))), .int (xs (Int32.toNatClampNeg (x3 + 2))), .int (xs (Int32.toNatClampNeg (x3 + 3)))]) kX11_coachman sX11_coachman rfl hX.1 lL_40 rfl rfl (Nat.le_of_ble_eq_true rfl) hb1 hb2 dL_law_487 (Cl.mono h (fun r54 Z54 I54 J54 h => ?_))
        obtain ⟨v54, rfl, h⟩ := h
        obtain ⟨hX, h⟩ := h
        obtain ⟨hM, h⟩ := h
        refine jd_pop (pc := 490) dL_law_490 rfl ?_
        refine jd_aload_n (pc := 491) 2 dL_law_491 rfl rfl ?_
        refine jd_aload_n (pc := 492) 0 dL_law_492 rfl rfl ?_
        refine jd_iload_n (pc := 493) 3 dL_law_493 rfl rfl ?_
        refine jd_iconst (pc := 494) (v := 1) dL_law_494 (by decide) ?_
        refine jd_iadd (pc := 495) dL_law_495 ?_
        obtain ⟨hv55, h⟩ := h
        refine jd_sld (pc := 496) hXs hv55 dL_law_496 ?_
        refine jd_aload_n (pc := 497) 0 dL_law_497 rfl rfl ?_
        refine jd_iload_n (pc := 498) 3 dL_law_498 rfl rfl ?_
        refine jd_iconst (pc := 499) (v := 2) dL_law_499 (by decide) ?_
        refine jd_iadd (pc := 500) dL_law_500 ?_
        obtain ⟨hv56, h⟩ := h
        refine jd_sld (pc := 501) hXs hv56 dL_law_501 ?_
        refine jd_aload_n (pc := 502) 0 dL_law_502 rfl rfl ?_
        refine jd_iload_n (pc := 503) 3 dL_law_503 rfl rfl ?_
        refine jd_iconst (pc := 504) (v := 3) dL_law_504 (by decide) ?_
        refine jd_iadd (pc := 505) dL_law_505 ?_
        obtain ⟨hv57, h⟩ := h
        refine jd_sld (pc := 506) hXs hv57 dL_law_506 ?_
        refine jd_callVi (pc := 507) (M2 := mX12_coachman) (id := 45) (ci := 11) (T := TX12) (N := 45) (av := [.int (xs (Int32.toNatClampNeg (x3 + 1))), .int (xs (Int32.toNatClampNeg (x3 + 2))), .int (xs (Int32.toNatClampNeg (x3 + 3)))]) kX12_coachman sX12_coachman rfl hM.1 lL_43 rfl rfl (Nat.le_of_ble_eq_true rfl) dL_law_507 h ?_
        intro v59 I58 J58 h
        refine jd_pop (pc := 510) dL_law_510 rfl ?_
        refine jd_goto (pc := 511) 1567 dL_law_511 (by decide) ?_
        refine jd_iinc (pc := 1567) (v := (x3 + 6)) 3 [(3, .int (x3 + 6)), (0, .ref b), (1, .ref (gb G + 0)), (2, .ref (gb G + 45))] dL_law_1567 rfl rfl (Nat.le_of_ble_eq_true rfl) rfl ?_
        refine jd_goto (pc := 1570) 18 dL_law_1570 (by decide) ?_
        exact jd_lv (lv2 := [(0, .ref b), (1, .ref (gb G + 0)), (2, .ref (gb G + 45)), (3, .int (x3 + 6))]) [1, 2, 3, 0] rfl h
      · have h := h.2.2.2.2.2.2.1 hq
        refine jd_tableIn (pc := 33) 514 dL_law_33 (by omega) (by omega) (by rw [hq]; rfl) (by decide) ?_
        refine jd_aload_n (pc := 514) 1 dL_law_514 rfl rfl ?_
        refine jd_aload_n (pc := 515) 0 dL_law_515 rfl rfl ?_
        refine jd_iload_n (pc := 516) 3 dL_law_516 rfl rfl ?_
        refine jd_iconst (pc := 517) (v := 1) dL_law_517 (by decide) ?_
        refine jd_iadd (pc := 518) dL_law_518 ?_
        obtain ⟨hv60, h⟩ := h
        refine jd_sld (pc := 519) hXs hv60 dL_law_519 ?_
        refine jd_aload_n (pc := 520) 0 dL_law_520 rfl rfl ?_
        refine jd_iload_n (pc := 521) 3 dL_law_521 rfl rfl ?_
        refine jd_iconst (pc := 522) (v := 2) dL_law_522 (by decide) ?_
        refine jd_iadd (pc := 523) dL_law_523 ?_
        obtain ⟨hv61, h⟩ := h
        refine jd_sld (pc := 524) hXs hv61 dL_law_524 ?_
        refine jd_callVi (pc := 525) (M2 := mX11_says) (id := 0) (ci := 10) (T := TX11) (N := 9) (av := [.int (xs (Int32.toNatClampNeg (x3 + 1))), .int (xs (Int32.toNatClampNeg (x3 + 2)))]) kX11_says sX11_says rfl hX.1 lL_44 rfl rfl (Nat.le_of_ble_eq_true rfl) dL_law_525 h ?_
        intro v63 I62 J62 h
        refine jd_pop (pc := 528) dL_law_528 rfl ?_
        refine jd_aload_n (pc := 529) 2 dL_law_529 rfl rfl ?_
        refine jd_aload_n (pc := 530) 0 dL_law_530 rfl rfl ?_
        refine jd_iload_n (pc := 531) 3 dL_law_531 rfl rfl ?_
        refine jd_iconst (pc := 532) (v := 1) dL_law_532 (by decide) ?_
        refine jd_iadd (pc := 533) dL_law_533 ?_
        obtain ⟨hv64, h⟩ := h
        refine jd_sld (pc := 534) hXs hv64 dL_law_534 ?_
        refine jd_aload_n (pc := 535) 0 dL_law_535 rfl rfl ?_
        refine jd_iload_n (pc := 536) 3 dL_law_536 rfl rfl ?_
        refine jd_iconst (pc := 537) (v := 2) dL_law_537 (by decide) ?_
        refine jd_iadd (pc := 538) dL_law_538 ?_
        obtain ⟨hv65, h⟩ := h
        refine jd_sld (pc := 539) hXs hv65 dL_law_539 ?_
        refine jd_callVi (pc := 540) (M2 := mX12_says) (id := 45) (ci := 11) (T := TX12) (N := 45) (av := [.int (xs (Int32.toNatClampNeg (x3 + 1))), .int (xs (Int32.toNatClampNeg (x3 + 2)))]) kX12_says sX12_says rfl hM.1 lL_48 rfl rfl (Nat.le_of_ble_eq_true rfl) dL_law_540 h ?_
        intro v67 I66 J66 h
        refine jd_pop (pc := 543) dL_law_543 rfl ?_
        refine jd_goto (pc := 544) 1567 dL_law_544 (by decide) ?_
        refine jd_iinc (pc := 1567) (v := (x3 + 6)) 3 [(3, .int (x3 + 6)), (0, .ref b), (1, .ref (gb G + 0)), (2, .ref (gb G + 45))] dL_law_1567 rfl rfl (Nat.le_of_ble_eq_true rfl) rfl ?_
        refine jd_goto (pc := 1570) 18 dL_law_1570 (by decide) ?_
        exact jd_lv (lv2 := [(0, .ref b), (1, .ref (gb G + 0)), (2, .ref (gb G + 45)), (3, .int (x3 + 6))]) [1, 2, 3, 0] rfl h
      · have h := h.2.2.2.2.2.2.2.1 hq
        refine jd_tableIn (pc := 33) 547 dL_law_33 (by omega) (by omega) (by rw [hq]; rfl) (by decide) ?_
        refine jd_aload_n (pc := 547) 1 dL_law_547 rfl rfl ?_
        refine jd_aload_n (pc := 548) 0 dL_law_548 rfl rfl ?_
        refine jd_iload_n (pc := 549) 3 dL_law_549 rfl rfl ?_
        refine jd_iconst (pc := 550) (v := 1) dL_law_550 (by decide) ?_
        refine jd_iadd (pc := 551) dL_law_551 ?_
        obtain ⟨hv68, h⟩ := h
        refine jd_sld (pc := 552) hXs hv68 dL_law_552 ?_
        refine jd_aload_n (pc := 553) 0 dL_law_553 rfl rfl ?_
        refine jd_iload_n (pc := 554) 3 dL_law_554 rfl rfl ?_
        refine jd_iconst (pc := 555) (v := 2) dL_law_555 (by decide) ?_
        refine jd_iadd (pc := 556) dL_law_556 ?_
        obtain ⟨hv69, h⟩ := h
        refine jd_sld (pc := 557) hXs hv69 dL_law_557 ?_
        refine jd_callVi (pc := 558) (M2 := mX11_person) (id := 0) (ci := 10) (T := TX11) (N := 9) (av := [.int (xs (Int32.toNatClampNeg (x3 + 1))), .int (xs (Int32.toNatClampNeg (x3 + 2)))]) kX11_person sX11_person rfl hX.1 lL_49 rfl rfl (Nat.le_of_ble_eq_true rfl) dL_law_558 h ?_
        intro v71 I70 J70 h
        refine jd_pop (pc := 561) dL_law_561 rfl ?_
        refine jd_aload_n (pc := 562) 2 dL_law_562 rfl rfl ?_
        refine jd_aload_n (pc := 563) 0 dL_law_563 rfl rfl ?_
        refine jd_iload_n (pc := 564) 3 dL_law_564 rfl rfl ?_
        refine jd_iconst (pc := 565) (v := 1) dL_law_565 (by decide) ?_
        refine jd_iadd (pc := 566) dL_law_566 ?_
        obtain ⟨hv72, h⟩ := h
        refine jd_sld (pc := 567) hXs hv72 dL_law_567 ?_
        refine jd_aload_n (pc := 568) 0 dL_law_568 rfl rfl ?_
        refine jd_iload_n (pc := 569) 3 dL_law_569 rfl rfl ?_
        refine jd_iconst (pc := 570) (v := 2) dL_law_570 (by decide) ?_
        refine jd_iadd (pc := 571) dL_law_571 ?_
        obtain ⟨hv73, h⟩ := h
        refine jd_sld (pc := 572) hXs hv73 dL_law_572 ?_
        refine jd_callVi (pc := 573) (M2 := mX12_person) (id := 45) (ci := 11) (T := TX12) (N := 45) (av := [.int (xs (Int32.toNatClampNeg (x3 + 1))), .int (xs (Int32.toNatClampNeg (x3 + 2)))]) kX12_person sX12_person rfl hM.1 lL_52 rfl rfl (Nat.le_of_ble_eq_true rfl) dL_law_573 h ?_
        intro v75 I74 J74 h
        refine jd_pop (pc := 576) dL_law_576 rfl ?_
        refine jd_goto (pc := 577) 1567 dL_law_577 (by decide) ?_
        refine jd_iinc (pc := 1567) (v := (x3 + 6)) 3 [(3, .int (x3 + 6)), (0, .ref b), (1, .ref (gb G + 0)), (2, .ref (gb G + 45))] dL_law_1567 rfl rfl (Nat.le_of_ble_eq_true rfl) rfl ?_
        refine jd_goto (pc := 1570) 18 dL_law_1570 (by decide) ?_
        exact jd_lv (lv2 := [(0, .ref b), (1, .ref (gb G + 0)), (2, .ref (gb G + 45)), (3, .int (x3 + 6))]) [1, 2, 3, 0] rfl h
      · have h := h.2.2.2.2.2.2.2.2.1 hq
        refine jd_tableIn (pc := 33) 580 dL_law_33 (by omega) (by omega) (by rw [hq]; rfl) (by decide) ?_
        refine jd_aload_n (pc := 580) 1 dL_law_580 rfl rfl ?_
        refine jd_aload_n (pc := 581) 0 dL_law_581 rfl rfl ?_
        refine jd_iload_n (pc := 582) 3 dL_law_582 rfl rfl ?_
        refine jd_iconst (pc := 583) (v := 1) dL_law_583 (by decide) ?_
        refine jd_iadd (pc := 584) dL_law_584 ?_
        obtain ⟨hv76, h⟩ := h
        refine jd_sld (pc := 585) hXs hv76 dL_law_585 ?_
        refine jd_aload_n (pc := 586) 0 dL_law_586 rfl rfl ?_
        refine jd_iload_n (pc := 587) 3 dL_law_587 rfl rfl ?_
        refine jd_iconst (pc := 588) (v := 2) dL_law_588 (by decide) ?_
        refine jd_iadd (pc := 589) dL_law_589 ?_
        obtain ⟨hv77, h⟩ := h
        refine jd_sld (pc := 590) hXs hv77 dL_law_590 ?_
        refine jd_aload_n (pc := 591) 0 dL_law_591 rfl rfl ?_
        refine jd_iload_n (pc := 592) 3 dL_law_592 rfl rfl ?_
        refine jd_iconst (pc := 593) (v := 3) dL_law_593 (by decide) ?_
        refine jd_iadd (pc := 594) dL_law_594 ?_
        obtain ⟨hv78, h⟩ := h
        refine jd_sld (pc := 595) hXs hv78 dL_law_595 ?_
        refine jd_callVi (pc := 596) (M2 := mX11_change) (id := 0) (ci := 10) (T := TX11) (N := 9) (av := [.int (xs (Int32.toNatClampNeg (x3 + 1))), .int (xs (Int32.toNatClampNeg (x3 + 2))), .int (xs (Int32.toNatClampNeg (x3 + 3)))]) kX11_change sX11_change rfl hX.1 lL_53 rfl rfl (Nat.le_of_ble_eq_true rfl) dL_law_596 h ?_
        intro v80 I79 J79 h
        refine jd_pop (pc := 599) dL_law_599 rfl ?_
        refine jd_aload_n (pc := 600) 2 dL_law_600 rfl rfl ?_
        refine jd_aload_n (pc := 601) 0 dL_law_601 rfl rfl ?_
        refine jd_iload_n (pc := 602) 3 dL_law_602 rfl rfl ?_
        refine jd_iconst (pc := 603) (v := 1) dL_law_603 (by decide) ?_
        refine jd_iadd (pc := 604) dL_law_604 ?_
        obtain ⟨hv81, h⟩ := h
        refine jd_sld (pc := 605) hXs hv81 dL_law_605 ?_
        refine jd_aload_n (pc := 606) 0 dL_law_606 rfl rfl ?_
        refine jd_iload_n (pc := 607) 3 dL_law_607 rfl rfl ?_
        refine jd_iconst (pc := 608) (v := 2) dL_law_608 (by decide) ?_
        refine jd_iadd (pc := 609) dL_law_609 ?_
        obtain ⟨hv82, h⟩ := h
        refine jd_sld (pc := 610) hXs hv82 dL_law_610 ?_
        refine jd_aload_n (pc := 611) 0 dL_law_611 rfl rfl ?_
        refine jd_iload_n (pc := 612) 3 dL_law_612 rfl rfl ?_
        refine jd_iconst (pc := 613) (v := 3) dL_law_613 (by decide) ?_
        refine jd_iadd (pc := 614) dL_law_614 ?_
        obtain ⟨hv83, h⟩ := h
        refine jd_sld (pc := 615) hXs hv83 dL_law_615 ?_
        refine jd_callVi (pc := 616) (M2 := mX12_change) (id := 45) (ci := 11) (T := TX12) (N := 45) (av := [.int (xs (Int32.toNatClampNeg (x3 + 1))), .int (xs (Int32.toNatClampNeg (x3 + 2))), .int (xs (Int32.toNatClampNeg (x3 + 3)))]) kX12_change sX12_change rfl hM.1 lL_56 rfl rfl (Nat.le_of_ble_eq_true rfl) dL_law_616 h ?_
        intro v85 I84 J84 h
        refine jd_pop (pc := 619) dL_law_619 rfl ?_
        refine jd_goto (pc := 620) 1567 dL_law_620 (by decide) ?_
        refine jd_iinc (pc := 1567) (v := (x3 + 6)) 3 [(3, .int (x3 + 6)), (0, .ref b), (1, .ref (gb G + 0)), (2, .ref (gb G + 45))] dL_law_1567 rfl rfl (Nat.le_of_ble_eq_true rfl) rfl ?_
        refine jd_goto (pc := 1570) 18 dL_law_1570 (by decide) ?_
        exact jd_lv (lv2 := [(0, .ref b), (1, .ref (gb G + 0)), (2, .ref (gb G + 45)), (3, .int (x3 + 6))]) [1, 2, 3, 0] rfl h
      · have h := h.2.2.2.2.2.2.2.2.2.1 hq
        refine jd_tableIn (pc := 33) 623 dL_law_33 (by omega) (by omega) (by rw [hq]; rfl) (by decide) ?_
        refine jd_aload_n (pc := 623) 1 dL_law_623 rfl rfl ?_
        refine jd_aload_n (pc := 624) 0 dL_law_624 rfl rfl ?_
        refine jd_iload_n (pc := 625) 3 dL_law_625 rfl rfl ?_
        refine jd_iconst (pc := 626) (v := 1) dL_law_626 (by decide) ?_
        refine jd_iadd (pc := 627) dL_law_627 ?_
        obtain ⟨hv86, h⟩ := h
        refine jd_sld (pc := 628) hXs hv86 dL_law_628 ?_
        refine jd_aload_n (pc := 629) 0 dL_law_629 rfl rfl ?_
        refine jd_iload_n (pc := 630) 3 dL_law_630 rfl rfl ?_
        refine jd_iconst (pc := 631) (v := 2) dL_law_631 (by decide) ?_
        refine jd_iadd (pc := 632) dL_law_632 ?_
        obtain ⟨hv87, h⟩ := h
        refine jd_sld (pc := 633) hXs hv87 dL_law_633 ?_
        refine jd_aload_n (pc := 634) 0 dL_law_634 rfl rfl ?_
        refine jd_iload_n (pc := 635) 3 dL_law_635 rfl rfl ?_
        refine jd_iconst (pc := 636) (v := 3) dL_law_636 (by decide) ?_
        refine jd_iadd (pc := 637) dL_law_637 ?_
        obtain ⟨hv88, h⟩ := h
        refine jd_sld (pc := 638) hXs hv88 dL_law_638 ?_
        refine jd_callVi (pc := 639) (M2 := mX11_know) (id := 0) (ci := 10) (T := TX11) (N := 9) (av := [.int (xs (Int32.toNatClampNeg (x3 + 1))), .int (xs (Int32.toNatClampNeg (x3 + 2))), .int (xs (Int32.toNatClampNeg (x3 + 3)))]) kX11_know sX11_know rfl hX.1 lL_57 rfl rfl (Nat.le_of_ble_eq_true rfl) dL_law_639 h ?_
        intro v90 I89 J89 h
        refine jd_pop (pc := 642) dL_law_642 rfl ?_
        refine jd_aload_n (pc := 643) 2 dL_law_643 rfl rfl ?_
        refine jd_aload_n (pc := 644) 0 dL_law_644 rfl rfl ?_
        refine jd_iload_n (pc := 645) 3 dL_law_645 rfl rfl ?_
        refine jd_iconst (pc := 646) (v := 1) dL_law_646 (by decide) ?_
        refine jd_iadd (pc := 647) dL_law_647 ?_
        obtain ⟨hv91, h⟩ := h
        refine jd_sld (pc := 648) hXs hv91 dL_law_648 ?_
        refine jd_aload_n (pc := 649) 0 dL_law_649 rfl rfl ?_
        refine jd_iload_n (pc := 650) 3 dL_law_650 rfl rfl ?_
        refine jd_iconst (pc := 651) (v := 2) dL_law_651 (by decide) ?_
        refine jd_iadd (pc := 652) dL_law_652 ?_
        obtain ⟨hv92, h⟩ := h
        refine jd_sld (pc := 653) hXs hv92 dL_law_653 ?_
        refine jd_aload_n (pc := 654) 0 dL_law_654 rfl rfl ?_
        refine jd_iload_n (pc := 655) 3 dL_law_655 rfl rfl ?_
        refine jd_iconst (pc := 656) (v := 3) dL_law_656 (by decide) ?_
        refine jd_iadd (pc := 657) dL_law_657 ?_
        obtain ⟨hv93, h⟩ := h
        refine jd_sld (pc := 658) hXs hv93 dL_law_658 ?_
        refine jd_callVi (pc := 659) (M2 := mX12_know) (id := 45) (ci := 11) (T := TX12) (N := 45) (av := [.int (xs (Int32.toNatClampNeg (x3 + 1))), .int (xs (Int32.toNatClampNeg (x3 + 2))), .int (xs (Int32.toNatClampNeg (x3 + 3)))]) kX12_know sX12_know rfl hM.1 lL_60 rfl rfl (Nat.le_of_ble_eq_true rfl) dL_law_659 h ?_
        intro v95 I94 J94 h
        refine jd_pop (pc := 662) dL_law_662 rfl ?_
        refine jd_goto (pc := 663) 1567 dL_law_663 (by decide) ?_
        refine jd_iinc (pc := 1567) (v := (x3 + 6)) 3 [(3, .int (x3 + 6)), (0, .ref b), (1, .ref (gb G + 0)), (2, .ref (gb G + 45))] dL_law_1567 rfl rfl (Nat.le_of_ble_eq_true rfl) rfl ?_
        refine jd_goto (pc := 1570) 18 dL_law_1570 (by decide) ?_
        exact jd_lv (lv2 := [(0, .ref b), (1, .ref (gb G + 0)), (2, .ref (gb G + 45)), (3, .int (x3 + 6))]) [1, 2, 3, 0] rfl h
      · have h := h.2.2.2.2.2.2.2.2.2.2.1 hq
        refine jd_tableIn (pc := 33) 666 dL_law_33 (by omega) (by omega) (by rw [hq]; rfl) (by decide) ?_
        refine jd_aload_n (pc := 666) 1 dL_law_666 rfl rfl ?_
        refine jd_aload_n (pc := 667) 0 dL_law_667 rfl rfl ?_
        refine jd_iload_n (pc := 668) 3 dL_law_668 rfl rfl ?_
        refine jd_iconst (pc := 669) (v := 1) dL_law_669 (by decide) ?_
        refine jd_iadd (pc := 670) dL_law_670 ?_
        obtain ⟨hv96, h⟩ := h
        refine jd_sld (pc := 671) hXs hv96 dL_law_671 ?_
        refine jd_aload_n (pc := 672) 0 dL_law_672 rfl rfl ?_
        refine jd_iload_n (pc := 673) 3 dL_law_673 rfl rfl ?_
        refine jd_iconst (pc := 674) (v := 2) dL_law_674 (by decide) ?_
        refine jd_iadd (pc := 675) dL_law_675 ?_
        obtain ⟨hv97, h⟩ := h
        refine jd_sld (pc := 676) hXs hv97 dL_law_676 ?_
        refine jd_callVi (pc := 677) (M2 := mX11_ask) (id := 0) (ci := 10) (T := TX11) (N := 9) (av := [.int (xs (Int32.toNatClampNeg (x3 + 1))), .int (xs (Int32.toNatClampNeg (x3 + 2)))]) kX11_ask sX11_ask rfl hX.1 lL_61 rfl rfl (Nat.le_of_ble_eq_true rfl) dL_law_677 h ?_
        intro v99 I98 J98 h
        refine jd_pop (pc := 680) dL_law_680 rfl ?_
        refine jd_aload_n (pc := 681) 2 dL_law_681 rfl rfl ?_
        refine jd_aload_n (pc := 682) 0 dL_law_682 rfl rfl ?_
        refine jd_iload_n (pc := 683) 3 dL_law_683 rfl rfl ?_
        refine jd_iconst (pc := 684) (v := 1) dL_law_684 (by decide) ?_
        refine jd_iadd (pc := 685) dL_law_685 ?_
        obtain ⟨hv100, h⟩ := h
        refine jd_sld (pc := 686) hXs hv100 dL_law_686 ?_
        refine jd_aload_n (pc := 687) 0 dL_law_687 rfl rfl ?_
        refine jd_iload_n (pc := 688) 3 dL_law_688 rfl rfl ?_
        refine jd_iconst (pc := 689) (v := 2) dL_law_689 (by decide) ?_
        refine jd_iadd (pc := 690) dL_law_690 ?_
        obtain ⟨hv101, h⟩ := h
        refine jd_sld (pc := 691) hXs hv101 dL_law_691 ?_
        refine jd_callVi (pc := 692) (M2 := mX12_ask) (id := 45) (ci := 11) (T := TX12) (N := 45) (av := [.int (xs (Int32.toNatClampNeg (x3 + 1))), .int (xs (Int32.toNatClampNeg (x3 + 2)))]) kX12_ask sX12_ask rfl hM.1 lL_64 rfl rfl (Nat.le_of_ble_eq_true rfl) dL_law_692 h ?_
        intro v103 I102 J102 h
        refine jd_pop (pc := 695) dL_law_695 rfl ?_
        refine jd_goto (pc := 696) 1567 dL_law_696 (by decide) ?_
        refine jd_iinc (pc := 1567) (v := (x3 + 6)) 3 [(3, .int (x3 + 6)), (0, .ref b), (1, .ref (gb G + 0)), (2, .ref (gb G + 45))] dL_law_1567 rfl rfl (Nat.le_of_ble_eq_true rfl) rfl ?_
        refine jd_goto (pc := 1570) 18 dL_law_1570 (by decide) ?_
        exact jd_lv (lv2 := [(0, .ref b), (1, .ref (gb G + 0)), (2, .ref (gb G + 45)), (3, .int (x3 + 6))]) [1, 2, 3, 0] rfl h
      · have h := h.2.2.2.2.2.2.2.2.2.2.2.1 hq
        refine jd_tableIn (pc := 33) 699 dL_law_33 (by omega) (by omega) (by rw [hq]; rfl) (by decide) ?_
        refine jd_aload_n (pc := 699) 1 dL_law_699 rfl rfl ?_
        refine jd_aload_n (pc := 700) 0 dL_law_700 rfl rfl ?_
        refine jd_iload_n (pc := 701) 3 dL_law_701 rfl rfl ?_
        refine jd_iconst (pc := 702) (v := 1) dL_law_702 (by decide) ?_
        refine jd_iadd (pc := 703) dL_law_703 ?_
        obtain ⟨hv104, h⟩ := h
        refine jd_sld (pc := 704) hXs hv104 dL_law_704 ?_
        refine jd_callVi (pc := 705) (M2 := mX11_feed) (id := 0) (ci := 10) (T := TX11) (N := 9) (av := [.int (xs (Int32.toNatClampNeg (x3 + 1)))]) kX11_feed sX11_feed rfl hX.1 lL_65 rfl rfl (Nat.le_of_ble_eq_true rfl) dL_law_705 h ?_
        intro v106 I105 J105 h
        refine jd_pop (pc := 708) dL_law_708 rfl ?_
        refine jd_aload_n (pc := 709) 2 dL_law_709 rfl rfl ?_
        refine jd_aload_n (pc := 710) 0 dL_law_710 rfl rfl ?_
        refine jd_iload_n (pc := 711) 3 dL_law_711 rfl rfl ?_
        refine jd_iconst (pc := 712) (v := 1) dL_law_712 (by decide) ?_
        refine jd_iadd (pc := 713) dL_law_713 ?_
        obtain ⟨hv107, h⟩ := h
        refine jd_sld (pc := 714) hXs hv107 dL_law_714 ?_
        refine jd_callVi (pc := 715) (M2 := mX12_feed) (id := 45) (ci := 11) (T := TX12) (N := 45) (av := [.int (xs (Int32.toNatClampNeg (x3 + 1)))]) kX12_feed sX12_feed rfl hM.1 lL_68 rfl rfl (Nat.le_of_ble_eq_true rfl) dL_law_715 h ?_
        intro v109 I108 J108 h
        refine jd_pop (pc := 718) dL_law_718 rfl ?_
        refine jd_goto (pc := 719) 1567 dL_law_719 (by decide) ?_
        refine jd_iinc (pc := 1567) (v := (x3 + 6)) 3 [(3, .int (x3 + 6)), (0, .ref b), (1, .ref (gb G + 0)), (2, .ref (gb G + 45))] dL_law_1567 rfl rfl (Nat.le_of_ble_eq_true rfl) rfl ?_
        refine jd_goto (pc := 1570) 18 dL_law_1570 (by decide) ?_
        exact jd_lv (lv2 := [(0, .ref b), (1, .ref (gb G + 0)), (2, .ref (gb G + 45)), (3, .int (x3 + 6))]) [1, 2, 3, 0] rfl h
      · have h := h.2.2.2.2.2.2.2.2.2.2.2.2.1 hq
        refine jd_tableIn (pc := 33) 722 dL_law_33 (by omega) (by omega) (by rw [hq]; rfl) (by decide) ?_
        refine jd_aload_n (pc := 722) 1 dL_law_722 rfl rfl ?_
        refine jd_callVi (pc := 723) (M2 := mX11_wipe) (id := 0) (ci := 10) (T := TX11) (N := 9) (av := []) kX11_wipe sX11_wipe rfl hX.1 lL_69 rfl rfl (Nat.le_of_ble_eq_true rfl) dL_law_723 h ?_
        intro v111 I110 J110 h
        refine jd_pop (pc := 726) dL_law_726 rfl ?_
        refine jd_aload_n (pc := 727) 2 dL_law_727 rfl rfl ?_
        refine jd_callVi (pc := 728) (M2 := mX12_wipe) (id := 45) (ci := 11) (T := TX12) (N := 45) (av := []) kX12_wipe sX12_wipe rfl hM.1 lL_73 rfl rfl (Nat.le_of_ble_eq_true rfl) dL_law_728 h ?_
        intro v113 I112 J112 h
        refine jd_pop (pc := 731) dL_law_731 rfl ?_
        refine jd_goto (pc := 732) 1567 dL_law_732 (by decide) ?_
        refine jd_iinc (pc := 1567) (v := (x3 + 6)) 3 [(3, .int (x3 + 6)), (0, .ref b), (1, .ref (gb G + 0)), (2, .ref (gb G + 45))] dL_law_1567 rfl rfl (Nat.le_of_ble_eq_true rfl) rfl ?_
        refine jd_goto (pc := 1570) 18 dL_law_1570 (by decide) ?_
        exact jd_lv (lv2 := [(0, .ref b), (1, .ref (gb G + 0)), (2, .ref (gb G + 45)), (3, .int (x3 + 6))]) [1, 2, 3, 0] rfl h
      · have h := h.2.2.2.2.2.2.2.2.2.2.2.2.2.1 hq
        refine jd_tableIn (pc := 33) 735 dL_law_33 (by omega) (by omega) (by rw [hq]; rfl) (by decide) ?_
        refine jd_aload_n (pc := 735) 1 dL_law_735 rfl rfl ?_
        refine jd_callVi (pc := 736) (M2 := mX11_town) (id := 0) (ci := 10) (T := TX11) (N := 9) (av := []) kX11_town sX11_town rfl hX.1 lL_74 rfl rfl (Nat.le_of_ble_eq_true rfl) dL_law_736 h ?_
        intro v115 I114 J114 h
        refine jd_pop (pc := 739) dL_law_739 rfl ?_
        refine jd_aload_n (pc := 740) 2 dL_law_740 rfl rfl ?_
        obtain ⟨mc116, ms116, rc116, rs116, hb1, hb2, h⟩ := h
        refine jd_callV (pc := 741) (M2 := mX12_town) (id := 45) (ci := 11) (T := TX12) (N := 45) (rc2 := rc116) (rs2 := rs116) (av := []) kX12_town sX12_town rfl hM.1 lL_77 rfl rfl (Nat.le_of_ble_eq_true rfl) hb1 hb2 dL_law_741 (Cl.mono h (fun r116 Z116 I116 J116 h => ?_))
        obtain ⟨v116, rfl, h⟩ := h
        obtain ⟨hX, h⟩ := h
        obtain ⟨hM, h⟩ := h
        refine jd_pop (pc := 744) dL_law_744 rfl ?_
        refine jd_goto (pc := 745) 1567 dL_law_745 (by decide) ?_
        refine jd_iinc (pc := 1567) (v := (x3 + 6)) 3 [(3, .int (x3 + 6)), (0, .ref b), (1, .ref (gb G + 0)), (2, .ref (gb G + 45))] dL_law_1567 rfl rfl (Nat.le_of_ble_eq_true rfl) rfl ?_
        refine jd_goto (pc := 1570) 18 dL_law_1570 (by decide) ?_
        exact jd_lv (lv2 := [(0, .ref b), (1, .ref (gb G + 0)), (2, .ref (gb G + 45)), (3, .int (x3 + 6))]) [1, 2, 3, 0] rfl h
      · have h := h.2.2.2.2.2.2.2.2.2.2.2.2.2.2.1 hq
        refine jd_tableIn (pc := 33) 748 dL_law_33 (by omega) (by omega) (by rw [hq]; rfl) (by decide) ?_
        refine jd_aload_n (pc := 748) 1 dL_law_748 rfl rfl ?_
        refine jd_aload_n (pc := 749) 0 dL_law_749 rfl rfl ?_
        refine jd_iload_n (pc := 750) 3 dL_law_750 rfl rfl ?_
        refine jd_iconst (pc := 751) (v := 1) dL_law_751 (by decide) ?_
        refine jd_iadd (pc := 752) dL_law_752 ?_
        obtain ⟨hv117, h⟩ := h
        refine jd_sld (pc := 753) hXs hv117 dL_law_753 ?_
        refine jd_aload_n (pc := 754) 0 dL_law_754 rfl rfl ?_
        refine jd_iload_n (pc := 755) 3 dL_law_755 rfl rfl ?_
        refine jd_iconst (pc := 756) (v := 2) dL_law_756 (by decide) ?_
        refine jd_iadd (pc := 757) dL_law_757 ?_
        obtain ⟨hv118, h⟩ := h
        refine jd_sld (pc := 758) hXs hv118 dL_law_758 ?_
        refine jd_callVi (pc := 759) (M2 := mX11_personOf) (id := 0) (ci := 10) (T := TX11) (N := 9) (av := [.int (xs (Int32.toNatClampNeg (x3 + 1))), .int (xs (Int32.toNatClampNeg (x3 + 2)))]) kX11_personOf sX11_personOf rfl hX.1 lL_78 rfl rfl (Nat.le_of_ble_eq_true rfl) dL_law_759 h ?_
        intro v120 I119 J119 h
        refine jd_pop (pc := 762) dL_law_762 rfl ?_
        refine jd_aload_n (pc := 763) 2 dL_law_763 rfl rfl ?_
        refine jd_aload_n (pc := 764) 0 dL_law_764 rfl rfl ?_
        refine jd_iload_n (pc := 765) 3 dL_law_765 rfl rfl ?_
        refine jd_iconst (pc := 766) (v := 1) dL_law_766 (by decide) ?_
        refine jd_iadd (pc := 767) dL_law_767 ?_
        obtain ⟨hv121, h⟩ := h
        refine jd_sld (pc := 768) hXs hv121 dL_law_768 ?_
        refine jd_aload_n (pc := 769) 0 dL_law_769 rfl rfl ?_
        refine jd_iload_n (pc := 770) 3 dL_law_770 rfl rfl ?_
        refine jd_iconst (pc := 771) (v := 2) dL_law_771 (by decide) ?_
        refine jd_iadd (pc := 772) dL_law_772 ?_
        obtain ⟨hv122, h⟩ := h
        refine jd_sld (pc := 773) hXs hv122 dL_law_773 ?_
        refine jd_callVi (pc := 774) (M2 := mX12_personOf) (id := 45) (ci := 11) (T := TX12) (N := 45) (av := [.int (xs (Int32.toNatClampNeg (x3 + 1))), .int (xs (Int32.toNatClampNeg (x3 + 2)))]) kX12_personOf sX12_personOf rfl hM.1 lL_81 rfl rfl (Nat.le_of_ble_eq_true rfl) dL_law_774 h ?_
        intro v124 I123 J123 h
        refine jd_pop (pc := 777) dL_law_777 rfl ?_
        refine jd_goto (pc := 778) 1567 dL_law_778 (by decide) ?_
        refine jd_iinc (pc := 1567) (v := (x3 + 6)) 3 [(3, .int (x3 + 6)), (0, .ref b), (1, .ref (gb G + 0)), (2, .ref (gb G + 45))] dL_law_1567 rfl rfl (Nat.le_of_ble_eq_true rfl) rfl ?_
        refine jd_goto (pc := 1570) 18 dL_law_1570 (by decide) ?_
        exact jd_lv (lv2 := [(0, .ref b), (1, .ref (gb G + 0)), (2, .ref (gb G + 45)), (3, .int (x3 + 6))]) [1, 2, 3, 0] rfl h
      · have h := h.2.2.2.2.2.2.2.2.2.2.2.2.2.2.2.1 hq
        refine jd_tableIn (pc := 33) 781 dL_law_33 (by omega) (by omega) (by rw [hq]; rfl) (by decide) ?_
        refine jd_aload_n (pc := 781) 1 dL_law_781 rfl rfl ?_
        refine jd_aload_n (pc := 782) 0 dL_law_782 rfl rfl ?_
        refine jd_iload_n (pc := 783) 3 dL_law_783 rfl rfl ?_
        refine jd_iconst (pc := 784) (v := 1) dL_law_784 (by decide) ?_
        refine jd_iadd (pc := 785) dL_law_785 ?_
        obtain ⟨hv125, h⟩ := h
        refine jd_sld (pc := 786) hXs hv125 dL_law_786 ?_
        refine jd_aload_n (pc := 787) 0 dL_law_787 rfl rfl ?_
        refine jd_iload_n (pc := 788) 3 dL_law_788 rfl rfl ?_
        refine jd_iconst (pc := 789) (v := 2) dL_law_789 (by decide) ?_
        refine jd_iadd (pc := 790) dL_law_790 ?_
        obtain ⟨hv126, h⟩ := h
        refine jd_sld (pc := 791) hXs hv126 dL_law_791 ?_
        refine jd_callVi (pc := 792) (M2 := mX11_knownOf) (id := 0) (ci := 10) (T := TX11) (N := 9) (av := [.int (xs (Int32.toNatClampNeg (x3 + 1))), .int (xs (Int32.toNatClampNeg (x3 + 2)))]) kX11_knownOf sX11_knownOf rfl hX.1 lL_82 rfl rfl (Nat.le_of_ble_eq_true rfl) dL_law_792 h ?_
        intro v128 I127 J127 h
        refine jd_pop (pc := 795) dL_law_795 rfl ?_
        refine jd_aload_n (pc := 796) 2 dL_law_796 rfl rfl ?_
        refine jd_aload_n (pc := 797) 0 dL_law_797 rfl rfl ?_
        refine jd_iload_n (pc := 798) 3 dL_law_798 rfl rfl ?_
        refine jd_iconst (pc := 799) (v := 1) dL_law_799 (by decide) ?_
        refine jd_iadd (pc := 800) dL_law_800 ?_
        obtain ⟨hv129, h⟩ := h
        refine jd_sld (pc := 801) hXs hv129 dL_law_801 ?_
        refine jd_aload_n (pc := 802) 0 dL_law_802 rfl rfl ?_
        refine jd_iload_n (pc := 803) 3 dL_law_803 rfl rfl ?_
        refine jd_iconst (pc := 804) (v := 2) dL_law_804 (by decide) ?_
        refine jd_iadd (pc := 805) dL_law_805 ?_
        obtain ⟨hv130, h⟩ := h
        refine jd_sld (pc := 806) hXs hv130 dL_law_806 ?_
        refine jd_callVi (pc := 807) (M2 := mX12_knownOf) (id := 45) (ci := 11) (T := TX12) (N := 45) (av := [.int (xs (Int32.toNatClampNeg (x3 + 1))), .int (xs (Int32.toNatClampNeg (x3 + 2)))]) kX12_knownOf sX12_knownOf rfl hM.1 lL_85 rfl rfl (Nat.le_of_ble_eq_true rfl) dL_law_807 h ?_
        intro v132 I131 J131 h
        refine jd_pop (pc := 810) dL_law_810 rfl ?_
        refine jd_goto (pc := 811) 1567 dL_law_811 (by decide) ?_
        refine jd_iinc (pc := 1567) (v := (x3 + 6)) 3 [(3, .int (x3 + 6)), (0, .ref b), (1, .ref (gb G + 0)), (2, .ref (gb G + 45))] dL_law_1567 rfl rfl (Nat.le_of_ble_eq_true rfl) rfl ?_
        refine jd_goto (pc := 1570) 18 dL_law_1570 (by decide) ?_
        exact jd_lv (lv2 := [(0, .ref b), (1, .ref (gb G + 0)), (2, .ref (gb G + 45)), (3, .int (x3 + 6))]) [1, 2, 3, 0] rfl h
      · have h := h.2.2.2.2.2.2.2.2.2.2.2.2.2.2.2.2.1 hq
        refine jd_tableIn (pc := 33) 814 dL_law_33 (by omega) (by omega) (by rw [hq]; rfl) (by decide) ?_
        refine jd_aload_n (pc := 814) 1 dL_law_814 rfl rfl ?_
        refine jd_aload_n (pc := 815) 0 dL_law_815 rfl rfl ?_
        refine jd_iload_n (pc := 816) 3 dL_law_816 rfl rfl ?_
        refine jd_iconst (pc := 817) (v := 1) dL_law_817 (by decide) ?_
        refine jd_iadd (pc := 818) dL_law_818 ?_
        obtain ⟨hv133, h⟩ := h
        refine jd_sld (pc := 819) hXs hv133 dL_law_819 ?_
        refine jd_callVi (pc := 820) (M2 := mX11_isGroup) (id := 0) (ci := 10) (T := TX11) (N := 9) (av := [.int (xs (Int32.toNatClampNeg (x3 + 1)))]) kX11_isGroup sX11_isGroup rfl hX.1 lL_86 rfl rfl (Nat.le_of_ble_eq_true rfl) dL_law_820 h ?_
        intro v135 I134 J134 h
        refine jd_pop (pc := 823) dL_law_823 rfl ?_
        refine jd_aload_n (pc := 824) 2 dL_law_824 rfl rfl ?_
        refine jd_aload_n (pc := 825) 0 dL_law_825 rfl rfl ?_
        refine jd_iload_n (pc := 826) 3 dL_law_826 rfl rfl ?_
        refine jd_iconst (pc := 827) (v := 1) dL_law_827 (by decide) ?_
        refine jd_iadd (pc := 828) dL_law_828 ?_
        obtain ⟨hv136, h⟩ := h
        refine jd_sld (pc := 829) hXs hv136 dL_law_829 ?_
        refine jd_callVi (pc := 830) (M2 := mX12_isGroup) (id := 45) (ci := 11) (T := TX12) (N := 45) (av := [.int (xs (Int32.toNatClampNeg (x3 + 1)))]) kX12_isGroup sX12_isGroup rfl hM.1 lL_89 rfl rfl (Nat.le_of_ble_eq_true rfl) dL_law_830 h ?_
        intro v138 I137 J137 h
        refine jd_pop (pc := 833) dL_law_833 rfl ?_
        refine jd_goto (pc := 834) 1567 dL_law_834 (by decide) ?_
        refine jd_iinc (pc := 1567) (v := (x3 + 6)) 3 [(3, .int (x3 + 6)), (0, .ref b), (1, .ref (gb G + 0)), (2, .ref (gb G + 45))] dL_law_1567 rfl rfl (Nat.le_of_ble_eq_true rfl) rfl ?_
        refine jd_goto (pc := 1570) 18 dL_law_1570 (by decide) ?_
        exact jd_lv (lv2 := [(0, .ref b), (1, .ref (gb G + 0)), (2, .ref (gb G + 45)), (3, .int (x3 + 6))]) [1, 2, 3, 0] rfl h
      · have h := h.2.2.2.2.2.2.2.2.2.2.2.2.2.2.2.2.2.1 hq
        refine jd_tableIn (pc := 33) 837 dL_law_33 (by omega) (by omega) (by rw [hq]; rfl) (by decide) ?_
        refine jd_aload_n (pc := 837) 1 dL_law_837 rfl rfl ?_
        refine jd_aload_n (pc := 838) 0 dL_law_838 rfl rfl ?_
        refine jd_iload_n (pc := 839) 3 dL_law_839 rfl rfl ?_
        refine jd_iconst (pc := 840) (v := 1) dL_law_840 (by decide) ?_
        refine jd_iadd (pc := 841) dL_law_841 ?_
        obtain ⟨hv139, h⟩ := h
        refine jd_sld (pc := 842) hXs hv139 dL_law_842 ?_
        refine jd_callVi (pc := 843) (M2 := mX11_groups) (id := 0) (ci := 10) (T := TX11) (N := 9) (av := [.int (xs (Int32.toNatClampNeg (x3 + 1)))]) kX11_groups sX11_groups rfl hX.1 lL_90 rfl rfl (Nat.le_of_ble_eq_true rfl) dL_law_843 h ?_
        intro v141 I140 J140 h
        refine jd_pop (pc := 846) dL_law_846 rfl ?_
        refine jd_aload_n (pc := 847) 2 dL_law_847 rfl rfl ?_
        refine jd_aload_n (pc := 848) 0 dL_law_848 rfl rfl ?_
        refine jd_iload_n (pc := 849) 3 dL_law_849 rfl rfl ?_
        refine jd_iconst (pc := 850) (v := 1) dL_law_850 (by decide) ?_
        refine jd_iadd (pc := 851) dL_law_851 ?_
        obtain ⟨hv142, h⟩ := h
        refine jd_sld (pc := 852) hXs hv142 dL_law_852 ?_
        refine jd_callVi (pc := 853) (M2 := mX12_groups) (id := 45) (ci := 11) (T := TX12) (N := 45) (av := [.int (xs (Int32.toNatClampNeg (x3 + 1)))]) kX12_groups sX12_groups rfl hM.1 lL_93 rfl rfl (Nat.le_of_ble_eq_true rfl) dL_law_853 h ?_
        intro v144 I143 J143 h
        refine jd_pop (pc := 856) dL_law_856 rfl ?_
        refine jd_goto (pc := 857) 1567 dL_law_857 (by decide) ?_
        refine jd_iinc (pc := 1567) (v := (x3 + 6)) 3 [(3, .int (x3 + 6)), (0, .ref b), (1, .ref (gb G + 0)), (2, .ref (gb G + 45))] dL_law_1567 rfl rfl (Nat.le_of_ble_eq_true rfl) rfl ?_
        refine jd_goto (pc := 1570) 18 dL_law_1570 (by decide) ?_
        exact jd_lv (lv2 := [(0, .ref b), (1, .ref (gb G + 0)), (2, .ref (gb G + 45)), (3, .int (x3 + 6))]) [1, 2, 3, 0] rfl h
      · have h := h.2.2.2.2.2.2.2.2.2.2.2.2.2.2.2.2.2.2.1 hq
        refine jd_tableIn (pc := 33) 860 dL_law_33 (by omega) (by omega) (by rw [hq]; rfl) (by decide) ?_
        refine jd_aload_n (pc := 860) 1 dL_law_860 rfl rfl ?_
        refine jd_aload_n (pc := 861) 0 dL_law_861 rfl rfl ?_
        refine jd_iload_n (pc := 862) 3 dL_law_862 rfl rfl ?_
        refine jd_iconst (pc := 863) (v := 1) dL_law_863 (by decide) ?_
        refine jd_iadd (pc := 864) dL_law_864 ?_
        obtain ⟨hv145, h⟩ := h
        refine jd_sld (pc := 865) hXs hv145 dL_law_865 ?_
        refine jd_callVi (pc := 866) (M2 := mX11_firstOf) (id := 0) (ci := 10) (T := TX11) (N := 9) (av := [.int (xs (Int32.toNatClampNeg (x3 + 1)))]) kX11_firstOf sX11_firstOf rfl hX.1 lL_94 rfl rfl (Nat.le_of_ble_eq_true rfl) dL_law_866 h ?_
        intro v147 I146 J146 h
        refine jd_pop (pc := 869) dL_law_869 rfl ?_
        refine jd_aload_n (pc := 870) 2 dL_law_870 rfl rfl ?_
        refine jd_aload_n (pc := 871) 0 dL_law_871 rfl rfl ?_
        refine jd_iload_n (pc := 872) 3 dL_law_872 rfl rfl ?_
        refine jd_iconst (pc := 873) (v := 1) dL_law_873 (by decide) ?_
        refine jd_iadd (pc := 874) dL_law_874 ?_
        obtain ⟨hv148, h⟩ := h
        refine jd_sld (pc := 875) hXs hv148 dL_law_875 ?_
        refine jd_callVi (pc := 876) (M2 := mX12_firstOf) (id := 45) (ci := 11) (T := TX12) (N := 45) (av := [.int (xs (Int32.toNatClampNeg (x3 + 1)))]) kX12_firstOf sX12_firstOf rfl hM.1 lL_97 rfl rfl (Nat.le_of_ble_eq_true rfl) dL_law_876 h ?_
        intro v150 I149 J149 h
        refine jd_pop (pc := 879) dL_law_879 rfl ?_
        refine jd_goto (pc := 880) 1567 dL_law_880 (by decide) ?_
        refine jd_iinc (pc := 1567) (v := (x3 + 6)) 3 [(3, .int (x3 + 6)), (0, .ref b), (1, .ref (gb G + 0)), (2, .ref (gb G + 45))] dL_law_1567 rfl rfl (Nat.le_of_ble_eq_true rfl) rfl ?_
        refine jd_goto (pc := 1570) 18 dL_law_1570 (by decide) ?_
        exact jd_lv (lv2 := [(0, .ref b), (1, .ref (gb G + 0)), (2, .ref (gb G + 45)), (3, .int (x3 + 6))]) [1, 2, 3, 0] rfl h
      · have h := h.2.2.2.2.2.2.2.2.2.2.2.2.2.2.2.2.2.2.2.1 hq
        refine jd_tableIn (pc := 33) 883 dL_law_33 (by omega) (by omega) (by rw [hq]; rfl) (by decide) ?_
        refine jd_aload_n (pc := 883) 1 dL_law_883 rfl rfl ?_
        refine jd_aload_n (pc := 884) 0 dL_law_884 rfl rfl ?_
        refine jd_iload_n (pc := 885) 3 dL_law_885 rfl rfl ?_
        refine jd_iconst (pc := 886) (v := 1) dL_law_886 (by decide) ?_
        refine jd_iadd (pc := 887) dL_law_887 ?_
        obtain ⟨hv151, h⟩ := h
        refine jd_sld (pc := 888) hXs hv151 dL_law_888 ?_
        refine jd_callVi (pc := 889) (M2 := mX11_most) (id := 0) (ci := 10) (T := TX11) (N := 9) (av := [.int (xs (Int32.toNatClampNeg (x3 + 1)))]) kX11_most sX11_most rfl hX.1 lL_98 rfl rfl (Nat.le_of_ble_eq_true rfl) dL_law_889 h ?_
        intro v153 I152 J152 h
        refine jd_pop (pc := 892) dL_law_892 rfl ?_
        refine jd_aload_n (pc := 893) 2 dL_law_893 rfl rfl ?_
        refine jd_aload_n (pc := 894) 0 dL_law_894 rfl rfl ?_
        refine jd_iload_n (pc := 895) 3 dL_law_895 rfl rfl ?_
        refine jd_iconst (pc := 896) (v := 1) dL_law_896 (by decide) ?_
        refine jd_iadd (pc := 897) dL_law_897 ?_
        obtain ⟨hv154, h⟩ := h
        refine jd_sld (pc := 898) hXs hv154 dL_law_898 ?_
        refine jd_callVi (pc := 899) (M2 := mX12_most) (id := 45) (ci := 11) (T := TX12) (N := 45) (av := [.int (xs (Int32.toNatClampNeg (x3 + 1)))]) kX12_most sX12_most rfl hM.1 lL_101 rfl rfl (Nat.le_of_ble_eq_true rfl) dL_law_899 h ?_
        intro v156 I155 J155 h
        refine jd_pop (pc := 902) dL_law_902 rfl ?_
        refine jd_goto (pc := 903) 1567 dL_law_903 (by decide) ?_
        refine jd_iinc (pc := 1567) (v := (x3 + 6)) 3 [(3, .int (x3 + 6)), (0, .ref b), (1, .ref (gb G + 0)), (2, .ref (gb G + 45))] dL_law_1567 rfl rfl (Nat.le_of_ble_eq_true rfl) rfl ?_
        refine jd_goto (pc := 1570) 18 dL_law_1570 (by decide) ?_
        exact jd_lv (lv2 := [(0, .ref b), (1, .ref (gb G + 0)), (2, .ref (gb G + 45)), (3, .int (x3 + 6))]) [1, 2, 3, 0] rfl h
      · have h := h.2.2.2.2.2.2.2.2.2.2.2.2.2.2.2.2.2.2.2.2.1 hq
        refine jd_tableIn (pc := 33) 906 dL_law_33 (by omega) (by omega) (by rw [hq]; rfl) (by decide) ?_
        refine jd_aload_n (pc := 906) 1 dL_law_906 rfl rfl ?_
        refine jd_aload_n (pc := 907) 0 dL_law_907 rfl rfl ?_
        refine jd_iload_n (pc := 908) 3 dL_law_908 rfl rfl ?_
        refine jd_iconst (pc := 909) (v := 1) dL_law_909 (by decide) ?_
        refine jd_iadd (pc := 910) dL_law_910 ?_
        obtain ⟨hv157, h⟩ := h
        refine jd_sld (pc := 911) hXs hv157 dL_law_911 ?_
        refine jd_aload_n (pc := 912) 0 dL_law_912 rfl rfl ?_
        refine jd_iload_n (pc := 913) 3 dL_law_913 rfl rfl ?_
        refine jd_iconst (pc := 914) (v := 2) dL_law_914 (by decide) ?_
        refine jd_iadd (pc := 915) dL_law_915 ?_
        obtain ⟨hv158, h⟩ := h
        refine jd_sld (pc := 916) hXs hv158 dL_law_916 ?_
        refine jd_callVi (pc := 917) (M2 := mX11_mostOf) (id := 0) (ci := 10) (T := TX11) (N := 9) (av := [.int (xs (Int32.toNatClampNeg (x3 + 1))), .int (xs (Int32.toNatClampNeg (x3 + 2)))]) kX11_mostOf sX11_mostOf rfl hX.1 lL_102 rfl rfl (Nat.le_of_ble_eq_true rfl) dL_law_917 h ?_
        intro v160 I159 J159 h
        refine jd_pop (pc := 920) dL_law_920 rfl ?_
        refine jd_aload_n (pc := 921) 2 dL_law_921 rfl rfl ?_
        refine jd_aload_n (pc := 922) 0 dL_law_922 rfl rfl ?_
        refine jd_iload_n (pc := 923) 3 dL_law_923 rfl rfl ?_
        refine jd_iconst (pc := 924) (v := 1) dL_law_924 (by decide) ?_
        refine jd_iadd (pc := 925) dL_law_925 ?_
        obtain ⟨hv161, h⟩ := h
        refine jd_sld (pc := 926) hXs hv161 dL_law_926 ?_
        refine jd_aload_n (pc := 927) 0 dL_law_927 rfl rfl ?_
        refine jd_iload_n (pc := 928) 3 dL_law_928 rfl rfl ?_
        refine jd_iconst (pc := 929) (v := 2) dL_law_929 (by decide) ?_
        refine jd_iadd (pc := 930) dL_law_930 ?_
        obtain ⟨hv162, h⟩ := h
        refine jd_sld (pc := 931) hXs hv162 dL_law_931 ?_
        refine jd_callVi (pc := 932) (M2 := mX12_mostOf) (id := 45) (ci := 11) (T := TX12) (N := 45) (av := [.int (xs (Int32.toNatClampNeg (x3 + 1))), .int (xs (Int32.toNatClampNeg (x3 + 2)))]) kX12_mostOf sX12_mostOf rfl hM.1 lL_105 rfl rfl (Nat.le_of_ble_eq_true rfl) dL_law_932 h ?_
        intro v164 I163 J163 h
        refine jd_pop (pc := 935) dL_law_935 rfl ?_
        refine jd_goto (pc := 936) 1567 dL_law_936 (by decide) ?_
        refine jd_iinc (pc := 1567) (v := (x3 + 6)) 3 [(3, .int (x3 + 6)), (0, .ref b), (1, .ref (gb G + 0)), (2, .ref (gb G + 45))] dL_law_1567 rfl rfl (Nat.le_of_ble_eq_true rfl) rfl ?_
        refine jd_goto (pc := 1570) 18 dL_law_1570 (by decide) ?_
        exact jd_lv (lv2 := [(0, .ref b), (1, .ref (gb G + 0)), (2, .ref (gb G + 45)), (3, .int (x3 + 6))]) [1, 2, 3, 0] rfl h
      · have h := h.2.2.2.2.2.2.2.2.2.2.2.2.2.2.2.2.2.2.2.2.2.1 hq
        refine jd_tableIn (pc := 33) 939 dL_law_33 (by omega) (by omega) (by rw [hq]; rfl) (by decide) ?_
        refine jd_aload_n (pc := 939) 1 dL_law_939 rfl rfl ?_
        refine jd_aload_n (pc := 940) 0 dL_law_940 rfl rfl ?_
        refine jd_iload_n (pc := 941) 3 dL_law_941 rfl rfl ?_
        refine jd_iconst (pc := 942) (v := 1) dL_law_942 (by decide) ?_
        refine jd_iadd (pc := 943) dL_law_943 ?_
        obtain ⟨hv165, h⟩ := h
        refine jd_sld (pc := 944) hXs hv165 dL_law_944 ?_
        refine jd_aload_n (pc := 945) 0 dL_law_945 rfl rfl ?_
        refine jd_iload_n (pc := 946) 3 dL_law_946 rfl rfl ?_
        refine jd_iconst (pc := 947) (v := 2) dL_law_947 (by decide) ?_
        refine jd_iadd (pc := 948) dL_law_948 ?_
        obtain ⟨hv166, h⟩ := h
        refine jd_sld (pc := 949) hXs hv166 dL_law_949 ?_
        refine jd_aload_n (pc := 950) 0 dL_law_950 rfl rfl ?_
        refine jd_iload_n (pc := 951) 3 dL_law_951 rfl rfl ?_
        refine jd_iconst (pc := 952) (v := 3) dL_law_952 (by decide) ?_
        refine jd_iadd (pc := 953) dL_law_953 ?_
        obtain ⟨hv167, h⟩ := h
        refine jd_sld (pc := 954) hXs hv167 dL_law_954 ?_
        refine jd_callVi (pc := 955) (M2 := mX11_sends) (id := 0) (ci := 10) (T := TX11) (N := 9) (av := [.int (xs (Int32.toNatClampNeg (x3 + 1))), .int (xs (Int32.toNatClampNeg (x3 + 2))), .int (xs (Int32.toNatClampNeg (x3 + 3)))]) kX11_sends sX11_sends rfl hX.1 lL_106 rfl rfl (Nat.le_of_ble_eq_true rfl) dL_law_955 h ?_
        intro v169 I168 J168 h
        refine jd_pop (pc := 958) dL_law_958 rfl ?_
        refine jd_aload_n (pc := 959) 2 dL_law_959 rfl rfl ?_
        refine jd_aload_n (pc := 960) 0 dL_law_960 rfl rfl ?_
        refine jd_iload_n (pc := 961) 3 dL_law_961 rfl rfl ?_
        refine jd_iconst (pc := 962) (v := 1) dL_law_962 (by decide) ?_
        refine jd_iadd (pc := 963) dL_law_963 ?_
        obtain ⟨hv170, h⟩ := h
        refine jd_sld (pc := 964) hXs hv170 dL_law_964 ?_
        refine jd_aload_n (pc := 965) 0 dL_law_965 rfl rfl ?_
        refine jd_iload_n (pc := 966) 3 dL_law_966 rfl rfl ?_
        refine jd_iconst (pc := 967) (v := 2) dL_law_967 (by decide) ?_
        refine jd_iadd (pc := 968) dL_law_968 ?_
        obtain ⟨hv171, h⟩ := h
        refine jd_sld (pc := 969) hXs hv171 dL_law_969 ?_
        refine jd_aload_n (pc := 970) 0 dL_law_970 rfl rfl ?_
        refine jd_iload_n (pc := 971) 3 dL_law_971 rfl rfl ?_
        refine jd_iconst (pc := 972) (v := 3) dL_law_972 (by decide) ?_
        refine jd_iadd (pc := 973) dL_law_973 ?_
        obtain ⟨hv172, h⟩ := h
        refine jd_sld (pc := 974) hXs hv172 dL_law_974 ?_
        refine jd_callVi (pc := 975) (M2 := mX12_sends) (id := 45) (ci := 11) (T := TX12) (N := 45) (av := [.int (xs (Int32.toNatClampNeg (x3 + 1))), .int (xs (Int32.toNatClampNeg (x3 + 2))), .int (xs (Int32.toNatClampNeg (x3 + 3)))]) kX12_sends sX12_sends rfl hM.1 lL_109 rfl rfl (Nat.le_of_ble_eq_true rfl) dL_law_975 h ?_
        intro v174 I173 J173 h
        refine jd_pop (pc := 978) dL_law_978 rfl ?_
        refine jd_goto (pc := 979) 1567 dL_law_979 (by decide) ?_
        refine jd_iinc (pc := 1567) (v := (x3 + 6)) 3 [(3, .int (x3 + 6)), (0, .ref b), (1, .ref (gb G + 0)), (2, .ref (gb G + 45))] dL_law_1567 rfl rfl (Nat.le_of_ble_eq_true rfl) rfl ?_
        refine jd_goto (pc := 1570) 18 dL_law_1570 (by decide) ?_
        exact jd_lv (lv2 := [(0, .ref b), (1, .ref (gb G + 0)), (2, .ref (gb G + 45)), (3, .int (x3 + 6))]) [1, 2, 3, 0] rfl h
      · have h := h.2.2.2.2.2.2.2.2.2.2.2.2.2.2.2.2.2.2.2.2.2.2.1 hq
        refine jd_tableIn (pc := 33) 982 dL_law_33 (by omega) (by omega) (by rw [hq]; rfl) (by decide) ?_
        refine jd_aload_n (pc := 982) 1 dL_law_982 rfl rfl ?_
        refine jd_aload_n (pc := 983) 0 dL_law_983 rfl rfl ?_
        refine jd_iload_n (pc := 984) 3 dL_law_984 rfl rfl ?_
        refine jd_iconst (pc := 985) (v := 1) dL_law_985 (by decide) ?_
        refine jd_iadd (pc := 986) dL_law_986 ?_
        obtain ⟨hv175, h⟩ := h
        refine jd_sld (pc := 987) hXs hv175 dL_law_987 ?_
        refine jd_callVi (pc := 988) (M2 := mX11_run) (id := 0) (ci := 10) (T := TX11) (N := 9) (av := [.int (xs (Int32.toNatClampNeg (x3 + 1)))]) kX11_run sX11_run rfl hX.1 lL_110 rfl rfl (Nat.le_of_ble_eq_true rfl) dL_law_988 h ?_
        intro v177 I176 J176 h
        refine jd_pop (pc := 991) dL_law_991 rfl ?_
        refine jd_aload_n (pc := 992) 2 dL_law_992 rfl rfl ?_
        refine jd_aload_n (pc := 993) 0 dL_law_993 rfl rfl ?_
        refine jd_iload_n (pc := 994) 3 dL_law_994 rfl rfl ?_
        refine jd_iconst (pc := 995) (v := 1) dL_law_995 (by decide) ?_
        refine jd_iadd (pc := 996) dL_law_996 ?_
        obtain ⟨hv178, h⟩ := h
        refine jd_sld (pc := 997) hXs hv178 dL_law_997 ?_
        refine jd_callVi (pc := 998) (M2 := mX12_run) (id := 45) (ci := 11) (T := TX12) (N := 45) (av := [.int (xs (Int32.toNatClampNeg (x3 + 1)))]) kX12_run sX12_run rfl hM.1 lL_113 rfl rfl (Nat.le_of_ble_eq_true rfl) dL_law_998 h ?_
        intro v180 I179 J179 h
        refine jd_pop (pc := 1001) dL_law_1001 rfl ?_
        refine jd_goto (pc := 1002) 1567 dL_law_1002 (by decide) ?_
        refine jd_iinc (pc := 1567) (v := (x3 + 6)) 3 [(3, .int (x3 + 6)), (0, .ref b), (1, .ref (gb G + 0)), (2, .ref (gb G + 45))] dL_law_1567 rfl rfl (Nat.le_of_ble_eq_true rfl) rfl ?_
        refine jd_goto (pc := 1570) 18 dL_law_1570 (by decide) ?_
        exact jd_lv (lv2 := [(0, .ref b), (1, .ref (gb G + 0)), (2, .ref (gb G + 45)), (3, .int (x3 + 6))]) [1, 2, 3, 0] rfl h
      · have h := h.2.2.2.2.2.2.2.2.2.2.2.2.2.2.2.2.2.2.2.2.2.2.2.1 hq
        refine jd_tableIn (pc := 33) 1005 dL_law_33 (by omega) (by omega) (by rw [hq]; rfl) (by decide) ?_
        refine jd_aload_n (pc := 1005) 1 dL_law_1005 rfl rfl ?_
        refine jd_aload_n (pc := 1006) 0 dL_law_1006 rfl rfl ?_
        refine jd_iload_n (pc := 1007) 3 dL_law_1007 rfl rfl ?_
        refine jd_iconst (pc := 1008) (v := 1) dL_law_1008 (by decide) ?_
        refine jd_iadd (pc := 1009) dL_law_1009 ?_
        obtain ⟨hv181, h⟩ := h
        refine jd_sld (pc := 1010) hXs hv181 dL_law_1010 ?_
        refine jd_aload_n (pc := 1011) 0 dL_law_1011 rfl rfl ?_
        refine jd_iload_n (pc := 1012) 3 dL_law_1012 rfl rfl ?_
        refine jd_iconst (pc := 1013) (v := 2) dL_law_1013 (by decide) ?_
        refine jd_iadd (pc := 1014) dL_law_1014 ?_
        obtain ⟨hv182, h⟩ := h
        refine jd_sld (pc := 1015) hXs hv182 dL_law_1015 ?_
        refine jd_callVi (pc := 1016) (M2 := mX11_coach) (id := 0) (ci := 10) (T := TX11) (N := 9) (av := [.int (xs (Int32.toNatClampNeg (x3 + 1))), .int (xs (Int32.toNatClampNeg (x3 + 2)))]) kX11_coach sX11_coach rfl hX.1 lL_114 rfl rfl (Nat.le_of_ble_eq_true rfl) dL_law_1016 h ?_
        intro v184 I183 J183 h
        refine jd_pop (pc := 1019) dL_law_1019 rfl ?_
        refine jd_aload_n (pc := 1020) 2 dL_law_1020 rfl rfl ?_
        refine jd_aload_n (pc := 1021) 0 dL_law_1021 rfl rfl ?_
        refine jd_iload_n (pc := 1022) 3 dL_law_1022 rfl rfl ?_
        refine jd_iconst (pc := 1023) (v := 1) dL_law_1023 (by decide) ?_
        refine jd_iadd (pc := 1024) dL_law_1024 ?_
        obtain ⟨hv185, h⟩ := h
        refine jd_sld (pc := 1025) hXs hv185 dL_law_1025 ?_
        refine jd_aload_n (pc := 1026) 0 dL_law_1026 rfl rfl ?_
        refine jd_iload_n (pc := 1027) 3 dL_law_1027 rfl rfl ?_
        refine jd_iconst (pc := 1028) (v := 2) dL_law_1028 (by decide) ?_
        refine jd_iadd (pc := 1029) dL_law_1029 ?_
        obtain ⟨hv186, h⟩ := h
        refine jd_sld (pc := 1030) hXs hv186 dL_law_1030 ?_
        refine jd_callVi (pc := 1031) (M2 := mX12_coach) (id := 45) (ci := 11) (T := TX12) (N := 45) (av := [.int (xs (Int32.toNatClampNeg (x3 + 1))), .int (xs (Int32.toNatClampNeg (x3 + 2)))]) kX12_coach sX12_coach rfl hM.1 lL_117 rfl rfl (Nat.le_of_ble_eq_true rfl) dL_law_1031 h ?_
        intro v188 I187 J187 h
        refine jd_pop (pc := 1034) dL_law_1034 rfl ?_
        refine jd_goto (pc := 1035) 1567 dL_law_1035 (by decide) ?_
        refine jd_iinc (pc := 1567) (v := (x3 + 6)) 3 [(3, .int (x3 + 6)), (0, .ref b), (1, .ref (gb G + 0)), (2, .ref (gb G + 45))] dL_law_1567 rfl rfl (Nat.le_of_ble_eq_true rfl) rfl ?_
        refine jd_goto (pc := 1570) 18 dL_law_1570 (by decide) ?_
        exact jd_lv (lv2 := [(0, .ref b), (1, .ref (gb G + 0)), (2, .ref (gb G + 45)), (3, .int (x3 + 6))]) [1, 2, 3, 0] rfl h
      · have h := h.2.2.2.2.2.2.2.2.2.2.2.2.2.2.2.2.2.2.2.2.2.2.2.2.1 hq
        refine jd_tableIn (pc := 33) 1038 dL_law_33 (by omega) (by omega) (by rw [hq]; rfl) (by decide) ?_
        refine jd_aload_n (pc := 1038) 1 dL_law_1038 rfl rfl ?_
        refine jd_aload_n (pc := 1039) 0 dL_law_1039 rfl rfl ?_
        refine jd_iload_n (pc := 1040) 3 dL_law_1040 rfl rfl ?_
        refine jd_iconst (pc := 1041) (v := 1) dL_law_1041 (by decide) ?_
        refine jd_iadd (pc := 1042) dL_law_1042 ?_
        obtain ⟨hv189, h⟩ := h
        refine jd_sld (pc := 1043) hXs hv189 dL_law_1043 ?_
        refine jd_callVi (pc := 1044) (M2 := mX11_left) (id := 0) (ci := 10) (T := TX11) (N := 9) (av := [.int (xs (Int32.toNatClampNeg (x3 + 1)))]) kX11_left sX11_left rfl hX.1 lL_118 rfl rfl (Nat.le_of_ble_eq_true rfl) dL_law_1044 h ?_
        intro v191 I190 J190 h
        refine jd_pop (pc := 1047) dL_law_1047 rfl ?_
        refine jd_aload_n (pc := 1048) 2 dL_law_1048 rfl rfl ?_
        refine jd_aload_n (pc := 1049) 0 dL_law_1049 rfl rfl ?_
        refine jd_iload_n (pc := 1050) 3 dL_law_1050 rfl rfl ?_
        refine jd_iconst (pc := 1051) (v := 1) dL_law_1051 (by decide) ?_
        refine jd_iadd (pc := 1052) dL_law_1052 ?_
        obtain ⟨hv192, h⟩ := h
        refine jd_sld (pc := 1053) hXs hv192 dL_law_1053 ?_
        refine jd_callVi (pc := 1054) (M2 := mX12_left) (id := 45) (ci := 11) (T := TX12) (N := 45) (av := [.int (xs (Int32.toNatClampNeg (x3 + 1)))]) kX12_left sX12_left rfl hM.1 lL_121 rfl rfl (Nat.le_of_ble_eq_true rfl) dL_law_1054 h ?_
        intro v194 I193 J193 h
        refine jd_pop (pc := 1057) dL_law_1057 rfl ?_
        refine jd_goto (pc := 1058) 1567 dL_law_1058 (by decide) ?_
        refine jd_iinc (pc := 1567) (v := (x3 + 6)) 3 [(3, .int (x3 + 6)), (0, .ref b), (1, .ref (gb G + 0)), (2, .ref (gb G + 45))] dL_law_1567 rfl rfl (Nat.le_of_ble_eq_true rfl) rfl ?_
        refine jd_goto (pc := 1570) 18 dL_law_1570 (by decide) ?_
        exact jd_lv (lv2 := [(0, .ref b), (1, .ref (gb G + 0)), (2, .ref (gb G + 45)), (3, .int (x3 + 6))]) [1, 2, 3, 0] rfl h
      · have h := h.2.2.2.2.2.2.2.2.2.2.2.2.2.2.2.2.2.2.2.2.2.2.2.2.2.1 hq
        refine jd_tableIn (pc := 33) 1061 dL_law_33 (by omega) (by omega) (by rw [hq]; rfl) (by decide) ?_
        refine jd_aload_n (pc := 1061) 1 dL_law_1061 rfl rfl ?_
        refine jd_aload_n (pc := 1062) 0 dL_law_1062 rfl rfl ?_
        refine jd_iload_n (pc := 1063) 3 dL_law_1063 rfl rfl ?_
        refine jd_iconst (pc := 1064) (v := 1) dL_law_1064 (by decide) ?_
        refine jd_iadd (pc := 1065) dL_law_1065 ?_
        obtain ⟨hv195, h⟩ := h
        refine jd_sld (pc := 1066) hXs hv195 dL_law_1066 ?_
        refine jd_aload_n (pc := 1067) 0 dL_law_1067 rfl rfl ?_
        refine jd_iload_n (pc := 1068) 3 dL_law_1068 rfl rfl ?_
        refine jd_iconst (pc := 1069) (v := 2) dL_law_1069 (by decide) ?_
        refine jd_iadd (pc := 1070) dL_law_1070 ?_
        obtain ⟨hv196, h⟩ := h
        refine jd_sld (pc := 1071) hXs hv196 dL_law_1071 ?_
        refine jd_callVi (pc := 1072) (M2 := mX11_waits) (id := 0) (ci := 10) (T := TX11) (N := 9) (av := [.int (xs (Int32.toNatClampNeg (x3 + 1))), .int (xs (Int32.toNatClampNeg (x3 + 2)))]) kX11_waits sX11_waits rfl hX.1 lL_122 rfl rfl (Nat.le_of_ble_eq_true rfl) dL_law_1072 h ?_
        intro v198 I197 J197 h
        refine jd_pop (pc := 1075) dL_law_1075 rfl ?_
        refine jd_aload_n (pc := 1076) 2 dL_law_1076 rfl rfl ?_
        refine jd_aload_n (pc := 1077) 0 dL_law_1077 rfl rfl ?_
        refine jd_iload_n (pc := 1078) 3 dL_law_1078 rfl rfl ?_
        refine jd_iconst (pc := 1079) (v := 1) dL_law_1079 (by decide) ?_
        refine jd_iadd (pc := 1080) dL_law_1080 ?_
        obtain ⟨hv199, h⟩ := h
        refine jd_sld (pc := 1081) hXs hv199 dL_law_1081 ?_
        refine jd_aload_n (pc := 1082) 0 dL_law_1082 rfl rfl ?_
        refine jd_iload_n (pc := 1083) 3 dL_law_1083 rfl rfl ?_
        refine jd_iconst (pc := 1084) (v := 2) dL_law_1084 (by decide) ?_
        refine jd_iadd (pc := 1085) dL_law_1085 ?_
        obtain ⟨hv200, h⟩ := h
        refine jd_sld (pc := 1086) hXs hv200 dL_law_1086 ?_
        refine jd_callVi (pc := 1087) (M2 := mX12_waits) (id := 45) (ci := 11) (T := TX12) (N := 45) (av := [.int (xs (Int32.toNatClampNeg (x3 + 1))), .int (xs (Int32.toNatClampNeg (x3 + 2)))]) kX12_waits sX12_waits rfl hM.1 lL_125 rfl rfl (Nat.le_of_ble_eq_true rfl) dL_law_1087 h ?_
        intro v202 I201 J201 h
        refine jd_pop (pc := 1090) dL_law_1090 rfl ?_
        refine jd_goto (pc := 1091) 1567 dL_law_1091 (by decide) ?_
        refine jd_iinc (pc := 1567) (v := (x3 + 6)) 3 [(3, .int (x3 + 6)), (0, .ref b), (1, .ref (gb G + 0)), (2, .ref (gb G + 45))] dL_law_1567 rfl rfl (Nat.le_of_ble_eq_true rfl) rfl ?_
        refine jd_goto (pc := 1570) 18 dL_law_1570 (by decide) ?_
        exact jd_lv (lv2 := [(0, .ref b), (1, .ref (gb G + 0)), (2, .ref (gb G + 45)), (3, .int (x3 + 6))]) [1, 2, 3, 0] rfl h
      · have h := h.2.2.2.2.2.2.2.2.2.2.2.2.2.2.2.2.2.2.2.2.2.2.2.2.2.2.1 hq
        refine jd_tableIn (pc := 33) 1094 dL_law_33 (by omega) (by omega) (by rw [hq]; rfl) (by decide) ?_
        refine jd_aload_n (pc := 1094) 1 dL_law_1094 rfl rfl ?_
        refine jd_aload_n (pc := 1095) 0 dL_law_1095 rfl rfl ?_
        refine jd_iload_n (pc := 1096) 3 dL_law_1096 rfl rfl ?_
        refine jd_iconst (pc := 1097) (v := 1) dL_law_1097 (by decide) ?_
        refine jd_iadd (pc := 1098) dL_law_1098 ?_
        obtain ⟨hv203, h⟩ := h
        refine jd_sld (pc := 1099) hXs hv203 dL_law_1099 ?_
        refine jd_callVi (pc := 1100) (M2 := mX11_least) (id := 0) (ci := 10) (T := TX11) (N := 9) (av := [.int (xs (Int32.toNatClampNeg (x3 + 1)))]) kX11_least sX11_least rfl hX.1 lL_126 rfl rfl (Nat.le_of_ble_eq_true rfl) dL_law_1100 h ?_
        intro v205 I204 J204 h
        refine jd_pop (pc := 1103) dL_law_1103 rfl ?_
        refine jd_aload_n (pc := 1104) 2 dL_law_1104 rfl rfl ?_
        refine jd_aload_n (pc := 1105) 0 dL_law_1105 rfl rfl ?_
        refine jd_iload_n (pc := 1106) 3 dL_law_1106 rfl rfl ?_
        refine jd_iconst (pc := 1107) (v := 1) dL_law_1107 (by decide) ?_
        refine jd_iadd (pc := 1108) dL_law_1108 ?_
        obtain ⟨hv206, h⟩ := h
        refine jd_sld (pc := 1109) hXs hv206 dL_law_1109 ?_
        refine jd_callVi (pc := 1110) (M2 := mX12_least) (id := 45) (ci := 11) (T := TX12) (N := 45) (av := [.int (xs (Int32.toNatClampNeg (x3 + 1)))]) kX12_least sX12_least rfl hM.1 lL_129 rfl rfl (Nat.le_of_ble_eq_true rfl) dL_law_1110 h ?_
        intro v208 I207 J207 h
        refine jd_pop (pc := 1113) dL_law_1113 rfl ?_
        refine jd_goto (pc := 1114) 1567 dL_law_1114 (by decide) ?_
        refine jd_iinc (pc := 1567) (v := (x3 + 6)) 3 [(3, .int (x3 + 6)), (0, .ref b), (1, .ref (gb G + 0)), (2, .ref (gb G + 45))] dL_law_1567 rfl rfl (Nat.le_of_ble_eq_true rfl) rfl ?_
        refine jd_goto (pc := 1570) 18 dL_law_1570 (by decide) ?_
        exact jd_lv (lv2 := [(0, .ref b), (1, .ref (gb G + 0)), (2, .ref (gb G + 45)), (3, .int (x3 + 6))]) [1, 2, 3, 0] rfl h
      · have h := h.2.2.2.2.2.2.2.2.2.2.2.2.2.2.2.2.2.2.2.2.2.2.2.2.2.2.2.1 hq
        refine jd_tableIn (pc := 33) 1117 dL_law_33 (by omega) (by omega) (by rw [hq]; rfl) (by decide) ?_
        refine jd_aload_n (pc := 1117) 1 dL_law_1117 rfl rfl ?_
        refine jd_callVi (pc := 1118) (M2 := mX11_head) (id := 0) (ci := 10) (T := TX11) (N := 9) (av := []) kX11_head sX11_head rfl hX.1 lL_130 rfl rfl (Nat.le_of_ble_eq_true rfl) dL_law_1118 h ?_
        intro v210 I209 J209 h
        refine jd_pop (pc := 1121) dL_law_1121 rfl ?_
        refine jd_aload_n (pc := 1122) 2 dL_law_1122 rfl rfl ?_
        refine jd_callVi (pc := 1123) (M2 := mX12_head) (id := 45) (ci := 11) (T := TX12) (N := 45) (av := []) kX12_head sX12_head rfl hM.1 lL_133 rfl rfl (Nat.le_of_ble_eq_true rfl) dL_law_1123 h ?_
        intro v212 I211 J211 h
        refine jd_pop (pc := 1126) dL_law_1126 rfl ?_
        refine jd_goto (pc := 1127) 1567 dL_law_1127 (by decide) ?_
        refine jd_iinc (pc := 1567) (v := (x3 + 6)) 3 [(3, .int (x3 + 6)), (0, .ref b), (1, .ref (gb G + 0)), (2, .ref (gb G + 45))] dL_law_1567 rfl rfl (Nat.le_of_ble_eq_true rfl) rfl ?_
        refine jd_goto (pc := 1570) 18 dL_law_1570 (by decide) ?_
        exact jd_lv (lv2 := [(0, .ref b), (1, .ref (gb G + 0)), (2, .ref (gb G + 45)), (3, .int (x3 + 6))]) [1, 2, 3, 0] rfl h
      · have h := h.2.2.2.2.2.2.2.2.2.2.2.2.2.2.2.2.2.2.2.2.2.2.2.2.2.2.2.2.1 hq
        refine jd_tableIn (pc := 33) 1130 dL_law_33 (by omega) (by omega) (by rw [hq]; rfl) (by decide) ?_
        refine jd_aload_n (pc := 1130) 1 dL_law_1130 rfl rfl ?_
        refine jd_aload_n (pc := 1131) 0 dL_law_1131 rfl rfl ?_
        refine jd_iload_n (pc := 1132) 3 dL_law_1132 rfl rfl ?_
        refine jd_iconst (pc := 1133) (v := 1) dL_law_1133 (by decide) ?_
        refine jd_iadd (pc := 1134) dL_law_1134 ?_
        obtain ⟨hv213, h⟩ := h
        refine jd_sld (pc := 1135) hXs hv213 dL_law_1135 ?_
        refine jd_callVi (pc := 1136) (M2 := mX11_days) (id := 0) (ci := 10) (T := TX11) (N := 9) (av := [.int (xs (Int32.toNatClampNeg (x3 + 1)))]) kX11_days sX11_days rfl hX.1 lL_134 rfl rfl (Nat.le_of_ble_eq_true rfl) dL_law_1136 h ?_
        intro v215 I214 J214 h
        refine jd_pop (pc := 1139) dL_law_1139 rfl ?_
        refine jd_aload_n (pc := 1140) 2 dL_law_1140 rfl rfl ?_
        refine jd_aload_n (pc := 1141) 0 dL_law_1141 rfl rfl ?_
        refine jd_iload_n (pc := 1142) 3 dL_law_1142 rfl rfl ?_
        refine jd_iconst (pc := 1143) (v := 1) dL_law_1143 (by decide) ?_
        refine jd_iadd (pc := 1144) dL_law_1144 ?_
        obtain ⟨hv216, h⟩ := h
        refine jd_sld (pc := 1145) hXs hv216 dL_law_1145 ?_
        obtain ⟨mc217, ms217, rc217, rs217, hb1, hb2, h⟩ := h
        refine jd_callV (pc := 1146) (M2 := mX12_days) (id := 45) (ci := 11) (T := TX12) (N := 45) (rc2 := rc217) (rs2 := rs217) (av := [.int (xs (Int32.toNatClampNeg (x3 + 1)))]) kX12_days sX12_days rfl hM.1 lL_137 rfl rfl (Nat.le_of_ble_eq_true rfl) hb1 hb2 dL_law_1146 (Cl.mono h (fun r217 Z217 I217 J217 h => ?_))
        obtain ⟨v217, rfl, h⟩ := h
        obtain ⟨hX, h⟩ := h
        obtain ⟨hM, h⟩ := h
        refine jd_pop (pc := 1149) dL_law_1149 rfl ?_
        refine jd_goto (pc := 1150) 1567 dL_law_1150 (by decide) ?_
        refine jd_iinc (pc := 1567) (v := (x3 + 6)) 3 [(3, .int (x3 + 6)), (0, .ref b), (1, .ref (gb G + 0)), (2, .ref (gb G + 45))] dL_law_1567 rfl rfl (Nat.le_of_ble_eq_true rfl) rfl ?_
        refine jd_goto (pc := 1570) 18 dL_law_1570 (by decide) ?_
        exact jd_lv (lv2 := [(0, .ref b), (1, .ref (gb G + 0)), (2, .ref (gb G + 45)), (3, .int (x3 + 6))]) [1, 2, 3, 0] rfl h
      · have h := h.2.2.2.2.2.2.2.2.2.2.2.2.2.2.2.2.2.2.2.2.2.2.2.2.2.2.2.2.2.1 hq
        refine jd_tableIn (pc := 33) 1153 dL_law_33 (by omega) (by omega) (by rw [hq]; rfl) (by decide) ?_
        refine jd_aload_n (pc := 1153) 1 dL_law_1153 rfl rfl ?_
        refine jd_aload_n (pc := 1154) 0 dL_law_1154 rfl rfl ?_
        refine jd_iload_n (pc := 1155) 3 dL_law_1155 rfl rfl ?_
        refine jd_iconst (pc := 1156) (v := 1) dL_law_1156 (by decide) ?_
        refine jd_iadd (pc := 1157) dL_law_1157 ?_
        obtain ⟨hv218, h⟩ := h
        refine jd_sld (pc := 1158) hXs hv218 dL_law_1158 ?_
        refine jd_callVi (pc := 1159) (M2 := mX11_ever) (id := 0) (ci := 10) (T := TX11) (N := 9) (av := [.int (xs (Int32.toNatClampNeg (x3 + 1)))]) kX11_ever sX11_ever rfl hX.1 lL_138 rfl rfl (Nat.le_of_ble_eq_true rfl) dL_law_1159 h ?_
        intro v220 I219 J219 h
        refine jd_pop (pc := 1162) dL_law_1162 rfl ?_
        refine jd_aload_n (pc := 1163) 2 dL_law_1163 rfl rfl ?_
        refine jd_aload_n (pc := 1164) 0 dL_law_1164 rfl rfl ?_
        refine jd_iload_n (pc := 1165) 3 dL_law_1165 rfl rfl ?_
        refine jd_iconst (pc := 1166) (v := 1) dL_law_1166 (by decide) ?_
        refine jd_iadd (pc := 1167) dL_law_1167 ?_
        obtain ⟨hv221, h⟩ := h
        refine jd_sld (pc := 1168) hXs hv221 dL_law_1168 ?_
        obtain ⟨mc222, ms222, rc222, rs222, hb1, hb2, h⟩ := h
        refine jd_callV (pc := 1169) (M2 := mX12_ever) (id := 45) (ci := 11) (T := TX12) (N := 45) (rc2 := rc222) (rs2 := rs222) (av := [.int (xs (Int32.toNatClampNeg (x3 + 1)))]) kX12_ever sX12_ever rfl hM.1 lL_141 rfl rfl (Nat.le_of_ble_eq_true rfl) hb1 hb2 dL_law_1169 (Cl.mono h (fun r222 Z222 I222 J222 h => ?_))
        obtain ⟨v222, rfl, h⟩ := h
        obtain ⟨hX, h⟩ := h
        obtain ⟨hM, h⟩ := h
        refine jd_pop (pc := 1172) dL_law_1172 rfl ?_
        refine jd_goto (pc := 1173) 1567 dL_law_1173 (by decide) ?_
        refine jd_iinc (pc := 1567) (v := (x3 + 6)) 3 [(3, .int (x3 + 6)), (0, .ref b), (1, .ref (gb G + 0)), (2, .ref (gb G + 45))] dL_law_1567 rfl rfl (Nat.le_of_ble_eq_true rfl) rfl ?_
        refine jd_goto (pc := 1570) 18 dL_law_1570 (by decide) ?_
        exact jd_lv (lv2 := [(0, .ref b), (1, .ref (gb G + 0)), (2, .ref (gb G + 45)), (3, .int (x3 + 6))]) [1, 2, 3, 0] rfl h
      · have h := h.2.2.2.2.2.2.2.2.2.2.2.2.2.2.2.2.2.2.2.2.2.2.2.2.2.2.2.2.2.2.1 hq
        refine jd_tableIn (pc := 33) 1176 dL_law_33 (by omega) (by omega) (by rw [hq]; rfl) (by decide) ?_
        refine jd_aload_n (pc := 1176) 1 dL_law_1176 rfl rfl ?_
        refine jd_callVi (pc := 1177) (M2 := mX11_hire) (id := 0) (ci := 10) (T := TX11) (N := 9) (av := []) kX11_hire sX11_hire rfl hX.1 lL_142 rfl rfl (Nat.le_of_ble_eq_true rfl) dL_law_1177 h ?_
        intro v224 I223 J223 h
        refine jd_pop (pc := 1180) dL_law_1180 rfl ?_
        refine jd_aload_n (pc := 1181) 2 dL_law_1181 rfl rfl ?_
        obtain ⟨mc225, ms225, rc225, rs225, hb1, hb2, h⟩ := h
        refine jd_callV (pc := 1182) (M2 := mX12_hire) (id := 45) (ci := 11) (T := TX12) (N := 45) (rc2 := rc225) (rs2 := rs225) (av := []) kX12_hire sX12_hire rfl hM.1 lL_145 rfl rfl (Nat.le_of_ble_eq_true rfl) hb1 hb2 dL_law_1182 (Cl.mono h (fun r225 Z225 I225 J225 h => ?_))
        obtain ⟨v225, rfl, h⟩ := h
        obtain ⟨hX, h⟩ := h
        obtain ⟨hM, h⟩ := h
        refine jd_pop (pc := 1185) dL_law_1185 rfl ?_
        refine jd_goto (pc := 1186) 1567 dL_law_1186 (by decide) ?_
        refine jd_iinc (pc := 1567) (v := (x3 + 6)) 3 [(3, .int (x3 + 6)), (0, .ref b), (1, .ref (gb G + 0)), (2, .ref (gb G + 45))] dL_law_1567 rfl rfl (Nat.le_of_ble_eq_true rfl) rfl ?_
        refine jd_goto (pc := 1570) 18 dL_law_1570 (by decide) ?_
        exact jd_lv (lv2 := [(0, .ref b), (1, .ref (gb G + 0)), (2, .ref (gb G + 45)), (3, .int (x3 + 6))]) [1, 2, 3, 0] rfl h
      · have h := h.2.2.2.2.2.2.2.2.2.2.2.2.2.2.2.2.2.2.2.2.2.2.2.2.2.2.2.2.2.2.2.1 hq
        refine jd_tableIn (pc := 33) 1189 dL_law_33 (by omega) (by omega) (by rw [hq]; rfl) (by decide) ?_
        refine jd_aload_n (pc := 1189) 1 dL_law_1189 rfl rfl ?_
        refine jd_aload_n (pc := 1190) 0 dL_law_1190 rfl rfl ?_
        refine jd_iload_n (pc := 1191) 3 dL_law_1191 rfl rfl ?_
        refine jd_iconst (pc := 1192) (v := 1) dL_law_1192 (by decide) ?_
        refine jd_iadd (pc := 1193) dL_law_1193 ?_
        obtain ⟨hv226, h⟩ := h
        refine jd_sld (pc := 1194) hXs hv226 dL_law_1194 ?_
        refine jd_callVi (pc := 1195) (M2 := mX11_feast) (id := 0) (ci := 10) (T := TX11) (N := 9) (av := [.int (xs (Int32.toNatClampNeg (x3 + 1)))]) kX11_feast sX11_feast rfl hX.1 lL_146 rfl rfl (Nat.le_of_ble_eq_true rfl) dL_law_1195 h ?_
        intro v228 I227 J227 h
        refine jd_pop (pc := 1198) dL_law_1198 rfl ?_
        refine jd_aload_n (pc := 1199) 2 dL_law_1199 rfl rfl ?_
        refine jd_aload_n (pc := 1200) 0 dL_law_1200 rfl rfl ?_
        refine jd_iload_n (pc := 1201) 3 dL_law_1201 rfl rfl ?_
        refine jd_iconst (pc := 1202) (v := 1) dL_law_1202 (by decide) ?_
        refine jd_iadd (pc := 1203) dL_law_1203 ?_
        obtain ⟨hv229, h⟩ := h
        refine jd_sld (pc := 1204) hXs hv229 dL_law_1204 ?_
        obtain ⟨mc230, ms230, rc230, rs230, hb1, hb2, h⟩ := h
        refine jd_callV (pc := 1205) (M2 := mX12_feast) (id := 45) (ci := 11) (T := TX12) (N := 45) (rc2 := rc230) (rs2 := rs230) (av := [.int (xs (Int32.toNatClampNeg (x3 + 1)))]) kX12_feast sX12_feast rfl hM.1 lL_149 rfl rfl (Nat.le_of_ble_eq_true rfl) hb1 hb2 dL_law_1205 (Cl.mono h (fun r230 Z230 I230 J230 h => ?_))
        obtain ⟨v230, rfl, h⟩ := h
        obtain ⟨hX, h⟩ := h
        obtain ⟨hM, h⟩ := h
        refine jd_pop (pc := 1208) dL_law_1208 rfl ?_
        refine jd_goto (pc := 1209) 1567 dL_law_1209 (by decide) ?_
        refine jd_iinc (pc := 1567) (v := (x3 + 6)) 3 [(3, .int (x3 + 6)), (0, .ref b), (1, .ref (gb G + 0)), (2, .ref (gb G + 45))] dL_law_1567 rfl rfl (Nat.le_of_ble_eq_true rfl) rfl ?_
        refine jd_goto (pc := 1570) 18 dL_law_1570 (by decide) ?_
        exact jd_lv (lv2 := [(0, .ref b), (1, .ref (gb G + 0)), (2, .ref (gb G + 45)), (3, .int (x3 + 6))]) [1, 2, 3, 0] rfl h
      · have h := h.2.2.2.2.2.2.2.2.2.2.2.2.2.2.2.2.2.2.2.2.2.2.2.2.2.2.2.2.2.2.2.2.1 hq
        refine jd_tableIn (pc := 33) 1212 dL_law_33 (by omega) (by omega) (by rw [hq]; rfl) (by decide) ?_
        refine jd_aload_n (pc := 1212) 1 dL_law_1212 rfl rfl ?_
        refine jd_aload_n (pc := 1213) 0 dL_law_1213 rfl rfl ?_
        refine jd_iload_n (pc := 1214) 3 dL_law_1214 rfl rfl ?_
        refine jd_iconst (pc := 1215) (v := 1) dL_law_1215 (by decide) ?_
        refine jd_iadd (pc := 1216) dL_law_1216 ?_
        obtain ⟨hv231, h⟩ := h
        refine jd_sld (pc := 1217) hXs hv231 dL_law_1217 ?_
        refine jd_aload_n (pc := 1218) 0 dL_law_1218 rfl rfl ?_
        refine jd_iload_n (pc := 1219) 3 dL_law_1219 rfl rfl ?_
        refine jd_iconst (pc := 1220) (v := 2) dL_law_1220 (by decide) ?_
        refine jd_iadd (pc := 1221) dL_law_1221 ?_
        obtain ⟨hv232, h⟩ := h
        refine jd_sld (pc := 1222) hXs hv232 dL_law_1222 ?_
        refine jd_callVi (pc := 1223) (M2 := mX11_closes) (id := 0) (ci := 10) (T := TX11) (N := 9) (av := [.int (xs (Int32.toNatClampNeg (x3 + 1))), .int (xs (Int32.toNatClampNeg (x3 + 2)))]) kX11_closes sX11_closes rfl hX.1 lL_150 rfl rfl (Nat.le_of_ble_eq_true rfl) dL_law_1223 h ?_
        intro v234 I233 J233 h
        refine jd_pop (pc := 1226) dL_law_1226 rfl ?_
        refine jd_aload_n (pc := 1227) 2 dL_law_1227 rfl rfl ?_
        refine jd_aload_n (pc := 1228) 0 dL_law_1228 rfl rfl ?_
        refine jd_iload_n (pc := 1229) 3 dL_law_1229 rfl rfl ?_
        refine jd_iconst (pc := 1230) (v := 1) dL_law_1230 (by decide) ?_
        refine jd_iadd (pc := 1231) dL_law_1231 ?_
        obtain ⟨hv235, h⟩ := h
        refine jd_sld (pc := 1232) hXs hv235 dL_law_1232 ?_
        refine jd_aload_n (pc := 1233) 0 dL_law_1233 rfl rfl ?_
        refine jd_iload_n (pc := 1234) 3 dL_law_1234 rfl rfl ?_
        refine jd_iconst (pc := 1235) (v := 2) dL_law_1235 (by decide) ?_
        refine jd_iadd (pc := 1236) dL_law_1236 ?_
        obtain ⟨hv236, h⟩ := h
        refine jd_sld (pc := 1237) hXs hv236 dL_law_1237 ?_
        obtain ⟨mc237, ms237, rc237, rs237, hb1, hb2, h⟩ := h
        refine jd_callV (pc := 1238) (M2 := mX12_closes) (id := 45) (ci := 11) (T := TX12) (N := 45) (rc2 := rc237) (rs2 := rs237) (av := [.int (xs (Int32.toNatClampNeg (x3 + 1))), .int (xs (Int32.toNatClampNeg (x3 + 2)))]) kX12_closes sX12_closes rfl hM.1 lL_153 rfl rfl (Nat.le_of_ble_eq_true rfl) hb1 hb2 dL_law_1238 (Cl.mono h (fun r237 Z237 I237 J237 h => ?_))
        obtain ⟨v237, rfl, h⟩ := h
        obtain ⟨hX, h⟩ := h
        obtain ⟨hM, h⟩ := h
        refine jd_pop (pc := 1241) dL_law_1241 rfl ?_
        refine jd_goto (pc := 1242) 1567 dL_law_1242 (by decide) ?_
        refine jd_iinc (pc := 1567) (v := (x3 + 6)) 3 [(3, .int (x3 + 6)), (0, .ref b), (1, .ref (gb G + 0)), (2, .ref (gb G + 45))] dL_law_1567 rfl rfl (Nat.le_of_ble_eq_true rfl) rfl ?_
        refine jd_goto (pc := 1570) 18 dL_law_1570 (by decide) ?_
        exact jd_lv (lv2 := [(0, .ref b), (1, .ref (gb G + 0)), (2, .ref (gb G + 45)), (3, .int (x3 + 6))]) [1, 2, 3, 0] rfl h
      · have h := h.2.2.2.2.2.2.2.2.2.2.2.2.2.2.2.2.2.2.2.2.2.2.2.2.2.2.2.2.2.2.2.2.2.1 hq
        refine jd_tableIn (pc := 33) 1245 dL_law_33 (by omega) (by omega) (by rw [hq]; rfl) (by decide) ?_
        refine jd_aload_n (pc := 1245) 1 dL_law_1245 rfl rfl ?_
        refine jd_callVi (pc := 1246) (M2 := mX11_worst) (id := 0) (ci := 10) (T := TX11) (N := 9) (av := []) kX11_worst sX11_worst rfl hX.1 lL_154 rfl rfl (Nat.le_of_ble_eq_true rfl) dL_law_1246 h ?_
        intro v239 I238 J238 h
        refine jd_pop (pc := 1249) dL_law_1249 rfl ?_
        refine jd_aload_n (pc := 1250) 2 dL_law_1250 rfl rfl ?_
        obtain ⟨mc240, ms240, rc240, rs240, hb1, hb2, h⟩ := h
        refine jd_callV (pc := 1251) (M2 := mX12_worst) (id := 45) (ci := 11) (T := TX12) (N := 45) (rc2 := rc240) (rs2 := rs240) (av := []) kX12_worst sX12_worst rfl hM.1 lL_157 rfl rfl (Nat.le_of_ble_eq_true rfl) hb1 hb2 dL_law_1251 (Cl.mono h (fun r240 Z240 I240 J240 h => ?_))
        obtain ⟨v240, rfl, h⟩ := h
        obtain ⟨hX, h⟩ := h
        obtain ⟨hM, h⟩ := h
        refine jd_pop (pc := 1254) dL_law_1254 rfl ?_
        refine jd_goto (pc := 1255) 1567 dL_law_1255 (by decide) ?_
        refine jd_iinc (pc := 1567) (v := (x3 + 6)) 3 [(3, .int (x3 + 6)), (0, .ref b), (1, .ref (gb G + 0)), (2, .ref (gb G + 45))] dL_law_1567 rfl rfl (Nat.le_of_ble_eq_true rfl) rfl ?_
        refine jd_goto (pc := 1570) 18 dL_law_1570 (by decide) ?_
        exact jd_lv (lv2 := [(0, .ref b), (1, .ref (gb G + 0)), (2, .ref (gb G + 45)), (3, .int (x3 + 6))]) [1, 2, 3, 0] rfl h
      · have h := h.2.2.2.2.2.2.2.2.2.2.2.2.2.2.2.2.2.2.2.2.2.2.2.2.2.2.2.2.2.2.2.2.2.2.1 hq
        refine jd_tableIn (pc := 33) 1258 dL_law_33 (by omega) (by omega) (by rw [hq]; rfl) (by decide) ?_
        refine jd_aload_n (pc := 1258) 1 dL_law_1258 rfl rfl ?_
        refine jd_aload_n (pc := 1259) 0 dL_law_1259 rfl rfl ?_
        refine jd_iload_n (pc := 1260) 3 dL_law_1260 rfl rfl ?_
        refine jd_iconst (pc := 1261) (v := 1) dL_law_1261 (by decide) ?_
        refine jd_iadd (pc := 1262) dL_law_1262 ?_
        obtain ⟨hv241, h⟩ := h
        refine jd_sld (pc := 1263) hXs hv241 dL_law_1263 ?_
        refine jd_callVi (pc := 1264) (M2 := mX11_fits) (id := 0) (ci := 10) (T := TX11) (N := 9) (av := [.int (xs (Int32.toNatClampNeg (x3 + 1)))]) kX11_fits sX11_fits rfl hX.1 lL_158 rfl rfl (Nat.le_of_ble_eq_true rfl) dL_law_1264 h ?_
        intro v243 I242 J242 h
        refine jd_pop (pc := 1267) dL_law_1267 rfl ?_
        refine jd_aload_n (pc := 1268) 2 dL_law_1268 rfl rfl ?_
        refine jd_aload_n (pc := 1269) 0 dL_law_1269 rfl rfl ?_
        refine jd_iload_n (pc := 1270) 3 dL_law_1270 rfl rfl ?_
        refine jd_iconst (pc := 1271) (v := 1) dL_law_1271 (by decide) ?_
        refine jd_iadd (pc := 1272) dL_law_1272 ?_
        obtain ⟨hv244, h⟩ := h
        refine jd_sld (pc := 1273) hXs hv244 dL_law_1273 ?_
        obtain ⟨mc245, ms245, rc245, rs245, hb1, hb2, h⟩ := h
        refine jd_callV (pc := 1274) (M2 := mX12_fits) (id := 45) (ci := 11) (T := TX12) (N := 45) (rc2 := rc245) (rs2 := rs245) (av := [.int (xs (Int32.toNatClampNeg (x3 + 1)))]) kX12_fits sX12_fits rfl hM.1 lL_161 rfl rfl (Nat.le_of_ble_eq_true rfl) hb1 hb2 dL_law_1274 (Cl.mono h (fun r245 Z245 I245 J245 h => ?_))
        obtain ⟨v245, rfl, h⟩ := h
        obtain ⟨hX, h⟩ := h
        obtain ⟨hM, h⟩ := h
        refine jd_pop (pc := 1277) dL_law_1277 rfl ?_
        refine jd_goto (pc := 1278) 1567 dL_law_1278 (by decide) ?_
        refine jd_iinc (pc := 1567) (v := (x3 + 6)) 3 [(3, .int (x3 + 6)), (0, .ref b), (1, .ref (gb G + 0)), (2, .ref (gb G + 45))] dL_law_1567 rfl rfl (Nat.le_of_ble_eq_true rfl) rfl ?_
        refine jd_goto (pc := 1570) 18 dL_law_1570 (by decide) ?_
        exact jd_lv (lv2 := [(0, .ref b), (1, .ref (gb G + 0)), (2, .ref (gb G + 45)), (3, .int (x3 + 6))]) [1, 2, 3, 0] rfl h
      · have h := h.2.2.2.2.2.2.2.2.2.2.2.2.2.2.2.2.2.2.2.2.2.2.2.2.2.2.2.2.2.2.2.2.2.2.2.1 hq
        refine jd_tableIn (pc := 33) 1281 dL_law_33 (by omega) (by omega) (by rw [hq]; rfl) (by decide) ?_
        refine jd_aload_n (pc := 1281) 1 dL_law_1281 rfl rfl ?_
        refine jd_aload_n (pc := 1282) 0 dL_law_1282 rfl rfl ?_
        refine jd_iload_n (pc := 1283) 3 dL_law_1283 rfl rfl ?_
        refine jd_iconst (pc := 1284) (v := 1) dL_law_1284 (by decide) ?_
        refine jd_iadd (pc := 1285) dL_law_1285 ?_
        obtain ⟨hv246, h⟩ := h
        refine jd_sld (pc := 1286) hXs hv246 dL_law_1286 ?_
        refine jd_callVi (pc := 1287) (M2 := mX11_sure) (id := 0) (ci := 10) (T := TX11) (N := 9) (av := [.int (xs (Int32.toNatClampNeg (x3 + 1)))]) kX11_sure sX11_sure rfl hX.1 lL_162 rfl rfl (Nat.le_of_ble_eq_true rfl) dL_law_1287 h ?_
        intro v248 I247 J247 h
        refine jd_pop (pc := 1290) dL_law_1290 rfl ?_
        refine jd_aload_n (pc := 1291) 2 dL_law_1291 rfl rfl ?_
        refine jd_aload_n (pc := 1292) 0 dL_law_1292 rfl rfl ?_
        refine jd_iload_n (pc := 1293) 3 dL_law_1293 rfl rfl ?_
        refine jd_iconst (pc := 1294) (v := 1) dL_law_1294 (by decide) ?_
        refine jd_iadd (pc := 1295) dL_law_1295 ?_
        obtain ⟨hv249, h⟩ := h
        refine jd_sld (pc := 1296) hXs hv249 dL_law_1296 ?_
        obtain ⟨mc250, ms250, rc250, rs250, hb1, hb2, h⟩ := h
        refine jd_callV (pc := 1297) (M2 := mX12_sure) (id := 45) (ci := 11) (T := TX12) (N := 45) (rc2 := rc250) (rs2 := rs250) (av := [.int (xs (Int32.toNatClampNeg (x3 + 1)))]) kX12_sure sX12_sure rfl hM.1 lL_165 rfl rfl (Nat.le_of_ble_eq_true rfl) hb1 hb2 dL_law_1297 (Cl.mono h (fun r250 Z250 I250 J250 h => ?_))
        obtain ⟨v250, rfl, h⟩ := h
        obtain ⟨hX, h⟩ := h
        obtain ⟨hM, h⟩ := h
        refine jd_pop (pc := 1300) dL_law_1300 rfl ?_
        refine jd_goto (pc := 1301) 1567 dL_law_1301 (by decide) ?_
        refine jd_iinc (pc := 1567) (v := (x3 + 6)) 3 [(3, .int (x3 + 6)), (0, .ref b), (1, .ref (gb G + 0)), (2, .ref (gb G + 45))] dL_law_1567 rfl rfl (Nat.le_of_ble_eq_true rfl) rfl ?_
        refine jd_goto (pc := 1570) 18 dL_law_1570 (by decide) ?_
        exact jd_lv (lv2 := [(0, .ref b), (1, .ref (gb G + 0)), (2, .ref (gb G + 45)), (3, .int (x3 + 6))]) [1, 2, 3, 0] rfl h
      · have h := h.2.2.2.2.2.2.2.2.2.2.2.2.2.2.2.2.2.2.2.2.2.2.2.2.2.2.2.2.2.2.2.2.2.2.2.2.1 hq
        refine jd_tableIn (pc := 33) 1304 dL_law_33 (by omega) (by omega) (by rw [hq]; rfl) (by decide) ?_
        refine jd_aload_n (pc := 1304) 1 dL_law_1304 rfl rfl ?_
        refine jd_aload_n (pc := 1305) 0 dL_law_1305 rfl rfl ?_
        refine jd_iload_n (pc := 1306) 3 dL_law_1306 rfl rfl ?_
        refine jd_iconst (pc := 1307) (v := 1) dL_law_1307 (by decide) ?_
        refine jd_iadd (pc := 1308) dL_law_1308 ?_
        obtain ⟨hv251, h⟩ := h
        refine jd_sld (pc := 1309) hXs hv251 dL_law_1309 ?_
        refine jd_aload_n (pc := 1310) 0 dL_law_1310 rfl rfl ?_
        refine jd_iload_n (pc := 1311) 3 dL_law_1311 rfl rfl ?_
        refine jd_iconst (pc := 1312) (v := 2) dL_law_1312 (by decide) ?_
        refine jd_iadd (pc := 1313) dL_law_1313 ?_
        obtain ⟨hv252, h⟩ := h
        refine jd_sld (pc := 1314) hXs hv252 dL_law_1314 ?_
        refine jd_callVi (pc := 1315) (M2 := mX11_judge) (id := 0) (ci := 10) (T := TX11) (N := 9) (av := [.int (xs (Int32.toNatClampNeg (x3 + 1))), .int (xs (Int32.toNatClampNeg (x3 + 2)))]) kX11_judge sX11_judge rfl hX.1 lL_166 rfl rfl (Nat.le_of_ble_eq_true rfl) dL_law_1315 h ?_
        intro v254 I253 J253 h
        refine jd_pop (pc := 1318) dL_law_1318 rfl ?_
        refine jd_aload_n (pc := 1319) 2 dL_law_1319 rfl rfl ?_
        refine jd_aload_n (pc := 1320) 0 dL_law_1320 rfl rfl ?_
        refine jd_iload_n (pc := 1321) 3 dL_law_1321 rfl rfl ?_
        refine jd_iconst (pc := 1322) (v := 1) dL_law_1322 (by decide) ?_
        refine jd_iadd (pc := 1323) dL_law_1323 ?_
        obtain ⟨hv255, h⟩ := h
        refine jd_sld (pc := 1324) hXs hv255 dL_law_1324 ?_
        refine jd_aload_n (pc := 1325) 0 dL_law_1325 rfl rfl ?_
        refine jd_iload_n (pc := 1326) 3 dL_law_1326 rfl rfl ?_
        refine jd_iconst (pc := 1327) (v := 2) dL_law_1327 (by decide) ?_
        refine jd_iadd (pc := 1328) dL_law_1328 ?_
        obtain ⟨hv256, h⟩ := h
        refine jd_sld (pc := 1329) hXs hv256 dL_law_1329 ?_
        refine jd_callVi (pc := 1330) (M2 := mX12_judge) (id := 45) (ci := 11) (T := TX12) (N := 45) (av := [.int (xs (Int32.toNatClampNeg (x3 + 1))), .int (xs (Int32.toNatClampNeg (x3 + 2)))]) kX12_judge sX12_judge rfl hM.1 lL_169 rfl rfl (Nat.le_of_ble_eq_true rfl) dL_law_1330 h ?_
        intro v258 I257 J257 h
        refine jd_pop (pc := 1333) dL_law_1333 rfl ?_
        refine jd_goto (pc := 1334) 1567 dL_law_1334 (by decide) ?_
        refine jd_iinc (pc := 1567) (v := (x3 + 6)) 3 [(3, .int (x3 + 6)), (0, .ref b), (1, .ref (gb G + 0)), (2, .ref (gb G + 45))] dL_law_1567 rfl rfl (Nat.le_of_ble_eq_true rfl) rfl ?_
        refine jd_goto (pc := 1570) 18 dL_law_1570 (by decide) ?_
        exact jd_lv (lv2 := [(0, .ref b), (1, .ref (gb G + 0)), (2, .ref (gb G + 45)), (3, .int (x3 + 6))]) [1, 2, 3, 0] rfl h
      · have h := h.2.2.2.2.2.2.2.2.2.2.2.2.2.2.2.2.2.2.2.2.2.2.2.2.2.2.2.2.2.2.2.2.2.2.2.2.2.1 hq
        refine jd_tableIn (pc := 33) 1337 dL_law_33 (by omega) (by omega) (by rw [hq]; rfl) (by decide) ?_
        refine jd_aload_n (pc := 1337) 1 dL_law_1337 rfl rfl ?_
        refine jd_aload_n (pc := 1338) 0 dL_law_1338 rfl rfl ?_
        refine jd_iload_n (pc := 1339) 3 dL_law_1339 rfl rfl ?_
        refine jd_iconst (pc := 1340) (v := 1) dL_law_1340 (by decide) ?_
        refine jd_iadd (pc := 1341) dL_law_1341 ?_
        obtain ⟨hv259, h⟩ := h
        refine jd_sld (pc := 1342) hXs hv259 dL_law_1342 ?_
        refine jd_aload_n (pc := 1343) 0 dL_law_1343 rfl rfl ?_
        refine jd_iload_n (pc := 1344) 3 dL_law_1344 rfl rfl ?_
        refine jd_iconst (pc := 1345) (v := 2) dL_law_1345 (by decide) ?_
        refine jd_iadd (pc := 1346) dL_law_1346 ?_
        obtain ⟨hv260, h⟩ := h
        refine jd_sld (pc := 1347) hXs hv260 dL_law_1347 ?_
        refine jd_aload_n (pc := 1348) 0 dL_law_1348 rfl rfl ?_
        refine jd_iload_n (pc := 1349) 3 dL_law_1349 rfl rfl ?_
        refine jd_iconst (pc := 1350) (v := 3) dL_law_1350 (by decide) ?_
        refine jd_iadd (pc := 1351) dL_law_1351 ?_
        obtain ⟨hv261, h⟩ := h
        refine jd_sld (pc := 1352) hXs hv261 dL_law_1352 ?_
        refine jd_callVi (pc := 1353) (M2 := mX11_behind) (id := 0) (ci := 10) (T := TX11) (N := 9) (av := [.int (xs (Int32.toNatClampNeg (x3 + 1))), .int (xs (Int32.toNatClampNeg (x3 + 2))), .int (xs (Int32.toNatClampNeg (x3 + 3)))]) kX11_behind sX11_behind rfl hX.1 lL_170 rfl rfl (Nat.le_of_ble_eq_true rfl) dL_law_1353 h ?_
        intro v263 I262 J262 h
        refine jd_pop (pc := 1356) dL_law_1356 rfl ?_
        refine jd_aload_n (pc := 1357) 2 dL_law_1357 rfl rfl ?_
        refine jd_aload_n (pc := 1358) 0 dL_law_1358 rfl rfl ?_
        refine jd_iload_n (pc := 1359) 3 dL_law_1359 rfl rfl ?_
        refine jd_iconst (pc := 1360) (v := 1) dL_law_1360 (by decide) ?_
        refine jd_iadd (pc := 1361) dL_law_1361 ?_
        obtain ⟨hv264, h⟩ := h
        refine jd_sld (pc := 1362) hXs hv264 dL_law_1362 ?_
        refine jd_aload_n (pc := 1363) 0 dL_law_1363 rfl rfl ?_
        refine jd_iload_n (pc := 1364) 3 dL_law_1364 rfl rfl ?_
        refine jd_iconst (pc := 1365) (v := 2) dL_law_1365 (by decide) ?_
        refine jd_iadd (pc := 1366) dL_law_1366 ?_
        obtain ⟨hv265, h⟩ := h
        refine jd_sld (pc := 1367) hXs hv265 dL_law_1367 ?_
        refine jd_aload_n (pc := 1368) 0 dL_law_1368 rfl rfl ?_
        refine jd_iload_n (pc := 1369) 3 dL_law_1369 rfl rfl ?_
        refine jd_iconst (pc := 1370) (v := 3) dL_law_1370 (by decide) ?_
        refine jd_iadd (pc := 1371) dL_law_1371 ?_
        obtain ⟨hv266, h⟩ := h
        refine jd_sld (pc := 1372) hXs hv266 dL_law_1372 ?_
        obtain ⟨mc267, ms267, rc267, rs267, hb1, hb2, h⟩ := h
        refine jd_callV (pc := 1373) (M2 := mX12_behind) (id := 45) (ci := 11) (T := TX12) (N := 45) (rc2 := rc267) (rs2 := rs267) (av := [.int (xs (Int32.toNatClampNeg (x3 + 1))), .int (xs (Int32.toNatClampNeg (x3 + 2))), .int (xs (Int32.toNatClampNeg (x3 + 3)))]) kX12_behind sX12_behind rfl hM.1 lL_173 rfl rfl (Nat.le_of_ble_eq_true rfl) hb1 hb2 dL_law_1373 (Cl.mono h (fun r267 Z267 I267 J267 h => ?_))
        obtain ⟨v267, rfl, h⟩ := h
        obtain ⟨hX, h⟩ := h
        obtain ⟨hM, h⟩ := h
        refine jd_pop (pc := 1376) dL_law_1376 rfl ?_
        refine jd_goto (pc := 1377) 1567 dL_law_1377 (by decide) ?_
        refine jd_iinc (pc := 1567) (v := (x3 + 6)) 3 [(3, .int (x3 + 6)), (0, .ref b), (1, .ref (gb G + 0)), (2, .ref (gb G + 45))] dL_law_1567 rfl rfl (Nat.le_of_ble_eq_true rfl) rfl ?_
        refine jd_goto (pc := 1570) 18 dL_law_1570 (by decide) ?_
        exact jd_lv (lv2 := [(0, .ref b), (1, .ref (gb G + 0)), (2, .ref (gb G + 45)), (3, .int (x3 + 6))]) [1, 2, 3, 0] rfl h
      · have h := h.2.2.2.2.2.2.2.2.2.2.2.2.2.2.2.2.2.2.2.2.2.2.2.2.2.2.2.2.2.2.2.2.2.2.2.2.2.2.1 hq
        refine jd_tableIn (pc := 33) 1380 dL_law_33 (by omega) (by omega) (by rw [hq]; rfl) (by decide) ?_
        refine jd_aload_n (pc := 1380) 1 dL_law_1380 rfl rfl ?_
        refine jd_aload_n (pc := 1381) 0 dL_law_1381 rfl rfl ?_
        refine jd_iload_n (pc := 1382) 3 dL_law_1382 rfl rfl ?_
        refine jd_iconst (pc := 1383) (v := 1) dL_law_1383 (by decide) ?_
        refine jd_iadd (pc := 1384) dL_law_1384 ?_
        obtain ⟨hv268, h⟩ := h
        refine jd_sld (pc := 1385) hXs hv268 dL_law_1385 ?_
        refine jd_aload_n (pc := 1386) 0 dL_law_1386 rfl rfl ?_
        refine jd_iload_n (pc := 1387) 3 dL_law_1387 rfl rfl ?_
        refine jd_iconst (pc := 1388) (v := 2) dL_law_1388 (by decide) ?_
        refine jd_iadd (pc := 1389) dL_law_1389 ?_
        obtain ⟨hv269, h⟩ := h
        refine jd_sld (pc := 1390) hXs hv269 dL_law_1390 ?_
        refine jd_callVi (pc := 1391) (M2 := mX11_rides) (id := 0) (ci := 10) (T := TX11) (N := 9) (av := [.int (xs (Int32.toNatClampNeg (x3 + 1))), .int (xs (Int32.toNatClampNeg (x3 + 2)))]) kX11_rides sX11_rides rfl hX.1 lL_174 rfl rfl (Nat.le_of_ble_eq_true rfl) dL_law_1391 h ?_
        intro v271 I270 J270 h
        refine jd_pop (pc := 1394) dL_law_1394 rfl ?_
        refine jd_aload_n (pc := 1395) 2 dL_law_1395 rfl rfl ?_
        refine jd_aload_n (pc := 1396) 0 dL_law_1396 rfl rfl ?_
        refine jd_iload_n (pc := 1397) 3 dL_law_1397 rfl rfl ?_
        refine jd_iconst (pc := 1398) (v := 1) dL_law_1398 (by decide) ?_
        refine jd_iadd (pc := 1399) dL_law_1399 ?_
        obtain ⟨hv272, h⟩ := h
        refine jd_sld (pc := 1400) hXs hv272 dL_law_1400 ?_
        refine jd_aload_n (pc := 1401) 0 dL_law_1401 rfl rfl ?_
        refine jd_iload_n (pc := 1402) 3 dL_law_1402 rfl rfl ?_
        refine jd_iconst (pc := 1403) (v := 2) dL_law_1403 (by decide) ?_
        refine jd_iadd (pc := 1404) dL_law_1404 ?_
        obtain ⟨hv273, h⟩ := h
        refine jd_sld (pc := 1405) hXs hv273 dL_law_1405 ?_
        refine jd_callVi (pc := 1406) (M2 := mX12_rides) (id := 45) (ci := 11) (T := TX12) (N := 45) (av := [.int (xs (Int32.toNatClampNeg (x3 + 1))), .int (xs (Int32.toNatClampNeg (x3 + 2)))]) kX12_rides sX12_rides rfl hM.1 lL_177 rfl rfl (Nat.le_of_ble_eq_true rfl) dL_law_1406 h ?_
        intro v275 I274 J274 h
        refine jd_pop (pc := 1409) dL_law_1409 rfl ?_
        refine jd_goto (pc := 1410) 1567 dL_law_1410 (by decide) ?_
        refine jd_iinc (pc := 1567) (v := (x3 + 6)) 3 [(3, .int (x3 + 6)), (0, .ref b), (1, .ref (gb G + 0)), (2, .ref (gb G + 45))] dL_law_1567 rfl rfl (Nat.le_of_ble_eq_true rfl) rfl ?_
        refine jd_goto (pc := 1570) 18 dL_law_1570 (by decide) ?_
        exact jd_lv (lv2 := [(0, .ref b), (1, .ref (gb G + 0)), (2, .ref (gb G + 45)), (3, .int (x3 + 6))]) [1, 2, 3, 0] rfl h
      · have h := h.2.2.2.2.2.2.2.2.2.2.2.2.2.2.2.2.2.2.2.2.2.2.2.2.2.2.2.2.2.2.2.2.2.2.2.2.2.2.2.1 hq
        refine jd_tableIn (pc := 33) 1413 dL_law_33 (by omega) (by omega) (by rw [hq]; rfl) (by decide) ?_
        refine jd_aload_n (pc := 1413) 1 dL_law_1413 rfl rfl ?_
        refine jd_aload_n (pc := 1414) 0 dL_law_1414 rfl rfl ?_
        refine jd_iload_n (pc := 1415) 3 dL_law_1415 rfl rfl ?_
        refine jd_iconst (pc := 1416) (v := 1) dL_law_1416 (by decide) ?_
        refine jd_iadd (pc := 1417) dL_law_1417 ?_
        obtain ⟨hv276, h⟩ := h
        refine jd_sld (pc := 1418) hXs hv276 dL_law_1418 ?_
        refine jd_callVi (pc := 1419) (M2 := mX11_day) (id := 0) (ci := 10) (T := TX11) (N := 9) (av := [.int (xs (Int32.toNatClampNeg (x3 + 1)))]) kX11_day sX11_day rfl hX.1 lL_178 rfl rfl (Nat.le_of_ble_eq_true rfl) dL_law_1419 h ?_
        intro v278 I277 J277 h
        refine jd_pop (pc := 1422) dL_law_1422 rfl ?_
        refine jd_aload_n (pc := 1423) 2 dL_law_1423 rfl rfl ?_
        refine jd_aload_n (pc := 1424) 0 dL_law_1424 rfl rfl ?_
        refine jd_iload_n (pc := 1425) 3 dL_law_1425 rfl rfl ?_
        refine jd_iconst (pc := 1426) (v := 1) dL_law_1426 (by decide) ?_
        refine jd_iadd (pc := 1427) dL_law_1427 ?_
        obtain ⟨hv279, h⟩ := h
        refine jd_sld (pc := 1428) hXs hv279 dL_law_1428 ?_
        refine jd_callVi (pc := 1429) (M2 := mX12_day) (id := 45) (ci := 11) (T := TX12) (N := 45) (av := [.int (xs (Int32.toNatClampNeg (x3 + 1)))]) kX12_day sX12_day rfl hM.1 lL_181 rfl rfl (Nat.le_of_ble_eq_true rfl) dL_law_1429 h ?_
        intro v281 I280 J280 h
        refine jd_pop (pc := 1432) dL_law_1432 rfl ?_
        refine jd_goto (pc := 1433) 1567 dL_law_1433 (by decide) ?_
        refine jd_iinc (pc := 1567) (v := (x3 + 6)) 3 [(3, .int (x3 + 6)), (0, .ref b), (1, .ref (gb G + 0)), (2, .ref (gb G + 45))] dL_law_1567 rfl rfl (Nat.le_of_ble_eq_true rfl) rfl ?_
        refine jd_goto (pc := 1570) 18 dL_law_1570 (by decide) ?_
        exact jd_lv (lv2 := [(0, .ref b), (1, .ref (gb G + 0)), (2, .ref (gb G + 45)), (3, .int (x3 + 6))]) [1, 2, 3, 0] rfl h
      · have h := h.2.2.2.2.2.2.2.2.2.2.2.2.2.2.2.2.2.2.2.2.2.2.2.2.2.2.2.2.2.2.2.2.2.2.2.2.2.2.2.2.1 hq
        refine jd_tableIn (pc := 33) 1436 dL_law_33 (by omega) (by omega) (by rw [hq]; rfl) (by decide) ?_
        refine jd_aload_n (pc := 1436) 1 dL_law_1436 rfl rfl ?_
        refine jd_aload_n (pc := 1437) 0 dL_law_1437 rfl rfl ?_
        refine jd_iload_n (pc := 1438) 3 dL_law_1438 rfl rfl ?_
        refine jd_iconst (pc := 1439) (v := 1) dL_law_1439 (by decide) ?_
        refine jd_iadd (pc := 1440) dL_law_1440 ?_
        obtain ⟨hv282, h⟩ := h
        refine jd_sld (pc := 1441) hXs hv282 dL_law_1441 ?_
        refine jd_callVi (pc := 1442) (M2 := mX11_meet) (id := 0) (ci := 10) (T := TX11) (N := 9) (av := [.int (xs (Int32.toNatClampNeg (x3 + 1)))]) kX11_meet sX11_meet rfl hX.1 lL_182 rfl rfl (Nat.le_of_ble_eq_true rfl) dL_law_1442 h ?_
        intro v284 I283 J283 h
        refine jd_pop (pc := 1445) dL_law_1445 rfl ?_
        refine jd_aload_n (pc := 1446) 2 dL_law_1446 rfl rfl ?_
        refine jd_aload_n (pc := 1447) 0 dL_law_1447 rfl rfl ?_
        refine jd_iload_n (pc := 1448) 3 dL_law_1448 rfl rfl ?_
        refine jd_iconst (pc := 1449) (v := 1) dL_law_1449 (by decide) ?_
        refine jd_iadd (pc := 1450) dL_law_1450 ?_
        obtain ⟨hv285, h⟩ := h
        refine jd_sld (pc := 1451) hXs hv285 dL_law_1451 ?_
        refine jd_callVi (pc := 1452) (M2 := mX12_meet) (id := 45) (ci := 11) (T := TX12) (N := 45) (av := [.int (xs (Int32.toNatClampNeg (x3 + 1)))]) kX12_meet sX12_meet rfl hM.1 lL_185 rfl rfl (Nat.le_of_ble_eq_true rfl) dL_law_1452 h ?_
        intro v287 I286 J286 h
        refine jd_pop (pc := 1455) dL_law_1455 rfl ?_
        refine jd_goto (pc := 1456) 1567 dL_law_1456 (by decide) ?_
        refine jd_iinc (pc := 1567) (v := (x3 + 6)) 3 [(3, .int (x3 + 6)), (0, .ref b), (1, .ref (gb G + 0)), (2, .ref (gb G + 45))] dL_law_1567 rfl rfl (Nat.le_of_ble_eq_true rfl) rfl ?_
        refine jd_goto (pc := 1570) 18 dL_law_1570 (by decide) ?_
        exact jd_lv (lv2 := [(0, .ref b), (1, .ref (gb G + 0)), (2, .ref (gb G + 45)), (3, .int (x3 + 6))]) [1, 2, 3, 0] rfl h
      · have h := h.2.2.2.2.2.2.2.2.2.2.2.2.2.2.2.2.2.2.2.2.2.2.2.2.2.2.2.2.2.2.2.2.2.2.2.2.2.2.2.2.2.1 hq
        refine jd_tableIn (pc := 33) 1459 dL_law_33 (by omega) (by omega) (by rw [hq]; rfl) (by decide) ?_
        refine jd_aload_n (pc := 1459) 1 dL_law_1459 rfl rfl ?_
        refine jd_callVi (pc := 1460) (M2 := mX11_year) (id := 0) (ci := 10) (T := TX11) (N := 9) (av := []) kX11_year sX11_year rfl hX.1 lL_186 rfl rfl (Nat.le_of_ble_eq_true rfl) dL_law_1460 h ?_
        intro v289 I288 J288 h
        refine jd_pop (pc := 1463) dL_law_1463 rfl ?_
        refine jd_aload_n (pc := 1464) 2 dL_law_1464 rfl rfl ?_
        refine jd_callVi (pc := 1465) (M2 := mX12_year) (id := 45) (ci := 11) (T := TX12) (N := 45) (av := []) kX12_year sX12_year rfl hM.1 lL_189 rfl rfl (Nat.le_of_ble_eq_true rfl) dL_law_1465 h ?_
        intro v291 I290 J290 h
        refine jd_pop (pc := 1468) dL_law_1468 rfl ?_
        refine jd_goto (pc := 1469) 1567 dL_law_1469 (by decide) ?_
        refine jd_iinc (pc := 1567) (v := (x3 + 6)) 3 [(3, .int (x3 + 6)), (0, .ref b), (1, .ref (gb G + 0)), (2, .ref (gb G + 45))] dL_law_1567 rfl rfl (Nat.le_of_ble_eq_true rfl) rfl ?_
        refine jd_goto (pc := 1570) 18 dL_law_1570 (by decide) ?_
        exact jd_lv (lv2 := [(0, .ref b), (1, .ref (gb G + 0)), (2, .ref (gb G + 45)), (3, .int (x3 + 6))]) [1, 2, 3, 0] rfl h
      · have h := h.2.2.2.2.2.2.2.2.2.2.2.2.2.2.2.2.2.2.2.2.2.2.2.2.2.2.2.2.2.2.2.2.2.2.2.2.2.2.2.2.2.2.1 hq
        refine jd_tableIn (pc := 33) 1472 dL_law_33 (by omega) (by omega) (by rw [hq]; rfl) (by decide) ?_
        refine jd_aload_n (pc := 1472) 1 dL_law_1472 rfl rfl ?_
        refine jd_aload_n (pc := 1473) 0 dL_law_1473 rfl rfl ?_
        refine jd_iload_n (pc := 1474) 3 dL_law_1474 rfl rfl ?_
        refine jd_iconst (pc := 1475) (v := 1) dL_law_1475 (by decide) ?_
        refine jd_iadd (pc := 1476) dL_law_1476 ?_
        obtain ⟨hv292, h⟩ := h
        refine jd_sld (pc := 1477) hXs hv292 dL_law_1477 ?_
        refine jd_callVi (pc := 1478) (M2 := mX11_come) (id := 0) (ci := 10) (T := TX11) (N := 9) (av := [.int (xs (Int32.toNatClampNeg (x3 + 1)))]) kX11_come sX11_come rfl hX.1 lL_190 rfl rfl (Nat.le_of_ble_eq_true rfl) dL_law_1478 h ?_
        intro v294 I293 J293 h
        refine jd_aload_n (pc := 1481) 2 dL_law_1481 rfl rfl ?_
        refine jd_aload_n (pc := 1482) 0 dL_law_1482 rfl rfl ?_
        refine jd_iload_n (pc := 1483) 3 dL_law_1483 rfl rfl ?_
        refine jd_iconst (pc := 1484) (v := 1) dL_law_1484 (by decide) ?_
        refine jd_iadd (pc := 1485) dL_law_1485 ?_
        obtain ⟨hv295, h⟩ := h
        refine jd_sld (pc := 1486) hXs hv295 dL_law_1486 ?_
        refine jd_callVi (pc := 1487) (M2 := mX12_come) (id := 45) (ci := 11) (T := TX12) (N := 45) (av := [.int (xs (Int32.toNatClampNeg (x3 + 1)))]) kX12_come sX12_come rfl hM.1 lL_193 rfl rfl (Nat.le_of_ble_eq_true rfl) dL_law_1487 h ?_
        intro v297 I296 J296 h
        refine jd_icmp_eq (pc := 1490) 1567 dL_law_1490 (by decide) (fun hc => ?_) (fun hc => ?_)
        · have h := h.1 hc
          refine jd_iinc (pc := 1567) (v := (x3 + 6)) 3 [(3, .int (x3 + 6)), (0, .ref b), (1, .ref (gb G + 0)), (2, .ref (gb G + 45))] dL_law_1567 rfl rfl (Nat.le_of_ble_eq_true rfl) rfl ?_
          refine jd_goto (pc := 1570) 18 dL_law_1570 (by decide) ?_
          exact jd_lv (lv2 := [(0, .ref b), (1, .ref (gb G + 0)), (2, .ref (gb G + 45)), (3, .int (x3 + 6))]) [1, 2, 3, 0] rfl h
        · have h := h.2 hc
          refine jd_iconst (pc := 1493) (v := 0) dL_law_1493 (by decide) ?_
          exact h.elim
      · have h := h.2.2.2.2.2.2.2.2.2.2.2.2.2.2.2.2.2.2.2.2.2.2.2.2.2.2.2.2.2.2.2.2.2.2.2.2.2.2.2.2.2.2.2.1 hq
        refine jd_tableIn (pc := 33) 1495 dL_law_33 (by omega) (by omega) (by rw [hq]; rfl) (by decide) ?_
        refine jd_aload_n (pc := 1495) 1 dL_law_1495 rfl rfl ?_
        refine jd_aload_n (pc := 1496) 0 dL_law_1496 rfl rfl ?_
        refine jd_iload_n (pc := 1497) 3 dL_law_1497 rfl rfl ?_
        refine jd_iconst (pc := 1498) (v := 1) dL_law_1498 (by decide) ?_
        refine jd_iadd (pc := 1499) dL_law_1499 ?_
        obtain ⟨hv298, h⟩ := h
        refine jd_sld (pc := 1500) hXs hv298 dL_law_1500 ?_
        refine jd_callVi (pc := 1501) (M2 := mX11_seed) (id := 0) (ci := 10) (T := TX11) (N := 9) (av := [.int (xs (Int32.toNatClampNeg (x3 + 1)))]) kX11_seed sX11_seed rfl hX.1 lL_194 rfl rfl (Nat.le_of_ble_eq_true rfl) dL_law_1501 h ?_
        intro v300 I299 J299 h
        refine jd_pop (pc := 1504) dL_law_1504 rfl ?_
        refine jd_aload_n (pc := 1505) 2 dL_law_1505 rfl rfl ?_
        refine jd_aload_n (pc := 1506) 0 dL_law_1506 rfl rfl ?_
        refine jd_iload_n (pc := 1507) 3 dL_law_1507 rfl rfl ?_
        refine jd_iconst (pc := 1508) (v := 1) dL_law_1508 (by decide) ?_
        refine jd_iadd (pc := 1509) dL_law_1509 ?_
        obtain ⟨hv301, h⟩ := h
        refine jd_sld (pc := 1510) hXs hv301 dL_law_1510 ?_
        refine jd_callVi (pc := 1511) (M2 := mX12_seed) (id := 45) (ci := 11) (T := TX12) (N := 45) (av := [.int (xs (Int32.toNatClampNeg (x3 + 1)))]) kX12_seed sX12_seed rfl hM.1 lL_197 rfl rfl (Nat.le_of_ble_eq_true rfl) dL_law_1511 h ?_
        intro v303 I302 J302 h
        refine jd_pop (pc := 1514) dL_law_1514 rfl ?_
        refine jd_goto (pc := 1515) 1567 dL_law_1515 (by decide) ?_
        refine jd_iinc (pc := 1567) (v := (x3 + 6)) 3 [(3, .int (x3 + 6)), (0, .ref b), (1, .ref (gb G + 0)), (2, .ref (gb G + 45))] dL_law_1567 rfl rfl (Nat.le_of_ble_eq_true rfl) rfl ?_
        refine jd_goto (pc := 1570) 18 dL_law_1570 (by decide) ?_
        exact jd_lv (lv2 := [(0, .ref b), (1, .ref (gb G + 0)), (2, .ref (gb G + 45)), (3, .int (x3 + 6))]) [1, 2, 3, 0] rfl h
      · have h := h.2.2.2.2.2.2.2.2.2.2.2.2.2.2.2.2.2.2.2.2.2.2.2.2.2.2.2.2.2.2.2.2.2.2.2.2.2.2.2.2.2.2.2.2.1 hq
        refine jd_tableIn (pc := 33) 1518 dL_law_33 (by omega) (by omega) (by rw [hq]; rfl) (by decide) ?_
        refine jd_aload_n (pc := 1518) 1 dL_law_1518 rfl rfl ?_
        refine jd_callVi (pc := 1519) (M2 := mX11_image) (id := 0) (ci := 10) (T := TX11) (N := 9) (av := []) kX11_image sX11_image rfl hX.1 lL_198 rfl rfl (Nat.le_of_ble_eq_true rfl) dL_law_1519 h ?_
        intro v305 I304 J304 h
        refine jd_pop (pc := 1522) dL_law_1522 rfl ?_
        refine jd_aload_n (pc := 1523) 2 dL_law_1523 rfl rfl ?_
        obtain ⟨mc306, ms306, rc306, rs306, hb1, hb2, h⟩ := h
        refine jd_callV (pc := 1524) (M2 := mX12_image) (id := 45) (ci := 11) (T := TX12) (N := 45) (rc2 := rc306) (rs2 := rs306) (av := []) kX12_image sX12_image rfl hM.1 lL_201 rfl rfl (Nat.le_of_ble_eq_true rfl) hb1 hb2 dL_law_1524 (Cl.mono h (fun r306 Z306 I306 J306 h => ?_))
        obtain ⟨v306, rfl, h⟩ := h
        obtain ⟨hX, h⟩ := h
        obtain ⟨hM, h⟩ := h
        refine jd_pop (pc := 1527) dL_law_1527 rfl ?_
        refine jd_goto (pc := 1528) 1567 dL_law_1528 (by decide) ?_
        refine jd_iinc (pc := 1567) (v := (x3 + 6)) 3 [(3, .int (x3 + 6)), (0, .ref b), (1, .ref (gb G + 0)), (2, .ref (gb G + 45))] dL_law_1567 rfl rfl (Nat.le_of_ble_eq_true rfl) rfl ?_
        refine jd_goto (pc := 1570) 18 dL_law_1570 (by decide) ?_
        exact jd_lv (lv2 := [(0, .ref b), (1, .ref (gb G + 0)), (2, .ref (gb G + 45)), (3, .int (x3 + 6))]) [1, 2, 3, 0] rfl h
      · have h := h.2.2.2.2.2.2.2.2.2.2.2.2.2.2.2.2.2.2.2.2.2.2.2.2.2.2.2.2.2.2.2.2.2.2.2.2.2.2.2.2.2.2.2.2.2.1 hq
        refine jd_tableIn (pc := 33) 1531 dL_law_33 (by omega) (by omega) (by rw [hq]; rfl) (by decide) ?_
        refine jd_aload_n (pc := 1531) 1 dL_law_1531 rfl rfl ?_
        refine jd_callVi (pc := 1532) (M2 := mX11_back) (id := 0) (ci := 10) (T := TX11) (N := 9) (av := []) kX11_back sX11_back rfl hX.1 lL_202 rfl rfl (Nat.le_of_ble_eq_true rfl) dL_law_1532 h ?_
        intro v308 I307 J307 h
        refine jd_pop (pc := 1535) dL_law_1535 rfl ?_
        refine jd_aload_n (pc := 1536) 2 dL_law_1536 rfl rfl ?_
        refine jd_callVi (pc := 1537) (M2 := mX12_back) (id := 45) (ci := 11) (T := TX12) (N := 45) (av := []) kX12_back sX12_back rfl hM.1 lL_205 rfl rfl (Nat.le_of_ble_eq_true rfl) dL_law_1537 h ?_
        intro v310 I309 J309 h
        refine jd_pop (pc := 1540) dL_law_1540 rfl ?_
        refine jd_goto (pc := 1541) 1567 dL_law_1541 (by decide) ?_
        refine jd_iinc (pc := 1567) (v := (x3 + 6)) 3 [(3, .int (x3 + 6)), (0, .ref b), (1, .ref (gb G + 0)), (2, .ref (gb G + 45))] dL_law_1567 rfl rfl (Nat.le_of_ble_eq_true rfl) rfl ?_
        refine jd_goto (pc := 1570) 18 dL_law_1570 (by decide) ?_
        exact jd_lv (lv2 := [(0, .ref b), (1, .ref (gb G + 0)), (2, .ref (gb G + 45)), (3, .int (x3 + 6))]) [1, 2, 3, 0] rfl h
      · have h := h.2.2.2.2.2.2.2.2.2.2.2.2.2.2.2.2.2.2.2.2.2.2.2.2.2.2.2.2.2.2.2.2.2.2.2.2.2.2.2.2.2.2.2.2.2.2 hq
        refine jd_tableIn (pc := 33) 1544 dL_law_33 (by omega) (by omega) (by rw [hq]; rfl) (by decide) ?_
        refine jd_aload_n (pc := 1544) 1 dL_law_1544 rfl rfl ?_
        refine jd_aload_n (pc := 1545) 0 dL_law_1545 rfl rfl ?_
        refine jd_iload_n (pc := 1546) 3 dL_law_1546 rfl rfl ?_
        refine jd_iconst (pc := 1547) (v := 1) dL_law_1547 (by decide) ?_
        refine jd_iadd (pc := 1548) dL_law_1548 ?_
        obtain ⟨hv311, h⟩ := h
        refine jd_sld (pc := 1549) hXs hv311 dL_law_1549 ?_
        refine jd_callVi (pc := 1550) (M2 := mX11_status) (id := 0) (ci := 10) (T := TX11) (N := 9) (av := [.int (xs (Int32.toNatClampNeg (x3 + 1)))]) kX11_status sX11_status rfl hX.1 lL_206 rfl rfl (Nat.le_of_ble_eq_true rfl) dL_law_1550 h ?_
        intro v313 I312 J312 h
        refine jd_pop (pc := 1553) dL_law_1553 rfl ?_
        refine jd_aload_n (pc := 1554) 2 dL_law_1554 rfl rfl ?_
        refine jd_aload_n (pc := 1555) 0 dL_law_1555 rfl rfl ?_
        refine jd_iload_n (pc := 1556) 3 dL_law_1556 rfl rfl ?_
        refine jd_iconst (pc := 1557) (v := 1) dL_law_1557 (by decide) ?_
        refine jd_iadd (pc := 1558) dL_law_1558 ?_
        obtain ⟨hv314, h⟩ := h
        refine jd_sld (pc := 1559) hXs hv314 dL_law_1559 ?_
        refine jd_callVi (pc := 1560) (M2 := mX12_status) (id := 45) (ci := 11) (T := TX12) (N := 45) (av := [.int (xs (Int32.toNatClampNeg (x3 + 1)))]) kX12_status sX12_status rfl hM.1 lL_209 rfl rfl (Nat.le_of_ble_eq_true rfl) dL_law_1560 h ?_
        intro v316 I315 J315 h
        refine jd_pop (pc := 1563) dL_law_1563 rfl ?_
        refine jd_goto (pc := 1564) 1567 dL_law_1564 (by decide) ?_
        refine jd_iinc (pc := 1567) (v := (x3 + 6)) 3 [(3, .int (x3 + 6)), (0, .ref b), (1, .ref (gb G + 0)), (2, .ref (gb G + 45))] dL_law_1567 rfl rfl (Nat.le_of_ble_eq_true rfl) rfl ?_
        refine jd_goto (pc := 1570) 18 dL_law_1570 (by decide) ?_
        exact jd_lv (lv2 := [(0, .ref b), (1, .ref (gb G + 0)), (2, .ref (gb G + 45)), (3, .int (x3 + 6))]) [1, 2, 3, 0] rfl h
/-! numbers and frames -/
theorem i32_add (a b : Int32) (h1 : -2147483648 ≤ a.toInt + b.toInt) (h2 : a.toInt + b.toInt ≤ 2147483647) : (a + b).toInt = a.toInt + b.toInt := by
  rw [Int32.toInt_add]
  exact Int.bmod_eq_of_le (by omega) (by omega)
theorem i32_sub (a b : Int32) (h1 : -2147483648 ≤ a.toInt - b.toInt) (h2 : a.toInt - b.toInt ≤ 2147483647) : (a - b).toInt = a.toInt - b.toInt := by
  rw [Int32.toInt_sub]
  exact Int.bmod_eq_of_le (by omega) (by omega)
theorem i32_mul (a b : Int32) (h1 : -2147483648 ≤ a.toInt * b.toInt) (h2 : a.toInt * b.toInt ≤ 2147483647) : (a * b).toInt = a.toInt * b.toInt := by
  rw [Int32.toInt_mul]
  exact Int.bmod_eq_of_le (by omega) (by omega)
theorem i32_neg (a : Int32) (h1 : -2147483648 < a.toInt) : (-a).toInt = -a.toInt := by
  rw [Int32.toInt_neg]
  have h2 := a.toInt_le
  have e : Int32.maxValue.toInt = 2147483647 := rfl
  exact Int.bmod_eq_of_le (by omega) (by omega)
theorem i32_lo (a : Int32) : -2147483648 ≤ a.toInt ∧ a.toInt ≤ 2147483647 := by
  have h1 := a.le_toInt
  have h2 := a.toInt_le
  have e1 : Int32.maxValue.toInt = 2147483647 := rfl
  have e2 : Int32.minValue.toInt = -2147483648 := rfl
  omega
theorem i32_sel (x y p q : Int32) : (x.toInt < y.toInt ∧ (if x < y then p else q).toInt = p.toInt) ∨ (¬ x.toInt < y.toInt ∧ (if x < y then p else q).toInt = q.toInt) := by
  split
  · rename_i h
    exact Or.inl ⟨Int32.lt_iff_toInt_lt.mp h, rfl⟩
  · rename_i h
    exact Or.inr ⟨mt Int32.lt_iff_toInt_lt.mpr h, rfl⟩
theorem tn_eq (a : Int32) : a.toNatClampNeg = a.toInt.toNat := rfl
/-- x & m, m at least 0 -/
theorem i32_and (x m : Int32) (h : 0 ≤ m.toInt) : 0 ≤ (x &&& m).toInt ∧ (x &&& m).toInt ≤ m.toInt := by
  have e : ∀ z : Int32, 0 ≤ z.toInt → z.toInt = (z.toBitVec.toNat : Int) := by
    intro z hz
    have h2 : z.toInt = z.toBitVec.toInt := rfl
    rw [h2] at hz ⊢
    have h3 := BitVec.toInt_eq_toNat_cond z.toBitVec
    rw [h3] at hz ⊢
    split <;> rename_i h4
    · rfl
    · rw [if_neg h4] at hz
      have := z.toBitVec.isLt
      omega
  have hm := e m h
  have hb : (x &&& m).toBitVec.toNat ≤ m.toBitVec.toNat := by
    rw [Int32.toBitVec_and, BitVec.toNat_and]
    exact Nat.and_le_right
  have hlt : m.toBitVec.toNat < 2147483648 := by
    have := (i32_lo m).2
    omega
  have h5 : (x &&& m).toInt = ((x &&& m).toBitVec.toNat : Int) := by
    have h2 : (x &&& m).toInt = (x &&& m).toBitVec.toInt := rfl
    rw [h2, BitVec.toInt_eq_toNat_cond, if_pos (by omega)]
  omega
theorem i32_and' (x m : Int32) (h : 0 ≤ x.toInt) : 0 ≤ (x &&& m).toInt ∧ (x &&& m).toInt ≤ x.toInt := by
  rw [Int32.and_comm]
  exact i32_and m x h
theorem i32_nat (z : Int32) (hz : 0 ≤ z.toInt) : z.toInt = (z.toBitVec.toNat : Int) := by
  have h2 : z.toInt = z.toBitVec.toInt := rfl
  rw [h2] at hz ⊢
  have h3 := BitVec.toInt_eq_toNat_cond z.toBitVec
  rw [h3] at hz ⊢
  split <;> rename_i h4
  · rfl
  · rw [if_neg h4] at hz
    have := z.toBitVec.isLt
    omega
/-- x ^ y of two below 2^k -/
theorem i32_xor (x y : Int32) (k : Nat) (hk : k ≤ 30) (h0 : 0 ≤ x.toInt) (h1 : x.toInt < 2 ^ k) (h2 : 0 ≤ y.toInt) (h3 : y.toInt < 2 ^ k) : 0 ≤ (x ^^^ y).toInt ∧ (x ^^^ y).toInt < 2 ^ k := by
  have hx := i32_nat x h0
  have hy := i32_nat y h2
  have hp : (2 : Int) ^ k = ((2 ^ k : Nat) : Int) := by simp
  have hb : (x ^^^ y).toBitVec.toNat < 2 ^ k := by
    rw [Int32.toBitVec_xor, BitVec.toNat_xor]
    exact Nat.xor_lt_two_pow (by omega) (by omega)
  have hk2 : (2 : Nat) ^ k ≤ 2 ^ 30 := Nat.pow_le_pow_right (by omega) hk
  have h5 : (x ^^^ y).toInt = ((x ^^^ y).toBitVec.toNat : Int) := by
    have h2 : (x ^^^ y).toInt = (x ^^^ y).toBitVec.toInt := rfl
    rw [h2, BitVec.toInt_eq_toNat_cond, if_pos (by omega)]
  omega
theorem uI_ap (I : jdI) (id k : Nat) (v : Int32) (a b : Nat) : uI I id k v a b = if a = id ∧ b = k then v else I a b := by
  by_cases h : a = id
  · subst h
    rw [uI_s]
    by_cases h2 : b = k
    · subst h2
      simp [upd]
    · simp [upd, h2]
  · rw [uI_n I k v h]
    simp [h]
def Fr (p : Nat → Nat → Prop) (I I' : jdI) : Prop := ∀ a k, ¬ p a k → I' a k = I a k
theorem Fr.rf {p : Nat → Nat → Prop} {I : jdI} : Fr p I I := fun _ _ _ => rfl
theorem Fr.tr {p p2 : Nat → Nat → Prop} {I I1 I2 : jdI} (h1 : Fr p I I1) (h2 : Fr p2 I1 I2) (e2 : ∀ a k, p2 a k → p a k) : Fr p I I2 := fun a k h => by rw [h2 a k (mt (e2 a k) h), h1 a k h]
theorem Fr_uI {p : Nat → Nat → Prop} {id k : Nat} {v : Int32} {I I1 : jdI} (h : Fr p I I1) (h1 : p id k) : Fr p I (uI I1 id k v) := fun a b ha => by
  rw [uI_ap, if_neg]
  · exact h a b ha
  · intro e
    rw [e.1, e.2] at ha
    exact ha h1
theorem Fr_cI {p : Nat → Nat → Prop} {id s sp dp k : Nat} {I I1 : jdI} (h : Fr p I I1) (h1 : ∀ j, p id j) : Fr p I (cI I1 s id sp dp k) := fun a b ha => by
  have hne : a ≠ id := by
    intro e
    rw [e] at ha
    exact ha (h1 b)
  have e : cI I1 s id sp dp k a = I1 a := if_neg hne
  rw [e]
  exact h a b ha
theorem i32_mulc (a k : Int32) (c : Int) (hk : k.toInt = c) (h1 : -2147483648 ≤ a.toInt * c) (h2 : a.toInt * c ≤ 2147483647) : (a * k).toInt = a.toInt * c := by
  have h := i32_mul a k (by rw [hk]; exact h1) (by rw [hk]; exact h2)
  rw [h, hk]
theorem vp_of {x : Int32} {k : Nat} (h1 : 0 ≤ x.toInt) (h2 : x.toInt < k) : vp_in x k := vp_in_iff.mpr ⟨h1, h2⟩
/-- (1 << p) - 1 -/
theorem ev_eq : ∀ p : Fin 9, ((1 : Int32) <<< (Int32.ofNat p.val &&& 31)).toInt = 2 ^ p.val ∧ (((1 : Int32) <<< (Int32.ofNat p.val &&& 31)) - 1).toInt = 2 ^ p.val - 1 := by decide +kernel
theorem i32_ofNat {x : Int32} (h : 0 ≤ x.toInt) : x = Int32.ofNat x.toInt.toNat := by
  apply Int32.toInt_inj.mp
  have h2 := (i32_lo x).2
  rw [show Int32.ofNat x.toInt.toNat = nI x.toInt.toNat from rfl, nI_toInt (by omega)]
  omega
theorem ev_of {x : Int32} (h0 : 0 ≤ x.toInt) (h8 : x.toInt ≤ 8) : ((1 : Int32) <<< (x &&& 31)).toInt = 2 ^ x.toInt.toNat ∧ (((1 : Int32) <<< (x &&& 31)) - 1).toInt = 2 ^ x.toInt.toNat - 1 := by
  have h := ev_eq ⟨x.toInt.toNat, by omega⟩
  rw [← i32_ofNat h0] at h
  exact h
theorem ev_8 {x : Int32} (h0 : 0 ≤ x.toInt) (h8 : x.toInt ≤ 8) : 1 ≤ ((1 : Int32) <<< (x &&& 31)).toInt ∧ ((1 : Int32) <<< (x &&& 31)).toInt ≤ 256 ∧ 0 ≤ (((1 : Int32) <<< (x &&& 31)) - 1).toInt ∧ (((1 : Int32) <<< (x &&& 31)) - 1).toInt ≤ 255 := by
  obtain ⟨h1, h2⟩ := ev_of h0 h8
  have h3 : x.toInt.toNat ≤ 8 := by omega
  have h4 : (2 : Int) ^ x.toInt.toNat = ((2 ^ x.toInt.toNat : Nat) : Int) := by simp
  have h5 : 2 ^ x.toInt.toNat ≤ 2 ^ 8 := Nat.pow_le_pow_right (by omega) h3
  have h6 : 0 < 2 ^ x.toInt.toNat := Nat.pow_pos (by omega)
  omega
theorem ev_7 {x : Int32} (h0 : 0 ≤ x.toInt) (h8 : x.toInt ≤ 7) : 1 ≤ ((1 : Int32) <<< (x &&& 31)).toInt ∧ ((1 : Int32) <<< (x &&& 31)).toInt ≤ 128 ∧ 0 ≤ (((1 : Int32) <<< (x &&& 31)) - 1).toInt ∧ (((1 : Int32) <<< (x &&& 31)) - 1).toInt ≤ 127 := by
  obtain ⟨h1, h2⟩ := ev_of h0 (by omega)
  have h3 : x.toInt.toNat ≤ 7 := by omega
  have h4 : (2 : Int) ^ x.toInt.toNat = ((2 ^ x.toInt.toNat : Nat) : Int) := by simp
  have h5 : 2 ^ x.toInt.toNat ≤ 2 ^ 7 := Nat.pow_le_pow_right (by omega) h3
  have h6 : 0 < 2 ^ x.toInt.toNat := Nat.pow_pos (by omega)
  omega
theorem i32_addI (a b : Int32) : (-2147483648 ≤ a.toInt + b.toInt ∧ a.toInt + b.toInt ≤ 2147483647) → (a + b).toInt = a.toInt + b.toInt := fun h => i32_add a b h.1 h.2
theorem i32_subI (a b : Int32) : (-2147483648 ≤ a.toInt - b.toInt ∧ a.toInt - b.toInt ≤ 2147483647) → (a - b).toInt = a.toInt - b.toInt := fun h => i32_sub a b h.1 h.2
/-- what is constrained of the object's own cells -/
def WX (I : jdI) : Prop := ((0 ≤ (I 1 3).toInt ∧ (I 1 3).toInt ≤ 7) ∧ (0 ≤ (I 5 3).toInt ∧ (I 5 3).toInt ≤ 7) ∧ (0 ≤ (I 9 3).toInt ∧ (I 9 3).toInt ≤ 7) ∧ (2 ≤ (I 1 4).toInt ∧ (I 1 4).toInt ≤ 4) ∧ (2 ≤ (I 5 4).toInt ∧ (I 5 4).toInt ≤ 4) ∧ (2 ≤ (I 9 4).toInt ∧ (I 9 4).toInt ≤ 4) ∧ (0 ≤ (I 13 6).toInt ∧ (I 13 6).toInt ≤ 8) ∧ (0 ≤ (I 13 7).toInt ∧ (I 13 7).toInt ≤ 4) ∧ (0 ≤ (I 13 8).toInt ∧ (I 13 8).toInt ≤ 70) ∧ (0 ≤ (I 20 4).toInt ∧ (I 20 4).toInt ≤ 7) ∧ (0 ≤ (I 25 1).toInt ∧ (I 25 1).toInt ≤ 250) ∧ (0 ≤ (I 25 3).toInt ∧ (I 25 3).toInt ≤ 250) ∧ (0 ≤ (I 25 4).toInt ∧ (I 25 4).toInt ≤ 250)) ∧ ∀ i, i < 8 → 0 ≤ (I (29 + 2 * i) 2).toInt ∧ (I (29 + 2 * i) 2).toInt ≤ 40
theorem WX_f {I : jdI} (h : WX I) : (0 ≤ (I 1 3).toInt ∧ (I 1 3).toInt ≤ 7) ∧ (0 ≤ (I 5 3).toInt ∧ (I 5 3).toInt ≤ 7) ∧ (0 ≤ (I 9 3).toInt ∧ (I 9 3).toInt ≤ 7) ∧ (2 ≤ (I 1 4).toInt ∧ (I 1 4).toInt ≤ 4) ∧ (2 ≤ (I 5 4).toInt ∧ (I 5 4).toInt ≤ 4) ∧ (2 ≤ (I 9 4).toInt ∧ (I 9 4).toInt ≤ 4) ∧ (0 ≤ (I 13 6).toInt ∧ (I 13 6).toInt ≤ 8) ∧ (0 ≤ (I 13 7).toInt ∧ (I 13 7).toInt ≤ 4) ∧ (0 ≤ (I 13 8).toInt ∧ (I 13 8).toInt ≤ 70) ∧ (0 ≤ (I 20 4).toInt ∧ (I 20 4).toInt ≤ 7) ∧ (0 ≤ (I 25 1).toInt ∧ (I 25 1).toInt ≤ 250) ∧ (0 ≤ (I 25 3).toInt ∧ (I 25 3).toInt ≤ 250) ∧ (0 ≤ (I 25 4).toInt ∧ (I 25 4).toInt ≤ 250) := h.1
def okX (id k : Nat) (v : Int) : Prop := ((id = 1 ∨ id = 5 ∨ id = 9) ∧ k = 3 → 0 ≤ v ∧ v ≤ 7) ∧ ((id = 1 ∨ id = 5 ∨ id = 9) ∧ k = 4 → 2 ≤ v ∧ v ≤ 4) ∧ (id = 13 ∧ k = 6 → 0 ≤ v ∧ v ≤ 8) ∧ (id = 13 ∧ k = 7 → 0 ≤ v ∧ v ≤ 4) ∧ (id = 13 ∧ k = 8 → 0 ≤ v ∧ v ≤ 70) ∧ (id = 20 ∧ k = 4 → 0 ≤ v ∧ v ≤ 7) ∧ (id = 25 ∧ k = 1 → 0 ≤ v ∧ v ≤ 250) ∧ (id = 25 ∧ k = 3 → 0 ≤ v ∧ v ≤ 250) ∧ (id = 25 ∧ k = 4 → 0 ≤ v ∧ v ≤ 250) ∧ (29 ≤ id ∧ id ≤ 43 ∧ k = 2 → 0 ≤ v ∧ v ≤ 40)
theorem rg_uI {I : jdI} {id k i j : Nat} {v : Int32} {lo hi : Int} (h : lo ≤ (I i j).toInt ∧ (I i j).toInt ≤ hi) (hc : id = i ∧ k = j → lo ≤ v.toInt ∧ v.toInt ≤ hi) : lo ≤ ((uI I id k v) i j).toInt ∧ ((uI I id k v) i j).toInt ≤ hi := by
  rw [uI_ap]
  split
  · rename_i e
    exact hc ⟨e.1.symm, e.2.symm⟩
  · exact h
theorem WX_uI {I : jdI} {id k : Nat} {v : Int32} (h : WX I) (hc : okX id k v.toInt) : WX (uI I id k v) := by
  obtain ⟨⟨h0, h1, h2, h3, h4, h5, h6, h7, h8, h9, h10, h11, h12⟩, hs⟩ := h
  obtain ⟨c0, c1, c2, c3, c4, c5, c6, c7, c8, c9⟩ := hc
  exact ⟨⟨rg_uI h0 (fun e => c0 ⟨Or.inl e.1, e.2⟩), rg_uI h1 (fun e => c0 ⟨Or.inr (Or.inl e.1), e.2⟩), rg_uI h2 (fun e => c0 ⟨Or.inr (Or.inr e.1), e.2⟩), rg_uI h3 (fun e => c1 ⟨Or.inl e.1, e.2⟩), rg_uI h4 (fun e => c1 ⟨Or.inr (Or.inl e.1), e.2⟩), rg_uI h5 (fun e => c1 ⟨Or.inr (Or.inr e.1), e.2⟩), rg_uI h6 c2, rg_uI h7 c3, rg_uI h8 c4, rg_uI h9 c5, rg_uI h10 c6, rg_uI h11 c7, rg_uI h12 c8⟩, fun i hi => rg_uI (hs i hi) (fun e => c9 ⟨by omega, by omega, e.2⟩)⟩
theorem rg_eq {I I' : jdI} {i j : Nat} {lo hi : Int} (h : lo ≤ (I i j).toInt ∧ (I i j).toInt ≤ hi) (e : I' i j = I i j) : lo ≤ (I' i j).toInt ∧ (I' i j).toInt ≤ hi := by
  rw [e]
  exact h
theorem WX_fr {I I' : jdI} {p : Nat → Nat → Prop} (h : WX I) (hF : Fr p I I') (hr : ∀ a k, a = 1 ∨ a = 5 ∨ a = 9 ∨ a = 13 ∨ a = 20 ∨ a = 25 ∨ (29 ≤ a ∧ a ≤ 43) → ¬ p a k) : WX I' := by
  obtain ⟨⟨h0, h1, h2, h3, h4, h5, h6, h7, h8, h9, h10, h11, h12⟩, hs⟩ := h
  exact ⟨⟨rg_eq h0 (hF _ _ (hr _ _ (by decide))), rg_eq h1 (hF _ _ (hr _ _ (by decide))), rg_eq h2 (hF _ _ (hr _ _ (by decide))), rg_eq h3 (hF _ _ (hr _ _ (by decide))), rg_eq h4 (hF _ _ (hr _ _ (by decide))), rg_eq h5 (hF _ _ (hr _ _ (by decide))), rg_eq h6 (hF _ _ (hr _ _ (by decide))), rg_eq h7 (hF _ _ (hr _ _ (by decide))), rg_eq h8 (hF _ _ (hr _ _ (by decide))), rg_eq h9 (hF _ _ (hr _ _ (by decide))), rg_eq h10 (hF _ _ (hr _ _ (by decide))), rg_eq h11 (hF _ _ (hr _ _ (by decide))), rg_eq h12 (hF _ _ (hr _ _ (by decide)))⟩, fun i hi => rg_eq (hs i hi) (hF _ _ (hr _ _ (by omega)))⟩
theorem WX_town {I : jdI} {t : Nat} (h : WX I) (ht : t = 1 ∨ t = 5 ∨ t = 9) : (0 ≤ (I t 3).toInt ∧ (I t 3).toInt ≤ 7) ∧ (2 ≤ (I t 4).toInt ∧ (I t 4).toInt ≤ 4) := by
  have h := WX_f h
  rcases ht with rfl | rfl | rfl
  · exact ⟨by omega, by omega⟩
  · exact ⟨by omega, by omega⟩
  · exact ⟨by omega, by omega⟩
theorem WX_shelf {I : jdI} {t : Nat} (h : WX I) (ht : 29 ≤ t ∧ t ≤ 43 ∧ t % 2 = 1) : 0 ≤ (I t 2).toInt ∧ (I t 2).toInt ≤ 40 := by
  have h1 := h.2 ((t - 29) / 2) (by omega)
  rw [show 29 + 2 * ((t - 29) / 2) = t by omega] at h1
  exact h1
theorem WX_cI {I : jdI} {s id sp dp k : Nat} (h : WX I) (hc : ¬ (id = 1 ∨ id = 5 ∨ id = 9 ∨ id = 13 ∨ id = 20 ∨ id = 25 ∨ (29 ≤ id ∧ id ≤ 43))) : WX (cI I s id sp dp k) :=
  WX_fr (p := fun a _ => a = id) h (Fr_cI Fr.rf (fun _ => rfl)) (fun a _ h e => hc (e ▸ h))
/-- what is constrained of a model's cells -/
def WM (c : Int) (b : Nat) (I : jdI) : Prop := ((0 ≤ (I b 10).toInt ∧ (I b 10).toInt ≤ c) ∧ (2 ≤ (I b 14).toInt ∧ (I b 14).toInt ≤ 4) ∧ (0 ≤ (I b 8).toInt ∧ (I b 8).toInt ≤ 250) ∧ (0 ≤ (I b 22).toInt ∧ (I b 22).toInt ≤ 250) ∧ (0 ≤ (I b 24).toInt ∧ (I b 24).toInt ≤ 250) ∧ (0 ≤ (I b 30).toInt ∧ (I b 30).toInt ≤ 70) ∧ (0 ≤ (I b 33).toInt ∧ (I b 33).toInt ≤ 7) ∧ (0 ≤ (I b 42).toInt ∧ (I b 42).toInt ≤ 10)) ∧ (∀ k, k < 8 → 0 ≤ (I (b + 3) k).toInt ∧ (I (b + 3) k).toInt ≤ 40) ∧ (∀ k, k < 7 → 0 ≤ (I (b + 31) k).toInt ∧ (I (b + 31) k).toInt ≤ 6) ∧ (∀ k, k < 10 → 0 ≤ (I (b + 35) k).toInt ∧ (I (b + 35) k).toInt ≤ 6) ∧ (∀ k, k < 10 → 0 ≤ (I (b + 36) k).toInt ∧ (I (b + 36) k).toInt ≤ 6)
theorem WM_f {c : Int} {b : Nat} {I : jdI} (h : WM c b I) : (0 ≤ (I b 10).toInt ∧ (I b 10).toInt ≤ c) ∧ (2 ≤ (I b 14).toInt ∧ (I b 14).toInt ≤ 4) ∧ (0 ≤ (I b 8).toInt ∧ (I b 8).toInt ≤ 250) ∧ (0 ≤ (I b 22).toInt ∧ (I b 22).toInt ≤ 250) ∧ (0 ≤ (I b 24).toInt ∧ (I b 24).toInt ≤ 250) ∧ (0 ≤ (I b 30).toInt ∧ (I b 30).toInt ≤ 70) ∧ (0 ≤ (I b 33).toInt ∧ (I b 33).toInt ≤ 7) ∧ (0 ≤ (I b 42).toInt ∧ (I b 42).toInt ≤ 10) := h.1
def okM (c : Int) (b : Nat) (id k : Nat) (v : Int) : Prop := (id = b ∧ k = 10 → 0 ≤ v ∧ v ≤ c) ∧ (id = b ∧ k = 14 → 2 ≤ v ∧ v ≤ 4) ∧ (id = b ∧ k = 8 → 0 ≤ v ∧ v ≤ 250) ∧ (id = b ∧ k = 22 → 0 ≤ v ∧ v ≤ 250) ∧ (id = b ∧ k = 24 → 0 ≤ v ∧ v ≤ 250) ∧ (id = b ∧ k = 30 → 0 ≤ v ∧ v ≤ 70) ∧ (id = b ∧ k = 33 → 0 ≤ v ∧ v ≤ 7) ∧ (id = b ∧ k = 42 → 0 ≤ v ∧ v ≤ 10) ∧ (id = b + 3 ∧ k < 8 → 0 ≤ v ∧ v ≤ 40) ∧ (id = b + 31 ∧ k < 7 → 0 ≤ v ∧ v ≤ 6) ∧ (id = b + 35 ∧ k < 10 → 0 ≤ v ∧ v ≤ 6) ∧ (id = b + 36 ∧ k < 10 → 0 ≤ v ∧ v ≤ 6)
theorem WM_uI {c : Int} {b : Nat} {I : jdI} {id k : Nat} {v : Int32} (h : WM c b I) (hc : okM c b id k v.toInt) : WM c b (uI I id k v) := by
  obtain ⟨⟨h0, h1, h2, h3, h4, h5, h6, h7⟩, a0, a1, a2, a3⟩ := h
  obtain ⟨c0, c1, c2, c3, c4, c5, c6, c7, c8, c9, c10, c11⟩ := hc
  exact ⟨⟨rg_uI h0 c0, rg_uI h1 c1, rg_uI h2 c2, rg_uI h3 c3, rg_uI h4 c4, rg_uI h5 c5, rg_uI h6 c6, rg_uI h7 c7⟩, fun i hi => rg_uI (a0 i hi) (fun e => c8 ⟨e.1, by omega⟩), fun i hi => rg_uI (a1 i hi) (fun e => c9 ⟨e.1, by omega⟩), fun i hi => rg_uI (a2 i hi) (fun e => c10 ⟨e.1, by omega⟩), fun i hi => rg_uI (a3 i hi) (fun e => c11 ⟨e.1, by omega⟩)⟩
theorem WM_fr {c : Int} {b : Nat} {I I' : jdI} {p : Nat → Nat → Prop} (h : WM c b I) (hF : Fr p I I') (hr : ∀ a k, b ≤ a → a ≤ b + 37 → ¬ p a k) : WM c b I' := by
  obtain ⟨⟨h0, h1, h2, h3, h4, h5, h6, h7⟩, a0, a1, a2, a3⟩ := h
  have e0 := fun k => hF b k (hr b k (by omega) (by omega))
  have e1 := fun k => hF (b + 3) k (hr _ k (by omega) (by omega))
  have e2 := fun k => hF (b + 31) k (hr _ k (by omega) (by omega))
  have e3 := fun k => hF (b + 35) k (hr _ k (by omega) (by omega))
  have e4 := fun k => hF (b + 36) k (hr _ k (by omega) (by omega))
  exact ⟨⟨rg_eq h0 (e0 _), rg_eq h1 (e0 _), rg_eq h2 (e0 _), rg_eq h3 (e0 _), rg_eq h4 (e0 _), rg_eq h5 (e0 _), rg_eq h6 (e0 _), rg_eq h7 (e0 _)⟩, fun i hi => rg_eq (a0 i hi) (e1 i), fun i hi => rg_eq (a1 i hi) (e2 i), fun i hi => rg_eq (a2 i hi) (e3 i), fun i hi => rg_eq (a3 i hi) (e4 i)⟩
theorem WM_mono {c c2 : Int} {b : Nat} {I : jdI} (h : WM c b I) (hc : c ≤ c2) : WM c2 b I := by
  obtain ⟨⟨h0, h1, h2, h3, h4, h5, h6, h7⟩, a0, a1, a2, a3⟩ := h
  exact ⟨⟨by omega, h1, h2, h3, h4, h5, h6, h7⟩, a0, a1, a2, a3⟩
theorem WM_rowSize {c : Int} {b : Nat} {I : jdI} (h : WM c b I) {k : Nat} (hk : k < 8) : 0 ≤ (I (b + 3) k).toInt ∧ (I (b + 3) k).toInt ≤ 40 := h.2.1 k hk
theorem WM_coming {c : Int} {b : Nat} {I : jdI} (h : WM c b I) {k : Nat} (hk : k < 7) : 0 ≤ (I (b + 31) k).toInt ∧ (I (b + 31) k).toInt ≤ 6 := h.2.2.1 k hk
theorem WM_pairP {c : Int} {b : Nat} {I : jdI} (h : WM c b I) {k : Nat} (hk : k < 10) : 0 ≤ (I (b + 35) k).toInt ∧ (I (b + 35) k).toInt ≤ 6 := h.2.2.2.1 k hk
theorem WM_pairQ {c : Int} {b : Nat} {I : jdI} (h : WM c b I) {k : Nat} (hk : k < 10) : 0 ≤ (I (b + 36) k).toInt ∧ (I (b + 36) k).toInt ≤ 6 := h.2.2.2.2 k hk
theorem lg_f (a b : Int64) : ((lg_cmp a b).toInt = -1 ∧ a.toInt < b.toInt) ∨ ((lg_cmp a b).toInt = 0 ∧ a.toInt = b.toInt) ∨ ((lg_cmp a b).toInt = 1 ∧ b.toInt < a.toInt) := by
  unfold lg_cmp
  by_cases h : a > b
  · rw [if_pos h]
    exact Or.inr (Or.inr ⟨rfl, Int64.lt_iff_toInt_lt.mp h⟩)
  · rw [if_neg h]
    have h1 : ¬ b.toInt < a.toInt := mt Int64.lt_iff_toInt_lt.mpr h
    by_cases h2 : a = b
    · rw [if_pos h2]
      exact Or.inr (Or.inl ⟨rfl, by rw [h2]⟩)
    · rw [if_neg h2]
      have h3 : ¬ a.toInt = b.toInt := fun z => h2 (Int64.toInt_inj.mp z)
      exact Or.inl ⟨rfl, by omega⟩
theorem uJ_ap (J : jdJ) (id k : Nat) (v : Int64) (a b : Nat) : uJ J id k v a b = if a = id ∧ b = k then v else J a b := by
  by_cases h : a = id
  · subst h
    rw [uJ_s]
    by_cases h2 : b = k
    · subst h2
      simp [vp_updL]
    · simp [vp_updL, h2]
  · rw [uJ_n J k v h]
    simp [h]
/-- a long cut to a row's kind -/
def cutf (k : Int) (y : Int64) : Int64 := if k = 0 then (Int32.toInt64 (Int8.toInt32 (Int32.toInt8 (Int64.toInt32 y)))) else if k = 1 then (Int32.toInt64 (Int16.toInt32 (Int32.toInt16 (Int64.toInt32 y)))) else if k = 2 then (Int32.toInt64 (Int64.toInt32 y)) else if k = 3 then y else if y.toInt = 0 then 0 else 1
theorem i32_cmul (k a : Int32) (c : Int) (hk : k.toInt = c) (h1 : -2147483648 ≤ a.toInt * c) (h2 : a.toInt * c ≤ 2147483647) : (k * a).toInt = a.toInt * c := by
  rw [Int32.mul_comm]
  exact i32_mulc a k c hk h1 h2
/-! most cells are not constrained: in few steps -/
theorem okMo {c : Int} {b j k : Nat} {v : Int} (h0 : j ≠ 0) (h3 : j ≠ 3) (h31 : j ≠ 31) (h35 : j ≠ 35) (h36 : j ≠ 36) : okM c b (b + j) k v := by
  unfold okM
  refine ⟨?_, ?_, ?_, ?_, ?_, ?_, ?_, ?_, ?_, ?_, ?_, ?_⟩ <;> intro h <;> omega
theorem okMr {c : Int} {b q k : Nat} {v : Int} (hq : q < 8) : okM c b (b + 21 + q) k v := by
  unfold okM
  refine ⟨?_, ?_, ?_, ?_, ?_, ?_, ?_, ?_, ?_, ?_, ?_, ?_⟩ <;> intro h <;> omega
theorem okMf {c : Int} {b k : Nat} {v : Int} (h0 : k ≠ 10) (h1 : k ≠ 14) (h2 : k ≠ 8) (h3 : k ≠ 22) (h4 : k ≠ 24) (h5 : k ≠ 30) (h6 : k ≠ 33) (h7 : k ≠ 42) : okM c b b k v := by
  unfold okM
  refine ⟨?_, ?_, ?_, ?_, ?_, ?_, ?_, ?_, ?_, ?_, ?_, ?_⟩ <;> intro h <;> omega
theorem okM10 {c : Int} {b : Nat} {v : Int} (hv : 0 ≤ v ∧ v ≤ c) : okM c b b 10 v := by
  unfold okM
  refine ⟨?_, ?_, ?_, ?_, ?_, ?_, ?_, ?_, ?_, ?_, ?_, ?_⟩ <;> intro h <;> omega
theorem okM14 {c : Int} {b : Nat} {v : Int} (hv : 2 ≤ v ∧ v ≤ 4) : okM c b b 14 v := by
  unfold okM
  refine ⟨?_, ?_, ?_, ?_, ?_, ?_, ?_, ?_, ?_, ?_, ?_, ?_⟩ <;> intro h <;> omega
theorem okM8 {c : Int} {b : Nat} {v : Int} (hv : 0 ≤ v ∧ v ≤ 250) : okM c b b 8 v := by
  unfold okM
  refine ⟨?_, ?_, ?_, ?_, ?_, ?_, ?_, ?_, ?_, ?_, ?_, ?_⟩ <;> intro h <;> omega
theorem okM22 {c : Int} {b : Nat} {v : Int} (hv : 0 ≤ v ∧ v ≤ 250) : okM c b b 22 v := by
  unfold okM
  refine ⟨?_, ?_, ?_, ?_, ?_, ?_, ?_, ?_, ?_, ?_, ?_, ?_⟩ <;> intro h <;> omega
theorem okM24 {c : Int} {b : Nat} {v : Int} (hv : 0 ≤ v ∧ v ≤ 250) : okM c b b 24 v := by
  unfold okM
  refine ⟨?_, ?_, ?_, ?_, ?_, ?_, ?_, ?_, ?_, ?_, ?_, ?_⟩ <;> intro h <;> omega
theorem okM30 {c : Int} {b : Nat} {v : Int} (hv : 0 ≤ v ∧ v ≤ 70) : okM c b b 30 v := by
  unfold okM
  refine ⟨?_, ?_, ?_, ?_, ?_, ?_, ?_, ?_, ?_, ?_, ?_, ?_⟩ <;> intro h <;> omega
theorem okM33 {c : Int} {b : Nat} {v : Int} (hv : 0 ≤ v ∧ v ≤ 7) : okM c b b 33 v := by
  unfold okM
  refine ⟨?_, ?_, ?_, ?_, ?_, ?_, ?_, ?_, ?_, ?_, ?_, ?_⟩ <;> intro h <;> omega
theorem okM42 {c : Int} {b : Nat} {v : Int} (hv : 0 ≤ v ∧ v ≤ 10) : okM c b b 42 v := by
  unfold okM
  refine ⟨?_, ?_, ?_, ?_, ?_, ?_, ?_, ?_, ?_, ?_, ?_, ?_⟩ <;> intro h <;> omega
theorem okMa3 {c : Int} {b k : Nat} {v : Int} (hv : 0 ≤ v ∧ v ≤ 40) : okM c b (b + 3) k v := by
  unfold okM
  refine ⟨?_, ?_, ?_, ?_, ?_, ?_, ?_, ?_, ?_, ?_, ?_, ?_⟩ <;> intro h <;> omega
theorem okMa31 {c : Int} {b k : Nat} {v : Int} (hv : 0 ≤ v ∧ v ≤ 6) : okM c b (b + 31) k v := by
  unfold okM
  refine ⟨?_, ?_, ?_, ?_, ?_, ?_, ?_, ?_, ?_, ?_, ?_, ?_⟩ <;> intro h <;> omega
theorem okMa35 {c : Int} {b k : Nat} {v : Int} (hv : 0 ≤ v ∧ v ≤ 6) : okM c b (b + 35) k v := by
  unfold okM
  refine ⟨?_, ?_, ?_, ?_, ?_, ?_, ?_, ?_, ?_, ?_, ?_, ?_⟩ <;> intro h <;> omega
theorem okMa36 {c : Int} {b k : Nat} {v : Int} (hv : 0 ≤ v ∧ v ≤ 6) : okM c b (b + 36) k v := by
  unfold okM
  refine ⟨?_, ?_, ?_, ?_, ?_, ?_, ?_, ?_, ?_, ?_, ?_, ?_⟩ <;> intro h <;> omega
theorem okXo {id k : Nat} {v : Int} (h : ¬ (id = 1 ∨ id = 5 ∨ id = 9 ∨ id = 13 ∨ id = 20 ∨ id = 25 ∨ (29 ≤ id ∧ id ≤ 43))) : okX id k v := by
  unfold okX
  refine ⟨?_, ?_, ?_, ?_, ?_, ?_, ?_, ?_, ?_, ?_⟩ <;> intro h <;> omega
theorem i32_xl (x y : Int32) (h0 : 0 ≤ x.toInt) (h1 : x.toInt ≤ 255) (h2 : 0 ≤ y.toInt) (h3 : y.toInt ≤ 255) : 0 ≤ (x ^^^ y).toInt ∧ (x ^^^ y).toInt < 256 :=
  i32_xor x y 8 (by decide) h0 (by omega) h2 (by omega)
theorem vp_xl {x : Int32} (h0 : 0 ≤ x.toInt) (h1 : x.toInt ≤ 255) : vp_in (x ^^^ (x &&& (-x))) 256 := by
  have h := i32_and' x (-x) h0
  have h2 := i32_xl x (x &&& (-x)) h0 h1 h.1 (by omega)
  exact vp_of h2.1 h2.2
theorem vp_xg {x g : Int32} (h0 : 0 ≤ x.toInt) (h1 : x.toInt ≤ 255) (hg : (g &&& x).toInt = g.toInt) : vp_in (x ^^^ g) 256 := by
  have h := i32_and g x h0
  have h2 := i32_xl x g h0 h1 (by omega) (by omega)
  exact vp_of h2.1 h2.2
theorem vp_an {x m : Int32} (h0 : 0 ≤ m.toInt) (h1 : m.toInt ≤ 255) : vp_in (x &&& m) 256 := by
  have h := i32_and x m h0
  exact vp_of h.1 (by omega)
theorem pb_all : ∀ p q : Fin 8, p.val < q.val → ((((Int32.ofNat q.val) * (Int32.ofNat q.val - 1)) / 2) + Int32.ofNat p.val).toInt < 28 ∧ 0 ≤ ((((Int32.ofNat q.val) * (Int32.ofNat q.val - 1)) / 2) + Int32.ofNat p.val).toInt := by decide +kernel
theorem pb_28 {p q : Int32} (h0 : 0 ≤ p.toInt) (h1 : p.toInt < q.toInt) (h2 : q.toInt ≤ 7) : 0 ≤ (((q * (q - 1)) / 2) + p).toInt ∧ (((q * (q - 1)) / 2) + p).toInt < 28 := by
  have h := pb_all ⟨p.toInt.toNat, by omega⟩ ⟨q.toInt.toNat, by omega⟩ (by show p.toInt.toNat < q.toInt.toNat; omega)
  rw [← i32_ofNat h0, ← i32_ofNat (by omega)] at h
  exact ⟨h.2, h.1⟩
theorem sfJ6_bitCount_0f7a4 {G : jdG} {n : Nat} {Z : jdL} {J : jdJ} {K : Int32 → jdI → jdJ → Prop}  {I : jdI} {x0 : Int32}   (hW : WX I)  (hK : ∀ (v : Int32), (0 ≤ v.toInt ∧ v.toInt ≤ 63) → K v I J) : Cl G mJ6_bitCount_0f7a4 n 0 0 [.int x0] Z I J (qi Z K) := by
  refine eJ6_bitCount_0f7a4  ?_
  have hwI := WX_f hW
  exact hK _  (i32_and _ 63 (by decide))
theorem sfX8_everybody {G : jdG} {n : Nat} {Z : jdL} {J : jdJ} {K : Int32 → jdI → jdJ → Prop}  {I : jdI}  (ht : zTies Z 13)  (hW : WX I)  (hK : ∀ (v : Int32), (v = ((1 : Int32) <<< ((I 13 6) &&& 31)) - 1 ∧ 0 ≤ v.toInt ∧ v.toInt ≤ 255) → K v I J) : Cl G mX8_everybody n 0 0 [.ref (gb G + 13)] Z I J (qi Z K) := by
  refine eX8_everybody ht ?_
  have hwI := WX_f hW
  exact hK _  ⟨rfl, (ev_8 (by omega) (by omega)).2.2⟩
theorem sfX8_pairBit {G : jdG} {n : Nat} {Z : jdL} {J : jdJ} {K : Int32 → jdI → jdJ → Prop}  {I : jdI} {x0 : Int32} {x1 : Int32}   (hW : WX I)  (hK : ∀ (v : Int32), (v = ((x1 * (x1 - 1)) / 2) + x0 ∧ (0 ≤ x0.toInt ∧ x0.toInt < x1.toInt ∧ x1.toInt ≤ 7 → 0 ≤ v.toInt ∧ v.toInt < 28)) → K v I J) : Cl G mX8_pairBit n 0 0 [.int x0, .int x1] Z I J (qi Z K) := by
  refine eX8_pairBit  ?_
  have hwI := WX_f hW
  exact hK _  ⟨rfl, fun h => pb_28 h.1 h.2.1 h.2.2⟩
theorem lX8_isOne_2 {G : jdG} {n : Nat} {Z : jdL} {J : jdJ} {rc rs : Nat} {K : Int32 → jdI → jdJ → Prop}  {I : jdI} {x1 : Int32} (ht : zTies Z 13)  (hW : WX I)  (hK : ∀ (v : Int32), (v = 0 ∨ v = 1) → K v I J) : ∀ m : Nat, ∀ (x2 : Int32), (0 ≤ x2.toInt ∧ x2.toInt ≤ (I 13 8).toInt) → ((I 13 8).toInt) - x2.toInt < (m : Int) → Jd G mX8_isOne (jdFm G (qi Z K)) n rc rs 2 [(0, .ref (gb G + 13)), (1, .int x1), (2, .int x2)] [] Z I J := by
  intro m
  induction m with
  | zero =>
    intro x2 hx2 hm
    have hwI := WX_f hW
    omega
  | succ m ih =>
    intro x2 hx2 hm
    have hwI := WX_f hW
    refine rX8_isOne_2 ht ?_
    refine ⟨fun hc1 => ?_, fun hc2 => ?_⟩
    · skip
      have q1 := i32_lo (I 13 8)
      have q2 := i32_lo x2
      have hc1 := Int32.le_iff_toInt_le.mp hc1
      exact hK _  (by first | exact Or.inl rfl | exact Or.inr rfl)
    · skip
      have q1 := i32_lo (I 13 8)
      have q2 := i32_lo x2
      have hc2 := mt Int32.le_iff_toInt_le.mpr hc2
      refine ⟨vp_of (by omega) (by omega), ?_⟩
      refine ⟨fun hc3 => ?_, fun hc4 => ?_⟩
      · skip
        have q3 := i32_lo x1
        have hc3 : ¬ ((I (13 + 3) (Int32.toNatClampNeg x2))).toInt = (x1).toInt := fun z => hc3 (Int32.toInt_inj.mp z)
        have q4 : (1 : Int32).toInt = 1 := rfl
        have q5 := i32_add x2 1 (by omega) (by omega)
        exact ih (x2 + 1) (by omega) (by omega)
      · skip
        have q3 := i32_lo x1
        have hc4 := Int32.toInt_inj.mpr hc4
        exact hK _  (by first | exact Or.inl rfl | exact Or.inr rfl)
theorem sfX8_isOne {G : jdG} {n : Nat} {Z : jdL} {J : jdJ} {K : Int32 → jdI → jdJ → Prop}  {I : jdI} {x1 : Int32} (ht : zTies Z 13)  (hW : WX I)  (hK : ∀ (v : Int32), (v = 0 ∨ v = 1) → K v I J) : Cl G mX8_isOne n 0 0 [.ref (gb G + 13), .int x1] Z I J (qi Z K) := by
  refine eX8_isOne ht ?_
  have hwI := WX_f hW
  have q1 : (0 : Int32).toInt = 0 := rfl
  exact lX8_isOne_2 ht  hW  hK  ((((I 13 8).toInt) - (0 : Int32).toInt).toNat + 1) 0 (by omega) (by omega)
theorem lX8_countIn_4 {G : jdG} {n : Nat} {Z : jdL} {J : jdJ} {rc rs : Nat} {K : Int32 → jdI → jdJ → Prop}  {I : jdI} {x1 : Int32} (ht : zTies Z 13)  (hW : WX I)  (hK : ∀ (v : Int32), K v I J) : ∀ m : Nat, ∀ (x2 : Int32) (x3 : Int32), (0 ≤ x3.toInt ∧ x3.toInt ≤ (I 13 8).toInt) → ((I 13 8).toInt) - x3.toInt < (m : Int) → Jd G mX8_countIn (jdFm G (qi Z K)) n rc rs 4 [(0, .ref (gb G + 13)), (1, .int x1), (2, .int x2), (3, .int x3)] [] Z I J := by
  intro m
  induction m with
  | zero =>
    intro x2 x3 hx3 hm
    have hwI := WX_f hW
    omega
  | succ m ih =>
    intro x2 x3 hx3 hm
    have hwI := WX_f hW
    refine rX8_countIn_4 ht ?_
    refine ⟨fun hc1 => ?_, fun hc2 => ?_⟩
    · skip
      have q1 := i32_lo (I 13 8)
      have q2 := i32_lo x3
      have hc1 := Int32.le_iff_toInt_le.mp hc1
      exact hK _ 
    · skip
      have q1 := i32_lo (I 13 8)
      have q2 := i32_lo x3
      have hc2 := mt Int32.le_iff_toInt_le.mpr hc2
      refine ⟨vp_of (by omega) (by omega), ?_⟩
      refine ⟨vp_of (by omega) (by omega), ?_⟩
      refine ⟨fun hc3 => ?_, fun hc4 => ?_⟩
      · skip
        have q3 := i32_lo x1
        have hc3 : ¬ (((I (13 + 3) (Int32.toNatClampNeg x3)) &&& x1)).toInt = ((I (13 + 3) (Int32.toNatClampNeg x3))).toInt := fun z => hc3 (Int32.toInt_inj.mp z)
        have q4 : (1 : Int32).toInt = 1 := rfl
        have q5 := i32_add x3 1 (by omega) (by omega)
        exact ih (x2 + 0) (x3 + 1) (by omega) (by omega)
      · skip
        have q3 := i32_lo x1
        have hc4 := Int32.toInt_inj.mpr hc4
        have q4 : (1 : Int32).toInt = 1 := rfl
        have q5 := i32_add x3 1 (by omega) (by omega)
        exact ih (x2 + 1) (x3 + 1) (by omega) (by omega)
theorem sfX8_countIn {G : jdG} {n : Nat} {Z : jdL} {J : jdJ} {K : Int32 → jdI → jdJ → Prop}  {I : jdI} {x1 : Int32} (ht : zTies Z 13)  (hW : WX I)  (hK : ∀ (v : Int32), K v I J) : Cl G mX8_countIn n 0 0 [.ref (gb G + 13), .int x1] Z I J (qi Z K) := by
  refine eX8_countIn ht ?_
  have hwI := WX_f hW
  have q1 : (0 : Int32).toInt = 0 := rfl
  exact lX8_countIn_4 ht  hW  hK  ((((I 13 8).toInt) - (0 : Int32).toInt).toNat + 1) 0 0 (by omega) (by omega)
theorem lX8_countWith_4 {G : jdG} {n : Nat} {Z : jdL} {J : jdJ} {rc rs : Nat} {K : Int32 → jdI → jdJ → Prop}  {I : jdI} {x1 : Int32} (ht : zTies Z 13)  (hW : WX I)  (hK : ∀ (v : Int32), K v I J) : ∀ m : Nat, ∀ (x2 : Int32) (x3 : Int32), (0 ≤ x3.toInt ∧ x3.toInt ≤ (I 13 8).toInt) → ((I 13 8).toInt) - x3.toInt < (m : Int) → Jd G mX8_countWith (jdFm G (qi Z K)) n rc rs 4 [(0, .ref (gb G + 13)), (1, .int x1), (2, .int x2), (3, .int x3)] [] Z I J := by
  intro m
  induction m with
  | zero =>
    intro x2 x3 hx3 hm
    have hwI := WX_f hW
    omega
  | succ m ih =>
    intro x2 x3 hx3 hm
    have hwI := WX_f hW
    refine rX8_countWith_4 ht ?_
    refine ⟨fun hc1 => ?_, fun hc2 => ?_⟩
    · skip
      have q1 := i32_lo (I 13 8)
      have q2 := i32_lo x3
      have hc1 := Int32.le_iff_toInt_le.mp hc1
      exact hK _ 
    · skip
      have q1 := i32_lo (I 13 8)
      have q2 := i32_lo x3
      have hc2 := mt Int32.le_iff_toInt_le.mpr hc2
      refine ⟨vp_of (by omega) (by omega), ?_⟩
      refine ⟨fun hc3 => ?_, fun hc4 => ?_⟩
      · skip
        have q3 := i32_lo x1
        have hc3 : ¬ (((I (13 + 3) (Int32.toNatClampNeg x3)) &&& x1)).toInt = (x1).toInt := fun z => hc3 (Int32.toInt_inj.mp z)
        have q4 : (1 : Int32).toInt = 1 := rfl
        have q5 := i32_add x3 1 (by omega) (by omega)
        exact ih (x2 + 0) (x3 + 1) (by omega) (by omega)
      · skip
        have q3 := i32_lo x1
        have hc4 := Int32.toInt_inj.mpr hc4
        have q4 : (1 : Int32).toInt = 1 := rfl
        have q5 := i32_add x3 1 (by omega) (by omega)
        exact ih (x2 + 1) (x3 + 1) (by omega) (by omega)
theorem sfX8_countWith {G : jdG} {n : Nat} {Z : jdL} {J : jdJ} {K : Int32 → jdI → jdJ → Prop}  {I : jdI} {x1 : Int32} (ht : zTies Z 13)  (hW : WX I)  (hK : ∀ (v : Int32), K v I J) : Cl G mX8_countWith n 0 0 [.ref (gb G + 13), .int x1] Z I J (qi Z K) := by
  refine eX8_countWith ht ?_
  have hwI := WX_f hW
  have q1 : (0 : Int32).toInt = 0 := rfl
  exact lX8_countWith_4 ht  hW  hK  ((((I 13 8).toInt) - (0 : Int32).toInt).toNat + 1) 0 0 (by omega) (by omega)
theorem lX8_firstIn_2 {G : jdG} {n : Nat} {Z : jdL} {J : jdJ} {rc rs : Nat} {K : Int32 → jdI → jdJ → Prop}  {I : jdI} {x1 : Int32} (ht : zTies Z 13)  (hW : WX I)  (hK : ∀ (v : Int32), K v I J) : ∀ m : Nat, ∀ (x2 : Int32), (0 ≤ x2.toInt ∧ x2.toInt ≤ (I 13 8).toInt) → ((I 13 8).toInt) - x2.toInt < (m : Int) → Jd G mX8_firstIn (jdFm G (qi Z K)) n rc rs 2 [(0, .ref (gb G + 13)), (1, .int x1), (2, .int x2)] [] Z I J := by
  intro m
  induction m with
  | zero =>
    intro x2 hx2 hm
    have hwI := WX_f hW
    omega
  | succ m ih =>
    intro x2 hx2 hm
    have hwI := WX_f hW
    refine rX8_firstIn_2 ht ?_
    refine ⟨fun hc1 => ?_, fun hc2 => ?_⟩
    · skip
      have q1 := i32_lo (I 13 8)
      have q2 := i32_lo x2
      have hc1 := Int32.le_iff_toInt_le.mp hc1
      exact hK _ 
    · skip
      have q1 := i32_lo (I 13 8)
      have q2 := i32_lo x2
      have hc2 := mt Int32.le_iff_toInt_le.mpr hc2
      refine ⟨vp_of (by omega) (by omega), ?_⟩
      refine ⟨vp_of (by omega) (by omega), ?_⟩
      refine ⟨fun hc3 => ?_, fun hc4 => ?_⟩
      · skip
        have q3 := i32_lo x1
        have hc3 : ¬ (((I (13 + 3) (Int32.toNatClampNeg x2)) &&& x1)).toInt = ((I (13 + 3) (Int32.toNatClampNeg x2))).toInt := fun z => hc3 (Int32.toInt_inj.mp z)
        have q4 : (1 : Int32).toInt = 1 := rfl
        have q5 := i32_add x2 1 (by omega) (by omega)
        exact ih (x2 + 1) (by omega) (by omega)
      · skip
        have q3 := i32_lo x1
        have hc4 := Int32.toInt_inj.mpr hc4
        refine ⟨vp_of (by omega) (by omega), ?_⟩
        exact hK _ 
theorem sfX8_firstIn {G : jdG} {n : Nat} {Z : jdL} {J : jdJ} {K : Int32 → jdI → jdJ → Prop}  {I : jdI} {x1 : Int32} (ht : zTies Z 13)  (hW : WX I)  (hK : ∀ (v : Int32), K v I J) : Cl G mX8_firstIn n 0 0 [.ref (gb G + 13), .int x1] Z I J (qi Z K) := by
  refine eX8_firstIn ht ?_
  have hwI := WX_f hW
  have q1 : (0 : Int32).toInt = 0 := rfl
  exact lX8_firstIn_2 ht  hW  hK  ((((I 13 8).toInt) - (0 : Int32).toInt).toNat + 1) 0 (by omega) (by omega)
theorem lX8_firstPossible_2 {G : jdG} {n : Nat} {Z : jdL} {J : jdJ} {rc rs : Nat} {K : Int32 → jdI → jdJ → Prop}  {I : jdI} {x1 : Int32} (ht : zTies Z 13)  (hW : WX I)  (hK : ∀ (v : Int32), (v.toInt = -1 ∨ (0 ≤ v.toInt ∧ v.toInt < (I 13 8).toInt)) → K v I J) : ∀ m : Nat, ∀ (x2 : Int32), (0 ≤ x2.toInt ∧ x2.toInt ≤ (I 13 8).toInt) → ((I 13 8).toInt) - x2.toInt < (m : Int) → Jd G mX8_firstPossible (jdFm G (qi Z K)) n rc rs 2 [(0, .ref (gb G + 13)), (1, .int x1), (2, .int x2)] [] Z I J := by
  intro m
  induction m with
  | zero =>
    intro x2 hx2 hm
    have hwI := WX_f hW
    omega
  | succ m ih =>
    intro x2 hx2 hm
    have hwI := WX_f hW
    refine rX8_firstPossible_2 ht ?_
    refine ⟨fun hc1 => ?_, fun hc2 => ?_⟩
    · skip
      have q1 := i32_lo (I 13 8)
      have q2 := i32_lo x2
      have hc1 := Int32.le_iff_toInt_le.mp hc1
      exact hK _  (by first | exact Or.inl rfl | (right; omega))
    · skip
      have q1 := i32_lo (I 13 8)
      have q2 := i32_lo x2
      have hc2 := mt Int32.le_iff_toInt_le.mpr hc2
      refine ⟨vp_of (by omega) (by omega), ?_⟩
      refine ⟨vp_of (by omega) (by omega), ?_⟩
      refine ⟨fun hc3 => ?_, fun hc4 => ?_⟩
      · skip
        have q3 := i32_lo x1
        have hc3 : ¬ (((I (13 + 4) (Int32.toNatClampNeg x2)) &&& x1)).toInt = ((I (13 + 4) (Int32.toNatClampNeg x2))).toInt := fun z => hc3 (Int32.toInt_inj.mp z)
        have q4 : (1 : Int32).toInt = 1 := rfl
        have q5 := i32_add x2 1 (by omega) (by omega)
        exact ih (x2 + 1) (by omega) (by omega)
      · skip
        have q3 := i32_lo x1
        have hc4 := Int32.toInt_inj.mpr hc4
        exact hK _  (by first | exact Or.inl rfl | (right; omega))
theorem sfX8_firstPossible {G : jdG} {n : Nat} {Z : jdL} {J : jdJ} {K : Int32 → jdI → jdJ → Prop}  {I : jdI} {x1 : Int32} (ht : zTies Z 13)  (hW : WX I)  (hK : ∀ (v : Int32), (v.toInt = -1 ∨ (0 ≤ v.toInt ∧ v.toInt < (I 13 8).toInt)) → K v I J) : Cl G mX8_firstPossible n 0 0 [.ref (gb G + 13), .int x1] Z I J (qi Z K) := by
  refine eX8_firstPossible ht ?_
  have hwI := WX_f hW
  have q1 : (0 : Int32).toInt = 0 := rfl
  exact lX8_firstPossible_2 ht  hW  hK  ((((I 13 8).toInt) - (0 : Int32).toInt).toNat + 1) 0 (by omega) (by omega)
theorem lX8_breaksAll_2 {G : jdG} {n : Nat} {Z : jdL} {J : jdJ} {rc rs : Nat} {K : Int32 → jdI → jdJ → Prop}  {I : jdI} {x1 : Int32} {x2 : Int32} (ht : zTies Z 13)  (hW : WX I) (hx2 : x2.toInt ≤ 70) (hK : ∀ (v : Int32), K v I J) : ∀ m : Nat, ∀ (x3 : Int32), (0 ≤ x3.toInt ∧ x3.toInt ≤ 70) → (x2.toInt ≤ 70) → 70 - x3.toInt < (m : Int) → Jd G mX8_breaksAll (jdFm G (qi Z K)) n rc rs 2 [(0, .ref (gb G + 13)), (1, .int x1), (2, .int x2), (3, .int x3)] [] Z I J := by
  intro m
  induction m with
  | zero =>
    intro x3 hx3 hx2b hm
    have hwI := WX_f hW
    omega
  | succ m ih =>
    intro x3 hx3 hx2b hm
    have hwI := WX_f hW
    refine rX8_breaksAll_2 ht ?_
    refine ⟨fun hc1 => ?_, fun hc2 => ?_⟩
    · skip
      have q1 := i32_lo x2
      have q2 := i32_lo x3
      have hc1 := Int32.le_iff_toInt_le.mp hc1
      exact hK _ 
    · skip
      have q1 := i32_lo x2
      have q2 := i32_lo x3
      have hc2 := mt Int32.le_iff_toInt_le.mpr hc2
      refine ⟨vp_of (by omega) (by omega), ?_⟩
      refine ⟨fun hc3 => ?_, fun hc4 => ?_⟩
      · skip
        have q3 := i32_lo x1
        have q4 : (0 : Int32).toInt = 0 := rfl
        have hc3 : ¬ (((I (13 + 4) (Int32.toNatClampNeg x3)) &&& x1)).toInt = (0 : Int32).toInt := fun z => hc3 (Int32.toInt_inj.mp z)
        have q5 : (1 : Int32).toInt = 1 := rfl
        have q6 := i32_add x3 1 (by omega) (by omega)
        exact ih (x3 + 1) (by omega) (by omega) (by omega)
      · skip
        have q3 := i32_lo x1
        have q4 : (0 : Int32).toInt = 0 := rfl
        have hc4 := Int32.toInt_inj.mpr hc4
        exact hK _ 
theorem sfX8_breaksAll {G : jdG} {n : Nat} {Z : jdL} {J : jdJ} {K : Int32 → jdI → jdJ → Prop}  {I : jdI} {x1 : Int32} {x2 : Int32} (ht : zTies Z 13)  (hW : WX I) (hx2 : x2.toInt ≤ 70) (hK : ∀ (v : Int32), K v I J) : Cl G mX8_breaksAll n 0 0 [.ref (gb G + 13), .int x1, .int x2] Z I J (qi Z K) := by
  refine eX8_breaksAll ht ?_
  have hwI := WX_f hW
  have q1 : (0 : Int32).toInt = 0 := rfl
  exact lX8_breaksAll_2 ht  hW hx2 hK  ((70 - (0 : Int32).toInt).toNat + 1) 0 (by omega) (by omega) (by omega)
theorem lX8_tally_2 {G : jdG} {n : Nat} {Z : jdL} {J : jdJ} {rc rs : Nat} {K : jdI → jdJ → Prop}  {I0 : jdI} {x1 : Int32} (ht : zTies Z 13)   (hK : ∀ (I2 : jdI), WX I2 → Fr (fun a k => 13 ≤ a ∧ a ≤ 19) I0 I2 → K I2 J) : ∀ m : Nat, ∀ (I : jdI) (x2 : Int32), WX I → Fr (fun a k => 13 ≤ a ∧ a ≤ 19) I0 I → (0 ≤ x2.toInt ∧ x2.toInt ≤ 28) → (28) - x2.toInt < (m : Int) → Jd G mX8_tally (jdFm G (qv Z K)) n rc rs 2 [(0, .ref (gb G + 13)), (1, .int x1), (2, .int x2)] [] Z I J := by
  intro m
  induction m with
  | zero =>
    intro I x2 hW hF hx2 hm
    have hwI := WX_f hW
    omega
  | succ m ih =>
    intro I x2 hW hF hx2 hm
    have hwI := WX_f hW
    refine rX8_tally_2 ht ?_
    refine ⟨fun hc1 => ?_, fun hc2 => ?_⟩
    · skip
      have q1 : (28 : Int32).toInt = 28 := rfl
      have q2 := i32_lo x2
      have hc1 := Int32.le_iff_toInt_le.mp hc1
      exact hK _ hW hF
    · skip
      have q1 : (28 : Int32).toInt = 28 := rfl
      have q2 := i32_lo x2
      have hc2 := mt Int32.le_iff_toInt_le.mpr hc2
      refine ⟨vp_of (by omega) (by omega), ?_⟩
      refine ⟨vp_of (by omega) (by omega), ?_⟩
      have q3 : (1 : Int32).toInt = 1 := rfl
      have q4 := i32_add x2 1 (by omega) (by omega)
      exact ih _ (x2 + 1) (WX_uI hW (by first | exact okXo (by decide) | (unfold okX; refine ⟨?_, ?_, ?_, ?_, ?_, ?_, ?_, ?_, ?_, ?_⟩ <;> intro h <;> omega))) (Fr_uI hF (by omega)) (by omega) (by omega)
theorem sfX8_tally {G : jdG} {n : Nat} {Z : jdL} {J : jdJ} {K : jdI → jdJ → Prop}  {I : jdI} {x1 : Int32} (ht : zTies Z 13)  (hW : WX I)  (hK : ∀ (I2 : jdI), WX I2 → Fr (fun a k => 13 ≤ a ∧ a ≤ 19) I I2 → K I2 J) : Cl G mX8_tally n 0 0 [.ref (gb G + 13), .int x1] Z I J (qv Z K) := by
  refine eX8_tally ht ?_
  have hwI := WX_f hW
  have q1 : (0 : Int32).toInt = 0 := rfl
  exact lX8_tally_2 ht   hK  (((28) - (0 : Int32).toInt).toNat + 1) _ 0 hW Fr.rf (by omega) (by omega)
theorem lX8_costTogether_4 {G : jdG} {n : Nat} {Z : jdL} {J : jdJ} {rc rs : Nat} {K : Int32 → jdI → jdJ → Prop}  {I : jdI} {x1 : Int32} (ht : zTies Z 13)  (hW : WX I)  (hK : ∀ (v : Int32), K v I J) : ∀ m : Nat, ∀ (x2 : Int32) (x3 : Int32), (0 ≤ x3.toInt ∧ x3.toInt ≤ (I 13 6).toInt) → ((I 13 6).toInt) - x3.toInt < (m : Int) → Jd G mX8_costTogether (jdFm G (qi Z K)) n rc rs 4 [(0, .ref (gb G + 13)), (1, .int x1), (2, .int x2), (3, .int x3)] [] Z I J := by
  intro m
  induction m with
  | zero =>
    intro x2 x3 hx3 hm
    have hwI := WX_f hW
    omega
  | succ m ih =>
    intro x2 x3 hx3 hm
    have hwI := WX_f hW
    refine rX8_costTogether_4 ht ?_
    refine ⟨fun hc1 => ?_, fun hc2 => ?_⟩
    · skip
      have q1 := i32_lo (I 13 6)
      have q2 := i32_lo x3
      have hc1 := Int32.le_iff_toInt_le.mp hc1
      exact hK _ 
    · skip
      have q1 := i32_lo (I 13 6)
      have q2 := i32_lo x3
      have hc2 := mt Int32.le_iff_toInt_le.mpr hc2
      refine ⟨vp_of (by omega) (by omega), ?_⟩
      have q3 : (1 : Int32).toInt = 1 := rfl
      have q4 := i32_add x3 1 (by omega) (by omega)
      exact ih (x2 + (((x1 >>> (x3 &&& 31)) &&& 1) * (I (13 + 2) (Int32.toNatClampNeg x3)))) (x3 + 1) (by omega) (by omega)
theorem sfX8_costTogether {G : jdG} {n : Nat} {Z : jdL} {J : jdJ} {K : Int32 → jdI → jdJ → Prop}  {I : jdI} {x1 : Int32} (ht : zTies Z 13)  (hW : WX I)  (hK : ∀ (v : Int32), K v I J) : Cl G mX8_costTogether n 0 0 [.ref (gb G + 13), .int x1] Z I J (qi Z K) := by
  refine eX8_costTogether ht ?_
  have hwI := WX_f hW
  have q1 : (0 : Int32).toInt = 0 := rfl
  exact lX8_costTogether_4 ht  hW  hK  ((((I 13 6).toInt) - (0 : Int32).toInt).toNat + 1) 0 0 (by omega) (by omega)
theorem lX8_strangersTogether_4 {G : jdG} {n : Nat} {Z : jdL} {J : jdJ} {rc rs : Nat} {K : Int32 → jdI → jdJ → Prop}  {I : jdI} {x1 : Int32} (ht : zTies Z 13)  (hW : WX I)  (hK : ∀ (v : Int32), K v I J) : ∀ m : Nat, ∀ (x2 : Int32) (x3 : Int32), (0 ≤ x3.toInt ∧ x3.toInt ≤ (I 13 6).toInt) → ((I 13 6).toInt) - x3.toInt < (m : Int) → Jd G mX8_strangersTogether (jdFm G (qi Z K)) (n + 1) rc rs 4 [(0, .ref (gb G + 13)), (1, .int x1), (2, .int x2), (3, .int x3)] [] Z I J := by
  intro m
  induction m with
  | zero =>
    intro x2 x3 hx3 hm
    have hwI := WX_f hW
    omega
  | succ m ih =>
    intro x2 x3 hx3 hm
    have hwI := WX_f hW
    refine rX8_strangersTogether_4 ht ?_
    refine ⟨fun hc1 => ?_, fun hc2 => ?_⟩
    · skip
      have q1 := i32_lo (I 13 6)
      have q2 := i32_lo x3
      have hc1 := Int32.le_iff_toInt_le.mp hc1
      exact hK _ 
    · skip
      have q1 := i32_lo (I 13 6)
      have q2 := i32_lo x3
      have hc2 := mt Int32.le_iff_toInt_le.mpr hc2
      refine ⟨vp_of (by omega) (by omega), ?_⟩
      refine sfJ6_bitCount_0f7a4  hW  (fun v3  hp3 => ?_)
      have q3 : (1 : Int32).toInt = 1 := rfl
      have q4 := i32_add x3 1 (by omega) (by omega)
      exact ih (x2 + (((x1 >>> (x3 &&& 31)) &&& 1) * v3)) (x3 + 1) (by omega) (by omega)
theorem sfX8_strangersTogether {G : jdG} {n : Nat} {Z : jdL} {J : jdJ} {K : Int32 → jdI → jdJ → Prop}  {I : jdI} {x1 : Int32} (ht : zTies Z 13)  (hW : WX I)  (hK : ∀ (v : Int32), K v I J) : Cl G mX8_strangersTogether (n + 1) 0 0 [.ref (gb G + 13), .int x1] Z I J (qi Z K) := by
  refine eX8_strangersTogether ht ?_
  have hwI := WX_f hW
  have q1 : (0 : Int32).toInt = 0 := rfl
  exact lX8_strangersTogether_4 ht  hW  hK  ((((I 13 6).toInt) - (0 : Int32).toInt).toNat + 1) 0 0 (by omega) (by omega)
theorem sfX9_since {G : jdG} {n : Nat} {Z : jdL} {J : jdJ} {K : Int32 → jdI → jdJ → Prop}  {I : jdI} {t : Nat} {x1 : Int32} {x2 : Int32} (ht : zTown Z t) (hts : (t = 1 ∨ t = 5 ∨ t = 9)) (hW : WX I) (hx1 : 0 ≤ x1.toInt ∧ x1.toInt ≤ 6) (hx2 : 0 ≤ x2.toInt ∧ x2.toInt ≤ 6) (hK : ∀ (v : Int32), K v I J) : Cl G mX9_since n 0 0 [.ref (gb G + t), .int x1, .int x2] Z I J (qi Z K) := by
  refine eX9_since ht ?_
  have hwI := WX_f hW
  have hptI := WX_town hW hts
  have q1 := i32_lo x1
  have q2 : (7 : Int32).toInt = 7 := rfl
  have q3 := i32_mulc x1 7 7 rfl (by omega) (by omega)
  have q4 := i32_lo x2
  have q5 := i32_add (x1 * 7) x2 (by omega) (by omega)
  refine ⟨vp_of (by omega) (by omega), ?_⟩
  exact hK _ 
theorem lX9_strangersTo_4 {G : jdG} {n : Nat} {Z : jdL} {J : jdJ} {rc rs : Nat} {K : Int32 → jdI → jdJ → Prop}  {I : jdI} {t : Nat} {x1 : Int32} (ht : zTown Z t) (hts : (t = 1 ∨ t = 5 ∨ t = 9)) (hW : WX I) (hx1 : 0 ≤ x1.toInt ∧ x1.toInt ≤ 6) (hK : ∀ (v : Int32), K v I J) : ∀ m : Nat, ∀ (x2 : Int32) (x3 : Int32), (0 ≤ x3.toInt ∧ x3.toInt ≤ (I t 3).toInt) → (0 ≤ x1.toInt ∧ x1.toInt ≤ 6) → ((I t 3).toInt) - x3.toInt < (m : Int) → Jd G mX9_strangersTo (jdFm G (qi Z K)) (n + 1) rc rs 4 [(0, .ref (gb G + t)), (1, .int x1), (2, .int x2), (3, .int x3)] [] Z I J := by
  intro m
  induction m with
  | zero =>
    intro x2 x3 hx3 hx1b hm
    have hwI := WX_f hW
    have hptI := WX_town hW hts
    omega
  | succ m ih =>
    intro x2 x3 hx3 hx1b hm
    have hwI := WX_f hW
    have hptI := WX_town hW hts
    refine rX9_strangersTo_4 ht ?_
    refine ⟨fun hc1 => ?_, fun hc2 => ?_⟩
    · skip
      have q1 := i32_lo (I t 3)
      have q2 := i32_lo x3
      have hc1 := Int32.le_iff_toInt_le.mp hc1
      exact hK _ 
    · skip
      have q1 := i32_lo (I t 3)
      have q2 := i32_lo x3
      have hc2 := mt Int32.le_iff_toInt_le.mpr hc2
      refine ⟨fun hc3 => ?_, fun hc4 => ?_⟩
      · skip
        have q3 := i32_lo x1
        have hc3 := Int32.toInt_inj.mpr hc3
        have q4 : (1 : Int32).toInt = 1 := rfl
        have q5 := i32_add x3 1 (by omega) (by omega)
        exact ih x2 (x3 + 1) (by omega) (by omega) (by omega)
      · skip
        have q3 := i32_lo x1
        have hc4 : ¬ (x3).toInt = (x1).toInt := fun z => hc4 (Int32.toInt_inj.mp z)
        refine sfX9_since ht hts hW (by omega) (by omega) (fun v2  => ?_)
        refine ⟨fun hc6 => ?_, fun hc7 => ?_⟩
        · skip
          have q4 := i32_lo v2
          have q5 : (-1 : Int32).toInt = -1 := rfl
          have hc6 : ¬ (v2).toInt = ((-1) : Int32).toInt := fun z => hc6 (Int32.toInt_inj.mp z)
          have q6 : (1 : Int32).toInt = 1 := rfl
          have q7 := i32_add x3 1 (by omega) (by omega)
          exact ih x2 (x3 + 1) (by omega) (by omega) (by omega)
        · skip
          have q4 := i32_lo v2
          have q5 : (-1 : Int32).toInt = -1 := rfl
          have hc7 := Int32.toInt_inj.mpr hc7
          have q6 : (1 : Int32).toInt = 1 := rfl
          have q7 := i32_add x3 1 (by omega) (by omega)
          exact ih (x2 ||| (1 <<< (x3 &&& 31))) (x3 + 1) (by omega) (by omega) (by omega)
theorem sfX9_strangersTo {G : jdG} {n : Nat} {Z : jdL} {J : jdJ} {K : Int32 → jdI → jdJ → Prop}  {I : jdI} {t : Nat} {x1 : Int32} (ht : zTown Z t) (hts : (t = 1 ∨ t = 5 ∨ t = 9)) (hW : WX I) (hx1 : 0 ≤ x1.toInt ∧ x1.toInt ≤ 6) (hK : ∀ (v : Int32), K v I J) : Cl G mX9_strangersTo (n + 1) 0 0 [.ref (gb G + t), .int x1] Z I J (qi Z K) := by
  refine eX9_strangersTo ht ?_
  have hwI := WX_f hW
  have hptI := WX_town hW hts
  have q1 : (0 : Int32).toInt = 0 := rfl
  exact lX9_strangersTo_4 ht hts hW hx1 hK  ((((I t 3).toInt) - (0 : Int32).toInt).toNat + 1) 0 0 (by omega) (by omega) (by omega)
theorem lX8_gather_37 {G : jdG} {n : Nat} {Z : jdL} {J : jdJ} {rc rs : Nat} {K : jdI → jdJ → Prop}  {I0 : jdI} {x1 : Int32} {x2 : Int32} {x3 : Int32} (ht : zTies Z 13)   (hK : ∀ (I2 : jdI), WX I2 → Fr (fun a k => 13 ≤ a ∧ a ≤ 19) I0 I2 → K I2 J) {d : Nat} (hR : ∀ (I : jdI) (K : jdI → jdJ → Prop) (x1 : Int32) (x2 : Int32) (x3 : Int32), WX I → 0 ≤ x3.toInt ∧ x3.toInt < (d : Int) → (∀ (I2 : jdI), WX I2 → Fr (fun a k => 13 ≤ a ∧ a ≤ 19) I I2 → K I2 J) → Cl G mX8_gather (n + 0) 0 0 [.ref (gb G + 13), .int x1, .int x2, .int x3] Z I J (qv Z K)) : ∀ m : Nat, ∀ (I : jdI) (x4 : Int32), WX I → Fr (fun a k => 13 ≤ a ∧ a ≤ 19) I0 I → (0 ≤ x4.toInt ∧ x4.toInt ≤ 8) → (0 < x3.toInt ∧ x3.toInt ≤ (d : Int)) → (8) - x4.toInt < (m : Int) → Jd G mX8_gather (jdFm G (qv Z K)) (n + 1) rc rs 37 [(0, .ref (gb G + 13)), (1, .int x1), (2, .int x2), (3, .int x3), (4, .int x4)] [] Z I J := by
  intro m
  induction m with
  | zero =>
    intro I x4 hW hF hx4 hd hm
    have hwI := WX_f hW
    omega
  | succ m ih =>
    intro I x4 hW hF hx4 hd hm
    have hwI := WX_f hW
    refine rX8_gather_37 ht ?_
    refine ⟨fun hc1 => ?_, fun hc2 => ?_⟩
    · skip
      have q1 := i32_lo (I 13 6)
      have q2 := i32_lo x4
      have hc1 := Int32.le_iff_toInt_le.mp hc1
      exact hK _ hW hF
    · skip
      have q1 := i32_lo (I 13 6)
      have q2 := i32_lo x4
      have hc2 := mt Int32.le_iff_toInt_le.mpr hc2
      refine ⟨fun hc3 => ?_, fun hc4 => ?_⟩
      · skip
        have q3 := i32_lo x2
        have q4 : (31 : Int32).toInt = 31 := rfl
        have q5 : (1 : Int32).toInt = 1 := rfl
        have q6 : (0 : Int32).toInt = 0 := rfl
        have hc3 := Int32.toInt_inj.mpr hc3
        have q7 := i32_add x4 1 (by omega) (by omega)
        exact ih _ (x4 + 1) hW hF (by omega) (by omega) (by omega)
      · skip
        have q3 := i32_lo x2
        have q4 : (31 : Int32).toInt = 31 := rfl
        have q5 : (1 : Int32).toInt = 1 := rfl
        have q6 : (0 : Int32).toInt = 0 := rfl
        have hc4 : ¬ (((x2 >>> (x4 &&& 31)) &&& 1)).toInt = (0 : Int32).toInt := fun z => hc4 (Int32.toInt_inj.mp z)
        refine ⟨vp_of (by omega) (by omega), ?_⟩
        have q7 := i32_lo x3
        have q8 := i32_sub x3 1 (by omega) (by omega)
        refine hR _ _ _ _ _ hW  ⟨by omega, by omega⟩ (fun I2 hWI2 hFI2 => ?_)
        have hwI2 := WX_f hWI2
        have q9 := i32_add x4 1 (by omega) (by omega)
        exact ih _ (x4 + 1) hWI2 (Fr.tr hF hFI2 (by intro a k h; omega)) (by omega) (by omega) (by omega)
theorem sbX8_gather {G : jdG} {n : Nat} {Z : jdL} {J : jdJ} {d : Nat}   (ht : zTies Z 13)  (hR : ∀ (I : jdI) (K : jdI → jdJ → Prop) (x1 : Int32) (x2 : Int32) (x3 : Int32), WX I → 0 ≤ x3.toInt ∧ x3.toInt < (d : Int) → (∀ (I2 : jdI), WX I2 → Fr (fun a k => 13 ≤ a ∧ a ≤ 19) I I2 → K I2 J) → Cl G mX8_gather (n + 0) 0 0 [.ref (gb G + 13), .int x1, .int x2, .int x3] Z I J (qv Z K)) (I : jdI) (K : jdI → jdJ → Prop) (x1 : Int32) (x2 : Int32) (x3 : Int32) (hW : WX I)  (hd : 0 ≤ x3.toInt ∧ x3.toInt ≤ (d : Int)) (hK : ∀ (I2 : jdI), WX I2 → Fr (fun a k => 13 ≤ a ∧ a ≤ 19) I I2 → K I2 J) : Cl G mX8_gather (n + 1) 0 0 [.ref (gb G + 13), .int x1, .int x2, .int x3] Z I J (qv Z K) := by
  refine eX8_gather ht ?_
  have hwI := WX_f hW
  refine ⟨fun hc1 => ?_, fun hc2 => ?_⟩
  · skip
    have q1 : (0 : Int32).toInt = 0 := rfl
    have q2 := i32_lo x3
    have hc1 := Int32.lt_iff_toInt_lt.mp hc1
    exact lX8_gather_37 ht   hK hR  (((8) - (0 : Int32).toInt).toNat + 1) _ 0 hW Fr.rf (by omega) (by omega) (by omega)
  · skip
    have q1 : (0 : Int32).toInt = 0 := rfl
    have q2 := i32_lo x3
    have hc2 := mt Int32.lt_iff_toInt_lt.mpr hc2
    refine ⟨fun hc3 => ?_, fun hc4 => ?_⟩
    · skip
      have q3 : (70 : Int32).toInt = 70 := rfl
      have q4 := i32_lo (I 13 8)
      have hc3 := Int32.le_iff_toInt_le.mp hc3
      exact hK _ hW Fr.rf
    · skip
      have q3 : (70 : Int32).toInt = 70 := rfl
      have q4 := i32_lo (I 13 8)
      have hc4 := mt Int32.le_iff_toInt_le.mpr hc4
      refine ⟨vp_of (by omega) (by omega), ?_⟩
      have q5 : (1 : Int32).toInt = 1 := rfl
      have q6 := i32_add (I 13 8) 1 (by omega) (by omega)
      exact hK _ (WX_uI (WX_uI hW (by first | exact okXo (by decide) | (unfold okX; refine ⟨?_, ?_, ?_, ?_, ?_, ?_, ?_, ?_, ?_, ?_⟩ <;> intro h <;> omega))) (by first | exact okXo (by decide) | (unfold okX; refine ⟨?_, ?_, ?_, ?_, ?_, ?_, ?_, ?_, ?_, ?_⟩ <;> intro h <;> omega))) (Fr_uI (Fr_uI Fr.rf (by omega)) (by omega))
theorem srX8_gather {G : jdG} {Z : jdL} {J : jdJ}   (ht : zTies Z 13)  : ∀ d : Nat, ∀ (n : Nat) (I : jdI) (K : jdI → jdJ → Prop) (x1 : Int32) (x2 : Int32) (x3 : Int32), WX I → 0 ≤ x3.toInt ∧ x3.toInt ≤ (d : Int) → (∀ (I2 : jdI), WX I2 → Fr (fun a k => 13 ≤ a ∧ a ≤ 19) I I2 → K I2 J) → Cl G mX8_gather (n + 0 + d + 1) 0 0 [.ref (gb G + 13), .int x1, .int x2, .int x3] Z I J (qv Z K) := by
  intro d
  induction d with
  | zero =>
    intro n
    exact sbX8_gather (n := n) (d := 0) ht (fun _ _ _ _ _ _ h _ => absurd h (by omega))
  | succ d ih =>
    intro n
    exact sbX8_gather (n := n + d + 1) (d := d + 1) ht (fun I K x1 x2 x3 hW  h hK => by
      have e : n + d + 1 + 0 = n + 0 + d + 1 := by omega
      rw [e]
      exact ih n I K x1 x2 x3 hW  ⟨h.1, by omega⟩ hK) |> (fun h => by
      have e : n + 0 + (d + 1) + 1 = n + d + 1 + 1 := by omega
      rw [e]
      exact h)
theorem sfX8_gather {G : jdG} {n : Nat} {Z : jdL} {J : jdJ} {K : jdI → jdJ → Prop}  {I : jdI} {x1 : Int32} {x2 : Int32} {x3 : Int32} (ht : zTies Z 13)  (hW : WX I)  (hd : 0 ≤ x3.toInt ∧ x3.toInt ≤ 4) (hK : ∀ (I2 : jdI), WX I2 → Fr (fun a k => 13 ≤ a ∧ a ≤ 19) I I2 → K I2 J) : Cl G mX8_gather (n + 5) 0 0 [.ref (gb G + 13), .int x1, .int x2, .int x3] Z I J (qv Z K) :=
  srX8_gather ht 4 n I K x1 x2 x3 hW  hd hK
theorem sfX8_list {G : jdG} {n : Nat} {Z : jdL} {J : jdJ} {K : jdI → jdJ → Prop}  {I : jdI}  (ht : zTies Z 13)  (hW : WX I)  (hK : ∀ (I2 : jdI), WX I2 → Fr (fun a k => 13 ≤ a ∧ a ≤ 19) I I2 → K I2 J) : Cl G mX8_list (n + 6) 0 0 [.ref (gb G + 13)] Z I J (qv Z K) := by
  refine eX8_list ht ?_
  have hwI := WX_f hW
  have q1 : (0 : Int32).toInt = 0 := rfl
  refine sfX8_everybody ht (WX_uI (WX_uI hW (by first | exact okXo (by decide) | (unfold okX; refine ⟨?_, ?_, ?_, ?_, ?_, ?_, ?_, ?_, ?_, ?_⟩ <;> intro h <;> omega))) (by first | exact okXo (by decide) | (unfold okX; refine ⟨?_, ?_, ?_, ?_, ?_, ?_, ?_, ?_, ?_, ?_⟩ <;> intro h <;> omega)))  (fun v2  hp1 => ?_)
  have hr2 : (((uI (uI I 13 8 0) 13 10 0)) 13 7).toInt = ((I 13 7)).toInt := congrArg Int32.toInt (uI_sk (by decide) (uI_sk (by decide) rfl))
  refine sfX8_gather ht (WX_uI (WX_uI hW (by first | exact okXo (by decide) | (unfold okX; refine ⟨?_, ?_, ?_, ?_, ?_, ?_, ?_, ?_, ?_, ?_⟩ <;> intro h <;> omega))) (by first | exact okXo (by decide) | (unfold okX; refine ⟨?_, ?_, ?_, ?_, ?_, ?_, ?_, ?_, ?_, ?_⟩ <;> intro h <;> omega)))  ⟨by omega, by omega⟩ (fun I3 hWI3 hFI3 => ?_)
  have hwI3 := WX_f hWI3
  exact hK _ hWI3 (Fr.tr (Fr_uI (Fr_uI Fr.rf (by omega)) (by omega)) hFI3 (by intro a k h; omega))
theorem lX8_load_18 {G : jdG} {n : Nat} {Z : jdL} {J : jdJ} {rc rs : Nat} {K : jdI → jdJ → Prop}  {I0 : jdI} {u1 : Nat} (ht : zTies Z 13) (hu1 : zTown Z u1) (hu1s : (u1 = 1 ∨ u1 = 5 ∨ u1 = 9))  (hK : ∀ (I2 : jdI), WX I2 → Fr (fun a k => 13 ≤ a ∧ a ≤ 19) I0 I2 → K I2 J) : ∀ m : Nat, ∀ (I : jdI) (x2 : Int32), WX I → Fr (fun a k => 13 ≤ a ∧ a ≤ 19) I0 I → (0 ≤ x2.toInt ∧ x2.toInt ≤ (I 13 6).toInt) → ((I 13 6).toInt ≤ 7) → ((I 13 6).toInt) - x2.toInt < (m : Int) → Jd G mX8_load (jdFm G (qv Z K)) (n + 7) rc rs 18 [(0, .ref (gb G + 13)), (1, .ref (gb G + u1)), (2, .int x2)] [] Z I J := by
  intro m
  induction m with
  | zero =>
    intro I x2 hW hF hx2 hpe hm
    have hwI := WX_f hW
    have hpu1I := WX_town hW hu1s
    omega
  | succ m ih =>
    intro I x2 hW hF hx2 hpe hm
    have hwI := WX_f hW
    have hpu1I := WX_town hW hu1s
    refine rX8_load_18 ht hu1 ?_
    refine ⟨fun hc1 => ?_, fun hc2 => ?_⟩
    · skip
      have q1 := i32_lo (I 13 6)
      have q2 := i32_lo x2
      have hc1 := Int32.le_iff_toInt_le.mp hc1
      refine sfX8_list ht hW  (fun I1 hWI1 hFI1 => ?_)
      have hwI1 := WX_f hWI1
      have hpu1I1 := WX_town hWI1 hu1s
      exact hK _ hWI1 (Fr.tr hF hFI1 (by intro a k h; omega))
    · skip
      have q1 := i32_lo (I 13 6)
      have q2 := i32_lo x2
      have hc2 := mt Int32.le_iff_toInt_le.mpr hc2
      refine sfX9_strangersTo hu1 hu1s hW (by omega) (fun v4  => ?_)
      refine ⟨vp_of (by omega) (by omega), ?_⟩
      refine ⟨vp_of (by omega) (by omega), ?_⟩
      refine ⟨vp_of (by omega) (by omega), ?_⟩
      have q3 : (1 : Int32).toInt = 1 := rfl
      have q4 := i32_add x2 1 (by omega) (by omega)
      have hr5 : (((uI (uI I (13 + 1) (Int32.toNatClampNeg x2) v4) (13 + 2) (Int32.toNatClampNeg x2) ((uI I (13 + 1) (Int32.toNatClampNeg x2) v4) (u1 + 2) (Int32.toNatClampNeg x2)))) 13 6).toInt = (((uI I (13 + 1) (Int32.toNatClampNeg x2) v4)) 13 6).toInt := by rw [uI_n _ _ _ (show 13 ≠ (13 + 2) by omega)]
      have hr6 : (((uI I (13 + 1) (Int32.toNatClampNeg x2) v4)) 13 6).toInt = ((I) 13 6).toInt := by rw [uI_n _ _ _ (show 13 ≠ (13 + 1) by omega)]
      exact ih _ (x2 + 1) (WX_uI (WX_uI hW (by first | exact okXo (by decide) | (unfold okX; refine ⟨?_, ?_, ?_, ?_, ?_, ?_, ?_, ?_, ?_, ?_⟩ <;> intro h <;> omega))) (by first | exact okXo (by decide) | (unfold okX; refine ⟨?_, ?_, ?_, ?_, ?_, ?_, ?_, ?_, ?_, ?_⟩ <;> intro h <;> omega))) (Fr_uI (Fr_uI hF (by omega)) (by omega)) (by omega) (by omega) (by omega)
theorem sfX8_load {G : jdG} {n : Nat} {Z : jdL} {J : jdJ} {K : jdI → jdJ → Prop}  {I : jdI} {u1 : Nat} (ht : zTies Z 13) (hu1 : zTown Z u1) (hu1s : (u1 = 1 ∨ u1 = 5 ∨ u1 = 9)) (hW : WX I)  (hK : ∀ (I2 : jdI), WX I2 → Fr (fun a k => 13 ≤ a ∧ a ≤ 19) I I2 → K I2 J) : Cl G mX8_load (n + 7) 0 0 [.ref (gb G + 13), .ref (gb G + u1)] Z I J (qv Z K) := by
  refine eX8_load ht hu1 ?_
  have hwI := WX_f hW
  have hpu1I := WX_town hW hu1s
  have hr1 : (((uI I 13 6 (I u1 3))) u1 4).toInt = ((I) u1 4).toInt := by rw [uI_n _ _ _ (show u1 ≠ 13 by omega)]
  have q1 : (0 : Int32).toInt = 0 := rfl
  have q2 := i32_lo (I u1 3)
  have hr2 : (((uI (uI I 13 6 (I u1 3)) 13 7 ((uI I 13 6 (I u1 3)) u1 4))) 13 6).toInt = ((I u1 3)).toInt := congrArg Int32.toInt (uI_sk (by decide) (uI_ss _ _ _ _))
  exact lX8_load_18 ht hu1 hu1s  hK  (((((uI (uI I 13 6 (I u1 3)) 13 7 ((uI I 13 6 (I u1 3)) u1 4)) 13 6).toInt) - (0 : Int32).toInt).toNat + 1) _ 0 (WX_uI (WX_uI hW (by first | exact okXo (by decide) | (unfold okX; refine ⟨?_, ?_, ?_, ?_, ?_, ?_, ?_, ?_, ?_, ?_⟩ <;> intro h <;> omega))) (by first | exact okXo (by decide) | (unfold okX; refine ⟨?_, ?_, ?_, ?_, ?_, ?_, ?_, ?_, ?_, ?_⟩ <;> intro h <;> omega))) (Fr_uI (Fr_uI Fr.rf (by omega)) (by omega)) (by omega) (by omega) (by omega)
theorem lX8_addStranger_12 {G : jdG} {n : Nat} {Z : jdL} {J : jdJ} {rc rs : Nat} {K : jdI → jdJ → Prop}  {I0 : jdI}  (ht : zTies Z 13)   (hK : ∀ (I2 : jdI), WX I2 → Fr (fun a k => 13 ≤ a ∧ a ≤ 19) I0 I2 → K I2 J) : ∀ m : Nat, ∀ (I : jdI) (x1 : Int32), WX I → Fr (fun a k => 13 ≤ a ∧ a ≤ 19) I0 I → (0 ≤ x1.toInt ∧ x1.toInt ≤ (I 13 6).toInt) → ((I 13 6).toInt ≤ 7) → ((I 13 6).toInt) - x1.toInt < (m : Int) → Jd G mX8_addStranger (jdFm G (qv Z K)) (n + 7) rc rs 12 [(0, .ref (gb G + 13)), (1, .int x1)] [] Z I J := by
  intro m
  induction m with
  | zero =>
    intro I x1 hW hF hx1 hpe hm
    have hwI := WX_f hW
    omega
  | succ m ih =>
    intro I x1 hW hF hx1 hpe hm
    have hwI := WX_f hW
    refine rX8_addStranger_12 ht ?_
    refine ⟨fun hc1 => ?_, fun hc2 => ?_⟩
    · skip
      have q1 := i32_lo (I 13 6)
      have q2 := i32_lo x1
      have hc1 := Int32.le_iff_toInt_le.mp hc1
      refine sfX8_everybody ht hW  (fun v2  hp3 => ?_)
      refine ⟨vp_of (by omega) (by omega), ?_⟩
      refine ⟨vp_of (by omega) (by omega), ?_⟩
      have q3 : (1 : Int32).toInt = 1 := rfl
      have q4 := i32_add (I 13 6) 1 (by omega) (by omega)
      refine sfX8_list ht (WX_uI (WX_uI (WX_uI hW (by first | exact okXo (by decide) | (unfold okX; refine ⟨?_, ?_, ?_, ?_, ?_, ?_, ?_, ?_, ?_, ?_⟩ <;> intro h <;> omega))) (by first | exact okXo (by decide) | (unfold okX; refine ⟨?_, ?_, ?_, ?_, ?_, ?_, ?_, ?_, ?_, ?_⟩ <;> intro h <;> omega))) (by first | exact okXo (by decide) | (unfold okX; refine ⟨?_, ?_, ?_, ?_, ?_, ?_, ?_, ?_, ?_, ?_⟩ <;> intro h <;> omega)))  (fun I5 hWI5 hFI5 => ?_)
      have hwI5 := WX_f hWI5
      exact hK _ hWI5 (Fr.tr (Fr_uI (Fr_uI (Fr_uI hF (by omega)) (by omega)) (by omega)) hFI5 (by intro a k h; omega))
    · skip
      have q1 := i32_lo (I 13 6)
      have q2 := i32_lo x1
      have hc2 := mt Int32.le_iff_toInt_le.mpr hc2
      refine ⟨vp_of (by omega) (by omega), ?_⟩
      refine ⟨vp_of (by omega) (by omega), ?_⟩
      have q3 : (1 : Int32).toInt = 1 := rfl
      have q4 := i32_add x1 1 (by omega) (by omega)
      have hr5 : (((uI I (13 + 1) (Int32.toNatClampNeg x1) ((I (13 + 1) (Int32.toNatClampNeg x1)) ||| (1 <<< ((I 13 6) &&& 31))))) 13 6).toInt = ((I) 13 6).toInt := by rw [uI_n _ _ _ (show 13 ≠ (13 + 1) by omega)]
      exact ih _ (x1 + 1) (WX_uI hW (by first | exact okXo (by decide) | (unfold okX; refine ⟨?_, ?_, ?_, ?_, ?_, ?_, ?_, ?_, ?_, ?_⟩ <;> intro h <;> omega))) (Fr_uI hF (by omega)) (by omega) (by omega) (by omega)
theorem sfX8_addStranger {G : jdG} {n : Nat} {Z : jdL} {J : jdJ} {K : jdI → jdJ → Prop}  {I : jdI}  (ht : zTies Z 13)  (hW : WX I)  (hK : ∀ (I2 : jdI), WX I2 → Fr (fun a k => 13 ≤ a ∧ a ≤ 19) I I2 → K I2 J) : Cl G mX8_addStranger (n + 7) 0 0 [.ref (gb G + 13)] Z I J (qv Z K) := by
  refine eX8_addStranger ht ?_
  have hwI := WX_f hW
  refine ⟨fun hc1 => ?_, fun hc2 => ?_⟩
  · skip
    have q1 := i32_lo (I 13 6)
    have q2 : (8 : Int32).toInt = 8 := rfl
    have hc1 := Int32.lt_iff_toInt_lt.mp hc1
    have q3 : (0 : Int32).toInt = 0 := rfl
    exact lX8_addStranger_12 ht   hK  ((((I 13 6).toInt) - (0 : Int32).toInt).toNat + 1) _ 0 hW Fr.rf (by omega) (by omega) (by omega)
  · skip
    have q1 := i32_lo (I 13 6)
    have q2 : (8 : Int32).toInt = 8 := rfl
    have hc2 := mt Int32.lt_iff_toInt_lt.mpr hc2
    exact hK _ hW Fr.rf
theorem lX8_acquaint_2 {G : jdG} {n : Nat} {Z : jdL} {J : jdJ} {rc rs : Nat} {K : jdI → jdJ → Prop}  {I0 : jdI} {x1 : Int32} (ht : zTies Z 13)   (hK : ∀ (I2 : jdI), WX I2 → Fr (fun a k => 13 ≤ a ∧ a ≤ 19) I0 I2 → K I2 J) : ∀ m : Nat, ∀ (I : jdI) (x2 : Int32), WX I → Fr (fun a k => 13 ≤ a ∧ a ≤ 19) I0 I → (0 ≤ x2.toInt ∧ x2.toInt ≤ (I 13 6).toInt) → ((I 13 6).toInt) - x2.toInt < (m : Int) → Jd G mX8_acquaint (jdFm G (qv Z K)) (n + 7) rc rs 2 [(0, .ref (gb G + 13)), (1, .int x1), (2, .int x2)] [] Z I J := by
  intro m
  induction m with
  | zero =>
    intro I x2 hW hF hx2 hm
    have hwI := WX_f hW
    omega
  | succ m ih =>
    intro I x2 hW hF hx2 hm
    have hwI := WX_f hW
    refine rX8_acquaint_2 ht ?_
    refine ⟨fun hc1 => ?_, fun hc2 => ?_⟩
    · skip
      have q1 := i32_lo (I 13 6)
      have q2 := i32_lo x2
      have hc1 := Int32.le_iff_toInt_le.mp hc1
      refine sfX8_list ht hW  (fun I1 hWI1 hFI1 => ?_)
      have hwI1 := WX_f hWI1
      exact hK _ hWI1 (Fr.tr hF hFI1 (by intro a k h; omega))
    · skip
      have q1 := i32_lo (I 13 6)
      have q2 := i32_lo x2
      have hc2 := mt Int32.le_iff_toInt_le.mpr hc2
      refine ⟨fun hc4 => ?_, fun hc5 => ?_⟩
      · skip
        have q3 := i32_lo x1
        have q4 : (31 : Int32).toInt = 31 := rfl
        have q5 : (1 : Int32).toInt = 1 := rfl
        have q6 : (0 : Int32).toInt = 0 := rfl
        have hc4 := Int32.toInt_inj.mpr hc4
        have q7 := i32_add x2 1 (by omega) (by omega)
        exact ih _ (x2 + 1) hW hF (by omega) (by omega)
      · skip
        have q3 := i32_lo x1
        have q4 : (31 : Int32).toInt = 31 := rfl
        have q5 : (1 : Int32).toInt = 1 := rfl
        have q6 : (0 : Int32).toInt = 0 := rfl
        have hc5 : ¬ (((x1 >>> (x2 &&& 31)) &&& 1)).toInt = (0 : Int32).toInt := fun z => hc5 (Int32.toInt_inj.mp z)
        refine ⟨vp_of (by omega) (by omega), ?_⟩
        refine ⟨vp_of (by omega) (by omega), ?_⟩
        have q7 := i32_add x2 1 (by omega) (by omega)
        have hr6 : (((uI I (13 + 1) (Int32.toNatClampNeg x2) ((I (13 + 1) (Int32.toNatClampNeg x2)) &&& (x1 ^^^ (-1))))) 13 6).toInt = ((I) 13 6).toInt := by rw [uI_n _ _ _ (show 13 ≠ (13 + 1) by omega)]
        exact ih _ (x2 + 1) (WX_uI hW (by first | exact okXo (by decide) | (unfold okX; refine ⟨?_, ?_, ?_, ?_, ?_, ?_, ?_, ?_, ?_, ?_⟩ <;> intro h <;> omega))) (Fr_uI hF (by omega)) (by omega) (by omega)
theorem sfX8_acquaint {G : jdG} {n : Nat} {Z : jdL} {J : jdJ} {K : jdI → jdJ → Prop}  {I : jdI} {x1 : Int32} (ht : zTies Z 13)  (hW : WX I)  (hK : ∀ (I2 : jdI), WX I2 → Fr (fun a k => 13 ≤ a ∧ a ≤ 19) I I2 → K I2 J) : Cl G mX8_acquaint (n + 7) 0 0 [.ref (gb G + 13), .int x1] Z I J (qv Z K) := by
  refine eX8_acquaint ht ?_
  have hwI := WX_f hW
  have q1 : (0 : Int32).toInt = 0 := rfl
  exact lX8_acquaint_2 ht   hK  ((((I 13 6).toInt) - (0 : Int32).toInt).toNat + 1) _ 0 hW Fr.rf (by omega) (by omega)
theorem lX8_countMost_36 {G : jdG} {n : Nat} {Z : jdL} {J : jdJ} {rc rs : Nat} {K : jdI → jdJ → Prop}  {I0 : jdI} {mo9 : Nat}  (ht : zTies Z 13)   (hK : ∀ (I2 : jdI), WX I2 → Fr (fun a k => 13 ≤ a ∧ a ≤ 19) I0 I2 → K I2 J) (hO9 : ∀ (I : jdI) (x1 : Int32), WX I → Fr (fun a k => 13 ≤ a ∧ a ≤ 19) I0 I → (0 ≤ x1.toInt ∧ x1.toInt ≤ 256) → 256 - x1.toInt < (mo9 : Int) → Jd G mX8_countMost (jdFm G (qv Z K)) n rc rs 9 [(0, .ref (gb G + 13)), (1, .int x1)] [] Z I J) : ∀ m : Nat, ∀ (I : jdI) (x1 : Int32) (x2 : Int32) (x3 : Int32) (x4 : Int32), WX I → Fr (fun a k => 13 ≤ a ∧ a ≤ 19) I0 I → (0 ≤ x1.toInt ∧ x1.toInt ≤ 255) → (0 ≤ x4.toInt ∧ x4.toInt ≤ (I 13 8).toInt) → 256 - x1.toInt ≤ (mo9 : Int) → (I 13 8).toInt - x4.toInt < (m : Int) → Jd G mX8_countMost (jdFm G (qv Z K)) n rc rs 36 [(0, .ref (gb G + 13)), (1, .int x1), (2, .int x2), (3, .int x3), (4, .int x4)] [] Z I J := by
  intro m
  induction m with
  | zero =>
    intro I x1 x2 x3 x4 hW hF hx1 hx4 hmo9 hm
    have hwI := WX_f hW
    omega
  | succ m ih =>
    intro I x1 x2 x3 x4 hW hF hx1 hx4 hmo9 hm
    have hwI := WX_f hW
    refine rX8_countMost_36 ht ?_
    refine ⟨fun hc1 => ?_, fun hc2 => ?_⟩
    · skip
      have q1 := i32_lo (I 13 8)
      have q2 := i32_lo x4
      have hc1 := Int32.le_iff_toInt_le.mp hc1
      have hev := ev_8 (x := I 13 6) (by omega) (by omega)
      have q3 := i32_lo x1
      refine ⟨vp_of (by omega) (by omega), ?_⟩
      have q4 : (1 : Int32).toInt = 1 := rfl
      have q5 := i32_add x1 1 (by omega) (by omega)
      exact hO9 _ (x1 + 1) (WX_uI hW (by first | exact okXo (by decide) | (unfold okX; refine ⟨?_, ?_, ?_, ?_, ?_, ?_, ?_, ?_, ?_, ?_⟩ <;> intro h <;> omega))) (Fr_uI hF (by omega)) (by omega) (by omega)
    · skip
      have q1 := i32_lo (I 13 8)
      have q2 := i32_lo x4
      have hc2 := mt Int32.le_iff_toInt_le.mpr hc2
      have hev := ev_8 (x := I 13 6) (by omega) (by omega)
      refine ⟨vp_of (by omega) (by omega), ?_⟩
      refine ⟨fun hc3 => ?_, fun hc4 => ?_⟩
      · skip
        have q3 := i32_lo x2
        have q4 : (0 : Int32).toInt = 0 := rfl
        have hc3 := Int32.toInt_inj.mpr hc3
        have hev := ev_8 (x := I 13 6) (by omega) (by omega)
        have q5 := i32_lo x1
        have q6 : (1 : Int32).toInt = 1 := rfl
        have q7 := i32_add x4 1 (by omega) (by omega)
        exact ih _ x1 x2 x3 (x4 + 1) hW hF (by omega) (by omega) (by omega) (by omega)
      · skip
        have q3 := i32_lo x2
        have q4 : (0 : Int32).toInt = 0 := rfl
        have hc4 : ¬ (((I (13 + 3) (Int32.toNatClampNeg x4)) &&& x2)).toInt = (0 : Int32).toInt := fun z => hc4 (Int32.toInt_inj.mp z)
        have hev := ev_8 (x := I 13 6) (by omega) (by omega)
        refine ⟨fun hc5 => ?_, fun hc6 => ?_⟩
        · skip
          have q5 := i32_lo x1
          have hc5 : ¬ (((I (13 + 3) (Int32.toNatClampNeg x4)) &&& x1)).toInt = ((I (13 + 3) (Int32.toNatClampNeg x4))).toInt := fun z => hc5 (Int32.toInt_inj.mp z)
          have hev := ev_8 (x := I 13 6) (by omega) (by omega)
          have q6 : (1 : Int32).toInt = 1 := rfl
          have q7 := i32_add x4 1 (by omega) (by omega)
          exact ih _ x1 x2 x3 (x4 + 1) hW hF (by omega) (by omega) (by omega) (by omega)
        · skip
          have q5 := i32_lo x1
          have hc6 := Int32.toInt_inj.mpr hc6
          have hev := ev_8 (x := I 13 6) (by omega) (by omega)
          refine ⟨vp_xg (by omega) (by omega) (by assumption), ?_⟩
          refine ⟨fun hc7 => ?_, fun hc8 => ?_⟩
          · skip
            have q6 := i32_lo x3
            have hc7 := Int32.lt_iff_toInt_lt.mp hc7
            have hev := ev_8 (x := I 13 6) (by omega) (by omega)
            have q7 : (1 : Int32).toInt = 1 := rfl
            have q8 := i32_add x4 1 (by omega) (by omega)
            exact ih _ x1 x2 x3 (x4 + 1) hW hF (by omega) (by omega) (by omega) (by omega)
          · skip
            have q6 := i32_lo x3
            have hc8 := mt Int32.lt_iff_toInt_lt.mpr hc8
            have hev := ev_8 (x := I 13 6) (by omega) (by omega)
            refine ⟨vp_xg (by omega) (by omega) (by assumption), ?_⟩
            have q7 : (1 : Int32).toInt = 1 := rfl
            have q8 := i32_add x4 1 (by omega) (by omega)
            exact ih _ x1 x2 (1 + (I (13 + 5) (Int32.toNatClampNeg (x1 ^^^ (I (13 + 3) (Int32.toNatClampNeg x4)))))) (x4 + 1) hW hF (by omega) (by omega) (by omega) (by omega)
theorem lX8_countMost_9 {G : jdG} {n : Nat} {Z : jdL} {J : jdJ} {rc rs : Nat} {K : jdI → jdJ → Prop}  {I0 : jdI}  (ht : zTies Z 13)   (hK : ∀ (I2 : jdI), WX I2 → Fr (fun a k => 13 ≤ a ∧ a ≤ 19) I0 I2 → K I2 J) : ∀ m : Nat, ∀ (I : jdI) (x1 : Int32), WX I → Fr (fun a k => 13 ≤ a ∧ a ≤ 19) I0 I → (0 ≤ x1.toInt ∧ x1.toInt ≤ 256) → 256 - x1.toInt < (m : Int) → Jd G mX8_countMost (jdFm G (qv Z K)) n rc rs 9 [(0, .ref (gb G + 13)), (1, .int x1)] [] Z I J := by
  intro m
  induction m with
  | zero =>
    intro I x1 hW hF hx1 hm
    have hwI := WX_f hW
    omega
  | succ m ih =>
    intro I x1 hW hF hx1 hm
    have hwI := WX_f hW
    refine rX8_countMost_9 ht ?_
    refine ⟨fun hc1 => ?_, fun hc2 => ?_⟩
    · skip
      have q1 : (1 : Int32).toInt = 1 := rfl
      have q2 := i32_lo (I 13 6)
      have q3 : (31 : Int32).toInt = 31 := rfl
      have q4 := i32_lo x1
      have hc1 := Int32.le_iff_toInt_le.mp hc1
      have hev := ev_8 (x := I 13 6) (by omega) (by omega)
      exact hK _ hW hF
    · skip
      have q1 : (1 : Int32).toInt = 1 := rfl
      have q2 := i32_lo (I 13 6)
      have q3 : (31 : Int32).toInt = 31 := rfl
      have q4 := i32_lo x1
      have hc2 := mt Int32.le_iff_toInt_le.mpr hc2
      have hev := ev_8 (x := I 13 6) (by omega) (by omega)
      refine ⟨vp_xl (by omega) (by omega), ?_⟩
      have q5 : (0 : Int32).toInt = 0 := rfl
      exact lX8_countMost_36 ht   hK ih (((I 13 8).toInt - (0 : Int32).toInt).toNat + 1) _ x1 (x1 &&& (-x1)) (I (13 + 5) (Int32.toNatClampNeg (x1 ^^^ (x1 &&& (-x1))))) 0 hW hF (by omega) (by omega) (by omega) (by omega)
theorem sfX8_countMost {G : jdG} {n : Nat} {Z : jdL} {J : jdJ} {K : jdI → jdJ → Prop}  {I : jdI}  (ht : zTies Z 13)  (hW : WX I)  (hK : ∀ (I2 : jdI), WX I2 → Fr (fun a k => 13 ≤ a ∧ a ≤ 19) I I2 → K I2 J) : Cl G mX8_countMost n 0 0 [.ref (gb G + 13)] Z I J (qv Z K) := by
  refine eX8_countMost ht ?_
  have hwI := WX_f hW
  have q1 : (1 : Int32).toInt = 1 := rfl
  exact lX8_countMost_9 ht   hK  ((256 - (1 : Int32).toInt).toNat + 1) _ 1 (WX_uI hW (by first | exact okXo (by decide) | (unfold okX; refine ⟨?_, ?_, ?_, ?_, ?_, ?_, ?_, ?_, ?_, ?_⟩ <;> intro h <;> omega))) (Fr_uI Fr.rf (by omega)) (by omega) (by omega)
theorem sfX8_mostFrom {G : jdG} {n : Nat} {Z : jdL} {J : jdJ} {K : Int32 → jdI → jdJ → Prop}  {I : jdI} {x1 : Int32} (ht : zTies Z 13)  (hW : WX I)  (hK : ∀ (v : Int32) (I2 : jdI), WX I2 → Fr (fun a k => 13 ≤ a ∧ a ≤ 19) I I2 → K v I2 J) : Cl G mX8_mostFrom (n + 1) 0 0 [.ref (gb G + 13), .int x1] Z I J (qi Z K) := by
  refine eX8_mostFrom ht ?_
  have hwI := WX_f hW
  refine ⟨fun hc1 => ?_, fun hc2 => ?_⟩
  · skip
    have q1 := i32_lo (I 13 10)
    have q2 : (0 : Int32).toInt = 0 := rfl
    have hc1 : ¬ ((I 13 10)).toInt = (0 : Int32).toInt := fun z => hc1 (Int32.toInt_inj.mp z)
    refine sfX8_everybody ht hW  (fun v2  hp3 => ?_)
    refine ⟨vp_an (by omega) (by omega), ?_⟩
    exact hK _ _ hW Fr.rf
  · skip
    have q1 := i32_lo (I 13 10)
    have q2 : (0 : Int32).toInt = 0 := rfl
    have hc2 := Int32.toInt_inj.mpr hc2
    refine sfX8_countMost ht hW  (fun I4 hWI4 hFI4 => ?_)
    have hwI4 := WX_f hWI4
    refine sfX8_everybody ht (WX_uI hWI4 (by first | exact okXo (by decide) | (unfold okX; refine ⟨?_, ?_, ?_, ?_, ?_, ?_, ?_, ?_, ?_, ?_⟩ <;> intro h <;> omega)))  (fun v7  hp5 => ?_)
    refine ⟨vp_an (by omega) (by omega), ?_⟩
    exact hK _ _ (WX_uI hWI4 (by first | exact okXo (by decide) | (unfold okX; refine ⟨?_, ?_, ?_, ?_, ?_, ?_, ?_, ?_, ?_, ?_⟩ <;> intro h <;> omega))) (Fr_uI (Fr.tr Fr.rf hFI4 (by intro a k h; omega)) (by omega))
theorem lX8_firstOfMost_10 {G : jdG} {n : Nat} {Z : jdL} {J : jdJ} {rc rs : Nat} {K : Int32 → jdI → jdJ → Prop}  {I0 : jdI} {x1 : Int32} (ht : zTies Z 13)   (hK : ∀ (v : Int32) (I2 : jdI), WX I2 → Fr (fun a k => 13 ≤ a ∧ a ≤ 19) I0 I2 → K v I2 J) : ∀ m : Nat, ∀ (I : jdI) (x2 : Int32) (x3 : Int32), WX I → Fr (fun a k => 13 ≤ a ∧ a ≤ 19) I0 I → (0 ≤ x3.toInt ∧ x3.toInt ≤ 70) → (70) - x3.toInt < (m : Int) → Jd G mX8_firstOfMost (jdFm G (qi Z K)) (n + 2) rc rs 10 [(0, .ref (gb G + 13)), (1, .int x1), (2, .int x2), (3, .int x3)] [] Z I J := by
  intro m
  induction m with
  | zero =>
    intro I x2 x3 hW hF hx3 hm
    have hwI := WX_f hW
    omega
  | succ m ih =>
    intro I x2 x3 hW hF hx3 hm
    have hwI := WX_f hW
    refine rX8_firstOfMost_10 ht ?_
    refine ⟨fun hc1 => ?_, fun hc2 => ?_⟩
    · skip
      have q1 := i32_lo (I 13 8)
      have q2 := i32_lo x3
      have hc1 := Int32.le_iff_toInt_le.mp hc1
      exact hK _ _ hW hF
    · skip
      have q1 := i32_lo (I 13 8)
      have q2 := i32_lo x3
      have hc2 := mt Int32.le_iff_toInt_le.mpr hc2
      refine ⟨vp_of (by omega) (by omega), ?_⟩
      refine ⟨fun hc3 => ?_, fun hc4 => ?_⟩
      · skip
        have q3 := i32_lo x1
        have hc3 : ¬ (((I (13 + 3) (Int32.toNatClampNeg x3)) &&& x1)).toInt = ((I (13 + 3) (Int32.toNatClampNeg x3))).toInt := fun z => hc3 (Int32.toInt_inj.mp z)
        have q4 : (1 : Int32).toInt = 1 := rfl
        have q5 := i32_add x3 1 (by omega) (by omega)
        exact ih _ x2 (x3 + 1) hW hF (by omega) (by omega)
      · skip
        have q3 := i32_lo x1
        have hc4 := Int32.toInt_inj.mpr hc4
        refine sfX8_mostFrom ht hW  (fun v3 I2 hWI2 hFI2 => ?_)
        have hwI2 := WX_f hWI2
        refine ⟨fun hc6 => ?_, fun hc7 => ?_⟩
        · skip
          have q4 := i32_lo v3
          have q5 := i32_lo x2
          have hc6 : ¬ (v3).toInt = (x2).toInt := fun z => hc6 (Int32.toInt_inj.mp z)
          have q6 : (1 : Int32).toInt = 1 := rfl
          have q7 := i32_add x3 1 (by omega) (by omega)
          exact ih _ x2 (x3 + 1) hWI2 (Fr.tr hF hFI2 (by intro a k h; omega)) (by omega) (by omega)
        · skip
          have q4 := i32_lo v3
          have q5 := i32_lo x2
          have hc7 := Int32.toInt_inj.mpr hc7
          exact hK _ _ hWI2 (Fr.tr hF hFI2 (by intro a k h; omega))
theorem sfX8_firstOfMost {G : jdG} {n : Nat} {Z : jdL} {J : jdJ} {K : Int32 → jdI → jdJ → Prop}  {I : jdI} {x1 : Int32} (ht : zTies Z 13)  (hW : WX I)  (hK : ∀ (v : Int32) (I2 : jdI), WX I2 → Fr (fun a k => 13 ≤ a ∧ a ≤ 19) I I2 → K v I2 J) : Cl G mX8_firstOfMost (n + 2) 0 0 [.ref (gb G + 13), .int x1] Z I J (qi Z K) := by
  refine eX8_firstOfMost ht ?_
  have hwI := WX_f hW
  refine sfX8_mostFrom ht hW  (fun v2 I1 hWI1 hFI1 => ?_)
  have hwI1 := WX_f hWI1
  have q1 : (0 : Int32).toInt = 0 := rfl
  exact lX8_firstOfMost_10 ht   hK  (((70) - (0 : Int32).toInt).toNat + 1) _ (v2 - 1) 0 hWI1 (Fr.tr Fr.rf hFI1 (by intro a k h; omega)) (by omega) (by omega)
theorem lX8_mostRow_5 {G : jdG} {n : Nat} {Z : jdL} {J : jdJ} {rc rs : Nat} {K : Int32 → jdI → jdJ → Prop}  {I0 : jdI} {x1 : Int32} {x2 : Int32} (ht : zTies Z 13)   (hK : ∀ (v : Int32) (I2 : jdI), WX I2 → Fr (fun a k => 13 ≤ a ∧ a ≤ 19) I0 I2 → K v I2 J) : ∀ m : Nat, ∀ (I : jdI) (x3 : Int32) (x4 : Int32), WX I → Fr (fun a k => 13 ≤ a ∧ a ≤ 19) I0 I → (0 ≤ x4.toInt ∧ x4.toInt ≤ 8) → (8) - x4.toInt < (m : Int) → Jd G mX8_mostRow (jdFm G (qi Z K)) (n + 3) rc rs 5 [(0, .ref (gb G + 13)), (1, .int x1), (2, .int x2), (3, .int x3), (4, .int x4)] [] Z I J := by
  intro m
  induction m with
  | zero =>
    intro I x3 x4 hW hF hx4 hm
    have hwI := WX_f hW
    omega
  | succ m ih =>
    intro I x3 x4 hW hF hx4 hm
    have hwI := WX_f hW
    refine rX8_mostRow_5 ht ?_
    refine ⟨fun hc1 => ?_, fun hc2 => ?_⟩
    · skip
      have q1 := i32_lo x2
      have q2 := i32_lo x4
      have hc1 := Int32.le_iff_toInt_le.mp hc1
      refine sfX8_firstOfMost ht hW  (fun v2 I1 hWI1 hFI1 => ?_)
      have hwI1 := WX_f hWI1
      exact hK _ _ hWI1 (Fr.tr hF hFI1 (by intro a k h; omega))
    · skip
      have q1 := i32_lo x2
      have q2 := i32_lo x4
      have hc2 := mt Int32.le_iff_toInt_le.mpr hc2
      refine ⟨fun hc4 => ?_, fun hc5 => ?_⟩
      · skip
        have q3 : (8 : Int32).toInt = 8 := rfl
        have hc4 := Int32.le_iff_toInt_le.mp hc4
        refine sfX8_firstOfMost ht hW  (fun v4 I3 hWI3 hFI3 => ?_)
        have hwI3 := WX_f hWI3
        exact hK _ _ hWI3 (Fr.tr hF hFI3 (by intro a k h; omega))
      · skip
        have q3 : (8 : Int32).toInt = 8 := rfl
        have hc5 := mt Int32.le_iff_toInt_le.mpr hc5
        refine sfX8_firstOfMost ht hW  (fun v6 I5 hWI5 hFI5 => ?_)
        have hwI5 := WX_f hWI5
        have q4 : (1 : Int32).toInt = 1 := rfl
        have q5 := i32_add x4 1 (by omega) (by omega)
        exact ih _ (x3 &&& (v6 ^^^ (-1))) (x4 + 1) hWI5 (Fr.tr hF hFI5 (by intro a k h; omega)) (by omega) (by omega)
theorem sfX8_mostRow {G : jdG} {n : Nat} {Z : jdL} {J : jdJ} {K : Int32 → jdI → jdJ → Prop}  {I : jdI} {x1 : Int32} {x2 : Int32} (ht : zTies Z 13)  (hW : WX I)  (hK : ∀ (v : Int32) (I2 : jdI), WX I2 → Fr (fun a k => 13 ≤ a ∧ a ≤ 19) I I2 → K v I2 J) : Cl G mX8_mostRow (n + 3) 0 0 [.ref (gb G + 13), .int x1, .int x2] Z I J (qi Z K) := by
  refine eX8_mostRow ht ?_
  have hwI := WX_f hW
  have q1 : (0 : Int32).toInt = 0 := rfl
  exact lX8_mostRow_5 ht   hK  (((8) - (0 : Int32).toInt).toNat + 1) _ x1 0 hW Fr.rf (by omega) (by omega)
theorem lX8_closest_19 {G : jdG} {n : Nat} {Z : jdL} {J : jdJ} {rc rs : Nat} {K : Int32 → jdI → jdJ → Prop}  {I : jdI} {mo6 : Nat}  (ht : zTies Z 13)  (hW : WX I)  (hK : ∀ (v : Int32), K v I J) (hO6 : ∀ (x1 : Int32) (x2 : Int32) (x3 : Int32), (0 ≤ x3.toInt ∧ x3.toInt ≤ (I 13 6).toInt) → ((I 13 6).toInt) - x3.toInt < (mo6 : Int) → Jd G mX8_closest (jdFm G (qi Z K)) (n + 1) rc rs 6 [(0, .ref (gb G + 13)), (1, .int x1), (2, .int x2), (3, .int x3)] [] Z I J) : ∀ m : Nat, ∀ (x1 : Int32) (x2 : Int32) (x3 : Int32) (x4 : Int32), (0 ≤ x4.toInt ∧ x4.toInt ≤ (I 13 6).toInt) → (0 ≤ x3.toInt ∧ x3.toInt < (I 13 6).toInt) → ((I 13 6).toInt) - x3.toInt ≤ (mo6 : Int) → ((I 13 6).toInt) - x4.toInt < (m : Int) → Jd G mX8_closest (jdFm G (qi Z K)) (n + 1) rc rs 19 [(0, .ref (gb G + 13)), (1, .int x1), (2, .int x2), (3, .int x3), (4, .int x4)] [] Z I J := by
  intro m
  induction m with
  | zero =>
    intro x1 x2 x3 x4 hx4 hx3 hmo6 hm
    have hwI := WX_f hW
    omega
  | succ m ih =>
    intro x1 x2 x3 x4 hx4 hx3 hmo6 hm
    have hwI := WX_f hW
    refine rX8_closest_19 ht ?_
    refine ⟨fun hc1 => ?_, fun hc2 => ?_⟩
    · skip
      have q1 := i32_lo (I 13 6)
      have q2 := i32_lo x4
      have hc1 := Int32.le_iff_toInt_le.mp hc1
      have q3 := i32_lo x3
      have q4 : (1 : Int32).toInt = 1 := rfl
      have q5 := i32_add x3 1 (by omega) (by omega)
      exact hO6 x1 x2 (x3 + 1) (by omega) (by omega)
    · skip
      have q1 := i32_lo (I 13 6)
      have q2 := i32_lo x4
      have hc2 := mt Int32.le_iff_toInt_le.mpr hc2
      have q3 := i32_lo x3
      refine ⟨vp_of (by omega) (by omega), ?_⟩
      refine ⟨fun hc3 => ?_, fun hc4 => ?_⟩
      · skip
        have q4 : (31 : Int32).toInt = 31 := rfl
        have q5 : (1 : Int32).toInt = 1 := rfl
        have q6 : (0 : Int32).toInt = 0 := rfl
        have hc3 := Int32.toInt_inj.mpr hc3
        have q7 := i32_add x4 1 (by omega) (by omega)
        exact ih x1 x2 x3 (x4 + 1) (by omega) (by omega) (by omega) (by omega)
      · skip
        have q4 : (31 : Int32).toInt = 31 := rfl
        have q5 : (1 : Int32).toInt = 1 := rfl
        have q6 : (0 : Int32).toInt = 0 := rfl
        have hc4 : ¬ ((((I (13 + 1) (Int32.toNatClampNeg x3)) >>> (x4 &&& 31)) &&& 1)).toInt = (0 : Int32).toInt := fun z => hc4 (Int32.toInt_inj.mp z)
        refine sfX8_countWith ht hW  (fun v3  => ?_)
        refine ⟨fun hc6 => ?_, fun hc7 => ?_⟩
        · skip
          have q7 := i32_lo v3
          have q8 := i32_lo x2
          have hc6 := Int32.le_iff_toInt_le.mp hc6
          have q9 := i32_add x4 1 (by omega) (by omega)
          exact ih x1 x2 x3 (x4 + 1) (by omega) (by omega) (by omega) (by omega)
        · skip
          have q7 := i32_lo v3
          have q8 := i32_lo x2
          have hc7 := mt Int32.le_iff_toInt_le.mpr hc7
          have q9 := i32_add x4 1 (by omega) (by omega)
          exact ih ((10 * x3) + x4) v3 x3 (x4 + 1) (by omega) (by omega) (by omega) (by omega)
theorem lX8_closest_6 {G : jdG} {n : Nat} {Z : jdL} {J : jdJ} {rc rs : Nat} {K : Int32 → jdI → jdJ → Prop}  {I : jdI}  (ht : zTies Z 13)  (hW : WX I)  (hK : ∀ (v : Int32), K v I J) : ∀ m : Nat, ∀ (x1 : Int32) (x2 : Int32) (x3 : Int32), (0 ≤ x3.toInt ∧ x3.toInt ≤ (I 13 6).toInt) → ((I 13 6).toInt) - x3.toInt < (m : Int) → Jd G mX8_closest (jdFm G (qi Z K)) (n + 1) rc rs 6 [(0, .ref (gb G + 13)), (1, .int x1), (2, .int x2), (3, .int x3)] [] Z I J := by
  intro m
  induction m with
  | zero =>
    intro x1 x2 x3 hx3 hm
    have hwI := WX_f hW
    omega
  | succ m ih =>
    intro x1 x2 x3 hx3 hm
    have hwI := WX_f hW
    refine rX8_closest_6 ht ?_
    refine ⟨fun hc1 => ?_, fun hc2 => ?_⟩
    · skip
      have q1 := i32_lo (I 13 6)
      have q2 := i32_lo x3
      have hc1 := Int32.le_iff_toInt_le.mp hc1
      exact hK _ 
    · skip
      have q1 := i32_lo (I 13 6)
      have q2 := i32_lo x3
      have hc2 := mt Int32.le_iff_toInt_le.mpr hc2
      have q3 : (1 : Int32).toInt = 1 := rfl
      have q4 := i32_add x3 1 (by omega) (by omega)
      exact lX8_closest_19 ht  hW  hK ih ((((I 13 6).toInt) - (x3 + 1).toInt).toNat + 1) x1 x2 x3 (x3 + 1) (by omega) (by omega) (by omega) (by omega)
theorem sfX8_closest {G : jdG} {n : Nat} {Z : jdL} {J : jdJ} {K : Int32 → jdI → jdJ → Prop}  {I : jdI}  (ht : zTies Z 13)  (hW : WX I)  (hK : ∀ (v : Int32), K v I J) : Cl G mX8_closest (n + 1) 0 0 [.ref (gb G + 13)] Z I J (qi Z K) := by
  refine eX8_closest ht ?_
  have hwI := WX_f hW
  have q1 : (0 : Int32).toInt = 0 := rfl
  exact lX8_closest_6 ht  hW  hK  ((((I 13 6).toInt) - (0 : Int32).toInt).toNat + 1) (-1) (-1) 0 (by omega) (by omega)
theorem lX8_pairsIn_15 {G : jdG} {n : Nat} {Z : jdL} {J : jdJ} {rc rs : Nat} {K : Int32 → jdI → jdJ → Prop}  {I : jdI} {mo4 : Nat} {x1 : Int32} (ht : zTies Z 13)  (hW : WX I)  (hK : ∀ (v : Int32), K v I J) (hO4 : ∀ (x2 : Int32) (x3 : Int32), (0 ≤ x3.toInt ∧ x3.toInt ≤ 8) → (8) - x3.toInt < (mo4 : Int) → Jd G mX8_pairsIn (jdFm G (qi Z K)) (n + 1) rc rs 4 [(0, .ref (gb G + 13)), (1, .int x1), (2, .int x2), (3, .int x3)] [] Z I J) : ∀ m : Nat, ∀ (x2 : Int32) (x3 : Int32) (x4 : Int32), (0 ≤ x4.toInt ∧ x4.toInt ≤ x3.toInt) → (0 ≤ x3.toInt ∧ x3.toInt ≤ 7) → (8) - x3.toInt ≤ (mo4 : Int) → (x3.toInt) - x4.toInt < (m : Int) → Jd G mX8_pairsIn (jdFm G (qi Z K)) (n + 1) rc rs 15 [(0, .ref (gb G + 13)), (1, .int x1), (2, .int x2), (3, .int x3), (4, .int x4)] [] Z I J := by
  intro m
  induction m with
  | zero =>
    intro x2 x3 x4 hx4 hx3 hmo4 hm
    have hwI := WX_f hW
    omega
  | succ m ih =>
    intro x2 x3 x4 hx4 hx3 hmo4 hm
    have hwI := WX_f hW
    refine rX8_pairsIn_15 ht ?_
    refine ⟨fun hc1 => ?_, fun hc2 => ?_⟩
    · skip
      have q1 := i32_lo x3
      have q2 := i32_lo x4
      have hc1 := Int32.le_iff_toInt_le.mp hc1
      have q3 : (1 : Int32).toInt = 1 := rfl
      have q4 := i32_add x3 1 (by omega) (by omega)
      exact hO4 x2 (x3 + 1) (by omega) (by omega)
    · skip
      have q1 := i32_lo x3
      have q2 := i32_lo x4
      have hc2 := mt Int32.le_iff_toInt_le.mpr hc2
      refine ⟨vp_of (by omega) (by omega), ?_⟩
      refine ⟨fun hc3 => ?_, fun hc4 => ?_⟩
      · skip
        have q3 := i32_lo x1
        have q4 : (31 : Int32).toInt = 31 := rfl
        have q5 : (1 : Int32).toInt = 1 := rfl
        have q6 : (0 : Int32).toInt = 0 := rfl
        have hc3 := Int32.toInt_inj.mpr hc3
        have q7 := i32_add x4 1 (by omega) (by omega)
        exact ih x2 x3 (x4 + 1) (by omega) (by omega) (by omega) (by omega)
      · skip
        have q3 := i32_lo x1
        have q4 : (31 : Int32).toInt = 31 := rfl
        have q5 : (1 : Int32).toInt = 1 := rfl
        have q6 : (0 : Int32).toInt = 0 := rfl
        have hc4 : ¬ (((((x1 >>> (x4 &&& 31)) &&& (x1 >>> (x3 &&& 31))) &&& ((I (13 + 1) (Int32.toNatClampNeg x4)) >>> (x3 &&& 31))) &&& 1)).toInt = (0 : Int32).toInt := fun z => hc4 (Int32.toInt_inj.mp z)
        refine sfX8_pairBit  hW  (fun v3  hp5 => ?_)
        have q7 := i32_add x4 1 (by omega) (by omega)
        exact ih (x2 ||| (1 <<< (v3 &&& 31))) x3 (x4 + 1) (by omega) (by omega) (by omega) (by omega)
theorem lX8_pairsIn_4 {G : jdG} {n : Nat} {Z : jdL} {J : jdJ} {rc rs : Nat} {K : Int32 → jdI → jdJ → Prop}  {I : jdI} {x1 : Int32} (ht : zTies Z 13)  (hW : WX I)  (hK : ∀ (v : Int32), K v I J) : ∀ m : Nat, ∀ (x2 : Int32) (x3 : Int32), (0 ≤ x3.toInt ∧ x3.toInt ≤ 8) → (8) - x3.toInt < (m : Int) → Jd G mX8_pairsIn (jdFm G (qi Z K)) (n + 1) rc rs 4 [(0, .ref (gb G + 13)), (1, .int x1), (2, .int x2), (3, .int x3)] [] Z I J := by
  intro m
  induction m with
  | zero =>
    intro x2 x3 hx3 hm
    have hwI := WX_f hW
    omega
  | succ m ih =>
    intro x2 x3 hx3 hm
    have hwI := WX_f hW
    refine rX8_pairsIn_4 ht ?_
    refine ⟨fun hc1 => ?_, fun hc2 => ?_⟩
    · skip
      have q1 := i32_lo (I 13 6)
      have q2 := i32_lo x3
      have hc1 := Int32.le_iff_toInt_le.mp hc1
      exact hK _ 
    · skip
      have q1 := i32_lo (I 13 6)
      have q2 := i32_lo x3
      have hc2 := mt Int32.le_iff_toInt_le.mpr hc2
      have q3 : (0 : Int32).toInt = 0 := rfl
      exact lX8_pairsIn_15 ht  hW  hK ih (((x3.toInt) - (0 : Int32).toInt).toNat + 1) x2 x3 0 (by omega) (by omega) (by omega) (by omega)
theorem sfX8_pairsIn {G : jdG} {n : Nat} {Z : jdL} {J : jdJ} {K : Int32 → jdI → jdJ → Prop}  {I : jdI} {x1 : Int32} (ht : zTies Z 13)  (hW : WX I)  (hK : ∀ (v : Int32), K v I J) : Cl G mX8_pairsIn (n + 1) 0 0 [.ref (gb G + 13), .int x1] Z I J (qi Z K) := by
  refine eX8_pairsIn ht ?_
  have hwI := WX_f hW
  have q1 : (1 : Int32).toInt = 1 := rfl
  exact lX8_pairsIn_4 ht  hW  hK  (((8) - (1 : Int32).toInt).toNat + 1) 0 1 (by omega) (by omega)
theorem lX8_listPairs_4 {G : jdG} {n : Nat} {Z : jdL} {J : jdJ} {rc rs : Nat} {K : Int32 → jdI → jdJ → Prop}  {I0 : jdI} {x1 : Int32} (ht : zTies Z 13)   (hK : ∀ (v : Int32) (I2 : jdI), WX I2 → Fr (fun a k => 13 ≤ a ∧ a ≤ 19) I0 I2 → (0 ≤ v.toInt ∧ v.toInt ≤ 70) → K v I2 J) : ∀ m : Nat, ∀ (I : jdI) (x2 : Int32) (x3 : Int32), WX I → Fr (fun a k => 13 ≤ a ∧ a ≤ 19) I0 I → (0 ≤ x3.toInt ∧ x3.toInt ≤ (I 13 8).toInt) → (0 ≤ x2.toInt ∧ x2.toInt ≤ x3.toInt) → ((I 13 8).toInt) - x3.toInt < (m : Int) → Jd G mX8_listPairs (jdFm G (qi Z K)) (n + 2) rc rs 4 [(0, .ref (gb G + 13)), (1, .int x1), (2, .int x2), (3, .int x3)] [] Z I J := by
  intro m
  induction m with
  | zero =>
    intro I x2 x3 hW hF hx3 hx2 hm
    have hwI := WX_f hW
    omega
  | succ m ih =>
    intro I x2 x3 hW hF hx3 hx2 hm
    have hwI := WX_f hW
    refine rX8_listPairs_4 ht ?_
    refine ⟨fun hc1 => ?_, fun hc2 => ?_⟩
    · skip
      have q1 := i32_lo (I 13 8)
      have q2 := i32_lo x3
      have hc1 := Int32.le_iff_toInt_le.mp hc1
      have q3 := i32_lo x2
      exact hK _ _ hW hF (by omega)
    · skip
      have q1 := i32_lo (I 13 8)
      have q2 := i32_lo x3
      have hc2 := mt Int32.le_iff_toInt_le.mpr hc2
      refine ⟨vp_of (by omega) (by omega), ?_⟩
      refine ⟨vp_of (by omega) (by omega), ?_⟩
      refine ⟨fun hc3 => ?_, fun hc4 => ?_⟩
      · skip
        have q3 := i32_lo x1
        have hc3 : ¬ (((I (13 + 3) (Int32.toNatClampNeg x3)) &&& x1)).toInt = ((I (13 + 3) (Int32.toNatClampNeg x3))).toInt := fun z => hc3 (Int32.toInt_inj.mp z)
        have q4 := i32_lo x2
        have q5 : (1 : Int32).toInt = 1 := rfl
        have q6 := i32_add x3 1 (by omega) (by omega)
        exact ih _ x2 (x3 + 1) hW hF (by omega) (by omega) (by omega)
      · skip
        have q3 := i32_lo x1
        have hc4 := Int32.toInt_inj.mpr hc4
        refine ⟨vp_of (by omega) (by omega), ?_⟩
        refine sfX8_pairsIn ht hW  (fun v5  => ?_)
        have q4 := i32_lo x2
        refine ⟨vp_of (by omega) (by omega), ?_⟩
        have q5 : (1 : Int32).toInt = 1 := rfl
        have q6 := i32_add x2 1 (by omega) (by omega)
        have q7 := i32_add x3 1 (by omega) (by omega)
        have hr6 : (((uI I (13 + 4) (Int32.toNatClampNeg x2) v5)) 13 8).toInt = ((I) 13 8).toInt := by rw [uI_n _ _ _ (show 13 ≠ (13 + 4) by omega)]
        exact ih _ (x2 + 1) (x3 + 1) (WX_uI hW (by first | exact okXo (by decide) | (unfold okX; refine ⟨?_, ?_, ?_, ?_, ?_, ?_, ?_, ?_, ?_, ?_⟩ <;> intro h <;> omega))) (Fr_uI hF (by omega)) (by omega) (by omega) (by omega)
theorem sfX8_listPairs {G : jdG} {n : Nat} {Z : jdL} {J : jdJ} {K : Int32 → jdI → jdJ → Prop}  {I : jdI} {x1 : Int32} (ht : zTies Z 13)  (hW : WX I)  (hK : ∀ (v : Int32) (I2 : jdI), WX I2 → Fr (fun a k => 13 ≤ a ∧ a ≤ 19) I I2 → (0 ≤ v.toInt ∧ v.toInt ≤ 70) → K v I2 J) : Cl G mX8_listPairs (n + 2) 0 0 [.ref (gb G + 13), .int x1] Z I J (qi Z K) := by
  refine eX8_listPairs ht ?_
  have hwI := WX_f hW
  have q1 : (0 : Int32).toInt = 0 := rfl
  exact lX8_listPairs_4 ht   hK  ((((I 13 8).toInt) - (0 : Int32).toInt).toNat + 1) _ 0 0 hW Fr.rf (by omega) (by omega) (by omega)
theorem lX8_lengthen_37 {G : jdG} {n : Nat} {Z : jdL} {J : jdJ} {rc rs : Nat} {K : jdI → jdJ → Prop}  {I0 : jdI} {x1 : Int32} {x2 : Int32} {x3 : Int32} (ht : zTies Z 13)  (hx2 : 0 ≤ x2.toInt ∧ x2.toInt ≤ 70) (hK : ∀ (I2 : jdI), WX I2 → Fr (fun a k => 13 ≤ a ∧ a ≤ 19) I0 I2 → K I2 J) {d : Nat} (hR : ∀ (I : jdI) (K : jdI → jdJ → Prop) (x1 : Int32) (x2 : Int32) (x3 : Int32), WX I → (0 ≤ x2.toInt ∧ x2.toInt ≤ 70) → 0 ≤ 28 - x3.toInt ∧ 28 - x3.toInt < (d : Int) → (∀ (I2 : jdI), WX I2 → Fr (fun a k => 13 ≤ a ∧ a ≤ 19) I I2 → K I2 J) → Cl G mX8_lengthen (n + 0) 0 0 [.ref (gb G + 13), .int x1, .int x2, .int x3] Z I J (qv Z K)) : ∀ m : Nat, ∀ (I : jdI) (x4 : Int32) (x5 : Int32), WX I → Fr (fun a k => 13 ≤ a ∧ a ≤ 19) I0 I → (0 ≤ x5.toInt ∧ x5.toInt ≤ 70) → (0 ≤ 28 - x3.toInt ∧ 28 - x3.toInt ≤ (d : Int)) → (x3.toInt < 28) → (0 ≤ x2.toInt) → (70) - x5.toInt < (m : Int) → Jd G mX8_lengthen (jdFm G (qv Z K)) (n + 1) rc rs 37 [(0, .ref (gb G + 13)), (1, .int x1), (2, .int x2), (3, .int x3), (4, .int x4), (5, .int x5)] [] Z I J := by
  intro m
  induction m with
  | zero =>
    intro I x4 x5 hW hF hx5 hd hx3 hx2 hm
    have hwI := WX_f hW
    omega
  | succ m ih =>
    intro I x4 x5 hW hF hx5 hd hx3 hx2 hm
    have hwI := WX_f hW
    refine rX8_lengthen_37 ht ?_
    refine ⟨fun hc1 => ?_, fun hc2 => ?_⟩
    · skip
      have q1 := i32_lo (I 13 8)
      have q2 := i32_lo x5
      have hc1 := Int32.le_iff_toInt_le.mp hc1
      exact hK _ hW hF
    · skip
      have q1 := i32_lo (I 13 8)
      have q2 := i32_lo x5
      have hc2 := mt Int32.le_iff_toInt_le.mpr hc2
      refine sfJ6_bitCount_0f7a4  hW  (fun v2  hp3 => ?_)
      refine ⟨fun hc4 => ?_, fun hc5 => ?_⟩
      · skip
        have q3 := i32_lo (I 13 9)
        have q4 : (1 : Int32).toInt = 1 := rfl
        have q5 := i32_addI (I 13 9) 1
        have q6 := i32_lo x3
        have q7 := i32_subI ((I 13 9) + 1) x3
        have q8 := i32_lo x4
        have q9 := i32_lo v2
        have hc4 := Int32.le_iff_toInt_le.mp hc4
        refine ⟨vp_of (by omega) (by omega), ?_⟩
        refine ⟨vp_of (by omega) (by omega), ?_⟩
        refine ⟨fun hc6 => ?_, fun hc7 => ?_⟩
        · skip
          have q10 := i32_lo x1
          have hc6 : ¬ (((I (13 + 4) (Int32.toNatClampNeg x5)) &&& x1)).toInt = ((I (13 + 4) (Int32.toNatClampNeg x5))).toInt := fun z => hc6 (Int32.toInt_inj.mp z)
          have q11 := i32_add x5 1 (by omega) (by omega)
          exact ih _ x4 (x5 + 1) hW hF (by omega) (by omega) (by omega) (by omega) (by omega)
        · skip
          have q10 := i32_lo x1
          have hc7 := Int32.toInt_inj.mpr hc7
          refine ⟨vp_of (by omega) (by omega), ?_⟩
          have q11 := i32_add x5 1 (by omega) (by omega)
          have q12 := i32_add x3 1 (by omega) (by omega)
          refine hR _ _ _ _ _ hW (by omega) ⟨by omega, by omega⟩ (fun I6 hWI6 hFI6 => ?_)
          have hwI6 := WX_f hWI6
          exact ih _ x4 (x5 + 1) hWI6 (Fr.tr hF hFI6 (by intro a k h; omega)) (by omega) (by omega) (by omega) (by omega) (by omega)
      · skip
        have q3 := i32_lo (I 13 9)
        have q4 : (1 : Int32).toInt = 1 := rfl
        have q5 := i32_addI (I 13 9) 1
        have q6 := i32_lo x3
        have q7 := i32_subI ((I 13 9) + 1) x3
        have q8 := i32_lo x4
        have q9 := i32_lo v2
        have hc5 := mt Int32.le_iff_toInt_le.mpr hc5
        exact hK _ hW hF
theorem sbX8_lengthen {G : jdG} {n : Nat} {Z : jdL} {J : jdJ} {d : Nat}   (ht : zTies Z 13)  (hR : ∀ (I : jdI) (K : jdI → jdJ → Prop) (x1 : Int32) (x2 : Int32) (x3 : Int32), WX I → (0 ≤ x2.toInt ∧ x2.toInt ≤ 70) → 0 ≤ 28 - x3.toInt ∧ 28 - x3.toInt < (d : Int) → (∀ (I2 : jdI), WX I2 → Fr (fun a k => 13 ≤ a ∧ a ≤ 19) I I2 → K I2 J) → Cl G mX8_lengthen (n + 0) 0 0 [.ref (gb G + 13), .int x1, .int x2, .int x3] Z I J (qv Z K)) (I : jdI) (K : jdI → jdJ → Prop) (x1 : Int32) (x2 : Int32) (x3 : Int32) (hW : WX I) (hx2 : 0 ≤ x2.toInt ∧ x2.toInt ≤ 70) (hd : 0 ≤ 28 - x3.toInt ∧ 28 - x3.toInt ≤ (d : Int)) (hK : ∀ (I2 : jdI), WX I2 → Fr (fun a k => 13 ≤ a ∧ a ≤ 19) I I2 → K I2 J) : Cl G mX8_lengthen (n + 1) 0 0 [.ref (gb G + 13), .int x1, .int x2, .int x3] Z I J (qv Z K) := by
  refine eX8_lengthen ht ?_
  have hwI := WX_f hW
  refine ⟨fun hc1 => ?_, fun hc2 => ?_⟩
  · skip
    have q1 := i32_lo x3
    have q2 : (28 : Int32).toInt = 28 := rfl
    have hc1 := Int32.lt_iff_toInt_lt.mp hc1
    have q3 := i32_lo x2
    exact lX8_lengthen_37 ht  hx2 hK hR  (((70) - x2.toInt).toNat + 1) _ (((I 13 7) * ((I 13 7) - 1)) / 2) x2 (WX_uI hW (by first | exact okXo (by decide) | (unfold okX; refine ⟨?_, ?_, ?_, ?_, ?_, ?_, ?_, ?_, ?_, ?_⟩ <;> intro h <;> omega))) (Fr_uI Fr.rf (by omega)) (by omega) (by omega) (by omega) (by omega) (by omega)
  · skip
    have q1 := i32_lo x3
    have q2 : (28 : Int32).toInt = 28 := rfl
    have hc2 := mt Int32.lt_iff_toInt_lt.mpr hc2
    exact hK _ (WX_uI hW (by first | exact okXo (by decide) | (unfold okX; refine ⟨?_, ?_, ?_, ?_, ?_, ?_, ?_, ?_, ?_, ?_⟩ <;> intro h <;> omega))) (Fr_uI Fr.rf (by omega))
theorem srX8_lengthen {G : jdG} {Z : jdL} {J : jdJ}   (ht : zTies Z 13)  : ∀ d : Nat, ∀ (n : Nat) (I : jdI) (K : jdI → jdJ → Prop) (x1 : Int32) (x2 : Int32) (x3 : Int32), WX I → (0 ≤ x2.toInt ∧ x2.toInt ≤ 70) → 0 ≤ 28 - x3.toInt ∧ 28 - x3.toInt ≤ (d : Int) → (∀ (I2 : jdI), WX I2 → Fr (fun a k => 13 ≤ a ∧ a ≤ 19) I I2 → K I2 J) → Cl G mX8_lengthen (n + 0 + d + 1) 0 0 [.ref (gb G + 13), .int x1, .int x2, .int x3] Z I J (qv Z K) := by
  intro d
  induction d with
  | zero =>
    intro n
    exact sbX8_lengthen (n := n) (d := 0) ht (fun _ _ _ _ _ _ _ h _ => absurd h (by omega))
  | succ d ih =>
    intro n
    exact sbX8_lengthen (n := n + d + 1) (d := d + 1) ht (fun I K x1 x2 x3 hW hx2 h hK => by
      have e : n + d + 1 + 0 = n + 0 + d + 1 := by omega
      rw [e]
      exact ih n I K x1 x2 x3 hW hx2 ⟨h.1, by omega⟩ hK) |> (fun h => by
      have e : n + 0 + (d + 1) + 1 = n + d + 1 + 1 := by omega
      rw [e]
      exact h)
theorem sfX8_lengthen {G : jdG} {n : Nat} {Z : jdL} {J : jdJ} {K : jdI → jdJ → Prop}  {I : jdI} {x1 : Int32} {x2 : Int32} {x3 : Int32} (ht : zTies Z 13)  (hW : WX I) (hx2 : 0 ≤ x2.toInt ∧ x2.toInt ≤ 70) (hd : 0 ≤ 28 - x3.toInt ∧ 28 - x3.toInt ≤ 28) (hK : ∀ (I2 : jdI), WX I2 → Fr (fun a k => 13 ≤ a ∧ a ≤ 19) I I2 → K I2 J) : Cl G mX8_lengthen (n + 29) 0 0 [.ref (gb G + 13), .int x1, .int x2, .int x3] Z I J (qv Z K) :=
  srX8_lengthen ht 28 n I K x1 x2 x3 hW hx2 hd hK
theorem sfX8_longest {G : jdG} {n : Nat} {Z : jdL} {J : jdJ} {K : Int32 → jdI → jdJ → Prop}  {I : jdI}  (ht : zTies Z 13)  (hW : WX I)  (hK : ∀ (v : Int32) (I2 : jdI), WX I2 → Fr (fun a k => 13 ≤ a ∧ a ≤ 19) I I2 → K v I2 J) : Cl G mX8_longest (n + 30) 0 0 [.ref (gb G + 13)] Z I J (qi Z K) := by
  refine eX8_longest ht ?_
  have hwI := WX_f hW
  refine ⟨fun hc1 => ?_, fun hc2 => ?_⟩
  · skip
    have q1 := i32_lo (I 13 7)
    have q2 : (2 : Int32).toInt = 2 := rfl
    have hc1 : ¬ ((I 13 7)).toInt = (2 : Int32).toInt := fun z => hc1 (Int32.toInt_inj.mp z)
    refine sfX8_everybody ht hW  (fun v2  hp3 => ?_)
    refine sfX8_listPairs ht hW  (fun v4 I3 hWI3 hFI3 hp4 => ?_)
    have hwI3 := WX_f hWI3
    refine sfX8_everybody ht (WX_uI hWI3 (by first | exact okXo (by decide) | (unfold okX; refine ⟨?_, ?_, ?_, ?_, ?_, ?_, ?_, ?_, ?_, ?_⟩ <;> intro h <;> omega)))  (fun v6  hp5 => ?_)
    refine sfX8_pairsIn ht (WX_uI hWI3 (by first | exact okXo (by decide) | (unfold okX; refine ⟨?_, ?_, ?_, ?_, ?_, ?_, ?_, ?_, ?_, ?_⟩ <;> intro h <;> omega)))  (fun v8  => ?_)
    have q3 : (0 : Int32).toInt = 0 := rfl
    refine sfX8_lengthen ht (WX_uI hWI3 (by first | exact okXo (by decide) | (unfold okX; refine ⟨?_, ?_, ?_, ?_, ?_, ?_, ?_, ?_, ?_, ?_⟩ <;> intro h <;> omega))) (by omega) ⟨by omega, by omega⟩ (fun I9 hWI9 hFI9 => ?_)
    have hwI9 := WX_f hWI9
    exact hK _ _ hWI9 (Fr.tr (Fr_uI (Fr.tr Fr.rf hFI3 (by intro a k h; omega)) (by omega)) hFI9 (by intro a k h; omega))
  · skip
    have q1 := i32_lo (I 13 7)
    have q2 : (2 : Int32).toInt = 2 := rfl
    have hc2 := Int32.toInt_inj.mpr hc2
    exact hK _ _ hW Fr.rf
theorem lX8_finish_34 {G : jdG} {n : Nat} {Z : jdL} {J : jdJ} {rc rs : Nat} {K : jdI → jdJ → Prop}  {I0 : jdI} {x1 : Int32} {y2 : Int64} {x4 : Int32} (ht : zTies Z 13)   (hK : ∀ (I2 : jdI), WX I2 → Fr (fun a k => 13 ≤ a ∧ a ≤ 19) I0 I2 → ((I2 13 9).toInt ≤ 28) → K I2 J) {d : Nat} (hR : ∀ (I : jdI) (K : jdI → jdJ → Prop) (x1 : Int32) (y2 : Int64) (x4 : Int32), WX I → ((I 13 9).toInt ≤ 28) → 0 ≤ 28 - x4.toInt ∧ 28 - x4.toInt < (d : Int) → (∀ (I2 : jdI), WX I2 → Fr (fun a k => 13 ≤ a ∧ a ≤ 19) I I2 → ((I2 13 9).toInt ≤ 28) → K I2 J) → Cl G mX8_finish (n + 0) 0 0 [.ref (gb G + 13), .int x1, .long y2, .int x4] Z I J (qv Z K)) : ∀ m : Nat, ∀ (I : jdI) (x5 : Int32) (y6 : Int64) (x8 : Int32), WX I → Fr (fun a k => 13 ≤ a ∧ a ≤ 19) I0 I → (0 ≤ x8.toInt ∧ x8.toInt ≤ 70) → (0 ≤ x5.toInt ∧ x5.toInt < 70) → (0 ≤ 28 - x4.toInt ∧ 28 - x4.toInt ≤ (d : Int)) → ((I 13 9).toInt ≤ 28) → 70 - x8.toInt < (m : Int) → Jd G mX8_finish (jdFm G (qv Z K)) (n + 1) rc rs 34 [(0, .ref (gb G + 13)), (1, .int x1), (2, .long y2), (4, .int x4), (5, .int x5), (6, .long y6), (8, .int x8)] [] Z I J := by
  intro m
  induction m with
  | zero =>
    intro I x5 y6 x8 hW hF hx8 hx5 hd hb hm
    have hwI := WX_f hW
    omega
  | succ m ih =>
    intro I x5 y6 x8 hW hF hx8 hx5 hd hb hm
    have hwI := WX_f hW
    refine rX8_finish_34 ht ?_
    refine ⟨fun hc1 => ?_, fun hc2 => ?_⟩
    · skip
      have q1 := i32_lo (I 13 8)
      have q2 := i32_lo x8
      have hc1 := Int32.le_iff_toInt_le.mp hc1
      exact hK _ hW hF (by omega)
    · skip
      have q1 := i32_lo (I 13 8)
      have q2 := i32_lo x8
      have hc2 := mt Int32.le_iff_toInt_le.mpr hc2
      refine ⟨fun hc3 => ?_, fun hc4 => ?_⟩
      · skip
        have q3 := i32_lo (I 13 9)
        have q4 := i32_lo x4
        have q5 : (1 : Int32).toInt = 1 := rfl
        have q6 := i32_addI x4 1
        have hc3 := Int32.le_iff_toInt_le.mp hc3
        exact hK _ hW hF (by omega)
      · skip
        have q3 := i32_lo (I 13 9)
        have q4 := i32_lo x4
        have q5 : (1 : Int32).toInt = 1 := rfl
        have q6 := i32_addI x4 1
        have hc4 := mt Int32.le_iff_toInt_le.mpr hc4
        refine ⟨vp_of (by omega) (by omega), ?_⟩
        have q7 := i32_lo x5
        refine ⟨vp_of (by omega) (by omega), ?_⟩
        refine ⟨fun hc5 => ?_, fun hc6 => ?_⟩
        · skip
          have q8 : (0 : Int32).toInt = 0 := rfl
          have hc5 := Int32.toInt_inj.mpr hc5
          have q9 := i32_add x8 1 (by omega) (by omega)
          exact ih _ x5 y6 (x8 + 1) hW hF (by omega) (by omega) (by omega) (by omega) (by omega)
        · skip
          have q8 : (0 : Int32).toInt = 0 := rfl
          have hc6 : ¬ (((I (13 + 4) (Int32.toNatClampNeg x8)) &&& (I (13 + 4) (Int32.toNatClampNeg x5)))).toInt = (0 : Int32).toInt := fun z => hc6 (Int32.toInt_inj.mp z)
          refine ⟨vp_of (by omega) (by omega), ?_⟩
          refine ⟨vp_of (by omega) (by omega), ?_⟩
          refine ⟨fun hc7 => ?_, fun hc8 => ?_⟩
          · skip
            have q9 := i32_lo x1
            have hc7 : ¬ (((I (13 + 4) (Int32.toNatClampNeg x8)) &&& x1)).toInt = ((I (13 + 4) (Int32.toNatClampNeg x8))).toInt := fun z => hc7 (Int32.toInt_inj.mp z)
            have q10 := i32_add x8 1 (by omega) (by omega)
            exact ih _ x5 y6 (x8 + 1) hW hF (by omega) (by omega) (by omega) (by omega) (by omega)
          · skip
            have q9 := i32_lo x1
            have hc8 := Int32.toInt_inj.mpr hc8
            refine ⟨fun hc9 => ?_, fun hc10 => ?_⟩
            · skip
              have q10 := i32_add x8 1 (by omega) (by omega)
              exact ih _ x5 y6 (x8 + 1) hW hF (by omega) (by omega) (by omega) (by omega) (by omega)
            · skip
              refine ⟨vp_of (by omega) (by omega), ?_⟩
              refine hR _ _ _ _ _ hW (by omega) ⟨by omega, by omega⟩ (fun I6 hWI6 hFI6 hp11 => ?_)
              have hwI6 := WX_f hWI6
              have q10 := i32_add x8 1 (by omega) (by omega)
              exact ih _ x5 (y6 ||| (1 <<< (Int32.toInt64 x8 &&& 63))) (x8 + 1) hWI6 (Fr.tr hF hFI6 (by intro a k h; omega)) (by omega) (by omega) (by omega) (by omega) (by omega)
theorem sbX8_finish {G : jdG} {n : Nat} {Z : jdL} {J : jdJ} {d : Nat}   (ht : zTies Z 13)  (hR : ∀ (I : jdI) (K : jdI → jdJ → Prop) (x1 : Int32) (y2 : Int64) (x4 : Int32), WX I → ((I 13 9).toInt ≤ 28) → 0 ≤ 28 - x4.toInt ∧ 28 - x4.toInt < (d : Int) → (∀ (I2 : jdI), WX I2 → Fr (fun a k => 13 ≤ a ∧ a ≤ 19) I I2 → ((I2 13 9).toInt ≤ 28) → K I2 J) → Cl G mX8_finish (n + 0) 0 0 [.ref (gb G + 13), .int x1, .long y2, .int x4] Z I J (qv Z K)) (I : jdI) (K : jdI → jdJ → Prop) (x1 : Int32) (y2 : Int64) (x4 : Int32) (hW : WX I) (hb : (I 13 9).toInt ≤ 28) (hd : 0 ≤ 28 - x4.toInt ∧ 28 - x4.toInt ≤ (d : Int)) (hK : ∀ (I2 : jdI), WX I2 → Fr (fun a k => 13 ≤ a ∧ a ≤ 19) I I2 → ((I2 13 9).toInt ≤ 28) → K I2 J) : Cl G mX8_finish (n + 1) 0 0 [.ref (gb G + 13), .int x1, .long y2, .int x4] Z I J (qv Z K) := by
  refine eX8_finish ht ?_
  have hwI := WX_f hW
  refine sfX8_firstPossible ht hW  (fun v2  hp1 => ?_)
  refine ⟨fun hc2 => ?_, fun hc3 => ?_⟩
  · skip
    have q1 := i32_lo v2
    have q2 : (-1 : Int32).toInt = -1 := rfl
    have hc2 : ¬ (v2).toInt = ((-1) : Int32).toInt := fun z => hc2 (Int32.toInt_inj.mp z)
    exact lX8_finish_34 ht   hK hR  ((70 - v2.toInt).toNat + 1) _ v2 y2 v2 hW Fr.rf (by omega) (by omega) (by omega) (by omega) (by omega)
  · skip
    have q1 := i32_lo v2
    have q2 : (-1 : Int32).toInt = -1 := rfl
    have hc3 := Int32.toInt_inj.mpr hc3
    have hr4 : (((uI I 13 9 (if x4 < (I 13 9) then x4 else (I 13 9)))) 13 9).toInt = ((if x4 < (I 13 9) then x4 else (I 13 9))).toInt := congrArg Int32.toInt (uI_ss _ _ _ _)
    have q3 := i32_lo x4
    have q4 := i32_lo (I 13 9)
    have q5 := i32_sel x4 (I 13 9) x4 (I 13 9)
    exact hK _ (WX_uI hW (by first | exact okXo (by decide) | (unfold okX; refine ⟨?_, ?_, ?_, ?_, ?_, ?_, ?_, ?_, ?_, ?_⟩ <;> intro h <;> omega))) (Fr_uI Fr.rf (by omega)) (by omega)
theorem srX8_finish {G : jdG} {Z : jdL} {J : jdJ}   (ht : zTies Z 13)  : ∀ d : Nat, ∀ (n : Nat) (I : jdI) (K : jdI → jdJ → Prop) (x1 : Int32) (y2 : Int64) (x4 : Int32), WX I → ((I 13 9).toInt ≤ 28) → 0 ≤ 28 - x4.toInt ∧ 28 - x4.toInt ≤ (d : Int) → (∀ (I2 : jdI), WX I2 → Fr (fun a k => 13 ≤ a ∧ a ≤ 19) I I2 → ((I2 13 9).toInt ≤ 28) → K I2 J) → Cl G mX8_finish (n + 0 + d + 1) 0 0 [.ref (gb G + 13), .int x1, .long y2, .int x4] Z I J (qv Z K) := by
  intro d
  induction d with
  | zero =>
    intro n
    exact sbX8_finish (n := n) (d := 0) ht (fun _ _ _ _ _ _ _ h _ => absurd h (by omega))
  | succ d ih =>
    intro n
    exact sbX8_finish (n := n + d + 1) (d := d + 1) ht (fun I K x1 y2 x4 hW hb h hK => by
      have e : n + d + 1 + 0 = n + 0 + d + 1 := by omega
      rw [e]
      exact ih n I K x1 y2 x4 hW hb ⟨h.1, by omega⟩ hK) |> (fun h => by
      have e : n + 0 + (d + 1) + 1 = n + d + 1 + 1 := by omega
      rw [e]
      exact h)
theorem sfX8_finish {G : jdG} {n : Nat} {Z : jdL} {J : jdJ} {K : jdI → jdJ → Prop}  {I : jdI} {x1 : Int32} {y2 : Int64} {x4 : Int32} (ht : zTies Z 13)  (hW : WX I) (hb : (I 13 9).toInt ≤ 28) (hd : 0 ≤ 28 - x4.toInt ∧ 28 - x4.toInt ≤ 28) (hK : ∀ (I2 : jdI), WX I2 → Fr (fun a k => 13 ≤ a ∧ a ≤ 19) I I2 → ((I2 13 9).toInt ≤ 28) → K I2 J) : Cl G mX8_finish (n + 29) 0 0 [.ref (gb G + 13), .int x1, .long y2, .int x4] Z I J (qv Z K) :=
  srX8_finish ht 28 n I K x1 y2 x4 hW hb hd hK
theorem sfX8_soonest {G : jdG} {n : Nat} {Z : jdL} {J : jdJ} {K : Int32 → jdI → jdJ → Prop}  {I : jdI}  (ht : zTies Z 13)  (hW : WX I)  (hK : ∀ (v : Int32) (I2 : jdI), WX I2 → Fr (fun a k => 13 ≤ a ∧ a ≤ 19) I I2 → K v I2 J) : Cl G mX8_soonest (n + 30) 0 0 [.ref (gb G + 13)] Z I J (qi Z K) := by
  refine eX8_soonest ht ?_
  have hwI := WX_f hW
  refine ⟨fun hc1 => ?_, fun hc2 => ?_⟩
  · skip
    have q1 := i32_lo (I 13 7)
    have q2 : (2 : Int32).toInt = 2 := rfl
    have hc1 : ¬ ((I 13 7)).toInt = (2 : Int32).toInt := fun z => hc1 (Int32.toInt_inj.mp z)
    refine sfX8_everybody ht hW  (fun v2  hp3 => ?_)
    refine sfX8_listPairs ht hW  (fun v4 I3 hWI3 hFI3 hp4 => ?_)
    have hwI3 := WX_f hWI3
    refine sfX8_everybody ht (WX_uI hWI3 (by first | exact okXo (by decide) | (unfold okX; refine ⟨?_, ?_, ?_, ?_, ?_, ?_, ?_, ?_, ?_, ?_⟩ <;> intro h <;> omega)))  (fun v6  hp5 => ?_)
    refine sfX8_pairsIn ht (WX_uI hWI3 (by first | exact okXo (by decide) | (unfold okX; refine ⟨?_, ?_, ?_, ?_, ?_, ?_, ?_, ?_, ?_, ?_⟩ <;> intro h <;> omega)))  (fun v8  => ?_)
    have q3 : (0 : Int32).toInt = 0 := rfl
    have hr8 : (((uI I3 13 9 28)) 13 9).toInt = ((28 : Int32)).toInt := congrArg Int32.toInt (uI_ss _ _ _ _)
    have q4 : (28 : Int32).toInt = 28 := rfl
    refine sfX8_finish ht (WX_uI hWI3 (by first | exact okXo (by decide) | (unfold okX; refine ⟨?_, ?_, ?_, ?_, ?_, ?_, ?_, ?_, ?_, ?_⟩ <;> intro h <;> omega))) (by omega) ⟨by omega, by omega⟩ (fun I9 hWI9 hFI9 hp7 => ?_)
    have hwI9 := WX_f hWI9
    exact hK _ _ hWI9 (Fr.tr (Fr_uI (Fr.tr Fr.rf hFI3 (by intro a k h; omega)) (by omega)) hFI9 (by intro a k h; omega))
  · skip
    have q1 := i32_lo (I 13 7)
    have q2 : (2 : Int32).toInt = 2 := rfl
    have hc2 := Int32.toInt_inj.mpr hc2
    exact hK _ _ hW Fr.rf
theorem lX8_countWays_50 {G : jdG} {n : Nat} {Z : jdL} {J : jdJ} {rc rs : Nat} {K : Int32 → jdI → jdJ → Prop}  {I0 : jdI} {x1 : Int32} (ht : zTies Z 13)   (hK : ∀ (v : Int32) (I2 : jdI), WX I2 → Fr (fun a k => 13 ≤ a ∧ a ≤ 19) I0 I2 → K v I2 J) : ∀ m : Nat, ∀ (I : jdI) (x2 : Int32) (x3 : Int32) (x4 : Int32) (x5 : Int32) (x6 : Int32) (x7 : Int32), WX I → Fr (fun a k => 13 ≤ a ∧ a ≤ 19) I0 I → (0 ≤ x7.toInt ∧ x7.toInt ≤ 2147483647) → (0 ≤ x2.toInt ∧ x2.toInt ≤ 70) → 2147483647 - x7.toInt < (m : Int) → Jd G mX8_countWays (jdFm G (qi Z K)) (n + 3) rc rs 50 [(0, .ref (gb G + 13)), (1, .int x1), (2, .int x2), (3, .int x3), (4, .int x4), (5, .int x5), (6, .int x6), (7, .int x7)] [] Z I J := by
  intro m
  induction m with
  | zero =>
    intro I x2 x3 x4 x5 x6 x7 hW hF hx7 hx2 hm
    have hwI := WX_f hW
    omega
  | succ m ih =>
    intro I x2 x3 x4 x5 x6 x7 hW hF hx7 hx2 hm
    have hwI := WX_f hW
    refine rX8_countWays_50 ht ?_
    refine ⟨fun hc1 => ?_, fun hc2 => ?_⟩
    · skip
      have q1 := i32_lo x4
      have q2 := i32_lo x7
      have hc1 := Int32.le_iff_toInt_le.mp hc1
      exact hK _ _ hW hF
    · skip
      have q1 := i32_lo x4
      have q2 := i32_lo x7
      have hc2 := mt Int32.le_iff_toInt_le.mpr hc2
      have q3 := i32_lo x2
      refine sfX8_breaksAll ht hW (by omega) (fun v2  => ?_)
      refine ⟨fun hc4 => ?_, fun hc5 => ?_⟩
      · skip
        have q4 := i32_lo v2
        have q5 : (0 : Int32).toInt = 0 := rfl
        have hc4 := Int32.toInt_inj.mpr hc4
        have q6 : (1 : Int32).toInt = 1 := rfl
        have q7 := i32_add x7 1 (by omega) (by omega)
        exact ih _ x2 x3 x4 x5 ((x6 - x3) &&& x3) (x7 + 1) hW hF (by omega) (by omega) (by omega)
      · skip
        have q4 := i32_lo v2
        have q5 : (0 : Int32).toInt = 0 := rfl
        have hc5 : ¬ (v2).toInt = (0 : Int32).toInt := fun z => hc5 (Int32.toInt_inj.mp z)
        refine sfX8_tally ht hW  (fun I3 hWI3 hFI3 => ?_)
        have hwI3 := WX_f hWI3
        have q6 : (1 : Int32).toInt = 1 := rfl
        have q7 := i32_add x7 1 (by omega) (by omega)
        exact ih _ x2 x3 x4 (x5 + 1) ((x6 - x3) &&& x3) (x7 + 1) hWI3 (Fr.tr hF hFI3 (by intro a k h; omega)) (by omega) (by omega) (by omega)
theorem lX8_countWays_2 {G : jdG} {n : Nat} {Z : jdL} {J : jdJ} {rc rs : Nat} {K : Int32 → jdI → jdJ → Prop}  {I0 : jdI} {x1 : Int32} (ht : zTies Z 13)   (hK : ∀ (v : Int32) (I2 : jdI), WX I2 → Fr (fun a k => 13 ≤ a ∧ a ≤ 19) I0 I2 → K v I2 J) : ∀ m : Nat, ∀ (I : jdI) (x2 : Int32), WX I → Fr (fun a k => 13 ≤ a ∧ a ≤ 19) I0 I → (0 ≤ x2.toInt ∧ x2.toInt ≤ 28) → (28) - x2.toInt < (m : Int) → Jd G mX8_countWays (jdFm G (qi Z K)) (n + 3) rc rs 2 [(0, .ref (gb G + 13)), (1, .int x1), (2, .int x2)] [] Z I J := by
  intro m
  induction m with
  | zero =>
    intro I x2 hW hF hx2 hm
    have hwI := WX_f hW
    omega
  | succ m ih =>
    intro I x2 hW hF hx2 hm
    have hwI := WX_f hW
    refine rX8_countWays_2 ht ?_
    refine ⟨fun hc1 => ?_, fun hc2 => ?_⟩
    · skip
      have q1 : (28 : Int32).toInt = 28 := rfl
      have q2 := i32_lo x2
      have hc1 := Int32.le_iff_toInt_le.mp hc1
      refine sfX8_listPairs ht hW  (fun v2 I1 hWI1 hFI1 hp3 => ?_)
      have hwI1 := WX_f hWI1
      refine sfX8_pairsIn ht hWI1  (fun v4  => ?_)
      refine sfJ6_bitCount_0f7a4  hWI1  (fun v6  hp5 => ?_)
      have q3 := i32_lo v2
      have q4 : (0 : Int32).toInt = 0 := rfl
      exact lX8_countWays_50 ht   hK  ((2147483647 - (0 : Int32).toInt).toNat + 1) _ v2 v4 (1 <<< (v6 &&& 31)) 0 0 0 hWI1 (Fr.tr hF hFI1 (by intro a k h; omega)) (by omega) (by omega) (by omega)
    · skip
      have q1 : (28 : Int32).toInt = 28 := rfl
      have q2 := i32_lo x2
      have hc2 := mt Int32.le_iff_toInt_le.mpr hc2
      refine ⟨vp_of (by omega) (by omega), ?_⟩
      have q3 : (1 : Int32).toInt = 1 := rfl
      have q4 := i32_add x2 1 (by omega) (by omega)
      exact ih _ (x2 + 1) (WX_uI hW (by first | exact okXo (by decide) | (unfold okX; refine ⟨?_, ?_, ?_, ?_, ?_, ?_, ?_, ?_, ?_, ?_⟩ <;> intro h <;> omega))) (Fr_uI hF (by omega)) (by omega) (by omega)
theorem sfX8_countWays {G : jdG} {n : Nat} {Z : jdL} {J : jdJ} {K : Int32 → jdI → jdJ → Prop}  {I : jdI} {x1 : Int32} (ht : zTies Z 13)  (hW : WX I)  (hK : ∀ (v : Int32) (I2 : jdI), WX I2 → Fr (fun a k => 13 ≤ a ∧ a ≤ 19) I I2 → K v I2 J) : Cl G mX8_countWays (n + 3) 0 0 [.ref (gb G + 13), .int x1] Z I J (qi Z K) := by
  refine eX8_countWays ht ?_
  have hwI := WX_f hW
  have q1 : (0 : Int32).toInt = 0 := rfl
  exact lX8_countWays_2 ht   hK  (((28) - (0 : Int32).toInt).toNat + 1) _ 0 hW Fr.rf (by omega) (by omega)
theorem lX8_surest_35 {G : jdG} {n : Nat} {Z : jdL} {J : jdJ} {rc rs : Nat} {K : Int32 → jdI → jdJ → Prop}  {I0 : jdI} {mo20 : Nat} {x1 : Int32} (ht : zTies Z 13)   (hK : ∀ (v : Int32) (I2 : jdI), WX I2 → Fr (fun a k => 13 ≤ a ∧ a ≤ 19) I0 I2 → K v I2 J) (hO20 : ∀ (I : jdI) (x2 : Int32) (x3 : Int32) (x4 : Int32) (x5 : Int32), WX I → Fr (fun a k => 13 ≤ a ∧ a ≤ 19) I0 I → (0 ≤ x5.toInt ∧ x5.toInt ≤ 8) → (8) - x5.toInt < (mo20 : Int) → Jd G mX8_surest (jdFm G (qi Z K)) (n + 4) rc rs 20 [(0, .ref (gb G + 13)), (1, .int x1), (2, .int x2), (3, .int x3), (4, .int x4), (5, .int x5)] [] Z I J) : ∀ m : Nat, ∀ (I : jdI) (x2 : Int32) (x3 : Int32) (x4 : Int32) (x5 : Int32) (x6 : Int32), WX I → Fr (fun a k => 13 ≤ a ∧ a ≤ 19) I0 I → (0 ≤ x6.toInt ∧ x6.toInt ≤ 8) → (0 ≤ x5.toInt ∧ x5.toInt < x6.toInt) → (8) - x5.toInt ≤ (mo20 : Int) → (8) - x6.toInt < (m : Int) → Jd G mX8_surest (jdFm G (qi Z K)) (n + 4) rc rs 35 [(0, .ref (gb G + 13)), (1, .int x1), (2, .int x2), (3, .int x3), (4, .int x4), (5, .int x5), (6, .int x6)] [] Z I J := by
  intro m
  induction m with
  | zero =>
    intro I x2 x3 x4 x5 x6 hW hF hx6 hx5 hmo20 hm
    have hwI := WX_f hW
    omega
  | succ m ih =>
    intro I x2 x3 x4 x5 x6 hW hF hx6 hx5 hmo20 hm
    have hwI := WX_f hW
    refine rX8_surest_35 ht ?_
    refine ⟨fun hc1 => ?_, fun hc2 => ?_⟩
    · skip
      have q1 := i32_lo (I 13 6)
      have q2 := i32_lo x6
      have hc1 := Int32.le_iff_toInt_le.mp hc1
      have q3 := i32_lo x5
      have q4 : (1 : Int32).toInt = 1 := rfl
      have q5 := i32_add x5 1 (by omega) (by omega)
      exact hO20 _ x2 x3 x4 (x5 + 1) hW hF (by omega) (by omega)
    · skip
      have q1 := i32_lo (I 13 6)
      have q2 := i32_lo x6
      have hc2 := mt Int32.le_iff_toInt_le.mpr hc2
      have q3 := i32_lo x5
      refine sfX8_pairBit  hW  (fun v2  hp3 => ?_)
      refine ⟨fun hc4 => ?_, fun hc5 => ?_⟩
      · skip
        have q4 := i32_lo x2
        have q5 := i32_lo v2
        have q6 : (31 : Int32).toInt = 31 := rfl
        have q7 : (1 : Int32).toInt = 1 := rfl
        have q8 : (0 : Int32).toInt = 0 := rfl
        have hc4 := Int32.toInt_inj.mpr hc4
        have q9 := i32_add x6 1 (by omega) (by omega)
        exact ih _ x2 x3 x4 x5 (x6 + 1) hW hF (by omega) (by omega) (by omega) (by omega)
      · skip
        have q4 := i32_lo x2
        have q5 := i32_lo v2
        have q6 : (31 : Int32).toInt = 31 := rfl
        have q7 : (1 : Int32).toInt = 1 := rfl
        have q8 : (0 : Int32).toInt = 0 := rfl
        have hc5 : ¬ (((x2 >>> (v2 &&& 31)) &&& 1)).toInt = (0 : Int32).toInt := fun z => hc5 (Int32.toInt_inj.mp z)
        refine ⟨vp_of (by omega) (by omega), ?_⟩
        refine ⟨fun hc6 => ?_, fun hc7 => ?_⟩
        · skip
          have q9 := i32_lo x4
          have hc6 := Int32.le_iff_toInt_le.mp hc6
          have q10 := i32_add x6 1 (by omega) (by omega)
          exact ih _ x2 x3 x4 x5 (x6 + 1) hW hF (by omega) (by omega) (by omega) (by omega)
        · skip
          have q9 := i32_lo x4
          have hc7 := mt Int32.le_iff_toInt_le.mpr hc7
          refine ⟨vp_of (by omega) (by omega), ?_⟩
          have q10 := i32_add x6 1 (by omega) (by omega)
          exact ih _ x2 ((10 * x5) + x6) (I (13 + 6) (Int32.toNatClampNeg v2)) x5 (x6 + 1) hW hF (by omega) (by omega) (by omega) (by omega)
theorem lX8_surest_20 {G : jdG} {n : Nat} {Z : jdL} {J : jdJ} {rc rs : Nat} {K : Int32 → jdI → jdJ → Prop}  {I0 : jdI} {x1 : Int32} (ht : zTies Z 13)   (hK : ∀ (v : Int32) (I2 : jdI), WX I2 → Fr (fun a k => 13 ≤ a ∧ a ≤ 19) I0 I2 → K v I2 J) : ∀ m : Nat, ∀ (I : jdI) (x2 : Int32) (x3 : Int32) (x4 : Int32) (x5 : Int32), WX I → Fr (fun a k => 13 ≤ a ∧ a ≤ 19) I0 I → (0 ≤ x5.toInt ∧ x5.toInt ≤ 8) → (8) - x5.toInt < (m : Int) → Jd G mX8_surest (jdFm G (qi Z K)) (n + 4) rc rs 20 [(0, .ref (gb G + 13)), (1, .int x1), (2, .int x2), (3, .int x3), (4, .int x4), (5, .int x5)] [] Z I J := by
  intro m
  induction m with
  | zero =>
    intro I x2 x3 x4 x5 hW hF hx5 hm
    have hwI := WX_f hW
    omega
  | succ m ih =>
    intro I x2 x3 x4 x5 hW hF hx5 hm
    have hwI := WX_f hW
    refine rX8_surest_20 ht ?_
    refine ⟨fun hc1 => ?_, fun hc2 => ?_⟩
    · skip
      have q1 := i32_lo (I 13 6)
      have q2 := i32_lo x5
      have hc1 := Int32.le_iff_toInt_le.mp hc1
      exact hK _ _ hW hF
    · skip
      have q1 := i32_lo (I 13 6)
      have q2 := i32_lo x5
      have hc2 := mt Int32.le_iff_toInt_le.mpr hc2
      have q3 : (1 : Int32).toInt = 1 := rfl
      have q4 := i32_add x5 1 (by omega) (by omega)
      exact lX8_surest_35 ht   hK ih (((8) - (x5 + 1).toInt).toNat + 1) _ x2 x3 x4 x5 (x5 + 1) hW hF (by omega) (by omega) (by omega) (by omega)
theorem sfX8_surest {G : jdG} {n : Nat} {Z : jdL} {J : jdJ} {K : Int32 → jdI → jdJ → Prop}  {I : jdI} {x1 : Int32} (ht : zTies Z 13)  (hW : WX I)  (hK : ∀ (v : Int32) (I2 : jdI), WX I2 → Fr (fun a k => 13 ≤ a ∧ a ≤ 19) I I2 → K v I2 J) : Cl G mX8_surest (n + 4) 0 0 [.ref (gb G + 13), .int x1] Z I J (qi Z K) := by
  refine eX8_surest ht ?_
  have hwI := WX_f hW
  refine sfX8_countWays ht hW  (fun v2 I1 hWI1 hFI1 => ?_)
  have hwI1 := WX_f hWI1
  refine sfX8_pairsIn ht hWI1  (fun v4  => ?_)
  have q1 : (0 : Int32).toInt = 0 := rfl
  exact lX8_surest_20 ht   hK  (((8) - (0 : Int32).toInt).toNat + 1) _ v4 (-1) (-1) 0 hWI1 (Fr.tr Fr.rf hFI1 (by intro a k h; omega)) (by omega) (by omega)
theorem sfX9_has {G : jdG} {n : Nat} {Z : jdL} {J : jdJ} {K : Int32 → jdI → jdJ → Prop}  {I : jdI} {t : Nat} {x1 : Int32} (ht : zTown Z t) (hts : (t = 1 ∨ t = 5 ∨ t = 9)) (hW : WX I)  (hK : ∀ (v : Int32), ((v.toInt = 1 ∧ 0 ≤ x1.toInt ∧ x1.toInt < (I t 3).toInt) ∨ (v.toInt = 0 ∧ ¬ (0 ≤ x1.toInt ∧ x1.toInt < (I t 3).toInt))) → K v I J) : Cl G mX9_has n 0 0 [.ref (gb G + t), .int x1] Z I J (qi Z K) := by
  refine eX9_has ht ?_
  have hwI := WX_f hW
  have hptI := WX_town hW hts
  refine ⟨fun hc1 => ?_, fun hc2 => ?_⟩
  · skip
    have q1 := i32_lo x1
    have q2 : (0 : Int32).toInt = 0 := rfl
    have hc1 := Int32.lt_iff_toInt_lt.mp hc1
    exact hK _  (by omega)
  · skip
    have q1 := i32_lo x1
    have q2 : (0 : Int32).toInt = 0 := rfl
    have hc2 := mt Int32.lt_iff_toInt_lt.mpr hc2
    refine ⟨fun hc3 => ?_, fun hc4 => ?_⟩
    · skip
      have q3 := i32_lo (I t 3)
      have hc3 := Int32.le_iff_toInt_le.mp hc3
      exact hK _  (by omega)
    · skip
      have q3 := i32_lo (I t 3)
      have hc4 := mt Int32.le_iff_toInt_le.mpr hc4
      have q4 : (1 : Int32).toInt = 1 := rfl
      exact hK _  (by omega)
theorem sfX9_hasTwo {G : jdG} {n : Nat} {Z : jdL} {J : jdJ} {K : Int32 → jdI → jdJ → Prop}  {I : jdI} {t : Nat} {x1 : Int32} {x2 : Int32} (ht : zTown Z t) (hts : (t = 1 ∨ t = 5 ∨ t = 9)) (hW : WX I)  (hK : ∀ (v : Int32), ((v.toInt = 1 ∧ (0 ≤ x1.toInt ∧ x1.toInt < (I t 3).toInt) ∧ (0 ≤ x2.toInt ∧ x2.toInt < (I t 3).toInt) ∧ ¬ x1.toInt = x2.toInt) ∨ (v.toInt = 0 ∧ ¬ ((0 ≤ x1.toInt ∧ x1.toInt < (I t 3).toInt) ∧ (0 ≤ x2.toInt ∧ x2.toInt < (I t 3).toInt) ∧ ¬ x1.toInt = x2.toInt))) → K v I J) : Cl G mX9_hasTwo (n + 1) 0 0 [.ref (gb G + t), .int x1, .int x2] Z I J (qi Z K) := by
  refine eX9_hasTwo ht ?_
  have hwI := WX_f hW
  have hptI := WX_town hW hts
  have q1 := i32_lo x1
  refine sfX9_has ht hts hW  (fun v2  hp1 => ?_)
  refine ⟨fun hc2 => ?_, fun hc3 => ?_⟩
  · skip
    have q2 := i32_lo v2
    have q3 : (0 : Int32).toInt = 0 := rfl
    have hc2 := Int32.toInt_inj.mpr hc2
    exact hK _  (by omega)
  · skip
    have q2 := i32_lo v2
    have q3 : (0 : Int32).toInt = 0 := rfl
    have hc3 : ¬ (v2).toInt = (0 : Int32).toInt := fun z => hc3 (Int32.toInt_inj.mp z)
    have q4 := i32_lo x2
    refine sfX9_has ht hts hW  (fun v4  hp4 => ?_)
    refine ⟨fun hc5 => ?_, fun hc6 => ?_⟩
    · skip
      have q5 := i32_lo v4
      have hc5 := Int32.toInt_inj.mpr hc5
      exact hK _  (by omega)
    · skip
      have q5 := i32_lo v4
      have hc6 : ¬ (v4).toInt = (0 : Int32).toInt := fun z => hc6 (Int32.toInt_inj.mp z)
      refine ⟨fun hc7 => ?_, fun hc8 => ?_⟩
      · skip
        have hc7 := Int32.toInt_inj.mpr hc7
        exact hK _  (by omega)
      · skip
        have hc8 : ¬ (x1).toInt = (x2).toInt := fun z => hc8 (Int32.toInt_inj.mp z)
        have q6 : (1 : Int32).toInt = 1 := rfl
        exact hK _  (by omega)
theorem sfX9_everybody {G : jdG} {n : Nat} {Z : jdL} {J : jdJ} {K : Int32 → jdI → jdJ → Prop}  {I : jdI} {t : Nat} (ht : zTown Z t) (hts : (t = 1 ∨ t = 5 ∨ t = 9)) (hW : WX I)  (hK : ∀ (v : Int32), (v = ((1 : Int32) <<< ((I t 3) &&& 31)) - 1 ∧ 0 ≤ v.toInt ∧ v.toInt ≤ 127) → K v I J) : Cl G mX9_everybody n 0 0 [.ref (gb G + t)] Z I J (qi Z K) := by
  refine eX9_everybody ht ?_
  have hwI := WX_f hW
  have hptI := WX_town hW hts
  exact hK _  ⟨rfl, (ev_7 (by omega) (by omega)).2.2⟩
theorem sfX9_hasAll {G : jdG} {n : Nat} {Z : jdL} {J : jdJ} {K : Int32 → jdI → jdJ → Prop}  {I : jdI} {t : Nat} {x1 : Int32} (ht : zTown Z t) (hts : (t = 1 ∨ t = 5 ∨ t = 9)) (hW : WX I)  (hK : ∀ (v : Int32), (v.toInt = 0 ∨ (v.toInt = 1 ∧ 0 ≤ x1.toInt ∧ x1.toInt ≤ 127)) → K v I J) : Cl G mX9_hasAll (n + 1) 0 0 [.ref (gb G + t), .int x1] Z I J (qi Z K) := by
  refine eX9_hasAll ht ?_
  have hwI := WX_f hW
  have hptI := WX_town hW hts
  refine ⟨fun hc1 => ?_, fun hc2 => ?_⟩
  · skip
    have q1 := i32_lo x1
    have q2 : (0 : Int32).toInt = 0 := rfl
    have hc1 := Int32.lt_iff_toInt_lt.mp hc1
    exact hK _  (by omega)
  · skip
    have q1 := i32_lo x1
    have q2 : (0 : Int32).toInt = 0 := rfl
    have hc2 := mt Int32.lt_iff_toInt_lt.mpr hc2
    refine sfX9_everybody ht hts hW  (fun v2  hp3 => ?_)
    refine ⟨fun hc4 => ?_, fun hc5 => ?_⟩
    · skip
      have q3 := i32_lo v2
      have hc4 := Int32.lt_iff_toInt_lt.mp hc4
      exact hK _  (by omega)
    · skip
      have q3 := i32_lo v2
      have hc5 := mt Int32.lt_iff_toInt_lt.mpr hc5
      have q4 : (1 : Int32).toInt = 1 := rfl
      exact hK _  (by omega)
theorem lX9_countStrangers_4 {G : jdG} {n : Nat} {Z : jdL} {J : jdJ} {rc rs : Nat} {K : Int32 → jdI → jdJ → Prop}  {I : jdI} {t : Nat} (ht : zTown Z t) (hts : (t = 1 ∨ t = 5 ∨ t = 9)) (hW : WX I)  (hK : ∀ (v : Int32), K v I J) : ∀ m : Nat, ∀ (x1 : Int32) (x2 : Int32), (0 ≤ x2.toInt ∧ x2.toInt ≤ 7) → (7) - x2.toInt < (m : Int) → Jd G mX9_countStrangers (jdFm G (qi Z K)) (n + 2) rc rs 4 [(0, .ref (gb G + t)), (1, .int x1), (2, .int x2)] [] Z I J := by
  intro m
  induction m with
  | zero =>
    intro x1 x2 hx2 hm
    have hwI := WX_f hW
    have hptI := WX_town hW hts
    omega
  | succ m ih =>
    intro x1 x2 hx2 hm
    have hwI := WX_f hW
    have hptI := WX_town hW hts
    refine rX9_countStrangers_4 ht ?_
    refine ⟨fun hc1 => ?_, fun hc2 => ?_⟩
    · skip
      have q1 := i32_lo (I t 3)
      have q2 := i32_lo x2
      have hc1 := Int32.le_iff_toInt_le.mp hc1
      exact hK _ 
    · skip
      have q1 := i32_lo (I t 3)
      have q2 := i32_lo x2
      have hc2 := mt Int32.le_iff_toInt_le.mpr hc2
      refine sfX9_strangersTo ht hts hW (by omega) (fun v2  => ?_)
      refine sfJ6_bitCount_0f7a4  hW  (fun v4  hp4 => ?_)
      have q3 : (1 : Int32).toInt = 1 := rfl
      have q4 := i32_add x2 1 (by omega) (by omega)
      exact ih (x1 + v4) (x2 + 1) (by omega) (by omega)
theorem sfX9_countStrangers {G : jdG} {n : Nat} {Z : jdL} {J : jdJ} {K : Int32 → jdI → jdJ → Prop}  {I : jdI} {t : Nat} (ht : zTown Z t) (hts : (t = 1 ∨ t = 5 ∨ t = 9)) (hW : WX I)  (hK : ∀ (v : Int32), K v I J) : Cl G mX9_countStrangers (n + 2) 0 0 [.ref (gb G + t)] Z I J (qi Z K) := by
  refine eX9_countStrangers ht ?_
  have hwI := WX_f hW
  have hptI := WX_town hW hts
  have q1 : (0 : Int32).toInt = 0 := rfl
  exact lX9_countStrangers_4 ht hts hW  hK  (((7) - (0 : Int32).toInt).toNat + 1) 0 0 (by omega) (by omega)
