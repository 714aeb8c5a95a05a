set_option maxRecDepth 4000 in
theorem rX12_fresh_0 {G : jdG} {n rc rs : Nat} {Z : jdL} {I : jdI} {J : jdJ} {Q : jdQ} {t : Nat} (ht : zModel Z t) (h : (((Z).2.1 t 21 = none → (∃ rc3 rs3 : Nat, 1 + rc3 ≤ rc ∧ 45 + rs3 ≤ rs ∧ (zModel (nZ Z (11 + 10, 0)) t ∧ (∃ mc4 ms4 rc4 rs4 : Nat, mc4 + rc4 ≤ rc3 ∧ ms4 + rs4 ≤ rs3 ∧ Cl G mX12_init n mc4 ms4 [.ref (gb G + (Z).2.2)] (nZ Z (11 + 10, 0)) (zI I (Z).2.2) J (fun r4 Z4 I4 J4 => r4 = none ∧ (zModel Z4 t ∧ (zModel (uP Z4 t 21 (some (Z).2.2)) t ∧ ((((uP Z4 t 21 (some (Z).2.2))).2.1 t 21 = none → False) ∧ (∀ w6, ((uP Z4 t 21 (some (Z).2.2))).2.1 t 21 = some w6 → (zModel (uP Z4 t 21 (some (Z).2.2)) w6 ∧ Cl G mX12_takeFrom n 0 0 [.ref (gb G + w6), .ref (gb G + t)] (uP Z4 t 21 (some (Z).2.2)) I4 J4 (qv (uP Z4 t 21 (some (Z).2.2)) (fun I7 J7 => ((((uP Z4 t 21 (some (Z).2.2))).2.1 t 21 = none → Q (some .null) (uP Z4 t 21 (some (Z).2.2)) I7 J7) ∧ (∀ w10, ((uP Z4 t 21 (some (Z).2.2))).2.1 t 21 = some w10 → (zModel (uP Z4 t 21 (some (Z).2.2)) w10 ∧ Q (some (.ref (gb G + w10))) (uP Z4 t 21 (some (Z).2.2)) I7 J7))))))))))))))) ∧ (∀ w2, (Z).2.1 t 21 = some w2 → (zModel Z w2 ∧ (((Z).2.1 t 21 = none → False) ∧ (∀ w12, (Z).2.1 t 21 = some w12 → (zModel Z w12 ∧ Cl G mX12_takeFrom n 0 0 [.ref (gb G + w12), .ref (gb G + t)] Z I J (qv Z (fun I13 J13 => (((Z).2.1 t 21 = none → Q (some .null) Z I13 J13) ∧ (∀ w16, (Z).2.1 t 21 = some w16 → (zModel Z w16 ∧ Q (some (.ref (gb G + w16))) Z I13 J13)))))))))))) : Jd G mX12_fresh (jdFm G Q) (n + 1) rc rs 0 [(0, .ref (gb G + t))] [] Z I J := by
  refine jd_aload_n (pc := 0) 0 dX12_fresh_0 rfl rfl ?_
  rcases hq1 : (Z).2.1 t 21 with _ | w2
  · have h := h.1 hq1
    refine jd_getN (pc := 1) (ci := 11) (k := 21) gX12_371 ht.1 rfl hq1 dX12_fresh_1 ?_
    refine jd_ifnonnullN (pc := 4) dX12_fresh_4 ?_
    refine jd_aload_n (pc := 7) 0 dX12_fresh_7 rfl rfl ?_
    obtain ⟨rc3, rs3, hb1, hb2, h⟩ := h
    refine jd_new (pc := 8) (ci := 11) (N := 45) nX12_8 hb1 hb2 dX12_fresh_8 ?_
    obtain ⟨ht, h⟩ := h
    refine jd_dup (pc := 11) dX12_fresh_11 rfl ?_
    obtain ⟨mc4, ms4, rc4, rs4, hb1, hb2, h⟩ := h
    refine jd_callI (pc := 12) (M2 := mX12_init) (id := (Z).2.2) (rc2 := rc4) (rs2 := rs4) (av := []) kX12_init sX12_init lX12_375 rfl rfl (Nat.le_of_ble_eq_true rfl) hb1 hb2 dX12_fresh_12 (Cl.mono h (fun r4 Z4 I4 J4 h => ?_))
    obtain ⟨rfl, h⟩ := h
    obtain ⟨ht, h⟩ := h
    refine jd_putR (pc := 15) (ci := 11) (k := 21) pX12_371 ht.1 rfl rfl rfl dX12_fresh_15 ?_
    obtain ⟨ht, h⟩ := h
    refine jd_aload_n (pc := 18) 0 dX12_fresh_18 rfl rfl ?_
    rcases hq5 : ((uP Z4 t 21 (some (Z).2.2))).2.1 t 21 with _ | w6
    · have h := h.1 hq5
      refine jd_getN (pc := 19) (ci := 11) (k := 21) gX12_371 ht.1 rfl hq5 dX12_fresh_19 ?_
      refine jd_aload_n (pc := 22) 0 dX12_fresh_22 rfl rfl ?_
      exact h.elim
    · have h := h.2 w6 hq5
      refine jd_getR (pc := 19) (ci := 11) (k := 21) (r := w6) gX12_371 ht.1 rfl hq5 dX12_fresh_19 ?_
      obtain ⟨hzw6, h⟩ := h
      refine jd_aload_n (pc := 22) 0 dX12_fresh_22 rfl rfl ?_
      refine jd_callVv (pc := 23) (M2 := mX12_takeFrom) (id := w6) (ci := 11) (T := TX12) (N := 45) (av := [.ref (gb G + t)]) kX12_takeFrom sX12_takeFrom rfl hzw6.1 lX12_245 rfl rfl (Nat.le_of_ble_eq_true rfl) dX12_fresh_23 h ?_
      intro I7 J7 h
      refine jd_aload_n (pc := 26) 0 dX12_fresh_26 rfl rfl ?_
      rcases hq9 : ((uP Z4 t 21 (some (Z).2.2))).2.1 t 21 with _ | w10
      · have h := h.1 hq9
        refine jd_getN (pc := 27) (ci := 11) (k := 21) gX12_371 ht.1 rfl hq9 dX12_fresh_27 ?_
        exact jd_aret (pc := 30) rfl (Or.inl rfl) dX12_fresh_30 h
      · have h := h.2 w10 hq9
        refine jd_getR (pc := 27) (ci := 11) (k := 21) (r := w10) gX12_371 ht.1 rfl hq9 dX12_fresh_27 ?_
        obtain ⟨hzw10, h⟩ := h
        exact jd_aret (pc := 30) rfl (Or.inr ⟨_, rfl⟩) dX12_fresh_30 h
  · have h := h.2 w2 hq1
    refine jd_getR (pc := 1) (ci := 11) (k := 21) (r := w2) gX12_371 ht.1 rfl hq1 dX12_fresh_1 ?_
    obtain ⟨hzw2, h⟩ := h
    refine jd_ifnonnull (pc := 4) 18 dX12_fresh_4 (by decide) ?_
    refine jd_aload_n (pc := 18) 0 dX12_fresh_18 rfl rfl ?_
    rcases hq11 : (Z).2.1 t 21 with _ | w12
    · have h := h.1 hq11
      refine jd_getN (pc := 19) (ci := 11) (k := 21) gX12_371 ht.1 rfl hq11 dX12_fresh_19 ?_
      refine jd_aload_n (pc := 22) 0 dX12_fresh_22 rfl rfl ?_
      exact h.elim
    · have h := h.2 w12 hq11
      refine jd_getR (pc := 19) (ci := 11) (k := 21) (r := w12) gX12_371 ht.1 rfl hq11 dX12_fresh_19 ?_
      obtain ⟨hzw12, h⟩ := h
      refine jd_aload_n (pc := 22) 0 dX12_fresh_22 rfl rfl ?_
      refine jd_callVv (pc := 23) (M2 := mX12_takeFrom) (id := w12) (ci := 11) (T := TX12) (N := 45) (av := [.ref (gb G + t)]) kX12_takeFrom sX12_takeFrom rfl hzw12.1 lX12_245 rfl rfl (Nat.le_of_ble_eq_true rfl) dX12_fresh_23 h ?_
      intro I13 J13 h
      refine jd_aload_n (pc := 26) 0 dX12_fresh_26 rfl rfl ?_
      rcases hq15 : (Z).2.1 t 21 with _ | w16
      · have h := h.1 hq15
        refine jd_getN (pc := 27) (ci := 11) (k := 21) gX12_371 ht.1 rfl hq15 dX12_fresh_27 ?_
        exact jd_aret (pc := 30) rfl (Or.inl rfl) dX12_fresh_30 h
      · have h := h.2 w16 hq15
        refine jd_getR (pc := 27) (ci := 11) (k := 21) (r := w16) gX12_371 ht.1 rfl hq15 dX12_fresh_27 ?_
        obtain ⟨hzw16, h⟩ := h
        exact jd_aret (pc := 30) rfl (Or.inr ⟨_, rfl⟩) dX12_fresh_30 h
theorem eX12_fresh {G : jdG} {n mc ms : Nat} {Z : jdL} {I : jdI} {J : jdJ} {Q : jdQ} {t : Nat} (ht : zModel Z t) (h : (((Z).2.1 t 21 = none → (∃ rc3 rs3 : Nat, 1 + rc3 ≤ mc ∧ 45 + rs3 ≤ ms ∧ (zModel (nZ Z (11 + 10, 0)) t ∧ (∃ mc4 ms4 rc4 rs4 : Nat, mc4 + rc4 ≤ rc3 ∧ ms4 + rs4 ≤ rs3 ∧ Cl G mX12_init n mc4 ms4 [.ref (gb G + (Z).2.2)] (nZ Z (11 + 10, 0)) (zI I (Z).2.2) J (fun r4 Z4 I4 J4 => r4 = none ∧ (zModel Z4 t ∧ (zModel (uP Z4 t 21 (some (Z).2.2)) t ∧ ((((uP Z4 t 21 (some (Z).2.2))).2.1 t 21 = none → False) ∧ (∀ w6, ((uP Z4 t 21 (some (Z).2.2))).2.1 t 21 = some w6 → (zModel (uP Z4 t 21 (some (Z).2.2)) w6 ∧ Cl G mX12_takeFrom n 0 0 [.ref (gb G + w6), .ref (gb G + t)] (uP Z4 t 21 (some (Z).2.2)) I4 J4 (qv (uP Z4 t 21 (some (Z).2.2)) (fun I7 J7 => ((((uP Z4 t 21 (some (Z).2.2))).2.1 t 21 = none → Q (some .null) (uP Z4 t 21 (some (Z).2.2)) I7 J7) ∧ (∀ w10, ((uP Z4 t 21 (some (Z).2.2))).2.1 t 21 = some w10 → (zModel (uP Z4 t 21 (some (Z).2.2)) w10 ∧ Q (some (.ref (gb G + w10))) (uP Z4 t 21 (some (Z).2.2)) I7 J7))))))))))))))) ∧ (∀ w2, (Z).2.1 t 21 = some w2 → (zModel Z w2 ∧ (((Z).2.1 t 21 = none → False) ∧ (∀ w12, (Z).2.1 t 21 = some w12 → (zModel Z w12 ∧ Cl G mX12_takeFrom n 0 0 [.ref (gb G + w12), .ref (gb G + t)] Z I J (qv Z (fun I13 J13 => (((Z).2.1 t 21 = none → Q (some .null) Z I13 J13) ∧ (∀ w16, (Z).2.1 t 21 = some w16 → (zModel Z w16 ∧ Q (some (.ref (gb G + w16))) Z I13 J13)))))))))))) : Cl G mX12_fresh (n + 1) mc ms [.ref (gb G + t)] Z I J Q :=
  Cl.of (by decide +kernel) (Nat.le_of_ble_eq_true rfl) (rX12_fresh_0 ht h)
set_option maxRecDepth 4000 in
theorem rX12_image_0 {G : jdG} {n rc rs : Nat} {Z : jdL} {I : jdI} {J : jdJ} {Q : jdQ} {t : Nat} (ht : zModel Z t) (h : (((Z).2.1 t 20 = none → (∃ rc3 rs3 : Nat, 1 + rc3 ≤ rc ∧ 45 + rs3 ≤ rs ∧ (zModel (nZ Z (11 + 10, 0)) t ∧ (∃ mc4 ms4 rc4 rs4 : Nat, mc4 + rc4 ≤ rc3 ∧ ms4 + rs4 ≤ rs3 ∧ Cl G mX12_init n mc4 ms4 [.ref (gb G + (Z).2.2)] (nZ Z (11 + 10, 0)) (zI I (Z).2.2) J (fun r4 Z4 I4 J4 => r4 = none ∧ (zModel Z4 t ∧ (zModel (uP Z4 t 20 (some (Z).2.2)) t ∧ ((((uP Z4 t 20 (some (Z).2.2))).2.1 t 20 = none → False) ∧ (∀ w6, ((uP Z4 t 20 (some (Z).2.2))).2.1 t 20 = some w6 → (zModel (uP Z4 t 20 (some (Z).2.2)) w6 ∧ Cl G mX12_takeFrom n 0 0 [.ref (gb G + w6), .ref (gb G + t)] (uP Z4 t 20 (some (Z).2.2)) I4 J4 (qv (uP Z4 t 20 (some (Z).2.2)) (fun I7 J7 => Q (some (.int 1)) (uP Z4 t 20 (some (Z).2.2)) I7 J7)))))))))))) ∧ (∀ w2, (Z).2.1 t 20 = some w2 → (zModel Z w2 ∧ (((Z).2.1 t 20 = none → False) ∧ (∀ w10, (Z).2.1 t 20 = some w10 → (zModel Z w10 ∧ Cl G mX12_takeFrom n 0 0 [.ref (gb G + w10), .ref (gb G + t)] Z I J (qv Z (fun I11 J11 => Q (some (.int 1)) Z I11 J11))))))))) : Jd G mX12_image (jdFm G Q) (n + 1) rc rs 0 [(0, .ref (gb G + t))] [] Z I J := by
  refine jd_aload_n (pc := 0) 0 dX12_image_0 rfl rfl ?_
  rcases hq1 : (Z).2.1 t 20 with _ | w2
  · have h := h.1 hq1
    refine jd_getN (pc := 1) (ci := 11) (k := 20) gX12_380 ht.1 rfl hq1 dX12_image_1 ?_
    refine jd_ifnonnullN (pc := 4) dX12_image_4 ?_
    refine jd_aload_n (pc := 7) 0 dX12_image_7 rfl rfl ?_
    obtain ⟨rc3, rs3, hb1, hb2, h⟩ := h
    refine jd_new (pc := 8) (ci := 11) (N := 45) nX12_8 hb1 hb2 dX12_image_8 ?_
    obtain ⟨ht, h⟩ := h
    refine jd_dup (pc := 11) dX12_image_11 rfl ?_
    obtain ⟨mc4, ms4, rc4, rs4, hb1, hb2, h⟩ := h
    refine jd_callI (pc := 12) (M2 := mX12_init) (id := (Z).2.2) (rc2 := rc4) (rs2 := rs4) (av := []) kX12_init sX12_init lX12_375 rfl rfl (Nat.le_of_ble_eq_true rfl) hb1 hb2 dX12_image_12 (Cl.mono h (fun r4 Z4 I4 J4 h => ?_))
    obtain ⟨rfl, h⟩ := h
    obtain ⟨ht, h⟩ := h
    refine jd_putR (pc := 15) (ci := 11) (k := 20) pX12_380 ht.1 rfl rfl rfl dX12_image_15 ?_
    obtain ⟨ht, h⟩ := h
    refine jd_aload_n (pc := 18) 0 dX12_image_18 rfl rfl ?_
    rcases hq5 : ((uP Z4 t 20 (some (Z).2.2))).2.1 t 20 with _ | w6
    · have h := h.1 hq5
      refine jd_getN (pc := 19) (ci := 11) (k := 20) gX12_380 ht.1 rfl hq5 dX12_image_19 ?_
      refine jd_aload_n (pc := 22) 0 dX12_image_22 rfl rfl ?_
      exact h.elim
    · have h := h.2 w6 hq5
      refine jd_getR (pc := 19) (ci := 11) (k := 20) (r := w6) gX12_380 ht.1 rfl hq5 dX12_image_19 ?_
      obtain ⟨hzw6, h⟩ := h
      refine jd_aload_n (pc := 22) 0 dX12_image_22 rfl rfl ?_
      refine jd_callVv (pc := 23) (M2 := mX12_takeFrom) (id := w6) (ci := 11) (T := TX12) (N := 45) (av := [.ref (gb G + t)]) kX12_takeFrom sX12_takeFrom rfl hzw6.1 lX12_245 rfl rfl (Nat.le_of_ble_eq_true rfl) dX12_image_23 h ?_
      intro I7 J7 h
      refine jd_iconst (pc := 26) (v := 1) dX12_image_26 (by decide) ?_
      exact jd_iret (pc := 27) (ty := .int) rfl rfl dX12_image_27 h
  · have h := h.2 w2 hq1
    refine jd_getR (pc := 1) (ci := 11) (k := 20) (r := w2) gX12_380 ht.1 rfl hq1 dX12_image_1 ?_
    obtain ⟨hzw2, h⟩ := h
    refine jd_ifnonnull (pc := 4) 18 dX12_image_4 (by decide) ?_
    refine jd_aload_n (pc := 18) 0 dX12_image_18 rfl rfl ?_
    rcases hq9 : (Z).2.1 t 20 with _ | w10
    · have h := h.1 hq9
      refine jd_getN (pc := 19) (ci := 11) (k := 20) gX12_380 ht.1 rfl hq9 dX12_image_19 ?_
      refine jd_aload_n (pc := 22) 0 dX12_image_22 rfl rfl ?_
      exact h.elim
    · have h := h.2 w10 hq9
      refine jd_getR (pc := 19) (ci := 11) (k := 20) (r := w10) gX12_380 ht.1 rfl hq9 dX12_image_19 ?_
      obtain ⟨hzw10, h⟩ := h
      refine jd_aload_n (pc := 22) 0 dX12_image_22 rfl rfl ?_
      refine jd_callVv (pc := 23) (M2 := mX12_takeFrom) (id := w10) (ci := 11) (T := TX12) (N := 45) (av := [.ref (gb G + t)]) kX12_takeFrom sX12_takeFrom rfl hzw10.1 lX12_245 rfl rfl (Nat.le_of_ble_eq_true rfl) dX12_image_23 h ?_
      intro I11 J11 h
      refine jd_iconst (pc := 26) (v := 1) dX12_image_26 (by decide) ?_
      exact jd_iret (pc := 27) (ty := .int) rfl rfl dX12_image_27 h
theorem eX12_image {G : jdG} {n mc ms : Nat} {Z : jdL} {I : jdI} {J : jdJ} {Q : jdQ} {t : Nat} (ht : zModel Z t) (h : (((Z).2.1 t 20 = none → (∃ rc3 rs3 : Nat, 1 + rc3 ≤ mc ∧ 45 + rs3 ≤ ms ∧ (zModel (nZ Z (11 + 10, 0)) t ∧ (∃ mc4 ms4 rc4 rs4 : Nat, mc4 + rc4 ≤ rc3 ∧ ms4 + rs4 ≤ rs3 ∧ Cl G mX12_init n mc4 ms4 [.ref (gb G + (Z).2.2)] (nZ Z (11 + 10, 0)) (zI I (Z).2.2) J (fun r4 Z4 I4 J4 => r4 = none ∧ (zModel Z4 t ∧ (zModel (uP Z4 t 20 (some (Z).2.2)) t ∧ ((((uP Z4 t 20 (some (Z).2.2))).2.1 t 20 = none → False) ∧ (∀ w6, ((uP Z4 t 20 (some (Z).2.2))).2.1 t 20 = some w6 → (zModel (uP Z4 t 20 (some (Z).2.2)) w6 ∧ Cl G mX12_takeFrom n 0 0 [.ref (gb G + w6), .ref (gb G + t)] (uP Z4 t 20 (some (Z).2.2)) I4 J4 (qv (uP Z4 t 20 (some (Z).2.2)) (fun I7 J7 => Q (some (.int 1)) (uP Z4 t 20 (some (Z).2.2)) I7 J7)))))))))))) ∧ (∀ w2, (Z).2.1 t 20 = some w2 → (zModel Z w2 ∧ (((Z).2.1 t 20 = none → False) ∧ (∀ w10, (Z).2.1 t 20 = some w10 → (zModel Z w10 ∧ Cl G mX12_takeFrom n 0 0 [.ref (gb G + w10), .ref (gb G + t)] Z I J (qv Z (fun I11 J11 => Q (some (.int 1)) Z I11 J11))))))))) : Cl G mX12_image (n + 1) mc ms [.ref (gb G + t)] Z I J Q :=
  Cl.of (by decide +kernel) (Nat.le_of_ble_eq_true rfl) (rX12_image_0 ht h)
