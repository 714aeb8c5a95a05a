/-! the law's start -/
def gx (h : Heap) (sA sV : Nat → Nat) (b L : Nat) (xs : Nat → Int32) (U : State) : Prop := (va_Nw (.declares ⟨RX2, "kind", "()I"⟩) U ∧ va_AO RX6 U ∧ (va_Nw (.methodLinkNest RX11 9 yX9_init RX11) U ∧ va_Nw (.methodLinkNest RX11 24 yX8_init RX11) U ∧ va_Nw (.methodLinkNest RX11 31 yX3_init RX11) U ∧ va_Nw (.methodLinkNest RX11 38 yX5_init RX11) U ∧ va_Nw (.methodLinkNest RX11 53 yX6_init RX11) U) ∧ (va_Nw (.castable RX10 RX4) U ∧ va_Nw (.castable RX0 RX1) U ∧ va_Nw (.castable RX7 RX1) U) ∧ (va_Nc RX0 RX4 U ∧ va_Nc RX1 RX4 U ∧ va_Nc RX7 RX4 U ∧ va_Nc RX4 RX1 U ∧ va_Nc RX10 RX1 U) ∧ ((Cond.arrayOver (.array .int)).before #[] U = true ∧ (Cond.arrayOver (.array .long)).before #[] U = true) ∧ (vk_R RX5 56 "person" (sA 0) U ∧ vk_R RX5 65 "know" (sA 1) U ∧ vk_R RX5 101 "since" (sA 2) U ∧ vk_R RX5 71 "strange" (sA 3) U ∧ vk_R RX5 73 "seats" (sA 4) U ∧ vk_R RX5 78 "memory" (sA 5) U ∧ vk_R RX5 83 "met" (sA 6) U ∧ vk_R RX12 216 "person" (sA 7) U ∧ vk_R RX12 218 "know" (sA 8) U ∧ vk_R RX12 207 "since" (sA 9) U ∧ vk_R RX12 223 "strange" (sA 10) U ∧ vk_R RX12 225 "seats" (sA 11) U ∧ vk_R RX12 226 "memory" (sA 12) U ∧ vk_R RX12 227 "met" (sA 13) U) ∧ (vk_S 7 sLen sByt (fun i => sA i) (fun i => sV i) (fun q => h.size ≤ q) U h ∧ vk_S 7 sLen sByt (fun i => sA (7 + i)) (fun i => sV (7 + i)) (fun q => h.size ≤ q) U h) ∧ va_Z RJ0 "COMPACT_STRINGS" "Z" (.int 1) (fun q => h.size ≤ q) U h ∧ va_Zq RJ3 "SIOOBE_FORMATTER" "Ljava/util/function/BiFunction;" (fun q => h.size ≤ q) U h) ∧ va_X b L xs U h
theorem ao_warm {ty : FieldType} {u U : State} (hW : u.WarmedH U.vm) (h : (Cond.arrayOver ty).before #[] u = true) : (Cond.arrayOver ty).before #[] U = true :=
  (show (Cond.arrayOver ty).before #[] (u.setVm U.vm) = true by rw [Cond.arrayOver_setVmC hW.alike]; exact h)
theorem gx_warm {h : Heap} {sA sV : Nat → Nat} {b L : Nat} {xs : Nat → Int32} {s V : State} (hW : s.WarmedH V.vm) (g : gx h sA sV b L xs s) : gx h sA sV b L xs V := by
  obtain ⟨⟨g0, g1, ⟨n0, n1, n2, n3, n4⟩, ⟨c0, c1, c2⟩, ⟨d0, d1, d2, d3, d4⟩, ⟨o0, o1⟩, ⟨r0, r1, r2, r3, r4, r5, r6, r7, r8, r9, r10, r11, r12, r13⟩, ⟨s0, s1⟩, z0, z1⟩, gX⟩ := g
  have ha := hW.alike
  exact ⟨⟨va_Nw.warmD hW g0, va_AO.moved ha g1, ⟨va_Nw.warmM hW n0, va_Nw.warmM hW n1, va_Nw.warmM hW n2, va_Nw.warmM hW n3, va_Nw.warmM hW n4⟩, ⟨va_Nw.warmC hW c0, va_Nw.warmC hW c1, va_Nw.warmC hW c2⟩, ⟨va_Nc.moved ha d0, va_Nc.moved ha d1, va_Nc.moved ha d2, va_Nc.moved ha d3, va_Nc.moved ha d4⟩, ⟨ao_warm hW o0, ao_warm hW o1⟩, ⟨vk_R.warm hW r0, vk_R.warm hW r1, vk_R.warm hW r2, vk_R.warm hW r3, vk_R.warm hW r4, vk_R.warm hW r5, vk_R.warm hW r6, vk_R.warm hW r7, vk_R.warm hW r8, vk_R.warm hW r9, vk_R.warm hW r10, vk_R.warm hW r11, vk_R.warm hW r12, vk_R.warm hW r13⟩, ⟨vk_S.moved ha s0, vk_S.moved ha s1⟩, va_Z.moved ha z0, va_Zq.moved ha z1⟩, va_X.moved ha gX⟩
def tmA (i : Nat) : Term := Term.string RX5 ([56, 65, 101, 71, 73, 78, 83].getD i 0)
theorem fA_ex : ∀ i : Nat, i < 7 → Cond.exactly (tmA i) "java/lang/String" ∈ flatC (Jvm.Cond.and given_1 narrow_1) := by decide +kernel
theorem fA_co : ∀ i : Nat, i < 7 → Cond.eq (.field (tmA i) "java/lang/String" "coder" "B") (.int 0) ∈ flatC (Jvm.Cond.and given_1 narrow_1) := by decide +kernel
theorem fA_ar : ∀ i : Nat, i < 7 → Cond.arrayOf (.field (tmA i) "java/lang/String" "value" "[B") .byte ∈ flatC (Jvm.Cond.and given_1 narrow_1) := by decide +kernel
theorem fA_le : ∀ i : Nat, i < 7 → Cond.eq (.length (.field (tmA i) "java/lang/String" "value" "[B")) (.int (Int32.ofNat (sLen.getD i 0))) ∈ flatC (Jvm.Cond.and given_1 narrow_1) := by decide +kernel
theorem fA_el : ∀ i : Nat, i < 7 → ∀ j : Nat, j < sLen.getD i 0 → Cond.eq (.elem (.field (tmA i) "java/lang/String" "value" "[B") (.int (Int32.ofNat j))) (.int ((sByt.getD i []).getD j 0)) ∈ flatC (Jvm.Cond.and given_1 narrow_1) := by decide +kernel
theorem fA_ne : ∀ i : Nat, i < 7 → ∀ j : Nat, j < 7 → i ≠ j → Cond.not (Cond.eq (tmA i) (tmA j)) ∈ flatC (Jvm.Cond.and given_1 narrow_1) ∨ Cond.not (Cond.eq (tmA j) (tmA i)) ∈ flatC (Jvm.Cond.and given_1 narrow_1) := by decide +kernel
theorem sA_of {s : State} {b : Nat} (hs : ∀ w ∈ flatC (Jvm.Cond.and given_1 narrow_1), w.before #[Value.ref b] s = true) : ∃ adK adV : Nat → Nat, vk_S 7 sLen sByt adK adV (fun q => s.heap.size ≤ q) s s.heap ∧ ∀ i : Nat, i < 7 → (tmA i).eval #[Value.ref b] s none [] s = some (.ref (adK i)) :=
  vk_Sof (by decide) (fun i hi => hs _ (fA_ex i hi)) (fun i hi => hs _ (fA_co i hi)) (fun i hi => hs _ (fA_ar i hi)) (fun i hi => hs _ (fA_le i hi)) (fun i hi j hj => hs _ (fA_el i hi j hj)) (fun i j hi hj h => (fA_ne i hi j hj h).elim (fun h => Or.inl (hs _ h)) (fun h => Or.inr (hs _ h))) (fun a ha h => by omega)
def tmB (i : Nat) : Term := Term.string RX12 ([216, 218, 207, 223, 225, 226, 227].getD i 0)
theorem fB_ex : ∀ i : Nat, i < 7 → Cond.exactly (tmB i) "java/lang/String" ∈ flatC (Jvm.Cond.and given_1 narrow_1) := by decide +kernel
theorem fB_co : ∀ i : Nat, i < 7 → Cond.eq (.field (tmB i) "java/lang/String" "coder" "B") (.int 0) ∈ flatC (Jvm.Cond.and given_1 narrow_1) := by decide +kernel
theorem fB_ar : ∀ i : Nat, i < 7 → Cond.arrayOf (.field (tmB i) "java/lang/String" "value" "[B") .byte ∈ flatC (Jvm.Cond.and given_1 narrow_1) := by decide +kernel
theorem fB_le : ∀ i : Nat, i < 7 → Cond.eq (.length (.field (tmB i) "java/lang/String" "value" "[B")) (.int (Int32.ofNat (sLen.getD i 0))) ∈ flatC (Jvm.Cond.and given_1 narrow_1) := by decide +kernel
theorem fB_el : ∀ i : Nat, i < 7 → ∀ j : Nat, j < sLen.getD i 0 → Cond.eq (.elem (.field (tmB i) "java/lang/String" "value" "[B") (.int (Int32.ofNat j))) (.int ((sByt.getD i []).getD j 0)) ∈ flatC (Jvm.Cond.and given_1 narrow_1) := by decide +kernel
theorem fB_ne : ∀ i : Nat, i < 7 → ∀ j : Nat, j < 7 → i ≠ j → Cond.not (Cond.eq (tmB i) (tmB j)) ∈ flatC (Jvm.Cond.and given_1 narrow_1) ∨ Cond.not (Cond.eq (tmB j) (tmB i)) ∈ flatC (Jvm.Cond.and given_1 narrow_1) := by decide +kernel
theorem sB_of {s : State} {b : Nat} (hs : ∀ w ∈ flatC (Jvm.Cond.and given_1 narrow_1), w.before #[Value.ref b] s = true) : ∃ adK adV : Nat → Nat, vk_S 7 sLen sByt adK adV (fun q => s.heap.size ≤ q) s s.heap ∧ ∀ i : Nat, i < 7 → (tmB i).eval #[Value.ref b] s none [] s = some (.ref (adK i)) :=
  vk_Sof (by decide) (fun i hi => hs _ (fB_ex i hi)) (fun i hi => hs _ (fB_co i hi)) (fun i hi => hs _ (fB_ar i hi)) (fun i hi => hs _ (fB_le i hi)) (fun i hi j hj => hs _ (fB_el i hi j hj)) (fun i j hi hj h => (fB_ne i hi j hj h).elim (fun h => Or.inl (hs _ h)) (fun h => Or.inr (hs _ h))) (fun a ha h => by omega)
theorem vk_S_congr {N : Nat} {len : List Nat} {byt : List (List Int32)} {adK adV adK2 adV2 : Nat → Nat} {A : Nat → Prop} {U : State} {H : Heap} (h : vk_S N len byt adK adV A U H) (e1 : ∀ i, i < N → adK2 i = adK i) (e2 : ∀ i, i < N → adV2 i = adV i) : vk_S N len byt adK2 adV2 A U H :=
  ⟨fun i hi => by rw [e1 i hi, e2 i hi]; exact h.1 i hi, fun i j hi hj e => h.2 i j hi hj (by rw [← e1 i hi, ← e1 j hj]; exact e)⟩
set_option maxRecDepth 100000 in
theorem gx_start {s : State} {b L : Nat} {xs : Nat → Int32} (hts : ∀ w ∈ lw_tbl, w.before #[Value.ref b] s = true) (hg : (Jvm.Cond.and given_1 narrow_1).before #[Value.ref b] s = true) (hX : va_X b L xs s s.heap) : ∃ sA sV : Nat → Nat, gx s.heap sA sV b L xs s := by
  have hs := flat_of_before _ hg
  obtain ⟨kA, vA, SA, eA⟩ := sA_of hs
  obtain ⟨kB, vB, SB, eB⟩ := sB_of hs
  have hA : ∀ a : Nat, a < s.heap.size → ¬ (fun q => s.heap.size ≤ q) a := fun a ha h => by
    have h2 : s.heap.size ≤ a := h
    omega
  have q0 : (Cond.eq (.static RJ0 "COMPACT_STRINGS" "Z") (.int 1)).before #[Value.ref b] s = true := hs _ (by decide +kernel)
  have q1 : (Cond.isRef (.static RJ3 "SIOOBE_FORMATTER" "Ljava/util/function/BiFunction;")).before #[Value.ref b] s = true := hs _ (by decide +kernel)
  refine ⟨fun i => if i < 7 then kA i else kB (i - 7), fun i => if i < 7 then vA i else vB (i - 7), ⟨va_Nw.of rfl (hts _ (tb2 (List.mem_of_getElem? (i := 54) (by eq_refl)))), va_AO.of (hts _ (tb1 (List.mem_of_getElem? (i := 187) (by eq_refl)))), ⟨va_Nw.of rfl (hts _ (tb1 (List.mem_of_getElem? (i := 31) (by eq_refl)))), va_Nw.of rfl (hts _ (tb1 (List.mem_of_getElem? (i := 87) (by eq_refl)))), va_Nw.of rfl (hts _ (tb1 (List.mem_of_getElem? (i := 131) (by eq_refl)))), va_Nw.of rfl (hts _ (tb1 (List.mem_of_getElem? (i := 161) (by eq_refl)))), va_Nw.of rfl (hts _ (tb1 (List.mem_of_getElem? (i := 189) (by eq_refl))))⟩, ⟨va_Nw.of rfl (hts _ (tb7 (List.mem_of_getElem? (i := 123) (by eq_refl)))), va_Nw.of rfl (hts _ (tb7 (List.mem_of_getElem? (i := 124) (by eq_refl)))), va_Nw.of rfl (hts _ (tb7 (List.mem_of_getElem? (i := 125) (by eq_refl))))⟩, ⟨va_Nc.of (args := #[Value.ref b]) (hs (Cond.not (.castable RX0 RX4)) (by decide +kernel)), va_Nc.of (args := #[Value.ref b]) (hs (Cond.not (.castable RX1 RX4)) (by decide +kernel)), va_Nc.of (args := #[Value.ref b]) (hs (Cond.not (.castable RX7 RX4)) (by decide +kernel)), va_Nc.of (args := #[Value.ref b]) (hs (Cond.not (.castable RX4 RX1)) (by decide +kernel)), va_Nc.of (args := #[Value.ref b]) (hs (Cond.not (.castable RX10 RX1)) (by decide +kernel))⟩, ⟨(hts (Cond.arrayOver (.array .int)) (tb5 (List.mem_of_getElem? (i := 40) (by eq_refl)))), (hts (Cond.arrayOver (.array .long)) (tb5 (List.mem_of_getElem? (i := 38) (by eq_refl))))⟩, ⟨vk_R.of (A := #[Value.ref b]) (hts _ (tb3 (List.mem_of_getElem? (i := 91) (by eq_refl)))) (eA 0 (by decide)), vk_R.of (A := #[Value.ref b]) (hts _ (tb3 (List.mem_of_getElem? (i := 157) (by eq_refl)))) (eA 1 (by decide)), vk_R.of (A := #[Value.ref b]) (hts _ (tb3 (List.mem_of_getElem? (i := 162) (by eq_refl)))) (eA 2 (by decide)), vk_R.of (A := #[Value.ref b]) (hts _ (tb3 (List.mem_of_getElem? (i := 164) (by eq_refl)))) (eA 3 (by decide)), vk_R.of (A := #[Value.ref b]) (hts _ (tb3 (List.mem_of_getElem? (i := 165) (by eq_refl)))) (eA 4 (by decide)), vk_R.of (A := #[Value.ref b]) (hts _ (tb3 (List.mem_of_getElem? (i := 170) (by eq_refl)))) (eA 5 (by decide)), vk_R.of (A := #[Value.ref b]) (hts _ (tb3 (List.mem_of_getElem? (i := 175) (by eq_refl)))) (eA 6 (by decide)), vk_R.of (A := #[Value.ref b]) (hts _ (tb6 (List.mem_of_getElem? (i := 114) (by eq_refl)))) (eB 0 (by decide)), vk_R.of (A := #[Value.ref b]) (hts _ (tb6 (List.mem_of_getElem? (i := 133) (by eq_refl)))) (eB 1 (by decide)), vk_R.of (A := #[Value.ref b]) (hts _ (tb6 (List.mem_of_getElem? (i := 142) (by eq_refl)))) (eB 2 (by decide)), vk_R.of (A := #[Value.ref b]) (hts _ (tb6 (List.mem_of_getElem? (i := 143) (by eq_refl)))) (eB 3 (by decide)), vk_R.of (A := #[Value.ref b]) (hts _ (tb6 (List.mem_of_getElem? (i := 144) (by eq_refl)))) (eB 4 (by decide)), vk_R.of (A := #[Value.ref b]) (hts _ (tb6 (List.mem_of_getElem? (i := 145) (by eq_refl)))) (eB 5 (by decide)), vk_R.of (A := #[Value.ref b]) (hts _ (tb6 (List.mem_of_getElem? (i := 146) (by eq_refl)))) (eB 6 (by decide))⟩, ⟨vk_S_congr SA (fun i hi => if_pos hi) (fun i hi => if_pos hi), vk_S_congr SB (fun i hi => by show (if 7 + i < 7 then _ else _) = _; rw [if_neg (by omega), show 7 + i - 7 = i by omega]) (fun i hi => by show (if 7 + i < 7 then _ else _) = _; rw [if_neg (by omega), show 7 + i - 7 = i by omega])⟩, va_Zof (hts _ (tb3 (List.mem_of_getElem? (i := 105) (by eq_refl)))) (hts _ (tb1 (List.mem_of_getElem? (i := 16) (by eq_refl)))) (va_eqi q0) hA, va_Zqof (hts _ (tb3 (List.mem_of_getElem? (i := 121) (by eq_refl)))) (hts _ (tb1 (List.mem_of_getElem? (i := 18) (by eq_refl)))) q1 hA⟩, hX⟩
set_option maxRecDepth 100000 in
theorem ac_start {s : State} {b : Nat} (hts : ∀ w ∈ lw_tbl, w.before #[Value.ref b] s = true) : ∃ ac : Nat → ClassId, ∀ (k : Nat) (q : ClassId × FieldType), ([(ac 0, .int), (ac 1, .long), (ac 2, .array .int), (ac 3, .array .long), (ac 4, .object RX6)] : List (ClassId × FieldType))[k]? = some q → ArrOfT s q.1 q.2 ∧ va_RA s q.1 q.2 := by
  obtain ⟨c0, k0, p0, a0, a1, a2⟩ := Cond.arrayClass_spec (type := .int) (args := #[Value.ref b]) (first := s) (o := none) (s := s) (idx := []) (hts _ (tb1 (List.mem_of_getElem? (i := 84) (by eq_refl))))
  obtain ⟨c1, k1, p1, b0, b1, b2⟩ := Cond.arrayClass_spec (type := .long) (args := #[Value.ref b]) (first := s) (o := none) (s := s) (idx := []) (hts _ (tb1 (List.mem_of_getElem? (i := 210) (by eq_refl))))
  obtain ⟨p2, c2, k2, d3, d1, d2, d0⟩ := Cond.arrayOver_specA (t := .int) (args := #[Value.ref b]) (first := s) (o := none) (s := s) (idx := []) (hts _ (tb5 (List.mem_of_getElem? (i := 40) (by eq_refl))))
  obtain ⟨p3, c3, k3, e3, e1, e2, e0⟩ := Cond.arrayOver_specA (t := .long) (args := #[Value.ref b]) (first := s) (o := none) (s := s) (idx := []) (hts _ (tb5 (List.mem_of_getElem? (i := 38) (by eq_refl))))
  obtain ⟨p4, c4, k4, f3, f4, f1, f2, f0⟩ := Cond.arrayOver_spec (n := RX6) (args := #[Value.ref b]) (first := s) (o := none) (s := s) (idx := []) (hts _ (tb1 (List.mem_of_getElem? (i := 187) (by eq_refl))))
  refine ⟨fun i => [c0, c1, c2, c3, c4].getD i 0, fun k q hk => ?_⟩
  have hk5 : k < 5 := (List.getElem?_eq_some_iff.mp hk).1
  rcases (show k = 0 ∨ k = 1 ∨ k = 2 ∨ k = 3 ∨ k = 4 by omega) with rfl | rfl | rfl | rfl | rfl
  · cases hk
    exact ⟨fun n z => ⟨fun k h => (by cases h), k0, a1, p0, a2⟩, a0⟩
  · cases hk
    exact ⟨fun n z => ⟨fun k h => (by cases h), k1, b1, p1, b2⟩, b0⟩
  · cases hk
    exact ⟨fun n z => ⟨fun k h => (by cases h), k2, d1, p2, d2⟩, d0⟩
  · cases hk
    exact ⟨fun n z => ⟨fun k h => (by cases h), k3, e1, p3, e2⟩, e0⟩
  · cases hk
    exact ⟨fun n z => ⟨fun k h => (by cases h), k4, f1, p4, f2⟩, k4, p4, f1, f2, f3, f0⟩
set_option maxRecDepth 100000 in
theorem kn_start {s : State} {b : Nat} (hts : ∀ w ∈ lw_tbl, w.before #[Value.ref b] s = true) : ∃ D : va_G, ∀ (c : Nat) (q : vw_C), vwCl[c]? = some q → u_Kn s q.1 q.2.1 q.2.2 (D.1 c) (D.2 c) := by
  have hj : ∀ w ∈ jdW, w.before #[Value.ref b] s = true := fun w hw => hts w (List.mem_filter.mp hw).1
  have h0 : ∀ c : Nat, c < 12 → ∃ r : ClassId × (Nat → Nat), ∀ q : vw_C, vwCl[c]? = some q → u_Kn s q.1 q.2.1 q.2.2 r.1 r.2 := by
    intro c hc
    rcases (show c = 0 ∨ c = 1 ∨ c = 2 ∨ c = 3 ∨ c = 4 ∨ c = 5 ∨ c = 6 ∨ c = 7 ∨ c = 8 ∨ c = 9 ∨ c = 10 ∨ c = 11 by omega) with rfl | rfl | rfl | rfl | rfl | rfl | rfl | rfl | rfl | rfl | rfl | rfl
    · obtain ⟨cC, iS, h⟩ := u_known (n := 1) (C := RX0) (T := TX0) (N := 1) hj iX0 (hts _ (tb2 (List.mem_of_getElem? (i := 116) (by eq_refl))))
      exact ⟨(cC, iS), fun q hq => by cases hq; exact h⟩
    · obtain ⟨cC, iS, h⟩ := u_known (n := 1) (C := RX1) (T := TX1) (N := 1) hj iX1 (hts _ (tb2 (List.mem_of_getElem? (i := 92) (by eq_refl))))
      exact ⟨(cC, iS), fun q hq => by cases hq; exact h⟩
    · obtain ⟨cC, iS, h⟩ := u_known (n := 7) (C := RX3) (T := TX3) (N := 7) hj iX3 (hts _ (tb1 (List.mem_of_getElem? (i := 130) (by eq_refl))))
      exact ⟨(cC, iS), fun q hq => by cases hq; exact h⟩
    · obtain ⟨cC, iS, h⟩ := u_known (n := 1) (C := RX4) (T := TX4) (N := 1) hj iX4 (hts _ (tb2 (List.mem_of_getElem? (i := 79) (by eq_refl))))
      exact ⟨(cC, iS), fun q hq => by cases hq; exact h⟩
    · obtain ⟨cC, iS, h⟩ := u_known (n := 6) (C := RX5) (T := TX5) (N := 6) hj iX5 (hts _ (tb1 (List.mem_of_getElem? (i := 160) (by eq_refl))))
      exact ⟨(cC, iS), fun q hq => by cases hq; exact h⟩
    · obtain ⟨cC, iS, h⟩ := u_known (n := 4) (C := RX6) (T := TX6) (N := 4) hj iX6 (hts _ (tb1 (List.mem_of_getElem? (i := 188) (by eq_refl))))
      exact ⟨(cC, iS), fun q hq => by cases hq; exact h⟩
    · obtain ⟨cC, iS, h⟩ := u_known (n := 1) (C := RX7) (T := TX7) (N := 1) hj iX7 (hts _ (tb2 (List.mem_of_getElem? (i := 108) (by eq_refl))))
      exact ⟨(cC, iS), fun q hq => by cases hq; exact h⟩
    · obtain ⟨cC, iS, h⟩ := u_known (n := 11) (C := RX8) (T := TX8) (N := 11) hj iX8 (hts _ (tb1 (List.mem_of_getElem? (i := 86) (by eq_refl))))
      exact ⟨(cC, iS), fun q hq => by cases hq; exact h⟩
    · obtain ⟨cC, iS, h⟩ := u_known (n := 10) (C := RX9) (T := TX9) (N := 10) hj iX9 (hts _ (tb1 (List.mem_of_getElem? (i := 30) (by eq_refl))))
      exact ⟨(cC, iS), fun q hq => by cases hq; exact h⟩
    · obtain ⟨cC, iS, h⟩ := u_known (n := 1) (C := RX10) (T := TX10) (N := 1) hj iX10 (hts _ (tb2 (List.mem_of_getElem? (i := 100) (by eq_refl))))
      exact ⟨(cC, iS), fun q hq => by cases hq; exact h⟩
    · obtain ⟨cC, iS, h⟩ := u_known (n := 9) (C := RX11) (T := TX11) (N := 9) hj iX11 (hts _ (tb1 (List.mem_of_getElem? (i := 22) (by eq_refl))))
      exact ⟨(cC, iS), fun q hq => by cases hq; exact h⟩
    · obtain ⟨cC, iS, h⟩ := u_known (n := 45) (C := RX12) (T := TX12) (N := 45) hj iX12 (hts _ (tb5 (List.mem_of_getElem? (i := 32) (by eq_refl))))
      exact ⟨(cC, iS), fun q hq => by cases hq; exact h⟩
  have h1 : ∀ c : Nat, ∃ r : ClassId × (Nat → Nat), ∀ q : vw_C, vwCl[c]? = some q → u_Kn s q.1 q.2.1 q.2.2 r.1 r.2 := by
    intro c
    by_cases hc : c < 12
    · exact h0 c hc
    · refine ⟨(0, fun _ => 0), fun q hq => absurd (List.getElem?_eq_some_iff.mp hq).1 hc⟩
  obtain ⟨f, hf⟩ := Classical.axiomOfChoice h1
  exact ⟨(fun c => (f c).1, fun c => (f c).2), fun c q hq => hf c q hq⟩
/-- the memory at the start: nothing made -/
def z0 : jdL := ((fun _ => none), (fun _ _ => none), 0)
def i0m : jdI := fun _ _ => 0
def j0m : jdJ := fun _ _ => 0
def z1 : jdL := kXZ ((nZ z0 (10 + 10, 0)).1, (nZ z0 (10 + 10, 0)).2.1, 1)
def z2 : jdL := kModelZ (nZ z1 (11 + 10, 0)) 45
def i1m : jdI := kXI (zI i0m 0)
def i2m : jdI := kModelI (zI i1m 45) 45
def ZB (Z : jdL) : Prop := ∀ a c, Z.1 a = some c → a < Z.2.2
theorem ZB_nZ {Z : jdL} {ty : Nat × Nat} (h : ZB Z) : ZB (nZ Z ty) := by
  intro a c hc
  rw [nZ_ap] at hc
  show a < Z.2.2 + 1
  split at hc
  · omega
  · have := h a c hc
    omega
theorem ZB_uP {Z : jdL} {a k : Nat} {v : Option Nat} (h : ZB Z) : ZB (uP Z a k v) := h
theorem ZB_sA {Z : jdL} {t k : Nat} {ty : Nat × Nat} (h : ZB Z) : ZB (sA Z t k ty) := ZB_uP (ZB_nZ h)
theorem ZB_town {Z : jdL} {t : Nat} (h : ZB Z) : ZB (kTownZ Z t) := ZB_sA (ZB_sA (ZB_sA h))
theorem ZB_ties {Z : jdL} {t : Nat} (h : ZB Z) : ZB (kTiesZ Z t) := ZB_sA (ZB_sA (ZB_sA (ZB_sA (ZB_sA (ZB_sA h)))))
theorem ZB_day {Z : jdL} {t : Nat} (h : ZB Z) : ZB (kDayZ Z t) := ZB_sA (ZB_sA (ZB_sA (ZB_sA h)))
theorem ZB_scribe {Z : jdL} {t : Nat} (h : ZB Z) : ZB (kScribeZ Z t) := ZB_sA h
theorem ZB_shelf {Z : jdL} {t : Nat} (h : ZB Z) : ZB (kShelfZ Z t) := ZB_sA h
theorem ZB_z1 : ZB z1 := by
  have h0 : ZB ((nZ z0 (10 + 10, 0)).1, (nZ z0 (10 + 10, 0)).2.1, 1) := ZB_nZ (Z := z0) (fun a c h => by cases h)
  unfold z1 kXZ
  generalize ((nZ z0 (10 + 10, 0)).1, (nZ z0 (10 + 10, 0)).2.1, 1) = Y at h0 ⊢
  repeat first | exact h0 | apply ZB_uP | apply ZB_nZ | apply ZB_town | apply ZB_ties | apply ZB_day | apply ZB_scribe | apply ZB_shelf
theorem z1_a : zTown z1 1 ∧ zTown z1 5 ∧ zTown z1 9 := by
  unfold zTown
  decide +kernel
theorem z1_b : zTies z1 13 := by
  unfold zTies
  decide +kernel
theorem z1_c : zDay z1 20 ∧ zScribe z1 25 := by
  unfold zDay zScribe
  decide +kernel
theorem z1_d : z1.1 0 = some (10 + 10, 0) ∧ z1.2.1 0 0 = some 1 ∧ z1.2.1 0 1 = some 5 ∧ z1.2.1 0 2 = some 9 ∧ z1.2.1 0 3 = some 13 ∧ z1.2.1 0 4 = some 20 ∧ z1.2.1 0 5 = some 25 ∧ z1.2.1 0 6 = some 27 ∧ z1.2.1 0 7 = some 28 := by decide +kernel
theorem z1_e : z1.1 27 = some (4, 8) ∧ z1.1 28 = some (0, 7) := by decide +kernel
theorem z1_f : ∀ i, i < 8 → z1.2.1 27 i = some (29 + 2 * i) ∧ zShelf z1 (29 + 2 * i) := by
  unfold zShelf
  decide +kernel
theorem zX_z1 : zX z1 := ⟨z1_d.1, ⟨z1_d.2.1, z1_a.1⟩, ⟨z1_d.2.2.1, z1_a.2.1⟩, ⟨z1_d.2.2.2.1, z1_a.2.2⟩, ⟨z1_d.2.2.2.2.1, z1_b⟩, ⟨z1_d.2.2.2.2.2.1, z1_c.1⟩, ⟨z1_d.2.2.2.2.2.2.1, z1_c.2⟩, ⟨z1_d.2.2.2.2.2.2.2.1, z1_e.1⟩, ⟨z1_d.2.2.2.2.2.2.2.2, z1_e.2⟩, z1_f⟩
theorem men_z1 : ∀ i, i < 8 → z1.2.1 (29 + 2 * i) 3 = none := by decide +kernel
theorem WX_i1 : WX i2m := by
  unfold WX
  decide +kernel
theorem IV_start : IV z2 i2m := by
  have hz : (nZ z1 (11 + 10, 0)).2.2 = 45 + 1 := by decide +kernel
  have hz1 : z1.2.2 = 45 := by decide +kernel
  obtain ⟨p0, p1, p2, p3, p4, p5, p6, p7, p8⟩ := PM_model (Z := nZ z1 (11 + 10, 0)) (t := 45) hz
  have e1 : ∀ a, a < 45 → z2.1 a = z1.1 a := fun a ha => (p1 a (by omega)).trans (by rw [nZ_ap, if_neg (by omega)])
  have e2 : ∀ a k, a < 45 → z2.2.1 a k = z1.2.1 a k := fun a k ha => (p2 a k ha).trans (by rw [nZ_ap2, if_neg (by omega)])
  have f0 : ∀ k, k = 20 ∨ k = 21 → z2.2.1 45 k = none := fun k hk => (p3 k hk).trans (by rw [nZ_ap2, if_pos hz1.symm])
  refine ⟨zX_tr zX_z1 e1 (fun a k ha _ => e2 a k ha), fun i hi w hw => ?_, WX_i1, ?_⟩
  · rw [e2 _ _ (by omega), men_z1 i hi] at hw
    cases hw
  · refine ⟨zModel_new hz (by rw [nZ_ap, if_pos hz1.symm]), WM_model i1m 45, Nat.le_of_eq p0.symm, fun a c hc => ?_, fun w hw => ?_, fun u hu => ?_, fun w u hw hu => ?_⟩
    · have p0' : z2.2.2 = 45 + 38 := p0
      rw [p0']
      by_cases h9 : a < 45 + 38
      · exact h9
      · have hc2 := (p5 a (by omega)).symm.trans hc
        have := ZB_nZ (ty := (11 + 10, 0)) ZB_z1 a c hc2
        rw [hz] at this
        omega
    · rw [f0 20 (by decide)] at hw
      cases hw
    · rw [f0 21 (by decide)] at hu
      cases hu
    · rw [f0 20 (by decide)] at hw
      cases hw
theorem RV_start : RV z2 i2m := ⟨by decide +kernel, ⟨fun _ => by decide +kernel, fun _ => by decide +kernel⟩⟩
theorem RS_start : RS z2 i2m := by
  have k : ∀ i, i < 8 → (i2m (45 + 1) i).toInt = 0 ∧ (i2m (29 + 2 * i) 1).toInt = -1 := by decide +kernel
  have z : ∀ i, i < 8 → z2.2.1 (29 + 2 * i) 3 = none := by decide +kernel
  exact fun i hi => Or.inl ⟨(k i hi).1, (k i hi).2, mk_none (z i hi)⟩
theorem RJ_start (J : jdJ) : RJ i2m J := fun i hi hw => by
  have k : ∀ i, i < 8 → (i2m (45 + 1) i).toInt = 0 := by decide +kernel
  rw [k i hi] at hw
  exact absurd hw (by decide)
theorem RT_start : RT z2 i2m := by
  refine ⟨funext (fun k => rfl), ⟨((0, (fun _ => 0), (fun _ => 0), 3, 0, fun _ _ => 0), 1), ⟨fun p hp => ?_, fun _ _ => rfl, fun _ _ => (by decide : (-1 : Int) ≤ (0 : Int32).toInt ∧ (0 : Int32).toInt ≤ 99)⟩, ⟨⟨by decide +kernel, fun i hi => ?_, by decide +kernel, by decide +kernel, fun i j hi hj hne => ?_⟩, by decide +kernel⟩, ⟨⟨by decide +kernel, fun i hi => ?_, by decide +kernel, by decide +kernel, fun i j hi hj hne => ?_⟩, by decide +kernel⟩⟩, fun u hu => ?_⟩
  · have hp : (p : Int) < 0 := hp
    omega
  · have hi : (i : Int) < 0 := hi
    omega
  · have hi : (i : Int) < 0 := hi
    omega
  · have hi : (i : Int) < 0 := hi
    omega
  · have hi : (i : Int) < 0 := hi
    omega
  · have e : z2.2.1 45 20 = none := by decide +kernel
    rw [e] at hu
    cases hu
theorem RA_start : RA z2 i2m := fun i hi w hw => by
  have z : ∀ i, i < 8 → z2.2.1 (29 + 2 * i) 3 = none := by decide +kernel
  rw [z i hi] at hw
  cases hw
set_option maxRecDepth 20000 in
theorem sL_law {G : jdG} {nm : String} {b L : Nat} {xs : Nat → Int32} {sA sV : Nat → Nat} (hG : gOK G sA sV) (hXs : ∀ U, G.2.2.2.2 U → va_X b L xs U G.2.2.1) (hL : L ≤ 3072) : Jd G (mLaw nm) (lawF G) (2046 + 1) 600000 7302250 0 [(0, .ref b)] [] z0 i0m j0m := by
  refine jd_newE (pc := 0) (b := 0) (rc2 := 599999) (rs2 := 7302241) (ci := 10) (N := 9) rfl nL_7 (by decide) (by decide) dL_law_0 ?_
  refine jd_dup (pc := 3) dL_law_3 rfl ?_
  refine jd_callI (pc := 4) (M2 := mX11_init) (id := 0) (mc := 44) (ms := 1512) (rc2 := 599955) (rs2 := 7300729) (av := []) kX11_init sX11_init lL_9 rfl rfl (Nat.le_of_ble_eq_true rfl) (by decide) (by decide) dL_law_4 ?_
  refine v_X11_init (T := (nZ z0 (10 + 10, 0)).1) (P := (nZ z0 (10 + 10, 0)).2.1) hG rfl ?_
  refine jd_astore_n (pc := 7) [(1, .ref (gb G + 0)), (0, .ref b)] dL_law_7 rfl (Nat.le_of_ble_eq_true rfl) rfl ?_
  have hz1 : z1.2.2 = 45 := by decide +kernel
  refine jd_newE (pc := 8) (b := 45) (rc2 := 599954) (rs2 := 7300684) (ci := 11) (N := 45) hz1 nL_10 (by decide) (by decide) dL_law_8 ?_
  refine jd_dup (pc := 11) dL_law_11 rfl ?_
  refine jd_callI (pc := 12) (M2 := mX12_init) (id := 45) (mc := 37) (ms := 1901) (rc2 := 599917) (rs2 := 7298783) (av := []) kX12_init sX12_init lL_12 rfl rfl (Nat.le_of_ble_eq_true rfl) (by decide) (by decide) dL_law_12 ?_
  refine w_X12_init hG (by show z1.2.2 + 1 = _; rw [hz1]) (by show (nZ z1 (11 + 10, 0)).1 45 = _; rw [nZ_ap, if_pos hz1.symm]) ?_
  refine jd_astore_n (pc := 15) [(2, .ref (gb G + 45)), (1, .ref (gb G + 0)), (0, .ref b)] dL_law_15 rfl (Nat.le_of_ble_eq_true rfl) rfl ?_
  refine jd_iconst (pc := 16) (v := 0) dL_law_16 (by decide) ?_
  refine jd_istore_n (pc := 17) [(3, .int 0), (2, .ref (gb G + 45)), (1, .ref (gb G + 0)), (0, .ref b)] dL_law_17 rfl (Nat.le_of_ble_eq_true rfl) rfl ?_
  refine jd_lv (lv2 := [(0, .ref b), (1, .ref (gb G + 0)), (2, .ref (gb G + 45)), (3, .int 0)]) [3, 2, 1, 0] rfl ?_
  have q0 : (0 : Int32).toInt = 0 := rfl
  exact lL_law hG hXs (by omega) (L + 7) z2 i2m _ _ _ 0 IV_start RV_start RS_start (RJ_start _) RT_start RA_start (by decide) (by rw [q0]; omega) (by rw [q0]; omega) (by rw [q0]; omega) (by rw [q0]; omega)
def R_law : String := "ThreeStrangersLaw"
def lw_P (b : Addr) (xs : List Int32) (args : Array Value) (s : State) : Prop := args = #[.ref b] ∧ s.IntsAt b xs ∧ xs.length ≤ 3072 ∧ (Jvm.Cond.and given_1 narrow_1).before args s = true
def lw_Q (_ : Array Value) (s : State) (o : Outcome) (t : State) : Prop := o = .returned (some (.int 1)) ∧ Framed s o t [] 600000 7302250
def lw_Z (below : List Frame) (a : Array Value) (s : State) : State → Prop := fun t => ∃ o, t.status = .running ∧ Ended t below o ∧ lw_Q a s o t
/-- the law's own end, with 1 on the stack, nothing written that was there before, its room as the claim has it -/
theorem lw_ret {p : Program} {l : Launch} {e : Env} {s : State} {m : MethodId} {below : List Frame} {meth : Method} {c : Code} {b : Nat} (hx : p.tables.exec = Jvm.exec) (hb : c.code = code) (hr : meth.sig.returnType = ret) (hlocks : meth.locks = false) {pc : Nat} {H : Heap} {ls : Array Slot} (hdg : decode code pc = .ok (.ireturn, 1)) : W p l e room_1 s m #[Value.ref b] below meth c H [] 600000 7302250 (lw_Z below #[Value.ref b] s) (F0 m pc ls [.int 1]) := by
  intro T hT X
  obtain ⟨fs, hret, hrun, hended, hW, hframe⟩ := X.leave (v := some (.int 1)) (hlocks := hlocks) (fun h => by rw [hr] at h; cases h)
  have hmeth' : T.vm.method? m = some meth := X.method'
  refine ⟨T.setFrames fs, ?_, .returned (some (.int 1)), hrun, hended, rfl, ⟨_, rfl⟩, hW, hframe⟩
  jvm_step X.here [X.here.top, hx, hb, hdg, hmeth', hr, ret, narrow_b1]
  (try refine ⟨rfl, ?_⟩); (try refine ⟨rfl, ?_⟩)
  first | (intro acts; rw [hret _ acts rfl rfl rfl]) | rw [hret _ _ rfl rfl rfl]
  exact Steps.refl _
/-- what holds at the law's entry: the machine, the code, the tables' words (any of lw_tbl by 'hts w (by decide +kernel)'), the script of L ints xs at the cell b, what the Statement gives of the start (any of its parts by flat_of_before) -/
def lw_At (p : Program) (s : State) (m : MethodId) (meth : Method) (c : Code) (b L : Nat) (xs : Nat → Int32) : Prop :=
  p.tables.exec = Jvm.exec ∧ c.code = code ∧ meth.sig.returnType = ret ∧ c.maxLocals = 4 ∧ s.vm.findClass R_law = some m.cls ∧ (∀ w ∈ lw_tbl, w.before #[Value.ref b] s = true) ∧ va_X b L xs s s.heap ∧ b < s.heap.size ∧ meth.locks = false ∧ (Jvm.Cond.and given_1 narrow_1).before #[Value.ref b] s = true
/-- from the entry, for every script of at most 3072 ints, the law comes to its end with true -/
theorem whole_start {p : Program} {e : Env} {s : State} {m : MethodId} {below : List Frame} {meth : Method} {c : Code} (l : Launch) {b L : Nat} {xs : Nat → Int32} (hL : L ≤ 3072) (C0 : lw_At p s m meth c b L xs) : W p l e room_1 s m #[Value.ref b] below meth c s.heap [] 0 0 (lw_Z below #[Value.ref b] s) (entryFrame m ([Value.ref b] : List Value).toArray 4) := by
  obtain ⟨hx, hb, hr, hml, hown, hts, hXs, hbl, hlocks, hg⟩ := C0
  obtain ⟨sA, sV, g0⟩ := gx_start hts hg hXs
  obtain ⟨ac, hac⟩ := ac_start hts
  obtain ⟨D, hD⟩ := kn_start hts
  have hG : gOK ((l, D, s.heap, ac, gx s.heap sA sV b L xs) : jdG) sA sV := fun U hU => ⟨va_Decl.abs hU.1.1, hU.1.2⟩
  have hK : jdK ((l, D, s.heap, ac, gx s.heap sA sV b L xs) : jdG) s := ⟨⟨hD, hac⟩, g0, fun u V hW h => gx_warm hW h⟩
  have main := sL_law (nm := meth.name) hG (fun U hU => hU.2) hL
  rw [lg_entry_eq]
  have hw := main p e room_1 s m #[Value.ref b] below meth c s.heap [] 0 0 _ ⟨hx, hb, hr, hml, hown, fun w hw => hts w (List.mem_filter.mp hw).1, hlocks, rfl, hK, by decide, by decide⟩ ⟨rfl, fun q hq => rfl, fun id u h => by cases h⟩ (fun q hq => by cases hq) (lv_entry [Value.ref b] (Nat.le_of_ble_eq_true rfl)) (by decide) (by decide)
  intro T hT X
  obtain ⟨u, a1, a2⟩ := hw T hT X
  exact ⟨u, a1, a2 rfl rfl rfl⟩
set_option maxHeartbeats 4000000 in
theorem lw_walk (l : Launch) (b : Addr) (xs : List Int32) : MetFree l x (headSpec (Jvm.Cond.code x code maxLocals ret :: tables_1) room_1) (lw_P b xs) (fun _ _ _ _ _ => True) lw_Q := by
  refine MetFree.of_bodyS (code := code) (maxLocals := maxLocals) (ret := ret) (by decide) ?_ ?_
  · intro args s m h hn
    obtain ⟨meth, c, h1, h2, h3, h4, h5, h6, -, -⟩ := Cond.code_spec hn (atoms_spec (ws := Jvm.Cond.code x code maxLocals ret :: tables_1) h _ List.mem_cons_self)
    exact ⟨meth, c, h1, h2, h3, h4, h5, h6⟩
  · intro p e s m args below meth c s₁ B hml0 hP _
    obtain ⟨rfl, hx, hbd, hgv⟩ := hP
    obtain ⟨scr, harrAt, hlist, hof, hsmall⟩ := hx
    obtain ⟨hcb, hkn, -, -⟩ := State.arrayAt?_spec harrAt
    have hown : s.vm.findClass R_law = some m.cls := findClass_of_methodNamed B.named
    have hts0 : ∀ c ∈ (Jvm.Cond.code x code maxLocals ret :: tables_1), c.before #[Value.ref b] s = true := atoms_spec (ws := Jvm.Cond.code x code maxLocals ret :: tables_1) B.pre
    have hts : ∀ w ∈ lw_tbl, w.before #[Value.ref b] s = true := k2_hts_sels lw_privs (fun w hw => hts0 w (List.mem_cons_of_mem _ hw)) lw_privs_ok
    have hml : c.maxLocals = 4 := B.maxLocals_eq (hts0 _ List.mem_cons_self)
    have X₀ : Stand p l e room_1 s m #[Value.ref b] below meth c s₁ [] 0 0 := Stand.of_body B
    have hh0 : s₁.heap = s.heap := by rw [B.state]; rfl
    have hsz : scr.slots.size = xs.length := by rw [← Array.length_toList, hlist, List.length_map]
    have hval : ∀ j : Nat, j < xs.length → scr.slots[j]? = some (.int (xs.getD j 0)) := fun j hj => by
      rw [← Array.getElem?_toList, hlist]
      simp [hj]
    have hbl : b < s.heap.size := (Array.getElem?_eq_some_iff.mp hcb).1
    have hX : va_X b xs.length (fun j => xs.getD j 0) s s.heap := ⟨scr, hcb, hof, hkn, hsz, hval⟩
    have K : W p l e room_1 s m #[Value.ref b] below meth c s₁.heap [] 0 0 (lw_Z below #[Value.ref b] s) (entryFrame m ([Value.ref b] : List Value).toArray 4) := by
      rw [hh0]
      exact whole_start l hbd ⟨B.exec, B.bytes, B.returns, hml, hown, hts, hX, hbl, B.notSynchronized, hgv⟩
    obtain ⟨t, a1, o, b1, b2, b3⟩ := K s₁ rfl X₀
    exact ⟨t, o, a1, b1, b2, b3⟩
theorem lw_pre_spec {args : Array Value} {s : State} (h : (Jvm.Cond.and given_1 narrow_1).before args s = true) (hr : rest_1_c.before args s = true) : ∃ (b : Addr) (xs : List Int32), lw_P b xs args s := by
  have hs := flat_of_before _ h
  have hq := flat_of_before _ hr
  have hc : (Cond.count 1).before args s = true := hs _ (by decide +kernel)
  have harr : (Cond.arrayOf (.arg 0) .int).before args s = true := hs _ (by decide +kernel)
  have hle : (Cond.le (.length (.arg 0)) (.int 3072)).before args s = true := hs _ (by decide +kernel)
  have hlen : (Cond.isInt (.length (.arg 0))).before args s = true := hq _ (by decide +kernel)
  have hall : (Cond.all (.arg 0) (.isInt (.elem (.arg 0) (.index 0)))).before args s = true := hq _ (by decide +kernel)
  obtain ⟨b, xs, hb, hx⟩ := State.ints_of_pre rfl harr hlen hall
  have hsm : xs.length < 2 ^ 31 := hx.choose_spec.2.2.2
  have hev : (Term.length (.arg 0)).eval args s none [] s = some (.int xs.length.toInt32) := hx.length_eval hb
  have hv := Cond.le_ints hev (show (Term.int 3072).eval args s none [] s = some (.int 3072) from rfl)
  have hd : xs.length.toInt32 ≤ 3072 := by
    simpa [Cond.before, Cond.holds, hv] using hle
  have hN : xs.length ≤ 3072 := (Int32.ofNat_le_ofNat hsm (by decide)).mp (show Int32.ofNat xs.length ≤ Int32.ofNat 3072 from hd)
  exact ⟨b, xs, Cond.one_arg hc (show args[0]? = some (.ref b) from hb), hx, hN, h⟩
theorem lw_comes (l : Launch) : Comes l x (Jvm.Cond.code x code maxLocals ret :: tables_1) room_1 (fun tb e args s => Calls_1 tb e args s ∧ rest_1 tb e args s ∧ Pre_1 tb e args s)
    (fun _ _ args s o t => lw_Q args s o t) := by
  intro p e ha hc hk s m args below hf hfit hheap happ hpre
  obtain ⟨b, xs, hP⟩ := lw_pre_spec hpre.2.2 hpre.2.1
  obtain ⟨k, o, h1, h2, h3, hQ⟩ := lw_walk l b xs p e ha hc hk s m args below hf ((Spec.applies_iff_loose hf).mp happ).1 hP trivial
  exact ⟨k, o, h1, h2, h3, hQ⟩
theorem lw_frame {s t : State} {o : Outcome} {args : Array Value} (h : Framed s o t [] 600000 7302250) :
    Framed s o t (fieldLocs frame_1_writes args s ++ arrayLocs frame_1_arrays args s ++ staticLocs frame_1_statics s) 600000 7302250 := h
theorem lw_limb (L : Cond) (hL : ∀ (args : Array Value) (s t : State), L.after args s (.returned (some (.int 1))) t = true) :
    ArmFor flags0 classFile x code maxLocals ret World_1 tables_1 room_1 Calls_1 rest_1 Pre_1
      (fun tb e a s o t => postC L tb e a s o t ∧ Framed s o t (fieldLocs frame_1_writes a s ++ arrayLocs frame_1_arrays a s ++ staticLocs frame_1_statics s) 600000 7302250) := by
  intro l _ _ _ p e ha hc hk s m args below hf hfit hheap happ hpre
  obtain ⟨k, o, h1, h2, h3, rfl, hF⟩ := lw_comes l p e ha hc hk s m args below hf hfit hheap happ hpre
  exact ⟨k, _, h1, h2, h3, hL args s _, lw_frame hF⟩
