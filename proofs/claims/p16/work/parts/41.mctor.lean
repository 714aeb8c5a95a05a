theorem vr_outer (c : ClassId) (N h0 : Nat) : ∀ i : Nat, Jvm.Free.Multi.outerC c N h0 i = arrV c N (fun j => va_rf (if j < i then some (h0 + 1 + j) else none))
  | 0 => by
    show ({ cls := c, slots := Array.replicate N .null, vm := .none } : Cell) = _
    rw [arrV_new]
    refine congrArg (arrV c N) (funext fun j => ?_)
    simp [va_rf]
  | i + 1 => by
    show (Jvm.Free.Multi.outerC c N h0 i).setSlot i (.ref (h0 + 1 + i)) = _
    rw [vr_outer c N h0 i, arrV_store]
    refine congrArg (arrV c N) (funext fun j => ?_)
    by_cases e : j = i
    · subst e
      simp [updV, va_rf]
    · by_cases h : j < i
      · simp [updV, e, h, Nat.lt_succ_of_lt h]
      · simp [updV, e, h, show ¬ j < i + 1 by omega]
theorem jd_multiI {G : jdG} {M : jdM} {F : jdF} {n rc rs pc : Nat} {lv : List (Nat × Value)} {st : List Value} {Z : jdL} {I : jdI} {J : jdJ} {N L index rc2 rs2 : Nat} {x y : Int32} (hw : Cond.classLink M.1.cls index "[[I" ∈ jdW) (ha : Cond.arrayClass .int ∈ jdW) (hX : ∀ U, G.2.2.2.2 U → (Cond.arrayOver (.array .int)).before #[] U = true) (hx : ¬ x < 0) (hy : ¬ y < 0) (hN : x.toNatClampNeg = N) (hL9 : y.toNatClampNeg = L) (h6 : N * 4 ≤ 536870912 ∧ L * 8 ≤ 536870912) (hb1 : 1 + N + rc2 ≤ rc) (hb2 : N + N * L + rs2 ≤ rs) (hdg : decode M.2.1 pc = .ok (.multianewarray index 2, 4)) (kk : Jd G M F n rc2 rs2 (pc + 4) lv (.ref (gb G + Z.2.2) :: st) (mZ Z 2 N (0, L)) (mzI I Z.2.2 N) J) : Jd G M F n rc rs pc lv (.int y :: .int x :: st) Z I J := by
  intro p e R s m args below meth c H locs cells slots ls hC hR hL hl h1 h2
  have hts := hC.2.2.2.2.2.1
  have hK := hC.2.2.2.2.2.2.2.2.1.1
  have hcl := hts _ hw
  rw [show "[[I" = "[" ++ (FieldType.array .int).toString by decide +kernel] at hcl
  subst hN
  subst hL9
  intro T hT Xs
  obtain ⟨vm₁, cA, comp, -, fA, fC, hO, -, X', step⟩ := Jvm.Stand.multianewarray2F Xs hC.1 hC.2.2.2.2.1 hcl (show (Cond.arrayOver (.array .int)).before args s = true from hX s hC.2.2.2.2.2.2.2.2.1.2.1) (hts _ ha) (g := F0 m pc ls (.int y :: .int x :: st)) rfl (by rw [hC.2.1]; exact hdg) rfl hx hy h6.1 (by show _ * 4 ≤ _; omega) (by omega) rfl rfl (by omega) (by omega)
  have ec : comp = G.2.2.2.1 0 := by
    have h9 := (hK.2 0 _ rfl).2
    have h8 : s.vm.findClass ("[" ++ (.int : FieldType).toString) = some (G.2.2.2.1 0) := h9
    exact Option.some.inj (fC.symm.trans h8)
  have ea : cA = G.2.2.2.1 2 := by
    have h9 := (hK.2 2 _ rfl).2
    have h8 : s.vm.findClass ("[" ++ (FieldType.array .int).toString) = some (G.2.2.2.1 2) := h9
    exact Option.some.inj (fA.symm.trans h8)
  subst ec
  subst ea
  generalize hF : Jvm.Free.Multi.fill (T.setVm vm₁) (G.2.2.2.1 2) (G.2.2.2.1 0) x.toNatClampNeg y.toNatClampNeg (defaultValue .int) x.toNatClampNeg = FF at X' step
  have hTh : (T.setVm vm₁).heap = H := hT
  obtain ⟨f1, f2, -, -⟩ := Jvm.Free.Multi.fill_facts (T.setVm vm₁) (G.2.2.2.1 2) (G.2.2.2.1 0) x.toNatClampNeg y.toNatClampNeg (defaultValue .int) x.toNatClampNeg
  rw [hF, hTh] at f1 f2
  have hold : ∀ q : Nat, q < H.size → FF.heap[q]? = H[q]? := fun q hq => by
    have := Jvm.Free.Multi.fill_old (T.setVm vm₁) (G.2.2.2.1 2) (G.2.2.2.1 0) x.toNatClampNeg y.toNatClampNeg (defaultValue .int) (a := q) (by rw [hTh]; exact hq) x.toNatClampNeg
    rw [hF, hTh] at this
    exact this
  have hz : ∀ c : ClassId, Jvm.Free.Multi.innerC c y.toNatClampNeg (defaultValue .int) = vp_cell c (y.toNatClampNeg, .inl (fun _ => 0)) := fun c => by
    show ({ cls := c, slots := Array.replicate y.toNatClampNeg (defaultValue .int), vm := .none } : Cell) = _
    rw [arrV_new]
    rfl
  have hrow : ∀ j : Nat, j < x.toNatClampNeg → FF.heap[H.size + 1 + j]? = some (vp_cell (G.2.2.2.1 0) (y.toNatClampNeg, .inl (fun _ => 0))) := fun j hj => by
    have := Jvm.Free.Multi.fill_inner (T.setVm vm₁) (G.2.2.2.1 2) (G.2.2.2.1 0) x.toNatClampNeg y.toNatClampNeg (defaultValue .int) x.toNatClampNeg j hj
    rw [hF, hTh, hz] at this
    exact this
  have hout : Jvm.Free.Multi.outerC (G.2.2.2.1 2) x.toNatClampNeg H.size x.toNatClampNeg = arrV (G.2.2.2.1 2) x.toNatClampNeg (fun j => va_rf (if j < x.toNatClampNeg then some (H.size + 1 + j) else none)) := vr_outer _ _ _ _
  rw [hout] at f2
  have hsz : H.size = gb G + Z.2.2 := hR.1
  have e9 : T.heap.size = gb G + Z.2.2 := by rw [hT, hsz]
  obtain ⟨t, a1, b1⟩ := kk p e R s m args below meth c FF.heap locs (cells + 1 + x.toNatClampNeg) (slots + x.toNatClampNeg + x.toNatClampNeg * y.toNatClampNeg) ls hC ⟨by
      rw [f1, hsz]
      show gb G + Z.2.2 + 1 + x.toNatClampNeg = gb G + (Z.2.2 + 1 + x.toNatClampNeg)
      omega, fun q hq => (hold q (by omega)).trans (hR.2.1 q hq), fun id u hu => by
      by_cases h8 : id = Z.2.2
      · subst h8
        have e1 : (mZ Z 2 x.toNatClampNeg (0, y.toNatClampNeg)).1 Z.2.2 = some (2, x.toNatClampNeg) := if_pos rfl
        cases e1.symm.trans hu
        rw [jdc_r _ _ _ _ _ _ _ (by omega) (by omega)]
        show FF.heap[gb G + Z.2.2]? = some (vp_cell _ _)
        rw [← hsz, f2, vp_cell_q]
        congr 2
        funext j
        have e2 : (mZ Z 2 x.toNatClampNeg (0, y.toNatClampNeg)).2.1 Z.2.2 j = if j < x.toNatClampNeg then some (Z.2.2 + 1 + j) else none := by
          simp [mZ]
        rw [e2]
        by_cases hj : j < x.toNatClampNeg
        · rw [if_pos hj, if_pos hj, hsz]
          show _ = va_rf (some (gb G + (Z.2.2 + 1 + j)))
          rw [show gb G + Z.2.2 + 1 + j = gb G + (Z.2.2 + 1 + j) by omega]
        · rw [if_neg hj, if_neg hj]
          rfl
      · by_cases h7 : Z.2.2 < id ∧ id ≤ Z.2.2 + x.toNatClampNeg
        · have e1 : (mZ Z 2 x.toNatClampNeg (0, y.toNatClampNeg)).1 id = some (0, y.toNatClampNeg) := by
            show (if id = Z.2.2 then _ else if _ then _ else _) = _
            rw [if_neg h8, if_pos h7]
          cases e1.symm.trans hu
          rw [jdc_i]
          have e3 : (mzI I Z.2.2 x.toNatClampNeg) id = (fun _ => 0) := if_pos h7
          rw [e3]
          show FF.heap[gb G + id]? = some (vp_cell _ _)
          have h5 := hrow (id - Z.2.2 - 1) (by omega)
          rw [show H.size + 1 + (id - Z.2.2 - 1) = gb G + id by omega] at h5
          exact h5
        · have e1 : (mZ Z 2 x.toNatClampNeg (0, y.toNatClampNeg)).1 id = Z.1 id := by
            show (if id = Z.2.2 then _ else if _ then _ else _) = _
            rw [if_neg h8, if_neg h7]
          rw [e1] at hu
          have e2 : jdc G (mZ Z 2 x.toNatClampNeg (0, y.toNatClampNeg)) (mzI I Z.2.2 x.toNatClampNeg) J id u = jdc G Z I J id u := by
            simp only [jdc, mZ, if_neg h8, if_neg h7, mzI]
          rw [e2]
          have hl9 := (hR.2.2 id u hu).lt
          exact (hR.2.2 id u hu).kept (hold _ hl9)⟩ hL hl (by omega) (by omega) FF rfl X'
  refine ⟨t, step t ?_, b1⟩
  rw [e9]
  exact a1
theorem jd_multiJ {G : jdG} {M : jdM} {F : jdF} {n rc rs pc : Nat} {lv : List (Nat × Value)} {st : List Value} {Z : jdL} {I : jdI} {J : jdJ} {N L index rc2 rs2 : Nat} {x y : Int32} (hw : Cond.classLink M.1.cls index "[[J" ∈ jdW) (ha : Cond.arrayClass .long ∈ jdW) (hX : ∀ U, G.2.2.2.2 U → (Cond.arrayOver (.array .long)).before #[] U = true) (hx : ¬ x < 0) (hy : ¬ y < 0) (hN : x.toNatClampNeg = N) (hL9 : y.toNatClampNeg = L) (h6 : N * 4 ≤ 536870912 ∧ L * 8 ≤ 536870912) (hb1 : 1 + N + rc2 ≤ rc) (hb2 : N + N * L + rs2 ≤ rs) (hdg : decode M.2.1 pc = .ok (.multianewarray index 2, 4)) (kk : Jd G M F n rc2 rs2 (pc + 4) lv (.ref (gb G + Z.2.2) :: st) (mZ Z 3 N (1, L)) I (mzJ J Z.2.2 N)) : Jd G M F n rc rs pc lv (.int y :: .int x :: st) Z I J := by
  intro p e R s m args below meth c H locs cells slots ls hC hR hL hl h1 h2
  have hts := hC.2.2.2.2.2.1
  have hK := hC.2.2.2.2.2.2.2.2.1.1
  have hcl := hts _ hw
  rw [show "[[J" = "[" ++ (FieldType.array .long).toString by decide +kernel] at hcl
  subst hN
  subst hL9
  intro T hT Xs
  obtain ⟨vm₁, cA, comp, -, fA, fC, hO, -, X', step⟩ := Jvm.Stand.multianewarray2F Xs hC.1 hC.2.2.2.2.1 hcl (show (Cond.arrayOver (.array .long)).before args s = true from hX s hC.2.2.2.2.2.2.2.2.1.2.1) (hts _ ha) (g := F0 m pc ls (.int y :: .int x :: st)) rfl (by rw [hC.2.1]; exact hdg) rfl hx hy h6.1 (by show _ * 8 ≤ _; omega) (by omega) rfl rfl (by omega) (by omega)
  have ec : comp = G.2.2.2.1 1 := by
    have h9 := (hK.2 1 _ rfl).2
    have h8 : s.vm.findClass ("[" ++ (.long : FieldType).toString) = some (G.2.2.2.1 1) := h9
    exact Option.some.inj (fC.symm.trans h8)
  have ea : cA = G.2.2.2.1 3 := by
    have h9 := (hK.2 3 _ rfl).2
    have h8 : s.vm.findClass ("[" ++ (FieldType.array .long).toString) = some (G.2.2.2.1 3) := h9
    exact Option.some.inj (fA.symm.trans h8)
  subst ec
  subst ea
  generalize hF : Jvm.Free.Multi.fill (T.setVm vm₁) (G.2.2.2.1 3) (G.2.2.2.1 1) x.toNatClampNeg y.toNatClampNeg (defaultValue .long) x.toNatClampNeg = FF at X' step
  have hTh : (T.setVm vm₁).heap = H := hT
  obtain ⟨f1, f2, -, -⟩ := Jvm.Free.Multi.fill_facts (T.setVm vm₁) (G.2.2.2.1 3) (G.2.2.2.1 1) x.toNatClampNeg y.toNatClampNeg (defaultValue .long) x.toNatClampNeg
  rw [hF, hTh] at f1 f2
  have hold : ∀ q : Nat, q < H.size → FF.heap[q]? = H[q]? := fun q hq => by
    have := Jvm.Free.Multi.fill_old (T.setVm vm₁) (G.2.2.2.1 3) (G.2.2.2.1 1) x.toNatClampNeg y.toNatClampNeg (defaultValue .long) (a := q) (by rw [hTh]; exact hq) x.toNatClampNeg
    rw [hF, hTh] at this
    exact this
  have hz : ∀ c : ClassId, Jvm.Free.Multi.innerC c y.toNatClampNeg (defaultValue .long) = vp_cell c (y.toNatClampNeg, .inr (.inl (fun _ => 0))) := fun c => by
    show ({ cls := c, slots := Array.replicate y.toNatClampNeg (defaultValue .long), vm := .none } : Cell) = _
    rw [arrV_new]
    rfl
  have hrow : ∀ j : Nat, j < x.toNatClampNeg → FF.heap[H.size + 1 + j]? = some (vp_cell (G.2.2.2.1 1) (y.toNatClampNeg, .inr (.inl (fun _ => 0)))) := fun j hj => by
    have := Jvm.Free.Multi.fill_inner (T.setVm vm₁) (G.2.2.2.1 3) (G.2.2.2.1 1) x.toNatClampNeg y.toNatClampNeg (defaultValue .long) x.toNatClampNeg j hj
    rw [hF, hTh, hz] at this
    exact this
  have hout : Jvm.Free.Multi.outerC (G.2.2.2.1 3) x.toNatClampNeg H.size x.toNatClampNeg = arrV (G.2.2.2.1 3) x.toNatClampNeg (fun j => va_rf (if j < x.toNatClampNeg then some (H.size + 1 + j) else none)) := vr_outer _ _ _ _
  rw [hout] at f2
  have hsz : H.size = gb G + Z.2.2 := hR.1
  have e9 : T.heap.size = gb G + Z.2.2 := by rw [hT, hsz]
  obtain ⟨t, a1, b1⟩ := kk p e R s m args below meth c FF.heap locs (cells + 1 + x.toNatClampNeg) (slots + x.toNatClampNeg + x.toNatClampNeg * y.toNatClampNeg) ls hC ⟨by
      rw [f1, hsz]
      show gb G + Z.2.2 + 1 + x.toNatClampNeg = gb G + (Z.2.2 + 1 + x.toNatClampNeg)
      omega, fun q hq => (hold q (by omega)).trans (hR.2.1 q hq), fun id u hu => by
      by_cases h8 : id = Z.2.2
      · subst h8
        have e1 : (mZ Z 3 x.toNatClampNeg (1, y.toNatClampNeg)).1 Z.2.2 = some (3, x.toNatClampNeg) := if_pos rfl
        cases e1.symm.trans hu
        rw [jdc_r _ _ _ _ _ _ _ (by omega) (by omega)]
        show FF.heap[gb G + Z.2.2]? = some (vp_cell _ _)
        rw [← hsz, f2, vp_cell_q]
        congr 2
        funext j
        have e2 : (mZ Z 3 x.toNatClampNeg (1, y.toNatClampNeg)).2.1 Z.2.2 j = if j < x.toNatClampNeg then some (Z.2.2 + 1 + j) else none := by
          simp [mZ]
        rw [e2]
        by_cases hj : j < x.toNatClampNeg
        · rw [if_pos hj, if_pos hj, hsz]
          show _ = va_rf (some (gb G + (Z.2.2 + 1 + j)))
          rw [show gb G + Z.2.2 + 1 + j = gb G + (Z.2.2 + 1 + j) by omega]
        · rw [if_neg hj, if_neg hj]
          rfl
      · by_cases h7 : Z.2.2 < id ∧ id ≤ Z.2.2 + x.toNatClampNeg
        · have e1 : (mZ Z 3 x.toNatClampNeg (1, y.toNatClampNeg)).1 id = some (1, y.toNatClampNeg) := by
            show (if id = Z.2.2 then _ else if _ then _ else _) = _
            rw [if_neg h8, if_pos h7]
          cases e1.symm.trans hu
          rw [jdc_l]
          have e3 : (mzJ J Z.2.2 x.toNatClampNeg) id = (fun _ => 0) := if_pos h7
          rw [e3]
          show FF.heap[gb G + id]? = some (vp_cell _ _)
          have h5 := hrow (id - Z.2.2 - 1) (by omega)
          rw [show H.size + 1 + (id - Z.2.2 - 1) = gb G + id by omega] at h5
          exact h5
        · have e1 : (mZ Z 3 x.toNatClampNeg (1, y.toNatClampNeg)).1 id = Z.1 id := by
            show (if id = Z.2.2 then _ else if _ then _ else _) = _
            rw [if_neg h8, if_neg h7]
          rw [e1] at hu
          have e2 : jdc G (mZ Z 3 x.toNatClampNeg (1, y.toNatClampNeg)) I (mzJ J Z.2.2 x.toNatClampNeg) id u = jdc G Z I J id u := by
            simp only [jdc, mZ, if_neg h8, if_neg h7, mzJ]
          rw [e2]
          have hl9 := (hR.2.2 id u hu).lt
          exact (hR.2.2 id u hu).kept (hold _ hl9)⟩ hL hl (by omega) (by omega) FF rfl X'
  refine ⟨t, step t ?_, b1⟩
  rw [e9]
  exact a1
def kModelZ (Z : jdL) (t : Nat) : jdL := (sA (sA (sA (sA (sA (sA (sA (sA (sA (uP (mZ (sA (sA (sA (sA (sA (sA (sA (uP (mZ (sA (sA (sA Z t 0 (0, 8)) t 1 (0, 8)) t 2 (0, 8)) 3 8 (1, 40)) t 3 (some (t + 4))) t 4 (1, 40)) t 5 (0, 8)) t 6 (0, 8)) t 7 (0, 250)) t 9 (0, 8)) t 11 (0, 8)) t 12 (0, 8)) 2 8 (0, 8)) t 13 (some (t + 20))) t 27 (0, 2)) t 29 (0, 70)) t 31 (0, 7)) t 32 (0, 7)) t 35 (0, 7)) t 36 (0, 1024)) t 39 (0, 10)) t 40 (0, 10)) t 41 (0, 10))
def kModelI (I : jdI) (t : Nat) : jdI := (zI (zI (zI (zI (zI (zI (zI (zI (zI (uI (uI (mzI (zI (zI (zI (zI (zI (zI (zI (zI (zI I (t + 1)) (t + 2)) (t + 3)) (t + 14)) (t + 15)) (t + 16)) (t + 17)) (t + 18)) (t + 19)) (t + 20) 8) t 14 3) t 19 1) (t + 29)) (t + 30)) (t + 31)) (t + 32)) (t + 33)) (t + 34)) (t + 35)) (t + 36)) (t + 37))
def kModelJ (J : jdJ) (t : Nat) : jdJ := (zJ (mzJ J (t + 4) 8) (t + 13))
set_option maxRecDepth 8000 in
set_option maxHeartbeats 4000000 in
theorem v_X12_init {G : jdG} {n : Nat} {T : Nat → Option (Nat × Nat)} {P : Nat → Nat → Option Nat} {t : Nat} {I : jdI} {J : jdJ} {Q : jdQ} {sA sV : Nat → Nat} (hG : gOK G sA sV) (hT0 : T t = some (11 + 10, 0)) (h : Q none (kModelZ (T, P, t + 1) t) (kModelI I t) (kModelJ J t)) : Cl G mX12_init (n + 1) 37 1901 [.ref (gb G + t)] (T, P, t + 1) I J Q := by
  refine Cl.of (by decide +kernel) (Nat.le_of_ble_eq_true rfl) ?_
  have hT : ((T, P, t + 1) : jdL).1 t = some (11 + 10, 0) := hT0
  have hlt : t < ((T, P, t + 1) : jdL).2.2 := Nat.lt_succ_self t
  refine jd_aload_n (pc := 0) 0 dX12_init_0 rfl rfl ?_
  refine jd_objInit (pc := 1) oX12_1 (Nat.le_of_ble_eq_true rfl) dX12_init_1 ?_
  refine jd_aload_n (pc := 4) 0 dX12_init_4 rfl rfl ?_
  refine jd_bipush (pc := 5) (v := 8) dX12_init_5 (by decide) ?_
  refine jd_newI (pc := 7) (rc2 := 36) (rs2 := 1893) (len := 8) w_aI (by decide) (by decide) (by decide) (by decide) (by decide) dX12_init_7 ?_
  have hT := nZ_T (ty := (0, 8)) hT hlt
  have hlt := nZ_lt (ty := (0, 8)) hlt
  refine jd_putFR (pc := 9) (ci := 11) (k := 0) rfl pX12_7 hT rfl rfl rfl dX12_init_9 ?_
  refine jd_aload_n (pc := 12) 0 dX12_init_12 rfl rfl ?_
  refine jd_bipush (pc := 13) (v := 8) dX12_init_13 (by decide) ?_
  refine jd_newI (pc := 15) (rc2 := 35) (rs2 := 1885) (len := 8) w_aI (by decide) (by decide) (by decide) (by decide) (by decide) dX12_init_15 ?_
  have hT := nZ_T (ty := (0, 8)) hT hlt
  have hlt := nZ_lt (ty := (0, 8)) hlt
  refine jd_putFR (pc := 17) (ci := 11) (k := 1) rfl pX12_13 hT rfl rfl rfl dX12_init_17 ?_
  refine jd_aload_n (pc := 20) 0 dX12_init_20 rfl rfl ?_
  refine jd_bipush (pc := 21) (v := 8) dX12_init_21 (by decide) ?_
  refine jd_newI (pc := 23) (rc2 := 34) (rs2 := 1877) (len := 8) w_aI (by decide) (by decide) (by decide) (by decide) (by decide) dX12_init_23 ?_
  have hT := nZ_T (ty := (0, 8)) hT hlt
  have hlt := nZ_lt (ty := (0, 8)) hlt
  refine jd_putFR (pc := 25) (ci := 11) (k := 2) rfl pX12_16 hT rfl rfl rfl dX12_init_25 ?_
  refine jd_aload_n (pc := 28) 0 dX12_init_28 rfl rfl ?_
  refine jd_bipush (pc := 29) (v := 8) dX12_init_29 (by decide) ?_
  refine jd_bipush (pc := 31) (v := 40) dX12_init_31 (by decide) ?_
  refine jd_multiJ (pc := 33) (rc2 := 25) (rs2 := 1549) (N := 8) (L := 40) hX12_19 w_aJ (fun U hU => (gOK_over hG U hU).2) (by decide) (by decide) (by decide) (by decide) (by decide) (by decide) (by decide) dX12_init_33 ?_
  have hT := mZ_T (kd := 3) (N := 8) (ty := (1, 40)) hT hlt
  have hlt := mZ_lt (kd := 3) (N := 8) (ty := (1, 40)) hlt
  refine jd_putFR (pc := 37) (ci := 11) (k := 3) rfl pX12_21 hT rfl rfl rfl dX12_init_37 ?_
  refine jd_aload_n (pc := 40) 0 dX12_init_40 rfl rfl ?_
  refine jd_bipush (pc := 41) (v := 40) dX12_init_41 (by decide) ?_
  refine jd_newJ (pc := 43) (rc2 := 24) (rs2 := 1509) (len := 40) w_aJ (by decide) (by decide) (by decide) (by decide) (by decide) dX12_init_43 ?_
  have hT := nZ_T (ty := (1, 40)) hT hlt
  have hlt := nZ_lt (ty := (1, 40)) hlt
  refine jd_putFR (pc := 45) (ci := 11) (k := 4) rfl pX12_24 hT rfl rfl rfl dX12_init_45 ?_
  refine jd_aload_n (pc := 48) 0 dX12_init_48 rfl rfl ?_
  refine jd_bipush (pc := 49) (v := 8) dX12_init_49 (by decide) ?_
  refine jd_newI (pc := 51) (rc2 := 23) (rs2 := 1501) (len := 8) w_aI (by decide) (by decide) (by decide) (by decide) (by decide) dX12_init_51 ?_
  have hT := nZ_T (ty := (0, 8)) hT hlt
  have hlt := nZ_lt (ty := (0, 8)) hlt
  refine jd_putFR (pc := 53) (ci := 11) (k := 5) rfl pX12_28 hT rfl rfl rfl dX12_init_53 ?_
  refine jd_aload_n (pc := 56) 0 dX12_init_56 rfl rfl ?_
  refine jd_bipush (pc := 57) (v := 8) dX12_init_57 (by decide) ?_
  refine jd_newI (pc := 59) (rc2 := 22) (rs2 := 1493) (len := 8) w_aI (by decide) (by decide) (by decide) (by decide) (by decide) dX12_init_59 ?_
  have hT := nZ_T (ty := (0, 8)) hT hlt
  have hlt := nZ_lt (ty := (0, 8)) hlt
  refine jd_putFR (pc := 61) (ci := 11) (k := 6) rfl pX12_31 hT rfl rfl rfl dX12_init_61 ?_
  refine jd_aload_n (pc := 64) 0 dX12_init_64 rfl rfl ?_
  refine jd_sipush (pc := 65) (v := 250) dX12_init_65 (by decide) ?_
  refine jd_newI (pc := 68) (rc2 := 21) (rs2 := 1243) (len := 250) w_aI (by decide) (by decide) (by decide) (by decide) (by decide) dX12_init_68 ?_
  have hT := nZ_T (ty := (0, 250)) hT hlt
  have hlt := nZ_lt (ty := (0, 250)) hlt
  refine jd_putFR (pc := 70) (ci := 11) (k := 7) rfl pX12_34 hT rfl rfl rfl dX12_init_70 ?_
  refine jd_aload_n (pc := 73) 0 dX12_init_73 rfl rfl ?_
  refine jd_bipush (pc := 74) (v := 8) dX12_init_74 (by decide) ?_
  refine jd_newI (pc := 76) (rc2 := 20) (rs2 := 1235) (len := 8) w_aI (by decide) (by decide) (by decide) (by decide) (by decide) dX12_init_76 ?_
  have hT := nZ_T (ty := (0, 8)) hT hlt
  have hlt := nZ_lt (ty := (0, 8)) hlt
  refine jd_putFR (pc := 78) (ci := 11) (k := 9) rfl pX12_37 hT rfl rfl rfl dX12_init_78 ?_
  refine jd_aload_n (pc := 81) 0 dX12_init_81 rfl rfl ?_
  refine jd_bipush (pc := 82) (v := 8) dX12_init_82 (by decide) ?_
  refine jd_newI (pc := 84) (rc2 := 19) (rs2 := 1227) (len := 8) w_aI (by decide) (by decide) (by decide) (by decide) (by decide) dX12_init_84 ?_
  have hT := nZ_T (ty := (0, 8)) hT hlt
  have hlt := nZ_lt (ty := (0, 8)) hlt
  refine jd_putFR (pc := 86) (ci := 11) (k := 11) rfl pX12_40 hT rfl rfl rfl dX12_init_86 ?_
  refine jd_aload_n (pc := 89) 0 dX12_init_89 rfl rfl ?_
  refine jd_bipush (pc := 90) (v := 8) dX12_init_90 (by decide) ?_
  refine jd_newI (pc := 92) (rc2 := 18) (rs2 := 1219) (len := 8) w_aI (by decide) (by decide) (by decide) (by decide) (by decide) dX12_init_92 ?_
  have hT := nZ_T (ty := (0, 8)) hT hlt
  have hlt := nZ_lt (ty := (0, 8)) hlt
  refine jd_putFR (pc := 94) (ci := 11) (k := 12) rfl pX12_43 hT rfl rfl rfl dX12_init_94 ?_
  refine jd_aload_n (pc := 97) 0 dX12_init_97 rfl rfl ?_
  refine jd_bipush (pc := 98) (v := 8) dX12_init_98 (by decide) ?_
  refine jd_bipush (pc := 100) (v := 8) dX12_init_100 (by decide) ?_
  refine jd_multiI (pc := 102) (rc2 := 9) (rs2 := 1147) (N := 8) (L := 8) hX12_46 w_aI (fun U hU => (gOK_over hG U hU).1) (by decide) (by decide) (by decide) (by decide) (by decide) (by decide) (by decide) dX12_init_102 ?_
  have hT := mZ_T (kd := 2) (N := 8) (ty := (0, 8)) hT hlt
  have hlt := mZ_lt (kd := 2) (N := 8) (ty := (0, 8)) hlt
  refine jd_putFR (pc := 106) (ci := 11) (k := 13) rfl pX12_48 hT rfl rfl rfl dX12_init_106 ?_
  refine jd_aload_n (pc := 109) 0 dX12_init_109 rfl rfl ?_
  refine jd_iconst (pc := 110) (v := 3) dX12_init_110 (by decide) ?_
  refine jd_putI (pc := 111) (ci := 11) (k := 14) pX12_51 hT rfl rfl rfl dX12_init_111 ?_
  refine jd_aload_n (pc := 114) 0 dX12_init_114 rfl rfl ?_
  refine jd_iconst (pc := 115) (v := 1) dX12_init_115 (by decide) ?_
  refine jd_putI (pc := 116) (ci := 11) (k := 19) pX12_55 hT rfl rfl rfl dX12_init_116 ?_
  refine jd_aload_n (pc := 119) 0 dX12_init_119 rfl rfl ?_
  refine jd_iconst (pc := 120) (v := 2) dX12_init_120 (by decide) ?_
  refine jd_newI (pc := 121) (rc2 := 8) (rs2 := 1145) (len := 2) w_aI (by decide) (by decide) (by decide) (by decide) (by decide) dX12_init_121 ?_
  have hT := nZ_T (ty := (0, 2)) hT hlt
  have hlt := nZ_lt (ty := (0, 2)) hlt
  refine jd_putFR (pc := 123) (ci := 11) (k := 27) rfl pX12_58 hT rfl rfl rfl dX12_init_123 ?_
  refine jd_aload_n (pc := 126) 0 dX12_init_126 rfl rfl ?_
  refine jd_bipush (pc := 127) (v := 70) dX12_init_127 (by decide) ?_
  refine jd_newI (pc := 129) (rc2 := 7) (rs2 := 1075) (len := 70) w_aI (by decide) (by decide) (by decide) (by decide) (by decide) dX12_init_129 ?_
  have hT := nZ_T (ty := (0, 70)) hT hlt
  have hlt := nZ_lt (ty := (0, 70)) hlt
  refine jd_putFR (pc := 131) (ci := 11) (k := 29) rfl pX12_61 hT rfl rfl rfl dX12_init_131 ?_
  refine jd_aload_n (pc := 134) 0 dX12_init_134 rfl rfl ?_
  refine jd_bipush (pc := 135) (v := 7) dX12_init_135 (by decide) ?_
  refine jd_newI (pc := 137) (rc2 := 6) (rs2 := 1068) (len := 7) w_aI (by decide) (by decide) (by decide) (by decide) (by decide) dX12_init_137 ?_
  have hT := nZ_T (ty := (0, 7)) hT hlt
  have hlt := nZ_lt (ty := (0, 7)) hlt
  refine jd_putFR (pc := 139) (ci := 11) (k := 31) rfl pX12_64 hT rfl rfl rfl dX12_init_139 ?_
  refine jd_aload_n (pc := 142) 0 dX12_init_142 rfl rfl ?_
  refine jd_bipush (pc := 143) (v := 7) dX12_init_143 (by decide) ?_
  refine jd_newI (pc := 145) (rc2 := 5) (rs2 := 1061) (len := 7) w_aI (by decide) (by decide) (by decide) (by decide) (by decide) dX12_init_145 ?_
  have hT := nZ_T (ty := (0, 7)) hT hlt
  have hlt := nZ_lt (ty := (0, 7)) hlt
  refine jd_putFR (pc := 147) (ci := 11) (k := 32) rfl pX12_67 hT rfl rfl rfl dX12_init_147 ?_
  refine jd_aload_n (pc := 150) 0 dX12_init_150 rfl rfl ?_
  refine jd_bipush (pc := 151) (v := 7) dX12_init_151 (by decide) ?_
  refine jd_newI (pc := 153) (rc2 := 4) (rs2 := 1054) (len := 7) w_aI (by decide) (by decide) (by decide) (by decide) (by decide) dX12_init_153 ?_
  have hT := nZ_T (ty := (0, 7)) hT hlt
  have hlt := nZ_lt (ty := (0, 7)) hlt
  refine jd_putFR (pc := 155) (ci := 11) (k := 35) rfl pX12_70 hT rfl rfl rfl dX12_init_155 ?_
  refine jd_aload_n (pc := 158) 0 dX12_init_158 rfl rfl ?_
  refine jd_sipush (pc := 159) (v := 1024) dX12_init_159 (by decide) ?_
  refine jd_newI (pc := 162) (rc2 := 3) (rs2 := 30) (len := 1024) w_aI (by decide) (by decide) (by decide) (by decide) (by decide) dX12_init_162 ?_
  have hT := nZ_T (ty := (0, 1024)) hT hlt
  have hlt := nZ_lt (ty := (0, 1024)) hlt
  refine jd_putFR (pc := 164) (ci := 11) (k := 36) rfl pX12_73 hT rfl rfl rfl dX12_init_164 ?_
  refine jd_aload_n (pc := 167) 0 dX12_init_167 rfl rfl ?_
  refine jd_bipush (pc := 168) (v := 10) dX12_init_168 (by decide) ?_
  refine jd_newI (pc := 170) (rc2 := 2) (rs2 := 20) (len := 10) w_aI (by decide) (by decide) (by decide) (by decide) (by decide) dX12_init_170 ?_
  have hT := nZ_T (ty := (0, 10)) hT hlt
  have hlt := nZ_lt (ty := (0, 10)) hlt
  refine jd_putFR (pc := 172) (ci := 11) (k := 39) rfl pX12_76 hT rfl rfl rfl dX12_init_172 ?_
  refine jd_aload_n (pc := 175) 0 dX12_init_175 rfl rfl ?_
  refine jd_bipush (pc := 176) (v := 10) dX12_init_176 (by decide) ?_
  refine jd_newI (pc := 178) (rc2 := 1) (rs2 := 10) (len := 10) w_aI (by decide) (by decide) (by decide) (by decide) (by decide) dX12_init_178 ?_
  have hT := nZ_T (ty := (0, 10)) hT hlt
  have hlt := nZ_lt (ty := (0, 10)) hlt
  refine jd_putFR (pc := 180) (ci := 11) (k := 40) rfl pX12_79 hT rfl rfl rfl dX12_init_180 ?_
  refine jd_aload_n (pc := 183) 0 dX12_init_183 rfl rfl ?_
  refine jd_bipush (pc := 184) (v := 10) dX12_init_184 (by decide) ?_
  refine jd_newI (pc := 186) (rc2 := 0) (rs2 := 0) (len := 10) w_aI (by decide) (by decide) (by decide) (by decide) (by decide) dX12_init_186 ?_
  have hT := nZ_T (ty := (0, 10)) hT hlt
  have hlt := nZ_lt (ty := (0, 10)) hlt
  refine jd_putFR (pc := 188) (ci := 11) (k := 41) rfl pX12_82 hT rfl rfl rfl dX12_init_188 ?_
  exact jd_vret (pc := 191) rfl dX12_init_191 h
