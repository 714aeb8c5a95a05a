/-! rows that read and write the memory -/
/-- a field that is read: which class and place, the words -/
def jdFg (ci k : Nat) (own : String) (index : Nat) : Prop := ∃ (C : String) (T : u_T) (N : Nat), vwCl[ci]? = some (C, T, N) ∧ k < N ∧ (∀ w ∈ u_ws C T N, w ∈ jdW) ∧ Cond.fieldLink own index (T k).1 (T k).2.1 (T k).2.2.1 ∈ jdW
/-- a field that is written -/
def jdFp (ci k : Nat) (own : String) (index : Nat) (fin : Bool) (ty : FieldType) : Prop := ∃ (C : String) (T : u_T) (N : Nat) (ty0 : Nat → FieldType), vwCl[ci]? = some (C, T, N) ∧ k < N ∧ (∀ w ∈ u_ws C T N, w ∈ jdW) ∧ Cond.fieldLink own index (T k).1 (T k).2.1 (T k).2.2.1 ∈ jdW ∧ (∀ k, k < N → parseFieldDescriptor (T k).2.2.1 = some (ty0 k)) ∧ (∀ a, a < N → ∀ b, b < N → a ≠ b → (T a).2.1 ≠ (T b).2.1) ∧ (T k).2.2.2 = fin ∧ parseFieldDescriptor (T k).2.2.1 = some ty ∧ (fin = true → (T k).1 = own)
theorem jdc_o (G : jdG) (Z : jdL) (I : jdI) (J : jdJ) (id ci : Nat) : jdc G Z I J id (ci + 10, 0) = .inr (ci, jdf (gb G) (Z.2.1 id) (I id) (jdk ci) 0) := by
  simp [jdc]
theorem jdc_i (G : jdG) (Z : jdL) (I : jdI) (J : jdJ) (id n : Nat) : jdc G Z I J id (0, n) = .inl (G.2.2.2.1 0, n, .inl (I id)) := by
  simp [jdc]
theorem jdc_l (G : jdG) (Z : jdL) (I : jdI) (J : jdJ) (id n : Nat) : jdc G Z I J id (1, n) = .inl (G.2.2.2.1 1, n, .inr (.inl (J id))) := by
  simp [jdc]
theorem jdc_r (G : jdG) (Z : jdL) (I : jdI) (J : jdJ) (id n k : Nat) (h1 : 1 < k) (h2 : k < 10) : jdc G Z I J id (k, n) = .inl (G.2.2.2.1 k, n, .inr (.inr (.inr (.inr (fun i => (Z.2.1 id i).map (fun x => gb G + x)))))) := by
  have e1 : ¬ k = 0 := by omega
  have e2 : ¬ k = 1 := by omega
  simp [jdc, e1, e2, h2]
section HP
variable {G : jdG} {M : jdM} {F : jdF} {n rc rs pc : Nat} {lv : List (Nat × Value)} {st : List Value} {Z : jdL} {I : jdI} {J : jdJ}
theorem jd_getI {id ci k index : Nat} (hf : jdFg ci k M.1.cls index) (hT : Z.1 id = some (ci + 10, 0)) (hk : (jdk ci)[k]? = some false) (hdg : decode M.2.1 pc = .ok (.getfield index, 3)) (kk : Jd G M F n rc rs (pc + 3) lv (.int (I id k) :: st) Z I J) : Jd G M F n rc rs pc lv (.ref (gb G + id) :: st) Z I J := by
  intro p e R s m args below meth c H locs cells slots ls hC hR hL hl h1 h2
  obtain ⟨C, T, N, hc, hkN, hin, hw⟩ := hf
  have hP := jdR_one hR hT
  rw [jdc_o] at hP
  refine va_get (D := G.2.1) (ci := ci) (v := .int (I id k)) hC.1 hC.2.1 hC.2.2.2.2.2.1 hin hC.2.2.2.2.1 hC.2.2.2.2.2.2.2.2.1.1 hP 0 rfl hc k hkN (hC.2.2.2.2.2.1 _ hw) (fun _ h => h) ?_ hdg (kk p e R s m args below meth c H locs cells slots ls hC hR hL hl h1 h2)
  rw [jdf_get, hk]
  simp
theorem jd_getR {id ci k index r : Nat} (hf : jdFg ci k M.1.cls index) (hT : Z.1 id = some (ci + 10, 0)) (hk : (jdk ci)[k]? = some true) (hp : Z.2.1 id k = some r) (hdg : decode M.2.1 pc = .ok (.getfield index, 3)) (kk : Jd G M F n rc rs (pc + 3) lv (.ref (gb G + r) :: st) Z I J) : Jd G M F n rc rs pc lv (.ref (gb G + id) :: st) Z I J := by
  intro p e R s m args below meth c H locs cells slots ls hC hR hL hl h1 h2
  obtain ⟨C, T, N, hc, hkN, hin, hw⟩ := hf
  have hP := jdR_one hR hT
  rw [jdc_o] at hP
  refine va_get (D := G.2.1) (ci := ci) (v := .ref (gb G + r)) hC.1 hC.2.1 hC.2.2.2.2.2.1 hin hC.2.2.2.2.1 hC.2.2.2.2.2.2.2.2.1.1 hP 0 rfl hc k hkN (hC.2.2.2.2.2.1 _ hw) (fun _ h => h) ?_ hdg (kk p e R s m args below meth c H locs cells slots ls hC hR hL hl h1 h2)
  rw [jdf_get, hk]
  simp [hp, va_rf]
theorem jd_getN {id ci k index : Nat} (hf : jdFg ci k M.1.cls index) (hT : Z.1 id = some (ci + 10, 0)) (hk : (jdk ci)[k]? = some true) (hp : Z.2.1 id k = none) (hdg : decode M.2.1 pc = .ok (.getfield index, 3)) (kk : Jd G M F n rc rs (pc + 3) lv (.null :: st) Z I J) : Jd G M F n rc rs pc lv (.ref (gb G + id) :: st) Z I J := by
  intro p e R s m args below meth c H locs cells slots ls hC hR hL hl h1 h2
  obtain ⟨C, T, N, hc, hkN, hin, hw⟩ := hf
  have hP := jdR_one hR hT
  rw [jdc_o] at hP
  refine va_get (D := G.2.1) (ci := ci) (v := .null) hC.1 hC.2.1 hC.2.2.2.2.2.1 hin hC.2.2.2.2.1 hC.2.2.2.2.2.2.2.2.1.1 hP 0 rfl hc k hkN (hC.2.2.2.2.2.1 _ hw) (fun _ h => h) ?_ hdg (kk p e R s m args below meth c H locs cells slots ls hC hR hL hl h1 h2)
  rw [jdf_get, hk]
  simp [hp, va_rf]
theorem jd_locs {locs : List Loc} {id k : Nat} (hL : ∀ q ∈ locs, gb G ≤ q.base) : ∀ q ∈ locs ++ [⟨gb G + id, k⟩], gb G ≤ q.base := by
  intro q hq
  rcases List.mem_append.mp hq with h | h
  · exact hL q h
  · rw [List.mem_singleton.mp h]
    exact Nat.le_add_right _ _
/-- writing a field: what any value does -/
theorem jd_put {id ci k index : Nat} {ty : FieldType} {v : Value} {Z' : jdL} {I' : jdI} (hf : jdFp ci k M.1.cls index false ty) (hT : Z.1 id = some (ci + 10, 0)) (hk : k < (jdk ci).length) (hn : narrow ty v = v) (hfit : fits ty v = true) (hdg : decode M.2.1 pc = .ok (.putfield index, 3))
    (h3 : Z'.1 = Z.1) (h4 : Z'.2.2 = Z.2.2) (hoth : ∀ (j : Nat) (u : Nat × Nat), j ≠ id → jdc G Z' I' J j u = jdc G Z I J j u) (hnew : (jdf (gb G) (Z.2.1 id) (I id) (jdk ci) 0).set k v = jdf (gb G) (Z'.2.1 id) (I' id) (jdk ci) 0)
    (kk : Jd G M F n rc rs (pc + 3) lv st Z' I' J) : Jd G M F n rc rs pc lv (v :: .ref (gb G + id) :: st) Z I J := by
  intro p e R s m args below meth c H locs cells slots ls hC hR hL hl h1 h2
  obtain ⟨C, T, N, ty0, hc, hkN, hin, hw, hty, hnm, hfin, hd, -⟩ := hf
  have hts := hC.2.2.2.2.2.1
  have hK := hC.2.2.2.2.2.2.2.2.1.1
  have hap := va_apart (own := M.1.cls) hts hin ty0 hty hnm hK hc
  have hat := hR.2.2 id _ hT
  rw [jdc_o] at hat
  obtain ⟨r, hr1, cell, q1, q2, q3, q4⟩ := hat
  have hr : r = (C, T, N) := Option.some.inj (hr1.symm.trans hc)
  subst hr
  obtain ⟨hS, hfc, kC, hkC, hkind⟩ := hK.1 ci _ hc
  obtain ⟨cf, kf, fi, f, hi, hsl⟩ := hS k hkN
  have hlay := hts _ (hin _ (u_in_lay hkN))
  unfold u_lay at hlay
  rw [if_neg (by rw [hfin]; decide)] at hlay
  have hst := (u_facts hfc hkC (u_lays hts hin hkN) hi).1
  have h6 := u_store hfc hkC hkind hlay hi hd hn hfit
  refine W.putK hC.1 hC.2.1 (f := f) ⟨hC.2.2.2.2.1, hts _ hw, ⟨_, _, _, hi⟩, hst⟩ (by rw [q2]; exact h6) q1 q3 (by rw [hsl]; exact k2_hasslot (q4 k hkN)) rfl rfl hdg fun H' e1 e2 e3 => ?_
  rw [hsl] at e1
  refine kk p e R s m args below meth c H' _ cells slots ls hC (jdR_set hR hT e2 e3 h3 h4 hoth ?_) (jd_locs hL) hl h1 h2
  rw [jdc_o, ← hnew]
  exact ⟨_, hc, t_OB.to (V := updV (vp_V (jdf (gb G) (Z.2.1 id) (I id) (jdk ci) 0)) k v) ⟨_, e1, q2, q3, t_set q4 hap hkN v⟩ (fun j _ => vp_updV_set (by rw [jdf_len]; exact hk) v j)⟩
theorem jd_putI {id ci k index : Nat} {ty : FieldType} {v : Int32} (hf : jdFp ci k M.1.cls index false ty) (hT : Z.1 id = some (ci + 10, 0)) (hk : (jdk ci)[k]? = some false) (hn : narrow ty (.int v) = .int v) (hfit : fits ty (.int v) = true) (hdg : decode M.2.1 pc = .ok (.putfield index, 3)) (kk : Jd G M F n rc rs (pc + 3) lv st Z (uI I id k v) J) : Jd G M F n rc rs pc lv (.int v :: .ref (gb G + id) :: st) Z I J :=
  jd_put hf hT (List.getElem?_eq_some_iff.mp hk).1 hn hfit hdg rfl rfl (fun j u hj => jdc_uI u hj) (by rw [uI_s, jdf_setI _ _ _ _ _ _ _ hk, Nat.zero_add]) kk
theorem jd_putR {id ci k index r : Nat} {ty : FieldType} (hf : jdFp ci k M.1.cls index false ty) (hT : Z.1 id = some (ci + 10, 0)) (hk : (jdk ci)[k]? = some true) (hn : narrow ty (.ref (gb G + r)) = .ref (gb G + r)) (hfit : fits ty (.ref (gb G + r)) = true) (hdg : decode M.2.1 pc = .ok (.putfield index, 3)) (kk : Jd G M F n rc rs (pc + 3) lv st (uP Z id k (some r)) I J) : Jd G M F n rc rs pc lv (.ref (gb G + r) :: .ref (gb G + id) :: st) Z I J :=
  jd_put (Z' := uP Z id k (some r)) (I' := I) hf hT (List.getElem?_eq_some_iff.mp hk).1 hn hfit hdg rfl rfl (fun j u hj => jdc_uP u hj) (by
    have h := jdf_setP (gb G) (Z.2.1 id) (I id) (jdk ci) 0 k (some r) hk
    rw [Nat.zero_add] at h
    simp only [uP, if_true]
    exact h) kk
theorem jd_putN {id ci k index : Nat} {ty : FieldType} (hf : jdFp ci k M.1.cls index false ty) (hT : Z.1 id = some (ci + 10, 0)) (hk : (jdk ci)[k]? = some true) (hn : narrow ty .null = .null) (hfit : fits ty .null = true) (hdg : decode M.2.1 pc = .ok (.putfield index, 3)) (kk : Jd G M F n rc rs (pc + 3) lv st (uP Z id k none) I J) : Jd G M F n rc rs pc lv (.null :: .ref (gb G + id) :: st) Z I J :=
  jd_put (Z' := uP Z id k none) (I' := I) hf hT (List.getElem?_eq_some_iff.mp hk).1 hn hfit hdg rfl rfl (fun j u hj => jdc_uP u hj) (by
    have h := jdf_setP (gb G) (Z.2.1 id) (I id) (jdk ci) 0 k none hk
    rw [Nat.zero_add] at h
    simp only [uP, if_true]
    exact h) kk
theorem jd_iald {id len : Nat} {i : Int32} (hT : Z.1 id = some (0, len)) (hin : vp_in i len) (hdg : decode M.2.1 pc = .ok (.iaload, 1)) (kk : Jd G M F n rc rs (pc + 1) lv (.int (I id i.toNatClampNeg) :: st) Z I J) : Jd G M F n rc rs pc lv (.int i :: .ref (gb G + id) :: st) Z I J := by
  intro p e R s m args below meth c H locs cells slots ls hC hR hL hl h1 h2
  have hP := jdR_one hR hT
  rw [jdc_i] at hP
  exact va_iald (tys := jdT G) hC.1 hC.2.1 hC.2.2.2.2.2.2.2.2.1.1 hP 0 0 rfl rfl hin hdg (kk p e R s m args below meth c H locs cells slots ls hC hR hL hl h1 h2)
theorem jd_lald {id len : Nat} {i : Int32} (hT : Z.1 id = some (1, len)) (hin : vp_in i len) (hdg : decode M.2.1 pc = .ok (.laload, 1)) (kk : Jd G M F n rc rs (pc + 1) lv (.long (J id i.toNatClampNeg) :: st) Z I J) : Jd G M F n rc rs pc lv (.int i :: .ref (gb G + id) :: st) Z I J := by
  intro p e R s m args below meth c H locs cells slots ls hC hR hL hl h1 h2
  have hP := jdR_one hR hT
  rw [jdc_l] at hP
  exact va_lald (tys := jdT G) hC.1 hC.2.1 hC.2.2.2.2.2.2.2.2.1.1 hP 0 1 rfl rfl hin hdg (kk p e R s m args below meth c H locs cells slots ls hC hR hL hl h1 h2)
theorem jd_iast {id len : Nat} {i x : Int32} (hT : Z.1 id = some (0, len)) (hin : vp_in i len) (hdg : decode M.2.1 pc = .ok (.iastore, 1)) (kk : Jd G M F n rc rs (pc + 1) lv st Z (uI I id i.toNatClampNeg x) J) : Jd G M F n rc rs pc lv (.int x :: .int i :: .ref (gb G + id) :: st) Z I J := by
  intro p e R s m args below meth c H locs cells slots ls hC hR hL hl h1 h2
  have hK := hC.2.2.2.2.2.2.2.2.1.1
  have hat := hR.2.2 id _ hT
  rw [jdc_i] at hat
  refine W.iast hC.1 hC.2.1 hat ((hK.2 0 _ rfl).1 len (fun j => .int (I id j))) (fun q => by cases q) (by show ¬ (i < 0 ∨ (arrV _ _ _).slots.size ≤ _); rw [arrV_size]; exact hin) rfl rfl hdg fun H1 e1 z oq => ?_
  refine kk p e R s m args below meth c H1 _ cells slots ls hC (jdR_set hR hT z oq rfl rfl (fun j u hj => jdc_uI u hj) ?_) (jd_locs hL) hl h1 h2
  rw [jdc_i, uI_s]
  show H1[gb G + id]? = some (vp_cell _ _)
  rw [e1, vp_cell_i, vp_cell_i, arrV_store]
  congr 2
  funext q
  by_cases hq : q = i.toNatClampNeg
  · subst hq
    simp [updV, upd]
  · simp [updV, upd, hq]
theorem jd_last {id len : Nat} {i : Int32} {x : Int64} (hT : Z.1 id = some (1, len)) (hin : vp_in i len) (hdg : decode M.2.1 pc = .ok (.lastore, 1)) (kk : Jd G M F n rc rs (pc + 1) lv st Z I (uJ J id i.toNatClampNeg x)) : Jd G M F n rc rs pc lv (.long x :: .int i :: .ref (gb G + id) :: st) Z I J := by
  intro p e R s m args below meth c H locs cells slots ls hC hR hL hl h1 h2
  have hK := hC.2.2.2.2.2.2.2.2.1.1
  have hat := hR.2.2 id _ hT
  rw [jdc_l] at hat
  refine W.last hC.1 hC.2.1 hat ((hK.2 1 _ rfl).1 len (fun j => .long (J id j))) (fun q => by cases q) (by show ¬ (i < 0 ∨ (arrV _ _ _).slots.size ≤ _); rw [arrV_size]; exact hin) rfl rfl hdg fun H1 e1 z oq => ?_
  refine kk p e R s m args below meth c H1 _ cells slots ls hC (jdR_set hR hT z oq rfl rfl (fun j u hj => jdc_uJ u hj) ?_) (jd_locs hL) hl h1 h2
  rw [jdc_l, uJ_s]
  show H1[gb G + id]? = some (vp_cell _ _)
  rw [e1, vp_cell_l, vp_cell_l, arrV_store]
  congr 2
  funext q
  by_cases hq : q = i.toNatClampNeg
  · subst hq
    simp [updV, vp_updL]
  · simp [updV, vp_updL, hq]
theorem jd_alenI {id len : Nat} {v : Int32} (hT : Z.1 id = some (0, len)) (hv : Int32.ofNat len = v) (hdg : decode M.2.1 pc = .ok (.arraylength, 1)) (kk : Jd G M F n rc rs (pc + 1) lv (.int v :: st) Z I J) : Jd G M F n rc rs pc lv (.ref (gb G + id) :: st) Z I J := by
  intro p e R s m args below meth c H locs cells slots ls hC hR hL hl h1 h2
  have hP := jdR_one hR hT
  rw [jdc_i] at hP
  exact va_alen (tys := jdT G) hC.1 hC.2.1 hC.2.2.2.2.2.2.2.2.1.1 hP 0 0 rfl rfl hv hdg (kk p e R s m args below meth c H locs cells slots ls hC hR hL hl h1 h2)
end HP
