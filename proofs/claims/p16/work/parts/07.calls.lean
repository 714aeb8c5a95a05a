/-! rows of references in rows; ends; calls -/
/-- the type of an array of kind k -/
def jdty : Nat → FieldType
  | 2 => .array .int
  | 3 => .array .long
  | _ => .object RX6
section CA
variable {G : jdG} {M : jdM} {F : jdF} {n rc rs pc : Nat} {lv : List (Nat × Value)} {st : List Value} {Z : jdL} {I : jdI} {J : jdJ}
theorem jd_aald {id len k r : Nat} {i : Int32} (hT : Z.1 id = some (k, len)) (hk : k = 2 ∨ k = 3 ∨ k = 4) (hin : vp_in i len) (hp : Z.2.1 id i.toNatClampNeg = some r) (hdg : decode M.2.1 pc = .ok (.aaload, 1)) (kk : Jd G M F n rc rs (pc + 1) lv (.ref (gb G + r) :: st) Z I J) : Jd G M F n rc rs pc lv (.int i :: .ref (gb G + id) :: st) Z I J := by
  intro p e R s m args below meth c H locs cells slots ls hC hR hL hl h1 h2
  have hK := hC.2.2.2.2.2.2.2.2.1.1
  have hat := hR.2.2 id _ hT
  have hlt : i.toNatClampNeg < len := Nat.not_le.mp fun q => hin (Or.inr q)
  rw [jdc_r _ _ _ _ _ _ _ (by omega) (by omega)] at hat
  have hA : ∃ ty : FieldType, ty.isReference = true ∧ ArrOfT s (G.2.2.2.1 k) ty := by
    rcases hk with rfl | rfl | rfl
    · exact ⟨_, rfl, (hK.2 2 _ rfl).1⟩
    · exact ⟨_, rfl, (hK.2 3 _ rfl).1⟩
    · exact ⟨_, rfl, (hK.2 4 _ rfl).1⟩
  obtain ⟨ty, hty, hA⟩ := hA
  refine W.aald (v := .ref (gb G + r)) (ty := ty) hC.1 hC.2.1 hat (hA len (fun j => va_rf ((Z.2.1 id j).map (fun x => gb G + x)))) hty (fun q => by cases q) (by show ¬ (i < 0 ∨ (arrV _ _ _).slots.size ≤ _); rw [arrV_size]; exact hin) ?_ rfl rfl hdg (kk p e R s m args below meth c H locs cells slots ls hC hR hL hl h1 h2)
  show (arrV _ _ _).slots[_]? = _
  rw [arrV_read _ _ hlt]
  show some (va_rf (Option.map _ (Z.2.1 id i.toNatClampNeg))) = _
  rw [hp]
  rfl
theorem jd_iret {G : jdG} {Q : jdQ} {v : Int32} {ty : FieldType} (hr : M.2.2.2 = some ty) (hn : narrow ty (.int v) = .int v) (hdg : decode M.2.1 pc = .ok (.ireturn, 1)) (hQ : Q (some (.int v)) Z I J) : Jd G M (jdFm G Q) n rc rs pc lv [.int v] Z I J := by
  intro p e R s m args below meth c H locs cells slots ls hC hR hL hl h1 h2
  refine W.widen (k := R.cells) (n := R.slots) (by omega) (by omega) ?_
  exact W.zret hC.1 hC.2.1 (hC.2.2.1.trans hr) hn (fun t ht _ => ⟨_, Z, I, J, rfl, hQ, by rw [ht]; exact hR⟩) hL hdg hC.2.2.2.2.2.2.1
theorem jd_lret {G : jdG} {Q : jdQ} {v : Int64} (hr : M.2.2.2 = some .long) (hdg : decode M.2.1 pc = .ok (.lreturn, 1)) (hQ : Q (some (.long v)) Z I J) : Jd G M (jdFm G Q) n rc rs pc lv [.long v] Z I J := by
  intro p e R s m args below meth c H locs cells slots ls hC hR hL hl h1 h2
  refine W.widen (k := R.cells) (n := R.slots) (by omega) (by omega) ?_
  exact W.lret hC.1 hC.2.1 (hC.2.2.1.trans hr) (fun t ht _ => ⟨_, Z, I, J, rfl, hQ, by rw [ht]; exact hR⟩) hL hdg hC.2.2.2.2.2.2.1
theorem jd_vret {G : jdG} {Q : jdQ} (hr : M.2.2.2 = none) (hdg : decode M.2.1 pc = .ok (.return_, 1)) (hQ : Q none Z I J) : Jd G M (jdFm G Q) n rc rs pc lv [] Z I J := by
  intro p e R s m args below meth c H locs cells slots ls hC hR hL hl h1 h2
  refine W.widen (k := R.cells) (n := R.slots) (by omega) (by omega) ?_
  exact W.vret hC.1 hC.2.1 (hC.2.2.1.trans hr) (fun t ht _ => ⟨_, Z, I, J, rfl, hQ, by rw [ht]; exact hR⟩) hL hdg hC.2.2.2.2.2.2.1
theorem jd_aret {G : jdG} {Q : jdQ} {v : Value} {C : String} (hr : M.2.2.2 = some (.object C)) (hv : v = .null ∨ ∃ a, v = .ref a) (hdg : decode M.2.1 pc = .ok (.areturn, 1)) (hQ : Q (some v) Z I J) : Jd G M (jdFm G Q) n rc rs pc lv [v] Z I J := by
  intro p e R s m args below meth c H locs cells slots ls hC hR hL hl h1 h2
  refine W.widen (k := R.cells) (n := R.slots) (by omega) (by omega) ?_
  exact W.aret hC.1 hC.2.1 (hC.2.2.1.trans hr) (Or.inl ⟨_, rfl⟩) hv (fun t ht _ => ⟨_, Z, I, J, rfl, hQ, by rw [ht]; exact hR⟩) hL hdg hC.2.2.2.2.2.2.1
theorem jd_blind (G : jdG) (av : List Value) (Z : jdL) (I : jdI) (J : jdJ) : FrameBlind (jdPc G av Z I J) := by
  intro a U g mk h
  obtain ⟨h1, h2, h3, h4, h5⟩ := h
  exact ⟨h1, h2, va_K.moved (u := U) (U := U.calling g mk a) (Vm.Alike.refl U.vm) h3, h5 U (U.calling g mk a) (State.WarmedH.refl U) h4, h5⟩
theorem jd_pre {s : State} {H : Heap} (hR : jdR G Z I J H) (hK : jdK G s) (av : List Value) : PreS s H (jdPc G av Z I J) av :=
  ⟨jd_blind G av Z I J, fun U hU hW => ⟨rfl, by rw [hU]; exact hR, va_K.moved hW.alike hK.1, hK.2.2 s U hW hK.2.1, hK.2.2⟩⟩
/-- a method that is called: its words -/
def jdMc (M : jdM) (na : Nat) : Prop := Cond.code M.1 M.2.1 M.2.2.1 M.2.2.2 ∈ jdW ∧ Cond.initialized M.1.cls ∈ jdW ∧ (M.1.cls ≠ "java/lang/invoke/MethodHandle" ∧ M.1.cls ≠ "java/lang/invoke/VarHandle" ∧ (parseMethodDescriptor M.1.desc).map (fun d => d.parameters.length) = some na) ∧ M.2.2.1 ≤ 21
theorem jd_cb {M2 : jdM} {na mc ms index : Nat} (hm : jdMc M2 na) {p : Program} {R : Room} {s : State} {m : MethodId} {args : Array Value} {meth : Method} {c : Code} (hC : jdC G M (n + 1) p R s m args meth c) (hw : Cond.methodLink M.1.cls index M2.1 ∈ jdW) : CallB R s args M.1.cls index M2.1 M2.2.1 M2.2.2.1 M2.2.2.2 (jdws M2) (jdrm n mc ms) mc ms na :=
  callB_of (ws' := jdW) na hC.2.2.2.2.2.1 (jdW_good M2 hm.1) rfl rfl rfl (hC.2.2.2.2.2.1 _ hm.2.1) (hC.2.2.2.2.2.1 _ hw) hm.2.2.1 ⟨hC.2.2.2.2.2.2.2.2.2.1, by have h9 := hC.2.2.2.2.2.2.2.2.2.2; have h8 := hm.2.2.2; show 8 + (M2.2.2.1 + 11) + 40 * n ≤ R.locals; omega⟩
/-- behind a call -/
theorem jd_after {st0 : List Value} {mc ms rc2 rs2 : Nat} {Q : jdQ} {a : Array Value} {p : Program} {e : Env} {R : Room} {s : State} {m : MethodId} {args : Array Value} {below : List Frame} {meth : Method} {c : Code} {H : Heap} {locs : List Loc} {cells slots : Nat} {ls : Array Slot}
    (hr : va_Run p G.1 e R s m args below meth c H locs cells slots mc ms (F0 m pc ls st0) st (jdE G Q a) (fun q => gb G ≤ q)) (hC : jdC G M n p R s m args meth c) (hL : ∀ q ∈ locs, gb G ≤ q.base) (hl : lv_has ls M.2.2.1 lv) (h1 : cells + mc + rc2 ≤ R.cells) (h2 : slots + ms + rs2 ≤ R.slots)
    (kk : ∀ (r : Option Value) (Z2 : jdL) (I2 : jdI) (J2 : jdJ), Q r Z2 I2 J2 → Jd G M F n rc2 rs2 (pc + 3) lv (r.toList ++ st) Z2 I2 J2) : W p G.1 e R s m args below meth c H locs cells slots (F below args s R.cells R.slots) (F0 m pc ls st0) := by
  intro T hT X
  obtain ⟨v, st₀, t, T', L, h0, X', hL2, e1, e2, ⟨r, Z2, I2, J2, hv, hq, hR2⟩, stp⟩ := hr T hT X
  cases hv
  obtain ⟨t2, a1, b1⟩ := kk v Z2 I2 J2 hq p e R s m args below meth c T'.heap (locs ++ L) (cells + mc) (slots + ms) ls hC (by rw [e1]; exact hR2) (fun q hq => (List.mem_append.mp hq).elim (hL q) (hL2 q)) hl h1 h2 T' rfl X'
  exact ⟨t2, stp t2 a1, b1⟩
theorem jd_callS {M2 : jdM} {na mc ms rc2 rs2 index : Nat} {av st0 : List Value} (hm : jdMc M2 na) (hs : Cond.static M2.1 ∈ jdW) (hw : Cond.methodLink M.1.cls index M2.1 ∈ jdW) (hna : av.length = na) (hst0 : st0 = av.reverse ++ st) (hst : (st.map fun v => v.category).sum ≤ 8) (hb1 : mc + rc2 ≤ rc) (hb2 : ms + rs2 ≤ rs) (hdg : decode M.2.1 pc = .ok (.invokestatic index, 3))
    (kk : Cl G M2 n mc ms av Z I J (fun r Z2 I2 J2 => Jd G M F (n + 1) rc2 rs2 (pc + 3) lv (r.toList ++ st) Z2 I2 J2)) : Jd G M F (n + 1) rc rs pc lv st0 Z I J := by
  intro p e R s m args below meth c H locs cells slots ls hC hR hL hl h1 h2
  exact jd_after (va_runS (g := F0 m pc ls st0) (As := av) (rest := st) ⟨hC.1, hC.2.1, hC.2.2.2.1, hC.2.2.2.2.1, hC.2.2.2.2.2.1⟩ kk ⟨jd_cb hm hC hw, hC.2.2.2.2.2.1 _ hs⟩ (jd_pre hR hC.2.2.2.2.2.2.2.2.1 av) rfl hna hl.1 hst0 (lv_room hst) hdg ⟨by omega, by omega⟩) hC hL hl (by omega) (by omega) (fun r Z2 I2 J2 h => h)
theorem jd_recv {s : State} {H : Heap} {id ci : Nat} {C : String} {T : u_T} {N : Nat} (hR : jdR G Z I J H) (hK : jdK G s) (hT : Z.1 id = some (ci + 10, 0)) (hc : vwCl[ci]? = some (C, T, N)) : ∃ cell : Cell, H[gb G + id]? = some cell ∧ cell.vm.isStatics = false ∧ s.vm.findClass C = some cell.cls := by
  have hP := jdR_one hR hT
  rw [jdc_o] at hP
  exact va_recv hK.1 hP hc (q0 := 0) rfl
/-- a call of a method of the receiver's own class -/
theorem jd_callV {M2 : jdM} {na mc ms rc2 rs2 index id ci N : Nat} {T : u_T} {av st0 : List Value} (hm : jdMc M2 na) (hs : Cond.instanceMethod M2.1 ∈ jdW ∧ Cond.selects M2.1.cls M2.1 M2.1 ∈ jdW) (hc : vwCl[ci]? = some (M2.1.cls, T, N)) (hT : Z.1 id = some (ci + 10, 0)) (hw : Cond.methodLink M.1.cls index M2.1 ∈ jdW) (hna : av.length = na) (hst0 : st0 = av.reverse ++ .ref (gb G + id) :: st) (hst : (st.map fun v => v.category).sum ≤ 8) (hb1 : mc + rc2 ≤ rc) (hb2 : ms + rs2 ≤ rs) (hdg : decode M.2.1 pc = .ok (.invokevirtual index, 3))
    (kk : Cl G M2 n mc ms (.ref (gb G + id) :: av) Z I J (fun r Z2 I2 J2 => Jd G M F (n + 1) rc2 rs2 (pc + 3) lv (r.toList ++ st) Z2 I2 J2)) : Jd G M F (n + 1) rc rs pc lv st0 Z I J := by
  intro p e R s m args below meth c H locs cells slots ls hC hR hL hl h1 h2
  have hp := jd_pre hR hC.2.2.2.2.2.2.2.2.1 (.ref (gb G + id) :: av)
  exact jd_after (va_runV (g := F0 m pc ls st0) (As := av) (rest := st) (C := M2.1.cls) (b := gb G + id) ⟨hC.1, hC.2.1, hC.2.2.2.1, hC.2.2.2.2.1, hC.2.2.2.2.2.1⟩ kk ⟨jd_cb hm hC hw, hC.2.2.2.2.2.1 _ hs.1, hC.2.2.2.2.2.1 _ hs.2⟩ ⟨hp.1, jd_recv hR hC.2.2.2.2.2.2.2.2.1 hT hc, hp.2⟩ rfl hna hl.1 hst0 (lv_room hst) hdg ⟨by omega, by omega⟩) hC hL hl (by omega) (by omega) (fun r Z2 I2 J2 h => h)
/-- a constructor -/
theorem jd_callI {M2 : jdM} {na mc ms rc2 rs2 index id : Nat} {av st0 : List Value} (hm : jdMc M2 na) (hs : M2.1.name = "<init>" ∧ Cond.instanceMethod M2.1 ∈ jdW ∧ M2.2.2.2 = none) (hw : Cond.methodLink M.1.cls index M2.1 ∈ jdW) (hna : av.length = na) (hst0 : st0 = av.reverse ++ .ref (gb G + id) :: st) (hst : (st.map fun v => v.category).sum ≤ 8) (hb1 : mc + rc2 ≤ rc) (hb2 : ms + rs2 ≤ rs) (hdg : decode M.2.1 pc = .ok (.invokespecial index, 3))
    (kk : Cl G M2 n mc ms (.ref (gb G + id) :: av) Z I J (fun r Z2 I2 J2 => Jd G M F (n + 1) rc2 rs2 (pc + 3) lv (r.toList ++ st) Z2 I2 J2)) : Jd G M F (n + 1) rc rs pc lv st0 Z I J := by
  intro p e R s m args below meth c H locs cells slots ls hC hR hL hl h1 h2
  have hp := jd_pre hR hC.2.2.2.2.2.2.2.2.1 (.ref (gb G + id) :: av)
  have cb : CallB R s args M.1.cls index M2.1 M2.2.1 M2.2.2.1 none (jdws M2) (jdrm n mc ms) mc ms na := by
    rw [← hs.2.2]
    exact jd_cb hm hC hw
  exact jd_after (va_runI (g := F0 m pc ls st0) (As := av) (rest := st) (b := gb G + id) ⟨hC.1, hC.2.1, hC.2.2.2.1, hC.2.2.2.2.1, hC.2.2.2.2.2.1⟩ kk ⟨cb, hs.1, hC.2.2.2.2.2.1 _ hs.2.1⟩ hp rfl hna hl.1 hst0 (lv_room hst) hdg ⟨by omega, by omega⟩) hC hL hl (by omega) (by omega) (fun r Z2 I2 J2 h => h)
/-- a nest mate's constructor -/
theorem jd_callIN {M2 : jdM} {na mc ms rc2 rs2 index id : Nat} {host : String} {av st0 : List Value} (hm : jdMc M2 na) (hs : M2.1.name = "<init>" ∧ Cond.instanceMethod M2.1 ∈ jdW ∧ M2.2.2.2 = none) (hX : ∀ U, G.2.2.2.2 U → va_Nw (.methodLinkNest M.1.cls index M2.1 host) U) (hna : av.length = na) (hst0 : st0 = av.reverse ++ .ref (gb G + id) :: st) (hst : (st.map fun v => v.category).sum ≤ 8) (hb1 : mc + rc2 ≤ rc) (hb2 : ms + rs2 ≤ rs) (hdg : decode M.2.1 pc = .ok (.invokespecial index, 3))
    (kk : Cl G M2 n mc ms (.ref (gb G + id) :: av) Z I J (fun r Z2 I2 J2 => Jd G M F (n + 1) rc2 rs2 (pc + 3) lv (r.toList ++ st) Z2 I2 J2)) : Jd G M F (n + 1) rc rs pc lv st0 Z I J := by
  intro p e R s m args below meth c H locs cells slots ls hC hR hL hl h1 h2
  have hp := jd_pre hR hC.2.2.2.2.2.2.2.2.1 (.ref (gb G + id) :: av)
  have cb : va_CN R s args M.1.cls index M2.1 host M2.2.1 M2.2.2.1 none (jdws M2) (jdrm n mc ms) mc ms na := by
    have h := va_cnB (R := R) (ws' := jdW) (ws := jdws M2) (rm := jdrm n mc ms) na hC.2.2.2.2.2.1 (jdW_good M2 hm.1) rfl rfl rfl (hX s hC.2.2.2.2.2.2.2.2.1.2.1) (hC.2.2.2.2.2.1 _ hm.2.1) hm.2.2.1 ⟨hC.2.2.2.2.2.2.2.2.2.1, by have h9 := hC.2.2.2.2.2.2.2.2.2.2; have h8 := hm.2.2.2; show 8 + (M2.2.2.1 + 11) + 40 * n ≤ R.locals; omega⟩
    rw [hs.2.2] at h
    exact h
  exact jd_after (va_runIN (g := F0 m pc ls st0) (As := av) (rest := st) (b := gb G + id) ⟨hC.1, hC.2.1, hC.2.2.2.1, hC.2.2.2.2.1, hC.2.2.2.2.2.1⟩ kk ⟨cb, hs.1, hC.2.2.2.2.2.1 _ hs.2.1⟩ hp rfl hna hl.1 hst0 (lv_room hst) hdg ⟨by omega, by omega⟩) hC hL hl (by omega) (by omega) (fun r Z2 I2 J2 h => h)
theorem jd_objInit {index id : Nat} (hw : Cond.methodLink M.1.cls index objectInit ∈ jdW ∧ Cond.instanceMethod objectInit ∈ jdW ∧ Cond.code objectInit ⟨#[0xb1]⟩ 1 none ∈ jdW) (hst : (st.map fun v => v.category).sum ≤ 8) (hdg : decode M.2.1 pc = .ok (.invokespecial index, 3)) (kk : Jd G M F (n + 1) rc rs (pc + 3) lv st Z I J) : Jd G M F (n + 1) rc rs pc lv (.ref (gb G + id) :: st) Z I J := by
  intro p e R s m args below meth c H locs cells slots ls hC hR hL hl h1 h2
  have hts := hC.2.2.2.2.2.1
  have h8 := hC.2.2.2.2.2.2.2.2.2.1
  have h9 := hC.2.2.2.2.2.2.2.2.2.2
  exact W.objInit hC.1 hC.2.1 hC.2.2.2.2.1 (hts _ hw.1) (hts _ hw.2.1) (hts _ hw.2.2) rfl (hl.1.trans hC.2.2.2.1.symm) rfl hdg (by omega) (by show 2 * 0 + _ + 12 ≤ _; omega) (kk p e R s m args below meth c H locs cells slots ls hC hR hL hl h1 h2)
end CA
