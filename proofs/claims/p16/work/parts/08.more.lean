/-! more rows: overridden methods, System.arraycopy, Math, long compares, final fields, instanceof, new T[n][m] -/
section MO
variable {G : jdG} {M : jdM} {F : jdF} {n rc rs pc : Nat} {lv : List (Nat × Value)} {st : List Value} {Z : jdL} {I : jdI} {J : jdJ}
theorem jd_lcmp {x y : Int64} (hdg : decode M.2.1 pc = .ok (.lcmp, 1)) (k : Jd G M F n rc rs (pc + 1) lv (.int (lg_cmp x y) :: st) Z I J) : Jd G M F n rc rs pc lv (.long y :: .long x :: st) Z I J :=
  fun p e R s m args below meth c H locs cells slots ls hC hR hL hl h1 h2 => W.lcmp hC.1 hC.2.1 hdg (k p e R s m args below meth c H locs cells slots ls hC hR hL hl h1 h2)
/-- a call by the name x of a class above, on a receiver of class ci, whose method is M2 -/
theorem jd_callU {M2 : jdM} {x : MethodName} {na mc ms rc2 rs2 index id ci N : Nat} {C owner : String} {T : u_T} {av st0 : List Value} (hm : jdMc M2 na) (hs : Cond.instanceMethod M2.1 ∈ jdW ∧ Cond.selects C x M2.1 ∈ jdW ∧ Cond.sameMethod x.cls owner x.name x.desc ∈ jdW)
    (hx : owner ≠ "java/lang/invoke/MethodHandle" ∧ owner ≠ "java/lang/invoke/VarHandle" ∧ x.desc = M2.1.desc) (hd : (Cond.instanceMethod ⟨owner, x.name, x.desc⟩ ∈ jdW ∧ ∃ (b0 : ByteArray) (m0 : Nat) (r0 : Option FieldType), Cond.code ⟨owner, x.name, x.desc⟩ b0 m0 r0 ∈ jdW) ∨ ∀ U, G.2.2.2.2 U → va_Decl U ⟨owner, x.name, x.desc⟩) (hc : vwCl[ci]? = some (C, T, N)) (hT : Z.1 id = some (ci + 10, 0)) (hw : Cond.methodLink M.1.cls index x ∈ jdW) (hna : av.length = na) (hst0 : st0 = av.reverse ++ .ref (gb G + id) :: st) (hst : (st.map fun v => v.category).sum ≤ 8) (hb1 : mc + rc2 ≤ rc) (hb2 : ms + rs2 ≤ rs) (hdg : decode M.2.1 pc = .ok (.invokevirtual index, 3))
    (kk : Cl G M2 n mc ms (.ref (gb G + id) :: av) Z I J (fun r Z2 I2 J2 => Jd G M F (n + 1) rc2 rs2 (pc + 3) lv (r.toList ++ st) Z2 I2 J2)) : Jd G M F (n + 1) rc rs pc lv st0 Z I J := by
  intro p e R s m args below meth c H locs cells slots ls hC hR hL hl h1 h2
  have hp := jd_pre hR hC.2.2.2.2.2.2.2.2.1 (.ref (gb G + id) :: av)
  have hts := hC.2.2.2.2.2.1
  have hdec : va_Decl s ⟨owner, x.name, x.desc⟩ := by
    rcases hd with ⟨h3, b0, m0, r0, h4⟩ | h3
    · exact va_Decl.of (hts _ h3) (hts _ h4)
    · exact h3 s hC.2.2.2.2.2.2.2.2.1.2.1
  have cw : va_CU R s args M.1.cls C owner index x M2.1 M2.2.1 M2.2.2.1 M2.2.2.2 (jdws M2) (jdrm n mc ms) mc ms na := by
    refine ⟨⟨rfl, rfl, hC.2.2.2.2.2.2.2.2.2.1, by have h9 := hC.2.2.2.2.2.2.2.2.2.2; have h8 := hm.2.2.2; show 8 + (M2.2.2.1 + 11) + 40 * n ≤ R.locals; omega, pay_in hts (jdW_good M2 hm.1), List.mem_cons_self⟩, hts _ hm.1, hts _ hm.2.1, ⟨hx.1, hx.2.1⟩, fun sig h => ?_, hts _ hw, hts _ hs.2.2, hdec, hts _ hs.2.1, hts _ hs.1⟩
    have h9 := hm.2.2.1.2.2
    rw [← hx.2.2, h] at h9
    exact (Option.some.inj h9).symm
  exact jd_after (va_runU (g := F0 m pc ls st0) (As := av) (rest := st) (C := C) (owner := owner) (b := gb G + id) ⟨hC.1, hC.2.1, hC.2.2.2.1, hC.2.2.2.2.1, hts⟩ kk cw ⟨hp.1, jd_recv hR hC.2.2.2.2.2.2.2.2.1 hT hc, hp.2⟩ rfl hna hl.1 hst0 (lv_room hst) hdg ⟨by omega, by omega⟩) hC hL hl (by omega) (by omega) (fun r Z2 I2 J2 h => h)
def jdWc (own : String) (index : Nat) : Prop := Cond.methodLink own index arraycopyName ∈ jdW ∧ Cond.native arraycopyName ∈ jdW ∧ Cond.static arraycopyName ∈ jdW ∧ Cond.initialized "java/lang/System" ∈ jdW
def cI (I : jdI) (a b sp dp k : Nat) : jdI := fun q => if q = b then va_cpy (I a) (I b) sp dp k else I q
def cJ (J : jdJ) (a b sp dp k : Nat) : jdJ := fun q => if q = b then va_cpy (J a) (J b) sp dp k else J q
theorem jd_nn : ∀ z : Int32, ¬ z < 0 → z.toInt = (z.toNatClampNeg : Int) := by
  intro z hz
  have hz0 : (0 : Int) ≤ z.toInt := by
    have := Int32.not_lt.mp hz
    simpa using Int32.le_iff_toInt_le.mp this
  show z.toInt = ((z.toInt.toNat : Nat) : Int)
  omega
theorem jd_copyI {a b n0 n1 index : Nat} {sp dp k : Int32} (hw : jdWc M.1.cls index) (hTa : Z.1 a = some (0, n0)) (hTb : Z.1 b = some (0, n1)) (hst : (st.map fun v => v.category).sum ≤ 8) (g1 : ¬ sp < 0) (g2 : ¬ dp < 0) (g3 : ¬ k < 0) (h4 : sp.toNatClampNeg + k.toNatClampNeg ≤ n0) (h5 : dp.toNatClampNeg + k.toNatClampNeg ≤ n1) (hdg : decode M.2.1 pc = .ok (.invokestatic index, 3))
    (kk : Jd G M F (n + 1) rc rs (pc + 3) lv st Z (cI I a b sp.toNatClampNeg dp.toNatClampNeg k.toNatClampNeg) J) : Jd G M F (n + 1) rc rs pc lv (.int k :: .int dp :: .ref (gb G + b) :: .int sp :: .ref (gb G + a) :: st) Z I J := by
  intro p e R s m args below meth c H locs cells slots ls hC hR hL hl h1 h2
  have hts := hC.2.2.2.2.2.1
  have hK := hC.2.2.2.2.2.2.2.2.1.1
  have f8 := hC.2.2.2.2.2.2.2.2.2.1
  have f9 := hC.2.2.2.2.2.2.2.2.2.2
  have hc0 : H[gb G + a]? = some (vp_cell (G.2.2.2.1 0) (n0, .inl (I a))) := by have h := hR.2.2 a _ hTa; rw [jdc_i] at h; exact h
  have hc1 : H[gb G + b]? = some (vp_cell (G.2.2.2.1 0) (n1, .inl (I b))) := by have h := hR.2.2 b _ hTb; rw [jdc_i] at h; exact h
  obtain ⟨-, k0, hk0, cm0, hkk0⟩ := (hK.2 0 _ rfl).1 n0 (fun j => .int (I a j))
  obtain ⟨-, k1, hk1, cm1, hkk1⟩ := (hK.2 0 _ rfl).1 n1 (fun j => .int (I b j))
  have f7 : nativeFrameWords "java/lang/System" "arraycopy" 5 ≤ 21 := by decide +kernel
  intro T hT X
  obtain ⟨vm', X', step⟩ := X.arraycopy hC.1 hC.2.2.2.2.1 (hts _ hw.1) (hts _ hw.2.1) (hts _ hw.2.2.1) (hts _ hw.2.2.2) (src := gb G + a) (dst := gb G + b) (cs := vp_cell (G.2.2.2.1 0) (n0, .inl (I a))) (cd := vp_cell (G.2.2.2.1 0) (n1, .inl (I b))) (srcPos := sp) (destPos := dp) (n := k) (by rw [hT]; exact hc0) (by rw [hT]; exact hc1)
    (fun _ h => by cases h) (fun _ h => by cases h) (fun h => by cases h) (fun h => by cases h) hk0 hk1 hkk0 hkk1 (by simp [refKind]) g1 g2 g3
    (by rw [jd_nn sp g1, jd_nn k g3]; show ¬ _ > ((arrV (G.2.2.2.1 0) n0 (fun j => .int (I a j))).slots.size : Int); rw [arrV_size]; omega)
    (by rw [jd_nn dp g2, jd_nn k g3]; show ¬ _ > ((arrV (G.2.2.2.1 0) n1 (fun j => .int (I b j))).slots.size : Int); rw [arrV_size]; omega)
    (fun vm₁ _ i hi => by
      have e : (vp_cell (G.2.2.2.1 0) (n0, .inl (I a))).slots.getD (sp.toNatClampNeg + i) .null = .int (I a (sp.toNatClampNeg + i)) := by
        show (arrV (G.2.2.2.1 0) n0 (fun j => .int (I a j))).slots.getD _ _ = _
        rw [Array.getD_eq_getD_getElem?, arrV_read _ _ (by omega)]
        rfl
      refine ⟨?_, ?_⟩
      · rw [e]
        rfl
      · rw [e]
        exact trivial)
    (g := F0 m pc ls (.int k :: .int dp :: .ref (gb G + b) :: .int sp :: .ref (gb G + a) :: st)) rfl (by rw [hC.2.2.2.1]; exact hl.1) (rest := st) rfl (by rw [hC.2.1]; exact hdg) (by omega) (by show 2 * 0 + _ + (_ + 11) ≤ _; omega)
  have e1 : copied (vp_cell (G.2.2.2.1 0) (n0, .inl (I a))) (vp_cell (G.2.2.2.1 0) (n1, .inl (I b))) sp dp k = vp_cell (G.2.2.2.1 0) (n1, .inl (va_cpy (I a) (I b) sp.toNatClampNeg dp.toNatClampNeg k.toNatClampNeg)) := va_copied (fun z => .int z) _ _ (I a) (I b) h4
  rw [e1] at X' step
  have hlt : gb G + b < H.size := (Array.getElem?_eq_some_iff.mp hc1).1
  have hheap : ((T.setVm vm').setCell (gb G + b) (vp_cell (G.2.2.2.1 0) (n1, .inl (va_cpy (I a) (I b) sp.toNatClampNeg dp.toNatClampNeg k.toNatClampNeg)))).heap = H.setIfInBounds (gb G + b) (vp_cell (G.2.2.2.1 0) (n1, .inl (va_cpy (I a) (I b) sp.toNatClampNeg dp.toNatClampNeg k.toNatClampNeg))) := by rw [← hT]; rfl
  have oq : ∀ q : Nat, q ≠ gb G + b → (H.setIfInBounds (gb G + b) (vp_cell (G.2.2.2.1 0) (n1, .inl (va_cpy (I a) (I b) sp.toNatClampNeg dp.toNatClampNeg k.toNatClampNeg))))[q]? = H[q]? := fun q hq => by simp [Array.getElem?_setIfInBounds, Ne.symm hq]
  obtain ⟨t, a1, b1⟩ := kk p e R s m args below meth c _ _ cells slots ls hC (jdR_set hR hTb (by simp) oq rfl rfl (fun j u hj => by simp only [jdc, cI, if_neg hj]) (by
      rw [jdc_i, show cI I a b sp.toNatClampNeg dp.toNatClampNeg k.toNatClampNeg b = va_cpy (I a) (I b) sp.toNatClampNeg dp.toNatClampNeg k.toNatClampNeg from if_pos rfl]
      show (H.setIfInBounds (gb G + b) _)[gb G + b]? = some _
      simp [Array.getElem?_setIfInBounds, hlt])) (fun q hq => by
      rcases List.mem_append.mp hq with h | h
      · exact hL q h
      · obtain ⟨z, -, hz⟩ := List.mem_map.mp h
        rw [← hz]
        exact Nat.le_add_right _ _) hl h1 h2 _ hheap X'
  exact ⟨t, step t a1, b1⟩
theorem jd_copyJ {a b n0 n1 index : Nat} {sp dp k : Int32} (hw : jdWc M.1.cls index) (hTa : Z.1 a = some (1, n0)) (hTb : Z.1 b = some (1, n1)) (hst : (st.map fun v => v.category).sum ≤ 8) (g1 : ¬ sp < 0) (g2 : ¬ dp < 0) (g3 : ¬ k < 0) (h4 : sp.toNatClampNeg + k.toNatClampNeg ≤ n0) (h5 : dp.toNatClampNeg + k.toNatClampNeg ≤ n1) (hdg : decode M.2.1 pc = .ok (.invokestatic index, 3))
    (kk : Jd G M F (n + 1) rc rs (pc + 3) lv st Z I (cJ J a b sp.toNatClampNeg dp.toNatClampNeg k.toNatClampNeg)) : Jd G M F (n + 1) rc rs pc lv (.int k :: .int dp :: .ref (gb G + b) :: .int sp :: .ref (gb G + a) :: st) Z I J := by
  intro p e R s m args below meth c H locs cells slots ls hC hR hL hl h1 h2
  have hts := hC.2.2.2.2.2.1
  have hK := hC.2.2.2.2.2.2.2.2.1.1
  have f8 := hC.2.2.2.2.2.2.2.2.2.1
  have f9 := hC.2.2.2.2.2.2.2.2.2.2
  have hc0 : H[gb G + a]? = some (vp_cell (G.2.2.2.1 1) (n0, .inr (.inl (J a)))) := by have h := hR.2.2 a _ hTa; rw [jdc_l] at h; exact h
  have hc1 : H[gb G + b]? = some (vp_cell (G.2.2.2.1 1) (n1, .inr (.inl (J b)))) := by have h := hR.2.2 b _ hTb; rw [jdc_l] at h; exact h
  obtain ⟨-, k0, hk0, cm0, hkk0⟩ := (hK.2 1 _ rfl).1 n0 (fun j => .long (J a j))
  obtain ⟨-, k1, hk1, cm1, hkk1⟩ := (hK.2 1 _ rfl).1 n1 (fun j => .long (J b j))
  have f7 : nativeFrameWords "java/lang/System" "arraycopy" 5 ≤ 21 := by decide +kernel
  intro T hT X
  obtain ⟨vm', X', step⟩ := X.arraycopy hC.1 hC.2.2.2.2.1 (hts _ hw.1) (hts _ hw.2.1) (hts _ hw.2.2.1) (hts _ hw.2.2.2) (src := gb G + a) (dst := gb G + b) (cs := vp_cell (G.2.2.2.1 1) (n0, .inr (.inl (J a)))) (cd := vp_cell (G.2.2.2.1 1) (n1, .inr (.inl (J b)))) (srcPos := sp) (destPos := dp) (n := k) (by rw [hT]; exact hc0) (by rw [hT]; exact hc1)
    (fun _ h => by cases h) (fun _ h => by cases h) (fun h => by cases h) (fun h => by cases h) hk0 hk1 hkk0 hkk1 (by simp [refKind]) g1 g2 g3
    (by rw [jd_nn sp g1, jd_nn k g3]; show ¬ _ > ((arrV (G.2.2.2.1 1) n0 (fun j => .long (J a j))).slots.size : Int); rw [arrV_size]; omega)
    (by rw [jd_nn dp g2, jd_nn k g3]; show ¬ _ > ((arrV (G.2.2.2.1 1) n1 (fun j => .long (J b j))).slots.size : Int); rw [arrV_size]; omega)
    (fun vm₁ _ i hi => by
      have e : (vp_cell (G.2.2.2.1 1) (n0, .inr (.inl (J a)))).slots.getD (sp.toNatClampNeg + i) .null = .long (J a (sp.toNatClampNeg + i)) := by
        show (arrV (G.2.2.2.1 1) n0 (fun j => .long (J a j))).slots.getD _ _ = _
        rw [Array.getD_eq_getD_getElem?, arrV_read _ _ (by omega)]
        rfl
      refine ⟨?_, ?_⟩
      · rw [e]
        rfl
      · rw [e]
        exact trivial)
    (g := F0 m pc ls (.int k :: .int dp :: .ref (gb G + b) :: .int sp :: .ref (gb G + a) :: st)) rfl (by rw [hC.2.2.2.1]; exact hl.1) (rest := st) rfl (by rw [hC.2.1]; exact hdg) (by omega) (by show 2 * 0 + _ + (_ + 11) ≤ _; omega)
  have e1 : copied (vp_cell (G.2.2.2.1 1) (n0, .inr (.inl (J a)))) (vp_cell (G.2.2.2.1 1) (n1, .inr (.inl (J b)))) sp dp k = vp_cell (G.2.2.2.1 1) (n1, .inr (.inl (va_cpy (J a) (J b) sp.toNatClampNeg dp.toNatClampNeg k.toNatClampNeg))) := va_copied (fun z => .long z) _ _ (J a) (J b) h4
  rw [e1] at X' step
  have hlt : gb G + b < H.size := (Array.getElem?_eq_some_iff.mp hc1).1
  have hheap : ((T.setVm vm').setCell (gb G + b) (vp_cell (G.2.2.2.1 1) (n1, .inr (.inl (va_cpy (J a) (J b) sp.toNatClampNeg dp.toNatClampNeg k.toNatClampNeg))))).heap = H.setIfInBounds (gb G + b) (vp_cell (G.2.2.2.1 1) (n1, .inr (.inl (va_cpy (J a) (J b) sp.toNatClampNeg dp.toNatClampNeg k.toNatClampNeg)))) := by rw [← hT]; rfl
  have oq : ∀ q : Nat, q ≠ gb G + b → (H.setIfInBounds (gb G + b) (vp_cell (G.2.2.2.1 1) (n1, .inr (.inl (va_cpy (J a) (J b) sp.toNatClampNeg dp.toNatClampNeg k.toNatClampNeg)))))[q]? = H[q]? := fun q hq => by simp [Array.getElem?_setIfInBounds, Ne.symm hq]
  obtain ⟨t, a1, b1⟩ := kk p e R s m args below meth c _ _ cells slots ls hC (jdR_set hR hTb (by simp) oq rfl rfl (fun j u hj => by simp only [jdc, cJ, if_neg hj]) (by
      rw [jdc_l, show cJ J a b sp.toNatClampNeg dp.toNatClampNeg k.toNatClampNeg b = va_cpy (J a) (J b) sp.toNatClampNeg dp.toNatClampNeg k.toNatClampNeg from if_pos rfl]
      show (H.setIfInBounds (gb G + b) _)[gb G + b]? = some _
      simp [Array.getElem?_setIfInBounds, hlt])) (fun q hq => by
      rcases List.mem_append.mp hq with h | h
      · exact hL q h
      · obtain ⟨z, -, hz⟩ := List.mem_map.mp h
        rw [← hz]
        exact Nat.le_add_right _ _) hl h1 h2 _ hheap X'
  exact ⟨t, step t a1, b1⟩
def jdWm (own : String) (index : Nat) (mx : Bool) : Prop := if mx = true then Cond.methodLink own index Lib.Math.max.name ∈ jdW ∧ Cond.static Lib.Math.max.name ∈ jdW ∧ Cond.initialized "java/lang/Math" ∈ jdW ∧ Cond.code Lib.Math.max.name Lib.Math.max.code 2 (some .int) ∈ jdW else Cond.methodLink own index Lib.Math.min.name ∈ jdW ∧ Cond.static Lib.Math.min.name ∈ jdW ∧ Cond.initialized "java/lang/Math" ∈ jdW ∧ Cond.code Lib.Math.min.name Lib.Math.min.code 2 (some .int) ∈ jdW
theorem jd_max {index : Nat} {x y : Int32} (hw : jdWm M.1.cls index true) (hst : (st.map fun v => v.category).sum ≤ 8) (hdg : decode M.2.1 pc = .ok (.invokestatic index, 3)) (kk : Jd G M F (n + 1) rc rs (pc + 3) lv (.int (if x < y then y else x) :: st) Z I J) : Jd G M F (n + 1) rc rs pc lv (.int y :: .int x :: st) Z I J := by
  intro p e R s m args below meth c H locs cells slots ls hC hR hL hl h1 h2
  have hts := hC.2.2.2.2.2.1
  have f8 := hC.2.2.2.2.2.2.2.2.2.1
  have f9 := hC.2.2.2.2.2.2.2.2.2.2
  unfold jdWm at hw
  rw [if_pos rfl] at hw
  exact va_mmax hC.1 hC.2.1 (hC.2.2.2.1.trans hl.1.symm) hC.2.2.2.2.1 (hts _ hw.1) (hts _ hw.2.1) (hts _ hw.2.2.1) (hts _ hw.2.2.2) (by omega) (by omega) (by omega) (by omega) hdg (kk p e R s m args below meth c H locs cells slots ls hC hR hL hl h1 h2)
theorem jd_min {index : Nat} {x y : Int32} (hw : jdWm M.1.cls index false) (hst : (st.map fun v => v.category).sum ≤ 8) (hdg : decode M.2.1 pc = .ok (.invokestatic index, 3)) (kk : Jd G M F (n + 1) rc rs (pc + 3) lv (.int (if y < x then y else x) :: st) Z I J) : Jd G M F (n + 1) rc rs pc lv (.int y :: .int x :: st) Z I J := by
  intro p e R s m args below meth c H locs cells slots ls hC hR hL hl h1 h2
  have hts := hC.2.2.2.2.2.1
  have f8 := hC.2.2.2.2.2.2.2.2.2.1
  have f9 := hC.2.2.2.2.2.2.2.2.2.2
  unfold jdWm at hw
  rw [if_neg (by decide)] at hw
  exact va_mmin hC.1 hC.2.1 (hC.2.2.2.1.trans hl.1.symm) hC.2.2.2.2.1 (hts _ hw.1) (hts _ hw.2.1) (hts _ hw.2.2.1) (hts _ hw.2.2.2) (by omega) (by omega) (by omega) (by omega) hdg (kk p e R s m args below meth c H locs cells slots ls hC hR hL hl h1 h2)
/-- instanceof -/
theorem jd_instY {index id ci N : Nat} {nm C : String} {T : u_T} (hw : Cond.classLink M.1.cls index nm ∈ jdW) (hX : ∀ U, G.2.2.2.2 U → va_Nw (.castable C nm) U) (hc : vwCl[ci]? = some (C, T, N)) (hT : Z.1 id = some (ci + 10, 0)) (hdg : decode M.2.1 pc = .ok (.instanceof index, 3)) (kk : Jd G M F n rc rs (pc + 3) lv (.int 1 :: st) Z I J) : Jd G M F n rc rs pc lv (.ref (gb G + id) :: st) Z I J := by
  intro p e R s m args below meth c H locs cells slots ls hC hR hL hl h1 h2
  exact va_instY hC.1 hC.2.1 hC.2.2.2.2.1 (hC.2.2.2.2.2.1 _ hw) (hX s hC.2.2.2.2.2.2.2.2.1.2.1) (jd_recv hR hC.2.2.2.2.2.2.2.2.1 hT hc) hdg (kk p e R s m args below meth c H locs cells slots ls hC hR hL hl h1 h2)
theorem jd_instS {index id ci N : Nat} {C : String} {T : u_T} (hw : Cond.classLink M.1.cls index C ∈ jdW) (hc : vwCl[ci]? = some (C, T, N)) (hT : Z.1 id = some (ci + 10, 0)) (hdg : decode M.2.1 pc = .ok (.instanceof index, 3)) (kk : Jd G M F n rc rs (pc + 3) lv (.int 1 :: st) Z I J) : Jd G M F n rc rs pc lv (.ref (gb G + id) :: st) Z I J := by
  intro p e R s m args below meth c H locs cells slots ls hC hR hL hl h1 h2
  exact va_instS hC.1 hC.2.1 hC.2.2.2.2.1 (hC.2.2.2.2.2.1 _ hw) (hC.2.2.2.2.2.2.2.2.1.1.1 ci _ hc).2 (jd_recv hR hC.2.2.2.2.2.2.2.2.1 hT hc) hdg (kk p e R s m args below meth c H locs cells slots ls hC hR hL hl h1 h2)
theorem jd_instNo {index id ci N : Nat} {nm C : String} {T : u_T} (hw : Cond.classLink M.1.cls index nm ∈ jdW) (hX : ∀ U, G.2.2.2.2 U → va_Nc C nm U) (hc : vwCl[ci]? = some (C, T, N)) (hT : Z.1 id = some (ci + 10, 0)) (hdg : decode M.2.1 pc = .ok (.instanceof index, 3)) (kk : Jd G M F n rc rs (pc + 3) lv (.int 0 :: st) Z I J) : Jd G M F n rc rs pc lv (.ref (gb G + id) :: st) Z I J := by
  intro p e R s m args below meth c H locs cells slots ls hC hR hL hl h1 h2
  exact va_instNo hC.1 hC.2.1 hC.2.2.2.2.1 (hC.2.2.2.2.2.1 _ hw) (hX s hC.2.2.2.2.2.2.2.2.1.2.1) (jd_recv hR hC.2.2.2.2.2.2.2.2.1 hT hc) hdg (kk p e R s m args below meth c H locs cells slots ls hC hR hL hl h1 h2)
/-- a final field, in its constructor -/
theorem jd_putF {id ci k index : Nat} {ty : FieldType} {v : Value} {Z' : jdL} {I' : jdI} (hin2 : M.1.name = "<init>") (hf : jdFp ci k M.1.cls index true ty) (hT : Z.1 id = some (ci + 10, 0)) (hk : k < (jdk ci).length) (hn : narrow ty v = v) (hfit : fits ty v = true) (hdg : decode M.2.1 pc = .ok (.putfield index, 3))
    (h3 : Z'.1 = Z.1) (h4 : Z'.2.2 = Z.2.2) (hoth : ∀ (j : Nat) (u : Nat × Nat), j ≠ id → jdc G Z' I' J j u = jdc G Z I J j u) (hnew : (jdf (gb G) (Z.2.1 id) (I id) (jdk ci) 0).set k v = jdf (gb G) (Z'.2.1 id) (I' id) (jdk ci) 0)
    (kk : Jd G M F n rc rs (pc + 3) lv st Z' I' J) : Jd G M F n rc rs pc lv (v :: .ref (gb G + id) :: st) Z I J := by
  intro p e R s m args below meth c H locs cells slots ls hC hR hL hl h1 h2
  obtain ⟨C, T, N, ty0, hc, hkN, hin, hw, hty, hnm, hfin, hd, hdecl⟩ := hf
  have hts := hC.2.2.2.2.2.1
  have hK := hC.2.2.2.2.2.2.2.2.1.1
  have hap := va_apart (own := M.1.cls) hts hin ty0 hty hnm hK hc
  have hat := hR.2.2 id _ hT
  rw [jdc_o] at hat
  obtain ⟨r, hr1, cell, q1, q2, q3, q4⟩ := hat
  have hr : r = (C, T, N) := Option.some.inj (hr1.symm.trans hc)
  subst hr
  obtain ⟨hS, hfc, kC, hkC, hkind⟩ := hK.1 ci _ hc
  obtain ⟨cf, kf, fi, f, hi, hsl⟩ := hS k hkN
  have hlay := hts _ (hin _ (u_in_lay hkN))
  unfold u_lay at hlay
  rw [if_pos hfin] at hlay
  have hst := (u_facts hfc hkC (u_lays hts hin hkN) hi).1
  have hcf : m.cls = cf := by
    obtain ⟨_, _, c', _, _, _, -, -, hf', -, -, -, hown2, -⟩ := Cond.laysFinal_spec hlay
    have e1 : c' = cf := by have := hi.symm.trans hf'; simp at this; exact this.1.symm
    rw [hdecl rfl] at hown2
    rw [← e1]; exact Option.some.inj (hC.2.2.2.2.1.symm.trans hown2)
  have h6 := u_fits hfc hkC hkind (Or.inr hlay) hi hd hn hfit
  refine W.putFinK hC.1 hC.2.1 hC.2.2.2.2.1 (hts _ hw) hi hst hcf (hC.2.2.2.2.2.2.2.1.trans hin2) (by rw [q2]; exact h6) q1 q3 (by rw [hsl]; exact k2_hasslot (q4 k hkN)) rfl rfl hdg fun H' e1 e2 e3 => ?_
  rw [hsl] at e1
  refine kk p e R s m args below meth c H' _ cells slots ls hC (jdR_set hR hT e2 e3 h3 h4 hoth ?_) (jd_locs hL) hl h1 h2
  rw [jdc_o, ← hnew]
  exact ⟨_, hc, t_OB.to (V := updV (vp_V (jdf (gb G) (Z.2.1 id) (I id) (jdk ci) 0)) k v) ⟨_, e1, q2, q3, t_set q4 hap hkN v⟩ (fun j _ => vp_updV_set (by rw [jdf_len]; exact hk) v j)⟩
theorem jd_putFI {id ci k index : Nat} {ty : FieldType} {v : Int32} (hin2 : M.1.name = "<init>") (hf : jdFp ci k M.1.cls index true ty) (hT : Z.1 id = some (ci + 10, 0)) (hk : (jdk ci)[k]? = some false) (hn : narrow ty (.int v) = .int v) (hfit : fits ty (.int v) = true) (hdg : decode M.2.1 pc = .ok (.putfield index, 3)) (kk : Jd G M F n rc rs (pc + 3) lv st Z (uI I id k v) J) : Jd G M F n rc rs pc lv (.int v :: .ref (gb G + id) :: st) Z I J :=
  jd_putF hin2 hf hT (List.getElem?_eq_some_iff.mp hk).1 hn hfit hdg rfl rfl (fun j u hj => jdc_uI u hj) (by rw [uI_s, jdf_setI _ _ _ _ _ _ _ hk, Nat.zero_add]) kk
theorem jd_putFR {id ci k index r : Nat} {ty : FieldType} (hin2 : M.1.name = "<init>") (hf : jdFp ci k M.1.cls index true ty) (hT : Z.1 id = some (ci + 10, 0)) (hk : (jdk ci)[k]? = some true) (hn : narrow ty (.ref (gb G + r)) = .ref (gb G + r)) (hfit : fits ty (.ref (gb G + r)) = true) (hdg : decode M.2.1 pc = .ok (.putfield index, 3)) (kk : Jd G M F n rc rs (pc + 3) lv st (uP Z id k (some r)) I J) : Jd G M F n rc rs pc lv (.ref (gb G + r) :: .ref (gb G + id) :: st) Z I J :=
  jd_putF (Z' := uP Z id k (some r)) (I' := I) hin2 hf hT (List.getElem?_eq_some_iff.mp hk).1 hn hfit hdg rfl rfl (fun j u hj => jdc_uP u hj) (by
    have h := jdf_setP (gb G) (Z.2.1 id) (I id) (jdk ci) 0 k (some r) hk
    rw [Nat.zero_add] at h
    simp only [uP, if_true]
    exact h) kk
end MO
