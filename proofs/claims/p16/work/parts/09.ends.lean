/-! what an int, a long, nothing is returned with; the memory's cells stay what they are -/
def qi (Z : jdL) (K : Int32 → jdI → jdJ → Prop) : jdQ := fun r Z2 I2 J2 => ∃ v : Int32, r = some (.int v) ∧ Z2 = Z ∧ K v I2 J2
def ql (Z : jdL) (K : Int64 → jdI → jdJ → Prop) : jdQ := fun r Z2 I2 J2 => ∃ v : Int64, r = some (.long v) ∧ Z2 = Z ∧ K v I2 J2
def qv (Z : jdL) (K : jdI → jdJ → Prop) : jdQ := fun r Z2 I2 J2 => r = none ∧ Z2 = Z ∧ K I2 J2
theorem Cl.mono {G : jdG} {M : jdM} {n mc ms : Nat} {av : List Value} {Z : jdL} {I : jdI} {J : jdJ} {Q Q' : jdQ} (h : Cl G M n mc ms av Z I J Q) (hQ : ∀ r Z2 I2 J2, Q r Z2 I2 J2 → Q' r Z2 I2 J2) : Cl G M n mc ms av Z I J Q' := by
  intro p e ha hc hk s m args below hf hpre hP hK
  obtain ⟨k, o, h1, h2, h3, ⟨r, Z2, I2, J2, e1, e2, e3⟩, hL⟩ := h p e ha hc hk s m args below hf hpre hP hK
  exact ⟨k, o, h1, h2, h3, ⟨r, Z2, I2, J2, e1, hQ _ _ _ _ e2, e3⟩, hL⟩
section QR
variable {G : jdG} {M : jdM} {F : jdF} {n rc rs pc : Nat} {lv : List (Nat × Value)} {st : List Value} {Z : jdL} {I : jdI} {J : jdJ}
theorem jd_iretK {K : Int32 → jdI → jdJ → Prop} {v : Int32} {ty : FieldType} (hr : M.2.2.2 = some ty) (hn : narrow ty (.int v) = .int v) (hdg : decode M.2.1 pc = .ok (.ireturn, 1)) (hK : K v I J) : Jd G M (jdFm G (qi Z K)) n rc rs pc lv [.int v] Z I J := jd_iret hr hn hdg ⟨v, rfl, rfl, hK⟩
theorem jd_lretK {K : Int64 → jdI → jdJ → Prop} {v : Int64} (hr : M.2.2.2 = some .long) (hdg : decode M.2.1 pc = .ok (.lreturn, 1)) (hK : K v I J) : Jd G M (jdFm G (ql Z K)) n rc rs pc lv [.long v] Z I J := jd_lret hr hdg ⟨v, rfl, rfl, hK⟩
theorem jd_vretK {K : jdI → jdJ → Prop} (hr : M.2.2.2 = none) (hdg : decode M.2.1 pc = .ok (.return_, 1)) (hK : K I J) : Jd G M (jdFm G (qv Z K)) n rc rs pc lv [] Z I J := jd_vret hr hdg ⟨rfl, rfl, hK⟩
theorem jd_callVi {M2 : jdM} {na index id ci N : Nat} {T : u_T} {av st0 : List Value} {K : Int32 → jdI → jdJ → Prop} (hm : jdMc M2 na) (hs : Cond.instanceMethod M2.1 ∈ jdW ∧ Cond.selects M2.1.cls M2.1 M2.1 ∈ jdW) (hc : vwCl[ci]? = some (M2.1.cls, T, N)) (hT : Z.1 id = some (ci + 10, 0)) (hw : Cond.methodLink M.1.cls index M2.1 ∈ jdW) (hna : av.length = na) (hst0 : st0 = av.reverse ++ .ref (gb G + id) :: st) (hst : (st.map fun v => v.category).sum ≤ 8) (hdg : decode M.2.1 pc = .ok (.invokevirtual index, 3)) (kk : Cl G M2 n 0 0 (.ref (gb G + id) :: av) Z I J (qi Z K)) (hk : ∀ (v : Int32) (I2 : jdI) (J2 : jdJ), K v I2 J2 → Jd G M F (n + 1) rc rs (pc + 3) lv (.int v :: st) Z I2 J2) : Jd G M F (n + 1) rc rs pc lv st0 Z I J :=
  jd_callV hm hs hc hT hw hna hst0 hst (Nat.le_of_eq (Nat.zero_add _)) (Nat.le_of_eq (Nat.zero_add _)) hdg (Cl.mono kk (fun r Z2 I2 J2 hq => by
    obtain ⟨v, hr, hz, hq⟩ := hq
    subst hr
    subst hz
    exact hk v I2 J2 hq))
theorem jd_callVl {M2 : jdM} {na index id ci N : Nat} {T : u_T} {av st0 : List Value} {K : Int64 → jdI → jdJ → Prop} (hm : jdMc M2 na) (hs : Cond.instanceMethod M2.1 ∈ jdW ∧ Cond.selects M2.1.cls M2.1 M2.1 ∈ jdW) (hc : vwCl[ci]? = some (M2.1.cls, T, N)) (hT : Z.1 id = some (ci + 10, 0)) (hw : Cond.methodLink M.1.cls index M2.1 ∈ jdW) (hna : av.length = na) (hst0 : st0 = av.reverse ++ .ref (gb G + id) :: st) (hst : (st.map fun v => v.category).sum ≤ 8) (hdg : decode M.2.1 pc = .ok (.invokevirtual index, 3)) (kk : Cl G M2 n 0 0 (.ref (gb G + id) :: av) Z I J (ql Z K)) (hk : ∀ (v : Int64) (I2 : jdI) (J2 : jdJ), K v I2 J2 → Jd G M F (n + 1) rc rs (pc + 3) lv (.long v :: st) Z I2 J2) : Jd G M F (n + 1) rc rs pc lv st0 Z I J :=
  jd_callV hm hs hc hT hw hna hst0 hst (Nat.le_of_eq (Nat.zero_add _)) (Nat.le_of_eq (Nat.zero_add _)) hdg (Cl.mono kk (fun r Z2 I2 J2 hq => by
    obtain ⟨v, hr, hz, hq⟩ := hq
    subst hr
    subst hz
    exact hk v I2 J2 hq))
theorem jd_callVv {M2 : jdM} {na index id ci N : Nat} {T : u_T} {av st0 : List Value} {K : jdI → jdJ → Prop} (hm : jdMc M2 na) (hs : Cond.instanceMethod M2.1 ∈ jdW ∧ Cond.selects M2.1.cls M2.1 M2.1 ∈ jdW) (hc : vwCl[ci]? = some (M2.1.cls, T, N)) (hT : Z.1 id = some (ci + 10, 0)) (hw : Cond.methodLink M.1.cls index M2.1 ∈ jdW) (hna : av.length = na) (hst0 : st0 = av.reverse ++ .ref (gb G + id) :: st) (hst : (st.map fun v => v.category).sum ≤ 8) (hdg : decode M.2.1 pc = .ok (.invokevirtual index, 3)) (kk : Cl G M2 n 0 0 (.ref (gb G + id) :: av) Z I J (qv Z K)) (hk : ∀ (I2 : jdI) (J2 : jdJ), K I2 J2 → Jd G M F (n + 1) rc rs (pc + 3) lv st Z I2 J2) : Jd G M F (n + 1) rc rs pc lv st0 Z I J :=
  jd_callV hm hs hc hT hw hna hst0 hst (Nat.le_of_eq (Nat.zero_add _)) (Nat.le_of_eq (Nat.zero_add _)) hdg (Cl.mono kk (fun r Z2 I2 J2 hq => by
    obtain ⟨hr, hz, hq⟩ := hq
    subst hr
    subst hz
    exact hk I2 J2 hq))
theorem jd_callSi {M2 : jdM} {na index : Nat} {av st0 : List Value} {K : Int32 → jdI → jdJ → Prop} (hm : jdMc M2 na) (hs : Cond.static M2.1 ∈ jdW) (hw : Cond.methodLink M.1.cls index M2.1 ∈ jdW) (hna : av.length = na) (hst0 : st0 = av.reverse ++ st) (hst : (st.map fun v => v.category).sum ≤ 8) (hdg : decode M.2.1 pc = .ok (.invokestatic index, 3)) (kk : Cl G M2 n 0 0 av Z I J (qi Z K)) (hk : ∀ (v : Int32) (I2 : jdI) (J2 : jdJ), K v I2 J2 → Jd G M F (n + 1) rc rs (pc + 3) lv (.int v :: st) Z I2 J2) : Jd G M F (n + 1) rc rs pc lv st0 Z I J :=
  jd_callS hm hs hw hna hst0 hst (Nat.le_of_eq (Nat.zero_add _)) (Nat.le_of_eq (Nat.zero_add _)) hdg (Cl.mono kk (fun r Z2 I2 J2 hq => by
    obtain ⟨v, hr, hz, hq⟩ := hq
    subst hr
    subst hz
    exact hk v I2 J2 hq))
theorem jd_callSl {M2 : jdM} {na index : Nat} {av st0 : List Value} {K : Int64 → jdI → jdJ → Prop} (hm : jdMc M2 na) (hs : Cond.static M2.1 ∈ jdW) (hw : Cond.methodLink M.1.cls index M2.1 ∈ jdW) (hna : av.length = na) (hst0 : st0 = av.reverse ++ st) (hst : (st.map fun v => v.category).sum ≤ 8) (hdg : decode M.2.1 pc = .ok (.invokestatic index, 3)) (kk : Cl G M2 n 0 0 av Z I J (ql Z K)) (hk : ∀ (v : Int64) (I2 : jdI) (J2 : jdJ), K v I2 J2 → Jd G M F (n + 1) rc rs (pc + 3) lv (.long v :: st) Z I2 J2) : Jd G M F (n + 1) rc rs pc lv st0 Z I J :=
  jd_callS hm hs hw hna hst0 hst (Nat.le_of_eq (Nat.zero_add _)) (Nat.le_of_eq (Nat.zero_add _)) hdg (Cl.mono kk (fun r Z2 I2 J2 hq => by
    obtain ⟨v, hr, hz, hq⟩ := hq
    subst hr
    subst hz
    exact hk v I2 J2 hq))
theorem jd_callSv {M2 : jdM} {na index : Nat} {av st0 : List Value} {K : jdI → jdJ → Prop} (hm : jdMc M2 na) (hs : Cond.static M2.1 ∈ jdW) (hw : Cond.methodLink M.1.cls index M2.1 ∈ jdW) (hna : av.length = na) (hst0 : st0 = av.reverse ++ st) (hst : (st.map fun v => v.category).sum ≤ 8) (hdg : decode M.2.1 pc = .ok (.invokestatic index, 3)) (kk : Cl G M2 n 0 0 av Z I J (qv Z K)) (hk : ∀ (I2 : jdI) (J2 : jdJ), K I2 J2 → Jd G M F (n + 1) rc rs (pc + 3) lv st Z I2 J2) : Jd G M F (n + 1) rc rs pc lv st0 Z I J :=
  jd_callS hm hs hw hna hst0 hst (Nat.le_of_eq (Nat.zero_add _)) (Nat.le_of_eq (Nat.zero_add _)) hdg (Cl.mono kk (fun r Z2 I2 J2 hq => by
    obtain ⟨hr, hz, hq⟩ := hq
    subst hr
    subst hz
    exact hk I2 J2 hq))
theorem jd_callUi {M2 : jdM} {x : MethodName} {na index id ci N : Nat} {C owner : String} {T : u_T} {av st0 : List Value} {K : Int32 → jdI → jdJ → Prop} (hm : jdMc M2 na) (hs : Cond.instanceMethod M2.1 ∈ jdW ∧ Cond.selects C x M2.1 ∈ jdW ∧ Cond.sameMethod x.cls owner x.name x.desc ∈ jdW) (hx : owner ≠ "java/lang/invoke/MethodHandle" ∧ owner ≠ "java/lang/invoke/VarHandle" ∧ x.desc = M2.1.desc) (hd : (Cond.instanceMethod ⟨owner, x.name, x.desc⟩ ∈ jdW ∧ ∃ (b0 : ByteArray) (m0 : Nat) (r0 : Option FieldType), Cond.code ⟨owner, x.name, x.desc⟩ b0 m0 r0 ∈ jdW) ∨ ∀ U, G.2.2.2.2 U → va_Decl U ⟨owner, x.name, x.desc⟩) (hc : vwCl[ci]? = some (C, T, N)) (hT : Z.1 id = some (ci + 10, 0)) (hw : Cond.methodLink M.1.cls index x ∈ jdW) (hna : av.length = na) (hst0 : st0 = av.reverse ++ .ref (gb G + id) :: st) (hst : (st.map fun v => v.category).sum ≤ 8) (hdg : decode M.2.1 pc = .ok (.invokevirtual index, 3)) (kk : Cl G M2 n 0 0 (.ref (gb G + id) :: av) Z I J (qi Z K)) (hk : ∀ (v : Int32) (I2 : jdI) (J2 : jdJ), K v I2 J2 → Jd G M F (n + 1) rc rs (pc + 3) lv (.int v :: st) Z I2 J2) : Jd G M F (n + 1) rc rs pc lv st0 Z I J :=
  jd_callU hm hs hx hd hc hT hw hna hst0 hst (Nat.le_of_eq (Nat.zero_add _)) (Nat.le_of_eq (Nat.zero_add _)) hdg (Cl.mono kk (fun r Z2 I2 J2 hq => by
    obtain ⟨v, hr, hz, hq⟩ := hq
    subst hr
    subst hz
    exact hk v I2 J2 hq))
theorem jd_callUl {M2 : jdM} {x : MethodName} {na index id ci N : Nat} {C owner : String} {T : u_T} {av st0 : List Value} {K : Int64 → jdI → jdJ → Prop} (hm : jdMc M2 na) (hs : Cond.instanceMethod M2.1 ∈ jdW ∧ Cond.selects C x M2.1 ∈ jdW ∧ Cond.sameMethod x.cls owner x.name x.desc ∈ jdW) (hx : owner ≠ "java/lang/invoke/MethodHandle" ∧ owner ≠ "java/lang/invoke/VarHandle" ∧ x.desc = M2.1.desc) (hd : (Cond.instanceMethod ⟨owner, x.name, x.desc⟩ ∈ jdW ∧ ∃ (b0 : ByteArray) (m0 : Nat) (r0 : Option FieldType), Cond.code ⟨owner, x.name, x.desc⟩ b0 m0 r0 ∈ jdW) ∨ ∀ U, G.2.2.2.2 U → va_Decl U ⟨owner, x.name, x.desc⟩) (hc : vwCl[ci]? = some (C, T, N)) (hT : Z.1 id = some (ci + 10, 0)) (hw : Cond.methodLink M.1.cls index x ∈ jdW) (hna : av.length = na) (hst0 : st0 = av.reverse ++ .ref (gb G + id) :: st) (hst : (st.map fun v => v.category).sum ≤ 8) (hdg : decode M.2.1 pc = .ok (.invokevirtual index, 3)) (kk : Cl G M2 n 0 0 (.ref (gb G + id) :: av) Z I J (ql Z K)) (hk : ∀ (v : Int64) (I2 : jdI) (J2 : jdJ), K v I2 J2 → Jd G M F (n + 1) rc rs (pc + 3) lv (.long v :: st) Z I2 J2) : Jd G M F (n + 1) rc rs pc lv st0 Z I J :=
  jd_callU hm hs hx hd hc hT hw hna hst0 hst (Nat.le_of_eq (Nat.zero_add _)) (Nat.le_of_eq (Nat.zero_add _)) hdg (Cl.mono kk (fun r Z2 I2 J2 hq => by
    obtain ⟨v, hr, hz, hq⟩ := hq
    subst hr
    subst hz
    exact hk v I2 J2 hq))
theorem jd_callUv {M2 : jdM} {x : MethodName} {na index id ci N : Nat} {C owner : String} {T : u_T} {av st0 : List Value} {K : jdI → jdJ → Prop} (hm : jdMc M2 na) (hs : Cond.instanceMethod M2.1 ∈ jdW ∧ Cond.selects C x M2.1 ∈ jdW ∧ Cond.sameMethod x.cls owner x.name x.desc ∈ jdW) (hx : owner ≠ "java/lang/invoke/MethodHandle" ∧ owner ≠ "java/lang/invoke/VarHandle" ∧ x.desc = M2.1.desc) (hd : (Cond.instanceMethod ⟨owner, x.name, x.desc⟩ ∈ jdW ∧ ∃ (b0 : ByteArray) (m0 : Nat) (r0 : Option FieldType), Cond.code ⟨owner, x.name, x.desc⟩ b0 m0 r0 ∈ jdW) ∨ ∀ U, G.2.2.2.2 U → va_Decl U ⟨owner, x.name, x.desc⟩) (hc : vwCl[ci]? = some (C, T, N)) (hT : Z.1 id = some (ci + 10, 0)) (hw : Cond.methodLink M.1.cls index x ∈ jdW) (hna : av.length = na) (hst0 : st0 = av.reverse ++ .ref (gb G + id) :: st) (hst : (st.map fun v => v.category).sum ≤ 8) (hdg : decode M.2.1 pc = .ok (.invokevirtual index, 3)) (kk : Cl G M2 n 0 0 (.ref (gb G + id) :: av) Z I J (qv Z K)) (hk : ∀ (I2 : jdI) (J2 : jdJ), K I2 J2 → Jd G M F (n + 1) rc rs (pc + 3) lv st Z I2 J2) : Jd G M F (n + 1) rc rs pc lv st0 Z I J :=
  jd_callU hm hs hx hd hc hT hw hna hst0 hst (Nat.le_of_eq (Nat.zero_add _)) (Nat.le_of_eq (Nat.zero_add _)) hdg (Cl.mono kk (fun r Z2 I2 J2 hq => by
    obtain ⟨hr, hz, hq⟩ := hq
    subst hr
    subst hz
    exact hk I2 J2 hq))
end QR
