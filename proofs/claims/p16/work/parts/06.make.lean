/-! rows that make cells, and those of rows of references -/
def nZ (Z : jdL) (t : Nat × Nat) : jdL := ((fun a => if a = Z.2.2 then some t else Z.1 a), (fun a => if a = Z.2.2 then (fun _ => none) else Z.2.1 a), Z.2.2 + 1)
def zI (I : jdI) (id : Nat) : jdI := fun a => if a = id then (fun _ => 0) else I a
def zJ (J : jdJ) (id : Nat) : jdJ := fun a => if a = id then (fun _ => 0) else J a
theorem jdR_lt {G : jdG} {Z : jdL} {I : jdI} {J : jdJ} {H : Heap} (hR : jdR G Z I J H) {id : Nat} {t : Nat × Nat} (hT : Z.1 id = some t) : id < Z.2.2 := by
  have h := (hR.2.2 id t hT).lt
  have h1 := hR.1
  have h2 : gb G + id < H.size := h
  omega
theorem jdR_new {G : jdG} {Z : jdL} {I I' : jdI} {J J' : jdJ} {H H' : Heap} {t : Nat × Nat} (hR : jdR G Z I J H) (hz : H'.size = H.size + 1) (ho : ∀ q : Nat, q < H.size → H'[q]? = H[q]?)
    (hI : ∀ a, a ≠ Z.2.2 → I' a = I a) (hJ : ∀ a, a ≠ Z.2.2 → J' a = J a) (hnew : va_at G.2.1 vwCl (gb G + Z.2.2, jdc G (nZ Z t) I' J' Z.2.2 t) H') : jdR G (nZ Z t) I' J' H' := by
  refine ⟨by rw [hz, hR.1]; rfl, fun q hq => by rw [ho q (by have := hR.1; omega)]; exact hR.2.1 q hq, fun j u hu => ?_⟩
  by_cases hj : j = Z.2.2
  · subst hj
    have e : (nZ Z t).1 Z.2.2 = some t := if_pos rfl
    cases e.symm.trans hu
    exact hnew
  · have e : (nZ Z t).1 j = Z.1 j := if_neg hj
    rw [e] at hu
    have e2 : jdc G (nZ Z t) I' J' j u = jdc G Z I J j u := by
      simp only [jdc, nZ, if_neg hj, hI j hj, hJ j hj]
    rw [e2]
    have hl := (hR.2.2 j u hu).lt
    exact (hR.2.2 j u hu).kept (ho _ hl)
/-- a class that is made -/
def jdNw (ci : Nat) (own : String) (index : Nat) (N : Nat) : Prop := ∃ (C : String) (T : u_T) (ty0 : Nat → FieldType), vwCl[ci]? = some (C, T, N) ∧ (∀ w ∈ u_ws C T N, w ∈ jdW) ∧ (∀ k, k < N → parseFieldDescriptor (T k).2.2.1 = some (ty0 k)) ∧ Cond.classLink own index C ∈ jdW ∧ Cond.instantiable C N ∈ jdW ∧ Cond.initialized C ∈ jdW ∧ (∀ j, j < N → defaultValue (ty0 j) = vp_V (jdf 0 (fun _ => none) (fun _ => 0) (jdk ci) 0) j)
theorem jdf_0 (b : Nat) (I : Nat → Int32) : ∀ (ks : List Bool) (j : Nat), jdf b (fun _ => none) I ks j = jdf 0 (fun _ => none) I ks j
  | [], _ => rfl
  | r :: ks, j => by simp [jdf, jdf_0 b I ks (j + 1)]
section MK
variable {G : jdG} {M : jdM} {F : jdF} {n rc rs pc : Nat} {lv : List (Nat × Value)} {st : List Value} {Z : jdL} {I : jdI} {J : jdJ}
theorem jd_new {ci index N rc2 rs2 : Nat} (hf : jdNw ci M.1.cls index N) (hb1 : 1 + rc2 ≤ rc) (hb2 : N + rs2 ≤ rs) (hdg : decode M.2.1 pc = .ok (.new index, 3)) (kk : Jd G M F n rc2 rs2 (pc + 3) lv (.ref (gb G + Z.2.2) :: st) (nZ Z (ci + 10, 0)) (zI I Z.2.2) J) : Jd G M F n rc rs pc lv st Z I J := by
  intro p e R s m args below meth c H locs cells slots ls hC hR hL hl h1 h2
  obtain ⟨C, T, ty0, hc, hin, hty, hw1, hw2, hw3, hdef⟩ := hf
  have hts := hC.2.2.2.2.2.1
  have hK := hC.2.2.2.2.2.2.2.2.1.1
  have hKn := hK.1 ci _ hc
  refine W.newcK hC.1 hC.2.1 hC.2.2.2.2.1 (hts _ hw1) (hts _ hw2) (hts _ hw3) rfl hdg (by omega) (by omega) hKn.2.1 hR.1 fun H1 kC hkC e1 z1 o1 => ?_
  refine kk p e R s m args below meth c H1 locs (cells + 1) (slots + N) ls hC (jdR_new hR (by rw [z1, hR.1]) (fun q hq => o1 q (by rw [← hR.1]; exact hq)) (fun a ha => if_neg ha) (fun a _ => rfl) ?_) hL hl (by omega) (by omega)
  rw [jdc_o]
  have e2 : (nZ Z (ci + 10, 0)).2.1 Z.2.2 = (fun _ => none) := if_pos rfl
  have e3 : zI I Z.2.2 Z.2.2 = (fun _ => 0) := if_pos rfl
  rw [e2, e3, jdf_0]
  exact ⟨_, hc, (u_born ty0 hts hin hKn hkC e1 hty).to hdef⟩
theorem jd_newI {rc2 rs2 len : Nat} {x : Int32} (hw : Cond.arrayClass .int ∈ jdW) (hx : ¬ x < 0) (hx2 : x.toNatClampNeg = len) (hlen : len * 4 ≤ 536870912) (hb1 : 1 + rc2 ≤ rc) (hb2 : len + rs2 ≤ rs) (hdg : decode M.2.1 pc = .ok (.newarray .int, 2)) (kk : Jd G M F n rc2 rs2 (pc + 2) lv (.ref (gb G + Z.2.2) :: st) (nZ Z (0, len)) (zI I Z.2.2) J) : Jd G M F n rc rs pc lv (.int x :: st) Z I J := by
  intro p e R s m args below meth c H locs cells slots ls hC hR hL hl h1 h2
  have hts := hC.2.2.2.2.2.1
  have hK := hC.2.2.2.2.2.2.2.2.1.1
  refine va_newaK (atype := .int) hC.1 hC.2.1 (hts _ hw) rfl hdg rfl hx hx2 hlen (by omega) (by omega) hR.1 fun H1 cA e1 z1 o1 hAr hNm => ?_
  refine kk p e R s m args below meth c H1 locs (cells + 1) (slots + len) ls hC (jdR_new hR (by rw [z1, hR.1]) (fun q hq => o1 q (by rw [← hR.1]; exact hq)) (fun a ha => if_neg ha) (fun a _ => rfl) ?_) hL hl (by omega) (by omega)
  rw [jdc_i]
  have hcA : G.2.2.2.1 0 = cA := by
    have h9 := (hK.2 0 _ rfl).2
    exact Option.some.inj (h9.symm.trans hNm)
  have e3 : zI I Z.2.2 Z.2.2 = (fun _ => 0) := if_pos rfl
  rw [e3, hcA]
  exact e1
theorem jd_newJ {rc2 rs2 len : Nat} {x : Int32} (hw : Cond.arrayClass .long ∈ jdW) (hx : ¬ x < 0) (hx2 : x.toNatClampNeg = len) (hlen : len * 8 ≤ 536870912) (hb1 : 1 + rc2 ≤ rc) (hb2 : len + rs2 ≤ rs) (hdg : decode M.2.1 pc = .ok (.newarray .long, 2)) (kk : Jd G M F n rc2 rs2 (pc + 2) lv (.ref (gb G + Z.2.2) :: st) (nZ Z (1, len)) I (zJ J Z.2.2)) : Jd G M F n rc rs pc lv (.int x :: st) Z I J := by
  intro p e R s m args below meth c H locs cells slots ls hC hR hL hl h1 h2
  have hts := hC.2.2.2.2.2.1
  have hK := hC.2.2.2.2.2.2.2.2.1.1
  refine va_newaK (atype := .long) hC.1 hC.2.1 (hts _ hw) rfl hdg rfl hx hx2 hlen (by omega) (by omega) hR.1 fun H1 cA e1 z1 o1 hAr hNm => ?_
  refine kk p e R s m args below meth c H1 locs (cells + 1) (slots + len) ls hC (jdR_new hR (by rw [z1, hR.1]) (fun q hq => o1 q (by rw [← hR.1]; exact hq)) (fun a _ => rfl) (fun a ha => if_neg ha) ?_) hL hl (by omega) (by omega)
  rw [jdc_l]
  have hcA : G.2.2.2.1 1 = cA := by
    have h9 := (hK.2 1 _ rfl).2
    exact Option.some.inj (h9.symm.trans hNm)
  have e3 : zJ J Z.2.2 Z.2.2 = (fun _ => 0) := if_pos rfl
  rw [e3, hcA]
  exact e1
/-- Shelf[] -/
theorem jd_anew {rc2 rs2 len index : Nat} {x : Int32} (hw : Cond.classLink M.1.cls index RX6 ∈ jdW) (hX : ∀ U, G.2.2.2.2 U → va_AO RX6 U) (hx : ¬ x < 0) (hx2 : x.toNatClampNeg = len) (hlen : len * 4 ≤ 536870912) (hb1 : 1 + rc2 ≤ rc) (hb2 : len + rs2 ≤ rs) (hdg : decode M.2.1 pc = .ok (.anewarray index, 3)) (kk : Jd G M F n rc2 rs2 (pc + 3) lv (.ref (gb G + Z.2.2) :: st) (nZ Z (4, len)) I J) : Jd G M F n rc rs pc lv (.int x :: st) Z I J := by
  intro p e R s m args below meth c H locs cells slots ls hC hR hL hl h1 h2
  have hts := hC.2.2.2.2.2.1
  have hK := hC.2.2.2.2.2.2.2.2.1.1
  subst hx2
  refine W.anew hC.1 hC.2.1 hC.2.2.2.2.1 (hts _ hw) (va_AO.use (hX s hC.2.2.2.2.2.2.2.2.1.2.1)) rfl hdg rfl hx hlen (by omega) (by omega) fun cA kA comp f1 f2 f3 f4 => ?_
  have z0 := hR.1
  generalize hH1 : H.push ({ cls := cA, slots := Array.replicate x.toNatClampNeg .null, vm := .none } : Cell) = H1
  have z1 : H1.size = H.size + 1 := by rw [← hH1, Array.size_push]
  have e1 : H1[H.size]? = some (arrV cA x.toNatClampNeg (fun _ => .null)) := by rw [← hH1, Array.getElem?_push_size, ← arrV_new]
  have o1 : ∀ q : Nat, q < H.size → H1[q]? = H[q]? := fun q hq => by rw [← hH1, Array.getElem?_push, if_neg (Nat.ne_of_lt hq)]
  show W _ _ _ _ _ _ _ _ _ _ _ _ _ _ _ (F0 m (pc + 3) ls (.ref H.size :: st))
  rw [z0]
  refine kk p e R s m args below meth c H1 locs (cells + 1) (slots + x.toNatClampNeg) ls hC (jdR_new hR z1 o1 (fun a _ => rfl) (fun a _ => rfl) ?_) hL hl (by omega) (by omega)
  rw [jdc_r _ _ _ _ _ _ _ (by omega) (by omega)]
  have hcA : G.2.2.2.1 4 = cA := by
    obtain ⟨-, -, -, -, -, h9⟩ := (hK.2 4 _ rfl).2
    exact Option.some.inj (h9.symm.trans f1)
  have e2 : (nZ Z (4, x.toNatClampNeg)).2.1 Z.2.2 = (fun _ => none) := if_pos rfl
  rw [e2, hcA]
  show H1[gb G + Z.2.2]? = some (vp_cell _ _)
  rw [← z0, e1]
  rfl
end MK
