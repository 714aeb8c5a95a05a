/-! THE LOGIC: a method's frame over a typed memory. Cells are named by numbers (address less the size of the heap at the law's start). -/
abbrev jdM : Type := MethodName × ByteArray × Nat × Option FieldType
/-- what each cell is (kind, length); the references that it holds; how many cells there are -/
abbrev jdL : Type := (Nat → Option (Nat × Nat)) × (Nat → Nat → Option Nat) × Nat
abbrev jdI : Type := Nat → Nat → Int32
abbrev jdJ : Type := Nat → Nat → Int64
abbrev jdG : Type := Launch × va_G × Heap × (Nat → ClassId) × (State → Prop)
abbrev jdQ : Type := Option Value → jdL → jdI → jdJ → Prop
abbrev jdF : Type := List Frame → Array Value → State → Nat → Nat → State → Prop
def gb (G : jdG) : Nat := G.2.2.1.size
/-- the kinds of a class's fields: true where it is a reference -/
def jdk : Nat → List Bool
  | 2 => [true, true, true, true, false, false, false]
  | 4 => [true, false, false, false, false, false]
  | 5 => [true, false, false, true]
  | 7 => [true, true, true, true, true, true, false, false, false, false, false]
  | 8 => [true, true, true, false, false, false, false, false, false, false]
  | 10 => [true, true, true, true, true, true, true, true, false]
  | 11 => [true, true, true, true, true, true, true, true, false, true, false, true, true, true, false, false, false, false, false, false, true, true, false, false, false, false, false, true, false, true, false, true, true, false, false, true, true, false, false, true, true, true, false, false, false]
  | _ => [false]
def jdf (b : Nat) (P : Nat → Option Nat) (I : Nat → Int32) : List Bool → Nat → List Value
  | [], _ => []
  | r :: ks, j => (if r = true then va_rf ((P j).map (fun x => b + x)) else .int (I j)) :: jdf b P I ks (j + 1)
theorem jdf_get (b : Nat) (P : Nat → Option Nat) (I : Nat → Int32) : ∀ (ks : List Bool) (j k : Nat), (jdf b P I ks j)[k]? = (ks[k]?).map (fun r => if r = true then va_rf ((P (j + k)).map (fun x => b + x)) else .int (I (j + k)))
  | [], j, k => by simp [jdf]
  | r :: ks, j, 0 => by simp [jdf]
  | r :: ks, j, k + 1 => by
    have h := jdf_get b P I ks (j + 1) k
    simp only [jdf, List.getElem?_cons_succ, h]
    rw [show j + 1 + k = j + (k + 1) by omega]
theorem jdf_len (b : Nat) (P : Nat → Option Nat) (I : Nat → Int32) : ∀ (ks : List Bool) (j : Nat), (jdf b P I ks j).length = ks.length
  | [], j => rfl
  | r :: ks, j => by simp [jdf, jdf_len b P I ks (j + 1)]
theorem jdf_setI (b : Nat) (P : Nat → Option Nat) (I : Nat → Int32) (ks : List Bool) (j k : Nat) (v : Int32) (h : ks[k]? = some false) : (jdf b P I ks j).set k (.int v) = jdf b P (upd I (j + k) v) ks j := by
  apply List.ext_getElem?
  intro i
  rw [List.getElem?_set, jdf_get, jdf_get, jdf_len]
  by_cases hik : k = i
  · subst hik
    have hl : k < ks.length := (List.getElem?_eq_some_iff.mp h).1
    rw [if_pos rfl, if_pos hl, h]
    simp [upd]
  · have hne : ¬ j + i = j + k := by omega
    rw [if_neg hik]
    cases hk : ks[i]? with
    | none => rfl
    | some r =>
      cases r
      · simp only [Option.map_some, upd, if_neg hne]
      · rfl
theorem jdf_setP (b : Nat) (P : Nat → Option Nat) (I : Nat → Int32) (ks : List Bool) (j k : Nat) (v : Option Nat) (h : ks[k]? = some true) : (jdf b P I ks j).set k (va_rf (v.map (fun x => b + x))) = jdf b (va_up P (j + k) v) I ks j := by
  apply List.ext_getElem?
  intro i
  rw [List.getElem?_set, jdf_get, jdf_get, jdf_len]
  by_cases hik : k = i
  · subst hik
    have hl : k < ks.length := (List.getElem?_eq_some_iff.mp h).1
    rw [if_pos rfl, if_pos hl, h]
    simp [va_up]
  · have hne : ¬ j + i = j + k := by omega
    rw [if_neg hik]
    cases hk : ks[i]? with
    | none => rfl
    | some r =>
      cases r
      · rfl
      · simp only [Option.map_some, va_up, if_neg hne]
/-- a cell's content -/
def jdc (G : jdG) (Z : jdL) (I : jdI) (J : jdJ) (id : Nat) (t : Nat × Nat) : va_E :=
  if t.1 = 0 then .inl (G.2.2.2.1 0, t.2, .inl (I id))
  else if t.1 = 1 then .inl (G.2.2.2.1 1, t.2, .inr (.inl (J id)))
  else if t.1 < 10 then .inl (G.2.2.2.1 t.1, t.2, .inr (.inr (.inr (.inr (fun i => (Z.2.1 id i).map (fun x => gb G + x))))))
  else .inr (t.1 - 10, jdf (gb G) (Z.2.1 id) (I id) (jdk (t.1 - 10)) 0)
/-- the heap holds the memory -/
def jdR (G : jdG) (Z : jdL) (I : jdI) (J : jdJ) (H : Heap) : Prop :=
  H.size = gb G + Z.2.2 ∧ (∀ q : Nat, q < gb G → H[q]? = G.2.2.1[q]?) ∧ ∀ (id : Nat) (t : Nat × Nat), Z.1 id = some t → va_at G.2.1 vwCl (gb G + id, jdc G Z I J id t) H
def jdT (G : jdG) : List (ClassId × FieldType) := [(G.2.2.2.1 0, .int), (G.2.2.2.1 1, .long), (G.2.2.2.1 2, .array .int), (G.2.2.2.1 3, .array .long), (G.2.2.2.1 4, .object RX6)]
def jdK (G : jdG) (U : State) : Prop := va_K G.2.1 vwCl (jdT G) U ∧ G.2.2.2.2 U ∧ ∀ s V : State, s.WarmedH V.vm → G.2.2.2.2 s → G.2.2.2.2 V
def jdW : List Cond := lw_tbl.filter goodWord
def jdws (M : jdM) : List Cond := Cond.code M.1 M.2.1 M.2.2.1 M.2.2.2 :: jdW
def jdC (G : jdG) (M : jdM) (n : Nat) (p : Program) (R : Room) (s : State) (m : MethodId) (args : Array Value) (meth : Method) (c : Code) : Prop :=
  p.tables.exec = Jvm.exec ∧ c.code = M.2.1 ∧ meth.sig.returnType = M.2.2.2 ∧ c.maxLocals = M.2.2.1 ∧ s.vm.findClass M.1.cls = some m.cls ∧ (∀ w ∈ jdW, w.before args s = true) ∧ meth.locks = false ∧ meth.name = M.1.name ∧ jdK G s ∧ n ≤ R.frames ∧ 40 * n ≤ R.locals
def Jd (G : jdG) (M : jdM) (F : jdF) (n rc rs pc : Nat) (lv : List (Nat × Value)) (st : List Value) (Z : jdL) (I : jdI) (J : jdJ) : Prop :=
  ∀ (p : Program) (e : Env) (R : Room) (s : State) (m : MethodId) (args : Array Value) (below : List Frame) (meth : Method) (c : Code) (H : Heap) (locs : List Loc) (cells slots : Nat) (ls : Array Slot),
    jdC G M n p R s m args meth c → jdR G Z I J H → (∀ q ∈ locs, gb G ≤ q.base) → lv_has ls M.2.2.1 lv → cells + rc ≤ R.cells → slots + rs ≤ R.slots →
    W p G.1 e R s m args below meth c H locs cells slots (F below args s R.cells R.slots) (F0 m pc ls st)
def jdE (G : jdG) (Q : jdQ) : Array Value → State → Outcome → State → Prop := fun _ _ o t => ∃ (r : Option Value) (Z : jdL) (I : jdI) (J : jdJ), o = .returned r ∧ Q r Z I J ∧ jdR G Z I J t.heap
def jdFm (G : jdG) (Q : jdQ) : jdF := fun below args s mc ms => MQ below (jdE G Q) args s mc ms (fun q => gb G ≤ q)
def jdrm (n mc ms : Nat) : Room := { frames := n, cells := mc, slots := ms, locals := 40 * n }
def jdPc (G : jdG) (av : List Value) (Z : jdL) (I : jdI) (J : jdJ) : Array Value → State → Prop := va_Pc av (fun U => jdR G Z I J U.heap ∧ jdK G U)
/-- the method M, called with av over the memory Z I J with n frames, mc cells, ms slots left, returns with Q -/
def Cl (G : jdG) (M : jdM) (n mc ms : Nat) (av : List Value) (Z : jdL) (I : jdI) (J : jdJ) (Q : jdQ) : Prop :=
  Met G.1 M.1 (jdws M) (jdrm n mc ms) (jdPc G av Z I J) (jdE G Q) mc ms (fun q => gb G ≤ q)
def uI (I : jdI) (id k : Nat) (v : Int32) : jdI := fun a => if a = id then upd (I id) k v else I a
def uJ (J : jdJ) (id k : Nat) (v : Int64) : jdJ := fun a => if a = id then vp_updL (J id) k v else J a
def uP (Z : jdL) (id k : Nat) (v : Option Nat) : jdL := (Z.1, (fun a => if a = id then va_up (Z.2.1 id) k v else Z.2.1 a), Z.2.2)
theorem uI_s (I : jdI) (id k : Nat) (v : Int32) : uI I id k v id = upd (I id) k v := if_pos rfl
theorem uI_n (I : jdI) {id a : Nat} (k : Nat) (v : Int32) (h : a ≠ id) : uI I id k v a = I a := if_neg h
theorem uJ_s (J : jdJ) (id k : Nat) (v : Int64) : uJ J id k v id = vp_updL (J id) k v := if_pos rfl
theorem uJ_n (J : jdJ) {id a : Nat} (k : Nat) (v : Int64) (h : a ≠ id) : uJ J id k v a = J a := if_neg h
theorem jdR_one {G : jdG} {Z : jdL} {I : jdI} {J : jdJ} {H : Heap} (hR : jdR G Z I J H) {id : Nat} {t : Nat × Nat} (hT : Z.1 id = some t) : va_P G.2.1 vwCl [(gb G + id, jdc G Z I J id t)] H := by
  intro k q hk
  have h0 : k < 1 := (List.getElem?_eq_some_iff.mp hk).1
  rw [show k = 0 by omega] at hk
  cases hk
  exact hR.2.2 id t hT
theorem jdR_set {G : jdG} {Z Z' : jdL} {I I' : jdI} {J J' : jdJ} {H H' : Heap} {id : Nat} {t : Nat × Nat} (hR : jdR G Z I J H) (hT : Z.1 id = some t) (hz : H'.size = H.size) (ho : ∀ q : Nat, q ≠ gb G + id → H'[q]? = H[q]?) (h1 : Z'.1 = Z.1) (h3 : Z'.2.2 = Z.2.2)
    (hoth : ∀ (j : Nat) (u : Nat × Nat), j ≠ id → jdc G Z' I' J' j u = jdc G Z I J j u) (hnew : va_at G.2.1 vwCl (gb G + id, jdc G Z' I' J' id t) H') : jdR G Z' I' J' H' := by
  refine ⟨by rw [hz, h3]; exact hR.1, fun q hq => by rw [ho q (by omega)]; exact hR.2.1 q hq, fun j u hu => ?_⟩
  rw [h1] at hu
  by_cases hj : j = id
  · subst hj
    cases hT.symm.trans hu
    exact hnew
  · rw [hoth j u hj]
    exact (hR.2.2 j u hu).kept (ho _ (by show gb G + j ≠ gb G + id; omega))
theorem jdc_uI {G : jdG} {Z : jdL} {I : jdI} {J : jdJ} {id k j : Nat} {v : Int32} (u : Nat × Nat) (h : j ≠ id) : jdc G Z (uI I id k v) J j u = jdc G Z I J j u := by
  simp only [jdc, uI_n I k v h]
theorem jdc_uJ {G : jdG} {Z : jdL} {I : jdI} {J : jdJ} {id k j : Nat} {v : Int64} (u : Nat × Nat) (h : j ≠ id) : jdc G Z I (uJ J id k v) j u = jdc G Z I J j u := by
  simp only [jdc, uJ_n J k v h]
theorem jdc_uP {G : jdG} {Z : jdL} {I : jdI} {J : jdJ} {id k j : Nat} {v : Option Nat} (u : Nat × Nat) (h : j ≠ id) : jdc G (uP Z id k v) I J j u = jdc G Z I J j u := by
  simp only [jdc, uP, if_neg h]
theorem jdW_in {w : Cond} (h : w ∈ lw_tbl) (hg : goodWord w = true) : w ∈ jdW := List.mem_filter.mpr ⟨h, hg⟩
theorem jdW_good : ∀ (M : jdM), Cond.code M.1 M.2.1 M.2.2.1 M.2.2.2 ∈ jdW → GoodIn jdW (jdws M) := by
  intro M hM w hw
  have : w ∈ jdW := by
    rcases List.mem_cons.mp hw with h | h
    · rw [h]; exact hM
    · exact h
  exact ⟨this, good_of_word (List.mem_filter.mp this).2⟩
set_option maxHeartbeats 1000000 in
theorem Cl.of {G : jdG} {M : jdM} {n mc ms : Nat} {av : List Value} {Z : jdL} {I : jdI} {J : jdJ} {Q : jdQ} (hy : plainName M.1.cls = true) (hav : (lg_sl av).length ≤ M.2.2.1) (h : Jd G M (jdFm G Q) n mc ms 0 (lv_args 0 av) [] Z I J) : Cl G M n mc ms av Z I J Q := by
  refine Met.ofW (cc := M.2.1) (maxL := M.2.2.1) (ret := M.2.2.2) hy rfl ?_
  intro p e s m args below meth c s₁ B hml hv
  obtain ⟨rfl, hR, hK⟩ := hv
  have hts := atoms_spec (ws := jdws M) B.pre
  rw [lg_entry_eq]
  exact h p e (jdrm n mc ms) s m av.toArray below meth c s.heap [] 0 0 _ ⟨B.exec, B.bytes, B.returns, hml, findClass_of_methodNamed B.named, fun w hw => hts w (List.mem_cons_of_mem _ hw), B.notSynchronized, (name_of_methodNamed B.named B.method).1, hK, Nat.le_refl _, Nat.le_refl _⟩ hR (fun q hq => by cases hq) (lv_entry av hav) (Nat.le_of_eq (Nat.zero_add _)) (Nat.le_of_eq (Nat.zero_add _))
