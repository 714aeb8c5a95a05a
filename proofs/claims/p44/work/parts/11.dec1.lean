/-- the byte at p of c is n -/
def bq_at (c : ByteArray) (p n : Nat) : Prop := ∃ h : p < c.size, (c[p]'h).toNat = n
theorem bq_of {c : ByteArray} {s m : Nat} {w : List Nat} (H : ((c.data.toList.drop s).take m).map UInt8.toNat = w) (j : Nat) {n : Nat} (h : w[j]? = some n) : bq_at c (s + j) n := by
  subst H
  rw [List.getElem?_map] at h
  obtain ⟨v, hv, hn⟩ := Option.map_eq_some_iff.mp h
  rw [List.getElem?_take] at hv
  by_cases hj : j < m
  · rw [if_pos hj, List.getElem?_drop] at hv
    obtain ⟨hi, hg⟩ := List.getElem?_eq_some_iff.mp hv
    have hs : s + j < c.size := by simpa using hi
    refine ⟨hs, ?_⟩
    have e : c[s + j]'hs = v := hg
    rw [e]
    exact hn
  · rw [if_neg hj] at hv
    cases hv
theorem bq_2 {c : ByteArray} {s m : Nat} {w : List Nat} (H : ((c.data.toList.drop s).take m).map UInt8.toNat = w) (j : Nat) {x y : Nat} (h : (w.drop j).take 2 = [x, y]) : bq_at c (s + j) x ∧ bq_at c (s + j + 1) y := by
  have g : ∀ k, k < 2 → w[j + k]? = [x, y][k]? := fun k hk => by
    rw [← h, List.getElem?_take, if_pos hk, List.getElem?_drop]
  exact ⟨bq_of H j (g 0 (by decide)), bq_of H (j + 1) (g 1 (by decide))⟩
theorem bq_3 {c : ByteArray} {s m : Nat} {w : List Nat} (H : ((c.data.toList.drop s).take m).map UInt8.toNat = w) (j : Nat) {x y z : Nat} (h : (w.drop j).take 3 = [x, y, z]) : bq_at c (s + j) x ∧ bq_at c (s + j + 1) y ∧ bq_at c (s + j + 2) z := by
  have g : ∀ k, k < 3 → w[j + k]? = [x, y, z][k]? := fun k hk => by
    rw [← h, List.getElem?_take, if_pos hk, List.getElem?_drop]
  exact ⟨bq_of H j (g 0 (by decide)), bq_of H (j + 1) (g 1 (by decide)), bq_of H (j + 2) (g 2 (by decide))⟩
theorem bq_u1 {c : ByteArray} {p n : Nat} (h : bq_at c p n) : (Jvm.ClassFile.Reader.u1 : Jvm.ClassFile.Decoder Nat) c p = .ok (n, p + 1) := by
  obtain ⟨hp, e⟩ := h
  show (do if h : p < c.size then do set (p + 1); Pure.pure (c[p]'h).toNat else MonadExcept.throw (Jvm.ClassFile.HasTruncated.truncated p) : Jvm.ClassFile.Decoder Nat) c p = _
  rw [dif_pos hp, e]
  rfl
theorem bq_bind {α β : Type} {r : Jvm.ClassFile.Decoder α} {f : α → Jvm.ClassFile.Decoder β} {c : ByteArray} {p q : Nat} {a : α} (h : r c p = .ok (a, q)) : (r >>= f) c p = f a c q := by
  show (do let (a, s) ← r c p; f a c s : Except Jvm.ClassFile.DecodeError (β × Nat)) = _
  rw [h]
  rfl
theorem bq_u2 {c : ByteArray} {p a b : Nat} (h1 : bq_at c p a) (h2 : bq_at c (p + 1) b) : (Jvm.ClassFile.Reader.u2 : Jvm.ClassFile.Decoder Nat) c p = .ok (a * 256 + b, p + 2) := by
  show ((Jvm.ClassFile.Reader.u1 : Jvm.ClassFile.Decoder Nat) >>= fun x => (Jvm.ClassFile.Reader.u1 : Jvm.ClassFile.Decoder Nat) >>= fun y => (Pure.pure (x * 256 + y) : Jvm.ClassFile.Decoder Nat)) c p = _
  rw [bq_bind (bq_u1 h1), bq_bind (bq_u1 h2)]
  rfl
theorem bq_s1 {c : ByteArray} {p a : Nat} (h : bq_at c p a) : (Jvm.ClassFile.Reader.s1 : Jvm.ClassFile.Decoder Int) c p = .ok (Jvm.ClassFile.Reader.signed 8 a, p + 1) := by
  show (do let (x, s) ← (Jvm.ClassFile.Reader.u1 : Jvm.ClassFile.Decoder Nat) c p; .ok (Jvm.ClassFile.Reader.signed 8 x, s) : Except Jvm.ClassFile.DecodeError (Int × Nat)) = _
  rw [bq_u1 h]
  rfl
theorem bq_s2 {c : ByteArray} {p a b : Nat} (h1 : bq_at c p a) (h2 : bq_at c (p + 1) b) : (Jvm.ClassFile.Reader.s2 : Jvm.ClassFile.Decoder Int) c p = .ok (Jvm.ClassFile.Reader.signed 16 (a * 256 + b), p + 2) := by
  show (do let (x, s) ← (Jvm.ClassFile.Reader.u2 : Jvm.ClassFile.Decoder Nat) c p; .ok (Jvm.ClassFile.Reader.signed 16 x, s) : Except Jvm.ClassFile.DecodeError (Int × Nat)) = _
  rw [bq_u2 h1 h2]
  rfl
theorem bq_dec {c : ByteArray} {p q : Nat} {i : Jvm.ClassFile.Instr} (h : (Jvm.ClassFile.Decoder.instr p) c p = .ok (i, q)) : decode c p = .ok (i, q - p) := by
  show (do let (i, next) ← (Jvm.ClassFile.Decoder.instr p) c p; Pure.pure (i, next - p) : Except Jvm.ClassFile.DecodeError (Jvm.ClassFile.Instr × Nat)) = _
  rw [h]
  rfl
/-- what is done behind the opcode -/
noncomputable def bq_k (p : Nat) : Nat → Jvm.ClassFile.Decoder Jvm.ClassFile.Instr := (⟨_, rfl⟩ : { k : Nat → Jvm.ClassFile.Decoder Jvm.ClassFile.Instr // Jvm.ClassFile.Decoder.instr p = Jvm.ClassFile.Reader.u1 >>= k }).1
theorem bq_go {c : ByteArray} {p n : Nat} (h : bq_at c p n) : (Jvm.ClassFile.Decoder.instr p) c p = bq_k p n c (p + 1) := by
  have e : Jvm.ClassFile.Decoder.instr p = (Jvm.ClassFile.Reader.u1 >>= bq_k p) := rfl
  rw [e]
  exact bq_bind (bq_u1 h)
theorem bq_z {c : ByteArray} {p n : Nat} {i : Jvm.ClassFile.Instr} (h : bq_at c p n) (e : bq_k p n c (p + 1) = .ok (i, p + 1)) : decode c p = .ok (i, 1) := by
  rw [bq_dec ((bq_go h).trans e), Nat.add_sub_cancel_left]
theorem bq_x {c : ByteArray} {p n q : Nat} {α : Type} {r : Jvm.ClassFile.Decoder α} {a : α} {f : α → Jvm.ClassFile.Instr} (h : bq_at c p n) (hr : r c (p + 1) = .ok (a, p + 1 + q)) (e : bq_k p n = (r >>= fun x => Pure.pure (f x))) : decode c p = .ok (f a, q + 1) := by
  have g : bq_k p n c (p + 1) = .ok (f a, p + 1 + q) := by
    rw [e, bq_bind hr]
    rfl
  rw [bq_dec ((bq_go h).trans g)]
  have t : p + 1 + q - p = q + 1 := by omega
  rw [t]
theorem bq_o132 {c : ByteArray} {p a b k : Nat} {l : Int} (h : bq_at c p 132 ∧ bq_at c (p + 1) a ∧ bq_at c (p + 2) b) (hk : a = k) (hl : Jvm.ClassFile.Reader.signed 8 b = l) : decode c p = .ok (.iinc k l, 3) := by
  subst hk
  subst hl
  have e : bq_k p 132 = (Jvm.ClassFile.Reader.u1 >>= fun x => Jvm.ClassFile.Reader.s1 >>= fun y => Pure.pure (.iinc x y)) := rfl
  have g : bq_k p 132 c (p + 1) = .ok (.iinc a (Jvm.ClassFile.Reader.signed 8 b), p + 1 + 1 + 1) := by
    rw [e, bq_bind (bq_u1 h.2.1), bq_bind (bq_s1 h.2.2)]
    rfl
  rw [bq_dec ((bq_go h.1).trans g)]
  have t : p + 1 + 1 + 1 - p = 3 := by omega
  rw [t]
theorem bq_o2 {c : ByteArray} {p : Nat} (h : bq_at c p 2) : decode c p = .ok (.iconst (-1), 1) := bq_z h rfl
theorem bq_o3 {c : ByteArray} {p : Nat} (h : bq_at c p 3) : decode c p = .ok (.iconst 0, 1) := bq_z h rfl
theorem bq_o4 {c : ByteArray} {p : Nat} (h : bq_at c p 4) : decode c p = .ok (.iconst 1, 1) := bq_z h rfl
theorem bq_o5 {c : ByteArray} {p : Nat} (h : bq_at c p 5) : decode c p = .ok (.iconst 2, 1) := bq_z h rfl
theorem bq_o6 {c : ByteArray} {p : Nat} (h : bq_at c p 6) : decode c p = .ok (.iconst 3, 1) := bq_z h rfl
theorem bq_o7 {c : ByteArray} {p : Nat} (h : bq_at c p 7) : decode c p = .ok (.iconst 4, 1) := bq_z h rfl
theorem bq_o8 {c : ByteArray} {p : Nat} (h : bq_at c p 8) : decode c p = .ok (.iconst 5, 1) := bq_z h rfl
theorem bq_o9 {c : ByteArray} {p : Nat} (h : bq_at c p 9) : decode c p = .ok (.lconst 0, 1) := bq_z h rfl
theorem bq_o10 {c : ByteArray} {p : Nat} (h : bq_at c p 10) : decode c p = .ok (.lconst 1, 1) := bq_z h rfl
theorem bq_o16 {c : ByteArray} {p a : Nat} {k : Int} (h : bq_at c p 16 ∧ bq_at c (p + 1) a) (hk : Jvm.ClassFile.Reader.signed 8 a = k) : decode c p = .ok (.bipush k, 2) := by
  subst hk
  exact bq_x (q := 1) (f := fun x => .bipush x) h.1 (bq_s1 h.2) rfl
theorem bq_o17 {c : ByteArray} {p a b : Nat} {k : Int} (h : bq_at c p 17 ∧ bq_at c (p + 1) a ∧ bq_at c (p + 2) b) (hk : Jvm.ClassFile.Reader.signed 16 (a * 256 + b) = k) : decode c p = .ok (.sipush k, 3) := by
  subst hk
  exact bq_x (q := 2) (f := fun x => .sipush x) h.1 (bq_s2 h.2.1 h.2.2) rfl
theorem bq_o18 {c : ByteArray} {p a k : Nat} (h : bq_at c p 18 ∧ bq_at c (p + 1) a) (hk : a = k) : decode c p = .ok (.ldc k, 2) := by
  subst hk
  exact bq_x (q := 1) (f := fun x => .ldc x) h.1 (bq_u1 h.2) rfl
theorem bq_o20 {c : ByteArray} {p a b k : Nat} (h : bq_at c p 20 ∧ bq_at c (p + 1) a ∧ bq_at c (p + 2) b) (hk : a * 256 + b = k) : decode c p = .ok (.ldc2_w k, 3) := by
  subst hk
  exact bq_x (q := 2) (f := fun x => .ldc2_w x) h.1 (bq_u2 h.2.1 h.2.2) rfl
theorem bq_o21 {c : ByteArray} {p a k : Nat} (h : bq_at c p 21 ∧ bq_at c (p + 1) a) (hk : a = k) : decode c p = .ok (.iload k, 2) := by
  subst hk
  exact bq_x (q := 1) (f := fun x => .iload x) h.1 (bq_u1 h.2) rfl
theorem bq_o22 {c : ByteArray} {p a k : Nat} (h : bq_at c p 22 ∧ bq_at c (p + 1) a) (hk : a = k) : decode c p = .ok (.lload k, 2) := by
  subst hk
  exact bq_x (q := 1) (f := fun x => .lload x) h.1 (bq_u1 h.2) rfl
theorem bq_o25 {c : ByteArray} {p a k : Nat} (h : bq_at c p 25 ∧ bq_at c (p + 1) a) (hk : a = k) : decode c p = .ok (.aload k, 2) := by
  subst hk
  exact bq_x (q := 1) (f := fun x => .aload x) h.1 (bq_u1 h.2) rfl
theorem bq_o26 {c : ByteArray} {p : Nat} (h : bq_at c p 26) : decode c p = .ok (.iload_n 0, 1) := bq_z h rfl
theorem bq_o27 {c : ByteArray} {p : Nat} (h : bq_at c p 27) : decode c p = .ok (.iload_n 1, 1) := bq_z h rfl
theorem bq_o28 {c : ByteArray} {p : Nat} (h : bq_at c p 28) : decode c p = .ok (.iload_n 2, 1) := bq_z h rfl
theorem bq_o29 {c : ByteArray} {p : Nat} (h : bq_at c p 29) : decode c p = .ok (.iload_n 3, 1) := bq_z h rfl
theorem bq_o31 {c : ByteArray} {p : Nat} (h : bq_at c p 31) : decode c p = .ok (.lload_n 1, 1) := bq_z h rfl
theorem bq_o32 {c : ByteArray} {p : Nat} (h : bq_at c p 32) : decode c p = .ok (.lload_n 2, 1) := bq_z h rfl
theorem bq_o33 {c : ByteArray} {p : Nat} (h : bq_at c p 33) : decode c p = .ok (.lload_n 3, 1) := bq_z h rfl
theorem bq_o42 {c : ByteArray} {p : Nat} (h : bq_at c p 42) : decode c p = .ok (.aload_n 0, 1) := bq_z h rfl
theorem bq_o43 {c : ByteArray} {p : Nat} (h : bq_at c p 43) : decode c p = .ok (.aload_n 1, 1) := bq_z h rfl
theorem bq_o44 {c : ByteArray} {p : Nat} (h : bq_at c p 44) : decode c p = .ok (.aload_n 2, 1) := bq_z h rfl
theorem bq_o45 {c : ByteArray} {p : Nat} (h : bq_at c p 45) : decode c p = .ok (.aload_n 3, 1) := bq_z h rfl
theorem bq_o46 {c : ByteArray} {p : Nat} (h : bq_at c p 46) : decode c p = .ok (.iaload, 1) := bq_z h rfl
theorem bq_o47 {c : ByteArray} {p : Nat} (h : bq_at c p 47) : decode c p = .ok (.laload, 1) := bq_z h rfl
theorem bq_o50 {c : ByteArray} {p : Nat} (h : bq_at c p 50) : decode c p = .ok (.aaload, 1) := bq_z h rfl
theorem bq_o54 {c : ByteArray} {p a k : Nat} (h : bq_at c p 54 ∧ bq_at c (p + 1) a) (hk : a = k) : decode c p = .ok (.istore k, 2) := by
  subst hk
  exact bq_x (q := 1) (f := fun x => .istore x) h.1 (bq_u1 h.2) rfl
theorem bq_o55 {c : ByteArray} {p a k : Nat} (h : bq_at c p 55 ∧ bq_at c (p + 1) a) (hk : a = k) : decode c p = .ok (.lstore k, 2) := by
  subst hk
  exact bq_x (q := 1) (f := fun x => .lstore x) h.1 (bq_u1 h.2) rfl
theorem bq_o58 {c : ByteArray} {p a k : Nat} (h : bq_at c p 58 ∧ bq_at c (p + 1) a) (hk : a = k) : decode c p = .ok (.astore k, 2) := by
  subst hk
  exact bq_x (q := 1) (f := fun x => .astore x) h.1 (bq_u1 h.2) rfl
theorem bq_o60 {c : ByteArray} {p : Nat} (h : bq_at c p 60) : decode c p = .ok (.istore_n 1, 1) := bq_z h rfl
theorem bq_o61 {c : ByteArray} {p : Nat} (h : bq_at c p 61) : decode c p = .ok (.istore_n 2, 1) := bq_z h rfl
theorem bq_o62 {c : ByteArray} {p : Nat} (h : bq_at c p 62) : decode c p = .ok (.istore_n 3, 1) := bq_z h rfl
theorem bq_o76 {c : ByteArray} {p : Nat} (h : bq_at c p 76) : decode c p = .ok (.astore_n 1, 1) := bq_z h rfl
theorem bq_o77 {c : ByteArray} {p : Nat} (h : bq_at c p 77) : decode c p = .ok (.astore_n 2, 1) := bq_z h rfl
theorem bq_o78 {c : ByteArray} {p : Nat} (h : bq_at c p 78) : decode c p = .ok (.astore_n 3, 1) := bq_z h rfl
theorem bq_o79 {c : ByteArray} {p : Nat} (h : bq_at c p 79) : decode c p = .ok (.iastore, 1) := bq_z h rfl
theorem bq_o80 {c : ByteArray} {p : Nat} (h : bq_at c p 80) : decode c p = .ok (.lastore, 1) := bq_z h rfl
theorem bq_o83 {c : ByteArray} {p : Nat} (h : bq_at c p 83) : decode c p = .ok (.aastore, 1) := bq_z h rfl
theorem bq_o87 {c : ByteArray} {p : Nat} (h : bq_at c p 87) : decode c p = .ok (.pop, 1) := bq_z h rfl
theorem bq_o88 {c : ByteArray} {p : Nat} (h : bq_at c p 88) : decode c p = .ok (.pop2, 1) := bq_z h rfl
theorem bq_o89 {c : ByteArray} {p : Nat} (h : bq_at c p 89) : decode c p = .ok (.dup, 1) := bq_z h rfl
theorem bq_o90 {c : ByteArray} {p : Nat} (h : bq_at c p 90) : decode c p = .ok (.dup_x1, 1) := bq_z h rfl
theorem bq_o92 {c : ByteArray} {p : Nat} (h : bq_at c p 92) : decode c p = .ok (.dup2, 1) := bq_z h rfl
theorem bq_o96 {c : ByteArray} {p : Nat} (h : bq_at c p 96) : decode c p = .ok (.iadd, 1) := bq_z h rfl
theorem bq_o100 {c : ByteArray} {p : Nat} (h : bq_at c p 100) : decode c p = .ok (.isub, 1) := bq_z h rfl
theorem bq_o104 {c : ByteArray} {p : Nat} (h : bq_at c p 104) : decode c p = .ok (.imul, 1) := bq_z h rfl
theorem bq_o108 {c : ByteArray} {p : Nat} (h : bq_at c p 108) : decode c p = .ok (.idiv, 1) := bq_z h rfl
theorem bq_o112 {c : ByteArray} {p : Nat} (h : bq_at c p 112) : decode c p = .ok (.irem, 1) := bq_z h rfl
theorem bq_o116 {c : ByteArray} {p : Nat} (h : bq_at c p 116) : decode c p = .ok (.ineg, 1) := bq_z h rfl
theorem bq_o120 {c : ByteArray} {p : Nat} (h : bq_at c p 120) : decode c p = .ok (.ishl, 1) := bq_z h rfl
theorem bq_o121 {c : ByteArray} {p : Nat} (h : bq_at c p 121) : decode c p = .ok (.lshl, 1) := bq_z h rfl
theorem bq_o122 {c : ByteArray} {p : Nat} (h : bq_at c p 122) : decode c p = .ok (.ishr, 1) := bq_z h rfl
theorem bq_o123 {c : ByteArray} {p : Nat} (h : bq_at c p 123) : decode c p = .ok (.lshr, 1) := bq_z h rfl
theorem bq_o126 {c : ByteArray} {p : Nat} (h : bq_at c p 126) : decode c p = .ok (.iand, 1) := bq_z h rfl
theorem bq_o127 {c : ByteArray} {p : Nat} (h : bq_at c p 127) : decode c p = .ok (.land, 1) := bq_z h rfl
theorem bq_o128 {c : ByteArray} {p : Nat} (h : bq_at c p 128) : decode c p = .ok (.ior, 1) := bq_z h rfl
theorem bq_o129 {c : ByteArray} {p : Nat} (h : bq_at c p 129) : decode c p = .ok (.lor, 1) := bq_z h rfl
theorem bq_o130 {c : ByteArray} {p : Nat} (h : bq_at c p 130) : decode c p = .ok (.ixor, 1) := bq_z h rfl
theorem bq_o133 {c : ByteArray} {p : Nat} (h : bq_at c p 133) : decode c p = .ok (.i2l, 1) := bq_z h rfl
theorem bq_o136 {c : ByteArray} {p : Nat} (h : bq_at c p 136) : decode c p = .ok (.l2i, 1) := bq_z h rfl
theorem bq_o145 {c : ByteArray} {p : Nat} (h : bq_at c p 145) : decode c p = .ok (.i2b, 1) := bq_z h rfl
theorem bq_o147 {c : ByteArray} {p : Nat} (h : bq_at c p 147) : decode c p = .ok (.i2s, 1) := bq_z h rfl
theorem bq_o148 {c : ByteArray} {p : Nat} (h : bq_at c p 148) : decode c p = .ok (.lcmp, 1) := bq_z h rfl
theorem bq_o153 {c : ByteArray} {p a b : Nat} {k : Int} (h : bq_at c p 153 ∧ bq_at c (p + 1) a ∧ bq_at c (p + 2) b) (hk : Jvm.ClassFile.Reader.signed 16 (a * 256 + b) = k) : decode c p = .ok (.ifCond .eq k, 3) := by
  subst hk
  exact bq_x (q := 2) (f := fun x => .ifCond .eq x) h.1 (bq_s2 h.2.1 h.2.2) rfl
theorem bq_o154 {c : ByteArray} {p a b : Nat} {k : Int} (h : bq_at c p 154 ∧ bq_at c (p + 1) a ∧ bq_at c (p + 2) b) (hk : Jvm.ClassFile.Reader.signed 16 (a * 256 + b) = k) : decode c p = .ok (.ifCond .ne k, 3) := by
  subst hk
  exact bq_x (q := 2) (f := fun x => .ifCond .ne x) h.1 (bq_s2 h.2.1 h.2.2) rfl
theorem bq_o155 {c : ByteArray} {p a b : Nat} {k : Int} (h : bq_at c p 155 ∧ bq_at c (p + 1) a ∧ bq_at c (p + 2) b) (hk : Jvm.ClassFile.Reader.signed 16 (a * 256 + b) = k) : decode c p = .ok (.ifCond .lt k, 3) := by
  subst hk
  exact bq_x (q := 2) (f := fun x => .ifCond .lt x) h.1 (bq_s2 h.2.1 h.2.2) rfl
theorem bq_o156 {c : ByteArray} {p a b : Nat} {k : Int} (h : bq_at c p 156 ∧ bq_at c (p + 1) a ∧ bq_at c (p + 2) b) (hk : Jvm.ClassFile.Reader.signed 16 (a * 256 + b) = k) : decode c p = .ok (.ifCond .ge k, 3) := by
  subst hk
  exact bq_x (q := 2) (f := fun x => .ifCond .ge x) h.1 (bq_s2 h.2.1 h.2.2) rfl
theorem bq_o157 {c : ByteArray} {p a b : Nat} {k : Int} (h : bq_at c p 157 ∧ bq_at c (p + 1) a ∧ bq_at c (p + 2) b) (hk : Jvm.ClassFile.Reader.signed 16 (a * 256 + b) = k) : decode c p = .ok (.ifCond .gt k, 3) := by
  subst hk
  exact bq_x (q := 2) (f := fun x => .ifCond .gt x) h.1 (bq_s2 h.2.1 h.2.2) rfl
theorem bq_o158 {c : ByteArray} {p a b : Nat} {k : Int} (h : bq_at c p 158 ∧ bq_at c (p + 1) a ∧ bq_at c (p + 2) b) (hk : Jvm.ClassFile.Reader.signed 16 (a * 256 + b) = k) : decode c p = .ok (.ifCond .le k, 3) := by
  subst hk
  exact bq_x (q := 2) (f := fun x => .ifCond .le x) h.1 (bq_s2 h.2.1 h.2.2) rfl
theorem bq_o159 {c : ByteArray} {p a b : Nat} {k : Int} (h : bq_at c p 159 ∧ bq_at c (p + 1) a ∧ bq_at c (p + 2) b) (hk : Jvm.ClassFile.Reader.signed 16 (a * 256 + b) = k) : decode c p = .ok (.if_icmp .eq k, 3) := by
  subst hk
  exact bq_x (q := 2) (f := fun x => .if_icmp .eq x) h.1 (bq_s2 h.2.1 h.2.2) rfl
theorem bq_o160 {c : ByteArray} {p a b : Nat} {k : Int} (h : bq_at c p 160 ∧ bq_at c (p + 1) a ∧ bq_at c (p + 2) b) (hk : Jvm.ClassFile.Reader.signed 16 (a * 256 + b) = k) : decode c p = .ok (.if_icmp .ne k, 3) := by
  subst hk
  exact bq_x (q := 2) (f := fun x => .if_icmp .ne x) h.1 (bq_s2 h.2.1 h.2.2) rfl
theorem bq_o161 {c : ByteArray} {p a b : Nat} {k : Int} (h : bq_at c p 161 ∧ bq_at c (p + 1) a ∧ bq_at c (p + 2) b) (hk : Jvm.ClassFile.Reader.signed 16 (a * 256 + b) = k) : decode c p = .ok (.if_icmp .lt k, 3) := by
  subst hk
  exact bq_x (q := 2) (f := fun x => .if_icmp .lt x) h.1 (bq_s2 h.2.1 h.2.2) rfl
theorem bq_o162 {c : ByteArray} {p a b : Nat} {k : Int} (h : bq_at c p 162 ∧ bq_at c (p + 1) a ∧ bq_at c (p + 2) b) (hk : Jvm.ClassFile.Reader.signed 16 (a * 256 + b) = k) : decode c p = .ok (.if_icmp .ge k, 3) := by
  subst hk
  exact bq_x (q := 2) (f := fun x => .if_icmp .ge x) h.1 (bq_s2 h.2.1 h.2.2) rfl
theorem bq_o163 {c : ByteArray} {p a b : Nat} {k : Int} (h : bq_at c p 163 ∧ bq_at c (p + 1) a ∧ bq_at c (p + 2) b) (hk : Jvm.ClassFile.Reader.signed 16 (a * 256 + b) = k) : decode c p = .ok (.if_icmp .gt k, 3) := by
  subst hk
  exact bq_x (q := 2) (f := fun x => .if_icmp .gt x) h.1 (bq_s2 h.2.1 h.2.2) rfl
theorem bq_o164 {c : ByteArray} {p a b : Nat} {k : Int} (h : bq_at c p 164 ∧ bq_at c (p + 1) a ∧ bq_at c (p + 2) b) (hk : Jvm.ClassFile.Reader.signed 16 (a * 256 + b) = k) : decode c p = .ok (.if_icmp .le k, 3) := by
  subst hk
  exact bq_x (q := 2) (f := fun x => .if_icmp .le x) h.1 (bq_s2 h.2.1 h.2.2) rfl
theorem bq_o167 {c : ByteArray} {p a b : Nat} {k : Int} (h : bq_at c p 167 ∧ bq_at c (p + 1) a ∧ bq_at c (p + 2) b) (hk : Jvm.ClassFile.Reader.signed 16 (a * 256 + b) = k) : decode c p = .ok (.goto k, 3) := by
  subst hk
  exact bq_x (q := 2) (f := fun x => .goto x) h.1 (bq_s2 h.2.1 h.2.2) rfl
theorem bq_o172 {c : ByteArray} {p : Nat} (h : bq_at c p 172) : decode c p = .ok (.ireturn, 1) := bq_z h rfl
theorem bq_o173 {c : ByteArray} {p : Nat} (h : bq_at c p 173) : decode c p = .ok (.lreturn, 1) := bq_z h rfl
theorem bq_o176 {c : ByteArray} {p : Nat} (h : bq_at c p 176) : decode c p = .ok (.areturn, 1) := bq_z h rfl
theorem bq_o177 {c : ByteArray} {p : Nat} (h : bq_at c p 177) : decode c p = .ok (.return_, 1) := bq_z h rfl
theorem bq_o180 {c : ByteArray} {p a b k : Nat} (h : bq_at c p 180 ∧ bq_at c (p + 1) a ∧ bq_at c (p + 2) b) (hk : a * 256 + b = k) : decode c p = .ok (.getfield k, 3) := by
  subst hk
  exact bq_x (q := 2) (f := fun x => .getfield x) h.1 (bq_u2 h.2.1 h.2.2) rfl
theorem bq_o181 {c : ByteArray} {p a b k : Nat} (h : bq_at c p 181 ∧ bq_at c (p + 1) a ∧ bq_at c (p + 2) b) (hk : a * 256 + b = k) : decode c p = .ok (.putfield k, 3) := by
  subst hk
  exact bq_x (q := 2) (f := fun x => .putfield x) h.1 (bq_u2 h.2.1 h.2.2) rfl
theorem bq_o182 {c : ByteArray} {p a b k : Nat} (h : bq_at c p 182 ∧ bq_at c (p + 1) a ∧ bq_at c (p + 2) b) (hk : a * 256 + b = k) : decode c p = .ok (.invokevirtual k, 3) := by
  subst hk
  exact bq_x (q := 2) (f := fun x => .invokevirtual x) h.1 (bq_u2 h.2.1 h.2.2) rfl
theorem bq_o183 {c : ByteArray} {p a b k : Nat} (h : bq_at c p 183 ∧ bq_at c (p + 1) a ∧ bq_at c (p + 2) b) (hk : a * 256 + b = k) : decode c p = .ok (.invokespecial k, 3) := by
  subst hk
  exact bq_x (q := 2) (f := fun x => .invokespecial x) h.1 (bq_u2 h.2.1 h.2.2) rfl
theorem bq_o184 {c : ByteArray} {p a b k : Nat} (h : bq_at c p 184 ∧ bq_at c (p + 1) a ∧ bq_at c (p + 2) b) (hk : a * 256 + b = k) : decode c p = .ok (.invokestatic k, 3) := by
  subst hk
  exact bq_x (q := 2) (f := fun x => .invokestatic x) h.1 (bq_u2 h.2.1 h.2.2) rfl
theorem bq_o187 {c : ByteArray} {p a b k : Nat} (h : bq_at c p 187 ∧ bq_at c (p + 1) a ∧ bq_at c (p + 2) b) (hk : a * 256 + b = k) : decode c p = .ok (.new k, 3) := by
  subst hk
  exact bq_x (q := 2) (f := fun x => .new x) h.1 (bq_u2 h.2.1 h.2.2) rfl
theorem bq_o189 {c : ByteArray} {p a b k : Nat} (h : bq_at c p 189 ∧ bq_at c (p + 1) a ∧ bq_at c (p + 2) b) (hk : a * 256 + b = k) : decode c p = .ok (.anewarray k, 3) := by
  subst hk
  exact bq_x (q := 2) (f := fun x => .anewarray x) h.1 (bq_u2 h.2.1 h.2.2) rfl
theorem bq_o190 {c : ByteArray} {p : Nat} (h : bq_at c p 190) : decode c p = .ok (.arraylength, 1) := bq_z h rfl
theorem bq_o198 {c : ByteArray} {p a b : Nat} {k : Int} (h : bq_at c p 198 ∧ bq_at c (p + 1) a ∧ bq_at c (p + 2) b) (hk : Jvm.ClassFile.Reader.signed 16 (a * 256 + b) = k) : decode c p = .ok (.ifnull k, 3) := by
  subst hk
  exact bq_x (q := 2) (f := fun x => .ifnull x) h.1 (bq_s2 h.2.1 h.2.2) rfl
theorem bq_o199 {c : ByteArray} {p a b : Nat} {k : Int} (h : bq_at c p 199 ∧ bq_at c (p + 1) a ∧ bq_at c (p + 2) b) (hk : Jvm.ClassFile.Reader.signed 16 (a * 256 + b) = k) : decode c p = .ok (.ifnonnull k, 3) := by
  subst hk
  exact bq_x (q := 2) (f := fun x => .ifnonnull x) h.1 (bq_s2 h.2.1 h.2.2) rfl
theorem dX0_init_0 : decode cX0_init 0 = .ok (.aload_n 0, 1) := by decide +kernel
theorem dX0_init_1 : decode cX0_init 1 = .ok (.iload_n 1, 1) := by decide +kernel
theorem dX0_init_2 : decode cX0_init 2 = .ok (.invokespecial 1, 3) := by decide +kernel
theorem dX0_init_5 : decode cX0_init 5 = .ok (.return_, 1) := by decide +kernel
theorem dX0_kind_0 : decode cX0_kind 0 = .ok (.iconst 5, 1) := by decide +kernel
theorem dX0_kind_1 : decode cX0_kind 1 = .ok (.ireturn, 1) := by decide +kernel
theorem dX0_worth_0 : decode cX0_worth 0 = .ok (.aload_n 1, 1) := by decide +kernel
theorem dX0_worth_1 : decode cX0_worth 1 = .ok (.iload_n 2, 1) := by decide +kernel
theorem dX0_worth_2 : decode cX0_worth 2 = .ok (.iload_n 3, 1) := by decide +kernel
theorem dX0_worth_3 : decode cX0_worth 3 = .ok (.iconst (-1), 1) := by decide +kernel
theorem dX0_worth_4 : decode cX0_worth 4 = .ok (.ixor, 1) := by decide +kernel
theorem dX0_worth_5 : decode cX0_worth 5 = .ok (.iand, 1) := by decide +kernel
theorem dX0_worth_6 : decode cX0_worth 6 = .ok (.invokevirtual 7, 3) := by decide +kernel
theorem dX0_worth_9 : decode cX0_worth 9 = .ok (.ireturn, 1) := by decide +kernel
theorem dX1_init_0 : decode cX1_init 0 = .ok (.aload_n 0, 1) := by decide +kernel
theorem dX1_init_1 : decode cX1_init 1 = .ok (.iload_n 1, 1) := by decide +kernel
theorem dX1_init_2 : decode cX1_init 2 = .ok (.invokespecial 1, 3) := by decide +kernel
theorem dX1_init_5 : decode cX1_init 5 = .ok (.return_, 1) := by decide +kernel
theorem dX1_kind_0 : decode cX1_kind 0 = .ok (.iconst 2, 1) := by decide +kernel
theorem dX1_kind_1 : decode cX1_kind 1 = .ok (.ireturn, 1) := by decide +kernel
theorem dX1_worth_0 : decode cX1_worth 0 = .ok (.aload_n 1, 1) := by decide +kernel
theorem dX1_worth_1 : decode cX1_worth 1 = .ok (.iload_n 3, 1) := by decide +kernel
theorem dX1_worth_2 : decode cX1_worth 2 = .ok (.invokevirtual 7, 3) := by decide +kernel
theorem dX1_worth_5 : decode cX1_worth 5 = .ok (.ireturn, 1) := by decide +kernel
def bwX1_pick_0l : List Nat := [3, 54, 4, 3, 54, 5, 3, 54, 6, 21, 6, 43, 180, 0, 13, 162, 0, 57, 43, 180, 0, 17, 21, 6, 46, 54, 7, 21, 7, 28, 126, 21, 7, 160, 0, 33, 42, 43, 28, 21, 7, 182, 0, 21, 54, 8, 21, 4, 153, 0, 10, 21, 8, 21, 5, 164, 0, 11, 21, 7, 54, 4, 21, 8, 54, 5]
theorem bwX1_pick_0 : ((cX1_pick.data.toList.drop 0).take 66).map UInt8.toNat = bwX1_pick_0l := by decide +kernel
theorem dX1_pick_0 : decode cX1_pick 0 = .ok (.iconst 0, 1) := bq_o3 (bq_of bwX1_pick_0 0 (by decide +kernel))
theorem dX1_pick_1 : decode cX1_pick 1 = .ok (.istore 4, 2) := bq_o54 (a := 4) (bq_2 bwX1_pick_0 1 (by decide +kernel)) rfl
theorem dX1_pick_3 : decode cX1_pick 3 = .ok (.iconst 0, 1) := bq_o3 (bq_of bwX1_pick_0 3 (by decide +kernel))
theorem dX1_pick_4 : decode cX1_pick 4 = .ok (.istore 5, 2) := bq_o54 (a := 5) (bq_2 bwX1_pick_0 4 (by decide +kernel)) rfl
theorem dX1_pick_6 : decode cX1_pick 6 = .ok (.iconst 0, 1) := bq_o3 (bq_of bwX1_pick_0 6 (by decide +kernel))
theorem dX1_pick_7 : decode cX1_pick 7 = .ok (.istore 6, 2) := bq_o54 (a := 6) (bq_2 bwX1_pick_0 7 (by decide +kernel)) rfl
theorem dX1_pick_9 : decode cX1_pick 9 = .ok (.iload 6, 2) := bq_o21 (a := 6) (bq_2 bwX1_pick_0 9 (by decide +kernel)) rfl
theorem dX1_pick_11 : decode cX1_pick 11 = .ok (.aload_n 1, 1) := bq_o43 (bq_of bwX1_pick_0 11 (by decide +kernel))
theorem dX1_pick_12 : decode cX1_pick 12 = .ok (.getfield 13, 3) := bq_o180 (a := 0) (b := 13) (bq_3 bwX1_pick_0 12 (by decide +kernel)) rfl
theorem dX1_pick_15 : decode cX1_pick 15 = .ok (.if_icmp .ge 57, 3) := bq_o162 (a := 0) (b := 57) (bq_3 bwX1_pick_0 15 (by decide +kernel)) (by decide +kernel)
theorem dX1_pick_18 : decode cX1_pick 18 = .ok (.aload_n 1, 1) := bq_o43 (bq_of bwX1_pick_0 18 (by decide +kernel))
theorem dX1_pick_19 : decode cX1_pick 19 = .ok (.getfield 17, 3) := bq_o180 (a := 0) (b := 17) (bq_3 bwX1_pick_0 19 (by decide +kernel)) rfl
theorem dX1_pick_22 : decode cX1_pick 22 = .ok (.iload 6, 2) := bq_o21 (a := 6) (bq_2 bwX1_pick_0 22 (by decide +kernel)) rfl
theorem dX1_pick_24 : decode cX1_pick 24 = .ok (.iaload, 1) := bq_o46 (bq_of bwX1_pick_0 24 (by decide +kernel))
theorem dX1_pick_25 : decode cX1_pick 25 = .ok (.istore 7, 2) := bq_o54 (a := 7) (bq_2 bwX1_pick_0 25 (by decide +kernel)) rfl
theorem dX1_pick_27 : decode cX1_pick 27 = .ok (.iload 7, 2) := bq_o21 (a := 7) (bq_2 bwX1_pick_0 27 (by decide +kernel)) rfl
theorem dX1_pick_29 : decode cX1_pick 29 = .ok (.iload_n 2, 1) := bq_o28 (bq_of bwX1_pick_0 29 (by decide +kernel))
theorem dX1_pick_30 : decode cX1_pick 30 = .ok (.iand, 1) := bq_o126 (bq_of bwX1_pick_0 30 (by decide +kernel))
theorem dX1_pick_31 : decode cX1_pick 31 = .ok (.iload 7, 2) := bq_o21 (a := 7) (bq_2 bwX1_pick_0 31 (by decide +kernel)) rfl
theorem dX1_pick_33 : decode cX1_pick 33 = .ok (.if_icmp .ne 33, 3) := bq_o160 (a := 0) (b := 33) (bq_3 bwX1_pick_0 33 (by decide +kernel)) (by decide +kernel)
theorem dX1_pick_36 : decode cX1_pick 36 = .ok (.aload_n 0, 1) := bq_o42 (bq_of bwX1_pick_0 36 (by decide +kernel))
theorem dX1_pick_37 : decode cX1_pick 37 = .ok (.aload_n 1, 1) := bq_o43 (bq_of bwX1_pick_0 37 (by decide +kernel))
theorem dX1_pick_38 : decode cX1_pick 38 = .ok (.iload_n 2, 1) := bq_o28 (bq_of bwX1_pick_0 38 (by decide +kernel))
theorem dX1_pick_39 : decode cX1_pick 39 = .ok (.iload 7, 2) := bq_o21 (a := 7) (bq_2 bwX1_pick_0 39 (by decide +kernel)) rfl
theorem dX1_pick_41 : decode cX1_pick 41 = .ok (.invokevirtual 21, 3) := bq_o182 (a := 0) (b := 21) (bq_3 bwX1_pick_0 41 (by decide +kernel)) rfl
theorem dX1_pick_44 : decode cX1_pick 44 = .ok (.istore 8, 2) := bq_o54 (a := 8) (bq_2 bwX1_pick_0 44 (by decide +kernel)) rfl
theorem dX1_pick_46 : decode cX1_pick 46 = .ok (.iload 4, 2) := bq_o21 (a := 4) (bq_2 bwX1_pick_0 46 (by decide +kernel)) rfl
theorem dX1_pick_48 : decode cX1_pick 48 = .ok (.ifCond .eq 10, 3) := bq_o153 (a := 0) (b := 10) (bq_3 bwX1_pick_0 48 (by decide +kernel)) (by decide +kernel)
theorem dX1_pick_51 : decode cX1_pick 51 = .ok (.iload 8, 2) := bq_o21 (a := 8) (bq_2 bwX1_pick_0 51 (by decide +kernel)) rfl
theorem dX1_pick_53 : decode cX1_pick 53 = .ok (.iload 5, 2) := bq_o21 (a := 5) (bq_2 bwX1_pick_0 53 (by decide +kernel)) rfl
theorem dX1_pick_55 : decode cX1_pick 55 = .ok (.if_icmp .le 11, 3) := bq_o164 (a := 0) (b := 11) (bq_3 bwX1_pick_0 55 (by decide +kernel)) (by decide +kernel)
theorem dX1_pick_58 : decode cX1_pick 58 = .ok (.iload 7, 2) := bq_o21 (a := 7) (bq_2 bwX1_pick_0 58 (by decide +kernel)) rfl
theorem dX1_pick_60 : decode cX1_pick 60 = .ok (.istore 4, 2) := bq_o54 (a := 4) (bq_2 bwX1_pick_0 60 (by decide +kernel)) rfl
theorem dX1_pick_62 : decode cX1_pick 62 = .ok (.iload 8, 2) := bq_o21 (a := 8) (bq_2 bwX1_pick_0 62 (by decide +kernel)) rfl
def bwX1_pick_64l : List Nat := [54, 5, 132, 6, 1, 167, 255, 196, 21, 4, 172]
theorem bwX1_pick_64 : ((cX1_pick.data.toList.drop 64).take 11).map UInt8.toNat = bwX1_pick_64l := by decide +kernel
theorem dX1_pick_64 : decode cX1_pick 64 = .ok (.istore 5, 2) := bq_o54 (a := 5) (bq_2 bwX1_pick_64 0 (by decide +kernel)) rfl
theorem dX1_pick_66 : decode cX1_pick 66 = .ok (.iinc 6 1, 3) := bq_o132 (a := 6) (b := 1) (bq_3 bwX1_pick_64 2 (by decide +kernel)) rfl (by decide +kernel)
theorem dX1_pick_69 : decode cX1_pick 69 = .ok (.goto (-60), 3) := bq_o167 (a := 255) (b := 196) (bq_3 bwX1_pick_64 5 (by decide +kernel)) (by decide +kernel)
theorem dX1_pick_72 : decode cX1_pick 72 = .ok (.iload 4, 2) := bq_o21 (a := 4) (bq_2 bwX1_pick_64 8 (by decide +kernel)) rfl
theorem dX1_pick_74 : decode cX1_pick 74 = .ok (.ireturn, 1) := bq_o172 (bq_of bwX1_pick_64 10 (by decide +kernel))
theorem dX2_init_0 : decode cX2_init 0 = .ok (.aload_n 0, 1) := by decide +kernel
theorem dX2_init_1 : decode cX2_init 1 = .ok (.invokespecial 1, 3) := by decide +kernel
theorem dX2_init_4 : decode cX2_init 4 = .ok (.aload_n 0, 1) := by decide +kernel
theorem dX2_init_5 : decode cX2_init 5 = .ok (.iload_n 1, 1) := by decide +kernel
theorem dX2_init_6 : decode cX2_init 6 = .ok (.putfield 7, 3) := by decide +kernel
theorem dX2_init_9 : decode cX2_init 9 = .ok (.return_, 1) := by decide +kernel
theorem dX2_number_0 : decode cX2_number 0 = .ok (.aload_n 0, 1) := by decide +kernel
theorem dX2_number_1 : decode cX2_number 1 = .ok (.getfield 7, 3) := by decide +kernel
theorem dX2_number_4 : decode cX2_number 4 = .ok (.ireturn, 1) := by decide +kernel
theorem dX2_isOf_0 : decode cX2_isOf 0 = .ok (.iload_n 1, 1) := by decide +kernel
theorem dX2_isOf_1 : decode cX2_isOf 1 = .ok (.tableswitch 39 0 2 #[27, 29, 34], 27) := by decide +kernel
theorem dX2_isOf_28 : decode cX2_isOf 28 = .ok (.iconst 1, 1) := by decide +kernel
theorem dX2_isOf_29 : decode cX2_isOf 29 = .ok (.ireturn, 1) := by decide +kernel
theorem dX2_isOf_30 : decode cX2_isOf 30 = .ok (.aload_n 0, 1) := by decide +kernel
theorem dX2_isOf_31 : decode cX2_isOf 31 = .ok (.instanceof 13, 3) := by decide +kernel
theorem dX2_isOf_34 : decode cX2_isOf 34 = .ok (.ireturn, 1) := by decide +kernel
theorem dX2_isOf_35 : decode cX2_isOf 35 = .ok (.aload_n 0, 1) := by decide +kernel
theorem dX2_isOf_36 : decode cX2_isOf 36 = .ok (.instanceof 15, 3) := by decide +kernel
theorem dX2_isOf_39 : decode cX2_isOf 39 = .ok (.ireturn, 1) := by decide +kernel
theorem dX2_isOf_40 : decode cX2_isOf 40 = .ok (.aload_n 0, 1) := by decide +kernel
theorem dX2_isOf_41 : decode cX2_isOf 41 = .ok (.invokevirtual 17, 3) := by decide +kernel
theorem dX2_isOf_44 : decode cX2_isOf 44 = .ok (.iload_n 1, 1) := by decide +kernel
theorem dX2_isOf_45 : decode cX2_isOf 45 = .ok (.if_icmp .ne 7, 3) := by decide +kernel
theorem dX2_isOf_48 : decode cX2_isOf 48 = .ok (.iconst 1, 1) := by decide +kernel
theorem dX2_isOf_49 : decode cX2_isOf 49 = .ok (.goto 4, 3) := by decide +kernel
theorem dX2_isOf_52 : decode cX2_isOf 52 = .ok (.iconst 0, 1) := by decide +kernel
theorem dX2_isOf_53 : decode cX2_isOf 53 = .ok (.ireturn, 1) := by decide +kernel
theorem dX3_init_0 : decode cX3_init 0 = .ok (.aload_n 0, 1) := by decide +kernel
theorem dX3_init_1 : decode cX3_init 1 = .ok (.invokespecial 3, 3) := by decide +kernel
theorem dX3_init_4 : decode cX3_init 4 = .ok (.aload_n 0, 1) := by decide +kernel
theorem dX3_init_5 : decode cX3_init 5 = .ok (.bipush 7, 2) := by decide +kernel
theorem dX3_init_7 : decode cX3_init 7 = .ok (.newarray .int, 2) := by decide +kernel
theorem dX3_init_9 : decode cX3_init 9 = .ok (.putfield 9, 3) := by decide +kernel
theorem dX3_init_12 : decode cX3_init 12 = .ok (.aload_n 0, 1) := by decide +kernel
theorem dX3_init_13 : decode cX3_init 13 = .ok (.bipush 7, 2) := by decide +kernel
theorem dX3_init_15 : decode cX3_init 15 = .ok (.newarray .int, 2) := by decide +kernel
theorem dX3_init_17 : decode cX3_init 17 = .ok (.putfield 15, 3) := by decide +kernel
theorem dX3_init_20 : decode cX3_init 20 = .ok (.aload_n 0, 1) := by decide +kernel
theorem dX3_init_21 : decode cX3_init 21 = .ok (.sipush 128, 3) := by decide +kernel
theorem dX3_init_24 : decode cX3_init 24 = .ok (.newarray .int, 2) := by decide +kernel
theorem dX3_init_26 : decode cX3_init 26 = .ok (.putfield 18, 3) := by decide +kernel
theorem dX3_init_29 : decode cX3_init 29 = .ok (.aload_n 0, 1) := by decide +kernel
theorem dX3_init_30 : decode cX3_init 30 = .ok (.bipush 70, 2) := by decide +kernel
theorem dX3_init_32 : decode cX3_init 32 = .ok (.newarray .int, 2) := by decide +kernel
theorem dX3_init_34 : decode cX3_init 34 = .ok (.putfield 23, 3) := by decide +kernel
theorem dX3_init_37 : decode cX3_init 37 = .ok (.return_, 1) := by decide +kernel
def bwX3_pass_0l : List Nat := [42, 3, 181, 0, 26, 42, 3, 181, 0, 30, 43, 180, 0, 33, 54, 4, 3, 54, 5, 21, 5, 16, 24, 162, 0, 65, 3, 54, 6, 21, 6, 43, 180, 0, 33, 162, 0, 47, 43, 180, 0, 38, 21, 6, 46, 21, 5, 160, 0, 29, 42, 89, 180, 0, 30, 4, 21, 6, 120, 128, 181, 0, 30, 132, 4, 255]
theorem bwX3_pass_0 : ((cX3_pass.data.toList.drop 0).take 66).map UInt8.toNat = bwX3_pass_0l := by decide +kernel
theorem dX3_pass_0 : decode cX3_pass 0 = .ok (.aload_n 0, 1) := bq_o42 (bq_of bwX3_pass_0 0 (by decide +kernel))
theorem dX3_pass_1 : decode cX3_pass 1 = .ok (.iconst 0, 1) := bq_o3 (bq_of bwX3_pass_0 1 (by decide +kernel))
theorem dX3_pass_2 : decode cX3_pass 2 = .ok (.putfield 26, 3) := bq_o181 (a := 0) (b := 26) (bq_3 bwX3_pass_0 2 (by decide +kernel)) rfl
theorem dX3_pass_5 : decode cX3_pass 5 = .ok (.aload_n 0, 1) := bq_o42 (bq_of bwX3_pass_0 5 (by decide +kernel))
theorem dX3_pass_6 : decode cX3_pass 6 = .ok (.iconst 0, 1) := bq_o3 (bq_of bwX3_pass_0 6 (by decide +kernel))
theorem dX3_pass_7 : decode cX3_pass 7 = .ok (.putfield 30, 3) := bq_o181 (a := 0) (b := 30) (bq_3 bwX3_pass_0 7 (by decide +kernel)) rfl
theorem dX3_pass_10 : decode cX3_pass 10 = .ok (.aload_n 1, 1) := bq_o43 (bq_of bwX3_pass_0 10 (by decide +kernel))
theorem dX3_pass_11 : decode cX3_pass 11 = .ok (.getfield 33, 3) := bq_o180 (a := 0) (b := 33) (bq_3 bwX3_pass_0 11 (by decide +kernel)) rfl
theorem dX3_pass_14 : decode cX3_pass 14 = .ok (.istore 4, 2) := bq_o54 (a := 4) (bq_2 bwX3_pass_0 14 (by decide +kernel)) rfl
theorem dX3_pass_16 : decode cX3_pass 16 = .ok (.iconst 0, 1) := bq_o3 (bq_of bwX3_pass_0 16 (by decide +kernel))
theorem dX3_pass_17 : decode cX3_pass 17 = .ok (.istore 5, 2) := bq_o54 (a := 5) (bq_2 bwX3_pass_0 17 (by decide +kernel)) rfl
theorem dX3_pass_19 : decode cX3_pass 19 = .ok (.iload 5, 2) := bq_o21 (a := 5) (bq_2 bwX3_pass_0 19 (by decide +kernel)) rfl
theorem dX3_pass_21 : decode cX3_pass 21 = .ok (.bipush 24, 2) := bq_o16 (a := 24) (bq_2 bwX3_pass_0 21 (by decide +kernel)) (by decide +kernel)
theorem dX3_pass_23 : decode cX3_pass 23 = .ok (.if_icmp .ge 65, 3) := bq_o162 (a := 0) (b := 65) (bq_3 bwX3_pass_0 23 (by decide +kernel)) (by decide +kernel)
theorem dX3_pass_26 : decode cX3_pass 26 = .ok (.iconst 0, 1) := bq_o3 (bq_of bwX3_pass_0 26 (by decide +kernel))
theorem dX3_pass_27 : decode cX3_pass 27 = .ok (.istore 6, 2) := bq_o54 (a := 6) (bq_2 bwX3_pass_0 27 (by decide +kernel)) rfl
theorem dX3_pass_29 : decode cX3_pass 29 = .ok (.iload 6, 2) := bq_o21 (a := 6) (bq_2 bwX3_pass_0 29 (by decide +kernel)) rfl
theorem dX3_pass_31 : decode cX3_pass 31 = .ok (.aload_n 1, 1) := bq_o43 (bq_of bwX3_pass_0 31 (by decide +kernel))
theorem dX3_pass_32 : decode cX3_pass 32 = .ok (.getfield 33, 3) := bq_o180 (a := 0) (b := 33) (bq_3 bwX3_pass_0 32 (by decide +kernel)) rfl
theorem dX3_pass_35 : decode cX3_pass 35 = .ok (.if_icmp .ge 47, 3) := bq_o162 (a := 0) (b := 47) (bq_3 bwX3_pass_0 35 (by decide +kernel)) (by decide +kernel)
theorem dX3_pass_38 : decode cX3_pass 38 = .ok (.aload_n 1, 1) := bq_o43 (bq_of bwX3_pass_0 38 (by decide +kernel))
theorem dX3_pass_39 : decode cX3_pass 39 = .ok (.getfield 38, 3) := bq_o180 (a := 0) (b := 38) (bq_3 bwX3_pass_0 39 (by decide +kernel)) rfl
theorem dX3_pass_42 : decode cX3_pass 42 = .ok (.iload 6, 2) := bq_o21 (a := 6) (bq_2 bwX3_pass_0 42 (by decide +kernel)) rfl
theorem dX3_pass_44 : decode cX3_pass 44 = .ok (.iaload, 1) := bq_o46 (bq_of bwX3_pass_0 44 (by decide +kernel))
theorem dX3_pass_45 : decode cX3_pass 45 = .ok (.iload 5, 2) := bq_o21 (a := 5) (bq_2 bwX3_pass_0 45 (by decide +kernel)) rfl
theorem dX3_pass_47 : decode cX3_pass 47 = .ok (.if_icmp .ne 29, 3) := bq_o160 (a := 0) (b := 29) (bq_3 bwX3_pass_0 47 (by decide +kernel)) (by decide +kernel)
theorem dX3_pass_50 : decode cX3_pass 50 = .ok (.aload_n 0, 1) := bq_o42 (bq_of bwX3_pass_0 50 (by decide +kernel))
theorem dX3_pass_51 : decode cX3_pass 51 = .ok (.dup, 1) := bq_o89 (bq_of bwX3_pass_0 51 (by decide +kernel))
theorem dX3_pass_52 : decode cX3_pass 52 = .ok (.getfield 30, 3) := bq_o180 (a := 0) (b := 30) (bq_3 bwX3_pass_0 52 (by decide +kernel)) rfl
theorem dX3_pass_55 : decode cX3_pass 55 = .ok (.iconst 1, 1) := bq_o4 (bq_of bwX3_pass_0 55 (by decide +kernel))
theorem dX3_pass_56 : decode cX3_pass 56 = .ok (.iload 6, 2) := bq_o21 (a := 6) (bq_2 bwX3_pass_0 56 (by decide +kernel)) rfl
theorem dX3_pass_58 : decode cX3_pass 58 = .ok (.ishl, 1) := bq_o120 (bq_of bwX3_pass_0 58 (by decide +kernel))
theorem dX3_pass_59 : decode cX3_pass 59 = .ok (.ior, 1) := bq_o128 (bq_of bwX3_pass_0 59 (by decide +kernel))
theorem dX3_pass_60 : decode cX3_pass 60 = .ok (.putfield 30, 3) := bq_o181 (a := 0) (b := 30) (bq_3 bwX3_pass_0 60 (by decide +kernel)) rfl
theorem dX3_pass_63 : decode cX3_pass 63 = .ok (.iinc 4 (-1), 3) := bq_o132 (a := 4) (b := 255) (bq_3 bwX3_pass_0 63 (by decide +kernel)) rfl (by decide +kernel)
def bwX3_pass_64l : List Nat := [4, 255, 42, 44, 45, 21, 5, 21, 4, 182, 0, 41, 132, 6, 1, 167, 255, 206, 132, 5, 1, 167, 255, 190, 177]
theorem bwX3_pass_64 : ((cX3_pass.data.toList.drop 64).take 25).map UInt8.toNat = bwX3_pass_64l := by decide +kernel
theorem dX3_pass_66 : decode cX3_pass 66 = .ok (.aload_n 0, 1) := bq_o42 (bq_of bwX3_pass_64 2 (by decide +kernel))
theorem dX3_pass_67 : decode cX3_pass 67 = .ok (.aload_n 2, 1) := bq_o44 (bq_of bwX3_pass_64 3 (by decide +kernel))
theorem dX3_pass_68 : decode cX3_pass 68 = .ok (.aload_n 3, 1) := bq_o45 (bq_of bwX3_pass_64 4 (by decide +kernel))
theorem dX3_pass_69 : decode cX3_pass 69 = .ok (.iload 5, 2) := bq_o21 (a := 5) (bq_2 bwX3_pass_64 5 (by decide +kernel)) rfl
theorem dX3_pass_71 : decode cX3_pass 71 = .ok (.iload 4, 2) := bq_o21 (a := 4) (bq_2 bwX3_pass_64 7 (by decide +kernel)) rfl
theorem dX3_pass_73 : decode cX3_pass 73 = .ok (.invokevirtual 41, 3) := bq_o182 (a := 0) (b := 41) (bq_3 bwX3_pass_64 9 (by decide +kernel)) rfl
theorem dX3_pass_76 : decode cX3_pass 76 = .ok (.iinc 6 1, 3) := bq_o132 (a := 6) (b := 1) (bq_3 bwX3_pass_64 12 (by decide +kernel)) rfl (by decide +kernel)
theorem dX3_pass_79 : decode cX3_pass 79 = .ok (.goto (-50), 3) := bq_o167 (a := 255) (b := 206) (bq_3 bwX3_pass_64 15 (by decide +kernel)) (by decide +kernel)
theorem dX3_pass_82 : decode cX3_pass 82 = .ok (.iinc 5 1, 3) := bq_o132 (a := 5) (b := 1) (bq_3 bwX3_pass_64 18 (by decide +kernel)) rfl (by decide +kernel)
theorem dX3_pass_85 : decode cX3_pass 85 = .ok (.goto (-66), 3) := bq_o167 (a := 255) (b := 190) (bq_3 bwX3_pass_64 21 (by decide +kernel)) (by decide +kernel)
theorem dX3_pass_88 : decode cX3_pass 88 = .ok (.return_, 1) := bq_o177 (bq_of bwX3_pass_64 24 (by decide +kernel))
def bwX3_sendAll_0l : List Nat := [3, 54, 5, 21, 5, 16, 7, 162, 0, 81, 42, 180, 0, 26, 16, 7, 162, 0, 72, 44, 43, 42, 180, 0, 30, 21, 4, 182, 0, 45, 54, 6, 21, 6, 154, 0, 4, 177, 42, 89, 180, 0, 30, 21, 6, 2, 130, 126, 181, 0, 30, 42, 180, 0, 9, 42, 180, 0, 26, 21, 6, 79, 42, 180, 0, 15]
theorem bwX3_sendAll_0 : ((cX3_sendAll.data.toList.drop 0).take 66).map UInt8.toNat = bwX3_sendAll_0l := by decide +kernel
theorem dX3_sendAll_0 : decode cX3_sendAll 0 = .ok (.iconst 0, 1) := bq_o3 (bq_of bwX3_sendAll_0 0 (by decide +kernel))
theorem dX3_sendAll_1 : decode cX3_sendAll 1 = .ok (.istore 5, 2) := bq_o54 (a := 5) (bq_2 bwX3_sendAll_0 1 (by decide +kernel)) rfl
theorem dX3_sendAll_3 : decode cX3_sendAll 3 = .ok (.iload 5, 2) := bq_o21 (a := 5) (bq_2 bwX3_sendAll_0 3 (by decide +kernel)) rfl
theorem dX3_sendAll_5 : decode cX3_sendAll 5 = .ok (.bipush 7, 2) := bq_o16 (a := 7) (bq_2 bwX3_sendAll_0 5 (by decide +kernel)) (by decide +kernel)
theorem dX3_sendAll_7 : decode cX3_sendAll 7 = .ok (.if_icmp .ge 81, 3) := bq_o162 (a := 0) (b := 81) (bq_3 bwX3_sendAll_0 7 (by decide +kernel)) (by decide +kernel)
theorem dX3_sendAll_10 : decode cX3_sendAll 10 = .ok (.aload_n 0, 1) := bq_o42 (bq_of bwX3_sendAll_0 10 (by decide +kernel))
theorem dX3_sendAll_11 : decode cX3_sendAll 11 = .ok (.getfield 26, 3) := bq_o180 (a := 0) (b := 26) (bq_3 bwX3_sendAll_0 11 (by decide +kernel)) rfl
theorem dX3_sendAll_14 : decode cX3_sendAll 14 = .ok (.bipush 7, 2) := bq_o16 (a := 7) (bq_2 bwX3_sendAll_0 14 (by decide +kernel)) (by decide +kernel)
theorem dX3_sendAll_16 : decode cX3_sendAll 16 = .ok (.if_icmp .ge 72, 3) := bq_o162 (a := 0) (b := 72) (bq_3 bwX3_sendAll_0 16 (by decide +kernel)) (by decide +kernel)
theorem dX3_sendAll_19 : decode cX3_sendAll 19 = .ok (.aload_n 2, 1) := bq_o44 (bq_of bwX3_sendAll_0 19 (by decide +kernel))
theorem dX3_sendAll_20 : decode cX3_sendAll 20 = .ok (.aload_n 1, 1) := bq_o43 (bq_of bwX3_sendAll_0 20 (by decide +kernel))
theorem dX3_sendAll_21 : decode cX3_sendAll 21 = .ok (.aload_n 0, 1) := bq_o42 (bq_of bwX3_sendAll_0 21 (by decide +kernel))
theorem dX3_sendAll_22 : decode cX3_sendAll 22 = .ok (.getfield 30, 3) := bq_o180 (a := 0) (b := 30) (bq_3 bwX3_sendAll_0 22 (by decide +kernel)) rfl
theorem dX3_sendAll_25 : decode cX3_sendAll 25 = .ok (.iload 4, 2) := bq_o21 (a := 4) (bq_2 bwX3_sendAll_0 25 (by decide +kernel)) rfl
theorem dX3_sendAll_27 : decode cX3_sendAll 27 = .ok (.invokevirtual 45, 3) := bq_o182 (a := 0) (b := 45) (bq_3 bwX3_sendAll_0 27 (by decide +kernel)) rfl
theorem dX3_sendAll_30 : decode cX3_sendAll 30 = .ok (.istore 6, 2) := bq_o54 (a := 6) (bq_2 bwX3_sendAll_0 30 (by decide +kernel)) rfl
theorem dX3_sendAll_32 : decode cX3_sendAll 32 = .ok (.iload 6, 2) := bq_o21 (a := 6) (bq_2 bwX3_sendAll_0 32 (by decide +kernel)) rfl
theorem dX3_sendAll_34 : decode cX3_sendAll 34 = .ok (.ifCond .ne 4, 3) := bq_o154 (a := 0) (b := 4) (bq_3 bwX3_sendAll_0 34 (by decide +kernel)) (by decide +kernel)
theorem dX3_sendAll_37 : decode cX3_sendAll 37 = .ok (.return_, 1) := bq_o177 (bq_of bwX3_sendAll_0 37 (by decide +kernel))
theorem dX3_sendAll_38 : decode cX3_sendAll 38 = .ok (.aload_n 0, 1) := bq_o42 (bq_of bwX3_sendAll_0 38 (by decide +kernel))
theorem dX3_sendAll_39 : decode cX3_sendAll 39 = .ok (.dup, 1) := bq_o89 (bq_of bwX3_sendAll_0 39 (by decide +kernel))
theorem dX3_sendAll_40 : decode cX3_sendAll 40 = .ok (.getfield 30, 3) := bq_o180 (a := 0) (b := 30) (bq_3 bwX3_sendAll_0 40 (by decide +kernel)) rfl
theorem dX3_sendAll_43 : decode cX3_sendAll 43 = .ok (.iload 6, 2) := bq_o21 (a := 6) (bq_2 bwX3_sendAll_0 43 (by decide +kernel)) rfl
theorem dX3_sendAll_45 : decode cX3_sendAll 45 = .ok (.iconst (-1), 1) := bq_o2 (bq_of bwX3_sendAll_0 45 (by decide +kernel))
theorem dX3_sendAll_46 : decode cX3_sendAll 46 = .ok (.ixor, 1) := bq_o130 (bq_of bwX3_sendAll_0 46 (by decide +kernel))
theorem dX3_sendAll_47 : decode cX3_sendAll 47 = .ok (.iand, 1) := bq_o126 (bq_of bwX3_sendAll_0 47 (by decide +kernel))
theorem dX3_sendAll_48 : decode cX3_sendAll 48 = .ok (.putfield 30, 3) := bq_o181 (a := 0) (b := 30) (bq_3 bwX3_sendAll_0 48 (by decide +kernel)) rfl
theorem dX3_sendAll_51 : decode cX3_sendAll 51 = .ok (.aload_n 0, 1) := bq_o42 (bq_of bwX3_sendAll_0 51 (by decide +kernel))
theorem dX3_sendAll_52 : decode cX3_sendAll 52 = .ok (.getfield 9, 3) := bq_o180 (a := 0) (b := 9) (bq_3 bwX3_sendAll_0 52 (by decide +kernel)) rfl
theorem dX3_sendAll_55 : decode cX3_sendAll 55 = .ok (.aload_n 0, 1) := bq_o42 (bq_of bwX3_sendAll_0 55 (by decide +kernel))
theorem dX3_sendAll_56 : decode cX3_sendAll 56 = .ok (.getfield 26, 3) := bq_o180 (a := 0) (b := 26) (bq_3 bwX3_sendAll_0 56 (by decide +kernel)) rfl
theorem dX3_sendAll_59 : decode cX3_sendAll 59 = .ok (.iload 6, 2) := bq_o21 (a := 6) (bq_2 bwX3_sendAll_0 59 (by decide +kernel)) rfl
theorem dX3_sendAll_61 : decode cX3_sendAll 61 = .ok (.iastore, 1) := bq_o79 (bq_of bwX3_sendAll_0 61 (by decide +kernel))
theorem dX3_sendAll_62 : decode cX3_sendAll 62 = .ok (.aload_n 0, 1) := bq_o42 (bq_of bwX3_sendAll_0 62 (by decide +kernel))
theorem dX3_sendAll_63 : decode cX3_sendAll 63 = .ok (.getfield 15, 3) := bq_o180 (a := 0) (b := 15) (bq_3 bwX3_sendAll_0 63 (by decide +kernel)) rfl
def bwX3_sendAll_64l : List Nat := [0, 15, 42, 180, 0, 26, 29, 79, 42, 89, 180, 0, 26, 4, 96, 181, 0, 26, 132, 5, 1, 167, 255, 174, 177]
theorem bwX3_sendAll_64 : ((cX3_sendAll.data.toList.drop 64).take 25).map UInt8.toNat = bwX3_sendAll_64l := by decide +kernel
theorem dX3_sendAll_66 : decode cX3_sendAll 66 = .ok (.aload_n 0, 1) := bq_o42 (bq_of bwX3_sendAll_64 2 (by decide +kernel))
theorem dX3_sendAll_67 : decode cX3_sendAll 67 = .ok (.getfield 26, 3) := bq_o180 (a := 0) (b := 26) (bq_3 bwX3_sendAll_64 3 (by decide +kernel)) rfl
theorem dX3_sendAll_70 : decode cX3_sendAll 70 = .ok (.iload_n 3, 1) := bq_o29 (bq_of bwX3_sendAll_64 6 (by decide +kernel))
theorem dX3_sendAll_71 : decode cX3_sendAll 71 = .ok (.iastore, 1) := bq_o79 (bq_of bwX3_sendAll_64 7 (by decide +kernel))
theorem dX3_sendAll_72 : decode cX3_sendAll 72 = .ok (.aload_n 0, 1) := bq_o42 (bq_of bwX3_sendAll_64 8 (by decide +kernel))
theorem dX3_sendAll_73 : decode cX3_sendAll 73 = .ok (.dup, 1) := bq_o89 (bq_of bwX3_sendAll_64 9 (by decide +kernel))
theorem dX3_sendAll_74 : decode cX3_sendAll 74 = .ok (.getfield 26, 3) := bq_o180 (a := 0) (b := 26) (bq_3 bwX3_sendAll_64 10 (by decide +kernel)) rfl
theorem dX3_sendAll_77 : decode cX3_sendAll 77 = .ok (.iconst 1, 1) := bq_o4 (bq_of bwX3_sendAll_64 13 (by decide +kernel))
theorem dX3_sendAll_78 : decode cX3_sendAll 78 = .ok (.iadd, 1) := bq_o96 (bq_of bwX3_sendAll_64 14 (by decide +kernel))
theorem dX3_sendAll_79 : decode cX3_sendAll 79 = .ok (.putfield 26, 3) := bq_o181 (a := 0) (b := 26) (bq_3 bwX3_sendAll_64 15 (by decide +kernel)) rfl
theorem dX3_sendAll_82 : decode cX3_sendAll 82 = .ok (.iinc 5 1, 3) := bq_o132 (a := 5) (b := 1) (bq_3 bwX3_sendAll_64 18 (by decide +kernel)) rfl (by decide +kernel)
theorem dX3_sendAll_85 : decode cX3_sendAll 85 = .ok (.goto (-82), 3) := bq_o167 (a := 255) (b := 174) (bq_3 bwX3_sendAll_64 21 (by decide +kernel)) (by decide +kernel)
theorem dX3_sendAll_88 : decode cX3_sendAll 88 = .ok (.return_, 1) := bq_o177 (bq_of bwX3_sendAll_64 24 (by decide +kernel))
theorem dX3_coachAt_0 : decode cX3_coachAt 0 = .ok (.iload_n 1, 1) := by decide +kernel
theorem dX3_coachAt_1 : decode cX3_coachAt 1 = .ok (.ifCond .lt 20, 3) := by decide +kernel
theorem dX3_coachAt_4 : decode cX3_coachAt 4 = .ok (.iload_n 1, 1) := by decide +kernel
theorem dX3_coachAt_5 : decode cX3_coachAt 5 = .ok (.aload_n 0, 1) := by decide +kernel
theorem dX3_coachAt_6 : decode cX3_coachAt 6 = .ok (.getfield 26, 3) := by decide +kernel
theorem dX3_coachAt_9 : decode cX3_coachAt 9 = .ok (.if_icmp .ge 12, 3) := by decide +kernel
theorem dX3_coachAt_12 : decode cX3_coachAt 12 = .ok (.aload_n 0, 1) := by decide +kernel
theorem dX3_coachAt_13 : decode cX3_coachAt 13 = .ok (.getfield 9, 3) := by decide +kernel
theorem dX3_coachAt_16 : decode cX3_coachAt 16 = .ok (.iload_n 1, 1) := by decide +kernel
theorem dX3_coachAt_17 : decode cX3_coachAt 17 = .ok (.iaload, 1) := by decide +kernel
theorem dX3_coachAt_18 : decode cX3_coachAt 18 = .ok (.goto 4, 3) := by decide +kernel
theorem dX3_coachAt_21 : decode cX3_coachAt 21 = .ok (.iconst 0, 1) := by decide +kernel
theorem dX3_coachAt_22 : decode cX3_coachAt 22 = .ok (.ireturn, 1) := by decide +kernel
theorem dX3_waitingOf_0 : decode cX3_waitingOf 0 = .ok (.bipush 24, 2) := by decide +kernel
theorem dX3_waitingOf_2 : decode cX3_waitingOf 2 = .ok (.istore_n 3, 1) := by decide +kernel
theorem dX3_waitingOf_3 : decode cX3_waitingOf 3 = .ok (.iconst 0, 1) := by decide +kernel
theorem dX3_waitingOf_4 : decode cX3_waitingOf 4 = .ok (.istore 4, 2) := by decide +kernel
theorem dX3_waitingOf_6 : decode cX3_waitingOf 6 = .ok (.iload 4, 2) := by decide +kernel
theorem dX3_waitingOf_8 : decode cX3_waitingOf 8 = .ok (.aload_n 0, 1) := by decide +kernel
theorem dX3_waitingOf_9 : decode cX3_waitingOf 9 = .ok (.getfield 26, 3) := by decide +kernel
theorem dX3_waitingOf_12 : decode cX3_waitingOf 12 = .ok (.if_icmp .ge 31, 3) := by decide +kernel
theorem dX3_waitingOf_15 : decode cX3_waitingOf 15 = .ok (.aload_n 0, 1) := by decide +kernel
theorem dX3_waitingOf_16 : decode cX3_waitingOf 16 = .ok (.getfield 9, 3) := by decide +kernel
theorem dX3_waitingOf_19 : decode cX3_waitingOf 19 = .ok (.iload 4, 2) := by decide +kernel
theorem dX3_waitingOf_21 : decode cX3_waitingOf 21 = .ok (.iaload, 1) := by decide +kernel
theorem dX3_waitingOf_22 : decode cX3_waitingOf 22 = .ok (.iload_n 2, 1) := by decide +kernel
theorem dX3_waitingOf_23 : decode cX3_waitingOf 23 = .ok (.ishr, 1) := by decide +kernel
theorem dX3_waitingOf_24 : decode cX3_waitingOf 24 = .ok (.iconst 1, 1) := by decide +kernel
theorem dX3_waitingOf_25 : decode cX3_waitingOf 25 = .ok (.iand, 1) := by decide +kernel
theorem dX3_waitingOf_26 : decode cX3_waitingOf 26 = .ok (.ifCond .eq 11, 3) := by decide +kernel
theorem dX3_waitingOf_29 : decode cX3_waitingOf 29 = .ok (.aload_n 0, 1) := by decide +kernel
theorem dX3_waitingOf_30 : decode cX3_waitingOf 30 = .ok (.getfield 15, 3) := by decide +kernel
theorem dX3_waitingOf_33 : decode cX3_waitingOf 33 = .ok (.iload 4, 2) := by decide +kernel
theorem dX3_waitingOf_35 : decode cX3_waitingOf 35 = .ok (.iaload, 1) := by decide +kernel
theorem dX3_waitingOf_36 : decode cX3_waitingOf 36 = .ok (.istore_n 3, 1) := by decide +kernel
theorem dX3_waitingOf_37 : decode cX3_waitingOf 37 = .ok (.iinc 4 1, 3) := by decide +kernel
theorem dX3_waitingOf_40 : decode cX3_waitingOf 40 = .ok (.goto (-34), 3) := by decide +kernel
theorem dX3_waitingOf_43 : decode cX3_waitingOf 43 = .ok (.aload_n 1, 1) := by decide +kernel
theorem dX3_waitingOf_44 : decode cX3_waitingOf 44 = .ok (.getfield 51, 3) := by decide +kernel
theorem dX3_waitingOf_47 : decode cX3_waitingOf 47 = .ok (.iload_n 2, 1) := by decide +kernel
theorem dX3_waitingOf_48 : decode cX3_waitingOf 48 = .ok (.iaload, 1) := by decide +kernel
theorem dX3_waitingOf_49 : decode cX3_waitingOf 49 = .ok (.iload_n 3, 1) := by decide +kernel
theorem dX3_waitingOf_50 : decode cX3_waitingOf 50 = .ok (.aload_n 1, 1) := by decide +kernel
theorem dX3_waitingOf_51 : decode cX3_waitingOf 51 = .ok (.getfield 38, 3) := by decide +kernel
theorem dX3_waitingOf_54 : decode cX3_waitingOf 54 = .ok (.iload_n 2, 1) := by decide +kernel
theorem dX3_waitingOf_55 : decode cX3_waitingOf 55 = .ok (.iaload, 1) := by decide +kernel
theorem dX3_waitingOf_56 : decode cX3_waitingOf 56 = .ok (.isub, 1) := by decide +kernel
theorem dX3_waitingOf_57 : decode cX3_waitingOf 57 = .ok (.imul, 1) := by decide +kernel
theorem dX3_waitingOf_58 : decode cX3_waitingOf 58 = .ok (.ireturn, 1) := by decide +kernel
theorem dX3_waitingOfAll_0 : decode cX3_waitingOfAll 0 = .ok (.iconst 0, 1) := by decide +kernel
theorem dX3_waitingOfAll_1 : decode cX3_waitingOfAll 1 = .ok (.istore_n 2, 1) := by decide +kernel
theorem dX3_waitingOfAll_2 : decode cX3_waitingOfAll 2 = .ok (.iconst 0, 1) := by decide +kernel
theorem dX3_waitingOfAll_3 : decode cX3_waitingOfAll 3 = .ok (.istore_n 3, 1) := by decide +kernel
theorem dX3_waitingOfAll_4 : decode cX3_waitingOfAll 4 = .ok (.iload_n 3, 1) := by decide +kernel
theorem dX3_waitingOfAll_5 : decode cX3_waitingOfAll 5 = .ok (.aload_n 1, 1) := by decide +kernel
theorem dX3_waitingOfAll_6 : decode cX3_waitingOfAll 6 = .ok (.getfield 33, 3) := by decide +kernel
theorem dX3_waitingOfAll_9 : decode cX3_waitingOfAll 9 = .ok (.if_icmp .ge 18, 3) := by decide +kernel
theorem dX3_waitingOfAll_12 : decode cX3_waitingOfAll 12 = .ok (.iload_n 2, 1) := by decide +kernel
theorem dX3_waitingOfAll_13 : decode cX3_waitingOfAll 13 = .ok (.aload_n 0, 1) := by decide +kernel
theorem dX3_waitingOfAll_14 : decode cX3_waitingOfAll 14 = .ok (.aload_n 1, 1) := by decide +kernel
theorem dX3_waitingOfAll_15 : decode cX3_waitingOfAll 15 = .ok (.iload_n 3, 1) := by decide +kernel
theorem dX3_waitingOfAll_16 : decode cX3_waitingOfAll 16 = .ok (.invokevirtual 54, 3) := by decide +kernel
theorem dX3_waitingOfAll_19 : decode cX3_waitingOfAll 19 = .ok (.iadd, 1) := by decide +kernel
theorem dX3_waitingOfAll_20 : decode cX3_waitingOfAll 20 = .ok (.istore_n 2, 1) := by decide +kernel
theorem dX3_waitingOfAll_21 : decode cX3_waitingOfAll 21 = .ok (.iinc 3 1, 3) := by decide +kernel
theorem dX3_waitingOfAll_24 : decode cX3_waitingOfAll 24 = .ok (.goto (-20), 3) := by decide +kernel
theorem dX3_waitingOfAll_27 : decode cX3_waitingOfAll 27 = .ok (.iload_n 2, 1) := by decide +kernel
theorem dX3_waitingOfAll_28 : decode cX3_waitingOfAll 28 = .ok (.ireturn, 1) := by decide +kernel
def bwX3_findLeast_0l : List Nat := [3, 62, 29, 44, 180, 0, 58, 162, 0, 30, 42, 180, 0, 23, 29, 16, 16, 43, 44, 180, 0, 61, 29, 46, 184, 0, 64, 104, 4, 100, 79, 132, 3, 1, 167, 255, 224, 42, 180, 0, 18, 3, 3, 79, 4, 62, 29, 43, 182, 0, 67, 163, 0, 22, 42, 180, 0, 18, 29, 42, 43, 44, 29, 182, 0, 71]
theorem bwX3_findLeast_0 : ((cX3_findLeast.data.toList.drop 0).take 66).map UInt8.toNat = bwX3_findLeast_0l := by decide +kernel
theorem dX3_findLeast_0 : decode cX3_findLeast 0 = .ok (.iconst 0, 1) := bq_o3 (bq_of bwX3_findLeast_0 0 (by decide +kernel))
theorem dX3_findLeast_1 : decode cX3_findLeast 1 = .ok (.istore_n 3, 1) := bq_o62 (bq_of bwX3_findLeast_0 1 (by decide +kernel))
theorem dX3_findLeast_2 : decode cX3_findLeast 2 = .ok (.iload_n 3, 1) := bq_o29 (bq_of bwX3_findLeast_0 2 (by decide +kernel))
theorem dX3_findLeast_3 : decode cX3_findLeast 3 = .ok (.aload_n 2, 1) := bq_o44 (bq_of bwX3_findLeast_0 3 (by decide +kernel))
theorem dX3_findLeast_4 : decode cX3_findLeast 4 = .ok (.getfield 58, 3) := bq_o180 (a := 0) (b := 58) (bq_3 bwX3_findLeast_0 4 (by decide +kernel)) rfl
theorem dX3_findLeast_7 : decode cX3_findLeast 7 = .ok (.if_icmp .ge 30, 3) := bq_o162 (a := 0) (b := 30) (bq_3 bwX3_findLeast_0 7 (by decide +kernel)) (by decide +kernel)
theorem dX3_findLeast_10 : decode cX3_findLeast 10 = .ok (.aload_n 0, 1) := bq_o42 (bq_of bwX3_findLeast_0 10 (by decide +kernel))
theorem dX3_findLeast_11 : decode cX3_findLeast 11 = .ok (.getfield 23, 3) := bq_o180 (a := 0) (b := 23) (bq_3 bwX3_findLeast_0 11 (by decide +kernel)) rfl
theorem dX3_findLeast_14 : decode cX3_findLeast 14 = .ok (.iload_n 3, 1) := bq_o29 (bq_of bwX3_findLeast_0 14 (by decide +kernel))
theorem dX3_findLeast_15 : decode cX3_findLeast 15 = .ok (.bipush 16, 2) := bq_o16 (a := 16) (bq_2 bwX3_findLeast_0 15 (by decide +kernel)) (by decide +kernel)
theorem dX3_findLeast_17 : decode cX3_findLeast 17 = .ok (.aload_n 1, 1) := bq_o43 (bq_of bwX3_findLeast_0 17 (by decide +kernel))
theorem dX3_findLeast_18 : decode cX3_findLeast 18 = .ok (.aload_n 2, 1) := bq_o44 (bq_of bwX3_findLeast_0 18 (by decide +kernel))
theorem dX3_findLeast_19 : decode cX3_findLeast 19 = .ok (.getfield 61, 3) := bq_o180 (a := 0) (b := 61) (bq_3 bwX3_findLeast_0 19 (by decide +kernel)) rfl
theorem dX3_findLeast_22 : decode cX3_findLeast 22 = .ok (.iload_n 3, 1) := bq_o29 (bq_of bwX3_findLeast_0 22 (by decide +kernel))
theorem dX3_findLeast_23 : decode cX3_findLeast 23 = .ok (.iaload, 1) := bq_o46 (bq_of bwX3_findLeast_0 23 (by decide +kernel))
theorem dX3_findLeast_24 : decode cX3_findLeast 24 = .ok (.invokestatic 64, 3) := bq_o184 (a := 0) (b := 64) (bq_3 bwX3_findLeast_0 24 (by decide +kernel)) rfl
theorem dX3_findLeast_27 : decode cX3_findLeast 27 = .ok (.imul, 1) := bq_o104 (bq_of bwX3_findLeast_0 27 (by decide +kernel))
theorem dX3_findLeast_28 : decode cX3_findLeast 28 = .ok (.iconst 1, 1) := bq_o4 (bq_of bwX3_findLeast_0 28 (by decide +kernel))
theorem dX3_findLeast_29 : decode cX3_findLeast 29 = .ok (.isub, 1) := bq_o100 (bq_of bwX3_findLeast_0 29 (by decide +kernel))
theorem dX3_findLeast_30 : decode cX3_findLeast 30 = .ok (.iastore, 1) := bq_o79 (bq_of bwX3_findLeast_0 30 (by decide +kernel))
theorem dX3_findLeast_31 : decode cX3_findLeast 31 = .ok (.iinc 3 1, 3) := bq_o132 (a := 3) (b := 1) (bq_3 bwX3_findLeast_0 31 (by decide +kernel)) rfl (by decide +kernel)
theorem dX3_findLeast_34 : decode cX3_findLeast 34 = .ok (.goto (-32), 3) := bq_o167 (a := 255) (b := 224) (bq_3 bwX3_findLeast_0 34 (by decide +kernel)) (by decide +kernel)
theorem dX3_findLeast_37 : decode cX3_findLeast 37 = .ok (.aload_n 0, 1) := bq_o42 (bq_of bwX3_findLeast_0 37 (by decide +kernel))
theorem dX3_findLeast_38 : decode cX3_findLeast 38 = .ok (.getfield 18, 3) := bq_o180 (a := 0) (b := 18) (bq_3 bwX3_findLeast_0 38 (by decide +kernel)) rfl
theorem dX3_findLeast_41 : decode cX3_findLeast 41 = .ok (.iconst 0, 1) := bq_o3 (bq_of bwX3_findLeast_0 41 (by decide +kernel))
theorem dX3_findLeast_42 : decode cX3_findLeast 42 = .ok (.iconst 0, 1) := bq_o3 (bq_of bwX3_findLeast_0 42 (by decide +kernel))
theorem dX3_findLeast_43 : decode cX3_findLeast 43 = .ok (.iastore, 1) := bq_o79 (bq_of bwX3_findLeast_0 43 (by decide +kernel))
theorem dX3_findLeast_44 : decode cX3_findLeast 44 = .ok (.iconst 1, 1) := bq_o4 (bq_of bwX3_findLeast_0 44 (by decide +kernel))
theorem dX3_findLeast_45 : decode cX3_findLeast 45 = .ok (.istore_n 3, 1) := bq_o62 (bq_of bwX3_findLeast_0 45 (by decide +kernel))
theorem dX3_findLeast_46 : decode cX3_findLeast 46 = .ok (.iload_n 3, 1) := bq_o29 (bq_of bwX3_findLeast_0 46 (by decide +kernel))
theorem dX3_findLeast_47 : decode cX3_findLeast 47 = .ok (.aload_n 1, 1) := bq_o43 (bq_of bwX3_findLeast_0 47 (by decide +kernel))
theorem dX3_findLeast_48 : decode cX3_findLeast 48 = .ok (.invokevirtual 67, 3) := bq_o182 (a := 0) (b := 67) (bq_3 bwX3_findLeast_0 48 (by decide +kernel)) rfl
theorem dX3_findLeast_51 : decode cX3_findLeast 51 = .ok (.if_icmp .gt 22, 3) := bq_o163 (a := 0) (b := 22) (bq_3 bwX3_findLeast_0 51 (by decide +kernel)) (by decide +kernel)
theorem dX3_findLeast_54 : decode cX3_findLeast 54 = .ok (.aload_n 0, 1) := bq_o42 (bq_of bwX3_findLeast_0 54 (by decide +kernel))
theorem dX3_findLeast_55 : decode cX3_findLeast 55 = .ok (.getfield 18, 3) := bq_o180 (a := 0) (b := 18) (bq_3 bwX3_findLeast_0 55 (by decide +kernel)) rfl
theorem dX3_findLeast_58 : decode cX3_findLeast 58 = .ok (.iload_n 3, 1) := bq_o29 (bq_of bwX3_findLeast_0 58 (by decide +kernel))
theorem dX3_findLeast_59 : decode cX3_findLeast 59 = .ok (.aload_n 0, 1) := bq_o42 (bq_of bwX3_findLeast_0 59 (by decide +kernel))
theorem dX3_findLeast_60 : decode cX3_findLeast 60 = .ok (.aload_n 1, 1) := bq_o43 (bq_of bwX3_findLeast_0 60 (by decide +kernel))
theorem dX3_findLeast_61 : decode cX3_findLeast 61 = .ok (.aload_n 2, 1) := bq_o44 (bq_of bwX3_findLeast_0 61 (by decide +kernel))
theorem dX3_findLeast_62 : decode cX3_findLeast 62 = .ok (.iload_n 3, 1) := bq_o29 (bq_of bwX3_findLeast_0 62 (by decide +kernel))
theorem dX3_findLeast_63 : decode cX3_findLeast 63 = .ok (.invokevirtual 71, 3) := bq_o182 (a := 0) (b := 71) (bq_3 bwX3_findLeast_0 63 (by decide +kernel)) rfl
def bwX3_findLeast_64l : List Nat := [0, 71, 79, 132, 3, 1, 167, 255, 232, 42, 42, 180, 0, 18, 43, 182, 0, 67, 46, 181, 0, 75, 177]
theorem bwX3_findLeast_64 : ((cX3_findLeast.data.toList.drop 64).take 23).map UInt8.toNat = bwX3_findLeast_64l := by decide +kernel
theorem dX3_findLeast_66 : decode cX3_findLeast 66 = .ok (.iastore, 1) := bq_o79 (bq_of bwX3_findLeast_64 2 (by decide +kernel))
theorem dX3_findLeast_67 : decode cX3_findLeast 67 = .ok (.iinc 3 1, 3) := bq_o132 (a := 3) (b := 1) (bq_3 bwX3_findLeast_64 3 (by decide +kernel)) rfl (by decide +kernel)
theorem dX3_findLeast_70 : decode cX3_findLeast 70 = .ok (.goto (-24), 3) := bq_o167 (a := 255) (b := 232) (bq_3 bwX3_findLeast_64 6 (by decide +kernel)) (by decide +kernel)
theorem dX3_findLeast_73 : decode cX3_findLeast 73 = .ok (.aload_n 0, 1) := bq_o42 (bq_of bwX3_findLeast_64 9 (by decide +kernel))
theorem dX3_findLeast_74 : decode cX3_findLeast 74 = .ok (.aload_n 0, 1) := bq_o42 (bq_of bwX3_findLeast_64 10 (by decide +kernel))
theorem dX3_findLeast_75 : decode cX3_findLeast 75 = .ok (.getfield 18, 3) := bq_o180 (a := 0) (b := 18) (bq_3 bwX3_findLeast_64 11 (by decide +kernel)) rfl
theorem dX3_findLeast_78 : decode cX3_findLeast 78 = .ok (.aload_n 1, 1) := bq_o43 (bq_of bwX3_findLeast_64 14 (by decide +kernel))
theorem dX3_findLeast_79 : decode cX3_findLeast 79 = .ok (.invokevirtual 67, 3) := bq_o182 (a := 0) (b := 67) (bq_3 bwX3_findLeast_64 15 (by decide +kernel)) rfl
theorem dX3_findLeast_82 : decode cX3_findLeast 82 = .ok (.iaload, 1) := bq_o46 (bq_of bwX3_findLeast_64 18 (by decide +kernel))
theorem dX3_findLeast_83 : decode cX3_findLeast 83 = .ok (.putfield 75, 3) := bq_o181 (a := 0) (b := 75) (bq_3 bwX3_findLeast_64 19 (by decide +kernel)) rfl
theorem dX3_findLeast_86 : decode cX3_findLeast 86 = .ok (.return_, 1) := bq_o177 (bq_of bwX3_findLeast_64 22 (by decide +kernel))
def bwX3_cheapest_0l : List Nat := [29, 29, 116, 126, 4, 100, 184, 0, 78, 54, 4, 21, 4, 43, 180, 0, 33, 161, 0, 5, 3, 172, 16, 16, 43, 180, 0, 51, 21, 4, 46, 104, 16, 24, 43, 180, 0, 38, 21, 4, 46, 100, 104, 54, 5, 42, 180, 0, 18, 29, 4, 21, 4, 120, 130, 46, 21, 5, 96, 54, 6, 3, 54, 7, 21, 7]
theorem bwX3_cheapest_0 : ((cX3_cheapest.data.toList.drop 0).take 66).map UInt8.toNat = bwX3_cheapest_0l := by decide +kernel
theorem dX3_cheapest_0 : decode cX3_cheapest 0 = .ok (.iload_n 3, 1) := bq_o29 (bq_of bwX3_cheapest_0 0 (by decide +kernel))
theorem dX3_cheapest_1 : decode cX3_cheapest 1 = .ok (.iload_n 3, 1) := bq_o29 (bq_of bwX3_cheapest_0 1 (by decide +kernel))
theorem dX3_cheapest_2 : decode cX3_cheapest 2 = .ok (.ineg, 1) := bq_o116 (bq_of bwX3_cheapest_0 2 (by decide +kernel))
theorem dX3_cheapest_3 : decode cX3_cheapest 3 = .ok (.iand, 1) := bq_o126 (bq_of bwX3_cheapest_0 3 (by decide +kernel))
theorem dX3_cheapest_4 : decode cX3_cheapest 4 = .ok (.iconst 1, 1) := bq_o4 (bq_of bwX3_cheapest_0 4 (by decide +kernel))
theorem dX3_cheapest_5 : decode cX3_cheapest 5 = .ok (.isub, 1) := bq_o100 (bq_of bwX3_cheapest_0 5 (by decide +kernel))
theorem dX3_cheapest_6 : decode cX3_cheapest 6 = .ok (.invokestatic 78, 3) := bq_o184 (a := 0) (b := 78) (bq_3 bwX3_cheapest_0 6 (by decide +kernel)) rfl
theorem dX3_cheapest_9 : decode cX3_cheapest 9 = .ok (.istore 4, 2) := bq_o54 (a := 4) (bq_2 bwX3_cheapest_0 9 (by decide +kernel)) rfl
theorem dX3_cheapest_11 : decode cX3_cheapest 11 = .ok (.iload 4, 2) := bq_o21 (a := 4) (bq_2 bwX3_cheapest_0 11 (by decide +kernel)) rfl
theorem dX3_cheapest_13 : decode cX3_cheapest 13 = .ok (.aload_n 1, 1) := bq_o43 (bq_of bwX3_cheapest_0 13 (by decide +kernel))
theorem dX3_cheapest_14 : decode cX3_cheapest 14 = .ok (.getfield 33, 3) := bq_o180 (a := 0) (b := 33) (bq_3 bwX3_cheapest_0 14 (by decide +kernel)) rfl
theorem dX3_cheapest_17 : decode cX3_cheapest 17 = .ok (.if_icmp .lt 5, 3) := bq_o161 (a := 0) (b := 5) (bq_3 bwX3_cheapest_0 17 (by decide +kernel)) (by decide +kernel)
theorem dX3_cheapest_20 : decode cX3_cheapest 20 = .ok (.iconst 0, 1) := bq_o3 (bq_of bwX3_cheapest_0 20 (by decide +kernel))
theorem dX3_cheapest_21 : decode cX3_cheapest 21 = .ok (.ireturn, 1) := bq_o172 (bq_of bwX3_cheapest_0 21 (by decide +kernel))
theorem dX3_cheapest_22 : decode cX3_cheapest 22 = .ok (.bipush 16, 2) := bq_o16 (a := 16) (bq_2 bwX3_cheapest_0 22 (by decide +kernel)) (by decide +kernel)
theorem dX3_cheapest_24 : decode cX3_cheapest 24 = .ok (.aload_n 1, 1) := bq_o43 (bq_of bwX3_cheapest_0 24 (by decide +kernel))
theorem dX3_cheapest_25 : decode cX3_cheapest 25 = .ok (.getfield 51, 3) := bq_o180 (a := 0) (b := 51) (bq_3 bwX3_cheapest_0 25 (by decide +kernel)) rfl
theorem dX3_cheapest_28 : decode cX3_cheapest 28 = .ok (.iload 4, 2) := bq_o21 (a := 4) (bq_2 bwX3_cheapest_0 28 (by decide +kernel)) rfl
theorem dX3_cheapest_30 : decode cX3_cheapest 30 = .ok (.iaload, 1) := bq_o46 (bq_of bwX3_cheapest_0 30 (by decide +kernel))
theorem dX3_cheapest_31 : decode cX3_cheapest 31 = .ok (.imul, 1) := bq_o104 (bq_of bwX3_cheapest_0 31 (by decide +kernel))
theorem dX3_cheapest_32 : decode cX3_cheapest 32 = .ok (.bipush 24, 2) := bq_o16 (a := 24) (bq_2 bwX3_cheapest_0 32 (by decide +kernel)) (by decide +kernel)
theorem dX3_cheapest_34 : decode cX3_cheapest 34 = .ok (.aload_n 1, 1) := bq_o43 (bq_of bwX3_cheapest_0 34 (by decide +kernel))
theorem dX3_cheapest_35 : decode cX3_cheapest 35 = .ok (.getfield 38, 3) := bq_o180 (a := 0) (b := 38) (bq_3 bwX3_cheapest_0 35 (by decide +kernel)) rfl
theorem dX3_cheapest_38 : decode cX3_cheapest 38 = .ok (.iload 4, 2) := bq_o21 (a := 4) (bq_2 bwX3_cheapest_0 38 (by decide +kernel)) rfl
theorem dX3_cheapest_40 : decode cX3_cheapest 40 = .ok (.iaload, 1) := bq_o46 (bq_of bwX3_cheapest_0 40 (by decide +kernel))
theorem dX3_cheapest_41 : decode cX3_cheapest 41 = .ok (.isub, 1) := bq_o100 (bq_of bwX3_cheapest_0 41 (by decide +kernel))
theorem dX3_cheapest_42 : decode cX3_cheapest 42 = .ok (.imul, 1) := bq_o104 (bq_of bwX3_cheapest_0 42 (by decide +kernel))
theorem dX3_cheapest_43 : decode cX3_cheapest 43 = .ok (.istore 5, 2) := bq_o54 (a := 5) (bq_2 bwX3_cheapest_0 43 (by decide +kernel)) rfl
theorem dX3_cheapest_45 : decode cX3_cheapest 45 = .ok (.aload_n 0, 1) := bq_o42 (bq_of bwX3_cheapest_0 45 (by decide +kernel))
theorem dX3_cheapest_46 : decode cX3_cheapest 46 = .ok (.getfield 18, 3) := bq_o180 (a := 0) (b := 18) (bq_3 bwX3_cheapest_0 46 (by decide +kernel)) rfl
theorem dX3_cheapest_49 : decode cX3_cheapest 49 = .ok (.iload_n 3, 1) := bq_o29 (bq_of bwX3_cheapest_0 49 (by decide +kernel))
theorem dX3_cheapest_50 : decode cX3_cheapest 50 = .ok (.iconst 1, 1) := bq_o4 (bq_of bwX3_cheapest_0 50 (by decide +kernel))
theorem dX3_cheapest_51 : decode cX3_cheapest 51 = .ok (.iload 4, 2) := bq_o21 (a := 4) (bq_2 bwX3_cheapest_0 51 (by decide +kernel)) rfl
theorem dX3_cheapest_53 : decode cX3_cheapest 53 = .ok (.ishl, 1) := bq_o120 (bq_of bwX3_cheapest_0 53 (by decide +kernel))
theorem dX3_cheapest_54 : decode cX3_cheapest 54 = .ok (.ixor, 1) := bq_o130 (bq_of bwX3_cheapest_0 54 (by decide +kernel))
theorem dX3_cheapest_55 : decode cX3_cheapest 55 = .ok (.iaload, 1) := bq_o46 (bq_of bwX3_cheapest_0 55 (by decide +kernel))
theorem dX3_cheapest_56 : decode cX3_cheapest 56 = .ok (.iload 5, 2) := bq_o21 (a := 5) (bq_2 bwX3_cheapest_0 56 (by decide +kernel)) rfl
theorem dX3_cheapest_58 : decode cX3_cheapest 58 = .ok (.iadd, 1) := bq_o96 (bq_of bwX3_cheapest_0 58 (by decide +kernel))
theorem dX3_cheapest_59 : decode cX3_cheapest 59 = .ok (.istore 6, 2) := bq_o54 (a := 6) (bq_2 bwX3_cheapest_0 59 (by decide +kernel)) rfl
theorem dX3_cheapest_61 : decode cX3_cheapest 61 = .ok (.iconst 0, 1) := bq_o3 (bq_of bwX3_cheapest_0 61 (by decide +kernel))
theorem dX3_cheapest_62 : decode cX3_cheapest 62 = .ok (.istore 7, 2) := bq_o54 (a := 7) (bq_2 bwX3_cheapest_0 62 (by decide +kernel)) rfl
def bwX3_cheapest_64l : List Nat := [21, 7, 44, 180, 0, 58, 162, 0, 61, 44, 180, 0, 61, 21, 7, 46, 54, 8, 21, 8, 21, 4, 122, 4, 126, 153, 0, 36, 21, 8, 29, 126, 21, 8, 160, 0, 27, 21, 6, 42, 180, 0, 18, 29, 21, 8, 130, 46, 42, 180, 0, 23, 21, 7, 46, 96, 184, 0, 84, 54, 6, 132, 7, 1, 167, 255]
theorem bwX3_cheapest_64 : ((cX3_cheapest.data.toList.drop 64).take 66).map UInt8.toNat = bwX3_cheapest_64l := by decide +kernel
theorem dX3_cheapest_64 : decode cX3_cheapest 64 = .ok (.iload 7, 2) := bq_o21 (a := 7) (bq_2 bwX3_cheapest_64 0 (by decide +kernel)) rfl
theorem dX3_cheapest_66 : decode cX3_cheapest 66 = .ok (.aload_n 2, 1) := bq_o44 (bq_of bwX3_cheapest_64 2 (by decide +kernel))
theorem dX3_cheapest_67 : decode cX3_cheapest 67 = .ok (.getfield 58, 3) := bq_o180 (a := 0) (b := 58) (bq_3 bwX3_cheapest_64 3 (by decide +kernel)) rfl
theorem dX3_cheapest_70 : decode cX3_cheapest 70 = .ok (.if_icmp .ge 61, 3) := bq_o162 (a := 0) (b := 61) (bq_3 bwX3_cheapest_64 6 (by decide +kernel)) (by decide +kernel)
theorem dX3_cheapest_73 : decode cX3_cheapest 73 = .ok (.aload_n 2, 1) := bq_o44 (bq_of bwX3_cheapest_64 9 (by decide +kernel))
theorem dX3_cheapest_74 : decode cX3_cheapest 74 = .ok (.getfield 61, 3) := bq_o180 (a := 0) (b := 61) (bq_3 bwX3_cheapest_64 10 (by decide +kernel)) rfl
theorem dX3_cheapest_77 : decode cX3_cheapest 77 = .ok (.iload 7, 2) := bq_o21 (a := 7) (bq_2 bwX3_cheapest_64 13 (by decide +kernel)) rfl
theorem dX3_cheapest_79 : decode cX3_cheapest 79 = .ok (.iaload, 1) := bq_o46 (bq_of bwX3_cheapest_64 15 (by decide +kernel))
theorem dX3_cheapest_80 : decode cX3_cheapest 80 = .ok (.istore 8, 2) := bq_o54 (a := 8) (bq_2 bwX3_cheapest_64 16 (by decide +kernel)) rfl
theorem dX3_cheapest_82 : decode cX3_cheapest 82 = .ok (.iload 8, 2) := bq_o21 (a := 8) (bq_2 bwX3_cheapest_64 18 (by decide +kernel)) rfl
theorem dX3_cheapest_84 : decode cX3_cheapest 84 = .ok (.iload 4, 2) := bq_o21 (a := 4) (bq_2 bwX3_cheapest_64 20 (by decide +kernel)) rfl
theorem dX3_cheapest_86 : decode cX3_cheapest 86 = .ok (.ishr, 1) := bq_o122 (bq_of bwX3_cheapest_64 22 (by decide +kernel))
theorem dX3_cheapest_87 : decode cX3_cheapest 87 = .ok (.iconst 1, 1) := bq_o4 (bq_of bwX3_cheapest_64 23 (by decide +kernel))
theorem dX3_cheapest_88 : decode cX3_cheapest 88 = .ok (.iand, 1) := bq_o126 (bq_of bwX3_cheapest_64 24 (by decide +kernel))
theorem dX3_cheapest_89 : decode cX3_cheapest 89 = .ok (.ifCond .eq 36, 3) := bq_o153 (a := 0) (b := 36) (bq_3 bwX3_cheapest_64 25 (by decide +kernel)) (by decide +kernel)
theorem dX3_cheapest_92 : decode cX3_cheapest 92 = .ok (.iload 8, 2) := bq_o21 (a := 8) (bq_2 bwX3_cheapest_64 28 (by decide +kernel)) rfl
theorem dX3_cheapest_94 : decode cX3_cheapest 94 = .ok (.iload_n 3, 1) := bq_o29 (bq_of bwX3_cheapest_64 30 (by decide +kernel))
theorem dX3_cheapest_95 : decode cX3_cheapest 95 = .ok (.iand, 1) := bq_o126 (bq_of bwX3_cheapest_64 31 (by decide +kernel))
theorem dX3_cheapest_96 : decode cX3_cheapest 96 = .ok (.iload 8, 2) := bq_o21 (a := 8) (bq_2 bwX3_cheapest_64 32 (by decide +kernel)) rfl
theorem dX3_cheapest_98 : decode cX3_cheapest 98 = .ok (.if_icmp .ne 27, 3) := bq_o160 (a := 0) (b := 27) (bq_3 bwX3_cheapest_64 34 (by decide +kernel)) (by decide +kernel)
theorem dX3_cheapest_101 : decode cX3_cheapest 101 = .ok (.iload 6, 2) := bq_o21 (a := 6) (bq_2 bwX3_cheapest_64 37 (by decide +kernel)) rfl
theorem dX3_cheapest_103 : decode cX3_cheapest 103 = .ok (.aload_n 0, 1) := bq_o42 (bq_of bwX3_cheapest_64 39 (by decide +kernel))
theorem dX3_cheapest_104 : decode cX3_cheapest 104 = .ok (.getfield 18, 3) := bq_o180 (a := 0) (b := 18) (bq_3 bwX3_cheapest_64 40 (by decide +kernel)) rfl
theorem dX3_cheapest_107 : decode cX3_cheapest 107 = .ok (.iload_n 3, 1) := bq_o29 (bq_of bwX3_cheapest_64 43 (by decide +kernel))
theorem dX3_cheapest_108 : decode cX3_cheapest 108 = .ok (.iload 8, 2) := bq_o21 (a := 8) (bq_2 bwX3_cheapest_64 44 (by decide +kernel)) rfl
theorem dX3_cheapest_110 : decode cX3_cheapest 110 = .ok (.ixor, 1) := bq_o130 (bq_of bwX3_cheapest_64 46 (by decide +kernel))
theorem dX3_cheapest_111 : decode cX3_cheapest 111 = .ok (.iaload, 1) := bq_o46 (bq_of bwX3_cheapest_64 47 (by decide +kernel))
theorem dX3_cheapest_112 : decode cX3_cheapest 112 = .ok (.aload_n 0, 1) := bq_o42 (bq_of bwX3_cheapest_64 48 (by decide +kernel))
theorem dX3_cheapest_113 : decode cX3_cheapest 113 = .ok (.getfield 23, 3) := bq_o180 (a := 0) (b := 23) (bq_3 bwX3_cheapest_64 49 (by decide +kernel)) rfl
theorem dX3_cheapest_116 : decode cX3_cheapest 116 = .ok (.iload 7, 2) := bq_o21 (a := 7) (bq_2 bwX3_cheapest_64 52 (by decide +kernel)) rfl
theorem dX3_cheapest_118 : decode cX3_cheapest 118 = .ok (.iaload, 1) := bq_o46 (bq_of bwX3_cheapest_64 54 (by decide +kernel))
theorem dX3_cheapest_119 : decode cX3_cheapest 119 = .ok (.iadd, 1) := bq_o96 (bq_of bwX3_cheapest_64 55 (by decide +kernel))
theorem dX3_cheapest_120 : decode cX3_cheapest 120 = .ok (.invokestatic 84, 3) := bq_o184 (a := 0) (b := 84) (bq_3 bwX3_cheapest_64 56 (by decide +kernel)) rfl
theorem dX3_cheapest_123 : decode cX3_cheapest 123 = .ok (.istore 6, 2) := bq_o54 (a := 6) (bq_2 bwX3_cheapest_64 59 (by decide +kernel)) rfl
theorem dX3_cheapest_125 : decode cX3_cheapest 125 = .ok (.iinc 7 1, 3) := bq_o132 (a := 7) (b := 1) (bq_3 bwX3_cheapest_64 61 (by decide +kernel)) rfl (by decide +kernel)
def bwX3_cheapest_128l : List Nat := [167, 255, 192, 21, 6, 172]
theorem bwX3_cheapest_128 : ((cX3_cheapest.data.toList.drop 128).take 6).map UInt8.toNat = bwX3_cheapest_128l := by decide +kernel
theorem dX3_cheapest_128 : decode cX3_cheapest 128 = .ok (.goto (-64), 3) := bq_o167 (a := 255) (b := 192) (bq_3 bwX3_cheapest_128 0 (by decide +kernel)) (by decide +kernel)
theorem dX3_cheapest_131 : decode cX3_cheapest 131 = .ok (.iload 6, 2) := bq_o21 (a := 6) (bq_2 bwX3_cheapest_128 3 (by decide +kernel)) rfl
theorem dX3_cheapest_133 : decode cX3_cheapest 133 = .ok (.ireturn, 1) := bq_o172 (bq_of bwX3_cheapest_128 5 (by decide +kernel))
def bwX3_waitingTogether_0l : List Nat := [3, 61, 3, 62, 29, 42, 180, 0, 33, 162, 0, 28, 27, 29, 122, 4, 126, 153, 0, 14, 28, 42, 180, 0, 38, 29, 46, 184, 0, 90, 61, 132, 3, 1, 167, 255, 226, 3, 62, 3, 54, 4, 21, 4, 42, 180, 0, 33, 162, 0, 38, 27, 21, 4, 122, 4, 126, 153, 0, 23, 29, 42, 180, 0, 51, 21]
theorem bwX3_waitingTogether_0 : ((cX3_waitingTogether.data.toList.drop 0).take 66).map UInt8.toNat = bwX3_waitingTogether_0l := by decide +kernel
theorem dX3_waitingTogether_0 : decode cX3_waitingTogether 0 = .ok (.iconst 0, 1) := bq_o3 (bq_of bwX3_waitingTogether_0 0 (by decide +kernel))
theorem dX3_waitingTogether_1 : decode cX3_waitingTogether 1 = .ok (.istore_n 2, 1) := bq_o61 (bq_of bwX3_waitingTogether_0 1 (by decide +kernel))
theorem dX3_waitingTogether_2 : decode cX3_waitingTogether 2 = .ok (.iconst 0, 1) := bq_o3 (bq_of bwX3_waitingTogether_0 2 (by decide +kernel))
theorem dX3_waitingTogether_3 : decode cX3_waitingTogether 3 = .ok (.istore_n 3, 1) := bq_o62 (bq_of bwX3_waitingTogether_0 3 (by decide +kernel))
theorem dX3_waitingTogether_4 : decode cX3_waitingTogether 4 = .ok (.iload_n 3, 1) := bq_o29 (bq_of bwX3_waitingTogether_0 4 (by decide +kernel))
theorem dX3_waitingTogether_5 : decode cX3_waitingTogether 5 = .ok (.aload_n 0, 1) := bq_o42 (bq_of bwX3_waitingTogether_0 5 (by decide +kernel))
theorem dX3_waitingTogether_6 : decode cX3_waitingTogether 6 = .ok (.getfield 33, 3) := bq_o180 (a := 0) (b := 33) (bq_3 bwX3_waitingTogether_0 6 (by decide +kernel)) rfl
theorem dX3_waitingTogether_9 : decode cX3_waitingTogether 9 = .ok (.if_icmp .ge 28, 3) := bq_o162 (a := 0) (b := 28) (bq_3 bwX3_waitingTogether_0 9 (by decide +kernel)) (by decide +kernel)
theorem dX3_waitingTogether_12 : decode cX3_waitingTogether 12 = .ok (.iload_n 1, 1) := bq_o27 (bq_of bwX3_waitingTogether_0 12 (by decide +kernel))
theorem dX3_waitingTogether_13 : decode cX3_waitingTogether 13 = .ok (.iload_n 3, 1) := bq_o29 (bq_of bwX3_waitingTogether_0 13 (by decide +kernel))
theorem dX3_waitingTogether_14 : decode cX3_waitingTogether 14 = .ok (.ishr, 1) := bq_o122 (bq_of bwX3_waitingTogether_0 14 (by decide +kernel))
theorem dX3_waitingTogether_15 : decode cX3_waitingTogether 15 = .ok (.iconst 1, 1) := bq_o4 (bq_of bwX3_waitingTogether_0 15 (by decide +kernel))
theorem dX3_waitingTogether_16 : decode cX3_waitingTogether 16 = .ok (.iand, 1) := bq_o126 (bq_of bwX3_waitingTogether_0 16 (by decide +kernel))
theorem dX3_waitingTogether_17 : decode cX3_waitingTogether 17 = .ok (.ifCond .eq 14, 3) := bq_o153 (a := 0) (b := 14) (bq_3 bwX3_waitingTogether_0 17 (by decide +kernel)) (by decide +kernel)
theorem dX3_waitingTogether_20 : decode cX3_waitingTogether 20 = .ok (.iload_n 2, 1) := bq_o28 (bq_of bwX3_waitingTogether_0 20 (by decide +kernel))
theorem dX3_waitingTogether_21 : decode cX3_waitingTogether 21 = .ok (.aload_n 0, 1) := bq_o42 (bq_of bwX3_waitingTogether_0 21 (by decide +kernel))
theorem dX3_waitingTogether_22 : decode cX3_waitingTogether 22 = .ok (.getfield 38, 3) := bq_o180 (a := 0) (b := 38) (bq_3 bwX3_waitingTogether_0 22 (by decide +kernel)) rfl
theorem dX3_waitingTogether_25 : decode cX3_waitingTogether 25 = .ok (.iload_n 3, 1) := bq_o29 (bq_of bwX3_waitingTogether_0 25 (by decide +kernel))
theorem dX3_waitingTogether_26 : decode cX3_waitingTogether 26 = .ok (.iaload, 1) := bq_o46 (bq_of bwX3_waitingTogether_0 26 (by decide +kernel))
theorem dX3_waitingTogether_27 : decode cX3_waitingTogether 27 = .ok (.invokestatic 90, 3) := bq_o184 (a := 0) (b := 90) (bq_3 bwX3_waitingTogether_0 27 (by decide +kernel)) rfl
theorem dX3_waitingTogether_30 : decode cX3_waitingTogether 30 = .ok (.istore_n 2, 1) := bq_o61 (bq_of bwX3_waitingTogether_0 30 (by decide +kernel))
theorem dX3_waitingTogether_31 : decode cX3_waitingTogether 31 = .ok (.iinc 3 1, 3) := bq_o132 (a := 3) (b := 1) (bq_3 bwX3_waitingTogether_0 31 (by decide +kernel)) rfl (by decide +kernel)
theorem dX3_waitingTogether_34 : decode cX3_waitingTogether 34 = .ok (.goto (-30), 3) := bq_o167 (a := 255) (b := 226) (bq_3 bwX3_waitingTogether_0 34 (by decide +kernel)) (by decide +kernel)
theorem dX3_waitingTogether_37 : decode cX3_waitingTogether 37 = .ok (.iconst 0, 1) := bq_o3 (bq_of bwX3_waitingTogether_0 37 (by decide +kernel))
theorem dX3_waitingTogether_38 : decode cX3_waitingTogether 38 = .ok (.istore_n 3, 1) := bq_o62 (bq_of bwX3_waitingTogether_0 38 (by decide +kernel))
theorem dX3_waitingTogether_39 : decode cX3_waitingTogether 39 = .ok (.iconst 0, 1) := bq_o3 (bq_of bwX3_waitingTogether_0 39 (by decide +kernel))
theorem dX3_waitingTogether_40 : decode cX3_waitingTogether 40 = .ok (.istore 4, 2) := bq_o54 (a := 4) (bq_2 bwX3_waitingTogether_0 40 (by decide +kernel)) rfl
theorem dX3_waitingTogether_42 : decode cX3_waitingTogether 42 = .ok (.iload 4, 2) := bq_o21 (a := 4) (bq_2 bwX3_waitingTogether_0 42 (by decide +kernel)) rfl
theorem dX3_waitingTogether_44 : decode cX3_waitingTogether 44 = .ok (.aload_n 0, 1) := bq_o42 (bq_of bwX3_waitingTogether_0 44 (by decide +kernel))
theorem dX3_waitingTogether_45 : decode cX3_waitingTogether 45 = .ok (.getfield 33, 3) := bq_o180 (a := 0) (b := 33) (bq_3 bwX3_waitingTogether_0 45 (by decide +kernel)) rfl
theorem dX3_waitingTogether_48 : decode cX3_waitingTogether 48 = .ok (.if_icmp .ge 38, 3) := bq_o162 (a := 0) (b := 38) (bq_3 bwX3_waitingTogether_0 48 (by decide +kernel)) (by decide +kernel)
theorem dX3_waitingTogether_51 : decode cX3_waitingTogether 51 = .ok (.iload_n 1, 1) := bq_o27 (bq_of bwX3_waitingTogether_0 51 (by decide +kernel))
theorem dX3_waitingTogether_52 : decode cX3_waitingTogether 52 = .ok (.iload 4, 2) := bq_o21 (a := 4) (bq_2 bwX3_waitingTogether_0 52 (by decide +kernel)) rfl
theorem dX3_waitingTogether_54 : decode cX3_waitingTogether 54 = .ok (.ishr, 1) := bq_o122 (bq_of bwX3_waitingTogether_0 54 (by decide +kernel))
theorem dX3_waitingTogether_55 : decode cX3_waitingTogether 55 = .ok (.iconst 1, 1) := bq_o4 (bq_of bwX3_waitingTogether_0 55 (by decide +kernel))
theorem dX3_waitingTogether_56 : decode cX3_waitingTogether 56 = .ok (.iand, 1) := bq_o126 (bq_of bwX3_waitingTogether_0 56 (by decide +kernel))
theorem dX3_waitingTogether_57 : decode cX3_waitingTogether 57 = .ok (.ifCond .eq 23, 3) := bq_o153 (a := 0) (b := 23) (bq_3 bwX3_waitingTogether_0 57 (by decide +kernel)) (by decide +kernel)
theorem dX3_waitingTogether_60 : decode cX3_waitingTogether 60 = .ok (.iload_n 3, 1) := bq_o29 (bq_of bwX3_waitingTogether_0 60 (by decide +kernel))
theorem dX3_waitingTogether_61 : decode cX3_waitingTogether 61 = .ok (.aload_n 0, 1) := bq_o42 (bq_of bwX3_waitingTogether_0 61 (by decide +kernel))
theorem dX3_waitingTogether_62 : decode cX3_waitingTogether 62 = .ok (.getfield 51, 3) := bq_o180 (a := 0) (b := 51) (bq_3 bwX3_waitingTogether_0 62 (by decide +kernel)) rfl
def bwX3_waitingTogether_64l : List Nat := [51, 21, 4, 46, 28, 42, 180, 0, 38, 21, 4, 46, 100, 104, 96, 62, 132, 4, 1, 167, 255, 215, 29, 172]
theorem bwX3_waitingTogether_64 : ((cX3_waitingTogether.data.toList.drop 64).take 24).map UInt8.toNat = bwX3_waitingTogether_64l := by decide +kernel
theorem dX3_waitingTogether_65 : decode cX3_waitingTogether 65 = .ok (.iload 4, 2) := bq_o21 (a := 4) (bq_2 bwX3_waitingTogether_64 1 (by decide +kernel)) rfl
theorem dX3_waitingTogether_67 : decode cX3_waitingTogether 67 = .ok (.iaload, 1) := bq_o46 (bq_of bwX3_waitingTogether_64 3 (by decide +kernel))
theorem dX3_waitingTogether_68 : decode cX3_waitingTogether 68 = .ok (.iload_n 2, 1) := bq_o28 (bq_of bwX3_waitingTogether_64 4 (by decide +kernel))
theorem dX3_waitingTogether_69 : decode cX3_waitingTogether 69 = .ok (.aload_n 0, 1) := bq_o42 (bq_of bwX3_waitingTogether_64 5 (by decide +kernel))
theorem dX3_waitingTogether_70 : decode cX3_waitingTogether 70 = .ok (.getfield 38, 3) := bq_o180 (a := 0) (b := 38) (bq_3 bwX3_waitingTogether_64 6 (by decide +kernel)) rfl
theorem dX3_waitingTogether_73 : decode cX3_waitingTogether 73 = .ok (.iload 4, 2) := bq_o21 (a := 4) (bq_2 bwX3_waitingTogether_64 9 (by decide +kernel)) rfl
theorem dX3_waitingTogether_75 : decode cX3_waitingTogether 75 = .ok (.iaload, 1) := bq_o46 (bq_of bwX3_waitingTogether_64 11 (by decide +kernel))
theorem dX3_waitingTogether_76 : decode cX3_waitingTogether 76 = .ok (.isub, 1) := bq_o100 (bq_of bwX3_waitingTogether_64 12 (by decide +kernel))
theorem dX3_waitingTogether_77 : decode cX3_waitingTogether 77 = .ok (.imul, 1) := bq_o104 (bq_of bwX3_waitingTogether_64 13 (by decide +kernel))
theorem dX3_waitingTogether_78 : decode cX3_waitingTogether 78 = .ok (.iadd, 1) := bq_o96 (bq_of bwX3_waitingTogether_64 14 (by decide +kernel))
theorem dX3_waitingTogether_79 : decode cX3_waitingTogether 79 = .ok (.istore_n 3, 1) := bq_o62 (bq_of bwX3_waitingTogether_64 15 (by decide +kernel))
theorem dX3_waitingTogether_80 : decode cX3_waitingTogether 80 = .ok (.iinc 4 1, 3) := bq_o132 (a := 4) (b := 1) (bq_3 bwX3_waitingTogether_64 16 (by decide +kernel)) rfl (by decide +kernel)
theorem dX3_waitingTogether_83 : decode cX3_waitingTogether 83 = .ok (.goto (-41), 3) := bq_o167 (a := 255) (b := 215) (bq_3 bwX3_waitingTogether_64 19 (by decide +kernel)) (by decide +kernel)
theorem dX3_waitingTogether_86 : decode cX3_waitingTogether 86 = .ok (.iload_n 3, 1) := bq_o29 (bq_of bwX3_waitingTogether_64 22 (by decide +kernel))
theorem dX3_waitingTogether_87 : decode cX3_waitingTogether 87 = .ok (.ireturn, 1) := bq_o172 (bq_of bwX3_waitingTogether_64 23 (by decide +kernel))
theorem dX3_leastWaiting_0 : decode cX3_leastWaiting 0 = .ok (.aload_n 0, 1) := by decide +kernel
theorem dX3_leastWaiting_1 : decode cX3_leastWaiting 1 = .ok (.getfield 75, 3) := by decide +kernel
theorem dX3_leastWaiting_4 : decode cX3_leastWaiting 4 = .ok (.bipush 16, 2) := by decide +kernel
theorem dX3_leastWaiting_6 : decode cX3_leastWaiting 6 = .ok (.iadd, 1) := by decide +kernel
theorem dX3_leastWaiting_7 : decode cX3_leastWaiting 7 = .ok (.iconst 1, 1) := by decide +kernel
theorem dX3_leastWaiting_8 : decode cX3_leastWaiting 8 = .ok (.isub, 1) := by decide +kernel
theorem dX3_leastWaiting_9 : decode cX3_leastWaiting 9 = .ok (.bipush 16, 2) := by decide +kernel
theorem dX3_leastWaiting_11 : decode cX3_leastWaiting 11 = .ok (.idiv, 1) := by decide +kernel
theorem dX3_leastWaiting_12 : decode cX3_leastWaiting 12 = .ok (.ireturn, 1) := by decide +kernel
theorem dX3_leastCoaches_0 : decode cX3_leastCoaches 0 = .ok (.aload_n 0, 1) := by decide +kernel
theorem dX3_leastCoaches_1 : decode cX3_leastCoaches 1 = .ok (.invokevirtual 93, 3) := by decide +kernel
theorem dX3_leastCoaches_4 : decode cX3_leastCoaches 4 = .ok (.bipush 16, 2) := by decide +kernel
theorem dX3_leastCoaches_6 : decode cX3_leastCoaches 6 = .ok (.imul, 1) := by decide +kernel
theorem dX3_leastCoaches_7 : decode cX3_leastCoaches 7 = .ok (.aload_n 0, 1) := by decide +kernel
theorem dX3_leastCoaches_8 : decode cX3_leastCoaches 8 = .ok (.getfield 75, 3) := by decide +kernel
theorem dX3_leastCoaches_11 : decode cX3_leastCoaches 11 = .ok (.isub, 1) := by decide +kernel
theorem dX3_leastCoaches_12 : decode cX3_leastCoaches 12 = .ok (.ireturn, 1) := by decide +kernel
theorem dX4_init_0 : decode cX4_init 0 = .ok (.aload_n 0, 1) := by decide +kernel
theorem dX4_init_1 : decode cX4_init 1 = .ok (.iload_n 1, 1) := by decide +kernel
theorem dX4_init_2 : decode cX4_init 2 = .ok (.invokespecial 1, 3) := by decide +kernel
theorem dX4_init_5 : decode cX4_init 5 = .ok (.return_, 1) := by decide +kernel
theorem dX4_kind_0 : decode cX4_kind 0 = .ok (.iconst 1, 1) := by decide +kernel
theorem dX4_kind_1 : decode cX4_kind 1 = .ok (.ireturn, 1) := by decide +kernel
theorem dX4_pick_0 : decode cX4_pick 0 = .ok (.aload_n 1, 1) := by decide +kernel
theorem dX4_pick_1 : decode cX4_pick 1 = .ok (.iload_n 2, 1) := by decide +kernel
theorem dX4_pick_2 : decode cX4_pick 2 = .ok (.invokevirtual 7, 3) := by decide +kernel
theorem dX4_pick_5 : decode cX4_pick 5 = .ok (.ireturn, 1) := by decide +kernel
theorem dX5_init_0 : decode cX5_init 0 = .ok (.aload_n 0, 1) := by decide +kernel
theorem dX5_init_1 : decode cX5_init 1 = .ok (.invokespecial 3, 3) := by decide +kernel
theorem dX5_init_4 : decode cX5_init 4 = .ok (.aload_n 0, 1) := by decide +kernel
theorem dX5_init_5 : decode cX5_init 5 = .ok (.sipush 250, 3) := by decide +kernel
theorem dX5_init_8 : decode cX5_init 8 = .ok (.newarray .int, 2) := by decide +kernel
theorem dX5_init_10 : decode cX5_init 10 = .ok (.putfield 11, 3) := by decide +kernel
theorem dX5_init_13 : decode cX5_init 13 = .ok (.return_, 1) := by decide +kernel
theorem dX5_isFull_0 : decode cX5_isFull 0 = .ok (.aload_n 0, 1) := by decide +kernel
theorem dX5_isFull_1 : decode cX5_isFull 1 = .ok (.getfield 15, 3) := by decide +kernel
theorem dX5_isFull_4 : decode cX5_isFull 4 = .ok (.sipush 250, 3) := by decide +kernel
theorem dX5_isFull_7 : decode cX5_isFull 7 = .ok (.if_icmp .lt 7, 3) := by decide +kernel
theorem dX5_isFull_10 : decode cX5_isFull 10 = .ok (.iconst 1, 1) := by decide +kernel
theorem dX5_isFull_11 : decode cX5_isFull 11 = .ok (.goto 4, 3) := by decide +kernel
theorem dX5_isFull_14 : decode cX5_isFull 14 = .ok (.iconst 0, 1) := by decide +kernel
theorem dX5_isFull_15 : decode cX5_isFull 15 = .ok (.ireturn, 1) := by decide +kernel
theorem dX5_append_0 : decode cX5_append 0 = .ok (.aload_n 0, 1) := by decide +kernel
theorem dX5_append_1 : decode cX5_append 1 = .ok (.getfield 15, 3) := by decide +kernel
theorem dX5_append_4 : decode cX5_append 4 = .ok (.sipush 250, 3) := by decide +kernel
theorem dX5_append_7 : decode cX5_append 7 = .ok (.if_icmp .ge 23, 3) := by decide +kernel
theorem dX5_append_10 : decode cX5_append 10 = .ok (.aload_n 0, 1) := by decide +kernel
theorem dX5_append_11 : decode cX5_append 11 = .ok (.getfield 11, 3) := by decide +kernel
theorem dX5_append_14 : decode cX5_append 14 = .ok (.aload_n 0, 1) := by decide +kernel
theorem dX5_append_15 : decode cX5_append 15 = .ok (.getfield 15, 3) := by decide +kernel
theorem dX5_append_18 : decode cX5_append 18 = .ok (.iload_n 1, 1) := by decide +kernel
theorem dX5_append_19 : decode cX5_append 19 = .ok (.iastore, 1) := by decide +kernel
theorem dX5_append_20 : decode cX5_append 20 = .ok (.aload_n 0, 1) := by decide +kernel
theorem dX5_append_21 : decode cX5_append 21 = .ok (.dup, 1) := by decide +kernel
theorem dX5_append_22 : decode cX5_append 22 = .ok (.getfield 15, 3) := by decide +kernel
theorem dX5_append_25 : decode cX5_append 25 = .ok (.iconst 1, 1) := by decide +kernel
theorem dX5_append_26 : decode cX5_append 26 = .ok (.iadd, 1) := by decide +kernel
theorem dX5_append_27 : decode cX5_append 27 = .ok (.putfield 15, 3) := by decide +kernel
theorem dX5_append_30 : decode cX5_append 30 = .ok (.return_, 1) := by decide +kernel
theorem dX5_clear_0 : decode cX5_clear 0 = .ok (.aload_n 0, 1) := by decide +kernel
theorem dX5_clear_1 : decode cX5_clear 1 = .ok (.iconst 0, 1) := by decide +kernel
theorem dX5_clear_2 : decode cX5_clear 2 = .ok (.putfield 15, 3) := by decide +kernel
theorem dX5_clear_5 : decode cX5_clear 5 = .ok (.return_, 1) := by decide +kernel
def bwX5_read_0l : List Nat := [42, 3, 181, 0, 19, 42, 182, 0, 22, 4, 61, 28, 17, 0, 250, 163, 0, 47, 42, 43, 182, 0, 25, 154, 0, 5, 2, 172, 42, 180, 0, 29, 154, 0, 5, 28, 172, 42, 180, 0, 29, 6, 159, 0, 10, 42, 182, 0, 32, 87, 2, 172, 42, 182, 0, 22, 132, 2, 1, 167, 255, 208, 2, 172]
theorem bwX5_read_0 : ((cX5_read.data.toList.drop 0).take 64).map UInt8.toNat = bwX5_read_0l := by decide +kernel
theorem dX5_read_0 : decode cX5_read 0 = .ok (.aload_n 0, 1) := bq_o42 (bq_of bwX5_read_0 0 (by decide +kernel))
theorem dX5_read_1 : decode cX5_read 1 = .ok (.iconst 0, 1) := bq_o3 (bq_of bwX5_read_0 1 (by decide +kernel))
theorem dX5_read_2 : decode cX5_read 2 = .ok (.putfield 19, 3) := bq_o181 (a := 0) (b := 19) (bq_3 bwX5_read_0 2 (by decide +kernel)) rfl
theorem dX5_read_5 : decode cX5_read 5 = .ok (.aload_n 0, 1) := bq_o42 (bq_of bwX5_read_0 5 (by decide +kernel))
theorem dX5_read_6 : decode cX5_read 6 = .ok (.invokevirtual 22, 3) := bq_o182 (a := 0) (b := 22) (bq_3 bwX5_read_0 6 (by decide +kernel)) rfl
theorem dX5_read_9 : decode cX5_read 9 = .ok (.iconst 1, 1) := bq_o4 (bq_of bwX5_read_0 9 (by decide +kernel))
theorem dX5_read_10 : decode cX5_read 10 = .ok (.istore_n 2, 1) := bq_o61 (bq_of bwX5_read_0 10 (by decide +kernel))
theorem dX5_read_11 : decode cX5_read 11 = .ok (.iload_n 2, 1) := bq_o28 (bq_of bwX5_read_0 11 (by decide +kernel))
theorem dX5_read_12 : decode cX5_read 12 = .ok (.sipush 250, 3) := bq_o17 (a := 0) (b := 250) (bq_3 bwX5_read_0 12 (by decide +kernel)) (by decide +kernel)
theorem dX5_read_15 : decode cX5_read 15 = .ok (.if_icmp .gt 47, 3) := bq_o163 (a := 0) (b := 47) (bq_3 bwX5_read_0 15 (by decide +kernel)) (by decide +kernel)
theorem dX5_read_18 : decode cX5_read 18 = .ok (.aload_n 0, 1) := bq_o42 (bq_of bwX5_read_0 18 (by decide +kernel))
theorem dX5_read_19 : decode cX5_read 19 = .ok (.aload_n 1, 1) := bq_o43 (bq_of bwX5_read_0 19 (by decide +kernel))
theorem dX5_read_20 : decode cX5_read 20 = .ok (.invokevirtual 25, 3) := bq_o182 (a := 0) (b := 25) (bq_3 bwX5_read_0 20 (by decide +kernel)) rfl
theorem dX5_read_23 : decode cX5_read 23 = .ok (.ifCond .ne 5, 3) := bq_o154 (a := 0) (b := 5) (bq_3 bwX5_read_0 23 (by decide +kernel)) (by decide +kernel)
theorem dX5_read_26 : decode cX5_read 26 = .ok (.iconst (-1), 1) := bq_o2 (bq_of bwX5_read_0 26 (by decide +kernel))
theorem dX5_read_27 : decode cX5_read 27 = .ok (.ireturn, 1) := bq_o172 (bq_of bwX5_read_0 27 (by decide +kernel))
theorem dX5_read_28 : decode cX5_read 28 = .ok (.aload_n 0, 1) := bq_o42 (bq_of bwX5_read_0 28 (by decide +kernel))
theorem dX5_read_29 : decode cX5_read 29 = .ok (.getfield 29, 3) := bq_o180 (a := 0) (b := 29) (bq_3 bwX5_read_0 29 (by decide +kernel)) rfl
theorem dX5_read_32 : decode cX5_read 32 = .ok (.ifCond .ne 5, 3) := bq_o154 (a := 0) (b := 5) (bq_3 bwX5_read_0 32 (by decide +kernel)) (by decide +kernel)
theorem dX5_read_35 : decode cX5_read 35 = .ok (.iload_n 2, 1) := bq_o28 (bq_of bwX5_read_0 35 (by decide +kernel))
theorem dX5_read_36 : decode cX5_read 36 = .ok (.ireturn, 1) := bq_o172 (bq_of bwX5_read_0 36 (by decide +kernel))
theorem dX5_read_37 : decode cX5_read 37 = .ok (.aload_n 0, 1) := bq_o42 (bq_of bwX5_read_0 37 (by decide +kernel))
theorem dX5_read_38 : decode cX5_read 38 = .ok (.getfield 29, 3) := bq_o180 (a := 0) (b := 29) (bq_3 bwX5_read_0 38 (by decide +kernel)) rfl
theorem dX5_read_41 : decode cX5_read 41 = .ok (.iconst 3, 1) := bq_o6 (bq_of bwX5_read_0 41 (by decide +kernel))
theorem dX5_read_42 : decode cX5_read 42 = .ok (.if_icmp .eq 10, 3) := bq_o159 (a := 0) (b := 10) (bq_3 bwX5_read_0 42 (by decide +kernel)) (by decide +kernel)
theorem dX5_read_45 : decode cX5_read 45 = .ok (.aload_n 0, 1) := bq_o42 (bq_of bwX5_read_0 45 (by decide +kernel))
theorem dX5_read_46 : decode cX5_read 46 = .ok (.invokevirtual 32, 3) := bq_o182 (a := 0) (b := 32) (bq_3 bwX5_read_0 46 (by decide +kernel)) rfl
theorem dX5_read_49 : decode cX5_read 49 = .ok (.pop, 1) := bq_o87 (bq_of bwX5_read_0 49 (by decide +kernel))
theorem dX5_read_50 : decode cX5_read 50 = .ok (.iconst (-1), 1) := bq_o2 (bq_of bwX5_read_0 50 (by decide +kernel))
theorem dX5_read_51 : decode cX5_read 51 = .ok (.ireturn, 1) := bq_o172 (bq_of bwX5_read_0 51 (by decide +kernel))
theorem dX5_read_52 : decode cX5_read 52 = .ok (.aload_n 0, 1) := bq_o42 (bq_of bwX5_read_0 52 (by decide +kernel))
theorem dX5_read_53 : decode cX5_read 53 = .ok (.invokevirtual 22, 3) := bq_o182 (a := 0) (b := 22) (bq_3 bwX5_read_0 53 (by decide +kernel)) rfl
theorem dX5_read_56 : decode cX5_read 56 = .ok (.iinc 2 1, 3) := bq_o132 (a := 2) (b := 1) (bq_3 bwX5_read_0 56 (by decide +kernel)) rfl (by decide +kernel)
theorem dX5_read_59 : decode cX5_read 59 = .ok (.goto (-48), 3) := bq_o167 (a := 255) (b := 208) (bq_3 bwX5_read_0 59 (by decide +kernel)) (by decide +kernel)
theorem dX5_read_62 : decode cX5_read 62 = .ok (.iconst (-1), 1) := bq_o2 (bq_of bwX5_read_0 62 (by decide +kernel))
theorem dX5_read_63 : decode cX5_read 63 = .ok (.ireturn, 1) := bq_o172 (bq_of bwX5_read_0 63 (by decide +kernel))
theorem dX5_fail_0 : decode cX5_fail 0 = .ok (.aload_n 0, 1) := by decide +kernel
theorem dX5_fail_1 : decode cX5_fail 1 = .ok (.aload_n 0, 1) := by decide +kernel
theorem dX5_fail_2 : decode cX5_fail 2 = .ok (.getfield 36, 3) := by decide +kernel
theorem dX5_fail_5 : decode cX5_fail 5 = .ok (.putfield 39, 3) := by decide +kernel
theorem dX5_fail_8 : decode cX5_fail 8 = .ok (.iconst 0, 1) := by decide +kernel
theorem dX5_fail_9 : decode cX5_fail 9 = .ok (.ireturn, 1) := by decide +kernel
def bwX5_advance_0l : List Nat := [42, 42, 180, 0, 19, 181, 0, 36, 42, 180, 0, 36, 42, 180, 0, 15, 162, 0, 30, 42, 180, 0, 11, 42, 180, 0, 36, 46, 16, 32, 160, 0, 16, 42, 89, 180, 0, 36, 4, 96, 181, 0, 36, 167, 255, 221, 42, 42, 180, 0, 36, 42, 180, 0, 15, 162, 0, 18, 42, 180, 0, 11, 42, 180, 0, 36]
theorem bwX5_advance_0 : ((cX5_advance.data.toList.drop 0).take 66).map UInt8.toNat = bwX5_advance_0l := by decide +kernel
theorem dX5_advance_0 : decode cX5_advance 0 = .ok (.aload_n 0, 1) := bq_o42 (bq_of bwX5_advance_0 0 (by decide +kernel))
theorem dX5_advance_1 : decode cX5_advance 1 = .ok (.aload_n 0, 1) := bq_o42 (bq_of bwX5_advance_0 1 (by decide +kernel))
theorem dX5_advance_2 : decode cX5_advance 2 = .ok (.getfield 19, 3) := bq_o180 (a := 0) (b := 19) (bq_3 bwX5_advance_0 2 (by decide +kernel)) rfl
theorem dX5_advance_5 : decode cX5_advance 5 = .ok (.putfield 36, 3) := bq_o181 (a := 0) (b := 36) (bq_3 bwX5_advance_0 5 (by decide +kernel)) rfl
theorem dX5_advance_8 : decode cX5_advance 8 = .ok (.aload_n 0, 1) := bq_o42 (bq_of bwX5_advance_0 8 (by decide +kernel))
theorem dX5_advance_9 : decode cX5_advance 9 = .ok (.getfield 36, 3) := bq_o180 (a := 0) (b := 36) (bq_3 bwX5_advance_0 9 (by decide +kernel)) rfl
theorem dX5_advance_12 : decode cX5_advance 12 = .ok (.aload_n 0, 1) := bq_o42 (bq_of bwX5_advance_0 12 (by decide +kernel))
theorem dX5_advance_13 : decode cX5_advance 13 = .ok (.getfield 15, 3) := bq_o180 (a := 0) (b := 15) (bq_3 bwX5_advance_0 13 (by decide +kernel)) rfl
theorem dX5_advance_16 : decode cX5_advance 16 = .ok (.if_icmp .ge 30, 3) := bq_o162 (a := 0) (b := 30) (bq_3 bwX5_advance_0 16 (by decide +kernel)) (by decide +kernel)
theorem dX5_advance_19 : decode cX5_advance 19 = .ok (.aload_n 0, 1) := bq_o42 (bq_of bwX5_advance_0 19 (by decide +kernel))
theorem dX5_advance_20 : decode cX5_advance 20 = .ok (.getfield 11, 3) := bq_o180 (a := 0) (b := 11) (bq_3 bwX5_advance_0 20 (by decide +kernel)) rfl
theorem dX5_advance_23 : decode cX5_advance 23 = .ok (.aload_n 0, 1) := bq_o42 (bq_of bwX5_advance_0 23 (by decide +kernel))
theorem dX5_advance_24 : decode cX5_advance 24 = .ok (.getfield 36, 3) := bq_o180 (a := 0) (b := 36) (bq_3 bwX5_advance_0 24 (by decide +kernel)) rfl
theorem dX5_advance_27 : decode cX5_advance 27 = .ok (.iaload, 1) := bq_o46 (bq_of bwX5_advance_0 27 (by decide +kernel))
theorem dX5_advance_28 : decode cX5_advance 28 = .ok (.bipush 32, 2) := bq_o16 (a := 32) (bq_2 bwX5_advance_0 28 (by decide +kernel)) (by decide +kernel)
theorem dX5_advance_30 : decode cX5_advance 30 = .ok (.if_icmp .ne 16, 3) := bq_o160 (a := 0) (b := 16) (bq_3 bwX5_advance_0 30 (by decide +kernel)) (by decide +kernel)
theorem dX5_advance_33 : decode cX5_advance 33 = .ok (.aload_n 0, 1) := bq_o42 (bq_of bwX5_advance_0 33 (by decide +kernel))
theorem dX5_advance_34 : decode cX5_advance 34 = .ok (.dup, 1) := bq_o89 (bq_of bwX5_advance_0 34 (by decide +kernel))
theorem dX5_advance_35 : decode cX5_advance 35 = .ok (.getfield 36, 3) := bq_o180 (a := 0) (b := 36) (bq_3 bwX5_advance_0 35 (by decide +kernel)) rfl
theorem dX5_advance_38 : decode cX5_advance 38 = .ok (.iconst 1, 1) := bq_o4 (bq_of bwX5_advance_0 38 (by decide +kernel))
theorem dX5_advance_39 : decode cX5_advance 39 = .ok (.iadd, 1) := bq_o96 (bq_of bwX5_advance_0 39 (by decide +kernel))
theorem dX5_advance_40 : decode cX5_advance 40 = .ok (.putfield 36, 3) := bq_o181 (a := 0) (b := 36) (bq_3 bwX5_advance_0 40 (by decide +kernel)) rfl
theorem dX5_advance_43 : decode cX5_advance 43 = .ok (.goto (-35), 3) := bq_o167 (a := 255) (b := 221) (bq_3 bwX5_advance_0 43 (by decide +kernel)) (by decide +kernel)
theorem dX5_advance_46 : decode cX5_advance 46 = .ok (.aload_n 0, 1) := bq_o42 (bq_of bwX5_advance_0 46 (by decide +kernel))
theorem dX5_advance_47 : decode cX5_advance 47 = .ok (.aload_n 0, 1) := bq_o42 (bq_of bwX5_advance_0 47 (by decide +kernel))
theorem dX5_advance_48 : decode cX5_advance 48 = .ok (.getfield 36, 3) := bq_o180 (a := 0) (b := 36) (bq_3 bwX5_advance_0 48 (by decide +kernel)) rfl
theorem dX5_advance_51 : decode cX5_advance 51 = .ok (.aload_n 0, 1) := bq_o42 (bq_of bwX5_advance_0 51 (by decide +kernel))
theorem dX5_advance_52 : decode cX5_advance 52 = .ok (.getfield 15, 3) := bq_o180 (a := 0) (b := 15) (bq_3 bwX5_advance_0 52 (by decide +kernel)) rfl
theorem dX5_advance_55 : decode cX5_advance 55 = .ok (.if_icmp .ge 18, 3) := bq_o162 (a := 0) (b := 18) (bq_3 bwX5_advance_0 55 (by decide +kernel)) (by decide +kernel)
theorem dX5_advance_58 : decode cX5_advance 58 = .ok (.aload_n 0, 1) := bq_o42 (bq_of bwX5_advance_0 58 (by decide +kernel))
theorem dX5_advance_59 : decode cX5_advance 59 = .ok (.getfield 11, 3) := bq_o180 (a := 0) (b := 11) (bq_3 bwX5_advance_0 59 (by decide +kernel)) rfl
theorem dX5_advance_62 : decode cX5_advance 62 = .ok (.aload_n 0, 1) := bq_o42 (bq_of bwX5_advance_0 62 (by decide +kernel))
theorem dX5_advance_63 : decode cX5_advance 63 = .ok (.getfield 36, 3) := bq_o180 (a := 0) (b := 36) (bq_3 bwX5_advance_0 63 (by decide +kernel)) rfl
def bwX5_advance_64l : List Nat := [0, 36, 46, 184, 0, 42, 167, 0, 4, 3, 181, 0, 29, 42, 42, 180, 0, 29, 154, 0, 10, 42, 180, 0, 15, 167, 0, 9, 42, 180, 0, 36, 4, 96, 181, 0, 19, 42, 180, 0, 29, 4, 159, 0, 11, 42, 180, 0, 29, 5, 160, 0, 46, 42, 180, 0, 19, 42, 180, 0, 15, 162, 0, 35, 42, 180]
theorem bwX5_advance_64 : ((cX5_advance.data.toList.drop 64).take 66).map UInt8.toNat = bwX5_advance_64l := by decide +kernel
theorem dX5_advance_66 : decode cX5_advance 66 = .ok (.iaload, 1) := bq_o46 (bq_of bwX5_advance_64 2 (by decide +kernel))
theorem dX5_advance_67 : decode cX5_advance 67 = .ok (.invokestatic 42, 3) := bq_o184 (a := 0) (b := 42) (bq_3 bwX5_advance_64 3 (by decide +kernel)) rfl
theorem dX5_advance_70 : decode cX5_advance 70 = .ok (.goto 4, 3) := bq_o167 (a := 0) (b := 4) (bq_3 bwX5_advance_64 6 (by decide +kernel)) (by decide +kernel)
theorem dX5_advance_73 : decode cX5_advance 73 = .ok (.iconst 0, 1) := bq_o3 (bq_of bwX5_advance_64 9 (by decide +kernel))
theorem dX5_advance_74 : decode cX5_advance 74 = .ok (.putfield 29, 3) := bq_o181 (a := 0) (b := 29) (bq_3 bwX5_advance_64 10 (by decide +kernel)) rfl
theorem dX5_advance_77 : decode cX5_advance 77 = .ok (.aload_n 0, 1) := bq_o42 (bq_of bwX5_advance_64 13 (by decide +kernel))
theorem dX5_advance_78 : decode cX5_advance 78 = .ok (.aload_n 0, 1) := bq_o42 (bq_of bwX5_advance_64 14 (by decide +kernel))
theorem dX5_advance_79 : decode cX5_advance 79 = .ok (.getfield 29, 3) := bq_o180 (a := 0) (b := 29) (bq_3 bwX5_advance_64 15 (by decide +kernel)) rfl
theorem dX5_advance_82 : decode cX5_advance 82 = .ok (.ifCond .ne 10, 3) := bq_o154 (a := 0) (b := 10) (bq_3 bwX5_advance_64 18 (by decide +kernel)) (by decide +kernel)
theorem dX5_advance_85 : decode cX5_advance 85 = .ok (.aload_n 0, 1) := bq_o42 (bq_of bwX5_advance_64 21 (by decide +kernel))
theorem dX5_advance_86 : decode cX5_advance 86 = .ok (.getfield 15, 3) := bq_o180 (a := 0) (b := 15) (bq_3 bwX5_advance_64 22 (by decide +kernel)) rfl
theorem dX5_advance_89 : decode cX5_advance 89 = .ok (.goto 9, 3) := bq_o167 (a := 0) (b := 9) (bq_3 bwX5_advance_64 25 (by decide +kernel)) (by decide +kernel)
theorem dX5_advance_92 : decode cX5_advance 92 = .ok (.aload_n 0, 1) := bq_o42 (bq_of bwX5_advance_64 28 (by decide +kernel))
theorem dX5_advance_93 : decode cX5_advance 93 = .ok (.getfield 36, 3) := bq_o180 (a := 0) (b := 36) (bq_3 bwX5_advance_64 29 (by decide +kernel)) rfl
theorem dX5_advance_96 : decode cX5_advance 96 = .ok (.iconst 1, 1) := bq_o4 (bq_of bwX5_advance_64 32 (by decide +kernel))
theorem dX5_advance_97 : decode cX5_advance 97 = .ok (.iadd, 1) := bq_o96 (bq_of bwX5_advance_64 33 (by decide +kernel))
theorem dX5_advance_98 : decode cX5_advance 98 = .ok (.putfield 19, 3) := bq_o181 (a := 0) (b := 19) (bq_3 bwX5_advance_64 34 (by decide +kernel)) rfl
theorem dX5_advance_101 : decode cX5_advance 101 = .ok (.aload_n 0, 1) := bq_o42 (bq_of bwX5_advance_64 37 (by decide +kernel))
theorem dX5_advance_102 : decode cX5_advance 102 = .ok (.getfield 29, 3) := bq_o180 (a := 0) (b := 29) (bq_3 bwX5_advance_64 38 (by decide +kernel)) rfl
theorem dX5_advance_105 : decode cX5_advance 105 = .ok (.iconst 1, 1) := bq_o4 (bq_of bwX5_advance_64 41 (by decide +kernel))
theorem dX5_advance_106 : decode cX5_advance 106 = .ok (.if_icmp .eq 11, 3) := bq_o159 (a := 0) (b := 11) (bq_3 bwX5_advance_64 42 (by decide +kernel)) (by decide +kernel)
theorem dX5_advance_109 : decode cX5_advance 109 = .ok (.aload_n 0, 1) := bq_o42 (bq_of bwX5_advance_64 45 (by decide +kernel))
theorem dX5_advance_110 : decode cX5_advance 110 = .ok (.getfield 29, 3) := bq_o180 (a := 0) (b := 29) (bq_3 bwX5_advance_64 46 (by decide +kernel)) rfl
theorem dX5_advance_113 : decode cX5_advance 113 = .ok (.iconst 2, 1) := bq_o5 (bq_of bwX5_advance_64 49 (by decide +kernel))
theorem dX5_advance_114 : decode cX5_advance 114 = .ok (.if_icmp .ne 46, 3) := bq_o160 (a := 0) (b := 46) (bq_3 bwX5_advance_64 50 (by decide +kernel)) (by decide +kernel)
theorem dX5_advance_117 : decode cX5_advance 117 = .ok (.aload_n 0, 1) := bq_o42 (bq_of bwX5_advance_64 53 (by decide +kernel))
theorem dX5_advance_118 : decode cX5_advance 118 = .ok (.getfield 19, 3) := bq_o180 (a := 0) (b := 19) (bq_3 bwX5_advance_64 54 (by decide +kernel)) rfl
theorem dX5_advance_121 : decode cX5_advance 121 = .ok (.aload_n 0, 1) := bq_o42 (bq_of bwX5_advance_64 57 (by decide +kernel))
theorem dX5_advance_122 : decode cX5_advance 122 = .ok (.getfield 15, 3) := bq_o180 (a := 0) (b := 15) (bq_3 bwX5_advance_64 58 (by decide +kernel)) rfl
theorem dX5_advance_125 : decode cX5_advance 125 = .ok (.if_icmp .ge 35, 3) := bq_o162 (a := 0) (b := 35) (bq_3 bwX5_advance_64 61 (by decide +kernel)) (by decide +kernel)
def bwX5_advance_128l : List Nat := [42, 180, 0, 11, 42, 180, 0, 19, 46, 184, 0, 42, 42, 180, 0, 29, 160, 0, 16, 42, 89, 180, 0, 19, 4, 96, 181, 0, 19, 167, 255, 200, 177]
theorem bwX5_advance_128 : ((cX5_advance.data.toList.drop 128).take 33).map UInt8.toNat = bwX5_advance_128l := by decide +kernel
theorem dX5_advance_128 : decode cX5_advance 128 = .ok (.aload_n 0, 1) := bq_o42 (bq_of bwX5_advance_128 0 (by decide +kernel))
theorem dX5_advance_129 : decode cX5_advance 129 = .ok (.getfield 11, 3) := bq_o180 (a := 0) (b := 11) (bq_3 bwX5_advance_128 1 (by decide +kernel)) rfl
theorem dX5_advance_132 : decode cX5_advance 132 = .ok (.aload_n 0, 1) := bq_o42 (bq_of bwX5_advance_128 4 (by decide +kernel))
theorem dX5_advance_133 : decode cX5_advance 133 = .ok (.getfield 19, 3) := bq_o180 (a := 0) (b := 19) (bq_3 bwX5_advance_128 5 (by decide +kernel)) rfl
theorem dX5_advance_136 : decode cX5_advance 136 = .ok (.iaload, 1) := bq_o46 (bq_of bwX5_advance_128 8 (by decide +kernel))
theorem dX5_advance_137 : decode cX5_advance 137 = .ok (.invokestatic 42, 3) := bq_o184 (a := 0) (b := 42) (bq_3 bwX5_advance_128 9 (by decide +kernel)) rfl
theorem dX5_advance_140 : decode cX5_advance 140 = .ok (.aload_n 0, 1) := bq_o42 (bq_of bwX5_advance_128 12 (by decide +kernel))
theorem dX5_advance_141 : decode cX5_advance 141 = .ok (.getfield 29, 3) := bq_o180 (a := 0) (b := 29) (bq_3 bwX5_advance_128 13 (by decide +kernel)) rfl
theorem dX5_advance_144 : decode cX5_advance 144 = .ok (.if_icmp .ne 16, 3) := bq_o160 (a := 0) (b := 16) (bq_3 bwX5_advance_128 16 (by decide +kernel)) (by decide +kernel)
theorem dX5_advance_147 : decode cX5_advance 147 = .ok (.aload_n 0, 1) := bq_o42 (bq_of bwX5_advance_128 19 (by decide +kernel))
theorem dX5_advance_148 : decode cX5_advance 148 = .ok (.dup, 1) := bq_o89 (bq_of bwX5_advance_128 20 (by decide +kernel))
theorem dX5_advance_149 : decode cX5_advance 149 = .ok (.getfield 19, 3) := bq_o180 (a := 0) (b := 19) (bq_3 bwX5_advance_128 21 (by decide +kernel)) rfl
theorem dX5_advance_152 : decode cX5_advance 152 = .ok (.iconst 1, 1) := bq_o4 (bq_of bwX5_advance_128 24 (by decide +kernel))
theorem dX5_advance_153 : decode cX5_advance 153 = .ok (.iadd, 1) := bq_o96 (bq_of bwX5_advance_128 25 (by decide +kernel))
theorem dX5_advance_154 : decode cX5_advance 154 = .ok (.putfield 19, 3) := bq_o181 (a := 0) (b := 19) (bq_3 bwX5_advance_128 26 (by decide +kernel)) rfl
theorem dX5_advance_157 : decode cX5_advance 157 = .ok (.goto (-56), 3) := bq_o167 (a := 255) (b := 200) (bq_3 bwX5_advance_128 29 (by decide +kernel)) (by decide +kernel)
theorem dX5_advance_160 : decode cX5_advance 160 = .ok (.return_, 1) := bq_o177 (bq_of bwX5_advance_128 32 (by decide +kernel))
theorem dX5_tokenOf_0 : decode cX5_tokenOf 0 = .ok (.iload_n 0, 1) := by decide +kernel
theorem dX5_tokenOf_1 : decode cX5_tokenOf 1 = .ok (.bipush 97, 2) := by decide +kernel
theorem dX5_tokenOf_3 : decode cX5_tokenOf 3 = .ok (.if_icmp .lt 11, 3) := by decide +kernel
theorem dX5_tokenOf_6 : decode cX5_tokenOf 6 = .ok (.iload_n 0, 1) := by decide +kernel
theorem dX5_tokenOf_7 : decode cX5_tokenOf 7 = .ok (.bipush 122, 2) := by decide +kernel
theorem dX5_tokenOf_9 : decode cX5_tokenOf 9 = .ok (.if_icmp .gt 5, 3) := by decide +kernel
theorem dX5_tokenOf_12 : decode cX5_tokenOf 12 = .ok (.iconst 1, 1) := by decide +kernel
theorem dX5_tokenOf_13 : decode cX5_tokenOf 13 = .ok (.ireturn, 1) := by decide +kernel
theorem dX5_tokenOf_14 : decode cX5_tokenOf 14 = .ok (.iload_n 0, 1) := by decide +kernel
theorem dX5_tokenOf_15 : decode cX5_tokenOf 15 = .ok (.bipush 48, 2) := by decide +kernel
theorem dX5_tokenOf_17 : decode cX5_tokenOf 17 = .ok (.if_icmp .lt 11, 3) := by decide +kernel
theorem dX5_tokenOf_20 : decode cX5_tokenOf 20 = .ok (.iload_n 0, 1) := by decide +kernel
theorem dX5_tokenOf_21 : decode cX5_tokenOf 21 = .ok (.bipush 57, 2) := by decide +kernel
theorem dX5_tokenOf_23 : decode cX5_tokenOf 23 = .ok (.if_icmp .gt 5, 3) := by decide +kernel
theorem dX5_tokenOf_26 : decode cX5_tokenOf 26 = .ok (.iconst 2, 1) := by decide +kernel
theorem dX5_tokenOf_27 : decode cX5_tokenOf 27 = .ok (.ireturn, 1) := by decide +kernel
theorem dX5_tokenOf_28 : decode cX5_tokenOf 28 = .ok (.iload_n 0, 1) := by decide +kernel
theorem dX5_tokenOf_29 : decode cX5_tokenOf 29 = .ok (.bipush 59, 2) := by decide +kernel
theorem dX5_tokenOf_31 : decode cX5_tokenOf 31 = .ok (.if_icmp .ne 7, 3) := by decide +kernel
theorem dX5_tokenOf_34 : decode cX5_tokenOf 34 = .ok (.iconst 3, 1) := by decide +kernel
theorem dX5_tokenOf_35 : decode cX5_tokenOf 35 = .ok (.goto 4, 3) := by decide +kernel
theorem dX5_tokenOf_38 : decode cX5_tokenOf 38 = .ok (.iconst 4, 1) := by decide +kernel
theorem dX5_tokenOf_39 : decode cX5_tokenOf 39 = .ok (.ireturn, 1) := by decide +kernel
def bwX5_isWord_0l : List Nat := [42, 180, 0, 29, 4, 160, 0, 19, 42, 180, 0, 19, 42, 180, 0, 36, 100, 43, 182, 0, 46, 159, 0, 5, 3, 172, 3, 61, 28, 43, 182, 0, 46, 162, 0, 43, 42, 180, 0, 36, 28, 96, 42, 180, 0, 15, 162, 0, 30, 42, 180, 0, 11, 42, 180, 0, 36, 28, 96, 46, 43, 28, 182, 0, 52, 159]
theorem bwX5_isWord_0 : ((cX5_isWord.data.toList.drop 0).take 66).map UInt8.toNat = bwX5_isWord_0l := by decide +kernel
theorem dX5_isWord_0 : decode cX5_isWord 0 = .ok (.aload_n 0, 1) := bq_o42 (bq_of bwX5_isWord_0 0 (by decide +kernel))
theorem dX5_isWord_1 : decode cX5_isWord 1 = .ok (.getfield 29, 3) := bq_o180 (a := 0) (b := 29) (bq_3 bwX5_isWord_0 1 (by decide +kernel)) rfl
theorem dX5_isWord_4 : decode cX5_isWord 4 = .ok (.iconst 1, 1) := bq_o4 (bq_of bwX5_isWord_0 4 (by decide +kernel))
theorem dX5_isWord_5 : decode cX5_isWord 5 = .ok (.if_icmp .ne 19, 3) := bq_o160 (a := 0) (b := 19) (bq_3 bwX5_isWord_0 5 (by decide +kernel)) (by decide +kernel)
theorem dX5_isWord_8 : decode cX5_isWord 8 = .ok (.aload_n 0, 1) := bq_o42 (bq_of bwX5_isWord_0 8 (by decide +kernel))
theorem dX5_isWord_9 : decode cX5_isWord 9 = .ok (.getfield 19, 3) := bq_o180 (a := 0) (b := 19) (bq_3 bwX5_isWord_0 9 (by decide +kernel)) rfl
theorem dX5_isWord_12 : decode cX5_isWord 12 = .ok (.aload_n 0, 1) := bq_o42 (bq_of bwX5_isWord_0 12 (by decide +kernel))
theorem dX5_isWord_13 : decode cX5_isWord 13 = .ok (.getfield 36, 3) := bq_o180 (a := 0) (b := 36) (bq_3 bwX5_isWord_0 13 (by decide +kernel)) rfl
theorem dX5_isWord_16 : decode cX5_isWord 16 = .ok (.isub, 1) := bq_o100 (bq_of bwX5_isWord_0 16 (by decide +kernel))
theorem dX5_isWord_17 : decode cX5_isWord 17 = .ok (.aload_n 1, 1) := bq_o43 (bq_of bwX5_isWord_0 17 (by decide +kernel))
theorem dX5_isWord_18 : decode cX5_isWord 18 = .ok (.invokevirtual 46, 3) := bq_o182 (a := 0) (b := 46) (bq_3 bwX5_isWord_0 18 (by decide +kernel)) rfl
theorem dX5_isWord_21 : decode cX5_isWord 21 = .ok (.if_icmp .eq 5, 3) := bq_o159 (a := 0) (b := 5) (bq_3 bwX5_isWord_0 21 (by decide +kernel)) (by decide +kernel)
theorem dX5_isWord_24 : decode cX5_isWord 24 = .ok (.iconst 0, 1) := bq_o3 (bq_of bwX5_isWord_0 24 (by decide +kernel))
theorem dX5_isWord_25 : decode cX5_isWord 25 = .ok (.ireturn, 1) := bq_o172 (bq_of bwX5_isWord_0 25 (by decide +kernel))
theorem dX5_isWord_26 : decode cX5_isWord 26 = .ok (.iconst 0, 1) := bq_o3 (bq_of bwX5_isWord_0 26 (by decide +kernel))
theorem dX5_isWord_27 : decode cX5_isWord 27 = .ok (.istore_n 2, 1) := bq_o61 (bq_of bwX5_isWord_0 27 (by decide +kernel))
theorem dX5_isWord_28 : decode cX5_isWord 28 = .ok (.iload_n 2, 1) := bq_o28 (bq_of bwX5_isWord_0 28 (by decide +kernel))
theorem dX5_isWord_29 : decode cX5_isWord 29 = .ok (.aload_n 1, 1) := bq_o43 (bq_of bwX5_isWord_0 29 (by decide +kernel))
theorem dX5_isWord_30 : decode cX5_isWord 30 = .ok (.invokevirtual 46, 3) := bq_o182 (a := 0) (b := 46) (bq_3 bwX5_isWord_0 30 (by decide +kernel)) rfl
theorem dX5_isWord_33 : decode cX5_isWord 33 = .ok (.if_icmp .ge 43, 3) := bq_o162 (a := 0) (b := 43) (bq_3 bwX5_isWord_0 33 (by decide +kernel)) (by decide +kernel)
theorem dX5_isWord_36 : decode cX5_isWord 36 = .ok (.aload_n 0, 1) := bq_o42 (bq_of bwX5_isWord_0 36 (by decide +kernel))
theorem dX5_isWord_37 : decode cX5_isWord 37 = .ok (.getfield 36, 3) := bq_o180 (a := 0) (b := 36) (bq_3 bwX5_isWord_0 37 (by decide +kernel)) rfl
theorem dX5_isWord_40 : decode cX5_isWord 40 = .ok (.iload_n 2, 1) := bq_o28 (bq_of bwX5_isWord_0 40 (by decide +kernel))
theorem dX5_isWord_41 : decode cX5_isWord 41 = .ok (.iadd, 1) := bq_o96 (bq_of bwX5_isWord_0 41 (by decide +kernel))
theorem dX5_isWord_42 : decode cX5_isWord 42 = .ok (.aload_n 0, 1) := bq_o42 (bq_of bwX5_isWord_0 42 (by decide +kernel))
theorem dX5_isWord_43 : decode cX5_isWord 43 = .ok (.getfield 15, 3) := bq_o180 (a := 0) (b := 15) (bq_3 bwX5_isWord_0 43 (by decide +kernel)) rfl
theorem dX5_isWord_46 : decode cX5_isWord 46 = .ok (.if_icmp .ge 30, 3) := bq_o162 (a := 0) (b := 30) (bq_3 bwX5_isWord_0 46 (by decide +kernel)) (by decide +kernel)
theorem dX5_isWord_49 : decode cX5_isWord 49 = .ok (.aload_n 0, 1) := bq_o42 (bq_of bwX5_isWord_0 49 (by decide +kernel))
theorem dX5_isWord_50 : decode cX5_isWord 50 = .ok (.getfield 11, 3) := bq_o180 (a := 0) (b := 11) (bq_3 bwX5_isWord_0 50 (by decide +kernel)) rfl
theorem dX5_isWord_53 : decode cX5_isWord 53 = .ok (.aload_n 0, 1) := bq_o42 (bq_of bwX5_isWord_0 53 (by decide +kernel))
theorem dX5_isWord_54 : decode cX5_isWord 54 = .ok (.getfield 36, 3) := bq_o180 (a := 0) (b := 36) (bq_3 bwX5_isWord_0 54 (by decide +kernel)) rfl
theorem dX5_isWord_57 : decode cX5_isWord 57 = .ok (.iload_n 2, 1) := bq_o28 (bq_of bwX5_isWord_0 57 (by decide +kernel))
theorem dX5_isWord_58 : decode cX5_isWord 58 = .ok (.iadd, 1) := bq_o96 (bq_of bwX5_isWord_0 58 (by decide +kernel))
theorem dX5_isWord_59 : decode cX5_isWord 59 = .ok (.iaload, 1) := bq_o46 (bq_of bwX5_isWord_0 59 (by decide +kernel))
theorem dX5_isWord_60 : decode cX5_isWord 60 = .ok (.aload_n 1, 1) := bq_o43 (bq_of bwX5_isWord_0 60 (by decide +kernel))
theorem dX5_isWord_61 : decode cX5_isWord 61 = .ok (.iload_n 2, 1) := bq_o28 (bq_of bwX5_isWord_0 61 (by decide +kernel))
theorem dX5_isWord_62 : decode cX5_isWord 62 = .ok (.invokevirtual 52, 3) := bq_o182 (a := 0) (b := 52) (bq_3 bwX5_isWord_0 62 (by decide +kernel)) rfl
def bwX5_isWord_64l : List Nat := [52, 159, 0, 5, 3, 172, 132, 2, 1, 167, 255, 211, 4, 172]
theorem bwX5_isWord_64 : ((cX5_isWord.data.toList.drop 64).take 14).map UInt8.toNat = bwX5_isWord_64l := by decide +kernel
theorem dX5_isWord_65 : decode cX5_isWord 65 = .ok (.if_icmp .eq 5, 3) := bq_o159 (a := 0) (b := 5) (bq_3 bwX5_isWord_64 1 (by decide +kernel)) (by decide +kernel)
theorem dX5_isWord_68 : decode cX5_isWord 68 = .ok (.iconst 0, 1) := bq_o3 (bq_of bwX5_isWord_64 4 (by decide +kernel))
theorem dX5_isWord_69 : decode cX5_isWord 69 = .ok (.ireturn, 1) := bq_o172 (bq_of bwX5_isWord_64 5 (by decide +kernel))
theorem dX5_isWord_70 : decode cX5_isWord 70 = .ok (.iinc 2 1, 3) := bq_o132 (a := 2) (b := 1) (bq_3 bwX5_isWord_64 6 (by decide +kernel)) rfl (by decide +kernel)
theorem dX5_isWord_73 : decode cX5_isWord 73 = .ok (.goto (-45), 3) := bq_o167 (a := 255) (b := 211) (bq_3 bwX5_isWord_64 9 (by decide +kernel)) (by decide +kernel)
theorem dX5_isWord_76 : decode cX5_isWord 76 = .ok (.iconst 1, 1) := bq_o4 (bq_of bwX5_isWord_64 12 (by decide +kernel))
theorem dX5_isWord_77 : decode cX5_isWord 77 = .ok (.ireturn, 1) := bq_o172 (bq_of bwX5_isWord_64 13 (by decide +kernel))
def bwX5_readNumber_0l : List Nat := [42, 180, 0, 29, 5, 160, 0, 27, 42, 180, 0, 19, 42, 180, 0, 36, 100, 5, 163, 0, 14, 42, 180, 0, 19, 42, 180, 0, 15, 164, 0, 10, 42, 182, 0, 32, 87, 2, 172, 3, 54, 4, 42, 180, 0, 36, 54, 5, 21, 5, 42, 180, 0, 19, 162, 0, 27, 16, 10, 21, 4, 104, 42, 180, 0, 11]
theorem bwX5_readNumber_0 : ((cX5_readNumber.data.toList.drop 0).take 66).map UInt8.toNat = bwX5_readNumber_0l := by decide +kernel
theorem dX5_readNumber_0 : decode cX5_readNumber 0 = .ok (.aload_n 0, 1) := bq_o42 (bq_of bwX5_readNumber_0 0 (by decide +kernel))
theorem dX5_readNumber_1 : decode cX5_readNumber 1 = .ok (.getfield 29, 3) := bq_o180 (a := 0) (b := 29) (bq_3 bwX5_readNumber_0 1 (by decide +kernel)) rfl
theorem dX5_readNumber_4 : decode cX5_readNumber 4 = .ok (.iconst 2, 1) := bq_o5 (bq_of bwX5_readNumber_0 4 (by decide +kernel))
theorem dX5_readNumber_5 : decode cX5_readNumber 5 = .ok (.if_icmp .ne 27, 3) := bq_o160 (a := 0) (b := 27) (bq_3 bwX5_readNumber_0 5 (by decide +kernel)) (by decide +kernel)
theorem dX5_readNumber_8 : decode cX5_readNumber 8 = .ok (.aload_n 0, 1) := bq_o42 (bq_of bwX5_readNumber_0 8 (by decide +kernel))
theorem dX5_readNumber_9 : decode cX5_readNumber 9 = .ok (.getfield 19, 3) := bq_o180 (a := 0) (b := 19) (bq_3 bwX5_readNumber_0 9 (by decide +kernel)) rfl
theorem dX5_readNumber_12 : decode cX5_readNumber 12 = .ok (.aload_n 0, 1) := bq_o42 (bq_of bwX5_readNumber_0 12 (by decide +kernel))
theorem dX5_readNumber_13 : decode cX5_readNumber 13 = .ok (.getfield 36, 3) := bq_o180 (a := 0) (b := 36) (bq_3 bwX5_readNumber_0 13 (by decide +kernel)) rfl
theorem dX5_readNumber_16 : decode cX5_readNumber 16 = .ok (.isub, 1) := bq_o100 (bq_of bwX5_readNumber_0 16 (by decide +kernel))
theorem dX5_readNumber_17 : decode cX5_readNumber 17 = .ok (.iconst 2, 1) := bq_o5 (bq_of bwX5_readNumber_0 17 (by decide +kernel))
theorem dX5_readNumber_18 : decode cX5_readNumber 18 = .ok (.if_icmp .gt 14, 3) := bq_o163 (a := 0) (b := 14) (bq_3 bwX5_readNumber_0 18 (by decide +kernel)) (by decide +kernel)
theorem dX5_readNumber_21 : decode cX5_readNumber 21 = .ok (.aload_n 0, 1) := bq_o42 (bq_of bwX5_readNumber_0 21 (by decide +kernel))
theorem dX5_readNumber_22 : decode cX5_readNumber 22 = .ok (.getfield 19, 3) := bq_o180 (a := 0) (b := 19) (bq_3 bwX5_readNumber_0 22 (by decide +kernel)) rfl
theorem dX5_readNumber_25 : decode cX5_readNumber 25 = .ok (.aload_n 0, 1) := bq_o42 (bq_of bwX5_readNumber_0 25 (by decide +kernel))
theorem dX5_readNumber_26 : decode cX5_readNumber 26 = .ok (.getfield 15, 3) := bq_o180 (a := 0) (b := 15) (bq_3 bwX5_readNumber_0 26 (by decide +kernel)) rfl
theorem dX5_readNumber_29 : decode cX5_readNumber 29 = .ok (.if_icmp .le 10, 3) := bq_o164 (a := 0) (b := 10) (bq_3 bwX5_readNumber_0 29 (by decide +kernel)) (by decide +kernel)
theorem dX5_readNumber_32 : decode cX5_readNumber 32 = .ok (.aload_n 0, 1) := bq_o42 (bq_of bwX5_readNumber_0 32 (by decide +kernel))
theorem dX5_readNumber_33 : decode cX5_readNumber 33 = .ok (.invokevirtual 32, 3) := bq_o182 (a := 0) (b := 32) (bq_3 bwX5_readNumber_0 33 (by decide +kernel)) rfl
theorem dX5_readNumber_36 : decode cX5_readNumber 36 = .ok (.pop, 1) := bq_o87 (bq_of bwX5_readNumber_0 36 (by decide +kernel))
theorem dX5_readNumber_37 : decode cX5_readNumber 37 = .ok (.iconst (-1), 1) := bq_o2 (bq_of bwX5_readNumber_0 37 (by decide +kernel))
theorem dX5_readNumber_38 : decode cX5_readNumber 38 = .ok (.ireturn, 1) := bq_o172 (bq_of bwX5_readNumber_0 38 (by decide +kernel))
theorem dX5_readNumber_39 : decode cX5_readNumber 39 = .ok (.iconst 0, 1) := bq_o3 (bq_of bwX5_readNumber_0 39 (by decide +kernel))
theorem dX5_readNumber_40 : decode cX5_readNumber 40 = .ok (.istore 4, 2) := bq_o54 (a := 4) (bq_2 bwX5_readNumber_0 40 (by decide +kernel)) rfl
theorem dX5_readNumber_42 : decode cX5_readNumber 42 = .ok (.aload_n 0, 1) := bq_o42 (bq_of bwX5_readNumber_0 42 (by decide +kernel))
theorem dX5_readNumber_43 : decode cX5_readNumber 43 = .ok (.getfield 36, 3) := bq_o180 (a := 0) (b := 36) (bq_3 bwX5_readNumber_0 43 (by decide +kernel)) rfl
theorem dX5_readNumber_46 : decode cX5_readNumber 46 = .ok (.istore 5, 2) := bq_o54 (a := 5) (bq_2 bwX5_readNumber_0 46 (by decide +kernel)) rfl
theorem dX5_readNumber_48 : decode cX5_readNumber 48 = .ok (.iload 5, 2) := bq_o21 (a := 5) (bq_2 bwX5_readNumber_0 48 (by decide +kernel)) rfl
theorem dX5_readNumber_50 : decode cX5_readNumber 50 = .ok (.aload_n 0, 1) := bq_o42 (bq_of bwX5_readNumber_0 50 (by decide +kernel))
theorem dX5_readNumber_51 : decode cX5_readNumber 51 = .ok (.getfield 19, 3) := bq_o180 (a := 0) (b := 19) (bq_3 bwX5_readNumber_0 51 (by decide +kernel)) rfl
theorem dX5_readNumber_54 : decode cX5_readNumber 54 = .ok (.if_icmp .ge 27, 3) := bq_o162 (a := 0) (b := 27) (bq_3 bwX5_readNumber_0 54 (by decide +kernel)) (by decide +kernel)
theorem dX5_readNumber_57 : decode cX5_readNumber 57 = .ok (.bipush 10, 2) := bq_o16 (a := 10) (bq_2 bwX5_readNumber_0 57 (by decide +kernel)) (by decide +kernel)
theorem dX5_readNumber_59 : decode cX5_readNumber 59 = .ok (.iload 4, 2) := bq_o21 (a := 4) (bq_2 bwX5_readNumber_0 59 (by decide +kernel)) rfl
theorem dX5_readNumber_61 : decode cX5_readNumber 61 = .ok (.imul, 1) := bq_o104 (bq_of bwX5_readNumber_0 61 (by decide +kernel))
theorem dX5_readNumber_62 : decode cX5_readNumber 62 = .ok (.aload_n 0, 1) := bq_o42 (bq_of bwX5_readNumber_0 62 (by decide +kernel))
theorem dX5_readNumber_63 : decode cX5_readNumber 63 = .ok (.getfield 11, 3) := bq_o180 (a := 0) (b := 11) (bq_3 bwX5_readNumber_0 63 (by decide +kernel)) rfl
def bwX5_readNumber_64l : List Nat := [0, 11, 21, 5, 46, 96, 16, 48, 100, 54, 4, 132, 5, 1, 167, 255, 226, 21, 4, 27, 161, 0, 22, 21, 4, 28, 163, 0, 16, 29, 153, 0, 19, 29, 21, 4, 122, 4, 126, 153, 0, 10, 42, 182, 0, 32, 87, 2, 172, 42, 182, 0, 22, 21, 4, 172]
theorem bwX5_readNumber_64 : ((cX5_readNumber.data.toList.drop 64).take 56).map UInt8.toNat = bwX5_readNumber_64l := by decide +kernel
theorem dX5_readNumber_66 : decode cX5_readNumber 66 = .ok (.iload 5, 2) := bq_o21 (a := 5) (bq_2 bwX5_readNumber_64 2 (by decide +kernel)) rfl
theorem dX5_readNumber_68 : decode cX5_readNumber 68 = .ok (.iaload, 1) := bq_o46 (bq_of bwX5_readNumber_64 4 (by decide +kernel))
theorem dX5_readNumber_69 : decode cX5_readNumber 69 = .ok (.iadd, 1) := bq_o96 (bq_of bwX5_readNumber_64 5 (by decide +kernel))
theorem dX5_readNumber_70 : decode cX5_readNumber 70 = .ok (.bipush 48, 2) := bq_o16 (a := 48) (bq_2 bwX5_readNumber_64 6 (by decide +kernel)) (by decide +kernel)
theorem dX5_readNumber_72 : decode cX5_readNumber 72 = .ok (.isub, 1) := bq_o100 (bq_of bwX5_readNumber_64 8 (by decide +kernel))
theorem dX5_readNumber_73 : decode cX5_readNumber 73 = .ok (.istore 4, 2) := bq_o54 (a := 4) (bq_2 bwX5_readNumber_64 9 (by decide +kernel)) rfl
theorem dX5_readNumber_75 : decode cX5_readNumber 75 = .ok (.iinc 5 1, 3) := bq_o132 (a := 5) (b := 1) (bq_3 bwX5_readNumber_64 11 (by decide +kernel)) rfl (by decide +kernel)
theorem dX5_readNumber_78 : decode cX5_readNumber 78 = .ok (.goto (-30), 3) := bq_o167 (a := 255) (b := 226) (bq_3 bwX5_readNumber_64 14 (by decide +kernel)) (by decide +kernel)
theorem dX5_readNumber_81 : decode cX5_readNumber 81 = .ok (.iload 4, 2) := bq_o21 (a := 4) (bq_2 bwX5_readNumber_64 17 (by decide +kernel)) rfl
theorem dX5_readNumber_83 : decode cX5_readNumber 83 = .ok (.iload_n 1, 1) := bq_o27 (bq_of bwX5_readNumber_64 19 (by decide +kernel))
theorem dX5_readNumber_84 : decode cX5_readNumber 84 = .ok (.if_icmp .lt 22, 3) := bq_o161 (a := 0) (b := 22) (bq_3 bwX5_readNumber_64 20 (by decide +kernel)) (by decide +kernel)
theorem dX5_readNumber_87 : decode cX5_readNumber 87 = .ok (.iload 4, 2) := bq_o21 (a := 4) (bq_2 bwX5_readNumber_64 23 (by decide +kernel)) rfl
theorem dX5_readNumber_89 : decode cX5_readNumber 89 = .ok (.iload_n 2, 1) := bq_o28 (bq_of bwX5_readNumber_64 25 (by decide +kernel))
theorem dX5_readNumber_90 : decode cX5_readNumber 90 = .ok (.if_icmp .gt 16, 3) := bq_o163 (a := 0) (b := 16) (bq_3 bwX5_readNumber_64 26 (by decide +kernel)) (by decide +kernel)
theorem dX5_readNumber_93 : decode cX5_readNumber 93 = .ok (.iload_n 3, 1) := bq_o29 (bq_of bwX5_readNumber_64 29 (by decide +kernel))
theorem dX5_readNumber_94 : decode cX5_readNumber 94 = .ok (.ifCond .eq 19, 3) := bq_o153 (a := 0) (b := 19) (bq_3 bwX5_readNumber_64 30 (by decide +kernel)) (by decide +kernel)
theorem dX5_readNumber_97 : decode cX5_readNumber 97 = .ok (.iload_n 3, 1) := bq_o29 (bq_of bwX5_readNumber_64 33 (by decide +kernel))
theorem dX5_readNumber_98 : decode cX5_readNumber 98 = .ok (.iload 4, 2) := bq_o21 (a := 4) (bq_2 bwX5_readNumber_64 34 (by decide +kernel)) rfl
theorem dX5_readNumber_100 : decode cX5_readNumber 100 = .ok (.ishr, 1) := bq_o122 (bq_of bwX5_readNumber_64 36 (by decide +kernel))
theorem dX5_readNumber_101 : decode cX5_readNumber 101 = .ok (.iconst 1, 1) := bq_o4 (bq_of bwX5_readNumber_64 37 (by decide +kernel))
theorem dX5_readNumber_102 : decode cX5_readNumber 102 = .ok (.iand, 1) := bq_o126 (bq_of bwX5_readNumber_64 38 (by decide +kernel))
theorem dX5_readNumber_103 : decode cX5_readNumber 103 = .ok (.ifCond .eq 10, 3) := bq_o153 (a := 0) (b := 10) (bq_3 bwX5_readNumber_64 39 (by decide +kernel)) (by decide +kernel)
theorem dX5_readNumber_106 : decode cX5_readNumber 106 = .ok (.aload_n 0, 1) := bq_o42 (bq_of bwX5_readNumber_64 42 (by decide +kernel))
theorem dX5_readNumber_107 : decode cX5_readNumber 107 = .ok (.invokevirtual 32, 3) := bq_o182 (a := 0) (b := 32) (bq_3 bwX5_readNumber_64 43 (by decide +kernel)) rfl
theorem dX5_readNumber_110 : decode cX5_readNumber 110 = .ok (.pop, 1) := bq_o87 (bq_of bwX5_readNumber_64 46 (by decide +kernel))
theorem dX5_readNumber_111 : decode cX5_readNumber 111 = .ok (.iconst (-1), 1) := bq_o2 (bq_of bwX5_readNumber_64 47 (by decide +kernel))
theorem dX5_readNumber_112 : decode cX5_readNumber 112 = .ok (.ireturn, 1) := bq_o172 (bq_of bwX5_readNumber_64 48 (by decide +kernel))
theorem dX5_readNumber_113 : decode cX5_readNumber 113 = .ok (.aload_n 0, 1) := bq_o42 (bq_of bwX5_readNumber_64 49 (by decide +kernel))
theorem dX5_readNumber_114 : decode cX5_readNumber 114 = .ok (.invokevirtual 22, 3) := bq_o182 (a := 0) (b := 22) (bq_3 bwX5_readNumber_64 50 (by decide +kernel)) rfl
theorem dX5_readNumber_117 : decode cX5_readNumber 117 = .ok (.iload 4, 2) := bq_o21 (a := 4) (bq_2 bwX5_readNumber_64 53 (by decide +kernel)) rfl
theorem dX5_readNumber_119 : decode cX5_readNumber 119 = .ok (.ireturn, 1) := bq_o172 (bq_of bwX5_readNumber_64 55 (by decide +kernel))
def bwX5_readStatement_0l : List Nat := [42, 18, 56, 182, 0, 58, 153, 0, 9, 42, 43, 182, 0, 62, 172, 42, 18, 65, 182, 0, 58, 153, 0, 10, 42, 43, 4, 182, 0, 67, 172, 42, 18, 71, 182, 0, 58, 153, 0, 10, 42, 43, 3, 182, 0, 67, 172, 42, 18, 73, 182, 0, 58, 153, 0, 9, 42, 43, 182, 0, 75, 172, 42, 18, 78, 182]
theorem bwX5_readStatement_0 : ((cX5_readStatement.data.toList.drop 0).take 66).map UInt8.toNat = bwX5_readStatement_0l := by decide +kernel
theorem dX5_readStatement_0 : decode cX5_readStatement 0 = .ok (.aload_n 0, 1) := bq_o42 (bq_of bwX5_readStatement_0 0 (by decide +kernel))
theorem dX5_readStatement_1 : decode cX5_readStatement 1 = .ok (.ldc 56, 2) := bq_o18 (a := 56) (bq_2 bwX5_readStatement_0 1 (by decide +kernel)) rfl
theorem dX5_readStatement_3 : decode cX5_readStatement 3 = .ok (.invokevirtual 58, 3) := bq_o182 (a := 0) (b := 58) (bq_3 bwX5_readStatement_0 3 (by decide +kernel)) rfl
theorem dX5_readStatement_6 : decode cX5_readStatement 6 = .ok (.ifCond .eq 9, 3) := bq_o153 (a := 0) (b := 9) (bq_3 bwX5_readStatement_0 6 (by decide +kernel)) (by decide +kernel)
theorem dX5_readStatement_9 : decode cX5_readStatement 9 = .ok (.aload_n 0, 1) := bq_o42 (bq_of bwX5_readStatement_0 9 (by decide +kernel))
theorem dX5_readStatement_10 : decode cX5_readStatement 10 = .ok (.aload_n 1, 1) := bq_o43 (bq_of bwX5_readStatement_0 10 (by decide +kernel))
theorem dX5_readStatement_11 : decode cX5_readStatement 11 = .ok (.invokevirtual 62, 3) := bq_o182 (a := 0) (b := 62) (bq_3 bwX5_readStatement_0 11 (by decide +kernel)) rfl
theorem dX5_readStatement_14 : decode cX5_readStatement 14 = .ok (.ireturn, 1) := bq_o172 (bq_of bwX5_readStatement_0 14 (by decide +kernel))
theorem dX5_readStatement_15 : decode cX5_readStatement 15 = .ok (.aload_n 0, 1) := bq_o42 (bq_of bwX5_readStatement_0 15 (by decide +kernel))
theorem dX5_readStatement_16 : decode cX5_readStatement 16 = .ok (.ldc 65, 2) := bq_o18 (a := 65) (bq_2 bwX5_readStatement_0 16 (by decide +kernel)) rfl
theorem dX5_readStatement_18 : decode cX5_readStatement 18 = .ok (.invokevirtual 58, 3) := bq_o182 (a := 0) (b := 58) (bq_3 bwX5_readStatement_0 18 (by decide +kernel)) rfl
theorem dX5_readStatement_21 : decode cX5_readStatement 21 = .ok (.ifCond .eq 10, 3) := bq_o153 (a := 0) (b := 10) (bq_3 bwX5_readStatement_0 21 (by decide +kernel)) (by decide +kernel)
theorem dX5_readStatement_24 : decode cX5_readStatement 24 = .ok (.aload_n 0, 1) := bq_o42 (bq_of bwX5_readStatement_0 24 (by decide +kernel))
theorem dX5_readStatement_25 : decode cX5_readStatement 25 = .ok (.aload_n 1, 1) := bq_o43 (bq_of bwX5_readStatement_0 25 (by decide +kernel))
theorem dX5_readStatement_26 : decode cX5_readStatement 26 = .ok (.iconst 1, 1) := bq_o4 (bq_of bwX5_readStatement_0 26 (by decide +kernel))
theorem dX5_readStatement_27 : decode cX5_readStatement 27 = .ok (.invokevirtual 67, 3) := bq_o182 (a := 0) (b := 67) (bq_3 bwX5_readStatement_0 27 (by decide +kernel)) rfl
theorem dX5_readStatement_30 : decode cX5_readStatement 30 = .ok (.ireturn, 1) := bq_o172 (bq_of bwX5_readStatement_0 30 (by decide +kernel))
theorem dX5_readStatement_31 : decode cX5_readStatement 31 = .ok (.aload_n 0, 1) := bq_o42 (bq_of bwX5_readStatement_0 31 (by decide +kernel))
theorem dX5_readStatement_32 : decode cX5_readStatement 32 = .ok (.ldc 71, 2) := bq_o18 (a := 71) (bq_2 bwX5_readStatement_0 32 (by decide +kernel)) rfl
theorem dX5_readStatement_34 : decode cX5_readStatement 34 = .ok (.invokevirtual 58, 3) := bq_o182 (a := 0) (b := 58) (bq_3 bwX5_readStatement_0 34 (by decide +kernel)) rfl
theorem dX5_readStatement_37 : decode cX5_readStatement 37 = .ok (.ifCond .eq 10, 3) := bq_o153 (a := 0) (b := 10) (bq_3 bwX5_readStatement_0 37 (by decide +kernel)) (by decide +kernel)
theorem dX5_readStatement_40 : decode cX5_readStatement 40 = .ok (.aload_n 0, 1) := bq_o42 (bq_of bwX5_readStatement_0 40 (by decide +kernel))
theorem dX5_readStatement_41 : decode cX5_readStatement 41 = .ok (.aload_n 1, 1) := bq_o43 (bq_of bwX5_readStatement_0 41 (by decide +kernel))
theorem dX5_readStatement_42 : decode cX5_readStatement 42 = .ok (.iconst 0, 1) := bq_o3 (bq_of bwX5_readStatement_0 42 (by decide +kernel))
theorem dX5_readStatement_43 : decode cX5_readStatement 43 = .ok (.invokevirtual 67, 3) := bq_o182 (a := 0) (b := 67) (bq_3 bwX5_readStatement_0 43 (by decide +kernel)) rfl
theorem dX5_readStatement_46 : decode cX5_readStatement 46 = .ok (.ireturn, 1) := bq_o172 (bq_of bwX5_readStatement_0 46 (by decide +kernel))
theorem dX5_readStatement_47 : decode cX5_readStatement 47 = .ok (.aload_n 0, 1) := bq_o42 (bq_of bwX5_readStatement_0 47 (by decide +kernel))
theorem dX5_readStatement_48 : decode cX5_readStatement 48 = .ok (.ldc 73, 2) := bq_o18 (a := 73) (bq_2 bwX5_readStatement_0 48 (by decide +kernel)) rfl
theorem dX5_readStatement_50 : decode cX5_readStatement 50 = .ok (.invokevirtual 58, 3) := bq_o182 (a := 0) (b := 58) (bq_3 bwX5_readStatement_0 50 (by decide +kernel)) rfl
theorem dX5_readStatement_53 : decode cX5_readStatement 53 = .ok (.ifCond .eq 9, 3) := bq_o153 (a := 0) (b := 9) (bq_3 bwX5_readStatement_0 53 (by decide +kernel)) (by decide +kernel)
theorem dX5_readStatement_56 : decode cX5_readStatement 56 = .ok (.aload_n 0, 1) := bq_o42 (bq_of bwX5_readStatement_0 56 (by decide +kernel))
theorem dX5_readStatement_57 : decode cX5_readStatement 57 = .ok (.aload_n 1, 1) := bq_o43 (bq_of bwX5_readStatement_0 57 (by decide +kernel))
theorem dX5_readStatement_58 : decode cX5_readStatement 58 = .ok (.invokevirtual 75, 3) := bq_o182 (a := 0) (b := 75) (bq_3 bwX5_readStatement_0 58 (by decide +kernel)) rfl
theorem dX5_readStatement_61 : decode cX5_readStatement 61 = .ok (.ireturn, 1) := bq_o172 (bq_of bwX5_readStatement_0 61 (by decide +kernel))
theorem dX5_readStatement_62 : decode cX5_readStatement 62 = .ok (.aload_n 0, 1) := bq_o42 (bq_of bwX5_readStatement_0 62 (by decide +kernel))
theorem dX5_readStatement_63 : decode cX5_readStatement 63 = .ok (.ldc 78, 2) := bq_o18 (a := 78) (bq_2 bwX5_readStatement_0 63 (by decide +kernel)) rfl
def bwX5_readStatement_64l : List Nat := [78, 182, 0, 58, 153, 0, 9, 42, 43, 182, 0, 80, 172, 42, 18, 83, 182, 0, 58, 153, 0, 11, 42, 43, 182, 0, 85, 167, 0, 7, 42, 182, 0, 32, 172]
theorem bwX5_readStatement_64 : ((cX5_readStatement.data.toList.drop 64).take 35).map UInt8.toNat = bwX5_readStatement_64l := by decide +kernel
theorem dX5_readStatement_65 : decode cX5_readStatement 65 = .ok (.invokevirtual 58, 3) := bq_o182 (a := 0) (b := 58) (bq_3 bwX5_readStatement_64 1 (by decide +kernel)) rfl
theorem dX5_readStatement_68 : decode cX5_readStatement 68 = .ok (.ifCond .eq 9, 3) := bq_o153 (a := 0) (b := 9) (bq_3 bwX5_readStatement_64 4 (by decide +kernel)) (by decide +kernel)
theorem dX5_readStatement_71 : decode cX5_readStatement 71 = .ok (.aload_n 0, 1) := bq_o42 (bq_of bwX5_readStatement_64 7 (by decide +kernel))
theorem dX5_readStatement_72 : decode cX5_readStatement 72 = .ok (.aload_n 1, 1) := bq_o43 (bq_of bwX5_readStatement_64 8 (by decide +kernel))
theorem dX5_readStatement_73 : decode cX5_readStatement 73 = .ok (.invokevirtual 80, 3) := bq_o182 (a := 0) (b := 80) (bq_3 bwX5_readStatement_64 9 (by decide +kernel)) rfl
theorem dX5_readStatement_76 : decode cX5_readStatement 76 = .ok (.ireturn, 1) := bq_o172 (bq_of bwX5_readStatement_64 12 (by decide +kernel))
theorem dX5_readStatement_77 : decode cX5_readStatement 77 = .ok (.aload_n 0, 1) := bq_o42 (bq_of bwX5_readStatement_64 13 (by decide +kernel))
theorem dX5_readStatement_78 : decode cX5_readStatement 78 = .ok (.ldc 83, 2) := bq_o18 (a := 83) (bq_2 bwX5_readStatement_64 14 (by decide +kernel)) rfl
theorem dX5_readStatement_80 : decode cX5_readStatement 80 = .ok (.invokevirtual 58, 3) := bq_o182 (a := 0) (b := 58) (bq_3 bwX5_readStatement_64 16 (by decide +kernel)) rfl
theorem dX5_readStatement_83 : decode cX5_readStatement 83 = .ok (.ifCond .eq 11, 3) := bq_o153 (a := 0) (b := 11) (bq_3 bwX5_readStatement_64 19 (by decide +kernel)) (by decide +kernel)
theorem dX5_readStatement_86 : decode cX5_readStatement 86 = .ok (.aload_n 0, 1) := bq_o42 (bq_of bwX5_readStatement_64 22 (by decide +kernel))
theorem dX5_readStatement_87 : decode cX5_readStatement 87 = .ok (.aload_n 1, 1) := bq_o43 (bq_of bwX5_readStatement_64 23 (by decide +kernel))
theorem dX5_readStatement_88 : decode cX5_readStatement 88 = .ok (.invokevirtual 85, 3) := bq_o182 (a := 0) (b := 85) (bq_3 bwX5_readStatement_64 24 (by decide +kernel)) rfl
theorem dX5_readStatement_91 : decode cX5_readStatement 91 = .ok (.goto 7, 3) := bq_o167 (a := 0) (b := 7) (bq_3 bwX5_readStatement_64 27 (by decide +kernel)) (by decide +kernel)
theorem dX5_readStatement_94 : decode cX5_readStatement 94 = .ok (.aload_n 0, 1) := bq_o42 (bq_of bwX5_readStatement_64 30 (by decide +kernel))
theorem dX5_readStatement_95 : decode cX5_readStatement 95 = .ok (.invokevirtual 32, 3) := bq_o182 (a := 0) (b := 32) (bq_3 bwX5_readStatement_64 31 (by decide +kernel)) rfl
theorem dX5_readStatement_98 : decode cX5_readStatement 98 = .ok (.ireturn, 1) := bq_o172 (bq_of bwX5_readStatement_64 34 (by decide +kernel))
theorem dX5_readPerson_0 : decode cX5_readPerson 0 = .ok (.aload_n 1, 1) := by decide +kernel
theorem dX5_readPerson_1 : decode cX5_readPerson 1 = .ok (.getfield 88, 3) := by decide +kernel
theorem dX5_readPerson_4 : decode cX5_readPerson 4 = .ok (.bipush 7, 2) := by decide +kernel
theorem dX5_readPerson_6 : decode cX5_readPerson 6 = .ok (.if_icmp .lt 8, 3) := by decide +kernel
theorem dX5_readPerson_9 : decode cX5_readPerson 9 = .ok (.aload_n 0, 1) := by decide +kernel
theorem dX5_readPerson_10 : decode cX5_readPerson 10 = .ok (.invokevirtual 32, 3) := by decide +kernel
theorem dX5_readPerson_13 : decode cX5_readPerson 13 = .ok (.ireturn, 1) := by decide +kernel
theorem dX5_readPerson_14 : decode cX5_readPerson 14 = .ok (.aload_n 0, 1) := by decide +kernel
theorem dX5_readPerson_15 : decode cX5_readPerson 15 = .ok (.invokevirtual 22, 3) := by decide +kernel
theorem dX5_readPerson_18 : decode cX5_readPerson 18 = .ok (.aload_n 0, 1) := by decide +kernel
theorem dX5_readPerson_19 : decode cX5_readPerson 19 = .ok (.iconst 0, 1) := by decide +kernel
theorem dX5_readPerson_20 : decode cX5_readPerson 20 = .ok (.bipush 23, 2) := by decide +kernel
theorem dX5_readPerson_22 : decode cX5_readPerson 22 = .ok (.iconst 0, 1) := by decide +kernel
theorem dX5_readPerson_23 : decode cX5_readPerson 23 = .ok (.invokevirtual 93, 3) := by decide +kernel
theorem dX5_readPerson_26 : decode cX5_readPerson 26 = .ok (.istore_n 2, 1) := by decide +kernel
theorem dX5_readPerson_27 : decode cX5_readPerson 27 = .ok (.iload_n 2, 1) := by decide +kernel
theorem dX5_readPerson_28 : decode cX5_readPerson 28 = .ok (.iconst (-1), 1) := by decide +kernel
theorem dX5_readPerson_29 : decode cX5_readPerson 29 = .ok (.if_icmp .ne 5, 3) := by decide +kernel
theorem dX5_readPerson_32 : decode cX5_readPerson 32 = .ok (.iconst 0, 1) := by decide +kernel
theorem dX5_readPerson_33 : decode cX5_readPerson 33 = .ok (.ireturn, 1) := by decide +kernel
theorem dX5_readPerson_34 : decode cX5_readPerson 34 = .ok (.aload_n 0, 1) := by decide +kernel
theorem dX5_readPerson_35 : decode cX5_readPerson 35 = .ok (.iconst 0, 1) := by decide +kernel
theorem dX5_readPerson_36 : decode cX5_readPerson 36 = .ok (.bipush 9, 2) := by decide +kernel
theorem dX5_readPerson_38 : decode cX5_readPerson 38 = .ok (.iconst 0, 1) := by decide +kernel
theorem dX5_readPerson_39 : decode cX5_readPerson 39 = .ok (.invokevirtual 93, 3) := by decide +kernel
theorem dX5_readPerson_42 : decode cX5_readPerson 42 = .ok (.istore_n 3, 1) := by decide +kernel
theorem dX5_readPerson_43 : decode cX5_readPerson 43 = .ok (.iload_n 3, 1) := by decide +kernel
theorem dX5_readPerson_44 : decode cX5_readPerson 44 = .ok (.iconst (-1), 1) := by decide +kernel
theorem dX5_readPerson_45 : decode cX5_readPerson 45 = .ok (.if_icmp .ne 5, 3) := by decide +kernel
theorem dX5_readPerson_48 : decode cX5_readPerson 48 = .ok (.iconst 0, 1) := by decide +kernel
theorem dX5_readPerson_49 : decode cX5_readPerson 49 = .ok (.ireturn, 1) := by decide +kernel
theorem dX5_readPerson_50 : decode cX5_readPerson 50 = .ok (.aload_n 1, 1) := by decide +kernel
theorem dX5_readPerson_51 : decode cX5_readPerson 51 = .ok (.iload_n 2, 1) := by decide +kernel
theorem dX5_readPerson_52 : decode cX5_readPerson 52 = .ok (.iload_n 3, 1) := by decide +kernel
theorem dX5_readPerson_53 : decode cX5_readPerson 53 = .ok (.invokevirtual 97, 3) := by decide +kernel
theorem dX5_readPerson_56 : decode cX5_readPerson 56 = .ok (.pop, 1) := by decide +kernel
theorem dX5_readPerson_57 : decode cX5_readPerson 57 = .ok (.iconst 1, 1) := by decide +kernel
theorem dX5_readPerson_58 : decode cX5_readPerson 58 = .ok (.ireturn, 1) := by decide +kernel
def bwX5_readPair_0l : List Nat := [42, 182, 0, 22, 42, 3, 43, 180, 0, 88, 4, 100, 3, 182, 0, 93, 62, 29, 2, 160, 0, 5, 3, 172, 42, 3, 43, 180, 0, 88, 4, 100, 4, 29, 120, 182, 0, 93, 54, 4, 21, 4, 2, 160, 0, 5, 3, 172, 28, 153, 0, 7, 3, 167, 0, 4, 2, 54, 5, 28, 153, 0, 34, 42, 18, 101]
theorem bwX5_readPair_0 : ((cX5_readPair.data.toList.drop 0).take 66).map UInt8.toNat = bwX5_readPair_0l := by decide +kernel
theorem dX5_readPair_0 : decode cX5_readPair 0 = .ok (.aload_n 0, 1) := bq_o42 (bq_of bwX5_readPair_0 0 (by decide +kernel))
theorem dX5_readPair_1 : decode cX5_readPair 1 = .ok (.invokevirtual 22, 3) := bq_o182 (a := 0) (b := 22) (bq_3 bwX5_readPair_0 1 (by decide +kernel)) rfl
theorem dX5_readPair_4 : decode cX5_readPair 4 = .ok (.aload_n 0, 1) := bq_o42 (bq_of bwX5_readPair_0 4 (by decide +kernel))
theorem dX5_readPair_5 : decode cX5_readPair 5 = .ok (.iconst 0, 1) := bq_o3 (bq_of bwX5_readPair_0 5 (by decide +kernel))
theorem dX5_readPair_6 : decode cX5_readPair 6 = .ok (.aload_n 1, 1) := bq_o43 (bq_of bwX5_readPair_0 6 (by decide +kernel))
theorem dX5_readPair_7 : decode cX5_readPair 7 = .ok (.getfield 88, 3) := bq_o180 (a := 0) (b := 88) (bq_3 bwX5_readPair_0 7 (by decide +kernel)) rfl
theorem dX5_readPair_10 : decode cX5_readPair 10 = .ok (.iconst 1, 1) := bq_o4 (bq_of bwX5_readPair_0 10 (by decide +kernel))
theorem dX5_readPair_11 : decode cX5_readPair 11 = .ok (.isub, 1) := bq_o100 (bq_of bwX5_readPair_0 11 (by decide +kernel))
theorem dX5_readPair_12 : decode cX5_readPair 12 = .ok (.iconst 0, 1) := bq_o3 (bq_of bwX5_readPair_0 12 (by decide +kernel))
theorem dX5_readPair_13 : decode cX5_readPair 13 = .ok (.invokevirtual 93, 3) := bq_o182 (a := 0) (b := 93) (bq_3 bwX5_readPair_0 13 (by decide +kernel)) rfl
theorem dX5_readPair_16 : decode cX5_readPair 16 = .ok (.istore_n 3, 1) := bq_o62 (bq_of bwX5_readPair_0 16 (by decide +kernel))
theorem dX5_readPair_17 : decode cX5_readPair 17 = .ok (.iload_n 3, 1) := bq_o29 (bq_of bwX5_readPair_0 17 (by decide +kernel))
theorem dX5_readPair_18 : decode cX5_readPair 18 = .ok (.iconst (-1), 1) := bq_o2 (bq_of bwX5_readPair_0 18 (by decide +kernel))
theorem dX5_readPair_19 : decode cX5_readPair 19 = .ok (.if_icmp .ne 5, 3) := bq_o160 (a := 0) (b := 5) (bq_3 bwX5_readPair_0 19 (by decide +kernel)) (by decide +kernel)
theorem dX5_readPair_22 : decode cX5_readPair 22 = .ok (.iconst 0, 1) := bq_o3 (bq_of bwX5_readPair_0 22 (by decide +kernel))
theorem dX5_readPair_23 : decode cX5_readPair 23 = .ok (.ireturn, 1) := bq_o172 (bq_of bwX5_readPair_0 23 (by decide +kernel))
theorem dX5_readPair_24 : decode cX5_readPair 24 = .ok (.aload_n 0, 1) := bq_o42 (bq_of bwX5_readPair_0 24 (by decide +kernel))
theorem dX5_readPair_25 : decode cX5_readPair 25 = .ok (.iconst 0, 1) := bq_o3 (bq_of bwX5_readPair_0 25 (by decide +kernel))
theorem dX5_readPair_26 : decode cX5_readPair 26 = .ok (.aload_n 1, 1) := bq_o43 (bq_of bwX5_readPair_0 26 (by decide +kernel))
theorem dX5_readPair_27 : decode cX5_readPair 27 = .ok (.getfield 88, 3) := bq_o180 (a := 0) (b := 88) (bq_3 bwX5_readPair_0 27 (by decide +kernel)) rfl
theorem dX5_readPair_30 : decode cX5_readPair 30 = .ok (.iconst 1, 1) := bq_o4 (bq_of bwX5_readPair_0 30 (by decide +kernel))
theorem dX5_readPair_31 : decode cX5_readPair 31 = .ok (.isub, 1) := bq_o100 (bq_of bwX5_readPair_0 31 (by decide +kernel))
theorem dX5_readPair_32 : decode cX5_readPair 32 = .ok (.iconst 1, 1) := bq_o4 (bq_of bwX5_readPair_0 32 (by decide +kernel))
theorem dX5_readPair_33 : decode cX5_readPair 33 = .ok (.iload_n 3, 1) := bq_o29 (bq_of bwX5_readPair_0 33 (by decide +kernel))
theorem dX5_readPair_34 : decode cX5_readPair 34 = .ok (.ishl, 1) := bq_o120 (bq_of bwX5_readPair_0 34 (by decide +kernel))
theorem dX5_readPair_35 : decode cX5_readPair 35 = .ok (.invokevirtual 93, 3) := bq_o182 (a := 0) (b := 93) (bq_3 bwX5_readPair_0 35 (by decide +kernel)) rfl
theorem dX5_readPair_38 : decode cX5_readPair 38 = .ok (.istore 4, 2) := bq_o54 (a := 4) (bq_2 bwX5_readPair_0 38 (by decide +kernel)) rfl
theorem dX5_readPair_40 : decode cX5_readPair 40 = .ok (.iload 4, 2) := bq_o21 (a := 4) (bq_2 bwX5_readPair_0 40 (by decide +kernel)) rfl
theorem dX5_readPair_42 : decode cX5_readPair 42 = .ok (.iconst (-1), 1) := bq_o2 (bq_of bwX5_readPair_0 42 (by decide +kernel))
theorem dX5_readPair_43 : decode cX5_readPair 43 = .ok (.if_icmp .ne 5, 3) := bq_o160 (a := 0) (b := 5) (bq_3 bwX5_readPair_0 43 (by decide +kernel)) (by decide +kernel)
theorem dX5_readPair_46 : decode cX5_readPair 46 = .ok (.iconst 0, 1) := bq_o3 (bq_of bwX5_readPair_0 46 (by decide +kernel))
theorem dX5_readPair_47 : decode cX5_readPair 47 = .ok (.ireturn, 1) := bq_o172 (bq_of bwX5_readPair_0 47 (by decide +kernel))
theorem dX5_readPair_48 : decode cX5_readPair 48 = .ok (.iload_n 2, 1) := bq_o28 (bq_of bwX5_readPair_0 48 (by decide +kernel))
theorem dX5_readPair_49 : decode cX5_readPair 49 = .ok (.ifCond .eq 7, 3) := bq_o153 (a := 0) (b := 7) (bq_3 bwX5_readPair_0 49 (by decide +kernel)) (by decide +kernel)
theorem dX5_readPair_52 : decode cX5_readPair 52 = .ok (.iconst 0, 1) := bq_o3 (bq_of bwX5_readPair_0 52 (by decide +kernel))
theorem dX5_readPair_53 : decode cX5_readPair 53 = .ok (.goto 4, 3) := bq_o167 (a := 0) (b := 4) (bq_3 bwX5_readPair_0 53 (by decide +kernel)) (by decide +kernel)
theorem dX5_readPair_56 : decode cX5_readPair 56 = .ok (.iconst (-1), 1) := bq_o2 (bq_of bwX5_readPair_0 56 (by decide +kernel))
theorem dX5_readPair_57 : decode cX5_readPair 57 = .ok (.istore 5, 2) := bq_o54 (a := 5) (bq_2 bwX5_readPair_0 57 (by decide +kernel)) rfl
theorem dX5_readPair_59 : decode cX5_readPair 59 = .ok (.iload_n 2, 1) := bq_o28 (bq_of bwX5_readPair_0 59 (by decide +kernel))
theorem dX5_readPair_60 : decode cX5_readPair 60 = .ok (.ifCond .eq 34, 3) := bq_o153 (a := 0) (b := 34) (bq_3 bwX5_readPair_0 60 (by decide +kernel)) (by decide +kernel)
theorem dX5_readPair_63 : decode cX5_readPair 63 = .ok (.aload_n 0, 1) := bq_o42 (bq_of bwX5_readPair_0 63 (by decide +kernel))
def bwX5_readPair_64l : List Nat := [18, 101, 182, 0, 58, 153, 0, 25, 42, 182, 0, 22, 42, 3, 16, 99, 3, 182, 0, 93, 54, 5, 21, 5, 2, 160, 0, 5, 3, 172, 43, 29, 21, 4, 21, 5, 182, 0, 103, 4, 172]
theorem bwX5_readPair_64 : ((cX5_readPair.data.toList.drop 64).take 41).map UInt8.toNat = bwX5_readPair_64l := by decide +kernel
theorem dX5_readPair_64 : decode cX5_readPair 64 = .ok (.ldc 101, 2) := bq_o18 (a := 101) (bq_2 bwX5_readPair_64 0 (by decide +kernel)) rfl
theorem dX5_readPair_66 : decode cX5_readPair 66 = .ok (.invokevirtual 58, 3) := bq_o182 (a := 0) (b := 58) (bq_3 bwX5_readPair_64 2 (by decide +kernel)) rfl
theorem dX5_readPair_69 : decode cX5_readPair 69 = .ok (.ifCond .eq 25, 3) := bq_o153 (a := 0) (b := 25) (bq_3 bwX5_readPair_64 5 (by decide +kernel)) (by decide +kernel)
theorem dX5_readPair_72 : decode cX5_readPair 72 = .ok (.aload_n 0, 1) := bq_o42 (bq_of bwX5_readPair_64 8 (by decide +kernel))
theorem dX5_readPair_73 : decode cX5_readPair 73 = .ok (.invokevirtual 22, 3) := bq_o182 (a := 0) (b := 22) (bq_3 bwX5_readPair_64 9 (by decide +kernel)) rfl
theorem dX5_readPair_76 : decode cX5_readPair 76 = .ok (.aload_n 0, 1) := bq_o42 (bq_of bwX5_readPair_64 12 (by decide +kernel))
theorem dX5_readPair_77 : decode cX5_readPair 77 = .ok (.iconst 0, 1) := bq_o3 (bq_of bwX5_readPair_64 13 (by decide +kernel))
theorem dX5_readPair_78 : decode cX5_readPair 78 = .ok (.bipush 99, 2) := bq_o16 (a := 99) (bq_2 bwX5_readPair_64 14 (by decide +kernel)) (by decide +kernel)
theorem dX5_readPair_80 : decode cX5_readPair 80 = .ok (.iconst 0, 1) := bq_o3 (bq_of bwX5_readPair_64 16 (by decide +kernel))
theorem dX5_readPair_81 : decode cX5_readPair 81 = .ok (.invokevirtual 93, 3) := bq_o182 (a := 0) (b := 93) (bq_3 bwX5_readPair_64 17 (by decide +kernel)) rfl
theorem dX5_readPair_84 : decode cX5_readPair 84 = .ok (.istore 5, 2) := bq_o54 (a := 5) (bq_2 bwX5_readPair_64 20 (by decide +kernel)) rfl
theorem dX5_readPair_86 : decode cX5_readPair 86 = .ok (.iload 5, 2) := bq_o21 (a := 5) (bq_2 bwX5_readPair_64 22 (by decide +kernel)) rfl
theorem dX5_readPair_88 : decode cX5_readPair 88 = .ok (.iconst (-1), 1) := bq_o2 (bq_of bwX5_readPair_64 24 (by decide +kernel))
theorem dX5_readPair_89 : decode cX5_readPair 89 = .ok (.if_icmp .ne 5, 3) := bq_o160 (a := 0) (b := 5) (bq_3 bwX5_readPair_64 25 (by decide +kernel)) (by decide +kernel)
theorem dX5_readPair_92 : decode cX5_readPair 92 = .ok (.iconst 0, 1) := bq_o3 (bq_of bwX5_readPair_64 28 (by decide +kernel))
theorem dX5_readPair_93 : decode cX5_readPair 93 = .ok (.ireturn, 1) := bq_o172 (bq_of bwX5_readPair_64 29 (by decide +kernel))
theorem dX5_readPair_94 : decode cX5_readPair 94 = .ok (.aload_n 1, 1) := bq_o43 (bq_of bwX5_readPair_64 30 (by decide +kernel))
theorem dX5_readPair_95 : decode cX5_readPair 95 = .ok (.iload_n 3, 1) := bq_o29 (bq_of bwX5_readPair_64 31 (by decide +kernel))
theorem dX5_readPair_96 : decode cX5_readPair 96 = .ok (.iload 4, 2) := bq_o21 (a := 4) (bq_2 bwX5_readPair_64 32 (by decide +kernel)) rfl
theorem dX5_readPair_98 : decode cX5_readPair 98 = .ok (.iload 5, 2) := bq_o21 (a := 5) (bq_2 bwX5_readPair_64 34 (by decide +kernel)) rfl
theorem dX5_readPair_100 : decode cX5_readPair 100 = .ok (.invokevirtual 103, 3) := bq_o182 (a := 0) (b := 103) (bq_3 bwX5_readPair_64 36 (by decide +kernel)) rfl
theorem dX5_readPair_103 : decode cX5_readPair 103 = .ok (.iconst 1, 1) := bq_o4 (bq_of bwX5_readPair_64 39 (by decide +kernel))
theorem dX5_readPair_104 : decode cX5_readPair 104 = .ok (.ireturn, 1) := bq_o172 (bq_of bwX5_readPair_64 40 (by decide +kernel))
theorem dX5_readSeats_0 : decode cX5_readSeats 0 = .ok (.aload_n 0, 1) := by decide +kernel
theorem dX5_readSeats_1 : decode cX5_readSeats 1 = .ok (.invokevirtual 22, 3) := by decide +kernel
theorem dX5_readSeats_4 : decode cX5_readSeats 4 = .ok (.aload_n 0, 1) := by decide +kernel
theorem dX5_readSeats_5 : decode cX5_readSeats 5 = .ok (.iconst 2, 1) := by decide +kernel
theorem dX5_readSeats_6 : decode cX5_readSeats 6 = .ok (.iconst 4, 1) := by decide +kernel
theorem dX5_readSeats_7 : decode cX5_readSeats 7 = .ok (.iconst 0, 1) := by decide +kernel
theorem dX5_readSeats_8 : decode cX5_readSeats 8 = .ok (.invokevirtual 93, 3) := by decide +kernel
theorem dX5_readSeats_11 : decode cX5_readSeats 11 = .ok (.istore_n 2, 1) := by decide +kernel
theorem dX5_readSeats_12 : decode cX5_readSeats 12 = .ok (.iload_n 2, 1) := by decide +kernel
theorem dX5_readSeats_13 : decode cX5_readSeats 13 = .ok (.iconst (-1), 1) := by decide +kernel
theorem dX5_readSeats_14 : decode cX5_readSeats 14 = .ok (.if_icmp .ne 5, 3) := by decide +kernel
theorem dX5_readSeats_17 : decode cX5_readSeats 17 = .ok (.iconst 0, 1) := by decide +kernel
theorem dX5_readSeats_18 : decode cX5_readSeats 18 = .ok (.ireturn, 1) := by decide +kernel
theorem dX5_readSeats_19 : decode cX5_readSeats 19 = .ok (.aload_n 1, 1) := by decide +kernel
theorem dX5_readSeats_20 : decode cX5_readSeats 20 = .ok (.iload_n 2, 1) := by decide +kernel
theorem dX5_readSeats_21 : decode cX5_readSeats 21 = .ok (.putfield 107, 3) := by decide +kernel
theorem dX5_readSeats_24 : decode cX5_readSeats 24 = .ok (.iconst 1, 1) := by decide +kernel
theorem dX5_readSeats_25 : decode cX5_readSeats 25 = .ok (.ireturn, 1) := by decide +kernel
theorem dX5_readMemory_0 : decode cX5_readMemory 0 = .ok (.aload_n 0, 1) := by decide +kernel
theorem dX5_readMemory_1 : decode cX5_readMemory 1 = .ok (.invokevirtual 22, 3) := by decide +kernel
theorem dX5_readMemory_4 : decode cX5_readMemory 4 = .ok (.aload_n 0, 1) := by decide +kernel
theorem dX5_readMemory_5 : decode cX5_readMemory 5 = .ok (.iconst 0, 1) := by decide +kernel
theorem dX5_readMemory_6 : decode cX5_readMemory 6 = .ok (.bipush 99, 2) := by decide +kernel
theorem dX5_readMemory_8 : decode cX5_readMemory 8 = .ok (.iconst 0, 1) := by decide +kernel
theorem dX5_readMemory_9 : decode cX5_readMemory 9 = .ok (.invokevirtual 93, 3) := by decide +kernel
theorem dX5_readMemory_12 : decode cX5_readMemory 12 = .ok (.istore_n 2, 1) := by decide +kernel
theorem dX5_readMemory_13 : decode cX5_readMemory 13 = .ok (.iload_n 2, 1) := by decide +kernel
theorem dX5_readMemory_14 : decode cX5_readMemory 14 = .ok (.iconst (-1), 1) := by decide +kernel
theorem dX5_readMemory_15 : decode cX5_readMemory 15 = .ok (.if_icmp .ne 5, 3) := by decide +kernel
theorem dX5_readMemory_18 : decode cX5_readMemory 18 = .ok (.iconst 0, 1) := by decide +kernel
theorem dX5_readMemory_19 : decode cX5_readMemory 19 = .ok (.ireturn, 1) := by decide +kernel
theorem dX5_readMemory_20 : decode cX5_readMemory 20 = .ok (.aload_n 1, 1) := by decide +kernel
theorem dX5_readMemory_21 : decode cX5_readMemory 21 = .ok (.iload_n 2, 1) := by decide +kernel
theorem dX5_readMemory_22 : decode cX5_readMemory 22 = .ok (.putfield 109, 3) := by decide +kernel
theorem dX5_readMemory_25 : decode cX5_readMemory 25 = .ok (.iconst 1, 1) := by decide +kernel
theorem dX5_readMemory_26 : decode cX5_readMemory 26 = .ok (.ireturn, 1) := by decide +kernel
def bwX5_readMet_0l : List Nat := [42, 182, 0, 22, 3, 61, 3, 62, 29, 16, 7, 163, 0, 50, 29, 153, 0, 11, 42, 180, 0, 29, 5, 160, 0, 38, 42, 3, 43, 180, 0, 88, 4, 100, 28, 182, 0, 93, 54, 4, 21, 4, 2, 160, 0, 5, 3, 172, 28, 4, 21, 4, 120, 128, 61, 132, 3, 1, 167, 255, 206, 43, 28, 182, 0, 111]
theorem bwX5_readMet_0 : ((cX5_readMet.data.toList.drop 0).take 66).map UInt8.toNat = bwX5_readMet_0l := by decide +kernel
theorem dX5_readMet_0 : decode cX5_readMet 0 = .ok (.aload_n 0, 1) := bq_o42 (bq_of bwX5_readMet_0 0 (by decide +kernel))
theorem dX5_readMet_1 : decode cX5_readMet 1 = .ok (.invokevirtual 22, 3) := bq_o182 (a := 0) (b := 22) (bq_3 bwX5_readMet_0 1 (by decide +kernel)) rfl
theorem dX5_readMet_4 : decode cX5_readMet 4 = .ok (.iconst 0, 1) := bq_o3 (bq_of bwX5_readMet_0 4 (by decide +kernel))
theorem dX5_readMet_5 : decode cX5_readMet 5 = .ok (.istore_n 2, 1) := bq_o61 (bq_of bwX5_readMet_0 5 (by decide +kernel))
theorem dX5_readMet_6 : decode cX5_readMet 6 = .ok (.iconst 0, 1) := bq_o3 (bq_of bwX5_readMet_0 6 (by decide +kernel))
theorem dX5_readMet_7 : decode cX5_readMet 7 = .ok (.istore_n 3, 1) := bq_o62 (bq_of bwX5_readMet_0 7 (by decide +kernel))
theorem dX5_readMet_8 : decode cX5_readMet 8 = .ok (.iload_n 3, 1) := bq_o29 (bq_of bwX5_readMet_0 8 (by decide +kernel))
theorem dX5_readMet_9 : decode cX5_readMet 9 = .ok (.bipush 7, 2) := bq_o16 (a := 7) (bq_2 bwX5_readMet_0 9 (by decide +kernel)) (by decide +kernel)
theorem dX5_readMet_11 : decode cX5_readMet 11 = .ok (.if_icmp .gt 50, 3) := bq_o163 (a := 0) (b := 50) (bq_3 bwX5_readMet_0 11 (by decide +kernel)) (by decide +kernel)
theorem dX5_readMet_14 : decode cX5_readMet 14 = .ok (.iload_n 3, 1) := bq_o29 (bq_of bwX5_readMet_0 14 (by decide +kernel))
theorem dX5_readMet_15 : decode cX5_readMet 15 = .ok (.ifCond .eq 11, 3) := bq_o153 (a := 0) (b := 11) (bq_3 bwX5_readMet_0 15 (by decide +kernel)) (by decide +kernel)
theorem dX5_readMet_18 : decode cX5_readMet 18 = .ok (.aload_n 0, 1) := bq_o42 (bq_of bwX5_readMet_0 18 (by decide +kernel))
theorem dX5_readMet_19 : decode cX5_readMet 19 = .ok (.getfield 29, 3) := bq_o180 (a := 0) (b := 29) (bq_3 bwX5_readMet_0 19 (by decide +kernel)) rfl
theorem dX5_readMet_22 : decode cX5_readMet 22 = .ok (.iconst 2, 1) := bq_o5 (bq_of bwX5_readMet_0 22 (by decide +kernel))
theorem dX5_readMet_23 : decode cX5_readMet 23 = .ok (.if_icmp .ne 38, 3) := bq_o160 (a := 0) (b := 38) (bq_3 bwX5_readMet_0 23 (by decide +kernel)) (by decide +kernel)
theorem dX5_readMet_26 : decode cX5_readMet 26 = .ok (.aload_n 0, 1) := bq_o42 (bq_of bwX5_readMet_0 26 (by decide +kernel))
theorem dX5_readMet_27 : decode cX5_readMet 27 = .ok (.iconst 0, 1) := bq_o3 (bq_of bwX5_readMet_0 27 (by decide +kernel))
theorem dX5_readMet_28 : decode cX5_readMet 28 = .ok (.aload_n 1, 1) := bq_o43 (bq_of bwX5_readMet_0 28 (by decide +kernel))
theorem dX5_readMet_29 : decode cX5_readMet 29 = .ok (.getfield 88, 3) := bq_o180 (a := 0) (b := 88) (bq_3 bwX5_readMet_0 29 (by decide +kernel)) rfl
theorem dX5_readMet_32 : decode cX5_readMet 32 = .ok (.iconst 1, 1) := bq_o4 (bq_of bwX5_readMet_0 32 (by decide +kernel))
theorem dX5_readMet_33 : decode cX5_readMet 33 = .ok (.isub, 1) := bq_o100 (bq_of bwX5_readMet_0 33 (by decide +kernel))
theorem dX5_readMet_34 : decode cX5_readMet 34 = .ok (.iload_n 2, 1) := bq_o28 (bq_of bwX5_readMet_0 34 (by decide +kernel))
theorem dX5_readMet_35 : decode cX5_readMet 35 = .ok (.invokevirtual 93, 3) := bq_o182 (a := 0) (b := 93) (bq_3 bwX5_readMet_0 35 (by decide +kernel)) rfl
theorem dX5_readMet_38 : decode cX5_readMet 38 = .ok (.istore 4, 2) := bq_o54 (a := 4) (bq_2 bwX5_readMet_0 38 (by decide +kernel)) rfl
theorem dX5_readMet_40 : decode cX5_readMet 40 = .ok (.iload 4, 2) := bq_o21 (a := 4) (bq_2 bwX5_readMet_0 40 (by decide +kernel)) rfl
theorem dX5_readMet_42 : decode cX5_readMet 42 = .ok (.iconst (-1), 1) := bq_o2 (bq_of bwX5_readMet_0 42 (by decide +kernel))
theorem dX5_readMet_43 : decode cX5_readMet 43 = .ok (.if_icmp .ne 5, 3) := bq_o160 (a := 0) (b := 5) (bq_3 bwX5_readMet_0 43 (by decide +kernel)) (by decide +kernel)
theorem dX5_readMet_46 : decode cX5_readMet 46 = .ok (.iconst 0, 1) := bq_o3 (bq_of bwX5_readMet_0 46 (by decide +kernel))
theorem dX5_readMet_47 : decode cX5_readMet 47 = .ok (.ireturn, 1) := bq_o172 (bq_of bwX5_readMet_0 47 (by decide +kernel))
theorem dX5_readMet_48 : decode cX5_readMet 48 = .ok (.iload_n 2, 1) := bq_o28 (bq_of bwX5_readMet_0 48 (by decide +kernel))
theorem dX5_readMet_49 : decode cX5_readMet 49 = .ok (.iconst 1, 1) := bq_o4 (bq_of bwX5_readMet_0 49 (by decide +kernel))
theorem dX5_readMet_50 : decode cX5_readMet 50 = .ok (.iload 4, 2) := bq_o21 (a := 4) (bq_2 bwX5_readMet_0 50 (by decide +kernel)) rfl
theorem dX5_readMet_52 : decode cX5_readMet 52 = .ok (.ishl, 1) := bq_o120 (bq_of bwX5_readMet_0 52 (by decide +kernel))
theorem dX5_readMet_53 : decode cX5_readMet 53 = .ok (.ior, 1) := bq_o128 (bq_of bwX5_readMet_0 53 (by decide +kernel))
theorem dX5_readMet_54 : decode cX5_readMet 54 = .ok (.istore_n 2, 1) := bq_o61 (bq_of bwX5_readMet_0 54 (by decide +kernel))
theorem dX5_readMet_55 : decode cX5_readMet 55 = .ok (.iinc 3 1, 3) := bq_o132 (a := 3) (b := 1) (bq_3 bwX5_readMet_0 55 (by decide +kernel)) rfl (by decide +kernel)
theorem dX5_readMet_58 : decode cX5_readMet 58 = .ok (.goto (-50), 3) := bq_o167 (a := 255) (b := 206) (bq_3 bwX5_readMet_0 58 (by decide +kernel)) (by decide +kernel)
theorem dX5_readMet_61 : decode cX5_readMet 61 = .ok (.aload_n 1, 1) := bq_o43 (bq_of bwX5_readMet_0 61 (by decide +kernel))
theorem dX5_readMet_62 : decode cX5_readMet 62 = .ok (.iload_n 2, 1) := bq_o28 (bq_of bwX5_readMet_0 62 (by decide +kernel))
theorem dX5_readMet_63 : decode cX5_readMet 63 = .ok (.invokevirtual 111, 3) := bq_o182 (a := 0) (b := 111) (bq_3 bwX5_readMet_0 63 (by decide +kernel)) rfl
def bwX5_readMet_64l : List Nat := [0, 111, 87, 4, 172]
theorem bwX5_readMet_64 : ((cX5_readMet.data.toList.drop 64).take 5).map UInt8.toNat = bwX5_readMet_64l := by decide +kernel
theorem dX5_readMet_66 : decode cX5_readMet 66 = .ok (.pop, 1) := bq_o87 (bq_of bwX5_readMet_64 2 (by decide +kernel))
theorem dX5_readMet_67 : decode cX5_readMet 67 = .ok (.iconst 1, 1) := bq_o4 (bq_of bwX5_readMet_64 3 (by decide +kernel))
theorem dX5_readMet_68 : decode cX5_readMet 68 = .ok (.ireturn, 1) := bq_o172 (bq_of bwX5_readMet_64 4 (by decide +kernel))
theorem dX6_init_0 : decode cX6_init 0 = .ok (.aload_n 0, 1) := by decide +kernel
theorem dX6_init_1 : decode cX6_init 1 = .ok (.invokespecial 3, 3) := by decide +kernel
theorem dX6_init_4 : decode cX6_init 4 = .ok (.aload_n 0, 1) := by decide +kernel
theorem dX6_init_5 : decode cX6_init 5 = .ok (.bipush 40, 2) := by decide +kernel
theorem dX6_init_7 : decode cX6_init 7 = .ok (.newarray .long, 2) := by decide +kernel
theorem dX6_init_9 : decode cX6_init 9 = .ok (.putfield 9, 3) := by decide +kernel
theorem dX6_init_12 : decode cX6_init 12 = .ok (.aload_n 0, 1) := by decide +kernel
theorem dX6_init_13 : decode cX6_init 13 = .ok (.iconst (-1), 1) := by decide +kernel
theorem dX6_init_14 : decode cX6_init 14 = .ok (.putfield 15, 3) := by decide +kernel
theorem dX6_init_17 : decode cX6_init 17 = .ok (.return_, 1) := by decide +kernel
theorem dX6_isRow_0 : decode cX6_isRow 0 = .ok (.aload_n 0, 1) := by decide +kernel
theorem dX6_isRow_1 : decode cX6_isRow 1 = .ok (.getfield 15, 3) := by decide +kernel
theorem dX6_isRow_4 : decode cX6_isRow 4 = .ok (.iconst (-1), 1) := by decide +kernel
theorem dX6_isRow_5 : decode cX6_isRow 5 = .ok (.if_icmp .eq 7, 3) := by decide +kernel
theorem dX6_isRow_8 : decode cX6_isRow 8 = .ok (.iconst 1, 1) := by decide +kernel
theorem dX6_isRow_9 : decode cX6_isRow 9 = .ok (.goto 4, 3) := by decide +kernel
theorem dX6_isRow_12 : decode cX6_isRow 12 = .ok (.iconst 0, 1) := by decide +kernel
theorem dX6_isRow_13 : decode cX6_isRow 13 = .ok (.ireturn, 1) := by decide +kernel
theorem dX6_takeRow_0 : decode cX6_takeRow 0 = .ok (.aload_n 0, 1) := by decide +kernel
theorem dX6_takeRow_1 : decode cX6_takeRow 1 = .ok (.aconst_null, 1) := by decide +kernel
theorem dX6_takeRow_2 : decode cX6_takeRow 2 = .ok (.putfield 19, 3) := by decide +kernel
theorem dX6_takeRow_5 : decode cX6_takeRow 5 = .ok (.aload_n 0, 1) := by decide +kernel
theorem dX6_takeRow_6 : decode cX6_takeRow 6 = .ok (.iload_n 1, 1) := by decide +kernel
theorem dX6_takeRow_7 : decode cX6_takeRow 7 = .ok (.putfield 15, 3) := by decide +kernel
theorem dX6_takeRow_10 : decode cX6_takeRow 10 = .ok (.aload_n 0, 1) := by decide +kernel
theorem dX6_takeRow_11 : decode cX6_takeRow 11 = .ok (.iload_n 2, 1) := by decide +kernel
theorem dX6_takeRow_12 : decode cX6_takeRow 12 = .ok (.putfield 23, 3) := by decide +kernel
theorem dX6_takeRow_15 : decode cX6_takeRow 15 = .ok (.iconst 0, 1) := by decide +kernel
theorem dX6_takeRow_16 : decode cX6_takeRow 16 = .ok (.istore_n 3, 1) := by decide +kernel
theorem dX6_takeRow_17 : decode cX6_takeRow 17 = .ok (.iload_n 3, 1) := by decide +kernel
theorem dX6_takeRow_18 : decode cX6_takeRow 18 = .ok (.bipush 40, 2) := by decide +kernel
theorem dX6_takeRow_20 : decode cX6_takeRow 20 = .ok (.if_icmp .ge 16, 3) := by decide +kernel
theorem dX6_takeRow_23 : decode cX6_takeRow 23 = .ok (.aload_n 0, 1) := by decide +kernel
theorem dX6_takeRow_24 : decode cX6_takeRow 24 = .ok (.getfield 9, 3) := by decide +kernel
theorem dX6_takeRow_27 : decode cX6_takeRow 27 = .ok (.iload_n 3, 1) := by decide +kernel
theorem dX6_takeRow_28 : decode cX6_takeRow 28 = .ok (.lconst 0, 1) := by decide +kernel
theorem dX6_takeRow_29 : decode cX6_takeRow 29 = .ok (.lastore, 1) := by decide +kernel
theorem dX6_takeRow_30 : decode cX6_takeRow 30 = .ok (.iinc 3 1, 3) := by decide +kernel
theorem dX6_takeRow_33 : decode cX6_takeRow 33 = .ok (.goto (-16), 3) := by decide +kernel
theorem dX6_takeRow_36 : decode cX6_takeRow 36 = .ok (.return_, 1) := by decide +kernel
theorem dX6_takeMan_0 : decode cX6_takeMan 0 = .ok (.aload_n 0, 1) := by decide +kernel
theorem dX6_takeMan_1 : decode cX6_takeMan 1 = .ok (.aload_n 1, 1) := by decide +kernel
theorem dX6_takeMan_2 : decode cX6_takeMan 2 = .ok (.putfield 19, 3) := by decide +kernel
theorem dX6_takeMan_5 : decode cX6_takeMan 5 = .ok (.aload_n 0, 1) := by decide +kernel
theorem dX6_takeMan_6 : decode cX6_takeMan 6 = .ok (.iconst (-1), 1) := by decide +kernel
theorem dX6_takeMan_7 : decode cX6_takeMan 7 = .ok (.putfield 15, 3) := by decide +kernel
theorem dX6_takeMan_10 : decode cX6_takeMan 10 = .ok (.aload_n 0, 1) := by decide +kernel
theorem dX6_takeMan_11 : decode cX6_takeMan 11 = .ok (.iconst 0, 1) := by decide +kernel
theorem dX6_takeMan_12 : decode cX6_takeMan 12 = .ok (.putfield 23, 3) := by decide +kernel
theorem dX6_takeMan_15 : decode cX6_takeMan 15 = .ok (.return_, 1) := by decide +kernel
theorem dX6_put_0 : decode cX6_put 0 = .ok (.iload_n 1, 1) := by decide +kernel
theorem dX6_put_1 : decode cX6_put 1 = .ok (.ifCond .lt 22, 3) := by decide +kernel
theorem dX6_put_4 : decode cX6_put 4 = .ok (.iload_n 1, 1) := by decide +kernel
theorem dX6_put_5 : decode cX6_put 5 = .ok (.aload_n 0, 1) := by decide +kernel
theorem dX6_put_6 : decode cX6_put 6 = .ok (.getfield 23, 3) := by decide +kernel
theorem dX6_put_9 : decode cX6_put 9 = .ok (.if_icmp .ge 14, 3) := by decide +kernel
theorem dX6_put_12 : decode cX6_put 12 = .ok (.aload_n 0, 1) := by decide +kernel
theorem dX6_put_13 : decode cX6_put 13 = .ok (.getfield 9, 3) := by decide +kernel
theorem dX6_put_16 : decode cX6_put 16 = .ok (.iload_n 1, 1) := by decide +kernel
theorem dX6_put_17 : decode cX6_put 17 = .ok (.aload_n 0, 1) := by decide +kernel
theorem dX6_put_18 : decode cX6_put 18 = .ok (.lload_n 2, 1) := by decide +kernel
theorem dX6_put_19 : decode cX6_put 19 = .ok (.invokevirtual 26, 3) := by decide +kernel
theorem dX6_put_22 : decode cX6_put 22 = .ok (.lastore, 1) := by decide +kernel
theorem dX6_put_23 : decode cX6_put 23 = .ok (.return_, 1) := by decide +kernel
def bwX6_cut_0l : List Nat := [42, 180, 0, 15, 170, 0, 0, 0, 0, 0, 0, 62, 0, 0, 0, 0, 0, 0, 0, 4, 0, 0, 0, 36, 0, 0, 0, 41, 0, 0, 0, 46, 0, 0, 0, 62, 0, 0, 0, 50, 31, 136, 145, 133, 173, 31, 136, 147, 133, 173, 31, 136, 133, 173, 31, 9, 148, 153, 0, 7, 10, 167, 0, 4, 9, 173]
theorem bwX6_cut_0 : ((cX6_cut.data.toList.drop 0).take 66).map UInt8.toNat = bwX6_cut_0l := by decide +kernel
theorem dX6_cut_0 : decode cX6_cut 0 = .ok (.aload_n 0, 1) := bq_o42 (bq_of bwX6_cut_0 0 (by decide +kernel))
theorem dX6_cut_1 : decode cX6_cut 1 = .ok (.getfield 15, 3) := bq_o180 (a := 0) (b := 15) (bq_3 bwX6_cut_0 1 (by decide +kernel)) rfl
theorem dX6_cut_4 : decode cX6_cut 4 = .ok (.tableswitch 62 0 4 #[36, 41, 46, 62, 50], 36) := by decide +kernel
theorem dX6_cut_40 : decode cX6_cut 40 = .ok (.lload_n 1, 1) := bq_o31 (bq_of bwX6_cut_0 40 (by decide +kernel))
theorem dX6_cut_41 : decode cX6_cut 41 = .ok (.l2i, 1) := bq_o136 (bq_of bwX6_cut_0 41 (by decide +kernel))
theorem dX6_cut_42 : decode cX6_cut 42 = .ok (.i2b, 1) := bq_o145 (bq_of bwX6_cut_0 42 (by decide +kernel))
theorem dX6_cut_43 : decode cX6_cut 43 = .ok (.i2l, 1) := bq_o133 (bq_of bwX6_cut_0 43 (by decide +kernel))
theorem dX6_cut_44 : decode cX6_cut 44 = .ok (.lreturn, 1) := bq_o173 (bq_of bwX6_cut_0 44 (by decide +kernel))
theorem dX6_cut_45 : decode cX6_cut 45 = .ok (.lload_n 1, 1) := bq_o31 (bq_of bwX6_cut_0 45 (by decide +kernel))
theorem dX6_cut_46 : decode cX6_cut 46 = .ok (.l2i, 1) := bq_o136 (bq_of bwX6_cut_0 46 (by decide +kernel))
theorem dX6_cut_47 : decode cX6_cut 47 = .ok (.i2s, 1) := bq_o147 (bq_of bwX6_cut_0 47 (by decide +kernel))
theorem dX6_cut_48 : decode cX6_cut 48 = .ok (.i2l, 1) := bq_o133 (bq_of bwX6_cut_0 48 (by decide +kernel))
theorem dX6_cut_49 : decode cX6_cut 49 = .ok (.lreturn, 1) := bq_o173 (bq_of bwX6_cut_0 49 (by decide +kernel))
theorem dX6_cut_50 : decode cX6_cut 50 = .ok (.lload_n 1, 1) := bq_o31 (bq_of bwX6_cut_0 50 (by decide +kernel))
theorem dX6_cut_51 : decode cX6_cut 51 = .ok (.l2i, 1) := bq_o136 (bq_of bwX6_cut_0 51 (by decide +kernel))
theorem dX6_cut_52 : decode cX6_cut 52 = .ok (.i2l, 1) := bq_o133 (bq_of bwX6_cut_0 52 (by decide +kernel))
theorem dX6_cut_53 : decode cX6_cut 53 = .ok (.lreturn, 1) := bq_o173 (bq_of bwX6_cut_0 53 (by decide +kernel))
theorem dX6_cut_54 : decode cX6_cut 54 = .ok (.lload_n 1, 1) := bq_o31 (bq_of bwX6_cut_0 54 (by decide +kernel))
theorem dX6_cut_55 : decode cX6_cut 55 = .ok (.lconst 0, 1) := bq_o9 (bq_of bwX6_cut_0 55 (by decide +kernel))
theorem dX6_cut_56 : decode cX6_cut 56 = .ok (.lcmp, 1) := bq_o148 (bq_of bwX6_cut_0 56 (by decide +kernel))
theorem dX6_cut_57 : decode cX6_cut 57 = .ok (.ifCond .eq 7, 3) := bq_o153 (a := 0) (b := 7) (bq_3 bwX6_cut_0 57 (by decide +kernel)) (by decide +kernel)
theorem dX6_cut_60 : decode cX6_cut 60 = .ok (.lconst 1, 1) := bq_o10 (bq_of bwX6_cut_0 60 (by decide +kernel))
theorem dX6_cut_61 : decode cX6_cut 61 = .ok (.goto 4, 3) := bq_o167 (a := 0) (b := 4) (bq_3 bwX6_cut_0 61 (by decide +kernel)) (by decide +kernel)
def bwX6_cut_64l : List Nat := [9, 173, 31, 173]
theorem bwX6_cut_64 : ((cX6_cut.data.toList.drop 64).take 4).map UInt8.toNat = bwX6_cut_64l := by decide +kernel
theorem dX6_cut_64 : decode cX6_cut 64 = .ok (.lconst 0, 1) := bq_o9 (bq_of bwX6_cut_64 0 (by decide +kernel))
theorem dX6_cut_65 : decode cX6_cut 65 = .ok (.lreturn, 1) := bq_o173 (bq_of bwX6_cut_64 1 (by decide +kernel))
theorem dX6_cut_66 : decode cX6_cut 66 = .ok (.lload_n 1, 1) := bq_o31 (bq_of bwX6_cut_64 2 (by decide +kernel))
theorem dX6_cut_67 : decode cX6_cut 67 = .ok (.lreturn, 1) := bq_o173 (bq_of bwX6_cut_64 3 (by decide +kernel))
theorem dX7_init_0 : decode cX7_init 0 = .ok (.aload_n 0, 1) := by decide +kernel
theorem dX7_init_1 : decode cX7_init 1 = .ok (.iload_n 1, 1) := by decide +kernel
theorem dX7_init_2 : decode cX7_init 2 = .ok (.invokespecial 1, 3) := by decide +kernel
theorem dX7_init_5 : decode cX7_init 5 = .ok (.return_, 1) := by decide +kernel
theorem dX7_kind_0 : decode cX7_kind 0 = .ok (.iconst 4, 1) := by decide +kernel
theorem dX7_kind_1 : decode cX7_kind 1 = .ok (.ireturn, 1) := by decide +kernel
theorem dX7_worth_0 : decode cX7_worth 0 = .ok (.aload_n 1, 1) := by decide +kernel
theorem dX7_worth_1 : decode cX7_worth 1 = .ok (.iload_n 3, 1) := by decide +kernel
theorem dX7_worth_2 : decode cX7_worth 2 = .ok (.invokevirtual 7, 3) := by decide +kernel
theorem dX7_worth_5 : decode cX7_worth 5 = .ok (.ineg, 1) := by decide +kernel
theorem dX7_worth_6 : decode cX7_worth 6 = .ok (.ireturn, 1) := by decide +kernel
theorem dX8_init_0 : decode cX8_init 0 = .ok (.aload_n 0, 1) := by decide +kernel
theorem dX8_init_1 : decode cX8_init 1 = .ok (.invokespecial 5, 3) := by decide +kernel
theorem dX8_init_4 : decode cX8_init 4 = .ok (.aload_n 0, 1) := by decide +kernel
theorem dX8_init_5 : decode cX8_init 5 = .ok (.bipush 8, 2) := by decide +kernel
theorem dX8_init_7 : decode cX8_init 7 = .ok (.newarray .int, 2) := by decide +kernel
theorem dX8_init_9 : decode cX8_init 9 = .ok (.putfield 11, 3) := by decide +kernel
theorem dX8_init_12 : decode cX8_init 12 = .ok (.aload_n 0, 1) := by decide +kernel
theorem dX8_init_13 : decode cX8_init 13 = .ok (.bipush 8, 2) := by decide +kernel
theorem dX8_init_15 : decode cX8_init 15 = .ok (.newarray .int, 2) := by decide +kernel
theorem dX8_init_17 : decode cX8_init 17 = .ok (.putfield 15, 3) := by decide +kernel
theorem dX8_init_20 : decode cX8_init 20 = .ok (.aload_n 0, 1) := by decide +kernel
theorem dX8_init_21 : decode cX8_init 21 = .ok (.bipush 70, 2) := by decide +kernel
theorem dX8_init_23 : decode cX8_init 23 = .ok (.newarray .int, 2) := by decide +kernel
theorem dX8_init_25 : decode cX8_init 25 = .ok (.putfield 18, 3) := by decide +kernel
theorem dX8_init_28 : decode cX8_init 28 = .ok (.aload_n 0, 1) := by decide +kernel
theorem dX8_init_29 : decode cX8_init 29 = .ok (.bipush 70, 2) := by decide +kernel
theorem dX8_init_31 : decode cX8_init 31 = .ok (.newarray .int, 2) := by decide +kernel
theorem dX8_init_33 : decode cX8_init 33 = .ok (.putfield 21, 3) := by decide +kernel
theorem dX8_init_36 : decode cX8_init 36 = .ok (.aload_n 0, 1) := by decide +kernel
theorem dX8_init_37 : decode cX8_init 37 = .ok (.sipush 256, 3) := by decide +kernel
theorem dX8_init_40 : decode cX8_init 40 = .ok (.newarray .int, 2) := by decide +kernel
theorem dX8_init_42 : decode cX8_init 42 = .ok (.putfield 24, 3) := by decide +kernel
theorem dX8_init_45 : decode cX8_init 45 = .ok (.aload_n 0, 1) := by decide +kernel
theorem dX8_init_46 : decode cX8_init 46 = .ok (.bipush 28, 2) := by decide +kernel
theorem dX8_init_48 : decode cX8_init 48 = .ok (.newarray .int, 2) := by decide +kernel
theorem dX8_init_50 : decode cX8_init 50 = .ok (.putfield 27, 3) := by decide +kernel
theorem dX8_init_53 : decode cX8_init 53 = .ok (.return_, 1) := by decide +kernel
def bwX8_load_0l : List Nat := [42, 43, 180, 0, 30, 181, 0, 36, 42, 43, 180, 0, 37, 181, 0, 40, 3, 61, 28, 42, 180, 0, 36, 162, 0, 32, 42, 180, 0, 11, 28, 43, 28, 182, 0, 41, 79, 42, 180, 0, 15, 28, 43, 180, 0, 45, 28, 46, 79, 132, 2, 1, 167, 255, 222, 42, 182, 0, 46, 177]
theorem bwX8_load_0 : ((cX8_load.data.toList.drop 0).take 60).map UInt8.toNat = bwX8_load_0l := by decide +kernel
theorem dX8_load_0 : decode cX8_load 0 = .ok (.aload_n 0, 1) := bq_o42 (bq_of bwX8_load_0 0 (by decide +kernel))
theorem dX8_load_1 : decode cX8_load 1 = .ok (.aload_n 1, 1) := bq_o43 (bq_of bwX8_load_0 1 (by decide +kernel))
theorem dX8_load_2 : decode cX8_load 2 = .ok (.getfield 30, 3) := bq_o180 (a := 0) (b := 30) (bq_3 bwX8_load_0 2 (by decide +kernel)) rfl
theorem dX8_load_5 : decode cX8_load 5 = .ok (.putfield 36, 3) := bq_o181 (a := 0) (b := 36) (bq_3 bwX8_load_0 5 (by decide +kernel)) rfl
theorem dX8_load_8 : decode cX8_load 8 = .ok (.aload_n 0, 1) := bq_o42 (bq_of bwX8_load_0 8 (by decide +kernel))
theorem dX8_load_9 : decode cX8_load 9 = .ok (.aload_n 1, 1) := bq_o43 (bq_of bwX8_load_0 9 (by decide +kernel))
theorem dX8_load_10 : decode cX8_load 10 = .ok (.getfield 37, 3) := bq_o180 (a := 0) (b := 37) (bq_3 bwX8_load_0 10 (by decide +kernel)) rfl
theorem dX8_load_13 : decode cX8_load 13 = .ok (.putfield 40, 3) := bq_o181 (a := 0) (b := 40) (bq_3 bwX8_load_0 13 (by decide +kernel)) rfl
theorem dX8_load_16 : decode cX8_load 16 = .ok (.iconst 0, 1) := bq_o3 (bq_of bwX8_load_0 16 (by decide +kernel))
theorem dX8_load_17 : decode cX8_load 17 = .ok (.istore_n 2, 1) := bq_o61 (bq_of bwX8_load_0 17 (by decide +kernel))
theorem dX8_load_18 : decode cX8_load 18 = .ok (.iload_n 2, 1) := bq_o28 (bq_of bwX8_load_0 18 (by decide +kernel))
theorem dX8_load_19 : decode cX8_load 19 = .ok (.aload_n 0, 1) := bq_o42 (bq_of bwX8_load_0 19 (by decide +kernel))
theorem dX8_load_20 : decode cX8_load 20 = .ok (.getfield 36, 3) := bq_o180 (a := 0) (b := 36) (bq_3 bwX8_load_0 20 (by decide +kernel)) rfl
theorem dX8_load_23 : decode cX8_load 23 = .ok (.if_icmp .ge 32, 3) := bq_o162 (a := 0) (b := 32) (bq_3 bwX8_load_0 23 (by decide +kernel)) (by decide +kernel)
theorem dX8_load_26 : decode cX8_load 26 = .ok (.aload_n 0, 1) := bq_o42 (bq_of bwX8_load_0 26 (by decide +kernel))
theorem dX8_load_27 : decode cX8_load 27 = .ok (.getfield 11, 3) := bq_o180 (a := 0) (b := 11) (bq_3 bwX8_load_0 27 (by decide +kernel)) rfl
theorem dX8_load_30 : decode cX8_load 30 = .ok (.iload_n 2, 1) := bq_o28 (bq_of bwX8_load_0 30 (by decide +kernel))
theorem dX8_load_31 : decode cX8_load 31 = .ok (.aload_n 1, 1) := bq_o43 (bq_of bwX8_load_0 31 (by decide +kernel))
theorem dX8_load_32 : decode cX8_load 32 = .ok (.iload_n 2, 1) := bq_o28 (bq_of bwX8_load_0 32 (by decide +kernel))
theorem dX8_load_33 : decode cX8_load 33 = .ok (.invokevirtual 41, 3) := bq_o182 (a := 0) (b := 41) (bq_3 bwX8_load_0 33 (by decide +kernel)) rfl
theorem dX8_load_36 : decode cX8_load 36 = .ok (.iastore, 1) := bq_o79 (bq_of bwX8_load_0 36 (by decide +kernel))
theorem dX8_load_37 : decode cX8_load 37 = .ok (.aload_n 0, 1) := bq_o42 (bq_of bwX8_load_0 37 (by decide +kernel))
theorem dX8_load_38 : decode cX8_load 38 = .ok (.getfield 15, 3) := bq_o180 (a := 0) (b := 15) (bq_3 bwX8_load_0 38 (by decide +kernel)) rfl
theorem dX8_load_41 : decode cX8_load 41 = .ok (.iload_n 2, 1) := bq_o28 (bq_of bwX8_load_0 41 (by decide +kernel))
theorem dX8_load_42 : decode cX8_load 42 = .ok (.aload_n 1, 1) := bq_o43 (bq_of bwX8_load_0 42 (by decide +kernel))
theorem dX8_load_43 : decode cX8_load 43 = .ok (.getfield 45, 3) := bq_o180 (a := 0) (b := 45) (bq_3 bwX8_load_0 43 (by decide +kernel)) rfl
theorem dX8_load_46 : decode cX8_load 46 = .ok (.iload_n 2, 1) := bq_o28 (bq_of bwX8_load_0 46 (by decide +kernel))
theorem dX8_load_47 : decode cX8_load 47 = .ok (.iaload, 1) := bq_o46 (bq_of bwX8_load_0 47 (by decide +kernel))
theorem dX8_load_48 : decode cX8_load 48 = .ok (.iastore, 1) := bq_o79 (bq_of bwX8_load_0 48 (by decide +kernel))
theorem dX8_load_49 : decode cX8_load 49 = .ok (.iinc 2 1, 3) := bq_o132 (a := 2) (b := 1) (bq_3 bwX8_load_0 49 (by decide +kernel)) rfl (by decide +kernel)
theorem dX8_load_52 : decode cX8_load 52 = .ok (.goto (-34), 3) := bq_o167 (a := 255) (b := 222) (bq_3 bwX8_load_0 52 (by decide +kernel)) (by decide +kernel)
theorem dX8_load_55 : decode cX8_load 55 = .ok (.aload_n 0, 1) := bq_o42 (bq_of bwX8_load_0 55 (by decide +kernel))
theorem dX8_load_56 : decode cX8_load 56 = .ok (.invokevirtual 46, 3) := bq_o182 (a := 0) (b := 46) (bq_3 bwX8_load_0 56 (by decide +kernel)) rfl
theorem dX8_load_59 : decode cX8_load 59 = .ok (.return_, 1) := bq_o177 (bq_of bwX8_load_0 59 (by decide +kernel))
def bwX8_addStranger_0l : List Nat := [42, 180, 0, 36, 16, 8, 161, 0, 4, 177, 3, 60, 27, 42, 180, 0, 36, 162, 0, 24, 42, 180, 0, 11, 27, 92, 46, 4, 42, 180, 0, 36, 120, 128, 79, 132, 1, 1, 167, 255, 230, 42, 180, 0, 11, 42, 180, 0, 36, 42, 182, 0, 49, 79, 42, 180, 0, 15, 42, 180, 0, 36, 3, 79, 42, 89]
theorem bwX8_addStranger_0 : ((cX8_addStranger.data.toList.drop 0).take 66).map UInt8.toNat = bwX8_addStranger_0l := by decide +kernel
theorem dX8_addStranger_0 : decode cX8_addStranger 0 = .ok (.aload_n 0, 1) := bq_o42 (bq_of bwX8_addStranger_0 0 (by decide +kernel))
theorem dX8_addStranger_1 : decode cX8_addStranger 1 = .ok (.getfield 36, 3) := bq_o180 (a := 0) (b := 36) (bq_3 bwX8_addStranger_0 1 (by decide +kernel)) rfl
theorem dX8_addStranger_4 : decode cX8_addStranger 4 = .ok (.bipush 8, 2) := bq_o16 (a := 8) (bq_2 bwX8_addStranger_0 4 (by decide +kernel)) (by decide +kernel)
theorem dX8_addStranger_6 : decode cX8_addStranger 6 = .ok (.if_icmp .lt 4, 3) := bq_o161 (a := 0) (b := 4) (bq_3 bwX8_addStranger_0 6 (by decide +kernel)) (by decide +kernel)
theorem dX8_addStranger_9 : decode cX8_addStranger 9 = .ok (.return_, 1) := bq_o177 (bq_of bwX8_addStranger_0 9 (by decide +kernel))
theorem dX8_addStranger_10 : decode cX8_addStranger 10 = .ok (.iconst 0, 1) := bq_o3 (bq_of bwX8_addStranger_0 10 (by decide +kernel))
theorem dX8_addStranger_11 : decode cX8_addStranger 11 = .ok (.istore_n 1, 1) := bq_o60 (bq_of bwX8_addStranger_0 11 (by decide +kernel))
theorem dX8_addStranger_12 : decode cX8_addStranger 12 = .ok (.iload_n 1, 1) := bq_o27 (bq_of bwX8_addStranger_0 12 (by decide +kernel))
theorem dX8_addStranger_13 : decode cX8_addStranger 13 = .ok (.aload_n 0, 1) := bq_o42 (bq_of bwX8_addStranger_0 13 (by decide +kernel))
theorem dX8_addStranger_14 : decode cX8_addStranger 14 = .ok (.getfield 36, 3) := bq_o180 (a := 0) (b := 36) (bq_3 bwX8_addStranger_0 14 (by decide +kernel)) rfl
theorem dX8_addStranger_17 : decode cX8_addStranger 17 = .ok (.if_icmp .ge 24, 3) := bq_o162 (a := 0) (b := 24) (bq_3 bwX8_addStranger_0 17 (by decide +kernel)) (by decide +kernel)
theorem dX8_addStranger_20 : decode cX8_addStranger 20 = .ok (.aload_n 0, 1) := bq_o42 (bq_of bwX8_addStranger_0 20 (by decide +kernel))
theorem dX8_addStranger_21 : decode cX8_addStranger 21 = .ok (.getfield 11, 3) := bq_o180 (a := 0) (b := 11) (bq_3 bwX8_addStranger_0 21 (by decide +kernel)) rfl
theorem dX8_addStranger_24 : decode cX8_addStranger 24 = .ok (.iload_n 1, 1) := bq_o27 (bq_of bwX8_addStranger_0 24 (by decide +kernel))
theorem dX8_addStranger_25 : decode cX8_addStranger 25 = .ok (.dup2, 1) := bq_o92 (bq_of bwX8_addStranger_0 25 (by decide +kernel))
theorem dX8_addStranger_26 : decode cX8_addStranger 26 = .ok (.iaload, 1) := bq_o46 (bq_of bwX8_addStranger_0 26 (by decide +kernel))
theorem dX8_addStranger_27 : decode cX8_addStranger 27 = .ok (.iconst 1, 1) := bq_o4 (bq_of bwX8_addStranger_0 27 (by decide +kernel))
theorem dX8_addStranger_28 : decode cX8_addStranger 28 = .ok (.aload_n 0, 1) := bq_o42 (bq_of bwX8_addStranger_0 28 (by decide +kernel))
theorem dX8_addStranger_29 : decode cX8_addStranger 29 = .ok (.getfield 36, 3) := bq_o180 (a := 0) (b := 36) (bq_3 bwX8_addStranger_0 29 (by decide +kernel)) rfl
theorem dX8_addStranger_32 : decode cX8_addStranger 32 = .ok (.ishl, 1) := bq_o120 (bq_of bwX8_addStranger_0 32 (by decide +kernel))
theorem dX8_addStranger_33 : decode cX8_addStranger 33 = .ok (.ior, 1) := bq_o128 (bq_of bwX8_addStranger_0 33 (by decide +kernel))
theorem dX8_addStranger_34 : decode cX8_addStranger 34 = .ok (.iastore, 1) := bq_o79 (bq_of bwX8_addStranger_0 34 (by decide +kernel))
theorem dX8_addStranger_35 : decode cX8_addStranger 35 = .ok (.iinc 1 1, 3) := bq_o132 (a := 1) (b := 1) (bq_3 bwX8_addStranger_0 35 (by decide +kernel)) rfl (by decide +kernel)
theorem dX8_addStranger_38 : decode cX8_addStranger 38 = .ok (.goto (-26), 3) := bq_o167 (a := 255) (b := 230) (bq_3 bwX8_addStranger_0 38 (by decide +kernel)) (by decide +kernel)
theorem dX8_addStranger_41 : decode cX8_addStranger 41 = .ok (.aload_n 0, 1) := bq_o42 (bq_of bwX8_addStranger_0 41 (by decide +kernel))
theorem dX8_addStranger_42 : decode cX8_addStranger 42 = .ok (.getfield 11, 3) := bq_o180 (a := 0) (b := 11) (bq_3 bwX8_addStranger_0 42 (by decide +kernel)) rfl
theorem dX8_addStranger_45 : decode cX8_addStranger 45 = .ok (.aload_n 0, 1) := bq_o42 (bq_of bwX8_addStranger_0 45 (by decide +kernel))
theorem dX8_addStranger_46 : decode cX8_addStranger 46 = .ok (.getfield 36, 3) := bq_o180 (a := 0) (b := 36) (bq_3 bwX8_addStranger_0 46 (by decide +kernel)) rfl
theorem dX8_addStranger_49 : decode cX8_addStranger 49 = .ok (.aload_n 0, 1) := bq_o42 (bq_of bwX8_addStranger_0 49 (by decide +kernel))
theorem dX8_addStranger_50 : decode cX8_addStranger 50 = .ok (.invokevirtual 49, 3) := bq_o182 (a := 0) (b := 49) (bq_3 bwX8_addStranger_0 50 (by decide +kernel)) rfl
theorem dX8_addStranger_53 : decode cX8_addStranger 53 = .ok (.iastore, 1) := bq_o79 (bq_of bwX8_addStranger_0 53 (by decide +kernel))
theorem dX8_addStranger_54 : decode cX8_addStranger 54 = .ok (.aload_n 0, 1) := bq_o42 (bq_of bwX8_addStranger_0 54 (by decide +kernel))
theorem dX8_addStranger_55 : decode cX8_addStranger 55 = .ok (.getfield 15, 3) := bq_o180 (a := 0) (b := 15) (bq_3 bwX8_addStranger_0 55 (by decide +kernel)) rfl
theorem dX8_addStranger_58 : decode cX8_addStranger 58 = .ok (.aload_n 0, 1) := bq_o42 (bq_of bwX8_addStranger_0 58 (by decide +kernel))
theorem dX8_addStranger_59 : decode cX8_addStranger 59 = .ok (.getfield 36, 3) := bq_o180 (a := 0) (b := 36) (bq_3 bwX8_addStranger_0 59 (by decide +kernel)) rfl
theorem dX8_addStranger_62 : decode cX8_addStranger 62 = .ok (.iconst 0, 1) := bq_o3 (bq_of bwX8_addStranger_0 62 (by decide +kernel))
theorem dX8_addStranger_63 : decode cX8_addStranger 63 = .ok (.iastore, 1) := bq_o79 (bq_of bwX8_addStranger_0 63 (by decide +kernel))
def bwX8_addStranger_64l : List Nat := [42, 89, 180, 0, 36, 4, 96, 181, 0, 36, 42, 182, 0, 46, 177]
theorem bwX8_addStranger_64 : ((cX8_addStranger.data.toList.drop 64).take 15).map UInt8.toNat = bwX8_addStranger_64l := by decide +kernel
theorem dX8_addStranger_64 : decode cX8_addStranger 64 = .ok (.aload_n 0, 1) := bq_o42 (bq_of bwX8_addStranger_64 0 (by decide +kernel))
theorem dX8_addStranger_65 : decode cX8_addStranger 65 = .ok (.dup, 1) := bq_o89 (bq_of bwX8_addStranger_64 1 (by decide +kernel))
theorem dX8_addStranger_66 : decode cX8_addStranger 66 = .ok (.getfield 36, 3) := bq_o180 (a := 0) (b := 36) (bq_3 bwX8_addStranger_64 2 (by decide +kernel)) rfl
theorem dX8_addStranger_69 : decode cX8_addStranger 69 = .ok (.iconst 1, 1) := bq_o4 (bq_of bwX8_addStranger_64 5 (by decide +kernel))
theorem dX8_addStranger_70 : decode cX8_addStranger 70 = .ok (.iadd, 1) := bq_o96 (bq_of bwX8_addStranger_64 6 (by decide +kernel))
theorem dX8_addStranger_71 : decode cX8_addStranger 71 = .ok (.putfield 36, 3) := bq_o181 (a := 0) (b := 36) (bq_3 bwX8_addStranger_64 7 (by decide +kernel)) rfl
theorem dX8_addStranger_74 : decode cX8_addStranger 74 = .ok (.aload_n 0, 1) := bq_o42 (bq_of bwX8_addStranger_64 10 (by decide +kernel))
theorem dX8_addStranger_75 : decode cX8_addStranger 75 = .ok (.invokevirtual 46, 3) := bq_o182 (a := 0) (b := 46) (bq_3 bwX8_addStranger_64 11 (by decide +kernel)) rfl
theorem dX8_addStranger_78 : decode cX8_addStranger 78 = .ok (.return_, 1) := bq_o177 (bq_of bwX8_addStranger_64 14 (by decide +kernel))
theorem dX8_acquaint_0 : decode cX8_acquaint 0 = .ok (.iconst 0, 1) := by decide +kernel
theorem dX8_acquaint_1 : decode cX8_acquaint 1 = .ok (.istore_n 2, 1) := by decide +kernel
theorem dX8_acquaint_2 : decode cX8_acquaint 2 = .ok (.iload_n 2, 1) := by decide +kernel
theorem dX8_acquaint_3 : decode cX8_acquaint 3 = .ok (.aload_n 0, 1) := by decide +kernel
theorem dX8_acquaint_4 : decode cX8_acquaint 4 = .ok (.getfield 36, 3) := by decide +kernel
theorem dX8_acquaint_7 : decode cX8_acquaint 7 = .ok (.if_icmp .ge 29, 3) := by decide +kernel
theorem dX8_acquaint_10 : decode cX8_acquaint 10 = .ok (.iload_n 1, 1) := by decide +kernel
theorem dX8_acquaint_11 : decode cX8_acquaint 11 = .ok (.iload_n 2, 1) := by decide +kernel
theorem dX8_acquaint_12 : decode cX8_acquaint 12 = .ok (.ishr, 1) := by decide +kernel
theorem dX8_acquaint_13 : decode cX8_acquaint 13 = .ok (.iconst 1, 1) := by decide +kernel
theorem dX8_acquaint_14 : decode cX8_acquaint 14 = .ok (.iand, 1) := by decide +kernel
theorem dX8_acquaint_15 : decode cX8_acquaint 15 = .ok (.ifCond .eq 15, 3) := by decide +kernel
theorem dX8_acquaint_18 : decode cX8_acquaint 18 = .ok (.aload_n 0, 1) := by decide +kernel
theorem dX8_acquaint_19 : decode cX8_acquaint 19 = .ok (.getfield 11, 3) := by decide +kernel
theorem dX8_acquaint_22 : decode cX8_acquaint 22 = .ok (.iload_n 2, 1) := by decide +kernel
theorem dX8_acquaint_23 : decode cX8_acquaint 23 = .ok (.dup2, 1) := by decide +kernel
theorem dX8_acquaint_24 : decode cX8_acquaint 24 = .ok (.iaload, 1) := by decide +kernel
theorem dX8_acquaint_25 : decode cX8_acquaint 25 = .ok (.iload_n 1, 1) := by decide +kernel
theorem dX8_acquaint_26 : decode cX8_acquaint 26 = .ok (.iconst (-1), 1) := by decide +kernel
theorem dX8_acquaint_27 : decode cX8_acquaint 27 = .ok (.ixor, 1) := by decide +kernel
theorem dX8_acquaint_28 : decode cX8_acquaint 28 = .ok (.iand, 1) := by decide +kernel
theorem dX8_acquaint_29 : decode cX8_acquaint 29 = .ok (.iastore, 1) := by decide +kernel
theorem dX8_acquaint_30 : decode cX8_acquaint 30 = .ok (.iinc 2 1, 3) := by decide +kernel
theorem dX8_acquaint_33 : decode cX8_acquaint 33 = .ok (.goto (-31), 3) := by decide +kernel
theorem dX8_acquaint_36 : decode cX8_acquaint 36 = .ok (.aload_n 0, 1) := by decide +kernel
theorem dX8_acquaint_37 : decode cX8_acquaint 37 = .ok (.invokevirtual 46, 3) := by decide +kernel
theorem dX8_acquaint_40 : decode cX8_acquaint 40 = .ok (.return_, 1) := by decide +kernel
theorem dX8_everybody_0 : decode cX8_everybody 0 = .ok (.iconst 1, 1) := by decide +kernel
theorem dX8_everybody_1 : decode cX8_everybody 1 = .ok (.aload_n 0, 1) := by decide +kernel
theorem dX8_everybody_2 : decode cX8_everybody 2 = .ok (.getfield 36, 3) := by decide +kernel
theorem dX8_everybody_5 : decode cX8_everybody 5 = .ok (.ishl, 1) := by decide +kernel
theorem dX8_everybody_6 : decode cX8_everybody 6 = .ok (.iconst 1, 1) := by decide +kernel
theorem dX8_everybody_7 : decode cX8_everybody 7 = .ok (.isub, 1) := by decide +kernel
theorem dX8_everybody_8 : decode cX8_everybody 8 = .ok (.ireturn, 1) := by decide +kernel
theorem dX8_list_0 : decode cX8_list 0 = .ok (.aload_n 0, 1) := by decide +kernel
theorem dX8_list_1 : decode cX8_list 1 = .ok (.iconst 0, 1) := by decide +kernel
theorem dX8_list_2 : decode cX8_list 2 = .ok (.putfield 53, 3) := by decide +kernel
theorem dX8_list_5 : decode cX8_list 5 = .ok (.aload_n 0, 1) := by decide +kernel
theorem dX8_list_6 : decode cX8_list 6 = .ok (.iconst 0, 1) := by decide +kernel
theorem dX8_list_7 : decode cX8_list 7 = .ok (.putfield 56, 3) := by decide +kernel
theorem dX8_list_10 : decode cX8_list 10 = .ok (.aload_n 0, 1) := by decide +kernel
theorem dX8_list_11 : decode cX8_list 11 = .ok (.iconst 0, 1) := by decide +kernel
theorem dX8_list_12 : decode cX8_list 12 = .ok (.aload_n 0, 1) := by decide +kernel
theorem dX8_list_13 : decode cX8_list 13 = .ok (.invokevirtual 49, 3) := by decide +kernel
theorem dX8_list_16 : decode cX8_list 16 = .ok (.aload_n 0, 1) := by decide +kernel
theorem dX8_list_17 : decode cX8_list 17 = .ok (.getfield 40, 3) := by decide +kernel
theorem dX8_list_20 : decode cX8_list 20 = .ok (.invokevirtual 60, 3) := by decide +kernel
theorem dX8_list_23 : decode cX8_list 23 = .ok (.return_, 1) := by decide +kernel
def bwX8_gather_0l : List Nat := [29, 157, 0, 33, 42, 180, 0, 53, 16, 70, 162, 0, 23, 42, 180, 0, 18, 42, 180, 0, 53, 27, 79, 42, 89, 180, 0, 53, 4, 96, 181, 0, 53, 177, 3, 54, 4, 21, 4, 42, 180, 0, 36, 162, 0, 50, 28, 21, 4, 122, 4, 126, 153, 0, 35, 5, 21, 4, 120, 116, 54, 5, 42, 27, 4, 21]
theorem bwX8_gather_0 : ((cX8_gather.data.toList.drop 0).take 66).map UInt8.toNat = bwX8_gather_0l := by decide +kernel
theorem dX8_gather_0 : decode cX8_gather 0 = .ok (.iload_n 3, 1) := bq_o29 (bq_of bwX8_gather_0 0 (by decide +kernel))
theorem dX8_gather_1 : decode cX8_gather 1 = .ok (.ifCond .gt 33, 3) := bq_o157 (a := 0) (b := 33) (bq_3 bwX8_gather_0 1 (by decide +kernel)) (by decide +kernel)
theorem dX8_gather_4 : decode cX8_gather 4 = .ok (.aload_n 0, 1) := bq_o42 (bq_of bwX8_gather_0 4 (by decide +kernel))
theorem dX8_gather_5 : decode cX8_gather 5 = .ok (.getfield 53, 3) := bq_o180 (a := 0) (b := 53) (bq_3 bwX8_gather_0 5 (by decide +kernel)) rfl
theorem dX8_gather_8 : decode cX8_gather 8 = .ok (.bipush 70, 2) := bq_o16 (a := 70) (bq_2 bwX8_gather_0 8 (by decide +kernel)) (by decide +kernel)
theorem dX8_gather_10 : decode cX8_gather 10 = .ok (.if_icmp .ge 23, 3) := bq_o162 (a := 0) (b := 23) (bq_3 bwX8_gather_0 10 (by decide +kernel)) (by decide +kernel)
theorem dX8_gather_13 : decode cX8_gather 13 = .ok (.aload_n 0, 1) := bq_o42 (bq_of bwX8_gather_0 13 (by decide +kernel))
theorem dX8_gather_14 : decode cX8_gather 14 = .ok (.getfield 18, 3) := bq_o180 (a := 0) (b := 18) (bq_3 bwX8_gather_0 14 (by decide +kernel)) rfl
theorem dX8_gather_17 : decode cX8_gather 17 = .ok (.aload_n 0, 1) := bq_o42 (bq_of bwX8_gather_0 17 (by decide +kernel))
theorem dX8_gather_18 : decode cX8_gather 18 = .ok (.getfield 53, 3) := bq_o180 (a := 0) (b := 53) (bq_3 bwX8_gather_0 18 (by decide +kernel)) rfl
theorem dX8_gather_21 : decode cX8_gather 21 = .ok (.iload_n 1, 1) := bq_o27 (bq_of bwX8_gather_0 21 (by decide +kernel))
theorem dX8_gather_22 : decode cX8_gather 22 = .ok (.iastore, 1) := bq_o79 (bq_of bwX8_gather_0 22 (by decide +kernel))
theorem dX8_gather_23 : decode cX8_gather 23 = .ok (.aload_n 0, 1) := bq_o42 (bq_of bwX8_gather_0 23 (by decide +kernel))
theorem dX8_gather_24 : decode cX8_gather 24 = .ok (.dup, 1) := bq_o89 (bq_of bwX8_gather_0 24 (by decide +kernel))
theorem dX8_gather_25 : decode cX8_gather 25 = .ok (.getfield 53, 3) := bq_o180 (a := 0) (b := 53) (bq_3 bwX8_gather_0 25 (by decide +kernel)) rfl
theorem dX8_gather_28 : decode cX8_gather 28 = .ok (.iconst 1, 1) := bq_o4 (bq_of bwX8_gather_0 28 (by decide +kernel))
theorem dX8_gather_29 : decode cX8_gather 29 = .ok (.iadd, 1) := bq_o96 (bq_of bwX8_gather_0 29 (by decide +kernel))
theorem dX8_gather_30 : decode cX8_gather 30 = .ok (.putfield 53, 3) := bq_o181 (a := 0) (b := 53) (bq_3 bwX8_gather_0 30 (by decide +kernel)) rfl
theorem dX8_gather_33 : decode cX8_gather 33 = .ok (.return_, 1) := bq_o177 (bq_of bwX8_gather_0 33 (by decide +kernel))
theorem dX8_gather_34 : decode cX8_gather 34 = .ok (.iconst 0, 1) := bq_o3 (bq_of bwX8_gather_0 34 (by decide +kernel))
theorem dX8_gather_35 : decode cX8_gather 35 = .ok (.istore 4, 2) := bq_o54 (a := 4) (bq_2 bwX8_gather_0 35 (by decide +kernel)) rfl
theorem dX8_gather_37 : decode cX8_gather 37 = .ok (.iload 4, 2) := bq_o21 (a := 4) (bq_2 bwX8_gather_0 37 (by decide +kernel)) rfl
theorem dX8_gather_39 : decode cX8_gather 39 = .ok (.aload_n 0, 1) := bq_o42 (bq_of bwX8_gather_0 39 (by decide +kernel))
theorem dX8_gather_40 : decode cX8_gather 40 = .ok (.getfield 36, 3) := bq_o180 (a := 0) (b := 36) (bq_3 bwX8_gather_0 40 (by decide +kernel)) rfl
theorem dX8_gather_43 : decode cX8_gather 43 = .ok (.if_icmp .ge 50, 3) := bq_o162 (a := 0) (b := 50) (bq_3 bwX8_gather_0 43 (by decide +kernel)) (by decide +kernel)
theorem dX8_gather_46 : decode cX8_gather 46 = .ok (.iload_n 2, 1) := bq_o28 (bq_of bwX8_gather_0 46 (by decide +kernel))
theorem dX8_gather_47 : decode cX8_gather 47 = .ok (.iload 4, 2) := bq_o21 (a := 4) (bq_2 bwX8_gather_0 47 (by decide +kernel)) rfl
theorem dX8_gather_49 : decode cX8_gather 49 = .ok (.ishr, 1) := bq_o122 (bq_of bwX8_gather_0 49 (by decide +kernel))
theorem dX8_gather_50 : decode cX8_gather 50 = .ok (.iconst 1, 1) := bq_o4 (bq_of bwX8_gather_0 50 (by decide +kernel))
theorem dX8_gather_51 : decode cX8_gather 51 = .ok (.iand, 1) := bq_o126 (bq_of bwX8_gather_0 51 (by decide +kernel))
theorem dX8_gather_52 : decode cX8_gather 52 = .ok (.ifCond .eq 35, 3) := bq_o153 (a := 0) (b := 35) (bq_3 bwX8_gather_0 52 (by decide +kernel)) (by decide +kernel)
theorem dX8_gather_55 : decode cX8_gather 55 = .ok (.iconst 2, 1) := bq_o5 (bq_of bwX8_gather_0 55 (by decide +kernel))
theorem dX8_gather_56 : decode cX8_gather 56 = .ok (.iload 4, 2) := bq_o21 (a := 4) (bq_2 bwX8_gather_0 56 (by decide +kernel)) rfl
theorem dX8_gather_58 : decode cX8_gather 58 = .ok (.ishl, 1) := bq_o120 (bq_of bwX8_gather_0 58 (by decide +kernel))
theorem dX8_gather_59 : decode cX8_gather 59 = .ok (.ineg, 1) := bq_o116 (bq_of bwX8_gather_0 59 (by decide +kernel))
theorem dX8_gather_60 : decode cX8_gather 60 = .ok (.istore 5, 2) := bq_o54 (a := 5) (bq_2 bwX8_gather_0 60 (by decide +kernel)) rfl
theorem dX8_gather_62 : decode cX8_gather 62 = .ok (.aload_n 0, 1) := bq_o42 (bq_of bwX8_gather_0 62 (by decide +kernel))
theorem dX8_gather_63 : decode cX8_gather 63 = .ok (.iload_n 1, 1) := bq_o27 (bq_of bwX8_gather_0 63 (by decide +kernel))
def bwX8_gather_64l : List Nat := [4, 21, 4, 120, 128, 28, 42, 180, 0, 11, 21, 4, 46, 126, 21, 5, 126, 29, 4, 100, 182, 0, 60, 132, 4, 1, 167, 255, 203, 177]
theorem bwX8_gather_64 : ((cX8_gather.data.toList.drop 64).take 30).map UInt8.toNat = bwX8_gather_64l := by decide +kernel
theorem dX8_gather_64 : decode cX8_gather 64 = .ok (.iconst 1, 1) := bq_o4 (bq_of bwX8_gather_64 0 (by decide +kernel))
theorem dX8_gather_65 : decode cX8_gather 65 = .ok (.iload 4, 2) := bq_o21 (a := 4) (bq_2 bwX8_gather_64 1 (by decide +kernel)) rfl
theorem dX8_gather_67 : decode cX8_gather 67 = .ok (.ishl, 1) := bq_o120 (bq_of bwX8_gather_64 3 (by decide +kernel))
theorem dX8_gather_68 : decode cX8_gather 68 = .ok (.ior, 1) := bq_o128 (bq_of bwX8_gather_64 4 (by decide +kernel))
theorem dX8_gather_69 : decode cX8_gather 69 = .ok (.iload_n 2, 1) := bq_o28 (bq_of bwX8_gather_64 5 (by decide +kernel))
theorem dX8_gather_70 : decode cX8_gather 70 = .ok (.aload_n 0, 1) := bq_o42 (bq_of bwX8_gather_64 6 (by decide +kernel))
theorem dX8_gather_71 : decode cX8_gather 71 = .ok (.getfield 11, 3) := bq_o180 (a := 0) (b := 11) (bq_3 bwX8_gather_64 7 (by decide +kernel)) rfl
theorem dX8_gather_74 : decode cX8_gather 74 = .ok (.iload 4, 2) := bq_o21 (a := 4) (bq_2 bwX8_gather_64 10 (by decide +kernel)) rfl
theorem dX8_gather_76 : decode cX8_gather 76 = .ok (.iaload, 1) := bq_o46 (bq_of bwX8_gather_64 12 (by decide +kernel))
theorem dX8_gather_77 : decode cX8_gather 77 = .ok (.iand, 1) := bq_o126 (bq_of bwX8_gather_64 13 (by decide +kernel))
theorem dX8_gather_78 : decode cX8_gather 78 = .ok (.iload 5, 2) := bq_o21 (a := 5) (bq_2 bwX8_gather_64 14 (by decide +kernel)) rfl
theorem dX8_gather_80 : decode cX8_gather 80 = .ok (.iand, 1) := bq_o126 (bq_of bwX8_gather_64 16 (by decide +kernel))
theorem dX8_gather_81 : decode cX8_gather 81 = .ok (.iload_n 3, 1) := bq_o29 (bq_of bwX8_gather_64 17 (by decide +kernel))
theorem dX8_gather_82 : decode cX8_gather 82 = .ok (.iconst 1, 1) := bq_o4 (bq_of bwX8_gather_64 18 (by decide +kernel))
theorem dX8_gather_83 : decode cX8_gather 83 = .ok (.isub, 1) := bq_o100 (bq_of bwX8_gather_64 19 (by decide +kernel))
theorem dX8_gather_84 : decode cX8_gather 84 = .ok (.invokevirtual 60, 3) := bq_o182 (a := 0) (b := 60) (bq_3 bwX8_gather_64 20 (by decide +kernel)) rfl
theorem dX8_gather_87 : decode cX8_gather 87 = .ok (.iinc 4 1, 3) := bq_o132 (a := 4) (b := 1) (bq_3 bwX8_gather_64 23 (by decide +kernel)) rfl (by decide +kernel)
theorem dX8_gather_90 : decode cX8_gather 90 = .ok (.goto (-53), 3) := bq_o167 (a := 255) (b := 203) (bq_3 bwX8_gather_64 26 (by decide +kernel)) (by decide +kernel)
theorem dX8_gather_93 : decode cX8_gather 93 = .ok (.return_, 1) := bq_o177 (bq_of bwX8_gather_64 29 (by decide +kernel))
theorem dX8_isOne_0 : decode cX8_isOne 0 = .ok (.iconst 0, 1) := by decide +kernel
theorem dX8_isOne_1 : decode cX8_isOne 1 = .ok (.istore_n 2, 1) := by decide +kernel
theorem dX8_isOne_2 : decode cX8_isOne 2 = .ok (.iload_n 2, 1) := by decide +kernel
theorem dX8_isOne_3 : decode cX8_isOne 3 = .ok (.aload_n 0, 1) := by decide +kernel
theorem dX8_isOne_4 : decode cX8_isOne 4 = .ok (.getfield 53, 3) := by decide +kernel
theorem dX8_isOne_7 : decode cX8_isOne 7 = .ok (.if_icmp .ge 21, 3) := by decide +kernel
theorem dX8_isOne_10 : decode cX8_isOne 10 = .ok (.aload_n 0, 1) := by decide +kernel
theorem dX8_isOne_11 : decode cX8_isOne 11 = .ok (.getfield 18, 3) := by decide +kernel
theorem dX8_isOne_14 : decode cX8_isOne 14 = .ok (.iload_n 2, 1) := by decide +kernel
theorem dX8_isOne_15 : decode cX8_isOne 15 = .ok (.iaload, 1) := by decide +kernel
theorem dX8_isOne_16 : decode cX8_isOne 16 = .ok (.iload_n 1, 1) := by decide +kernel
theorem dX8_isOne_17 : decode cX8_isOne 17 = .ok (.if_icmp .ne 5, 3) := by decide +kernel
theorem dX8_isOne_20 : decode cX8_isOne 20 = .ok (.iconst 1, 1) := by decide +kernel
theorem dX8_isOne_21 : decode cX8_isOne 21 = .ok (.ireturn, 1) := by decide +kernel
theorem dX8_isOne_22 : decode cX8_isOne 22 = .ok (.iinc 2 1, 3) := by decide +kernel
theorem dX8_isOne_25 : decode cX8_isOne 25 = .ok (.goto (-23), 3) := by decide +kernel
theorem dX8_isOne_28 : decode cX8_isOne 28 = .ok (.iconst 0, 1) := by decide +kernel
theorem dX8_isOne_29 : decode cX8_isOne 29 = .ok (.ireturn, 1) := by decide +kernel
theorem dX8_countIn_0 : decode cX8_countIn 0 = .ok (.iconst 0, 1) := by decide +kernel
theorem dX8_countIn_1 : decode cX8_countIn 1 = .ok (.istore_n 2, 1) := by decide +kernel
theorem dX8_countIn_2 : decode cX8_countIn 2 = .ok (.iconst 0, 1) := by decide +kernel
theorem dX8_countIn_3 : decode cX8_countIn 3 = .ok (.istore_n 3, 1) := by decide +kernel
theorem dX8_countIn_4 : decode cX8_countIn 4 = .ok (.iload_n 3, 1) := by decide +kernel
theorem dX8_countIn_5 : decode cX8_countIn 5 = .ok (.aload_n 0, 1) := by decide +kernel
theorem dX8_countIn_6 : decode cX8_countIn 6 = .ok (.getfield 53, 3) := by decide +kernel
theorem dX8_countIn_9 : decode cX8_countIn 9 = .ok (.if_icmp .ge 34, 3) := by decide +kernel
theorem dX8_countIn_12 : decode cX8_countIn 12 = .ok (.iload_n 2, 1) := by decide +kernel
theorem dX8_countIn_13 : decode cX8_countIn 13 = .ok (.aload_n 0, 1) := by decide +kernel
theorem dX8_countIn_14 : decode cX8_countIn 14 = .ok (.getfield 18, 3) := by decide +kernel
theorem dX8_countIn_17 : decode cX8_countIn 17 = .ok (.iload_n 3, 1) := by decide +kernel
theorem dX8_countIn_18 : decode cX8_countIn 18 = .ok (.iaload, 1) := by decide +kernel
theorem dX8_countIn_19 : decode cX8_countIn 19 = .ok (.iload_n 1, 1) := by decide +kernel
theorem dX8_countIn_20 : decode cX8_countIn 20 = .ok (.iand, 1) := by decide +kernel
theorem dX8_countIn_21 : decode cX8_countIn 21 = .ok (.aload_n 0, 1) := by decide +kernel
theorem dX8_countIn_22 : decode cX8_countIn 22 = .ok (.getfield 18, 3) := by decide +kernel
theorem dX8_countIn_25 : decode cX8_countIn 25 = .ok (.iload_n 3, 1) := by decide +kernel
theorem dX8_countIn_26 : decode cX8_countIn 26 = .ok (.iaload, 1) := by decide +kernel
theorem dX8_countIn_27 : decode cX8_countIn 27 = .ok (.if_icmp .ne 7, 3) := by decide +kernel
theorem dX8_countIn_30 : decode cX8_countIn 30 = .ok (.iconst 1, 1) := by decide +kernel
theorem dX8_countIn_31 : decode cX8_countIn 31 = .ok (.goto 4, 3) := by decide +kernel
theorem dX8_countIn_34 : decode cX8_countIn 34 = .ok (.iconst 0, 1) := by decide +kernel
theorem dX8_countIn_35 : decode cX8_countIn 35 = .ok (.iadd, 1) := by decide +kernel
theorem dX8_countIn_36 : decode cX8_countIn 36 = .ok (.istore_n 2, 1) := by decide +kernel
theorem dX8_countIn_37 : decode cX8_countIn 37 = .ok (.iinc 3 1, 3) := by decide +kernel
theorem dX8_countIn_40 : decode cX8_countIn 40 = .ok (.goto (-36), 3) := by decide +kernel
theorem dX8_countIn_43 : decode cX8_countIn 43 = .ok (.iload_n 2, 1) := by decide +kernel
theorem dX8_countIn_44 : decode cX8_countIn 44 = .ok (.ireturn, 1) := by decide +kernel
theorem dX8_countWith_0 : decode cX8_countWith 0 = .ok (.iconst 0, 1) := by decide +kernel
theorem dX8_countWith_1 : decode cX8_countWith 1 = .ok (.istore_n 2, 1) := by decide +kernel
theorem dX8_countWith_2 : decode cX8_countWith 2 = .ok (.iconst 0, 1) := by decide +kernel
theorem dX8_countWith_3 : decode cX8_countWith 3 = .ok (.istore_n 3, 1) := by decide +kernel
theorem dX8_countWith_4 : decode cX8_countWith 4 = .ok (.iload_n 3, 1) := by decide +kernel
theorem dX8_countWith_5 : decode cX8_countWith 5 = .ok (.aload_n 0, 1) := by decide +kernel
theorem dX8_countWith_6 : decode cX8_countWith 6 = .ok (.getfield 53, 3) := by decide +kernel
theorem dX8_countWith_9 : decode cX8_countWith 9 = .ok (.if_icmp .ge 29, 3) := by decide +kernel
theorem dX8_countWith_12 : decode cX8_countWith 12 = .ok (.iload_n 2, 1) := by decide +kernel
theorem dX8_countWith_13 : decode cX8_countWith 13 = .ok (.aload_n 0, 1) := by decide +kernel
theorem dX8_countWith_14 : decode cX8_countWith 14 = .ok (.getfield 18, 3) := by decide +kernel
theorem dX8_countWith_17 : decode cX8_countWith 17 = .ok (.iload_n 3, 1) := by decide +kernel
theorem dX8_countWith_18 : decode cX8_countWith 18 = .ok (.iaload, 1) := by decide +kernel
theorem dX8_countWith_19 : decode cX8_countWith 19 = .ok (.iload_n 1, 1) := by decide +kernel
theorem dX8_countWith_20 : decode cX8_countWith 20 = .ok (.iand, 1) := by decide +kernel
theorem dX8_countWith_21 : decode cX8_countWith 21 = .ok (.iload_n 1, 1) := by decide +kernel
theorem dX8_countWith_22 : decode cX8_countWith 22 = .ok (.if_icmp .ne 7, 3) := by decide +kernel
theorem dX8_countWith_25 : decode cX8_countWith 25 = .ok (.iconst 1, 1) := by decide +kernel
theorem dX8_countWith_26 : decode cX8_countWith 26 = .ok (.goto 4, 3) := by decide +kernel
theorem dX8_countWith_29 : decode cX8_countWith 29 = .ok (.iconst 0, 1) := by decide +kernel
theorem dX8_countWith_30 : decode cX8_countWith 30 = .ok (.iadd, 1) := by decide +kernel
theorem dX8_countWith_31 : decode cX8_countWith 31 = .ok (.istore_n 2, 1) := by decide +kernel
theorem dX8_countWith_32 : decode cX8_countWith 32 = .ok (.iinc 3 1, 3) := by decide +kernel
theorem dX8_countWith_35 : decode cX8_countWith 35 = .ok (.goto (-31), 3) := by decide +kernel
theorem dX8_countWith_38 : decode cX8_countWith 38 = .ok (.iload_n 2, 1) := by decide +kernel
theorem dX8_countWith_39 : decode cX8_countWith 39 = .ok (.ireturn, 1) := by decide +kernel
theorem dX8_firstIn_0 : decode cX8_firstIn 0 = .ok (.iconst 0, 1) := by decide +kernel
theorem dX8_firstIn_1 : decode cX8_firstIn 1 = .ok (.istore_n 2, 1) := by decide +kernel
theorem dX8_firstIn_2 : decode cX8_firstIn 2 = .ok (.iload_n 2, 1) := by decide +kernel
theorem dX8_firstIn_3 : decode cX8_firstIn 3 = .ok (.aload_n 0, 1) := by decide +kernel
theorem dX8_firstIn_4 : decode cX8_firstIn 4 = .ok (.getfield 53, 3) := by decide +kernel
theorem dX8_firstIn_7 : decode cX8_firstIn 7 = .ok (.if_icmp .ge 33, 3) := by decide +kernel
theorem dX8_firstIn_10 : decode cX8_firstIn 10 = .ok (.aload_n 0, 1) := by decide +kernel
theorem dX8_firstIn_11 : decode cX8_firstIn 11 = .ok (.getfield 18, 3) := by decide +kernel
theorem dX8_firstIn_14 : decode cX8_firstIn 14 = .ok (.iload_n 2, 1) := by decide +kernel
theorem dX8_firstIn_15 : decode cX8_firstIn 15 = .ok (.iaload, 1) := by decide +kernel
theorem dX8_firstIn_16 : decode cX8_firstIn 16 = .ok (.iload_n 1, 1) := by decide +kernel
theorem dX8_firstIn_17 : decode cX8_firstIn 17 = .ok (.iand, 1) := by decide +kernel
theorem dX8_firstIn_18 : decode cX8_firstIn 18 = .ok (.aload_n 0, 1) := by decide +kernel
theorem dX8_firstIn_19 : decode cX8_firstIn 19 = .ok (.getfield 18, 3) := by decide +kernel
theorem dX8_firstIn_22 : decode cX8_firstIn 22 = .ok (.iload_n 2, 1) := by decide +kernel
theorem dX8_firstIn_23 : decode cX8_firstIn 23 = .ok (.iaload, 1) := by decide +kernel
theorem dX8_firstIn_24 : decode cX8_firstIn 24 = .ok (.if_icmp .ne 10, 3) := by decide +kernel
theorem dX8_firstIn_27 : decode cX8_firstIn 27 = .ok (.aload_n 0, 1) := by decide +kernel
theorem dX8_firstIn_28 : decode cX8_firstIn 28 = .ok (.getfield 18, 3) := by decide +kernel
theorem dX8_firstIn_31 : decode cX8_firstIn 31 = .ok (.iload_n 2, 1) := by decide +kernel
theorem dX8_firstIn_32 : decode cX8_firstIn 32 = .ok (.iaload, 1) := by decide +kernel
theorem dX8_firstIn_33 : decode cX8_firstIn 33 = .ok (.ireturn, 1) := by decide +kernel
theorem dX8_firstIn_34 : decode cX8_firstIn 34 = .ok (.iinc 2 1, 3) := by decide +kernel
theorem dX8_firstIn_37 : decode cX8_firstIn 37 = .ok (.goto (-35), 3) := by decide +kernel
theorem dX8_firstIn_40 : decode cX8_firstIn 40 = .ok (.iconst 0, 1) := by decide +kernel
theorem dX8_firstIn_41 : decode cX8_firstIn 41 = .ok (.ireturn, 1) := by decide +kernel
theorem dX8_mostFrom_0 : decode cX8_mostFrom 0 = .ok (.aload_n 0, 1) := by decide +kernel
theorem dX8_mostFrom_1 : decode cX8_mostFrom 1 = .ok (.getfield 56, 3) := by decide +kernel
theorem dX8_mostFrom_4 : decode cX8_mostFrom 4 = .ok (.ifCond .ne 12, 3) := by decide +kernel
theorem dX8_mostFrom_7 : decode cX8_mostFrom 7 = .ok (.aload_n 0, 1) := by decide +kernel
theorem dX8_mostFrom_8 : decode cX8_mostFrom 8 = .ok (.invokevirtual 64, 3) := by decide +kernel
theorem dX8_mostFrom_11 : decode cX8_mostFrom 11 = .ok (.aload_n 0, 1) := by decide +kernel
theorem dX8_mostFrom_12 : decode cX8_mostFrom 12 = .ok (.iconst 1, 1) := by decide +kernel
theorem dX8_mostFrom_13 : decode cX8_mostFrom 13 = .ok (.putfield 56, 3) := by decide +kernel
theorem dX8_mostFrom_16 : decode cX8_mostFrom 16 = .ok (.aload_n 0, 1) := by decide +kernel
theorem dX8_mostFrom_17 : decode cX8_mostFrom 17 = .ok (.getfield 24, 3) := by decide +kernel
theorem dX8_mostFrom_20 : decode cX8_mostFrom 20 = .ok (.iload_n 1, 1) := by decide +kernel
theorem dX8_mostFrom_21 : decode cX8_mostFrom 21 = .ok (.aload_n 0, 1) := by decide +kernel
theorem dX8_mostFrom_22 : decode cX8_mostFrom 22 = .ok (.invokevirtual 49, 3) := by decide +kernel
theorem dX8_mostFrom_25 : decode cX8_mostFrom 25 = .ok (.iand, 1) := by decide +kernel
theorem dX8_mostFrom_26 : decode cX8_mostFrom 26 = .ok (.iaload, 1) := by decide +kernel
theorem dX8_mostFrom_27 : decode cX8_mostFrom 27 = .ok (.ireturn, 1) := by decide +kernel
def bwX8_countMost_0l : List Nat := [42, 180, 0, 24, 3, 3, 79, 4, 60, 27, 4, 42, 180, 0, 36, 120, 162, 0, 98, 27, 27, 116, 126, 61, 42, 180, 0, 24, 27, 28, 130, 46, 62, 3, 54, 4, 21, 4, 42, 180, 0, 53, 162, 0, 59, 42, 180, 0, 18, 21, 4, 46, 54, 5, 21, 5, 28, 126, 153, 0, 37, 21, 5, 27, 126, 21]
theorem bwX8_countMost_0 : ((cX8_countMost.data.toList.drop 0).take 66).map UInt8.toNat = bwX8_countMost_0l := by decide +kernel
theorem dX8_countMost_0 : decode cX8_countMost 0 = .ok (.aload_n 0, 1) := bq_o42 (bq_of bwX8_countMost_0 0 (by decide +kernel))
theorem dX8_countMost_1 : decode cX8_countMost 1 = .ok (.getfield 24, 3) := bq_o180 (a := 0) (b := 24) (bq_3 bwX8_countMost_0 1 (by decide +kernel)) rfl
theorem dX8_countMost_4 : decode cX8_countMost 4 = .ok (.iconst 0, 1) := bq_o3 (bq_of bwX8_countMost_0 4 (by decide +kernel))
theorem dX8_countMost_5 : decode cX8_countMost 5 = .ok (.iconst 0, 1) := bq_o3 (bq_of bwX8_countMost_0 5 (by decide +kernel))
theorem dX8_countMost_6 : decode cX8_countMost 6 = .ok (.iastore, 1) := bq_o79 (bq_of bwX8_countMost_0 6 (by decide +kernel))
theorem dX8_countMost_7 : decode cX8_countMost 7 = .ok (.iconst 1, 1) := bq_o4 (bq_of bwX8_countMost_0 7 (by decide +kernel))
theorem dX8_countMost_8 : decode cX8_countMost 8 = .ok (.istore_n 1, 1) := bq_o60 (bq_of bwX8_countMost_0 8 (by decide +kernel))
theorem dX8_countMost_9 : decode cX8_countMost 9 = .ok (.iload_n 1, 1) := bq_o27 (bq_of bwX8_countMost_0 9 (by decide +kernel))
theorem dX8_countMost_10 : decode cX8_countMost 10 = .ok (.iconst 1, 1) := bq_o4 (bq_of bwX8_countMost_0 10 (by decide +kernel))
theorem dX8_countMost_11 : decode cX8_countMost 11 = .ok (.aload_n 0, 1) := bq_o42 (bq_of bwX8_countMost_0 11 (by decide +kernel))
theorem dX8_countMost_12 : decode cX8_countMost 12 = .ok (.getfield 36, 3) := bq_o180 (a := 0) (b := 36) (bq_3 bwX8_countMost_0 12 (by decide +kernel)) rfl
theorem dX8_countMost_15 : decode cX8_countMost 15 = .ok (.ishl, 1) := bq_o120 (bq_of bwX8_countMost_0 15 (by decide +kernel))
theorem dX8_countMost_16 : decode cX8_countMost 16 = .ok (.if_icmp .ge 98, 3) := bq_o162 (a := 0) (b := 98) (bq_3 bwX8_countMost_0 16 (by decide +kernel)) (by decide +kernel)
theorem dX8_countMost_19 : decode cX8_countMost 19 = .ok (.iload_n 1, 1) := bq_o27 (bq_of bwX8_countMost_0 19 (by decide +kernel))
theorem dX8_countMost_20 : decode cX8_countMost 20 = .ok (.iload_n 1, 1) := bq_o27 (bq_of bwX8_countMost_0 20 (by decide +kernel))
theorem dX8_countMost_21 : decode cX8_countMost 21 = .ok (.ineg, 1) := bq_o116 (bq_of bwX8_countMost_0 21 (by decide +kernel))
theorem dX8_countMost_22 : decode cX8_countMost 22 = .ok (.iand, 1) := bq_o126 (bq_of bwX8_countMost_0 22 (by decide +kernel))
theorem dX8_countMost_23 : decode cX8_countMost 23 = .ok (.istore_n 2, 1) := bq_o61 (bq_of bwX8_countMost_0 23 (by decide +kernel))
theorem dX8_countMost_24 : decode cX8_countMost 24 = .ok (.aload_n 0, 1) := bq_o42 (bq_of bwX8_countMost_0 24 (by decide +kernel))
theorem dX8_countMost_25 : decode cX8_countMost 25 = .ok (.getfield 24, 3) := bq_o180 (a := 0) (b := 24) (bq_3 bwX8_countMost_0 25 (by decide +kernel)) rfl
theorem dX8_countMost_28 : decode cX8_countMost 28 = .ok (.iload_n 1, 1) := bq_o27 (bq_of bwX8_countMost_0 28 (by decide +kernel))
theorem dX8_countMost_29 : decode cX8_countMost 29 = .ok (.iload_n 2, 1) := bq_o28 (bq_of bwX8_countMost_0 29 (by decide +kernel))
theorem dX8_countMost_30 : decode cX8_countMost 30 = .ok (.ixor, 1) := bq_o130 (bq_of bwX8_countMost_0 30 (by decide +kernel))
theorem dX8_countMost_31 : decode cX8_countMost 31 = .ok (.iaload, 1) := bq_o46 (bq_of bwX8_countMost_0 31 (by decide +kernel))
theorem dX8_countMost_32 : decode cX8_countMost 32 = .ok (.istore_n 3, 1) := bq_o62 (bq_of bwX8_countMost_0 32 (by decide +kernel))
theorem dX8_countMost_33 : decode cX8_countMost 33 = .ok (.iconst 0, 1) := bq_o3 (bq_of bwX8_countMost_0 33 (by decide +kernel))
theorem dX8_countMost_34 : decode cX8_countMost 34 = .ok (.istore 4, 2) := bq_o54 (a := 4) (bq_2 bwX8_countMost_0 34 (by decide +kernel)) rfl
theorem dX8_countMost_36 : decode cX8_countMost 36 = .ok (.iload 4, 2) := bq_o21 (a := 4) (bq_2 bwX8_countMost_0 36 (by decide +kernel)) rfl
theorem dX8_countMost_38 : decode cX8_countMost 38 = .ok (.aload_n 0, 1) := bq_o42 (bq_of bwX8_countMost_0 38 (by decide +kernel))
theorem dX8_countMost_39 : decode cX8_countMost 39 = .ok (.getfield 53, 3) := bq_o180 (a := 0) (b := 53) (bq_3 bwX8_countMost_0 39 (by decide +kernel)) rfl
theorem dX8_countMost_42 : decode cX8_countMost 42 = .ok (.if_icmp .ge 59, 3) := bq_o162 (a := 0) (b := 59) (bq_3 bwX8_countMost_0 42 (by decide +kernel)) (by decide +kernel)
theorem dX8_countMost_45 : decode cX8_countMost 45 = .ok (.aload_n 0, 1) := bq_o42 (bq_of bwX8_countMost_0 45 (by decide +kernel))
theorem dX8_countMost_46 : decode cX8_countMost 46 = .ok (.getfield 18, 3) := bq_o180 (a := 0) (b := 18) (bq_3 bwX8_countMost_0 46 (by decide +kernel)) rfl
theorem dX8_countMost_49 : decode cX8_countMost 49 = .ok (.iload 4, 2) := bq_o21 (a := 4) (bq_2 bwX8_countMost_0 49 (by decide +kernel)) rfl
theorem dX8_countMost_51 : decode cX8_countMost 51 = .ok (.iaload, 1) := bq_o46 (bq_of bwX8_countMost_0 51 (by decide +kernel))
theorem dX8_countMost_52 : decode cX8_countMost 52 = .ok (.istore 5, 2) := bq_o54 (a := 5) (bq_2 bwX8_countMost_0 52 (by decide +kernel)) rfl
theorem dX8_countMost_54 : decode cX8_countMost 54 = .ok (.iload 5, 2) := bq_o21 (a := 5) (bq_2 bwX8_countMost_0 54 (by decide +kernel)) rfl
theorem dX8_countMost_56 : decode cX8_countMost 56 = .ok (.iload_n 2, 1) := bq_o28 (bq_of bwX8_countMost_0 56 (by decide +kernel))
theorem dX8_countMost_57 : decode cX8_countMost 57 = .ok (.iand, 1) := bq_o126 (bq_of bwX8_countMost_0 57 (by decide +kernel))
theorem dX8_countMost_58 : decode cX8_countMost 58 = .ok (.ifCond .eq 37, 3) := bq_o153 (a := 0) (b := 37) (bq_3 bwX8_countMost_0 58 (by decide +kernel)) (by decide +kernel)
theorem dX8_countMost_61 : decode cX8_countMost 61 = .ok (.iload 5, 2) := bq_o21 (a := 5) (bq_2 bwX8_countMost_0 61 (by decide +kernel)) rfl
theorem dX8_countMost_63 : decode cX8_countMost 63 = .ok (.iload_n 1, 1) := bq_o27 (bq_of bwX8_countMost_0 63 (by decide +kernel))
def bwX8_countMost_64l : List Nat := [126, 21, 5, 160, 0, 28, 42, 180, 0, 24, 27, 21, 5, 130, 46, 29, 161, 0, 15, 4, 42, 180, 0, 24, 27, 21, 5, 130, 46, 96, 62, 132, 4, 1, 167, 255, 194, 42, 180, 0, 24, 27, 29, 79, 132, 1, 1, 167, 255, 154, 177]
theorem bwX8_countMost_64 : ((cX8_countMost.data.toList.drop 64).take 51).map UInt8.toNat = bwX8_countMost_64l := by decide +kernel
theorem dX8_countMost_64 : decode cX8_countMost 64 = .ok (.iand, 1) := bq_o126 (bq_of bwX8_countMost_64 0 (by decide +kernel))
theorem dX8_countMost_65 : decode cX8_countMost 65 = .ok (.iload 5, 2) := bq_o21 (a := 5) (bq_2 bwX8_countMost_64 1 (by decide +kernel)) rfl
theorem dX8_countMost_67 : decode cX8_countMost 67 = .ok (.if_icmp .ne 28, 3) := bq_o160 (a := 0) (b := 28) (bq_3 bwX8_countMost_64 3 (by decide +kernel)) (by decide +kernel)
theorem dX8_countMost_70 : decode cX8_countMost 70 = .ok (.aload_n 0, 1) := bq_o42 (bq_of bwX8_countMost_64 6 (by decide +kernel))
theorem dX8_countMost_71 : decode cX8_countMost 71 = .ok (.getfield 24, 3) := bq_o180 (a := 0) (b := 24) (bq_3 bwX8_countMost_64 7 (by decide +kernel)) rfl
theorem dX8_countMost_74 : decode cX8_countMost 74 = .ok (.iload_n 1, 1) := bq_o27 (bq_of bwX8_countMost_64 10 (by decide +kernel))
theorem dX8_countMost_75 : decode cX8_countMost 75 = .ok (.iload 5, 2) := bq_o21 (a := 5) (bq_2 bwX8_countMost_64 11 (by decide +kernel)) rfl
theorem dX8_countMost_77 : decode cX8_countMost 77 = .ok (.ixor, 1) := bq_o130 (bq_of bwX8_countMost_64 13 (by decide +kernel))
theorem dX8_countMost_78 : decode cX8_countMost 78 = .ok (.iaload, 1) := bq_o46 (bq_of bwX8_countMost_64 14 (by decide +kernel))
theorem dX8_countMost_79 : decode cX8_countMost 79 = .ok (.iload_n 3, 1) := bq_o29 (bq_of bwX8_countMost_64 15 (by decide +kernel))
theorem dX8_countMost_80 : decode cX8_countMost 80 = .ok (.if_icmp .lt 15, 3) := bq_o161 (a := 0) (b := 15) (bq_3 bwX8_countMost_64 16 (by decide +kernel)) (by decide +kernel)
theorem dX8_countMost_83 : decode cX8_countMost 83 = .ok (.iconst 1, 1) := bq_o4 (bq_of bwX8_countMost_64 19 (by decide +kernel))
theorem dX8_countMost_84 : decode cX8_countMost 84 = .ok (.aload_n 0, 1) := bq_o42 (bq_of bwX8_countMost_64 20 (by decide +kernel))
theorem dX8_countMost_85 : decode cX8_countMost 85 = .ok (.getfield 24, 3) := bq_o180 (a := 0) (b := 24) (bq_3 bwX8_countMost_64 21 (by decide +kernel)) rfl
theorem dX8_countMost_88 : decode cX8_countMost 88 = .ok (.iload_n 1, 1) := bq_o27 (bq_of bwX8_countMost_64 24 (by decide +kernel))
theorem dX8_countMost_89 : decode cX8_countMost 89 = .ok (.iload 5, 2) := bq_o21 (a := 5) (bq_2 bwX8_countMost_64 25 (by decide +kernel)) rfl
theorem dX8_countMost_91 : decode cX8_countMost 91 = .ok (.ixor, 1) := bq_o130 (bq_of bwX8_countMost_64 27 (by decide +kernel))
theorem dX8_countMost_92 : decode cX8_countMost 92 = .ok (.iaload, 1) := bq_o46 (bq_of bwX8_countMost_64 28 (by decide +kernel))
theorem dX8_countMost_93 : decode cX8_countMost 93 = .ok (.iadd, 1) := bq_o96 (bq_of bwX8_countMost_64 29 (by decide +kernel))
theorem dX8_countMost_94 : decode cX8_countMost 94 = .ok (.istore_n 3, 1) := bq_o62 (bq_of bwX8_countMost_64 30 (by decide +kernel))
theorem dX8_countMost_95 : decode cX8_countMost 95 = .ok (.iinc 4 1, 3) := bq_o132 (a := 4) (b := 1) (bq_3 bwX8_countMost_64 31 (by decide +kernel)) rfl (by decide +kernel)
theorem dX8_countMost_98 : decode cX8_countMost 98 = .ok (.goto (-62), 3) := bq_o167 (a := 255) (b := 194) (bq_3 bwX8_countMost_64 34 (by decide +kernel)) (by decide +kernel)
theorem dX8_countMost_101 : decode cX8_countMost 101 = .ok (.aload_n 0, 1) := bq_o42 (bq_of bwX8_countMost_64 37 (by decide +kernel))
theorem dX8_countMost_102 : decode cX8_countMost 102 = .ok (.getfield 24, 3) := bq_o180 (a := 0) (b := 24) (bq_3 bwX8_countMost_64 38 (by decide +kernel)) rfl
theorem dX8_countMost_105 : decode cX8_countMost 105 = .ok (.iload_n 1, 1) := bq_o27 (bq_of bwX8_countMost_64 41 (by decide +kernel))
theorem dX8_countMost_106 : decode cX8_countMost 106 = .ok (.iload_n 3, 1) := bq_o29 (bq_of bwX8_countMost_64 42 (by decide +kernel))
theorem dX8_countMost_107 : decode cX8_countMost 107 = .ok (.iastore, 1) := bq_o79 (bq_of bwX8_countMost_64 43 (by decide +kernel))
theorem dX8_countMost_108 : decode cX8_countMost 108 = .ok (.iinc 1 1, 3) := bq_o132 (a := 1) (b := 1) (bq_3 bwX8_countMost_64 44 (by decide +kernel)) rfl (by decide +kernel)
theorem dX8_countMost_111 : decode cX8_countMost 111 = .ok (.goto (-102), 3) := bq_o167 (a := 255) (b := 154) (bq_3 bwX8_countMost_64 47 (by decide +kernel)) (by decide +kernel)
theorem dX8_countMost_114 : decode cX8_countMost 114 = .ok (.return_, 1) := bq_o177 (bq_of bwX8_countMost_64 50 (by decide +kernel))
theorem dX8_firstOfMost_0 : decode cX8_firstOfMost 0 = .ok (.aload_n 0, 1) := by decide +kernel
theorem dX8_firstOfMost_1 : decode cX8_firstOfMost 1 = .ok (.iload_n 1, 1) := by decide +kernel
theorem dX8_firstOfMost_2 : decode cX8_firstOfMost 2 = .ok (.invokevirtual 67, 3) := by decide +kernel
theorem dX8_firstOfMost_5 : decode cX8_firstOfMost 5 = .ok (.iconst 1, 1) := by decide +kernel
theorem dX8_firstOfMost_6 : decode cX8_firstOfMost 6 = .ok (.isub, 1) := by decide +kernel
theorem dX8_firstOfMost_7 : decode cX8_firstOfMost 7 = .ok (.istore_n 2, 1) := by decide +kernel
theorem dX8_firstOfMost_8 : decode cX8_firstOfMost 8 = .ok (.iconst 0, 1) := by decide +kernel
theorem dX8_firstOfMost_9 : decode cX8_firstOfMost 9 = .ok (.istore_n 3, 1) := by decide +kernel
theorem dX8_firstOfMost_10 : decode cX8_firstOfMost 10 = .ok (.iload_n 3, 1) := by decide +kernel
theorem dX8_firstOfMost_11 : decode cX8_firstOfMost 11 = .ok (.aload_n 0, 1) := by decide +kernel
theorem dX8_firstOfMost_12 : decode cX8_firstOfMost 12 = .ok (.getfield 53, 3) := by decide +kernel
theorem dX8_firstOfMost_15 : decode cX8_firstOfMost 15 = .ok (.if_icmp .ge 41, 3) := by decide +kernel
theorem dX8_firstOfMost_18 : decode cX8_firstOfMost 18 = .ok (.aload_n 0, 1) := by decide +kernel
theorem dX8_firstOfMost_19 : decode cX8_firstOfMost 19 = .ok (.getfield 18, 3) := by decide +kernel
theorem dX8_firstOfMost_22 : decode cX8_firstOfMost 22 = .ok (.iload_n 3, 1) := by decide +kernel
theorem dX8_firstOfMost_23 : decode cX8_firstOfMost 23 = .ok (.iaload, 1) := by decide +kernel
theorem dX8_firstOfMost_24 : decode cX8_firstOfMost 24 = .ok (.istore 4, 2) := by decide +kernel
theorem dX8_firstOfMost_26 : decode cX8_firstOfMost 26 = .ok (.iload 4, 2) := by decide +kernel
theorem dX8_firstOfMost_28 : decode cX8_firstOfMost 28 = .ok (.iload_n 1, 1) := by decide +kernel
theorem dX8_firstOfMost_29 : decode cX8_firstOfMost 29 = .ok (.iand, 1) := by decide +kernel
theorem dX8_firstOfMost_30 : decode cX8_firstOfMost 30 = .ok (.iload 4, 2) := by decide +kernel
theorem dX8_firstOfMost_32 : decode cX8_firstOfMost 32 = .ok (.if_icmp .ne 18, 3) := by decide +kernel
theorem dX8_firstOfMost_35 : decode cX8_firstOfMost 35 = .ok (.aload_n 0, 1) := by decide +kernel
theorem dX8_firstOfMost_36 : decode cX8_firstOfMost 36 = .ok (.iload_n 1, 1) := by decide +kernel
theorem dX8_firstOfMost_37 : decode cX8_firstOfMost 37 = .ok (.iload 4, 2) := by decide +kernel
theorem dX8_firstOfMost_39 : decode cX8_firstOfMost 39 = .ok (.ixor, 1) := by decide +kernel
theorem dX8_firstOfMost_40 : decode cX8_firstOfMost 40 = .ok (.invokevirtual 67, 3) := by decide +kernel
theorem dX8_firstOfMost_43 : decode cX8_firstOfMost 43 = .ok (.iload_n 2, 1) := by decide +kernel
theorem dX8_firstOfMost_44 : decode cX8_firstOfMost 44 = .ok (.if_icmp .ne 6, 3) := by decide +kernel
theorem dX8_firstOfMost_47 : decode cX8_firstOfMost 47 = .ok (.iload 4, 2) := by decide +kernel
theorem dX8_firstOfMost_49 : decode cX8_firstOfMost 49 = .ok (.ireturn, 1) := by decide +kernel
theorem dX8_firstOfMost_50 : decode cX8_firstOfMost 50 = .ok (.iinc 3 1, 3) := by decide +kernel
theorem dX8_firstOfMost_53 : decode cX8_firstOfMost 53 = .ok (.goto (-43), 3) := by decide +kernel
theorem dX8_firstOfMost_56 : decode cX8_firstOfMost 56 = .ok (.iconst 0, 1) := by decide +kernel
theorem dX8_firstOfMost_57 : decode cX8_firstOfMost 57 = .ok (.ireturn, 1) := by decide +kernel
theorem dX8_mostRow_0 : decode cX8_mostRow 0 = .ok (.iload_n 1, 1) := by decide +kernel
theorem dX8_mostRow_1 : decode cX8_mostRow 1 = .ok (.istore_n 3, 1) := by decide +kernel
theorem dX8_mostRow_2 : decode cX8_mostRow 2 = .ok (.iconst 0, 1) := by decide +kernel
theorem dX8_mostRow_3 : decode cX8_mostRow 3 = .ok (.istore 4, 2) := by decide +kernel
theorem dX8_mostRow_5 : decode cX8_mostRow 5 = .ok (.iload 4, 2) := by decide +kernel
theorem dX8_mostRow_7 : decode cX8_mostRow 7 = .ok (.iload_n 2, 1) := by decide +kernel
theorem dX8_mostRow_8 : decode cX8_mostRow 8 = .ok (.if_icmp .ge 26, 3) := by decide +kernel
theorem dX8_mostRow_11 : decode cX8_mostRow 11 = .ok (.iload 4, 2) := by decide +kernel
theorem dX8_mostRow_13 : decode cX8_mostRow 13 = .ok (.bipush 8, 2) := by decide +kernel
theorem dX8_mostRow_15 : decode cX8_mostRow 15 = .ok (.if_icmp .ge 19, 3) := by decide +kernel
theorem dX8_mostRow_18 : decode cX8_mostRow 18 = .ok (.iload_n 3, 1) := by decide +kernel
theorem dX8_mostRow_19 : decode cX8_mostRow 19 = .ok (.aload_n 0, 1) := by decide +kernel
theorem dX8_mostRow_20 : decode cX8_mostRow 20 = .ok (.iload_n 3, 1) := by decide +kernel
theorem dX8_mostRow_21 : decode cX8_mostRow 21 = .ok (.invokevirtual 70, 3) := by decide +kernel
theorem dX8_mostRow_24 : decode cX8_mostRow 24 = .ok (.iconst (-1), 1) := by decide +kernel
theorem dX8_mostRow_25 : decode cX8_mostRow 25 = .ok (.ixor, 1) := by decide +kernel
theorem dX8_mostRow_26 : decode cX8_mostRow 26 = .ok (.iand, 1) := by decide +kernel
theorem dX8_mostRow_27 : decode cX8_mostRow 27 = .ok (.istore_n 3, 1) := by decide +kernel
theorem dX8_mostRow_28 : decode cX8_mostRow 28 = .ok (.iinc 4 1, 3) := by decide +kernel
theorem dX8_mostRow_31 : decode cX8_mostRow 31 = .ok (.goto (-26), 3) := by decide +kernel
theorem dX8_mostRow_34 : decode cX8_mostRow 34 = .ok (.aload_n 0, 1) := by decide +kernel
theorem dX8_mostRow_35 : decode cX8_mostRow 35 = .ok (.iload_n 3, 1) := by decide +kernel
theorem dX8_mostRow_36 : decode cX8_mostRow 36 = .ok (.invokevirtual 70, 3) := by decide +kernel
theorem dX8_mostRow_39 : decode cX8_mostRow 39 = .ok (.ireturn, 1) := by decide +kernel
theorem dX8_costTogether_0 : decode cX8_costTogether 0 = .ok (.iconst 0, 1) := by decide +kernel
theorem dX8_costTogether_1 : decode cX8_costTogether 1 = .ok (.istore_n 2, 1) := by decide +kernel
theorem dX8_costTogether_2 : decode cX8_costTogether 2 = .ok (.iconst 0, 1) := by decide +kernel
theorem dX8_costTogether_3 : decode cX8_costTogether 3 = .ok (.istore_n 3, 1) := by decide +kernel
theorem dX8_costTogether_4 : decode cX8_costTogether 4 = .ok (.iload_n 3, 1) := by decide +kernel
theorem dX8_costTogether_5 : decode cX8_costTogether 5 = .ok (.aload_n 0, 1) := by decide +kernel
theorem dX8_costTogether_6 : decode cX8_costTogether 6 = .ok (.getfield 36, 3) := by decide +kernel
theorem dX8_costTogether_9 : decode cX8_costTogether 9 = .ok (.if_icmp .ge 24, 3) := by decide +kernel
theorem dX8_costTogether_12 : decode cX8_costTogether 12 = .ok (.iload_n 2, 1) := by decide +kernel
theorem dX8_costTogether_13 : decode cX8_costTogether 13 = .ok (.iload_n 1, 1) := by decide +kernel
theorem dX8_costTogether_14 : decode cX8_costTogether 14 = .ok (.iload_n 3, 1) := by decide +kernel
theorem dX8_costTogether_15 : decode cX8_costTogether 15 = .ok (.ishr, 1) := by decide +kernel
theorem dX8_costTogether_16 : decode cX8_costTogether 16 = .ok (.iconst 1, 1) := by decide +kernel
theorem dX8_costTogether_17 : decode cX8_costTogether 17 = .ok (.iand, 1) := by decide +kernel
theorem dX8_costTogether_18 : decode cX8_costTogether 18 = .ok (.aload_n 0, 1) := by decide +kernel
theorem dX8_costTogether_19 : decode cX8_costTogether 19 = .ok (.getfield 15, 3) := by decide +kernel
theorem dX8_costTogether_22 : decode cX8_costTogether 22 = .ok (.iload_n 3, 1) := by decide +kernel
theorem dX8_costTogether_23 : decode cX8_costTogether 23 = .ok (.iaload, 1) := by decide +kernel
theorem dX8_costTogether_24 : decode cX8_costTogether 24 = .ok (.imul, 1) := by decide +kernel
theorem dX8_costTogether_25 : decode cX8_costTogether 25 = .ok (.iadd, 1) := by decide +kernel
theorem dX8_costTogether_26 : decode cX8_costTogether 26 = .ok (.istore_n 2, 1) := by decide +kernel
theorem dX8_costTogether_27 : decode cX8_costTogether 27 = .ok (.iinc 3 1, 3) := by decide +kernel
theorem dX8_costTogether_30 : decode cX8_costTogether 30 = .ok (.goto (-26), 3) := by decide +kernel
theorem dX8_costTogether_33 : decode cX8_costTogether 33 = .ok (.iload_n 2, 1) := by decide +kernel
theorem dX8_costTogether_34 : decode cX8_costTogether 34 = .ok (.ireturn, 1) := by decide +kernel
theorem dX8_strangersTogether_0 : decode cX8_strangersTogether 0 = .ok (.iconst 0, 1) := by decide +kernel
theorem dX8_strangersTogether_1 : decode cX8_strangersTogether 1 = .ok (.istore_n 2, 1) := by decide +kernel
theorem dX8_strangersTogether_2 : decode cX8_strangersTogether 2 = .ok (.iconst 0, 1) := by decide +kernel
theorem dX8_strangersTogether_3 : decode cX8_strangersTogether 3 = .ok (.istore_n 3, 1) := by decide +kernel
theorem dX8_strangersTogether_4 : decode cX8_strangersTogether 4 = .ok (.iload_n 3, 1) := by decide +kernel
theorem dX8_strangersTogether_5 : decode cX8_strangersTogether 5 = .ok (.aload_n 0, 1) := by decide +kernel
theorem dX8_strangersTogether_6 : decode cX8_strangersTogether 6 = .ok (.getfield 36, 3) := by decide +kernel
theorem dX8_strangersTogether_9 : decode cX8_strangersTogether 9 = .ok (.if_icmp .ge 27, 3) := by decide +kernel
theorem dX8_strangersTogether_12 : decode cX8_strangersTogether 12 = .ok (.iload_n 2, 1) := by decide +kernel
theorem dX8_strangersTogether_13 : decode cX8_strangersTogether 13 = .ok (.iload_n 1, 1) := by decide +kernel
theorem dX8_strangersTogether_14 : decode cX8_strangersTogether 14 = .ok (.iload_n 3, 1) := by decide +kernel
theorem dX8_strangersTogether_15 : decode cX8_strangersTogether 15 = .ok (.ishr, 1) := by decide +kernel
theorem dX8_strangersTogether_16 : decode cX8_strangersTogether 16 = .ok (.iconst 1, 1) := by decide +kernel
theorem dX8_strangersTogether_17 : decode cX8_strangersTogether 17 = .ok (.iand, 1) := by decide +kernel
theorem dX8_strangersTogether_18 : decode cX8_strangersTogether 18 = .ok (.aload_n 0, 1) := by decide +kernel
theorem dX8_strangersTogether_19 : decode cX8_strangersTogether 19 = .ok (.getfield 11, 3) := by decide +kernel
theorem dX8_strangersTogether_22 : decode cX8_strangersTogether 22 = .ok (.iload_n 3, 1) := by decide +kernel
theorem dX8_strangersTogether_23 : decode cX8_strangersTogether 23 = .ok (.iaload, 1) := by decide +kernel
theorem dX8_strangersTogether_24 : decode cX8_strangersTogether 24 = .ok (.invokestatic 73, 3) := by decide +kernel
theorem dX8_strangersTogether_27 : decode cX8_strangersTogether 27 = .ok (.imul, 1) := by decide +kernel
theorem dX8_strangersTogether_28 : decode cX8_strangersTogether 28 = .ok (.iadd, 1) := by decide +kernel
theorem dX8_strangersTogether_29 : decode cX8_strangersTogether 29 = .ok (.istore_n 2, 1) := by decide +kernel
theorem dX8_strangersTogether_30 : decode cX8_strangersTogether 30 = .ok (.iinc 3 1, 3) := by decide +kernel
theorem dX8_strangersTogether_33 : decode cX8_strangersTogether 33 = .ok (.goto (-29), 3) := by decide +kernel
theorem dX8_strangersTogether_36 : decode cX8_strangersTogether 36 = .ok (.iload_n 2, 1) := by decide +kernel
theorem dX8_strangersTogether_37 : decode cX8_strangersTogether 37 = .ok (.ireturn, 1) := by decide +kernel
def bwX8_closest_0l : List Nat := [2, 60, 2, 61, 3, 62, 29, 42, 180, 0, 36, 162, 0, 74, 29, 4, 96, 54, 4, 21, 4, 42, 180, 0, 36, 162, 0, 54, 42, 180, 0, 11, 29, 46, 21, 4, 122, 4, 126, 153, 0, 34, 42, 4, 29, 120, 4, 21, 4, 120, 128, 182, 0, 78, 54, 5, 21, 5, 28, 164, 0, 14, 21, 5, 61, 16]
theorem bwX8_closest_0 : ((cX8_closest.data.toList.drop 0).take 66).map UInt8.toNat = bwX8_closest_0l := by decide +kernel
theorem dX8_closest_0 : decode cX8_closest 0 = .ok (.iconst (-1), 1) := bq_o2 (bq_of bwX8_closest_0 0 (by decide +kernel))
theorem dX8_closest_1 : decode cX8_closest 1 = .ok (.istore_n 1, 1) := bq_o60 (bq_of bwX8_closest_0 1 (by decide +kernel))
theorem dX8_closest_2 : decode cX8_closest 2 = .ok (.iconst (-1), 1) := bq_o2 (bq_of bwX8_closest_0 2 (by decide +kernel))
theorem dX8_closest_3 : decode cX8_closest 3 = .ok (.istore_n 2, 1) := bq_o61 (bq_of bwX8_closest_0 3 (by decide +kernel))
theorem dX8_closest_4 : decode cX8_closest 4 = .ok (.iconst 0, 1) := bq_o3 (bq_of bwX8_closest_0 4 (by decide +kernel))
theorem dX8_closest_5 : decode cX8_closest 5 = .ok (.istore_n 3, 1) := bq_o62 (bq_of bwX8_closest_0 5 (by decide +kernel))
theorem dX8_closest_6 : decode cX8_closest 6 = .ok (.iload_n 3, 1) := bq_o29 (bq_of bwX8_closest_0 6 (by decide +kernel))
theorem dX8_closest_7 : decode cX8_closest 7 = .ok (.aload_n 0, 1) := bq_o42 (bq_of bwX8_closest_0 7 (by decide +kernel))
theorem dX8_closest_8 : decode cX8_closest 8 = .ok (.getfield 36, 3) := bq_o180 (a := 0) (b := 36) (bq_3 bwX8_closest_0 8 (by decide +kernel)) rfl
theorem dX8_closest_11 : decode cX8_closest 11 = .ok (.if_icmp .ge 74, 3) := bq_o162 (a := 0) (b := 74) (bq_3 bwX8_closest_0 11 (by decide +kernel)) (by decide +kernel)
theorem dX8_closest_14 : decode cX8_closest 14 = .ok (.iload_n 3, 1) := bq_o29 (bq_of bwX8_closest_0 14 (by decide +kernel))
theorem dX8_closest_15 : decode cX8_closest 15 = .ok (.iconst 1, 1) := bq_o4 (bq_of bwX8_closest_0 15 (by decide +kernel))
theorem dX8_closest_16 : decode cX8_closest 16 = .ok (.iadd, 1) := bq_o96 (bq_of bwX8_closest_0 16 (by decide +kernel))
theorem dX8_closest_17 : decode cX8_closest 17 = .ok (.istore 4, 2) := bq_o54 (a := 4) (bq_2 bwX8_closest_0 17 (by decide +kernel)) rfl
theorem dX8_closest_19 : decode cX8_closest 19 = .ok (.iload 4, 2) := bq_o21 (a := 4) (bq_2 bwX8_closest_0 19 (by decide +kernel)) rfl
theorem dX8_closest_21 : decode cX8_closest 21 = .ok (.aload_n 0, 1) := bq_o42 (bq_of bwX8_closest_0 21 (by decide +kernel))
theorem dX8_closest_22 : decode cX8_closest 22 = .ok (.getfield 36, 3) := bq_o180 (a := 0) (b := 36) (bq_3 bwX8_closest_0 22 (by decide +kernel)) rfl
theorem dX8_closest_25 : decode cX8_closest 25 = .ok (.if_icmp .ge 54, 3) := bq_o162 (a := 0) (b := 54) (bq_3 bwX8_closest_0 25 (by decide +kernel)) (by decide +kernel)
theorem dX8_closest_28 : decode cX8_closest 28 = .ok (.aload_n 0, 1) := bq_o42 (bq_of bwX8_closest_0 28 (by decide +kernel))
theorem dX8_closest_29 : decode cX8_closest 29 = .ok (.getfield 11, 3) := bq_o180 (a := 0) (b := 11) (bq_3 bwX8_closest_0 29 (by decide +kernel)) rfl
theorem dX8_closest_32 : decode cX8_closest 32 = .ok (.iload_n 3, 1) := bq_o29 (bq_of bwX8_closest_0 32 (by decide +kernel))
theorem dX8_closest_33 : decode cX8_closest 33 = .ok (.iaload, 1) := bq_o46 (bq_of bwX8_closest_0 33 (by decide +kernel))
theorem dX8_closest_34 : decode cX8_closest 34 = .ok (.iload 4, 2) := bq_o21 (a := 4) (bq_2 bwX8_closest_0 34 (by decide +kernel)) rfl
theorem dX8_closest_36 : decode cX8_closest 36 = .ok (.ishr, 1) := bq_o122 (bq_of bwX8_closest_0 36 (by decide +kernel))
theorem dX8_closest_37 : decode cX8_closest 37 = .ok (.iconst 1, 1) := bq_o4 (bq_of bwX8_closest_0 37 (by decide +kernel))
theorem dX8_closest_38 : decode cX8_closest 38 = .ok (.iand, 1) := bq_o126 (bq_of bwX8_closest_0 38 (by decide +kernel))
theorem dX8_closest_39 : decode cX8_closest 39 = .ok (.ifCond .eq 34, 3) := bq_o153 (a := 0) (b := 34) (bq_3 bwX8_closest_0 39 (by decide +kernel)) (by decide +kernel)
theorem dX8_closest_42 : decode cX8_closest 42 = .ok (.aload_n 0, 1) := bq_o42 (bq_of bwX8_closest_0 42 (by decide +kernel))
theorem dX8_closest_43 : decode cX8_closest 43 = .ok (.iconst 1, 1) := bq_o4 (bq_of bwX8_closest_0 43 (by decide +kernel))
theorem dX8_closest_44 : decode cX8_closest 44 = .ok (.iload_n 3, 1) := bq_o29 (bq_of bwX8_closest_0 44 (by decide +kernel))
theorem dX8_closest_45 : decode cX8_closest 45 = .ok (.ishl, 1) := bq_o120 (bq_of bwX8_closest_0 45 (by decide +kernel))
theorem dX8_closest_46 : decode cX8_closest 46 = .ok (.iconst 1, 1) := bq_o4 (bq_of bwX8_closest_0 46 (by decide +kernel))
theorem dX8_closest_47 : decode cX8_closest 47 = .ok (.iload 4, 2) := bq_o21 (a := 4) (bq_2 bwX8_closest_0 47 (by decide +kernel)) rfl
theorem dX8_closest_49 : decode cX8_closest 49 = .ok (.ishl, 1) := bq_o120 (bq_of bwX8_closest_0 49 (by decide +kernel))
theorem dX8_closest_50 : decode cX8_closest 50 = .ok (.ior, 1) := bq_o128 (bq_of bwX8_closest_0 50 (by decide +kernel))
theorem dX8_closest_51 : decode cX8_closest 51 = .ok (.invokevirtual 78, 3) := bq_o182 (a := 0) (b := 78) (bq_3 bwX8_closest_0 51 (by decide +kernel)) rfl
theorem dX8_closest_54 : decode cX8_closest 54 = .ok (.istore 5, 2) := bq_o54 (a := 5) (bq_2 bwX8_closest_0 54 (by decide +kernel)) rfl
theorem dX8_closest_56 : decode cX8_closest 56 = .ok (.iload 5, 2) := bq_o21 (a := 5) (bq_2 bwX8_closest_0 56 (by decide +kernel)) rfl
theorem dX8_closest_58 : decode cX8_closest 58 = .ok (.iload_n 2, 1) := bq_o28 (bq_of bwX8_closest_0 58 (by decide +kernel))
theorem dX8_closest_59 : decode cX8_closest 59 = .ok (.if_icmp .le 14, 3) := bq_o164 (a := 0) (b := 14) (bq_3 bwX8_closest_0 59 (by decide +kernel)) (by decide +kernel)
theorem dX8_closest_62 : decode cX8_closest 62 = .ok (.iload 5, 2) := bq_o21 (a := 5) (bq_2 bwX8_closest_0 62 (by decide +kernel)) rfl
def bwX8_closest_64l : List Nat := [61, 16, 10, 29, 104, 21, 4, 96, 60, 132, 4, 1, 167, 255, 199, 132, 3, 1, 167, 255, 180, 27, 172]
theorem bwX8_closest_64 : ((cX8_closest.data.toList.drop 64).take 23).map UInt8.toNat = bwX8_closest_64l := by decide +kernel
theorem dX8_closest_64 : decode cX8_closest 64 = .ok (.istore_n 2, 1) := bq_o61 (bq_of bwX8_closest_64 0 (by decide +kernel))
theorem dX8_closest_65 : decode cX8_closest 65 = .ok (.bipush 10, 2) := bq_o16 (a := 10) (bq_2 bwX8_closest_64 1 (by decide +kernel)) (by decide +kernel)
theorem dX8_closest_67 : decode cX8_closest 67 = .ok (.iload_n 3, 1) := bq_o29 (bq_of bwX8_closest_64 3 (by decide +kernel))
theorem dX8_closest_68 : decode cX8_closest 68 = .ok (.imul, 1) := bq_o104 (bq_of bwX8_closest_64 4 (by decide +kernel))
theorem dX8_closest_69 : decode cX8_closest 69 = .ok (.iload 4, 2) := bq_o21 (a := 4) (bq_2 bwX8_closest_64 5 (by decide +kernel)) rfl
theorem dX8_closest_71 : decode cX8_closest 71 = .ok (.iadd, 1) := bq_o96 (bq_of bwX8_closest_64 7 (by decide +kernel))
theorem dX8_closest_72 : decode cX8_closest 72 = .ok (.istore_n 1, 1) := bq_o60 (bq_of bwX8_closest_64 8 (by decide +kernel))
theorem dX8_closest_73 : decode cX8_closest 73 = .ok (.iinc 4 1, 3) := bq_o132 (a := 4) (b := 1) (bq_3 bwX8_closest_64 9 (by decide +kernel)) rfl (by decide +kernel)
theorem dX8_closest_76 : decode cX8_closest 76 = .ok (.goto (-57), 3) := bq_o167 (a := 255) (b := 199) (bq_3 bwX8_closest_64 12 (by decide +kernel)) (by decide +kernel)
theorem dX8_closest_79 : decode cX8_closest 79 = .ok (.iinc 3 1, 3) := bq_o132 (a := 3) (b := 1) (bq_3 bwX8_closest_64 15 (by decide +kernel)) rfl (by decide +kernel)
theorem dX8_closest_82 : decode cX8_closest 82 = .ok (.goto (-76), 3) := bq_o167 (a := 255) (b := 180) (bq_3 bwX8_closest_64 18 (by decide +kernel)) (by decide +kernel)
theorem dX8_closest_85 : decode cX8_closest 85 = .ok (.iload_n 1, 1) := bq_o27 (bq_of bwX8_closest_64 21 (by decide +kernel))
theorem dX8_closest_86 : decode cX8_closest 86 = .ok (.ireturn, 1) := bq_o172 (bq_of bwX8_closest_64 22 (by decide +kernel))
theorem dX8_pairBit_0 : decode cX8_pairBit 0 = .ok (.iload_n 1, 1) := by decide +kernel
theorem dX8_pairBit_1 : decode cX8_pairBit 1 = .ok (.iload_n 1, 1) := by decide +kernel
theorem dX8_pairBit_2 : decode cX8_pairBit 2 = .ok (.iconst 1, 1) := by decide +kernel
theorem dX8_pairBit_3 : decode cX8_pairBit 3 = .ok (.isub, 1) := by decide +kernel
theorem dX8_pairBit_4 : decode cX8_pairBit 4 = .ok (.imul, 1) := by decide +kernel
theorem dX8_pairBit_5 : decode cX8_pairBit 5 = .ok (.iconst 2, 1) := by decide +kernel
theorem dX8_pairBit_6 : decode cX8_pairBit 6 = .ok (.idiv, 1) := by decide +kernel
theorem dX8_pairBit_7 : decode cX8_pairBit 7 = .ok (.iload_n 0, 1) := by decide +kernel
theorem dX8_pairBit_8 : decode cX8_pairBit 8 = .ok (.iadd, 1) := by decide +kernel
theorem dX8_pairBit_9 : decode cX8_pairBit 9 = .ok (.ireturn, 1) := by decide +kernel
def bwX8_pairsIn_0l : List Nat := [3, 61, 4, 62, 29, 42, 180, 0, 36, 162, 0, 58, 3, 54, 4, 21, 4, 29, 162, 0, 43, 27, 21, 4, 122, 27, 29, 122, 126, 42, 180, 0, 11, 21, 4, 46, 29, 122, 126, 4, 126, 153, 0, 14, 28, 4, 21, 4, 29, 184, 0, 81, 120, 128, 61, 132, 4, 1, 167, 255, 213, 132, 3, 1, 167, 255]
theorem bwX8_pairsIn_0 : ((cX8_pairsIn.data.toList.drop 0).take 66).map UInt8.toNat = bwX8_pairsIn_0l := by decide +kernel
theorem dX8_pairsIn_0 : decode cX8_pairsIn 0 = .ok (.iconst 0, 1) := bq_o3 (bq_of bwX8_pairsIn_0 0 (by decide +kernel))
theorem dX8_pairsIn_1 : decode cX8_pairsIn 1 = .ok (.istore_n 2, 1) := bq_o61 (bq_of bwX8_pairsIn_0 1 (by decide +kernel))
theorem dX8_pairsIn_2 : decode cX8_pairsIn 2 = .ok (.iconst 1, 1) := bq_o4 (bq_of bwX8_pairsIn_0 2 (by decide +kernel))
theorem dX8_pairsIn_3 : decode cX8_pairsIn 3 = .ok (.istore_n 3, 1) := bq_o62 (bq_of bwX8_pairsIn_0 3 (by decide +kernel))
theorem dX8_pairsIn_4 : decode cX8_pairsIn 4 = .ok (.iload_n 3, 1) := bq_o29 (bq_of bwX8_pairsIn_0 4 (by decide +kernel))
theorem dX8_pairsIn_5 : decode cX8_pairsIn 5 = .ok (.aload_n 0, 1) := bq_o42 (bq_of bwX8_pairsIn_0 5 (by decide +kernel))
theorem dX8_pairsIn_6 : decode cX8_pairsIn 6 = .ok (.getfield 36, 3) := bq_o180 (a := 0) (b := 36) (bq_3 bwX8_pairsIn_0 6 (by decide +kernel)) rfl
theorem dX8_pairsIn_9 : decode cX8_pairsIn 9 = .ok (.if_icmp .ge 58, 3) := bq_o162 (a := 0) (b := 58) (bq_3 bwX8_pairsIn_0 9 (by decide +kernel)) (by decide +kernel)
theorem dX8_pairsIn_12 : decode cX8_pairsIn 12 = .ok (.iconst 0, 1) := bq_o3 (bq_of bwX8_pairsIn_0 12 (by decide +kernel))
theorem dX8_pairsIn_13 : decode cX8_pairsIn 13 = .ok (.istore 4, 2) := bq_o54 (a := 4) (bq_2 bwX8_pairsIn_0 13 (by decide +kernel)) rfl
theorem dX8_pairsIn_15 : decode cX8_pairsIn 15 = .ok (.iload 4, 2) := bq_o21 (a := 4) (bq_2 bwX8_pairsIn_0 15 (by decide +kernel)) rfl
theorem dX8_pairsIn_17 : decode cX8_pairsIn 17 = .ok (.iload_n 3, 1) := bq_o29 (bq_of bwX8_pairsIn_0 17 (by decide +kernel))
theorem dX8_pairsIn_18 : decode cX8_pairsIn 18 = .ok (.if_icmp .ge 43, 3) := bq_o162 (a := 0) (b := 43) (bq_3 bwX8_pairsIn_0 18 (by decide +kernel)) (by decide +kernel)
theorem dX8_pairsIn_21 : decode cX8_pairsIn 21 = .ok (.iload_n 1, 1) := bq_o27 (bq_of bwX8_pairsIn_0 21 (by decide +kernel))
theorem dX8_pairsIn_22 : decode cX8_pairsIn 22 = .ok (.iload 4, 2) := bq_o21 (a := 4) (bq_2 bwX8_pairsIn_0 22 (by decide +kernel)) rfl
theorem dX8_pairsIn_24 : decode cX8_pairsIn 24 = .ok (.ishr, 1) := bq_o122 (bq_of bwX8_pairsIn_0 24 (by decide +kernel))
theorem dX8_pairsIn_25 : decode cX8_pairsIn 25 = .ok (.iload_n 1, 1) := bq_o27 (bq_of bwX8_pairsIn_0 25 (by decide +kernel))
theorem dX8_pairsIn_26 : decode cX8_pairsIn 26 = .ok (.iload_n 3, 1) := bq_o29 (bq_of bwX8_pairsIn_0 26 (by decide +kernel))
theorem dX8_pairsIn_27 : decode cX8_pairsIn 27 = .ok (.ishr, 1) := bq_o122 (bq_of bwX8_pairsIn_0 27 (by decide +kernel))
theorem dX8_pairsIn_28 : decode cX8_pairsIn 28 = .ok (.iand, 1) := bq_o126 (bq_of bwX8_pairsIn_0 28 (by decide +kernel))
theorem dX8_pairsIn_29 : decode cX8_pairsIn 29 = .ok (.aload_n 0, 1) := bq_o42 (bq_of bwX8_pairsIn_0 29 (by decide +kernel))
theorem dX8_pairsIn_30 : decode cX8_pairsIn 30 = .ok (.getfield 11, 3) := bq_o180 (a := 0) (b := 11) (bq_3 bwX8_pairsIn_0 30 (by decide +kernel)) rfl
theorem dX8_pairsIn_33 : decode cX8_pairsIn 33 = .ok (.iload 4, 2) := bq_o21 (a := 4) (bq_2 bwX8_pairsIn_0 33 (by decide +kernel)) rfl
theorem dX8_pairsIn_35 : decode cX8_pairsIn 35 = .ok (.iaload, 1) := bq_o46 (bq_of bwX8_pairsIn_0 35 (by decide +kernel))
theorem dX8_pairsIn_36 : decode cX8_pairsIn 36 = .ok (.iload_n 3, 1) := bq_o29 (bq_of bwX8_pairsIn_0 36 (by decide +kernel))
theorem dX8_pairsIn_37 : decode cX8_pairsIn 37 = .ok (.ishr, 1) := bq_o122 (bq_of bwX8_pairsIn_0 37 (by decide +kernel))
theorem dX8_pairsIn_38 : decode cX8_pairsIn 38 = .ok (.iand, 1) := bq_o126 (bq_of bwX8_pairsIn_0 38 (by decide +kernel))
theorem dX8_pairsIn_39 : decode cX8_pairsIn 39 = .ok (.iconst 1, 1) := bq_o4 (bq_of bwX8_pairsIn_0 39 (by decide +kernel))
theorem dX8_pairsIn_40 : decode cX8_pairsIn 40 = .ok (.iand, 1) := bq_o126 (bq_of bwX8_pairsIn_0 40 (by decide +kernel))
theorem dX8_pairsIn_41 : decode cX8_pairsIn 41 = .ok (.ifCond .eq 14, 3) := bq_o153 (a := 0) (b := 14) (bq_3 bwX8_pairsIn_0 41 (by decide +kernel)) (by decide +kernel)
theorem dX8_pairsIn_44 : decode cX8_pairsIn 44 = .ok (.iload_n 2, 1) := bq_o28 (bq_of bwX8_pairsIn_0 44 (by decide +kernel))
theorem dX8_pairsIn_45 : decode cX8_pairsIn 45 = .ok (.iconst 1, 1) := bq_o4 (bq_of bwX8_pairsIn_0 45 (by decide +kernel))
theorem dX8_pairsIn_46 : decode cX8_pairsIn 46 = .ok (.iload 4, 2) := bq_o21 (a := 4) (bq_2 bwX8_pairsIn_0 46 (by decide +kernel)) rfl
theorem dX8_pairsIn_48 : decode cX8_pairsIn 48 = .ok (.iload_n 3, 1) := bq_o29 (bq_of bwX8_pairsIn_0 48 (by decide +kernel))
theorem dX8_pairsIn_49 : decode cX8_pairsIn 49 = .ok (.invokestatic 81, 3) := bq_o184 (a := 0) (b := 81) (bq_3 bwX8_pairsIn_0 49 (by decide +kernel)) rfl
theorem dX8_pairsIn_52 : decode cX8_pairsIn 52 = .ok (.ishl, 1) := bq_o120 (bq_of bwX8_pairsIn_0 52 (by decide +kernel))
theorem dX8_pairsIn_53 : decode cX8_pairsIn 53 = .ok (.ior, 1) := bq_o128 (bq_of bwX8_pairsIn_0 53 (by decide +kernel))
theorem dX8_pairsIn_54 : decode cX8_pairsIn 54 = .ok (.istore_n 2, 1) := bq_o61 (bq_of bwX8_pairsIn_0 54 (by decide +kernel))
theorem dX8_pairsIn_55 : decode cX8_pairsIn 55 = .ok (.iinc 4 1, 3) := bq_o132 (a := 4) (b := 1) (bq_3 bwX8_pairsIn_0 55 (by decide +kernel)) rfl (by decide +kernel)
theorem dX8_pairsIn_58 : decode cX8_pairsIn 58 = .ok (.goto (-43), 3) := bq_o167 (a := 255) (b := 213) (bq_3 bwX8_pairsIn_0 58 (by decide +kernel)) (by decide +kernel)
theorem dX8_pairsIn_61 : decode cX8_pairsIn 61 = .ok (.iinc 3 1, 3) := bq_o132 (a := 3) (b := 1) (bq_3 bwX8_pairsIn_0 61 (by decide +kernel)) rfl (by decide +kernel)
def bwX8_pairsIn_64l : List Nat := [167, 255, 196, 28, 172]
theorem bwX8_pairsIn_64 : ((cX8_pairsIn.data.toList.drop 64).take 5).map UInt8.toNat = bwX8_pairsIn_64l := by decide +kernel
theorem dX8_pairsIn_64 : decode cX8_pairsIn 64 = .ok (.goto (-60), 3) := bq_o167 (a := 255) (b := 196) (bq_3 bwX8_pairsIn_64 0 (by decide +kernel)) (by decide +kernel)
theorem dX8_pairsIn_67 : decode cX8_pairsIn 67 = .ok (.iload_n 2, 1) := bq_o28 (bq_of bwX8_pairsIn_64 3 (by decide +kernel))
theorem dX8_pairsIn_68 : decode cX8_pairsIn 68 = .ok (.ireturn, 1) := bq_o172 (bq_of bwX8_pairsIn_64 4 (by decide +kernel))
theorem dX8_listPairs_0 : decode cX8_listPairs 0 = .ok (.iconst 0, 1) := by decide +kernel
theorem dX8_listPairs_1 : decode cX8_listPairs 1 = .ok (.istore_n 2, 1) := by decide +kernel
theorem dX8_listPairs_2 : decode cX8_listPairs 2 = .ok (.iconst 0, 1) := by decide +kernel
theorem dX8_listPairs_3 : decode cX8_listPairs 3 = .ok (.istore_n 3, 1) := by decide +kernel
theorem dX8_listPairs_4 : decode cX8_listPairs 4 = .ok (.iload_n 3, 1) := by decide +kernel
theorem dX8_listPairs_5 : decode cX8_listPairs 5 = .ok (.aload_n 0, 1) := by decide +kernel
theorem dX8_listPairs_6 : decode cX8_listPairs 6 = .ok (.getfield 53, 3) := by decide +kernel
theorem dX8_listPairs_9 : decode cX8_listPairs 9 = .ok (.if_icmp .ge 45, 3) := by decide +kernel
theorem dX8_listPairs_12 : decode cX8_listPairs 12 = .ok (.aload_n 0, 1) := by decide +kernel
theorem dX8_listPairs_13 : decode cX8_listPairs 13 = .ok (.getfield 18, 3) := by decide +kernel
theorem dX8_listPairs_16 : decode cX8_listPairs 16 = .ok (.iload_n 3, 1) := by decide +kernel
theorem dX8_listPairs_17 : decode cX8_listPairs 17 = .ok (.iaload, 1) := by decide +kernel
theorem dX8_listPairs_18 : decode cX8_listPairs 18 = .ok (.iload_n 1, 1) := by decide +kernel
theorem dX8_listPairs_19 : decode cX8_listPairs 19 = .ok (.iand, 1) := by decide +kernel
theorem dX8_listPairs_20 : decode cX8_listPairs 20 = .ok (.aload_n 0, 1) := by decide +kernel
theorem dX8_listPairs_21 : decode cX8_listPairs 21 = .ok (.getfield 18, 3) := by decide +kernel
theorem dX8_listPairs_24 : decode cX8_listPairs 24 = .ok (.iload_n 3, 1) := by decide +kernel
theorem dX8_listPairs_25 : decode cX8_listPairs 25 = .ok (.iaload, 1) := by decide +kernel
theorem dX8_listPairs_26 : decode cX8_listPairs 26 = .ok (.if_icmp .ne 22, 3) := by decide +kernel
theorem dX8_listPairs_29 : decode cX8_listPairs 29 = .ok (.aload_n 0, 1) := by decide +kernel
theorem dX8_listPairs_30 : decode cX8_listPairs 30 = .ok (.getfield 21, 3) := by decide +kernel
theorem dX8_listPairs_33 : decode cX8_listPairs 33 = .ok (.iload_n 2, 1) := by decide +kernel
theorem dX8_listPairs_34 : decode cX8_listPairs 34 = .ok (.aload_n 0, 1) := by decide +kernel
theorem dX8_listPairs_35 : decode cX8_listPairs 35 = .ok (.aload_n 0, 1) := by decide +kernel
theorem dX8_listPairs_36 : decode cX8_listPairs 36 = .ok (.getfield 18, 3) := by decide +kernel
theorem dX8_listPairs_39 : decode cX8_listPairs 39 = .ok (.iload_n 3, 1) := by decide +kernel
theorem dX8_listPairs_40 : decode cX8_listPairs 40 = .ok (.iaload, 1) := by decide +kernel
theorem dX8_listPairs_41 : decode cX8_listPairs 41 = .ok (.invokevirtual 85, 3) := by decide +kernel
theorem dX8_listPairs_44 : decode cX8_listPairs 44 = .ok (.iastore, 1) := by decide +kernel
theorem dX8_listPairs_45 : decode cX8_listPairs 45 = .ok (.iinc 2 1, 3) := by decide +kernel
theorem dX8_listPairs_48 : decode cX8_listPairs 48 = .ok (.iinc 3 1, 3) := by decide +kernel
theorem dX8_listPairs_51 : decode cX8_listPairs 51 = .ok (.goto (-47), 3) := by decide +kernel
theorem dX8_listPairs_54 : decode cX8_listPairs 54 = .ok (.iload_n 2, 1) := by decide +kernel
theorem dX8_listPairs_55 : decode cX8_listPairs 55 = .ok (.ireturn, 1) := by decide +kernel
theorem dX8_longest_0 : decode cX8_longest 0 = .ok (.aload_n 0, 1) := by decide +kernel
theorem dX8_longest_1 : decode cX8_longest 1 = .ok (.getfield 40, 3) := by decide +kernel
theorem dX8_longest_4 : decode cX8_longest 4 = .ok (.iconst 2, 1) := by decide +kernel
theorem dX8_longest_5 : decode cX8_longest 5 = .ok (.if_icmp .ne 8, 3) := by decide +kernel
theorem dX8_longest_8 : decode cX8_longest 8 = .ok (.aload_n 0, 1) := by decide +kernel
theorem dX8_longest_9 : decode cX8_longest 9 = .ok (.getfield 53, 3) := by decide +kernel
theorem dX8_longest_12 : decode cX8_longest 12 = .ok (.ireturn, 1) := by decide +kernel
theorem dX8_longest_13 : decode cX8_longest 13 = .ok (.aload_n 0, 1) := by decide +kernel
theorem dX8_longest_14 : decode cX8_longest 14 = .ok (.aload_n 0, 1) := by decide +kernel
theorem dX8_longest_15 : decode cX8_longest 15 = .ok (.invokevirtual 49, 3) := by decide +kernel
theorem dX8_longest_18 : decode cX8_longest 18 = .ok (.invokevirtual 88, 3) := by decide +kernel
theorem dX8_longest_21 : decode cX8_longest 21 = .ok (.pop, 1) := by decide +kernel
theorem dX8_longest_22 : decode cX8_longest 22 = .ok (.aload_n 0, 1) := by decide +kernel
theorem dX8_longest_23 : decode cX8_longest 23 = .ok (.iconst 0, 1) := by decide +kernel
theorem dX8_longest_24 : decode cX8_longest 24 = .ok (.putfield 91, 3) := by decide +kernel
theorem dX8_longest_27 : decode cX8_longest 27 = .ok (.aload_n 0, 1) := by decide +kernel
theorem dX8_longest_28 : decode cX8_longest 28 = .ok (.aload_n 0, 1) := by decide +kernel
theorem dX8_longest_29 : decode cX8_longest 29 = .ok (.aload_n 0, 1) := by decide +kernel
theorem dX8_longest_30 : decode cX8_longest 30 = .ok (.invokevirtual 49, 3) := by decide +kernel
theorem dX8_longest_33 : decode cX8_longest 33 = .ok (.invokevirtual 85, 3) := by decide +kernel
theorem dX8_longest_36 : decode cX8_longest 36 = .ok (.iconst 0, 1) := by decide +kernel
theorem dX8_longest_37 : decode cX8_longest 37 = .ok (.iconst 0, 1) := by decide +kernel
theorem dX8_longest_38 : decode cX8_longest 38 = .ok (.invokevirtual 94, 3) := by decide +kernel
theorem dX8_longest_41 : decode cX8_longest 41 = .ok (.aload_n 0, 1) := by decide +kernel
theorem dX8_longest_42 : decode cX8_longest 42 = .ok (.getfield 91, 3) := by decide +kernel
theorem dX8_longest_45 : decode cX8_longest 45 = .ok (.ireturn, 1) := by decide +kernel
def bwX8_lengthen_0l : List Nat := [42, 42, 180, 0, 91, 29, 184, 0, 97, 181, 0, 91, 29, 16, 28, 161, 0, 4, 177, 42, 180, 0, 40, 42, 180, 0, 40, 4, 100, 104, 5, 108, 54, 4, 28, 54, 5, 21, 5, 42, 180, 0, 53, 162, 0, 69, 42, 180, 0, 91, 4, 96, 29, 100, 21, 4, 104, 27, 184, 0, 73, 164, 0, 4, 177, 42]
theorem bwX8_lengthen_0 : ((cX8_lengthen.data.toList.drop 0).take 66).map UInt8.toNat = bwX8_lengthen_0l := by decide +kernel
theorem dX8_lengthen_0 : decode cX8_lengthen 0 = .ok (.aload_n 0, 1) := bq_o42 (bq_of bwX8_lengthen_0 0 (by decide +kernel))
theorem dX8_lengthen_1 : decode cX8_lengthen 1 = .ok (.aload_n 0, 1) := bq_o42 (bq_of bwX8_lengthen_0 1 (by decide +kernel))
theorem dX8_lengthen_2 : decode cX8_lengthen 2 = .ok (.getfield 91, 3) := bq_o180 (a := 0) (b := 91) (bq_3 bwX8_lengthen_0 2 (by decide +kernel)) rfl
theorem dX8_lengthen_5 : decode cX8_lengthen 5 = .ok (.iload_n 3, 1) := bq_o29 (bq_of bwX8_lengthen_0 5 (by decide +kernel))
theorem dX8_lengthen_6 : decode cX8_lengthen 6 = .ok (.invokestatic 97, 3) := bq_o184 (a := 0) (b := 97) (bq_3 bwX8_lengthen_0 6 (by decide +kernel)) rfl
theorem dX8_lengthen_9 : decode cX8_lengthen 9 = .ok (.putfield 91, 3) := bq_o181 (a := 0) (b := 91) (bq_3 bwX8_lengthen_0 9 (by decide +kernel)) rfl
theorem dX8_lengthen_12 : decode cX8_lengthen 12 = .ok (.iload_n 3, 1) := bq_o29 (bq_of bwX8_lengthen_0 12 (by decide +kernel))
theorem dX8_lengthen_13 : decode cX8_lengthen 13 = .ok (.bipush 28, 2) := bq_o16 (a := 28) (bq_2 bwX8_lengthen_0 13 (by decide +kernel)) (by decide +kernel)
theorem dX8_lengthen_15 : decode cX8_lengthen 15 = .ok (.if_icmp .lt 4, 3) := bq_o161 (a := 0) (b := 4) (bq_3 bwX8_lengthen_0 15 (by decide +kernel)) (by decide +kernel)
theorem dX8_lengthen_18 : decode cX8_lengthen 18 = .ok (.return_, 1) := bq_o177 (bq_of bwX8_lengthen_0 18 (by decide +kernel))
theorem dX8_lengthen_19 : decode cX8_lengthen 19 = .ok (.aload_n 0, 1) := bq_o42 (bq_of bwX8_lengthen_0 19 (by decide +kernel))
theorem dX8_lengthen_20 : decode cX8_lengthen 20 = .ok (.getfield 40, 3) := bq_o180 (a := 0) (b := 40) (bq_3 bwX8_lengthen_0 20 (by decide +kernel)) rfl
theorem dX8_lengthen_23 : decode cX8_lengthen 23 = .ok (.aload_n 0, 1) := bq_o42 (bq_of bwX8_lengthen_0 23 (by decide +kernel))
theorem dX8_lengthen_24 : decode cX8_lengthen 24 = .ok (.getfield 40, 3) := bq_o180 (a := 0) (b := 40) (bq_3 bwX8_lengthen_0 24 (by decide +kernel)) rfl
theorem dX8_lengthen_27 : decode cX8_lengthen 27 = .ok (.iconst 1, 1) := bq_o4 (bq_of bwX8_lengthen_0 27 (by decide +kernel))
theorem dX8_lengthen_28 : decode cX8_lengthen 28 = .ok (.isub, 1) := bq_o100 (bq_of bwX8_lengthen_0 28 (by decide +kernel))
theorem dX8_lengthen_29 : decode cX8_lengthen 29 = .ok (.imul, 1) := bq_o104 (bq_of bwX8_lengthen_0 29 (by decide +kernel))
theorem dX8_lengthen_30 : decode cX8_lengthen 30 = .ok (.iconst 2, 1) := bq_o5 (bq_of bwX8_lengthen_0 30 (by decide +kernel))
theorem dX8_lengthen_31 : decode cX8_lengthen 31 = .ok (.idiv, 1) := bq_o108 (bq_of bwX8_lengthen_0 31 (by decide +kernel))
theorem dX8_lengthen_32 : decode cX8_lengthen 32 = .ok (.istore 4, 2) := bq_o54 (a := 4) (bq_2 bwX8_lengthen_0 32 (by decide +kernel)) rfl
theorem dX8_lengthen_34 : decode cX8_lengthen 34 = .ok (.iload_n 2, 1) := bq_o28 (bq_of bwX8_lengthen_0 34 (by decide +kernel))
theorem dX8_lengthen_35 : decode cX8_lengthen 35 = .ok (.istore 5, 2) := bq_o54 (a := 5) (bq_2 bwX8_lengthen_0 35 (by decide +kernel)) rfl
theorem dX8_lengthen_37 : decode cX8_lengthen 37 = .ok (.iload 5, 2) := bq_o21 (a := 5) (bq_2 bwX8_lengthen_0 37 (by decide +kernel)) rfl
theorem dX8_lengthen_39 : decode cX8_lengthen 39 = .ok (.aload_n 0, 1) := bq_o42 (bq_of bwX8_lengthen_0 39 (by decide +kernel))
theorem dX8_lengthen_40 : decode cX8_lengthen 40 = .ok (.getfield 53, 3) := bq_o180 (a := 0) (b := 53) (bq_3 bwX8_lengthen_0 40 (by decide +kernel)) rfl
theorem dX8_lengthen_43 : decode cX8_lengthen 43 = .ok (.if_icmp .ge 69, 3) := bq_o162 (a := 0) (b := 69) (bq_3 bwX8_lengthen_0 43 (by decide +kernel)) (by decide +kernel)
theorem dX8_lengthen_46 : decode cX8_lengthen 46 = .ok (.aload_n 0, 1) := bq_o42 (bq_of bwX8_lengthen_0 46 (by decide +kernel))
theorem dX8_lengthen_47 : decode cX8_lengthen 47 = .ok (.getfield 91, 3) := bq_o180 (a := 0) (b := 91) (bq_3 bwX8_lengthen_0 47 (by decide +kernel)) rfl
theorem dX8_lengthen_50 : decode cX8_lengthen 50 = .ok (.iconst 1, 1) := bq_o4 (bq_of bwX8_lengthen_0 50 (by decide +kernel))
theorem dX8_lengthen_51 : decode cX8_lengthen 51 = .ok (.iadd, 1) := bq_o96 (bq_of bwX8_lengthen_0 51 (by decide +kernel))
theorem dX8_lengthen_52 : decode cX8_lengthen 52 = .ok (.iload_n 3, 1) := bq_o29 (bq_of bwX8_lengthen_0 52 (by decide +kernel))
theorem dX8_lengthen_53 : decode cX8_lengthen 53 = .ok (.isub, 1) := bq_o100 (bq_of bwX8_lengthen_0 53 (by decide +kernel))
theorem dX8_lengthen_54 : decode cX8_lengthen 54 = .ok (.iload 4, 2) := bq_o21 (a := 4) (bq_2 bwX8_lengthen_0 54 (by decide +kernel)) rfl
theorem dX8_lengthen_56 : decode cX8_lengthen 56 = .ok (.imul, 1) := bq_o104 (bq_of bwX8_lengthen_0 56 (by decide +kernel))
theorem dX8_lengthen_57 : decode cX8_lengthen 57 = .ok (.iload_n 1, 1) := bq_o27 (bq_of bwX8_lengthen_0 57 (by decide +kernel))
theorem dX8_lengthen_58 : decode cX8_lengthen 58 = .ok (.invokestatic 73, 3) := bq_o184 (a := 0) (b := 73) (bq_3 bwX8_lengthen_0 58 (by decide +kernel)) rfl
theorem dX8_lengthen_61 : decode cX8_lengthen 61 = .ok (.if_icmp .le 4, 3) := bq_o164 (a := 0) (b := 4) (bq_3 bwX8_lengthen_0 61 (by decide +kernel)) (by decide +kernel)
def bwX8_lengthen_64l : List Nat := [177, 42, 180, 0, 21, 21, 5, 46, 27, 126, 42, 180, 0, 21, 21, 5, 46, 160, 0, 25, 42, 27, 42, 180, 0, 21, 21, 5, 46, 2, 130, 126, 21, 5, 4, 96, 29, 4, 96, 182, 0, 94, 132, 5, 1, 167, 255, 184, 177]
theorem bwX8_lengthen_64 : ((cX8_lengthen.data.toList.drop 64).take 49).map UInt8.toNat = bwX8_lengthen_64l := by decide +kernel
theorem dX8_lengthen_64 : decode cX8_lengthen 64 = .ok (.return_, 1) := bq_o177 (bq_of bwX8_lengthen_64 0 (by decide +kernel))
theorem dX8_lengthen_65 : decode cX8_lengthen 65 = .ok (.aload_n 0, 1) := bq_o42 (bq_of bwX8_lengthen_64 1 (by decide +kernel))
theorem dX8_lengthen_66 : decode cX8_lengthen 66 = .ok (.getfield 21, 3) := bq_o180 (a := 0) (b := 21) (bq_3 bwX8_lengthen_64 2 (by decide +kernel)) rfl
theorem dX8_lengthen_69 : decode cX8_lengthen 69 = .ok (.iload 5, 2) := bq_o21 (a := 5) (bq_2 bwX8_lengthen_64 5 (by decide +kernel)) rfl
theorem dX8_lengthen_71 : decode cX8_lengthen 71 = .ok (.iaload, 1) := bq_o46 (bq_of bwX8_lengthen_64 7 (by decide +kernel))
theorem dX8_lengthen_72 : decode cX8_lengthen 72 = .ok (.iload_n 1, 1) := bq_o27 (bq_of bwX8_lengthen_64 8 (by decide +kernel))
theorem dX8_lengthen_73 : decode cX8_lengthen 73 = .ok (.iand, 1) := bq_o126 (bq_of bwX8_lengthen_64 9 (by decide +kernel))
theorem dX8_lengthen_74 : decode cX8_lengthen 74 = .ok (.aload_n 0, 1) := bq_o42 (bq_of bwX8_lengthen_64 10 (by decide +kernel))
theorem dX8_lengthen_75 : decode cX8_lengthen 75 = .ok (.getfield 21, 3) := bq_o180 (a := 0) (b := 21) (bq_3 bwX8_lengthen_64 11 (by decide +kernel)) rfl
theorem dX8_lengthen_78 : decode cX8_lengthen 78 = .ok (.iload 5, 2) := bq_o21 (a := 5) (bq_2 bwX8_lengthen_64 14 (by decide +kernel)) rfl
theorem dX8_lengthen_80 : decode cX8_lengthen 80 = .ok (.iaload, 1) := bq_o46 (bq_of bwX8_lengthen_64 16 (by decide +kernel))
theorem dX8_lengthen_81 : decode cX8_lengthen 81 = .ok (.if_icmp .ne 25, 3) := bq_o160 (a := 0) (b := 25) (bq_3 bwX8_lengthen_64 17 (by decide +kernel)) (by decide +kernel)
theorem dX8_lengthen_84 : decode cX8_lengthen 84 = .ok (.aload_n 0, 1) := bq_o42 (bq_of bwX8_lengthen_64 20 (by decide +kernel))
theorem dX8_lengthen_85 : decode cX8_lengthen 85 = .ok (.iload_n 1, 1) := bq_o27 (bq_of bwX8_lengthen_64 21 (by decide +kernel))
theorem dX8_lengthen_86 : decode cX8_lengthen 86 = .ok (.aload_n 0, 1) := bq_o42 (bq_of bwX8_lengthen_64 22 (by decide +kernel))
theorem dX8_lengthen_87 : decode cX8_lengthen 87 = .ok (.getfield 21, 3) := bq_o180 (a := 0) (b := 21) (bq_3 bwX8_lengthen_64 23 (by decide +kernel)) rfl
theorem dX8_lengthen_90 : decode cX8_lengthen 90 = .ok (.iload 5, 2) := bq_o21 (a := 5) (bq_2 bwX8_lengthen_64 26 (by decide +kernel)) rfl
theorem dX8_lengthen_92 : decode cX8_lengthen 92 = .ok (.iaload, 1) := bq_o46 (bq_of bwX8_lengthen_64 28 (by decide +kernel))
theorem dX8_lengthen_93 : decode cX8_lengthen 93 = .ok (.iconst (-1), 1) := bq_o2 (bq_of bwX8_lengthen_64 29 (by decide +kernel))
theorem dX8_lengthen_94 : decode cX8_lengthen 94 = .ok (.ixor, 1) := bq_o130 (bq_of bwX8_lengthen_64 30 (by decide +kernel))
theorem dX8_lengthen_95 : decode cX8_lengthen 95 = .ok (.iand, 1) := bq_o126 (bq_of bwX8_lengthen_64 31 (by decide +kernel))
theorem dX8_lengthen_96 : decode cX8_lengthen 96 = .ok (.iload 5, 2) := bq_o21 (a := 5) (bq_2 bwX8_lengthen_64 32 (by decide +kernel)) rfl
theorem dX8_lengthen_98 : decode cX8_lengthen 98 = .ok (.iconst 1, 1) := bq_o4 (bq_of bwX8_lengthen_64 34 (by decide +kernel))
theorem dX8_lengthen_99 : decode cX8_lengthen 99 = .ok (.iadd, 1) := bq_o96 (bq_of bwX8_lengthen_64 35 (by decide +kernel))
theorem dX8_lengthen_100 : decode cX8_lengthen 100 = .ok (.iload_n 3, 1) := bq_o29 (bq_of bwX8_lengthen_64 36 (by decide +kernel))
theorem dX8_lengthen_101 : decode cX8_lengthen 101 = .ok (.iconst 1, 1) := bq_o4 (bq_of bwX8_lengthen_64 37 (by decide +kernel))
theorem dX8_lengthen_102 : decode cX8_lengthen 102 = .ok (.iadd, 1) := bq_o96 (bq_of bwX8_lengthen_64 38 (by decide +kernel))
theorem dX8_lengthen_103 : decode cX8_lengthen 103 = .ok (.invokevirtual 94, 3) := bq_o182 (a := 0) (b := 94) (bq_3 bwX8_lengthen_64 39 (by decide +kernel)) rfl
theorem dX8_lengthen_106 : decode cX8_lengthen 106 = .ok (.iinc 5 1, 3) := bq_o132 (a := 5) (b := 1) (bq_3 bwX8_lengthen_64 42 (by decide +kernel)) rfl (by decide +kernel)
theorem dX8_lengthen_109 : decode cX8_lengthen 109 = .ok (.goto (-72), 3) := bq_o167 (a := 255) (b := 184) (bq_3 bwX8_lengthen_64 45 (by decide +kernel)) (by decide +kernel)
theorem dX8_lengthen_112 : decode cX8_lengthen 112 = .ok (.return_, 1) := bq_o177 (bq_of bwX8_lengthen_64 48 (by decide +kernel))
theorem dX8_soonest_0 : decode cX8_soonest 0 = .ok (.aload_n 0, 1) := by decide +kernel
theorem dX8_soonest_1 : decode cX8_soonest 1 = .ok (.getfield 40, 3) := by decide +kernel
theorem dX8_soonest_4 : decode cX8_soonest 4 = .ok (.iconst 2, 1) := by decide +kernel
theorem dX8_soonest_5 : decode cX8_soonest 5 = .ok (.if_icmp .ne 8, 3) := by decide +kernel
theorem dX8_soonest_8 : decode cX8_soonest 8 = .ok (.aload_n 0, 1) := by decide +kernel
theorem dX8_soonest_9 : decode cX8_soonest 9 = .ok (.getfield 53, 3) := by decide +kernel
theorem dX8_soonest_12 : decode cX8_soonest 12 = .ok (.ireturn, 1) := by decide +kernel
theorem dX8_soonest_13 : decode cX8_soonest 13 = .ok (.aload_n 0, 1) := by decide +kernel
theorem dX8_soonest_14 : decode cX8_soonest 14 = .ok (.aload_n 0, 1) := by decide +kernel
theorem dX8_soonest_15 : decode cX8_soonest 15 = .ok (.invokevirtual 49, 3) := by decide +kernel
theorem dX8_soonest_18 : decode cX8_soonest 18 = .ok (.invokevirtual 88, 3) := by decide +kernel
theorem dX8_soonest_21 : decode cX8_soonest 21 = .ok (.pop, 1) := by decide +kernel
theorem dX8_soonest_22 : decode cX8_soonest 22 = .ok (.aload_n 0, 1) := by decide +kernel
theorem dX8_soonest_23 : decode cX8_soonest 23 = .ok (.bipush 28, 2) := by decide +kernel
theorem dX8_soonest_25 : decode cX8_soonest 25 = .ok (.putfield 91, 3) := by decide +kernel
theorem dX8_soonest_28 : decode cX8_soonest 28 = .ok (.aload_n 0, 1) := by decide +kernel
theorem dX8_soonest_29 : decode cX8_soonest 29 = .ok (.aload_n 0, 1) := by decide +kernel
theorem dX8_soonest_30 : decode cX8_soonest 30 = .ok (.aload_n 0, 1) := by decide +kernel
theorem dX8_soonest_31 : decode cX8_soonest 31 = .ok (.invokevirtual 49, 3) := by decide +kernel
theorem dX8_soonest_34 : decode cX8_soonest 34 = .ok (.invokevirtual 85, 3) := by decide +kernel
theorem dX8_soonest_37 : decode cX8_soonest 37 = .ok (.lconst 0, 1) := by decide +kernel
theorem dX8_soonest_38 : decode cX8_soonest 38 = .ok (.iconst 0, 1) := by decide +kernel
theorem dX8_soonest_39 : decode cX8_soonest 39 = .ok (.invokevirtual 102, 3) := by decide +kernel
theorem dX8_soonest_42 : decode cX8_soonest 42 = .ok (.aload_n 0, 1) := by decide +kernel
theorem dX8_soonest_43 : decode cX8_soonest 43 = .ok (.getfield 91, 3) := by decide +kernel
theorem dX8_soonest_46 : decode cX8_soonest 46 = .ok (.ireturn, 1) := by decide +kernel
def bwX8_finish_0l : List Nat := [42, 27, 182, 0, 106, 54, 5, 21, 5, 2, 160, 0, 17, 42, 42, 180, 0, 91, 21, 4, 184, 0, 109, 181, 0, 91, 177, 32, 55, 6, 21, 5, 54, 8, 21, 8, 42, 180, 0, 53, 162, 0, 111, 21, 4, 4, 96, 42, 180, 0, 91, 162, 0, 100, 42, 180, 0, 21, 21, 8, 46, 42, 180, 0, 21, 21]
theorem bwX8_finish_0 : ((cX8_finish.data.toList.drop 0).take 66).map UInt8.toNat = bwX8_finish_0l := by decide +kernel
theorem dX8_finish_0 : decode cX8_finish 0 = .ok (.aload_n 0, 1) := bq_o42 (bq_of bwX8_finish_0 0 (by decide +kernel))
theorem dX8_finish_1 : decode cX8_finish 1 = .ok (.iload_n 1, 1) := bq_o27 (bq_of bwX8_finish_0 1 (by decide +kernel))
theorem dX8_finish_2 : decode cX8_finish 2 = .ok (.invokevirtual 106, 3) := bq_o182 (a := 0) (b := 106) (bq_3 bwX8_finish_0 2 (by decide +kernel)) rfl
theorem dX8_finish_5 : decode cX8_finish 5 = .ok (.istore 5, 2) := bq_o54 (a := 5) (bq_2 bwX8_finish_0 5 (by decide +kernel)) rfl
theorem dX8_finish_7 : decode cX8_finish 7 = .ok (.iload 5, 2) := bq_o21 (a := 5) (bq_2 bwX8_finish_0 7 (by decide +kernel)) rfl
theorem dX8_finish_9 : decode cX8_finish 9 = .ok (.iconst (-1), 1) := bq_o2 (bq_of bwX8_finish_0 9 (by decide +kernel))
theorem dX8_finish_10 : decode cX8_finish 10 = .ok (.if_icmp .ne 17, 3) := bq_o160 (a := 0) (b := 17) (bq_3 bwX8_finish_0 10 (by decide +kernel)) (by decide +kernel)
theorem dX8_finish_13 : decode cX8_finish 13 = .ok (.aload_n 0, 1) := bq_o42 (bq_of bwX8_finish_0 13 (by decide +kernel))
theorem dX8_finish_14 : decode cX8_finish 14 = .ok (.aload_n 0, 1) := bq_o42 (bq_of bwX8_finish_0 14 (by decide +kernel))
theorem dX8_finish_15 : decode cX8_finish 15 = .ok (.getfield 91, 3) := bq_o180 (a := 0) (b := 91) (bq_3 bwX8_finish_0 15 (by decide +kernel)) rfl
theorem dX8_finish_18 : decode cX8_finish 18 = .ok (.iload 4, 2) := bq_o21 (a := 4) (bq_2 bwX8_finish_0 18 (by decide +kernel)) rfl
theorem dX8_finish_20 : decode cX8_finish 20 = .ok (.invokestatic 109, 3) := bq_o184 (a := 0) (b := 109) (bq_3 bwX8_finish_0 20 (by decide +kernel)) rfl
theorem dX8_finish_23 : decode cX8_finish 23 = .ok (.putfield 91, 3) := bq_o181 (a := 0) (b := 91) (bq_3 bwX8_finish_0 23 (by decide +kernel)) rfl
theorem dX8_finish_26 : decode cX8_finish 26 = .ok (.return_, 1) := bq_o177 (bq_of bwX8_finish_0 26 (by decide +kernel))
theorem dX8_finish_27 : decode cX8_finish 27 = .ok (.lload_n 2, 1) := bq_o32 (bq_of bwX8_finish_0 27 (by decide +kernel))
theorem dX8_finish_28 : decode cX8_finish 28 = .ok (.lstore 6, 2) := bq_o55 (a := 6) (bq_2 bwX8_finish_0 28 (by decide +kernel)) rfl
theorem dX8_finish_30 : decode cX8_finish 30 = .ok (.iload 5, 2) := bq_o21 (a := 5) (bq_2 bwX8_finish_0 30 (by decide +kernel)) rfl
theorem dX8_finish_32 : decode cX8_finish 32 = .ok (.istore 8, 2) := bq_o54 (a := 8) (bq_2 bwX8_finish_0 32 (by decide +kernel)) rfl
theorem dX8_finish_34 : decode cX8_finish 34 = .ok (.iload 8, 2) := bq_o21 (a := 8) (bq_2 bwX8_finish_0 34 (by decide +kernel)) rfl
theorem dX8_finish_36 : decode cX8_finish 36 = .ok (.aload_n 0, 1) := bq_o42 (bq_of bwX8_finish_0 36 (by decide +kernel))
theorem dX8_finish_37 : decode cX8_finish 37 = .ok (.getfield 53, 3) := bq_o180 (a := 0) (b := 53) (bq_3 bwX8_finish_0 37 (by decide +kernel)) rfl
theorem dX8_finish_40 : decode cX8_finish 40 = .ok (.if_icmp .ge 111, 3) := bq_o162 (a := 0) (b := 111) (bq_3 bwX8_finish_0 40 (by decide +kernel)) (by decide +kernel)
theorem dX8_finish_43 : decode cX8_finish 43 = .ok (.iload 4, 2) := bq_o21 (a := 4) (bq_2 bwX8_finish_0 43 (by decide +kernel)) rfl
theorem dX8_finish_45 : decode cX8_finish 45 = .ok (.iconst 1, 1) := bq_o4 (bq_of bwX8_finish_0 45 (by decide +kernel))
theorem dX8_finish_46 : decode cX8_finish 46 = .ok (.iadd, 1) := bq_o96 (bq_of bwX8_finish_0 46 (by decide +kernel))
theorem dX8_finish_47 : decode cX8_finish 47 = .ok (.aload_n 0, 1) := bq_o42 (bq_of bwX8_finish_0 47 (by decide +kernel))
theorem dX8_finish_48 : decode cX8_finish 48 = .ok (.getfield 91, 3) := bq_o180 (a := 0) (b := 91) (bq_3 bwX8_finish_0 48 (by decide +kernel)) rfl
theorem dX8_finish_51 : decode cX8_finish 51 = .ok (.if_icmp .ge 100, 3) := bq_o162 (a := 0) (b := 100) (bq_3 bwX8_finish_0 51 (by decide +kernel)) (by decide +kernel)
theorem dX8_finish_54 : decode cX8_finish 54 = .ok (.aload_n 0, 1) := bq_o42 (bq_of bwX8_finish_0 54 (by decide +kernel))
theorem dX8_finish_55 : decode cX8_finish 55 = .ok (.getfield 21, 3) := bq_o180 (a := 0) (b := 21) (bq_3 bwX8_finish_0 55 (by decide +kernel)) rfl
theorem dX8_finish_58 : decode cX8_finish 58 = .ok (.iload 8, 2) := bq_o21 (a := 8) (bq_2 bwX8_finish_0 58 (by decide +kernel)) rfl
theorem dX8_finish_60 : decode cX8_finish 60 = .ok (.iaload, 1) := bq_o46 (bq_of bwX8_finish_0 60 (by decide +kernel))
theorem dX8_finish_61 : decode cX8_finish 61 = .ok (.aload_n 0, 1) := bq_o42 (bq_of bwX8_finish_0 61 (by decide +kernel))
theorem dX8_finish_62 : decode cX8_finish 62 = .ok (.getfield 21, 3) := bq_o180 (a := 0) (b := 21) (bq_3 bwX8_finish_0 62 (by decide +kernel)) rfl
def bwX8_finish_64l : List Nat := [21, 21, 5, 46, 126, 153, 0, 7, 4, 167, 0, 4, 3, 54, 9, 21, 9, 153, 0, 64, 42, 180, 0, 21, 21, 8, 46, 27, 126, 42, 180, 0, 21, 21, 8, 46, 160, 0, 45, 22, 6, 21, 8, 123, 10, 127, 9, 148, 154, 0, 33, 42, 27, 42, 180, 0, 21, 21, 8, 46, 2, 130, 126, 22, 6, 21]
theorem bwX8_finish_64 : ((cX8_finish.data.toList.drop 64).take 66).map UInt8.toNat = bwX8_finish_64l := by decide +kernel
theorem dX8_finish_65 : decode cX8_finish 65 = .ok (.iload 5, 2) := bq_o21 (a := 5) (bq_2 bwX8_finish_64 1 (by decide +kernel)) rfl
theorem dX8_finish_67 : decode cX8_finish 67 = .ok (.iaload, 1) := bq_o46 (bq_of bwX8_finish_64 3 (by decide +kernel))
theorem dX8_finish_68 : decode cX8_finish 68 = .ok (.iand, 1) := bq_o126 (bq_of bwX8_finish_64 4 (by decide +kernel))
theorem dX8_finish_69 : decode cX8_finish 69 = .ok (.ifCond .eq 7, 3) := bq_o153 (a := 0) (b := 7) (bq_3 bwX8_finish_64 5 (by decide +kernel)) (by decide +kernel)
theorem dX8_finish_72 : decode cX8_finish 72 = .ok (.iconst 1, 1) := bq_o4 (bq_of bwX8_finish_64 8 (by decide +kernel))
theorem dX8_finish_73 : decode cX8_finish 73 = .ok (.goto 4, 3) := bq_o167 (a := 0) (b := 4) (bq_3 bwX8_finish_64 9 (by decide +kernel)) (by decide +kernel)
theorem dX8_finish_76 : decode cX8_finish 76 = .ok (.iconst 0, 1) := bq_o3 (bq_of bwX8_finish_64 12 (by decide +kernel))
theorem dX8_finish_77 : decode cX8_finish 77 = .ok (.istore 9, 2) := bq_o54 (a := 9) (bq_2 bwX8_finish_64 13 (by decide +kernel)) rfl
theorem dX8_finish_79 : decode cX8_finish 79 = .ok (.iload 9, 2) := bq_o21 (a := 9) (bq_2 bwX8_finish_64 15 (by decide +kernel)) rfl
theorem dX8_finish_81 : decode cX8_finish 81 = .ok (.ifCond .eq 64, 3) := bq_o153 (a := 0) (b := 64) (bq_3 bwX8_finish_64 17 (by decide +kernel)) (by decide +kernel)
theorem dX8_finish_84 : decode cX8_finish 84 = .ok (.aload_n 0, 1) := bq_o42 (bq_of bwX8_finish_64 20 (by decide +kernel))
theorem dX8_finish_85 : decode cX8_finish 85 = .ok (.getfield 21, 3) := bq_o180 (a := 0) (b := 21) (bq_3 bwX8_finish_64 21 (by decide +kernel)) rfl
theorem dX8_finish_88 : decode cX8_finish 88 = .ok (.iload 8, 2) := bq_o21 (a := 8) (bq_2 bwX8_finish_64 24 (by decide +kernel)) rfl
theorem dX8_finish_90 : decode cX8_finish 90 = .ok (.iaload, 1) := bq_o46 (bq_of bwX8_finish_64 26 (by decide +kernel))
theorem dX8_finish_91 : decode cX8_finish 91 = .ok (.iload_n 1, 1) := bq_o27 (bq_of bwX8_finish_64 27 (by decide +kernel))
theorem dX8_finish_92 : decode cX8_finish 92 = .ok (.iand, 1) := bq_o126 (bq_of bwX8_finish_64 28 (by decide +kernel))
theorem dX8_finish_93 : decode cX8_finish 93 = .ok (.aload_n 0, 1) := bq_o42 (bq_of bwX8_finish_64 29 (by decide +kernel))
theorem dX8_finish_94 : decode cX8_finish 94 = .ok (.getfield 21, 3) := bq_o180 (a := 0) (b := 21) (bq_3 bwX8_finish_64 30 (by decide +kernel)) rfl
theorem dX8_finish_97 : decode cX8_finish 97 = .ok (.iload 8, 2) := bq_o21 (a := 8) (bq_2 bwX8_finish_64 33 (by decide +kernel)) rfl
theorem dX8_finish_99 : decode cX8_finish 99 = .ok (.iaload, 1) := bq_o46 (bq_of bwX8_finish_64 35 (by decide +kernel))
theorem dX8_finish_100 : decode cX8_finish 100 = .ok (.if_icmp .ne 45, 3) := bq_o160 (a := 0) (b := 45) (bq_3 bwX8_finish_64 36 (by decide +kernel)) (by decide +kernel)
theorem dX8_finish_103 : decode cX8_finish 103 = .ok (.lload 6, 2) := bq_o22 (a := 6) (bq_2 bwX8_finish_64 39 (by decide +kernel)) rfl
theorem dX8_finish_105 : decode cX8_finish 105 = .ok (.iload 8, 2) := bq_o21 (a := 8) (bq_2 bwX8_finish_64 41 (by decide +kernel)) rfl
theorem dX8_finish_107 : decode cX8_finish 107 = .ok (.lshr, 1) := bq_o123 (bq_of bwX8_finish_64 43 (by decide +kernel))
theorem dX8_finish_108 : decode cX8_finish 108 = .ok (.lconst 1, 1) := bq_o10 (bq_of bwX8_finish_64 44 (by decide +kernel))
theorem dX8_finish_109 : decode cX8_finish 109 = .ok (.land, 1) := bq_o127 (bq_of bwX8_finish_64 45 (by decide +kernel))
theorem dX8_finish_110 : decode cX8_finish 110 = .ok (.lconst 0, 1) := bq_o9 (bq_of bwX8_finish_64 46 (by decide +kernel))
theorem dX8_finish_111 : decode cX8_finish 111 = .ok (.lcmp, 1) := bq_o148 (bq_of bwX8_finish_64 47 (by decide +kernel))
theorem dX8_finish_112 : decode cX8_finish 112 = .ok (.ifCond .ne 33, 3) := bq_o154 (a := 0) (b := 33) (bq_3 bwX8_finish_64 48 (by decide +kernel)) (by decide +kernel)
theorem dX8_finish_115 : decode cX8_finish 115 = .ok (.aload_n 0, 1) := bq_o42 (bq_of bwX8_finish_64 51 (by decide +kernel))
theorem dX8_finish_116 : decode cX8_finish 116 = .ok (.iload_n 1, 1) := bq_o27 (bq_of bwX8_finish_64 52 (by decide +kernel))
theorem dX8_finish_117 : decode cX8_finish 117 = .ok (.aload_n 0, 1) := bq_o42 (bq_of bwX8_finish_64 53 (by decide +kernel))
theorem dX8_finish_118 : decode cX8_finish 118 = .ok (.getfield 21, 3) := bq_o180 (a := 0) (b := 21) (bq_3 bwX8_finish_64 54 (by decide +kernel)) rfl
theorem dX8_finish_121 : decode cX8_finish 121 = .ok (.iload 8, 2) := bq_o21 (a := 8) (bq_2 bwX8_finish_64 57 (by decide +kernel)) rfl
theorem dX8_finish_123 : decode cX8_finish 123 = .ok (.iaload, 1) := bq_o46 (bq_of bwX8_finish_64 59 (by decide +kernel))
theorem dX8_finish_124 : decode cX8_finish 124 = .ok (.iconst (-1), 1) := bq_o2 (bq_of bwX8_finish_64 60 (by decide +kernel))
theorem dX8_finish_125 : decode cX8_finish 125 = .ok (.ixor, 1) := bq_o130 (bq_of bwX8_finish_64 61 (by decide +kernel))
theorem dX8_finish_126 : decode cX8_finish 126 = .ok (.iand, 1) := bq_o126 (bq_of bwX8_finish_64 62 (by decide +kernel))
theorem dX8_finish_127 : decode cX8_finish 127 = .ok (.lload 6, 2) := bq_o22 (a := 6) (bq_2 bwX8_finish_64 63 (by decide +kernel)) rfl
def bwX8_finish_128l : List Nat := [6, 21, 4, 4, 96, 182, 0, 102, 22, 6, 10, 21, 8, 121, 129, 55, 6, 132, 8, 1, 167, 255, 142, 177]
theorem bwX8_finish_128 : ((cX8_finish.data.toList.drop 128).take 24).map UInt8.toNat = bwX8_finish_128l := by decide +kernel
theorem dX8_finish_129 : decode cX8_finish 129 = .ok (.iload 4, 2) := bq_o21 (a := 4) (bq_2 bwX8_finish_128 1 (by decide +kernel)) rfl
theorem dX8_finish_131 : decode cX8_finish 131 = .ok (.iconst 1, 1) := bq_o4 (bq_of bwX8_finish_128 3 (by decide +kernel))
theorem dX8_finish_132 : decode cX8_finish 132 = .ok (.iadd, 1) := bq_o96 (bq_of bwX8_finish_128 4 (by decide +kernel))
theorem dX8_finish_133 : decode cX8_finish 133 = .ok (.invokevirtual 102, 3) := bq_o182 (a := 0) (b := 102) (bq_3 bwX8_finish_128 5 (by decide +kernel)) rfl
theorem dX8_finish_136 : decode cX8_finish 136 = .ok (.lload 6, 2) := bq_o22 (a := 6) (bq_2 bwX8_finish_128 8 (by decide +kernel)) rfl
theorem dX8_finish_138 : decode cX8_finish 138 = .ok (.lconst 1, 1) := bq_o10 (bq_of bwX8_finish_128 10 (by decide +kernel))
theorem dX8_finish_139 : decode cX8_finish 139 = .ok (.iload 8, 2) := bq_o21 (a := 8) (bq_2 bwX8_finish_128 11 (by decide +kernel)) rfl
theorem dX8_finish_141 : decode cX8_finish 141 = .ok (.lshl, 1) := bq_o121 (bq_of bwX8_finish_128 13 (by decide +kernel))
theorem dX8_finish_142 : decode cX8_finish 142 = .ok (.lor, 1) := bq_o129 (bq_of bwX8_finish_128 14 (by decide +kernel))
theorem dX8_finish_143 : decode cX8_finish 143 = .ok (.lstore 6, 2) := bq_o55 (a := 6) (bq_2 bwX8_finish_128 15 (by decide +kernel)) rfl
theorem dX8_finish_145 : decode cX8_finish 145 = .ok (.iinc 8 1, 3) := bq_o132 (a := 8) (b := 1) (bq_3 bwX8_finish_128 17 (by decide +kernel)) rfl (by decide +kernel)
theorem dX8_finish_148 : decode cX8_finish 148 = .ok (.goto (-114), 3) := bq_o167 (a := 255) (b := 142) (bq_3 bwX8_finish_128 20 (by decide +kernel)) (by decide +kernel)
theorem dX8_finish_151 : decode cX8_finish 151 = .ok (.return_, 1) := bq_o177 (bq_of bwX8_finish_128 23 (by decide +kernel))
theorem dX8_firstPossible_0 : decode cX8_firstPossible 0 = .ok (.iconst 0, 1) := by decide +kernel
theorem dX8_firstPossible_1 : decode cX8_firstPossible 1 = .ok (.istore_n 2, 1) := by decide +kernel
theorem dX8_firstPossible_2 : decode cX8_firstPossible 2 = .ok (.iload_n 2, 1) := by decide +kernel
theorem dX8_firstPossible_3 : decode cX8_firstPossible 3 = .ok (.aload_n 0, 1) := by decide +kernel
theorem dX8_firstPossible_4 : decode cX8_firstPossible 4 = .ok (.getfield 53, 3) := by decide +kernel
theorem dX8_firstPossible_7 : decode cX8_firstPossible 7 = .ok (.if_icmp .ge 28, 3) := by decide +kernel
theorem dX8_firstPossible_10 : decode cX8_firstPossible 10 = .ok (.aload_n 0, 1) := by decide +kernel
theorem dX8_firstPossible_11 : decode cX8_firstPossible 11 = .ok (.getfield 21, 3) := by decide +kernel
theorem dX8_firstPossible_14 : decode cX8_firstPossible 14 = .ok (.iload_n 2, 1) := by decide +kernel
theorem dX8_firstPossible_15 : decode cX8_firstPossible 15 = .ok (.iaload, 1) := by decide +kernel
theorem dX8_firstPossible_16 : decode cX8_firstPossible 16 = .ok (.iload_n 1, 1) := by decide +kernel
theorem dX8_firstPossible_17 : decode cX8_firstPossible 17 = .ok (.iand, 1) := by decide +kernel
theorem dX8_firstPossible_18 : decode cX8_firstPossible 18 = .ok (.aload_n 0, 1) := by decide +kernel
theorem dX8_firstPossible_19 : decode cX8_firstPossible 19 = .ok (.getfield 21, 3) := by decide +kernel
theorem dX8_firstPossible_22 : decode cX8_firstPossible 22 = .ok (.iload_n 2, 1) := by decide +kernel
theorem dX8_firstPossible_23 : decode cX8_firstPossible 23 = .ok (.iaload, 1) := by decide +kernel
theorem dX8_firstPossible_24 : decode cX8_firstPossible 24 = .ok (.if_icmp .ne 5, 3) := by decide +kernel
theorem dX8_firstPossible_27 : decode cX8_firstPossible 27 = .ok (.iload_n 2, 1) := by decide +kernel
theorem dX8_firstPossible_28 : decode cX8_firstPossible 28 = .ok (.ireturn, 1) := by decide +kernel
theorem dX8_firstPossible_29 : decode cX8_firstPossible 29 = .ok (.iinc 2 1, 3) := by decide +kernel
theorem dX8_firstPossible_32 : decode cX8_firstPossible 32 = .ok (.goto (-30), 3) := by decide +kernel
theorem dX8_firstPossible_35 : decode cX8_firstPossible 35 = .ok (.iconst (-1), 1) := by decide +kernel
theorem dX8_firstPossible_36 : decode cX8_firstPossible 36 = .ok (.ireturn, 1) := by decide +kernel
def bwX8_countWays_0l : List Nat := [3, 61, 28, 16, 28, 162, 0, 16, 42, 180, 0, 27, 28, 3, 79, 132, 2, 1, 167, 255, 240, 42, 27, 182, 0, 88, 61, 42, 27, 182, 0, 85, 62, 4, 29, 184, 0, 73, 120, 54, 4, 3, 54, 5, 3, 54, 6, 3, 54, 7, 21, 7, 21, 4, 162, 0, 36, 42, 21, 6, 28, 182, 0, 112, 153, 0]
theorem bwX8_countWays_0 : ((cX8_countWays.data.toList.drop 0).take 66).map UInt8.toNat = bwX8_countWays_0l := by decide +kernel
theorem dX8_countWays_0 : decode cX8_countWays 0 = .ok (.iconst 0, 1) := bq_o3 (bq_of bwX8_countWays_0 0 (by decide +kernel))
theorem dX8_countWays_1 : decode cX8_countWays 1 = .ok (.istore_n 2, 1) := bq_o61 (bq_of bwX8_countWays_0 1 (by decide +kernel))
theorem dX8_countWays_2 : decode cX8_countWays 2 = .ok (.iload_n 2, 1) := bq_o28 (bq_of bwX8_countWays_0 2 (by decide +kernel))
theorem dX8_countWays_3 : decode cX8_countWays 3 = .ok (.bipush 28, 2) := bq_o16 (a := 28) (bq_2 bwX8_countWays_0 3 (by decide +kernel)) (by decide +kernel)
theorem dX8_countWays_5 : decode cX8_countWays 5 = .ok (.if_icmp .ge 16, 3) := bq_o162 (a := 0) (b := 16) (bq_3 bwX8_countWays_0 5 (by decide +kernel)) (by decide +kernel)
theorem dX8_countWays_8 : decode cX8_countWays 8 = .ok (.aload_n 0, 1) := bq_o42 (bq_of bwX8_countWays_0 8 (by decide +kernel))
theorem dX8_countWays_9 : decode cX8_countWays 9 = .ok (.getfield 27, 3) := bq_o180 (a := 0) (b := 27) (bq_3 bwX8_countWays_0 9 (by decide +kernel)) rfl
theorem dX8_countWays_12 : decode cX8_countWays 12 = .ok (.iload_n 2, 1) := bq_o28 (bq_of bwX8_countWays_0 12 (by decide +kernel))
theorem dX8_countWays_13 : decode cX8_countWays 13 = .ok (.iconst 0, 1) := bq_o3 (bq_of bwX8_countWays_0 13 (by decide +kernel))
theorem dX8_countWays_14 : decode cX8_countWays 14 = .ok (.iastore, 1) := bq_o79 (bq_of bwX8_countWays_0 14 (by decide +kernel))
theorem dX8_countWays_15 : decode cX8_countWays 15 = .ok (.iinc 2 1, 3) := bq_o132 (a := 2) (b := 1) (bq_3 bwX8_countWays_0 15 (by decide +kernel)) rfl (by decide +kernel)
theorem dX8_countWays_18 : decode cX8_countWays 18 = .ok (.goto (-16), 3) := bq_o167 (a := 255) (b := 240) (bq_3 bwX8_countWays_0 18 (by decide +kernel)) (by decide +kernel)
theorem dX8_countWays_21 : decode cX8_countWays 21 = .ok (.aload_n 0, 1) := bq_o42 (bq_of bwX8_countWays_0 21 (by decide +kernel))
theorem dX8_countWays_22 : decode cX8_countWays 22 = .ok (.iload_n 1, 1) := bq_o27 (bq_of bwX8_countWays_0 22 (by decide +kernel))
theorem dX8_countWays_23 : decode cX8_countWays 23 = .ok (.invokevirtual 88, 3) := bq_o182 (a := 0) (b := 88) (bq_3 bwX8_countWays_0 23 (by decide +kernel)) rfl
theorem dX8_countWays_26 : decode cX8_countWays 26 = .ok (.istore_n 2, 1) := bq_o61 (bq_of bwX8_countWays_0 26 (by decide +kernel))
theorem dX8_countWays_27 : decode cX8_countWays 27 = .ok (.aload_n 0, 1) := bq_o42 (bq_of bwX8_countWays_0 27 (by decide +kernel))
theorem dX8_countWays_28 : decode cX8_countWays 28 = .ok (.iload_n 1, 1) := bq_o27 (bq_of bwX8_countWays_0 28 (by decide +kernel))
theorem dX8_countWays_29 : decode cX8_countWays 29 = .ok (.invokevirtual 85, 3) := bq_o182 (a := 0) (b := 85) (bq_3 bwX8_countWays_0 29 (by decide +kernel)) rfl
theorem dX8_countWays_32 : decode cX8_countWays 32 = .ok (.istore_n 3, 1) := bq_o62 (bq_of bwX8_countWays_0 32 (by decide +kernel))
theorem dX8_countWays_33 : decode cX8_countWays 33 = .ok (.iconst 1, 1) := bq_o4 (bq_of bwX8_countWays_0 33 (by decide +kernel))
theorem dX8_countWays_34 : decode cX8_countWays 34 = .ok (.iload_n 3, 1) := bq_o29 (bq_of bwX8_countWays_0 34 (by decide +kernel))
theorem dX8_countWays_35 : decode cX8_countWays 35 = .ok (.invokestatic 73, 3) := bq_o184 (a := 0) (b := 73) (bq_3 bwX8_countWays_0 35 (by decide +kernel)) rfl
theorem dX8_countWays_38 : decode cX8_countWays 38 = .ok (.ishl, 1) := bq_o120 (bq_of bwX8_countWays_0 38 (by decide +kernel))
theorem dX8_countWays_39 : decode cX8_countWays 39 = .ok (.istore 4, 2) := bq_o54 (a := 4) (bq_2 bwX8_countWays_0 39 (by decide +kernel)) rfl
theorem dX8_countWays_41 : decode cX8_countWays 41 = .ok (.iconst 0, 1) := bq_o3 (bq_of bwX8_countWays_0 41 (by decide +kernel))
theorem dX8_countWays_42 : decode cX8_countWays 42 = .ok (.istore 5, 2) := bq_o54 (a := 5) (bq_2 bwX8_countWays_0 42 (by decide +kernel)) rfl
theorem dX8_countWays_44 : decode cX8_countWays 44 = .ok (.iconst 0, 1) := bq_o3 (bq_of bwX8_countWays_0 44 (by decide +kernel))
theorem dX8_countWays_45 : decode cX8_countWays 45 = .ok (.istore 6, 2) := bq_o54 (a := 6) (bq_2 bwX8_countWays_0 45 (by decide +kernel)) rfl
theorem dX8_countWays_47 : decode cX8_countWays 47 = .ok (.iconst 0, 1) := bq_o3 (bq_of bwX8_countWays_0 47 (by decide +kernel))
theorem dX8_countWays_48 : decode cX8_countWays 48 = .ok (.istore 7, 2) := bq_o54 (a := 7) (bq_2 bwX8_countWays_0 48 (by decide +kernel)) rfl
theorem dX8_countWays_50 : decode cX8_countWays 50 = .ok (.iload 7, 2) := bq_o21 (a := 7) (bq_2 bwX8_countWays_0 50 (by decide +kernel)) rfl
theorem dX8_countWays_52 : decode cX8_countWays 52 = .ok (.iload 4, 2) := bq_o21 (a := 4) (bq_2 bwX8_countWays_0 52 (by decide +kernel)) rfl
theorem dX8_countWays_54 : decode cX8_countWays 54 = .ok (.if_icmp .ge 36, 3) := bq_o162 (a := 0) (b := 36) (bq_3 bwX8_countWays_0 54 (by decide +kernel)) (by decide +kernel)
theorem dX8_countWays_57 : decode cX8_countWays 57 = .ok (.aload_n 0, 1) := bq_o42 (bq_of bwX8_countWays_0 57 (by decide +kernel))
theorem dX8_countWays_58 : decode cX8_countWays 58 = .ok (.iload 6, 2) := bq_o21 (a := 6) (bq_2 bwX8_countWays_0 58 (by decide +kernel)) rfl
theorem dX8_countWays_60 : decode cX8_countWays 60 = .ok (.iload_n 2, 1) := bq_o28 (bq_of bwX8_countWays_0 60 (by decide +kernel))
theorem dX8_countWays_61 : decode cX8_countWays 61 = .ok (.invokevirtual 112, 3) := bq_o182 (a := 0) (b := 112) (bq_3 bwX8_countWays_0 61 (by decide +kernel)) rfl
def bwX8_countWays_64l : List Nat := [153, 0, 12, 132, 5, 1, 42, 21, 6, 182, 0, 116, 21, 6, 29, 100, 29, 126, 54, 6, 132, 7, 1, 167, 255, 219, 21, 5, 172]
theorem bwX8_countWays_64 : ((cX8_countWays.data.toList.drop 64).take 29).map UInt8.toNat = bwX8_countWays_64l := by decide +kernel
theorem dX8_countWays_64 : decode cX8_countWays 64 = .ok (.ifCond .eq 12, 3) := bq_o153 (a := 0) (b := 12) (bq_3 bwX8_countWays_64 0 (by decide +kernel)) (by decide +kernel)
theorem dX8_countWays_67 : decode cX8_countWays 67 = .ok (.iinc 5 1, 3) := bq_o132 (a := 5) (b := 1) (bq_3 bwX8_countWays_64 3 (by decide +kernel)) rfl (by decide +kernel)
theorem dX8_countWays_70 : decode cX8_countWays 70 = .ok (.aload_n 0, 1) := bq_o42 (bq_of bwX8_countWays_64 6 (by decide +kernel))
theorem dX8_countWays_71 : decode cX8_countWays 71 = .ok (.iload 6, 2) := bq_o21 (a := 6) (bq_2 bwX8_countWays_64 7 (by decide +kernel)) rfl
theorem dX8_countWays_73 : decode cX8_countWays 73 = .ok (.invokevirtual 116, 3) := bq_o182 (a := 0) (b := 116) (bq_3 bwX8_countWays_64 9 (by decide +kernel)) rfl
theorem dX8_countWays_76 : decode cX8_countWays 76 = .ok (.iload 6, 2) := bq_o21 (a := 6) (bq_2 bwX8_countWays_64 12 (by decide +kernel)) rfl
theorem dX8_countWays_78 : decode cX8_countWays 78 = .ok (.iload_n 3, 1) := bq_o29 (bq_of bwX8_countWays_64 14 (by decide +kernel))
theorem dX8_countWays_79 : decode cX8_countWays 79 = .ok (.isub, 1) := bq_o100 (bq_of bwX8_countWays_64 15 (by decide +kernel))
theorem dX8_countWays_80 : decode cX8_countWays 80 = .ok (.iload_n 3, 1) := bq_o29 (bq_of bwX8_countWays_64 16 (by decide +kernel))
theorem dX8_countWays_81 : decode cX8_countWays 81 = .ok (.iand, 1) := bq_o126 (bq_of bwX8_countWays_64 17 (by decide +kernel))
theorem dX8_countWays_82 : decode cX8_countWays 82 = .ok (.istore 6, 2) := bq_o54 (a := 6) (bq_2 bwX8_countWays_64 18 (by decide +kernel)) rfl
theorem dX8_countWays_84 : decode cX8_countWays 84 = .ok (.iinc 7 1, 3) := bq_o132 (a := 7) (b := 1) (bq_3 bwX8_countWays_64 20 (by decide +kernel)) rfl (by decide +kernel)
theorem dX8_countWays_87 : decode cX8_countWays 87 = .ok (.goto (-37), 3) := bq_o167 (a := 255) (b := 219) (bq_3 bwX8_countWays_64 23 (by decide +kernel)) (by decide +kernel)
theorem dX8_countWays_90 : decode cX8_countWays 90 = .ok (.iload 5, 2) := bq_o21 (a := 5) (bq_2 bwX8_countWays_64 26 (by decide +kernel)) rfl
theorem dX8_countWays_92 : decode cX8_countWays 92 = .ok (.ireturn, 1) := bq_o172 (bq_of bwX8_countWays_64 28 (by decide +kernel))
theorem dX8_breaksAll_0 : decode cX8_breaksAll 0 = .ok (.iconst 0, 1) := by decide +kernel
theorem dX8_breaksAll_1 : decode cX8_breaksAll 1 = .ok (.istore_n 3, 1) := by decide +kernel
theorem dX8_breaksAll_2 : decode cX8_breaksAll 2 = .ok (.iload_n 3, 1) := by decide +kernel
theorem dX8_breaksAll_3 : decode cX8_breaksAll 3 = .ok (.iload_n 2, 1) := by decide +kernel
theorem dX8_breaksAll_4 : decode cX8_breaksAll 4 = .ok (.if_icmp .ge 22, 3) := by decide +kernel
theorem dX8_breaksAll_7 : decode cX8_breaksAll 7 = .ok (.aload_n 0, 1) := by decide +kernel
theorem dX8_breaksAll_8 : decode cX8_breaksAll 8 = .ok (.getfield 21, 3) := by decide +kernel
theorem dX8_breaksAll_11 : decode cX8_breaksAll 11 = .ok (.iload_n 3, 1) := by decide +kernel
theorem dX8_breaksAll_12 : decode cX8_breaksAll 12 = .ok (.iaload, 1) := by decide +kernel
theorem dX8_breaksAll_13 : decode cX8_breaksAll 13 = .ok (.iload_n 1, 1) := by decide +kernel
theorem dX8_breaksAll_14 : decode cX8_breaksAll 14 = .ok (.iand, 1) := by decide +kernel
theorem dX8_breaksAll_15 : decode cX8_breaksAll 15 = .ok (.ifCond .ne 5, 3) := by decide +kernel
theorem dX8_breaksAll_18 : decode cX8_breaksAll 18 = .ok (.iconst 0, 1) := by decide +kernel
theorem dX8_breaksAll_19 : decode cX8_breaksAll 19 = .ok (.ireturn, 1) := by decide +kernel
theorem dX8_breaksAll_20 : decode cX8_breaksAll 20 = .ok (.iinc 3 1, 3) := by decide +kernel
theorem dX8_breaksAll_23 : decode cX8_breaksAll 23 = .ok (.goto (-21), 3) := by decide +kernel
theorem dX8_breaksAll_26 : decode cX8_breaksAll 26 = .ok (.iconst 1, 1) := by decide +kernel
theorem dX8_breaksAll_27 : decode cX8_breaksAll 27 = .ok (.ireturn, 1) := by decide +kernel
theorem dX8_tally_0 : decode cX8_tally 0 = .ok (.iconst 0, 1) := by decide +kernel
theorem dX8_tally_1 : decode cX8_tally 1 = .ok (.istore_n 2, 1) := by decide +kernel
theorem dX8_tally_2 : decode cX8_tally 2 = .ok (.iload_n 2, 1) := by decide +kernel
theorem dX8_tally_3 : decode cX8_tally 3 = .ok (.bipush 28, 2) := by decide +kernel
theorem dX8_tally_5 : decode cX8_tally 5 = .ok (.if_icmp .ge 23, 3) := by decide +kernel
theorem dX8_tally_8 : decode cX8_tally 8 = .ok (.aload_n 0, 1) := by decide +kernel
theorem dX8_tally_9 : decode cX8_tally 9 = .ok (.getfield 27, 3) := by decide +kernel
theorem dX8_tally_12 : decode cX8_tally 12 = .ok (.iload_n 2, 1) := by decide +kernel
theorem dX8_tally_13 : decode cX8_tally 13 = .ok (.dup2, 1) := by decide +kernel
theorem dX8_tally_14 : decode cX8_tally 14 = .ok (.iaload, 1) := by decide +kernel
theorem dX8_tally_15 : decode cX8_tally 15 = .ok (.iload_n 1, 1) := by decide +kernel
theorem dX8_tally_16 : decode cX8_tally 16 = .ok (.iload_n 2, 1) := by decide +kernel
theorem dX8_tally_17 : decode cX8_tally 17 = .ok (.ishr, 1) := by decide +kernel
theorem dX8_tally_18 : decode cX8_tally 18 = .ok (.iconst 1, 1) := by decide +kernel
theorem dX8_tally_19 : decode cX8_tally 19 = .ok (.iand, 1) := by decide +kernel
theorem dX8_tally_20 : decode cX8_tally 20 = .ok (.iadd, 1) := by decide +kernel
theorem dX8_tally_21 : decode cX8_tally 21 = .ok (.iastore, 1) := by decide +kernel
theorem dX8_tally_22 : decode cX8_tally 22 = .ok (.iinc 2 1, 3) := by decide +kernel
theorem dX8_tally_25 : decode cX8_tally 25 = .ok (.goto (-23), 3) := by decide +kernel
theorem dX8_tally_28 : decode cX8_tally 28 = .ok (.return_, 1) := by decide +kernel
def bwX8_surest_0l : List Nat := [42, 27, 182, 0, 120, 87, 42, 27, 182, 0, 85, 61, 2, 62, 2, 54, 4, 3, 54, 5, 21, 5, 42, 180, 0, 36, 162, 0, 78, 21, 5, 4, 96, 54, 6, 21, 6, 42, 180, 0, 36, 162, 0, 57, 21, 5, 21, 6, 184, 0, 81, 54, 7, 28, 21, 7, 122, 4, 126, 153, 0, 33, 42, 180, 0, 27]
theorem bwX8_surest_0 : ((cX8_surest.data.toList.drop 0).take 66).map UInt8.toNat = bwX8_surest_0l := by decide +kernel
theorem dX8_surest_0 : decode cX8_surest 0 = .ok (.aload_n 0, 1) := bq_o42 (bq_of bwX8_surest_0 0 (by decide +kernel))
theorem dX8_surest_1 : decode cX8_surest 1 = .ok (.iload_n 1, 1) := bq_o27 (bq_of bwX8_surest_0 1 (by decide +kernel))
theorem dX8_surest_2 : decode cX8_surest 2 = .ok (.invokevirtual 120, 3) := bq_o182 (a := 0) (b := 120) (bq_3 bwX8_surest_0 2 (by decide +kernel)) rfl
theorem dX8_surest_5 : decode cX8_surest 5 = .ok (.pop, 1) := bq_o87 (bq_of bwX8_surest_0 5 (by decide +kernel))
theorem dX8_surest_6 : decode cX8_surest 6 = .ok (.aload_n 0, 1) := bq_o42 (bq_of bwX8_surest_0 6 (by decide +kernel))
theorem dX8_surest_7 : decode cX8_surest 7 = .ok (.iload_n 1, 1) := bq_o27 (bq_of bwX8_surest_0 7 (by decide +kernel))
theorem dX8_surest_8 : decode cX8_surest 8 = .ok (.invokevirtual 85, 3) := bq_o182 (a := 0) (b := 85) (bq_3 bwX8_surest_0 8 (by decide +kernel)) rfl
theorem dX8_surest_11 : decode cX8_surest 11 = .ok (.istore_n 2, 1) := bq_o61 (bq_of bwX8_surest_0 11 (by decide +kernel))
theorem dX8_surest_12 : decode cX8_surest 12 = .ok (.iconst (-1), 1) := bq_o2 (bq_of bwX8_surest_0 12 (by decide +kernel))
theorem dX8_surest_13 : decode cX8_surest 13 = .ok (.istore_n 3, 1) := bq_o62 (bq_of bwX8_surest_0 13 (by decide +kernel))
theorem dX8_surest_14 : decode cX8_surest 14 = .ok (.iconst (-1), 1) := bq_o2 (bq_of bwX8_surest_0 14 (by decide +kernel))
theorem dX8_surest_15 : decode cX8_surest 15 = .ok (.istore 4, 2) := bq_o54 (a := 4) (bq_2 bwX8_surest_0 15 (by decide +kernel)) rfl
theorem dX8_surest_17 : decode cX8_surest 17 = .ok (.iconst 0, 1) := bq_o3 (bq_of bwX8_surest_0 17 (by decide +kernel))
theorem dX8_surest_18 : decode cX8_surest 18 = .ok (.istore 5, 2) := bq_o54 (a := 5) (bq_2 bwX8_surest_0 18 (by decide +kernel)) rfl
theorem dX8_surest_20 : decode cX8_surest 20 = .ok (.iload 5, 2) := bq_o21 (a := 5) (bq_2 bwX8_surest_0 20 (by decide +kernel)) rfl
theorem dX8_surest_22 : decode cX8_surest 22 = .ok (.aload_n 0, 1) := bq_o42 (bq_of bwX8_surest_0 22 (by decide +kernel))
theorem dX8_surest_23 : decode cX8_surest 23 = .ok (.getfield 36, 3) := bq_o180 (a := 0) (b := 36) (bq_3 bwX8_surest_0 23 (by decide +kernel)) rfl
theorem dX8_surest_26 : decode cX8_surest 26 = .ok (.if_icmp .ge 78, 3) := bq_o162 (a := 0) (b := 78) (bq_3 bwX8_surest_0 26 (by decide +kernel)) (by decide +kernel)
theorem dX8_surest_29 : decode cX8_surest 29 = .ok (.iload 5, 2) := bq_o21 (a := 5) (bq_2 bwX8_surest_0 29 (by decide +kernel)) rfl
theorem dX8_surest_31 : decode cX8_surest 31 = .ok (.iconst 1, 1) := bq_o4 (bq_of bwX8_surest_0 31 (by decide +kernel))
theorem dX8_surest_32 : decode cX8_surest 32 = .ok (.iadd, 1) := bq_o96 (bq_of bwX8_surest_0 32 (by decide +kernel))
theorem dX8_surest_33 : decode cX8_surest 33 = .ok (.istore 6, 2) := bq_o54 (a := 6) (bq_2 bwX8_surest_0 33 (by decide +kernel)) rfl
theorem dX8_surest_35 : decode cX8_surest 35 = .ok (.iload 6, 2) := bq_o21 (a := 6) (bq_2 bwX8_surest_0 35 (by decide +kernel)) rfl
theorem dX8_surest_37 : decode cX8_surest 37 = .ok (.aload_n 0, 1) := bq_o42 (bq_of bwX8_surest_0 37 (by decide +kernel))
theorem dX8_surest_38 : decode cX8_surest 38 = .ok (.getfield 36, 3) := bq_o180 (a := 0) (b := 36) (bq_3 bwX8_surest_0 38 (by decide +kernel)) rfl
theorem dX8_surest_41 : decode cX8_surest 41 = .ok (.if_icmp .ge 57, 3) := bq_o162 (a := 0) (b := 57) (bq_3 bwX8_surest_0 41 (by decide +kernel)) (by decide +kernel)
theorem dX8_surest_44 : decode cX8_surest 44 = .ok (.iload 5, 2) := bq_o21 (a := 5) (bq_2 bwX8_surest_0 44 (by decide +kernel)) rfl
theorem dX8_surest_46 : decode cX8_surest 46 = .ok (.iload 6, 2) := bq_o21 (a := 6) (bq_2 bwX8_surest_0 46 (by decide +kernel)) rfl
theorem dX8_surest_48 : decode cX8_surest 48 = .ok (.invokestatic 81, 3) := bq_o184 (a := 0) (b := 81) (bq_3 bwX8_surest_0 48 (by decide +kernel)) rfl
theorem dX8_surest_51 : decode cX8_surest 51 = .ok (.istore 7, 2) := bq_o54 (a := 7) (bq_2 bwX8_surest_0 51 (by decide +kernel)) rfl
theorem dX8_surest_53 : decode cX8_surest 53 = .ok (.iload_n 2, 1) := bq_o28 (bq_of bwX8_surest_0 53 (by decide +kernel))
theorem dX8_surest_54 : decode cX8_surest 54 = .ok (.iload 7, 2) := bq_o21 (a := 7) (bq_2 bwX8_surest_0 54 (by decide +kernel)) rfl
theorem dX8_surest_56 : decode cX8_surest 56 = .ok (.ishr, 1) := bq_o122 (bq_of bwX8_surest_0 56 (by decide +kernel))
theorem dX8_surest_57 : decode cX8_surest 57 = .ok (.iconst 1, 1) := bq_o4 (bq_of bwX8_surest_0 57 (by decide +kernel))
theorem dX8_surest_58 : decode cX8_surest 58 = .ok (.iand, 1) := bq_o126 (bq_of bwX8_surest_0 58 (by decide +kernel))
theorem dX8_surest_59 : decode cX8_surest 59 = .ok (.ifCond .eq 33, 3) := bq_o153 (a := 0) (b := 33) (bq_3 bwX8_surest_0 59 (by decide +kernel)) (by decide +kernel)
theorem dX8_surest_62 : decode cX8_surest 62 = .ok (.aload_n 0, 1) := bq_o42 (bq_of bwX8_surest_0 62 (by decide +kernel))
theorem dX8_surest_63 : decode cX8_surest 63 = .ok (.getfield 27, 3) := bq_o180 (a := 0) (b := 27) (bq_3 bwX8_surest_0 63 (by decide +kernel)) rfl
def bwX8_surest_64l : List Nat := [0, 27, 21, 7, 46, 21, 4, 164, 0, 21, 42, 180, 0, 27, 21, 7, 46, 54, 4, 16, 10, 21, 5, 104, 21, 6, 96, 62, 132, 6, 1, 167, 255, 196, 132, 5, 1, 167, 255, 175, 29, 172]
theorem bwX8_surest_64 : ((cX8_surest.data.toList.drop 64).take 42).map UInt8.toNat = bwX8_surest_64l := by decide +kernel
theorem dX8_surest_66 : decode cX8_surest 66 = .ok (.iload 7, 2) := bq_o21 (a := 7) (bq_2 bwX8_surest_64 2 (by decide +kernel)) rfl
theorem dX8_surest_68 : decode cX8_surest 68 = .ok (.iaload, 1) := bq_o46 (bq_of bwX8_surest_64 4 (by decide +kernel))
theorem dX8_surest_69 : decode cX8_surest 69 = .ok (.iload 4, 2) := bq_o21 (a := 4) (bq_2 bwX8_surest_64 5 (by decide +kernel)) rfl
theorem dX8_surest_71 : decode cX8_surest 71 = .ok (.if_icmp .le 21, 3) := bq_o164 (a := 0) (b := 21) (bq_3 bwX8_surest_64 7 (by decide +kernel)) (by decide +kernel)
theorem dX8_surest_74 : decode cX8_surest 74 = .ok (.aload_n 0, 1) := bq_o42 (bq_of bwX8_surest_64 10 (by decide +kernel))
theorem dX8_surest_75 : decode cX8_surest 75 = .ok (.getfield 27, 3) := bq_o180 (a := 0) (b := 27) (bq_3 bwX8_surest_64 11 (by decide +kernel)) rfl
theorem dX8_surest_78 : decode cX8_surest 78 = .ok (.iload 7, 2) := bq_o21 (a := 7) (bq_2 bwX8_surest_64 14 (by decide +kernel)) rfl
theorem dX8_surest_80 : decode cX8_surest 80 = .ok (.iaload, 1) := bq_o46 (bq_of bwX8_surest_64 16 (by decide +kernel))
theorem dX8_surest_81 : decode cX8_surest 81 = .ok (.istore 4, 2) := bq_o54 (a := 4) (bq_2 bwX8_surest_64 17 (by decide +kernel)) rfl
theorem dX8_surest_83 : decode cX8_surest 83 = .ok (.bipush 10, 2) := bq_o16 (a := 10) (bq_2 bwX8_surest_64 19 (by decide +kernel)) (by decide +kernel)
theorem dX8_surest_85 : decode cX8_surest 85 = .ok (.iload 5, 2) := bq_o21 (a := 5) (bq_2 bwX8_surest_64 21 (by decide +kernel)) rfl
theorem dX8_surest_87 : decode cX8_surest 87 = .ok (.imul, 1) := bq_o104 (bq_of bwX8_surest_64 23 (by decide +kernel))
theorem dX8_surest_88 : decode cX8_surest 88 = .ok (.iload 6, 2) := bq_o21 (a := 6) (bq_2 bwX8_surest_64 24 (by decide +kernel)) rfl
theorem dX8_surest_90 : decode cX8_surest 90 = .ok (.iadd, 1) := bq_o96 (bq_of bwX8_surest_64 26 (by decide +kernel))
theorem dX8_surest_91 : decode cX8_surest 91 = .ok (.istore_n 3, 1) := bq_o62 (bq_of bwX8_surest_64 27 (by decide +kernel))
theorem dX8_surest_92 : decode cX8_surest 92 = .ok (.iinc 6 1, 3) := bq_o132 (a := 6) (b := 1) (bq_3 bwX8_surest_64 28 (by decide +kernel)) rfl (by decide +kernel)
theorem dX8_surest_95 : decode cX8_surest 95 = .ok (.goto (-60), 3) := bq_o167 (a := 255) (b := 196) (bq_3 bwX8_surest_64 31 (by decide +kernel)) (by decide +kernel)
theorem dX8_surest_98 : decode cX8_surest 98 = .ok (.iinc 5 1, 3) := bq_o132 (a := 5) (b := 1) (bq_3 bwX8_surest_64 34 (by decide +kernel)) rfl (by decide +kernel)
theorem dX8_surest_101 : decode cX8_surest 101 = .ok (.goto (-81), 3) := bq_o167 (a := 255) (b := 175) (bq_3 bwX8_surest_64 37 (by decide +kernel)) (by decide +kernel)
theorem dX8_surest_104 : decode cX8_surest 104 = .ok (.iload_n 3, 1) := bq_o29 (bq_of bwX8_surest_64 40 (by decide +kernel))
theorem dX8_surest_105 : decode cX8_surest 105 = .ok (.ireturn, 1) := bq_o172 (bq_of bwX8_surest_64 41 (by decide +kernel))
theorem dX9_init_0 : decode cX9_init 0 = .ok (.aload_n 0, 1) := by decide +kernel
theorem dX9_init_1 : decode cX9_init 1 = .ok (.invokespecial 3, 3) := by decide +kernel
theorem dX9_init_4 : decode cX9_init 4 = .ok (.aload_n 0, 1) := by decide +kernel
theorem dX9_init_5 : decode cX9_init 5 = .ok (.bipush 7, 2) := by decide +kernel
theorem dX9_init_7 : decode cX9_init 7 = .ok (.newarray .int, 2) := by decide +kernel
theorem dX9_init_9 : decode cX9_init 9 = .ok (.putfield 9, 3) := by decide +kernel
theorem dX9_init_12 : decode cX9_init 12 = .ok (.aload_n 0, 1) := by decide +kernel
theorem dX9_init_13 : decode cX9_init 13 = .ok (.bipush 7, 2) := by decide +kernel
theorem dX9_init_15 : decode cX9_init 15 = .ok (.newarray .int, 2) := by decide +kernel
theorem dX9_init_17 : decode cX9_init 17 = .ok (.putfield 15, 3) := by decide +kernel
theorem dX9_init_20 : decode cX9_init 20 = .ok (.aload_n 0, 1) := by decide +kernel
theorem dX9_init_21 : decode cX9_init 21 = .ok (.bipush 49, 2) := by decide +kernel
theorem dX9_init_23 : decode cX9_init 23 = .ok (.newarray .int, 2) := by decide +kernel
theorem dX9_init_25 : decode cX9_init 25 = .ok (.putfield 18, 3) := by decide +kernel
theorem dX9_init_28 : decode cX9_init 28 = .ok (.aload_n 0, 1) := by decide +kernel
theorem dX9_init_29 : decode cX9_init 29 = .ok (.iconst 3, 1) := by decide +kernel
theorem dX9_init_30 : decode cX9_init 30 = .ok (.putfield 21, 3) := by decide +kernel
theorem dX9_init_33 : decode cX9_init 33 = .ok (.aload_n 0, 1) := by decide +kernel
theorem dX9_init_34 : decode cX9_init 34 = .ok (.iconst 1, 1) := by decide +kernel
theorem dX9_init_35 : decode cX9_init 35 = .ok (.putfield 25, 3) := by decide +kernel
theorem dX9_init_38 : decode cX9_init 38 = .ok (.return_, 1) := by decide +kernel
theorem dX9_has_0 : decode cX9_has 0 = .ok (.iload_n 1, 1) := by decide +kernel
theorem dX9_has_1 : decode cX9_has 1 = .ok (.ifCond .lt 15, 3) := by decide +kernel
theorem dX9_has_4 : decode cX9_has 4 = .ok (.iload_n 1, 1) := by decide +kernel
theorem dX9_has_5 : decode cX9_has 5 = .ok (.aload_n 0, 1) := by decide +kernel
theorem dX9_has_6 : decode cX9_has 6 = .ok (.getfield 28, 3) := by decide +kernel
theorem dX9_has_9 : decode cX9_has 9 = .ok (.if_icmp .ge 7, 3) := by decide +kernel
theorem dX9_has_12 : decode cX9_has 12 = .ok (.iconst 1, 1) := by decide +kernel
theorem dX9_has_13 : decode cX9_has 13 = .ok (.goto 4, 3) := by decide +kernel
theorem dX9_has_16 : decode cX9_has 16 = .ok (.iconst 0, 1) := by decide +kernel
theorem dX9_has_17 : decode cX9_has 17 = .ok (.ireturn, 1) := by decide +kernel
theorem dX9_hasTwo_0 : decode cX9_hasTwo 0 = .ok (.aload_n 0, 1) := by decide +kernel
theorem dX9_hasTwo_1 : decode cX9_hasTwo 1 = .ok (.iload_n 1, 1) := by decide +kernel
theorem dX9_hasTwo_2 : decode cX9_hasTwo 2 = .ok (.invokevirtual 31, 3) := by decide +kernel
theorem dX9_hasTwo_5 : decode cX9_hasTwo 5 = .ok (.ifCond .eq 20, 3) := by decide +kernel
theorem dX9_hasTwo_8 : decode cX9_hasTwo 8 = .ok (.aload_n 0, 1) := by decide +kernel
theorem dX9_hasTwo_9 : decode cX9_hasTwo 9 = .ok (.iload_n 2, 1) := by decide +kernel
theorem dX9_hasTwo_10 : decode cX9_hasTwo 10 = .ok (.invokevirtual 31, 3) := by decide +kernel
theorem dX9_hasTwo_13 : decode cX9_hasTwo 13 = .ok (.ifCond .eq 12, 3) := by decide +kernel
theorem dX9_hasTwo_16 : decode cX9_hasTwo 16 = .ok (.iload_n 1, 1) := by decide +kernel
theorem dX9_hasTwo_17 : decode cX9_hasTwo 17 = .ok (.iload_n 2, 1) := by decide +kernel
theorem dX9_hasTwo_18 : decode cX9_hasTwo 18 = .ok (.if_icmp .eq 7, 3) := by decide +kernel
theorem dX9_hasTwo_21 : decode cX9_hasTwo 21 = .ok (.iconst 1, 1) := by decide +kernel
theorem dX9_hasTwo_22 : decode cX9_hasTwo 22 = .ok (.goto 4, 3) := by decide +kernel
theorem dX9_hasTwo_25 : decode cX9_hasTwo 25 = .ok (.iconst 0, 1) := by decide +kernel
theorem dX9_hasTwo_26 : decode cX9_hasTwo 26 = .ok (.ireturn, 1) := by decide +kernel
theorem dX9_hasAll_0 : decode cX9_hasAll 0 = .ok (.iload_n 1, 1) := by decide +kernel
theorem dX9_hasAll_1 : decode cX9_hasAll 1 = .ok (.ifCond .lt 15, 3) := by decide +kernel
theorem dX9_hasAll_4 : decode cX9_hasAll 4 = .ok (.iload_n 1, 1) := by decide +kernel
theorem dX9_hasAll_5 : decode cX9_hasAll 5 = .ok (.aload_n 0, 1) := by decide +kernel
theorem dX9_hasAll_6 : decode cX9_hasAll 6 = .ok (.invokevirtual 35, 3) := by decide +kernel
theorem dX9_hasAll_9 : decode cX9_hasAll 9 = .ok (.if_icmp .gt 7, 3) := by decide +kernel
theorem dX9_hasAll_12 : decode cX9_hasAll 12 = .ok (.iconst 1, 1) := by decide +kernel
theorem dX9_hasAll_13 : decode cX9_hasAll 13 = .ok (.goto 4, 3) := by decide +kernel
theorem dX9_hasAll_16 : decode cX9_hasAll 16 = .ok (.iconst 0, 1) := by decide +kernel
theorem dX9_hasAll_17 : decode cX9_hasAll 17 = .ok (.ireturn, 1) := by decide +kernel
theorem dX9_everybody_0 : decode cX9_everybody 0 = .ok (.iconst 1, 1) := by decide +kernel
theorem dX9_everybody_1 : decode cX9_everybody 1 = .ok (.aload_n 0, 1) := by decide +kernel
theorem dX9_everybody_2 : decode cX9_everybody 2 = .ok (.getfield 28, 3) := by decide +kernel
theorem dX9_everybody_5 : decode cX9_everybody 5 = .ok (.ishl, 1) := by decide +kernel
theorem dX9_everybody_6 : decode cX9_everybody 6 = .ok (.iconst 1, 1) := by decide +kernel
theorem dX9_everybody_7 : decode cX9_everybody 7 = .ok (.isub, 1) := by decide +kernel
theorem dX9_everybody_8 : decode cX9_everybody 8 = .ok (.ireturn, 1) := by decide +kernel
theorem dX9_since_0 : decode cX9_since 0 = .ok (.aload_n 0, 1) := by decide +kernel
theorem dX9_since_1 : decode cX9_since 1 = .ok (.getfield 18, 3) := by decide +kernel
theorem dX9_since_4 : decode cX9_since 4 = .ok (.iload_n 1, 1) := by decide +kernel
theorem dX9_since_5 : decode cX9_since 5 = .ok (.bipush 7, 2) := by decide +kernel
theorem dX9_since_7 : decode cX9_since 7 = .ok (.imul, 1) := by decide +kernel
theorem dX9_since_8 : decode cX9_since 8 = .ok (.iload_n 2, 1) := by decide +kernel
theorem dX9_since_9 : decode cX9_since 9 = .ok (.iadd, 1) := by decide +kernel
theorem dX9_since_10 : decode cX9_since 10 = .ok (.iaload, 1) := by decide +kernel
theorem dX9_since_11 : decode cX9_since 11 = .ok (.ireturn, 1) := by decide +kernel
theorem dX9_tie_0 : decode cX9_tie 0 = .ok (.aload_n 0, 1) := by decide +kernel
theorem dX9_tie_1 : decode cX9_tie 1 = .ok (.getfield 18, 3) := by decide +kernel
theorem dX9_tie_4 : decode cX9_tie 4 = .ok (.iload_n 1, 1) := by decide +kernel
theorem dX9_tie_5 : decode cX9_tie 5 = .ok (.bipush 7, 2) := by decide +kernel
theorem dX9_tie_7 : decode cX9_tie 7 = .ok (.imul, 1) := by decide +kernel
theorem dX9_tie_8 : decode cX9_tie 8 = .ok (.iload_n 2, 1) := by decide +kernel
theorem dX9_tie_9 : decode cX9_tie 9 = .ok (.iadd, 1) := by decide +kernel
theorem dX9_tie_10 : decode cX9_tie 10 = .ok (.iload_n 3, 1) := by decide +kernel
theorem dX9_tie_11 : decode cX9_tie 11 = .ok (.iastore, 1) := by decide +kernel
theorem dX9_tie_12 : decode cX9_tie 12 = .ok (.aload_n 0, 1) := by decide +kernel
theorem dX9_tie_13 : decode cX9_tie 13 = .ok (.getfield 18, 3) := by decide +kernel
theorem dX9_tie_16 : decode cX9_tie 16 = .ok (.iload_n 2, 1) := by decide +kernel
theorem dX9_tie_17 : decode cX9_tie 17 = .ok (.bipush 7, 2) := by decide +kernel
theorem dX9_tie_19 : decode cX9_tie 19 = .ok (.imul, 1) := by decide +kernel
theorem dX9_tie_20 : decode cX9_tie 20 = .ok (.iload_n 1, 1) := by decide +kernel
theorem dX9_tie_21 : decode cX9_tie 21 = .ok (.iadd, 1) := by decide +kernel
theorem dX9_tie_22 : decode cX9_tie 22 = .ok (.iload_n 3, 1) := by decide +kernel
theorem dX9_tie_23 : decode cX9_tie 23 = .ok (.iastore, 1) := by decide +kernel
theorem dX9_tie_24 : decode cX9_tie 24 = .ok (.return_, 1) := by decide +kernel
def bwX9_add_0l : List Nat := [42, 180, 0, 28, 16, 7, 161, 0, 5, 2, 172, 42, 180, 0, 28, 62, 42, 89, 180, 0, 28, 4, 96, 181, 0, 28, 42, 180, 0, 9, 29, 27, 79, 42, 180, 0, 15, 29, 28, 79, 3, 54, 4, 21, 4, 29, 162, 0, 17, 42, 29, 21, 4, 2, 182, 0, 39, 132, 4, 1, 167, 255, 239, 29, 172]
theorem bwX9_add_0 : ((cX9_add.data.toList.drop 0).take 65).map UInt8.toNat = bwX9_add_0l := by decide +kernel
theorem dX9_add_0 : decode cX9_add 0 = .ok (.aload_n 0, 1) := bq_o42 (bq_of bwX9_add_0 0 (by decide +kernel))
theorem dX9_add_1 : decode cX9_add 1 = .ok (.getfield 28, 3) := bq_o180 (a := 0) (b := 28) (bq_3 bwX9_add_0 1 (by decide +kernel)) rfl
theorem dX9_add_4 : decode cX9_add 4 = .ok (.bipush 7, 2) := bq_o16 (a := 7) (bq_2 bwX9_add_0 4 (by decide +kernel)) (by decide +kernel)
theorem dX9_add_6 : decode cX9_add 6 = .ok (.if_icmp .lt 5, 3) := bq_o161 (a := 0) (b := 5) (bq_3 bwX9_add_0 6 (by decide +kernel)) (by decide +kernel)
theorem dX9_add_9 : decode cX9_add 9 = .ok (.iconst (-1), 1) := bq_o2 (bq_of bwX9_add_0 9 (by decide +kernel))
theorem dX9_add_10 : decode cX9_add 10 = .ok (.ireturn, 1) := bq_o172 (bq_of bwX9_add_0 10 (by decide +kernel))
theorem dX9_add_11 : decode cX9_add 11 = .ok (.aload_n 0, 1) := bq_o42 (bq_of bwX9_add_0 11 (by decide +kernel))
theorem dX9_add_12 : decode cX9_add 12 = .ok (.getfield 28, 3) := bq_o180 (a := 0) (b := 28) (bq_3 bwX9_add_0 12 (by decide +kernel)) rfl
theorem dX9_add_15 : decode cX9_add 15 = .ok (.istore_n 3, 1) := bq_o62 (bq_of bwX9_add_0 15 (by decide +kernel))
theorem dX9_add_16 : decode cX9_add 16 = .ok (.aload_n 0, 1) := bq_o42 (bq_of bwX9_add_0 16 (by decide +kernel))
theorem dX9_add_17 : decode cX9_add 17 = .ok (.dup, 1) := bq_o89 (bq_of bwX9_add_0 17 (by decide +kernel))
theorem dX9_add_18 : decode cX9_add 18 = .ok (.getfield 28, 3) := bq_o180 (a := 0) (b := 28) (bq_3 bwX9_add_0 18 (by decide +kernel)) rfl
theorem dX9_add_21 : decode cX9_add 21 = .ok (.iconst 1, 1) := bq_o4 (bq_of bwX9_add_0 21 (by decide +kernel))
theorem dX9_add_22 : decode cX9_add 22 = .ok (.iadd, 1) := bq_o96 (bq_of bwX9_add_0 22 (by decide +kernel))
theorem dX9_add_23 : decode cX9_add 23 = .ok (.putfield 28, 3) := bq_o181 (a := 0) (b := 28) (bq_3 bwX9_add_0 23 (by decide +kernel)) rfl
theorem dX9_add_26 : decode cX9_add 26 = .ok (.aload_n 0, 1) := bq_o42 (bq_of bwX9_add_0 26 (by decide +kernel))
theorem dX9_add_27 : decode cX9_add 27 = .ok (.getfield 9, 3) := bq_o180 (a := 0) (b := 9) (bq_3 bwX9_add_0 27 (by decide +kernel)) rfl
theorem dX9_add_30 : decode cX9_add 30 = .ok (.iload_n 3, 1) := bq_o29 (bq_of bwX9_add_0 30 (by decide +kernel))
theorem dX9_add_31 : decode cX9_add 31 = .ok (.iload_n 1, 1) := bq_o27 (bq_of bwX9_add_0 31 (by decide +kernel))
theorem dX9_add_32 : decode cX9_add 32 = .ok (.iastore, 1) := bq_o79 (bq_of bwX9_add_0 32 (by decide +kernel))
theorem dX9_add_33 : decode cX9_add 33 = .ok (.aload_n 0, 1) := bq_o42 (bq_of bwX9_add_0 33 (by decide +kernel))
theorem dX9_add_34 : decode cX9_add 34 = .ok (.getfield 15, 3) := bq_o180 (a := 0) (b := 15) (bq_3 bwX9_add_0 34 (by decide +kernel)) rfl
theorem dX9_add_37 : decode cX9_add 37 = .ok (.iload_n 3, 1) := bq_o29 (bq_of bwX9_add_0 37 (by decide +kernel))
theorem dX9_add_38 : decode cX9_add 38 = .ok (.iload_n 2, 1) := bq_o28 (bq_of bwX9_add_0 38 (by decide +kernel))
theorem dX9_add_39 : decode cX9_add 39 = .ok (.iastore, 1) := bq_o79 (bq_of bwX9_add_0 39 (by decide +kernel))
theorem dX9_add_40 : decode cX9_add 40 = .ok (.iconst 0, 1) := bq_o3 (bq_of bwX9_add_0 40 (by decide +kernel))
theorem dX9_add_41 : decode cX9_add 41 = .ok (.istore 4, 2) := bq_o54 (a := 4) (bq_2 bwX9_add_0 41 (by decide +kernel)) rfl
theorem dX9_add_43 : decode cX9_add 43 = .ok (.iload 4, 2) := bq_o21 (a := 4) (bq_2 bwX9_add_0 43 (by decide +kernel)) rfl
theorem dX9_add_45 : decode cX9_add 45 = .ok (.iload_n 3, 1) := bq_o29 (bq_of bwX9_add_0 45 (by decide +kernel))
theorem dX9_add_46 : decode cX9_add 46 = .ok (.if_icmp .ge 17, 3) := bq_o162 (a := 0) (b := 17) (bq_3 bwX9_add_0 46 (by decide +kernel)) (by decide +kernel)
theorem dX9_add_49 : decode cX9_add 49 = .ok (.aload_n 0, 1) := bq_o42 (bq_of bwX9_add_0 49 (by decide +kernel))
theorem dX9_add_50 : decode cX9_add 50 = .ok (.iload_n 3, 1) := bq_o29 (bq_of bwX9_add_0 50 (by decide +kernel))
theorem dX9_add_51 : decode cX9_add 51 = .ok (.iload 4, 2) := bq_o21 (a := 4) (bq_2 bwX9_add_0 51 (by decide +kernel)) rfl
theorem dX9_add_53 : decode cX9_add 53 = .ok (.iconst (-1), 1) := bq_o2 (bq_of bwX9_add_0 53 (by decide +kernel))
theorem dX9_add_54 : decode cX9_add 54 = .ok (.invokevirtual 39, 3) := bq_o182 (a := 0) (b := 39) (bq_3 bwX9_add_0 54 (by decide +kernel)) rfl
theorem dX9_add_57 : decode cX9_add 57 = .ok (.iinc 4 1, 3) := bq_o132 (a := 4) (b := 1) (bq_3 bwX9_add_0 57 (by decide +kernel)) rfl (by decide +kernel)
theorem dX9_add_60 : decode cX9_add 60 = .ok (.goto (-17), 3) := bq_o167 (a := 255) (b := 239) (bq_3 bwX9_add_0 60 (by decide +kernel)) (by decide +kernel)
theorem dX9_add_63 : decode cX9_add 63 = .ok (.iload_n 3, 1) := bq_o29 (bq_of bwX9_add_0 63 (by decide +kernel))
def bwX9_add_64l : List Nat := [172]
theorem bwX9_add_64 : ((cX9_add.data.toList.drop 64).take 1).map UInt8.toNat = bwX9_add_64l := by decide +kernel
theorem dX9_add_64 : decode cX9_add 64 = .ok (.ireturn, 1) := bq_o172 (bq_of bwX9_add_64 0 (by decide +kernel))
theorem dX9_addByDraws_0 : decode cX9_addByDraws 0 = .ok (.aload_n 0, 1) := by decide +kernel
theorem dX9_addByDraws_1 : decode cX9_addByDraws 1 = .ok (.bipush 24, 2) := by decide +kernel
theorem dX9_addByDraws_3 : decode cX9_addByDraws 3 = .ok (.invokevirtual 43, 3) := by decide +kernel
theorem dX9_addByDraws_6 : decode cX9_addByDraws 6 = .ok (.istore_n 1, 1) := by decide +kernel
theorem dX9_addByDraws_7 : decode cX9_addByDraws 7 = .ok (.aload_n 0, 1) := by decide +kernel
theorem dX9_addByDraws_8 : decode cX9_addByDraws 8 = .ok (.bipush 10, 2) := by decide +kernel
theorem dX9_addByDraws_10 : decode cX9_addByDraws 10 = .ok (.invokevirtual 43, 3) := by decide +kernel
theorem dX9_addByDraws_13 : decode cX9_addByDraws 13 = .ok (.istore_n 2, 1) := by decide +kernel
theorem dX9_addByDraws_14 : decode cX9_addByDraws 14 = .ok (.aload_n 0, 1) := by decide +kernel
theorem dX9_addByDraws_15 : decode cX9_addByDraws 15 = .ok (.iload_n 1, 1) := by decide +kernel
theorem dX9_addByDraws_16 : decode cX9_addByDraws 16 = .ok (.iload_n 2, 1) := by decide +kernel
theorem dX9_addByDraws_17 : decode cX9_addByDraws 17 = .ok (.invokevirtual 47, 3) := by decide +kernel
theorem dX9_addByDraws_20 : decode cX9_addByDraws 20 = .ok (.istore_n 3, 1) := by decide +kernel
theorem dX9_addByDraws_21 : decode cX9_addByDraws 21 = .ok (.iconst 0, 1) := by decide +kernel
theorem dX9_addByDraws_22 : decode cX9_addByDraws 22 = .ok (.istore 4, 2) := by decide +kernel
theorem dX9_addByDraws_24 : decode cX9_addByDraws 24 = .ok (.iload 4, 2) := by decide +kernel
theorem dX9_addByDraws_26 : decode cX9_addByDraws 26 = .ok (.iload_n 3, 1) := by decide +kernel
theorem dX9_addByDraws_27 : decode cX9_addByDraws 27 = .ok (.if_icmp .ge 25, 3) := by decide +kernel
theorem dX9_addByDraws_30 : decode cX9_addByDraws 30 = .ok (.aload_n 0, 1) := by decide +kernel
theorem dX9_addByDraws_31 : decode cX9_addByDraws 31 = .ok (.iconst 3, 1) := by decide +kernel
theorem dX9_addByDraws_32 : decode cX9_addByDraws 32 = .ok (.invokevirtual 43, 3) := by decide +kernel
theorem dX9_addByDraws_35 : decode cX9_addByDraws 35 = .ok (.ifCond .ne 11, 3) := by decide +kernel
theorem dX9_addByDraws_38 : decode cX9_addByDraws 38 = .ok (.aload_n 0, 1) := by decide +kernel
theorem dX9_addByDraws_39 : decode cX9_addByDraws 39 = .ok (.iload_n 3, 1) := by decide +kernel
theorem dX9_addByDraws_40 : decode cX9_addByDraws 40 = .ok (.iload 4, 2) := by decide +kernel
theorem dX9_addByDraws_42 : decode cX9_addByDraws 42 = .ok (.iconst 0, 1) := by decide +kernel
theorem dX9_addByDraws_43 : decode cX9_addByDraws 43 = .ok (.invokevirtual 39, 3) := by decide +kernel
theorem dX9_addByDraws_46 : decode cX9_addByDraws 46 = .ok (.iinc 4 1, 3) := by decide +kernel
theorem dX9_addByDraws_49 : decode cX9_addByDraws 49 = .ok (.goto (-25), 3) := by decide +kernel
theorem dX9_addByDraws_52 : decode cX9_addByDraws 52 = .ok (.return_, 1) := by decide +kernel
theorem dX9_draw_0 : decode cX9_draw 0 = .ok (.aload_n 0, 1) := by decide +kernel
theorem dX9_draw_1 : decode cX9_draw 1 = .ok (.aload_n 0, 1) := by decide +kernel
theorem dX9_draw_2 : decode cX9_draw 2 = .ok (.getfield 25, 3) := by decide +kernel
theorem dX9_draw_5 : decode cX9_draw 5 = .ok (.ldc 51, 2) := by decide +kernel
theorem dX9_draw_7 : decode cX9_draw 7 = .ok (.imul, 1) := by decide +kernel
theorem dX9_draw_8 : decode cX9_draw 8 = .ok (.sipush 12345, 3) := by decide +kernel
theorem dX9_draw_11 : decode cX9_draw 11 = .ok (.iadd, 1) := by decide +kernel
theorem dX9_draw_12 : decode cX9_draw 12 = .ok (.putfield 25, 3) := by decide +kernel
theorem dX9_draw_15 : decode cX9_draw 15 = .ok (.iload_n 1, 1) := by decide +kernel
theorem dX9_draw_16 : decode cX9_draw 16 = .ok (.iconst 1, 1) := by decide +kernel
theorem dX9_draw_17 : decode cX9_draw 17 = .ok (.if_icmp .ge 7, 3) := by decide +kernel
theorem dX9_draw_20 : decode cX9_draw 20 = .ok (.iconst 0, 1) := by decide +kernel
theorem dX9_draw_21 : decode cX9_draw 21 = .ok (.goto 12, 3) := by decide +kernel
theorem dX9_draw_24 : decode cX9_draw 24 = .ok (.aload_n 0, 1) := by decide +kernel
theorem dX9_draw_25 : decode cX9_draw 25 = .ok (.getfield 25, 3) := by decide +kernel
theorem dX9_draw_28 : decode cX9_draw 28 = .ok (.bipush 16, 2) := by decide +kernel
theorem dX9_draw_30 : decode cX9_draw 30 = .ok (.iushr, 1) := by decide +kernel
theorem dX9_draw_31 : decode cX9_draw 31 = .ok (.iload_n 1, 1) := by decide +kernel
theorem dX9_draw_32 : decode cX9_draw 32 = .ok (.irem, 1) := by decide +kernel
theorem dX9_draw_33 : decode cX9_draw 33 = .ok (.ireturn, 1) := by decide +kernel
theorem dX9_strangersTo_0 : decode cX9_strangersTo 0 = .ok (.iconst 0, 1) := by decide +kernel
theorem dX9_strangersTo_1 : decode cX9_strangersTo 1 = .ok (.istore_n 2, 1) := by decide +kernel
theorem dX9_strangersTo_2 : decode cX9_strangersTo 2 = .ok (.iconst 0, 1) := by decide +kernel
theorem dX9_strangersTo_3 : decode cX9_strangersTo 3 = .ok (.istore_n 3, 1) := by decide +kernel
theorem dX9_strangersTo_4 : decode cX9_strangersTo 4 = .ok (.iload_n 3, 1) := by decide +kernel
theorem dX9_strangersTo_5 : decode cX9_strangersTo 5 = .ok (.aload_n 0, 1) := by decide +kernel
theorem dX9_strangersTo_6 : decode cX9_strangersTo 6 = .ok (.getfield 28, 3) := by decide +kernel
theorem dX9_strangersTo_9 : decode cX9_strangersTo 9 = .ok (.if_icmp .ge 30, 3) := by decide +kernel
theorem dX9_strangersTo_12 : decode cX9_strangersTo 12 = .ok (.iload_n 3, 1) := by decide +kernel
theorem dX9_strangersTo_13 : decode cX9_strangersTo 13 = .ok (.iload_n 1, 1) := by decide +kernel
theorem dX9_strangersTo_14 : decode cX9_strangersTo 14 = .ok (.if_icmp .eq 19, 3) := by decide +kernel
theorem dX9_strangersTo_17 : decode cX9_strangersTo 17 = .ok (.aload_n 0, 1) := by decide +kernel
theorem dX9_strangersTo_18 : decode cX9_strangersTo 18 = .ok (.iload_n 1, 1) := by decide +kernel
theorem dX9_strangersTo_19 : decode cX9_strangersTo 19 = .ok (.iload_n 3, 1) := by decide +kernel
theorem dX9_strangersTo_20 : decode cX9_strangersTo 20 = .ok (.invokevirtual 52, 3) := by decide +kernel
theorem dX9_strangersTo_23 : decode cX9_strangersTo 23 = .ok (.iconst (-1), 1) := by decide +kernel
theorem dX9_strangersTo_24 : decode cX9_strangersTo 24 = .ok (.if_icmp .ne 9, 3) := by decide +kernel
theorem dX9_strangersTo_27 : decode cX9_strangersTo 27 = .ok (.iload_n 2, 1) := by decide +kernel
theorem dX9_strangersTo_28 : decode cX9_strangersTo 28 = .ok (.iconst 1, 1) := by decide +kernel
theorem dX9_strangersTo_29 : decode cX9_strangersTo 29 = .ok (.iload_n 3, 1) := by decide +kernel
theorem dX9_strangersTo_30 : decode cX9_strangersTo 30 = .ok (.ishl, 1) := by decide +kernel
theorem dX9_strangersTo_31 : decode cX9_strangersTo 31 = .ok (.ior, 1) := by decide +kernel
theorem dX9_strangersTo_32 : decode cX9_strangersTo 32 = .ok (.istore_n 2, 1) := by decide +kernel
theorem dX9_strangersTo_33 : decode cX9_strangersTo 33 = .ok (.iinc 3 1, 3) := by decide +kernel
theorem dX9_strangersTo_36 : decode cX9_strangersTo 36 = .ok (.goto (-32), 3) := by decide +kernel
theorem dX9_strangersTo_39 : decode cX9_strangersTo 39 = .ok (.iload_n 2, 1) := by decide +kernel
theorem dX9_strangersTo_40 : decode cX9_strangersTo 40 = .ok (.ireturn, 1) := by decide +kernel
theorem dX9_countStrangers_0 : decode cX9_countStrangers 0 = .ok (.iconst 0, 1) := by decide +kernel
theorem dX9_countStrangers_1 : decode cX9_countStrangers 1 = .ok (.istore_n 1, 1) := by decide +kernel
theorem dX9_countStrangers_2 : decode cX9_countStrangers 2 = .ok (.iconst 0, 1) := by decide +kernel
theorem dX9_countStrangers_3 : decode cX9_countStrangers 3 = .ok (.istore_n 2, 1) := by decide +kernel
theorem dX9_countStrangers_4 : decode cX9_countStrangers 4 = .ok (.iload_n 2, 1) := by decide +kernel
theorem dX9_countStrangers_5 : decode cX9_countStrangers 5 = .ok (.aload_n 0, 1) := by decide +kernel
theorem dX9_countStrangers_6 : decode cX9_countStrangers 6 = .ok (.getfield 28, 3) := by decide +kernel
theorem dX9_countStrangers_9 : decode cX9_countStrangers 9 = .ok (.if_icmp .ge 20, 3) := by decide +kernel
theorem dX9_countStrangers_12 : decode cX9_countStrangers 12 = .ok (.iload_n 1, 1) := by decide +kernel
theorem dX9_countStrangers_13 : decode cX9_countStrangers 13 = .ok (.aload_n 0, 1) := by decide +kernel
theorem dX9_countStrangers_14 : decode cX9_countStrangers 14 = .ok (.iload_n 2, 1) := by decide +kernel
theorem dX9_countStrangers_15 : decode cX9_countStrangers 15 = .ok (.invokevirtual 54, 3) := by decide +kernel
theorem dX9_countStrangers_18 : decode cX9_countStrangers 18 = .ok (.invokestatic 57, 3) := by decide +kernel
theorem dX9_countStrangers_21 : decode cX9_countStrangers 21 = .ok (.iadd, 1) := by decide +kernel
theorem dX9_countStrangers_22 : decode cX9_countStrangers 22 = .ok (.istore_n 1, 1) := by decide +kernel
theorem dX9_countStrangers_23 : decode cX9_countStrangers 23 = .ok (.iinc 2 1, 3) := by decide +kernel
theorem dX9_countStrangers_26 : decode cX9_countStrangers 26 = .ok (.goto (-22), 3) := by decide +kernel
theorem dX9_countStrangers_29 : decode cX9_countStrangers 29 = .ok (.iload_n 1, 1) := by decide +kernel
theorem dX9_countStrangers_30 : decode cX9_countStrangers 30 = .ok (.iconst 2, 1) := by decide +kernel
theorem dX9_countStrangers_31 : decode cX9_countStrangers 31 = .ok (.idiv, 1) := by decide +kernel
theorem dX9_countStrangers_32 : decode cX9_countStrangers 32 = .ok (.ireturn, 1) := by decide +kernel
def bwX9_acquaint_0l : List Nat := [3, 61, 3, 62, 29, 42, 180, 0, 28, 162, 0, 64, 3, 54, 4, 21, 4, 29, 162, 0, 49, 27, 29, 122, 27, 21, 4, 122, 126, 4, 126, 153, 0, 30, 28, 42, 29, 21, 4, 182, 0, 52, 2, 160, 0, 7, 4, 167, 0, 4, 3, 96, 61, 42, 29, 21, 4, 3, 182, 0, 39, 132, 4, 1, 167, 255]
theorem bwX9_acquaint_0 : ((cX9_acquaint.data.toList.drop 0).take 66).map UInt8.toNat = bwX9_acquaint_0l := by decide +kernel
theorem dX9_acquaint_0 : decode cX9_acquaint 0 = .ok (.iconst 0, 1) := bq_o3 (bq_of bwX9_acquaint_0 0 (by decide +kernel))
theorem dX9_acquaint_1 : decode cX9_acquaint 1 = .ok (.istore_n 2, 1) := bq_o61 (bq_of bwX9_acquaint_0 1 (by decide +kernel))
theorem dX9_acquaint_2 : decode cX9_acquaint 2 = .ok (.iconst 0, 1) := bq_o3 (bq_of bwX9_acquaint_0 2 (by decide +kernel))
theorem dX9_acquaint_3 : decode cX9_acquaint 3 = .ok (.istore_n 3, 1) := bq_o62 (bq_of bwX9_acquaint_0 3 (by decide +kernel))
theorem dX9_acquaint_4 : decode cX9_acquaint 4 = .ok (.iload_n 3, 1) := bq_o29 (bq_of bwX9_acquaint_0 4 (by decide +kernel))
theorem dX9_acquaint_5 : decode cX9_acquaint 5 = .ok (.aload_n 0, 1) := bq_o42 (bq_of bwX9_acquaint_0 5 (by decide +kernel))
theorem dX9_acquaint_6 : decode cX9_acquaint 6 = .ok (.getfield 28, 3) := bq_o180 (a := 0) (b := 28) (bq_3 bwX9_acquaint_0 6 (by decide +kernel)) rfl
theorem dX9_acquaint_9 : decode cX9_acquaint 9 = .ok (.if_icmp .ge 64, 3) := bq_o162 (a := 0) (b := 64) (bq_3 bwX9_acquaint_0 9 (by decide +kernel)) (by decide +kernel)
theorem dX9_acquaint_12 : decode cX9_acquaint 12 = .ok (.iconst 0, 1) := bq_o3 (bq_of bwX9_acquaint_0 12 (by decide +kernel))
theorem dX9_acquaint_13 : decode cX9_acquaint 13 = .ok (.istore 4, 2) := bq_o54 (a := 4) (bq_2 bwX9_acquaint_0 13 (by decide +kernel)) rfl
theorem dX9_acquaint_15 : decode cX9_acquaint 15 = .ok (.iload 4, 2) := bq_o21 (a := 4) (bq_2 bwX9_acquaint_0 15 (by decide +kernel)) rfl
theorem dX9_acquaint_17 : decode cX9_acquaint 17 = .ok (.iload_n 3, 1) := bq_o29 (bq_of bwX9_acquaint_0 17 (by decide +kernel))
theorem dX9_acquaint_18 : decode cX9_acquaint 18 = .ok (.if_icmp .ge 49, 3) := bq_o162 (a := 0) (b := 49) (bq_3 bwX9_acquaint_0 18 (by decide +kernel)) (by decide +kernel)
theorem dX9_acquaint_21 : decode cX9_acquaint 21 = .ok (.iload_n 1, 1) := bq_o27 (bq_of bwX9_acquaint_0 21 (by decide +kernel))
theorem dX9_acquaint_22 : decode cX9_acquaint 22 = .ok (.iload_n 3, 1) := bq_o29 (bq_of bwX9_acquaint_0 22 (by decide +kernel))
theorem dX9_acquaint_23 : decode cX9_acquaint 23 = .ok (.ishr, 1) := bq_o122 (bq_of bwX9_acquaint_0 23 (by decide +kernel))
theorem dX9_acquaint_24 : decode cX9_acquaint 24 = .ok (.iload_n 1, 1) := bq_o27 (bq_of bwX9_acquaint_0 24 (by decide +kernel))
theorem dX9_acquaint_25 : decode cX9_acquaint 25 = .ok (.iload 4, 2) := bq_o21 (a := 4) (bq_2 bwX9_acquaint_0 25 (by decide +kernel)) rfl
theorem dX9_acquaint_27 : decode cX9_acquaint 27 = .ok (.ishr, 1) := bq_o122 (bq_of bwX9_acquaint_0 27 (by decide +kernel))
theorem dX9_acquaint_28 : decode cX9_acquaint 28 = .ok (.iand, 1) := bq_o126 (bq_of bwX9_acquaint_0 28 (by decide +kernel))
theorem dX9_acquaint_29 : decode cX9_acquaint 29 = .ok (.iconst 1, 1) := bq_o4 (bq_of bwX9_acquaint_0 29 (by decide +kernel))
theorem dX9_acquaint_30 : decode cX9_acquaint 30 = .ok (.iand, 1) := bq_o126 (bq_of bwX9_acquaint_0 30 (by decide +kernel))
theorem dX9_acquaint_31 : decode cX9_acquaint 31 = .ok (.ifCond .eq 30, 3) := bq_o153 (a := 0) (b := 30) (bq_3 bwX9_acquaint_0 31 (by decide +kernel)) (by decide +kernel)
theorem dX9_acquaint_34 : decode cX9_acquaint 34 = .ok (.iload_n 2, 1) := bq_o28 (bq_of bwX9_acquaint_0 34 (by decide +kernel))
theorem dX9_acquaint_35 : decode cX9_acquaint 35 = .ok (.aload_n 0, 1) := bq_o42 (bq_of bwX9_acquaint_0 35 (by decide +kernel))
theorem dX9_acquaint_36 : decode cX9_acquaint 36 = .ok (.iload_n 3, 1) := bq_o29 (bq_of bwX9_acquaint_0 36 (by decide +kernel))
theorem dX9_acquaint_37 : decode cX9_acquaint 37 = .ok (.iload 4, 2) := bq_o21 (a := 4) (bq_2 bwX9_acquaint_0 37 (by decide +kernel)) rfl
theorem dX9_acquaint_39 : decode cX9_acquaint 39 = .ok (.invokevirtual 52, 3) := bq_o182 (a := 0) (b := 52) (bq_3 bwX9_acquaint_0 39 (by decide +kernel)) rfl
theorem dX9_acquaint_42 : decode cX9_acquaint 42 = .ok (.iconst (-1), 1) := bq_o2 (bq_of bwX9_acquaint_0 42 (by decide +kernel))
theorem dX9_acquaint_43 : decode cX9_acquaint 43 = .ok (.if_icmp .ne 7, 3) := bq_o160 (a := 0) (b := 7) (bq_3 bwX9_acquaint_0 43 (by decide +kernel)) (by decide +kernel)
theorem dX9_acquaint_46 : decode cX9_acquaint 46 = .ok (.iconst 1, 1) := bq_o4 (bq_of bwX9_acquaint_0 46 (by decide +kernel))
theorem dX9_acquaint_47 : decode cX9_acquaint 47 = .ok (.goto 4, 3) := bq_o167 (a := 0) (b := 4) (bq_3 bwX9_acquaint_0 47 (by decide +kernel)) (by decide +kernel)
theorem dX9_acquaint_50 : decode cX9_acquaint 50 = .ok (.iconst 0, 1) := bq_o3 (bq_of bwX9_acquaint_0 50 (by decide +kernel))
theorem dX9_acquaint_51 : decode cX9_acquaint 51 = .ok (.iadd, 1) := bq_o96 (bq_of bwX9_acquaint_0 51 (by decide +kernel))
theorem dX9_acquaint_52 : decode cX9_acquaint 52 = .ok (.istore_n 2, 1) := bq_o61 (bq_of bwX9_acquaint_0 52 (by decide +kernel))
theorem dX9_acquaint_53 : decode cX9_acquaint 53 = .ok (.aload_n 0, 1) := bq_o42 (bq_of bwX9_acquaint_0 53 (by decide +kernel))
theorem dX9_acquaint_54 : decode cX9_acquaint 54 = .ok (.iload_n 3, 1) := bq_o29 (bq_of bwX9_acquaint_0 54 (by decide +kernel))
theorem dX9_acquaint_55 : decode cX9_acquaint 55 = .ok (.iload 4, 2) := bq_o21 (a := 4) (bq_2 bwX9_acquaint_0 55 (by decide +kernel)) rfl
theorem dX9_acquaint_57 : decode cX9_acquaint 57 = .ok (.iconst 0, 1) := bq_o3 (bq_of bwX9_acquaint_0 57 (by decide +kernel))
theorem dX9_acquaint_58 : decode cX9_acquaint 58 = .ok (.invokevirtual 39, 3) := bq_o182 (a := 0) (b := 39) (bq_3 bwX9_acquaint_0 58 (by decide +kernel)) rfl
theorem dX9_acquaint_61 : decode cX9_acquaint 61 = .ok (.iinc 4 1, 3) := bq_o132 (a := 4) (b := 1) (bq_3 bwX9_acquaint_0 61 (by decide +kernel)) rfl (by decide +kernel)
def bwX9_acquaint_64l : List Nat := [167, 255, 207, 132, 3, 1, 167, 255, 190, 28, 172]
theorem bwX9_acquaint_64 : ((cX9_acquaint.data.toList.drop 64).take 11).map UInt8.toNat = bwX9_acquaint_64l := by decide +kernel
theorem dX9_acquaint_64 : decode cX9_acquaint 64 = .ok (.goto (-49), 3) := bq_o167 (a := 255) (b := 207) (bq_3 bwX9_acquaint_64 0 (by decide +kernel)) (by decide +kernel)
theorem dX9_acquaint_67 : decode cX9_acquaint 67 = .ok (.iinc 3 1, 3) := bq_o132 (a := 3) (b := 1) (bq_3 bwX9_acquaint_64 3 (by decide +kernel)) rfl (by decide +kernel)
theorem dX9_acquaint_70 : decode cX9_acquaint 70 = .ok (.goto (-66), 3) := bq_o167 (a := 255) (b := 190) (bq_3 bwX9_acquaint_64 6 (by decide +kernel)) (by decide +kernel)
theorem dX9_acquaint_73 : decode cX9_acquaint 73 = .ok (.iload_n 2, 1) := bq_o28 (bq_of bwX9_acquaint_64 9 (by decide +kernel))
theorem dX9_acquaint_74 : decode cX9_acquaint 74 = .ok (.ireturn, 1) := bq_o172 (bq_of bwX9_acquaint_64 10 (by decide +kernel))
