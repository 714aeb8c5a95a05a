/-- a name of the far library, so that the rounds read over the whole of it from the first part on -/
theorem lw_far (c : ClassId) (N h0 : Nat) : Jvm.Free.Multi.outerC c N h0 0 = Jvm.Free.Multi.outerC c N h0 0 := rfl
-- ===== PART A: goes FIRST, ahead of the names: the tables' words, and 'selects' of the private methods out of them =====
/-- a private method of a class that the tables say can be made, by its rows of tables_1 -/
def lw_okq (q : MethodName × Nat) : Prop := (q.1.cls ≠ "java/lang/invoke/MethodHandle" ∧ q.1.cls ≠ "java/lang/invoke/VarHandle") ∧ Cond.instantiable q.1.cls q.2 ∈ tables_1 ∧ Cond.privateMethod q.1 ∈ tables_1 ∧ Cond.instanceMethod q.1 ∈ tables_1
theorem lw_t1 {w : Cond} (h : w ∈ tables_1_1) : w ∈ tables_1 := by
  unfold tables_1
  exact (List.mem_append_left _ h)
theorem lw_t2 {w : Cond} (h : w ∈ tables_1_2) : w ∈ tables_1 := by
  unfold tables_1
  exact (List.mem_append_right _ (List.mem_append_left _ h))
theorem lw_t3 {w : Cond} (h : w ∈ tables_1_3) : w ∈ tables_1 := by
  unfold tables_1
  exact (List.mem_append_right _ (List.mem_append_right _ (List.mem_append_left _ h)))
theorem lw_t4 {w : Cond} (h : w ∈ tables_1_4) : w ∈ tables_1 := by
  unfold tables_1
  exact (List.mem_append_right _ (List.mem_append_right _ (List.mem_append_right _ (List.mem_append_left _ h))))
theorem lw_t5 {w : Cond} (h : w ∈ tables_1_5) : w ∈ tables_1 := by
  unfold tables_1
  exact (List.mem_append_right _ (List.mem_append_right _ (List.mem_append_right _ (List.mem_append_right _ (List.mem_append_left _ h)))))
theorem lw_t6 {w : Cond} (h : w ∈ tables_1_6) : w ∈ tables_1 := by
  unfold tables_1
  exact (List.mem_append_right _ (List.mem_append_right _ (List.mem_append_right _ (List.mem_append_right _ (List.mem_append_right _ (List.mem_append_left _ h))))))
theorem lw_t7 {w : Cond} (h : w ∈ tables_1_7) : w ∈ tables_1 := by
  unfold tables_1
  exact (List.mem_append_right _ (List.mem_append_right _ (List.mem_append_right _ (List.mem_append_right _ (List.mem_append_right _ (List.mem_append_right _ h))))))
set_option maxRecDepth 100000 in
theorem lw_p0 : lw_okq (⟨"ThreeStrangers", "refuse", "(I)I"⟩, 9) := ⟨⟨by decide +kernel, by decide +kernel⟩, lw_t1 (List.mem_of_getElem? (i := 22) (by eq_refl)), lw_t2 (List.mem_of_getElem? (i := 7) (by eq_refl)), lw_t2 (List.mem_of_getElem? (i := 8) (by eq_refl))⟩
set_option maxRecDepth 100000 in
theorem lw_p1 : lw_okq (⟨"ThreeStrangers", "holdsRow", "(I)Z"⟩, 9) := ⟨⟨by decide +kernel, by decide +kernel⟩, lw_t1 (List.mem_of_getElem? (i := 22) (by eq_refl)), lw_t2 (List.mem_of_getElem? (i := 19) (by eq_refl)), lw_t2 (List.mem_of_getElem? (i := 20) (by eq_refl))⟩
set_option maxRecDepth 100000 in
theorem lw_p2 : lw_okq (⟨"ThreeStrangers", "whyNoRow", "(I)I"⟩, 9) := ⟨⟨by decide +kernel, by decide +kernel⟩, lw_t1 (List.mem_of_getElem? (i := 22) (by eq_refl)), lw_t2 (List.mem_of_getElem? (i := 27) (by eq_refl)), lw_t2 (List.mem_of_getElem? (i := 28) (by eq_refl))⟩
set_option maxRecDepth 100000 in
theorem lw_p3 : lw_okq (⟨"ThreeStrangers$Shelf", "cut", "(J)J"⟩, 4) := ⟨⟨by decide +kernel, by decide +kernel⟩, lw_t1 (List.mem_of_getElem? (i := 188) (by eq_refl)), lw_t2 (List.mem_of_getElem? (i := 35) (by eq_refl)), lw_t2 (List.mem_of_getElem? (i := 36) (by eq_refl))⟩
set_option maxRecDepth 100000 in
theorem lw_p4 : lw_okq (⟨"ThreeStrangers", "manIn", "(I)LThreeStrangers$Coachman;"⟩, 9) := ⟨⟨by decide +kernel, by decide +kernel⟩, lw_t1 (List.mem_of_getElem? (i := 22) (by eq_refl)), lw_t2 (List.mem_of_getElem? (i := 132) (by eq_refl)), lw_t2 (List.mem_of_getElem? (i := 133) (by eq_refl))⟩
set_option maxRecDepth 100000 in
theorem lw_p5 : lw_okq (⟨"ThreeStrangers", "whyNoMan", "(I)I"⟩, 9) := ⟨⟨by decide +kernel, by decide +kernel⟩, lw_t1 (List.mem_of_getElem? (i := 22) (by eq_refl)), lw_t2 (List.mem_of_getElem? (i := 136) (by eq_refl)), lw_t2 (List.mem_of_getElem? (i := 137) (by eq_refl))⟩
set_option maxRecDepth 100000 in
theorem lw_p6 : lw_okq (⟨"ThreeStrangers$Ties", "list", "()V"⟩, 11) := ⟨⟨by decide +kernel, by decide +kernel⟩, lw_t1 (List.mem_of_getElem? (i := 86) (by eq_refl)), lw_t2 (List.mem_of_getElem? (i := 173) (by eq_refl)), lw_t2 (List.mem_of_getElem? (i := 174) (by eq_refl))⟩
set_option maxRecDepth 100000 in
theorem lw_p7 : lw_okq (⟨"ThreeStrangers$Ties", "everybody", "()I"⟩, 11) := ⟨⟨by decide +kernel, by decide +kernel⟩, lw_t1 (List.mem_of_getElem? (i := 86) (by eq_refl)), lw_t2 (List.mem_of_getElem? (i := 177) (by eq_refl)), lw_t2 (List.mem_of_getElem? (i := 178) (by eq_refl))⟩
set_option maxRecDepth 100000 in
theorem lw_p8 : lw_okq (⟨"ThreeStrangers$Ties", "gather", "(III)V"⟩, 11) := ⟨⟨by decide +kernel, by decide +kernel⟩, lw_t1 (List.mem_of_getElem? (i := 86) (by eq_refl)), lw_t2 (List.mem_of_getElem? (i := 181) (by eq_refl)), lw_t2 (List.mem_of_getElem? (i := 182) (by eq_refl))⟩
set_option maxRecDepth 100000 in
theorem lw_p9 : lw_okq (⟨"ThreeStrangers$Ties", "countMost", "()V"⟩, 11) := ⟨⟨by decide +kernel, by decide +kernel⟩, lw_t1 (List.mem_of_getElem? (i := 86) (by eq_refl)), lw_t2 (List.mem_of_getElem? (i := 206) (by eq_refl)), lw_t2 (List.mem_of_getElem? (i := 207) (by eq_refl))⟩
set_option maxRecDepth 100000 in
theorem lw_p10 : lw_okq (⟨"ThreeStrangers$Scribe", "advance", "()V"⟩, 6) := ⟨⟨by decide +kernel, by decide +kernel⟩, lw_t1 (List.mem_of_getElem? (i := 160) (by eq_refl)), lw_t3 (List.mem_of_getElem? (i := 81) (by eq_refl)), lw_t3 (List.mem_of_getElem? (i := 82) (by eq_refl))⟩
set_option maxRecDepth 100000 in
theorem lw_p11 : lw_okq (⟨"ThreeStrangers$Scribe", "readStatement", "(LThreeStrangers$Town;)Z"⟩, 6) := ⟨⟨by decide +kernel, by decide +kernel⟩, lw_t1 (List.mem_of_getElem? (i := 160) (by eq_refl)), lw_t3 (List.mem_of_getElem? (i := 88) (by eq_refl)), lw_t3 (List.mem_of_getElem? (i := 89) (by eq_refl))⟩
set_option maxRecDepth 100000 in
theorem lw_p12 : lw_okq (⟨"ThreeStrangers$Scribe", "isWord", "(Ljava/lang/String;)Z"⟩, 6) := ⟨⟨by decide +kernel, by decide +kernel⟩, lw_t1 (List.mem_of_getElem? (i := 160) (by eq_refl)), lw_t3 (List.mem_of_getElem? (i := 93) (by eq_refl)), lw_t3 (List.mem_of_getElem? (i := 94) (by eq_refl))⟩
set_option maxRecDepth 100000 in
theorem lw_p13 : lw_okq (⟨"ThreeStrangers$Scribe", "readPerson", "(LThreeStrangers$Town;)Z"⟩, 6) := ⟨⟨by decide +kernel, by decide +kernel⟩, lw_t1 (List.mem_of_getElem? (i := 160) (by eq_refl)), lw_t3 (List.mem_of_getElem? (i := 145) (by eq_refl)), lw_t3 (List.mem_of_getElem? (i := 146) (by eq_refl))⟩
set_option maxRecDepth 100000 in
theorem lw_p14 : lw_okq (⟨"ThreeStrangers$Scribe", "fail", "()Z"⟩, 6) := ⟨⟨by decide +kernel, by decide +kernel⟩, lw_t1 (List.mem_of_getElem? (i := 160) (by eq_refl)), lw_t3 (List.mem_of_getElem? (i := 149) (by eq_refl)), lw_t3 (List.mem_of_getElem? (i := 150) (by eq_refl))⟩
set_option maxRecDepth 100000 in
theorem lw_p15 : lw_okq (⟨"ThreeStrangers$Scribe", "readNumber", "(III)I"⟩, 6) := ⟨⟨by decide +kernel, by decide +kernel⟩, lw_t1 (List.mem_of_getElem? (i := 160) (by eq_refl)), lw_t3 (List.mem_of_getElem? (i := 153) (by eq_refl)), lw_t3 (List.mem_of_getElem? (i := 154) (by eq_refl))⟩
def lw_privs_1 : List (MethodName × Nat) := [(⟨"ThreeStrangers", "refuse", "(I)I"⟩, 9), (⟨"ThreeStrangers", "holdsRow", "(I)Z"⟩, 9), (⟨"ThreeStrangers", "whyNoRow", "(I)I"⟩, 9), (⟨"ThreeStrangers$Shelf", "cut", "(J)J"⟩, 4), (⟨"ThreeStrangers", "manIn", "(I)LThreeStrangers$Coachman;"⟩, 9), (⟨"ThreeStrangers", "whyNoMan", "(I)I"⟩, 9), (⟨"ThreeStrangers$Ties", "list", "()V"⟩, 11), (⟨"ThreeStrangers$Ties", "everybody", "()I"⟩, 11), (⟨"ThreeStrangers$Ties", "gather", "(III)V"⟩, 11), (⟨"ThreeStrangers$Ties", "countMost", "()V"⟩, 11), (⟨"ThreeStrangers$Scribe", "advance", "()V"⟩, 6), (⟨"ThreeStrangers$Scribe", "readStatement", "(LThreeStrangers$Town;)Z"⟩, 6), (⟨"ThreeStrangers$Scribe", "isWord", "(Ljava/lang/String;)Z"⟩, 6), (⟨"ThreeStrangers$Scribe", "readPerson", "(LThreeStrangers$Town;)Z"⟩, 6), (⟨"ThreeStrangers$Scribe", "fail", "()Z"⟩, 6), (⟨"ThreeStrangers$Scribe", "readNumber", "(III)I"⟩, 6)]
theorem lw_r1 : ∀ q ∈ lw_privs_1, lw_okq q := List.forall_mem_cons.mpr ⟨lw_p0, List.forall_mem_cons.mpr ⟨lw_p1, List.forall_mem_cons.mpr ⟨lw_p2, List.forall_mem_cons.mpr ⟨lw_p3, List.forall_mem_cons.mpr ⟨lw_p4, List.forall_mem_cons.mpr ⟨lw_p5, List.forall_mem_cons.mpr ⟨lw_p6, List.forall_mem_cons.mpr ⟨lw_p7, List.forall_mem_cons.mpr ⟨lw_p8, List.forall_mem_cons.mpr ⟨lw_p9, List.forall_mem_cons.mpr ⟨lw_p10, List.forall_mem_cons.mpr ⟨lw_p11, List.forall_mem_cons.mpr ⟨lw_p12, List.forall_mem_cons.mpr ⟨lw_p13, List.forall_mem_cons.mpr ⟨lw_p14, List.forall_mem_cons.mpr ⟨lw_p15, fun _ h => absurd h List.not_mem_nil⟩⟩⟩⟩⟩⟩⟩⟩⟩⟩⟩⟩⟩⟩⟩⟩
set_option maxRecDepth 100000 in
theorem lw_p16 : lw_okq (⟨"ThreeStrangers$Scribe", "readPair", "(LThreeStrangers$Town;Z)Z"⟩, 6) := ⟨⟨by decide +kernel, by decide +kernel⟩, lw_t1 (List.mem_of_getElem? (i := 160) (by eq_refl)), lw_t3 (List.mem_of_getElem? (i := 159) (by eq_refl)), lw_t3 (List.mem_of_getElem? (i := 160) (by eq_refl))⟩
set_option maxRecDepth 100000 in
theorem lw_p17 : lw_okq (⟨"ThreeStrangers$Scribe", "readSeats", "(LThreeStrangers$Town;)Z"⟩, 6) := ⟨⟨by decide +kernel, by decide +kernel⟩, lw_t1 (List.mem_of_getElem? (i := 160) (by eq_refl)), lw_t3 (List.mem_of_getElem? (i := 167) (by eq_refl)), lw_t3 (List.mem_of_getElem? (i := 168) (by eq_refl))⟩
set_option maxRecDepth 100000 in
theorem lw_p18 : lw_okq (⟨"ThreeStrangers$Scribe", "readMemory", "(LThreeStrangers$Town;)Z"⟩, 6) := ⟨⟨by decide +kernel, by decide +kernel⟩, lw_t1 (List.mem_of_getElem? (i := 160) (by eq_refl)), lw_t3 (List.mem_of_getElem? (i := 172) (by eq_refl)), lw_t3 (List.mem_of_getElem? (i := 173) (by eq_refl))⟩
set_option maxRecDepth 100000 in
theorem lw_p19 : lw_okq (⟨"ThreeStrangers$Scribe", "readMet", "(LThreeStrangers$Town;)Z"⟩, 6) := ⟨⟨by decide +kernel, by decide +kernel⟩, lw_t1 (List.mem_of_getElem? (i := 160) (by eq_refl)), lw_t3 (List.mem_of_getElem? (i := 177) (by eq_refl)), lw_t3 (List.mem_of_getElem? (i := 178) (by eq_refl))⟩
set_option maxRecDepth 100000 in
theorem lw_p20 : lw_okq (⟨"ThreeStrangers", "think", "(LThreeStrangers$Coachman;)V"⟩, 9) := ⟨⟨by decide +kernel, by decide +kernel⟩, lw_t1 (List.mem_of_getElem? (i := 22) (by eq_refl)), lw_t4 (List.mem_of_getElem? (i := 8) (by eq_refl)), lw_t4 (List.mem_of_getElem? (i := 9) (by eq_refl))⟩
set_option maxRecDepth 100000 in
theorem lw_p21 : lw_okq (⟨"ThreeStrangers$Day", "sendAll", "(LThreeStrangers$Ties;LThreeStrangers$Coachman;II)V"⟩, 7) := ⟨⟨by decide +kernel, by decide +kernel⟩, lw_t1 (List.mem_of_getElem? (i := 130) (by eq_refl)), lw_t4 (List.mem_of_getElem? (i := 16) (by eq_refl)), lw_t4 (List.mem_of_getElem? (i := 17) (by eq_refl))⟩
set_option maxRecDepth 100000 in
theorem lw_p22 : lw_okq (⟨"ThreeStrangers$Day", "cheapest", "(LThreeStrangers$Town;LThreeStrangers$Ties;I)I"⟩, 7) := ⟨⟨by decide +kernel, by decide +kernel⟩, lw_t1 (List.mem_of_getElem? (i := 130) (by eq_refl)), lw_t4 (List.mem_of_getElem? (i := 61) (by eq_refl)), lw_t4 (List.mem_of_getElem? (i := 62) (by eq_refl))⟩
set_option maxRecDepth 100000 in
theorem lw_p23 : lw_okq (⟨"ThreeStrangers$Ties", "listPairs", "(I)I"⟩, 11) := ⟨⟨by decide +kernel, by decide +kernel⟩, lw_t1 (List.mem_of_getElem? (i := 86) (by eq_refl)), lw_t4 (List.mem_of_getElem? (i := 98) (by eq_refl)), lw_t4 (List.mem_of_getElem? (i := 99) (by eq_refl))⟩
set_option maxRecDepth 100000 in
theorem lw_p24 : lw_okq (⟨"ThreeStrangers$Ties", "pairsIn", "(I)I"⟩, 11) := ⟨⟨by decide +kernel, by decide +kernel⟩, lw_t1 (List.mem_of_getElem? (i := 86) (by eq_refl)), lw_t4 (List.mem_of_getElem? (i := 102) (by eq_refl)), lw_t4 (List.mem_of_getElem? (i := 103) (by eq_refl))⟩
set_option maxRecDepth 100000 in
theorem lw_p25 : lw_okq (⟨"ThreeStrangers$Ties", "lengthen", "(III)V"⟩, 11) := ⟨⟨by decide +kernel, by decide +kernel⟩, lw_t1 (List.mem_of_getElem? (i := 86) (by eq_refl)), lw_t4 (List.mem_of_getElem? (i := 109) (by eq_refl)), lw_t4 (List.mem_of_getElem? (i := 110) (by eq_refl))⟩
set_option maxRecDepth 100000 in
theorem lw_p26 : lw_okq (⟨"ThreeStrangers$Ties", "finish", "(IJI)V"⟩, 11) := ⟨⟨by decide +kernel, by decide +kernel⟩, lw_t1 (List.mem_of_getElem? (i := 86) (by eq_refl)), lw_t4 (List.mem_of_getElem? (i := 118) (by eq_refl)), lw_t4 (List.mem_of_getElem? (i := 119) (by eq_refl))⟩
set_option maxRecDepth 100000 in
theorem lw_p27 : lw_okq (⟨"ThreeStrangers$Ties", "firstPossible", "(I)I"⟩, 11) := ⟨⟨by decide +kernel, by decide +kernel⟩, lw_t1 (List.mem_of_getElem? (i := 86) (by eq_refl)), lw_t4 (List.mem_of_getElem? (i := 122) (by eq_refl)), lw_t4 (List.mem_of_getElem? (i := 123) (by eq_refl))⟩
set_option maxRecDepth 100000 in
theorem lw_p28 : lw_okq (⟨"ThreeStrangers", "canBeSecret", "(I)Z"⟩, 9) := ⟨⟨by decide +kernel, by decide +kernel⟩, lw_t1 (List.mem_of_getElem? (i := 22) (by eq_refl)), lw_t4 (List.mem_of_getElem? (i := 160) (by eq_refl)), lw_t4 (List.mem_of_getElem? (i := 161) (by eq_refl))⟩
set_option maxRecDepth 100000 in
theorem lw_p29 : lw_okq (⟨"ThreeStrangers$Ties", "breaksAll", "(II)Z"⟩, 11) := ⟨⟨by decide +kernel, by decide +kernel⟩, lw_t1 (List.mem_of_getElem? (i := 86) (by eq_refl)), lw_t4 (List.mem_of_getElem? (i := 168) (by eq_refl)), lw_t4 (List.mem_of_getElem? (i := 169) (by eq_refl))⟩
set_option maxRecDepth 100000 in
theorem lw_p30 : lw_okq (⟨"ThreeStrangers$Ties", "tally", "(I)V"⟩, 11) := ⟨⟨by decide +kernel, by decide +kernel⟩, lw_t1 (List.mem_of_getElem? (i := 86) (by eq_refl)), lw_t4 (List.mem_of_getElem? (i := 172) (by eq_refl)), lw_t4 (List.mem_of_getElem? (i := 173) (by eq_refl))⟩
set_option maxRecDepth 100000 in
theorem lw_p31 : lw_okq (⟨"ThreeStrangers", "whyNotTold", "(II)I"⟩, 9) := ⟨⟨by decide +kernel, by decide +kernel⟩, lw_t1 (List.mem_of_getElem? (i := 22) (by eq_refl)), lw_t4 (List.mem_of_getElem? (i := 189) (by eq_refl)), lw_t4 (List.mem_of_getElem? (i := 190) (by eq_refl))⟩
def lw_privs_2 : List (MethodName × Nat) := [(⟨"ThreeStrangers$Scribe", "readPair", "(LThreeStrangers$Town;Z)Z"⟩, 6), (⟨"ThreeStrangers$Scribe", "readSeats", "(LThreeStrangers$Town;)Z"⟩, 6), (⟨"ThreeStrangers$Scribe", "readMemory", "(LThreeStrangers$Town;)Z"⟩, 6), (⟨"ThreeStrangers$Scribe", "readMet", "(LThreeStrangers$Town;)Z"⟩, 6), (⟨"ThreeStrangers", "think", "(LThreeStrangers$Coachman;)V"⟩, 9), (⟨"ThreeStrangers$Day", "sendAll", "(LThreeStrangers$Ties;LThreeStrangers$Coachman;II)V"⟩, 7), (⟨"ThreeStrangers$Day", "cheapest", "(LThreeStrangers$Town;LThreeStrangers$Ties;I)I"⟩, 7), (⟨"ThreeStrangers$Ties", "listPairs", "(I)I"⟩, 11), (⟨"ThreeStrangers$Ties", "pairsIn", "(I)I"⟩, 11), (⟨"ThreeStrangers$Ties", "lengthen", "(III)V"⟩, 11), (⟨"ThreeStrangers$Ties", "finish", "(IJI)V"⟩, 11), (⟨"ThreeStrangers$Ties", "firstPossible", "(I)I"⟩, 11), (⟨"ThreeStrangers", "canBeSecret", "(I)Z"⟩, 9), (⟨"ThreeStrangers$Ties", "breaksAll", "(II)Z"⟩, 11), (⟨"ThreeStrangers$Ties", "tally", "(I)V"⟩, 11), (⟨"ThreeStrangers", "whyNotTold", "(II)I"⟩, 9)]
theorem lw_r2 : ∀ q ∈ lw_privs_2, lw_okq q := List.forall_mem_cons.mpr ⟨lw_p16, List.forall_mem_cons.mpr ⟨lw_p17, List.forall_mem_cons.mpr ⟨lw_p18, List.forall_mem_cons.mpr ⟨lw_p19, List.forall_mem_cons.mpr ⟨lw_p20, List.forall_mem_cons.mpr ⟨lw_p21, List.forall_mem_cons.mpr ⟨lw_p22, List.forall_mem_cons.mpr ⟨lw_p23, List.forall_mem_cons.mpr ⟨lw_p24, List.forall_mem_cons.mpr ⟨lw_p25, List.forall_mem_cons.mpr ⟨lw_p26, List.forall_mem_cons.mpr ⟨lw_p27, List.forall_mem_cons.mpr ⟨lw_p28, List.forall_mem_cons.mpr ⟨lw_p29, List.forall_mem_cons.mpr ⟨lw_p30, List.forall_mem_cons.mpr ⟨lw_p31, fun _ h => absurd h List.not_mem_nil⟩⟩⟩⟩⟩⟩⟩⟩⟩⟩⟩⟩⟩⟩⟩⟩
set_option maxRecDepth 100000 in
theorem lw_p32 : lw_okq (⟨"ThreeStrangers", "firstWrong", "(II)I"⟩, 9) := ⟨⟨by decide +kernel, by decide +kernel⟩, lw_t1 (List.mem_of_getElem? (i := 22) (by eq_refl)), lw_t4 (List.mem_of_getElem? (i := 193) (by eq_refl)), lw_t4 (List.mem_of_getElem? (i := 194) (by eq_refl))⟩
set_option maxRecDepth 100000 in
theorem lw_p33 : lw_okq (⟨"ThreeStrangers", "whyNotRidden", "(II)I"⟩, 9) := ⟨⟨by decide +kernel, by decide +kernel⟩, lw_t1 (List.mem_of_getElem? (i := 22) (by eq_refl)), lw_t4 (List.mem_of_getElem? (i := 201) (by eq_refl)), lw_t4 (List.mem_of_getElem? (i := 202) (by eq_refl))⟩
set_option maxRecDepth 100000 in
theorem lw_p34 : lw_okq (⟨"ThreeStrangers$Town", "draw", "(I)I"⟩, 10) := ⟨⟨by decide +kernel, by decide +kernel⟩, lw_t1 (List.mem_of_getElem? (i := 30) (by eq_refl)), lw_t5 (List.mem_of_getElem? (i := 0) (by eq_refl)), lw_t5 (List.mem_of_getElem? (i := 1) (by eq_refl))⟩
set_option maxRecDepth 100000 in
theorem lw_p35 : lw_okq (⟨"ThreeStrangers", "countHeld", "()I"⟩, 9) := ⟨⟨by decide +kernel, by decide +kernel⟩, lw_t1 (List.mem_of_getElem? (i := 22) (by eq_refl)), lw_t5 (List.mem_of_getElem? (i := 28) (by eq_refl)), lw_t5 (List.mem_of_getElem? (i := 29) (by eq_refl))⟩
set_option maxRecDepth 100000 in
theorem lw_p36 : lw_okq (⟨"ThreeStrangersModel", "refuse", "(I)I"⟩, 45) := ⟨⟨by decide +kernel, by decide +kernel⟩, lw_t5 (List.mem_of_getElem? (i := 32) (by eq_refl)), lw_t5 (List.mem_of_getElem? (i := 188) (by eq_refl)), lw_t5 (List.mem_of_getElem? (i := 189) (by eq_refl))⟩
set_option maxRecDepth 100000 in
theorem lw_p37 : lw_okq (⟨"ThreeStrangersModel", "noRow", "(I)I"⟩, 45) := ⟨⟨by decide +kernel, by decide +kernel⟩, lw_t5 (List.mem_of_getElem? (i := 32) (by eq_refl)), lw_t5 (List.mem_of_getElem? (i := 196) (by eq_refl)), lw_t5 (List.mem_of_getElem? (i := 197) (by eq_refl))⟩
set_option maxRecDepth 100000 in
theorem lw_p38 : lw_okq (⟨"ThreeStrangersModel", "all", "()I"⟩, 45) := ⟨⟨by decide +kernel, by decide +kernel⟩, lw_t5 (List.mem_of_getElem? (i := 32) (by eq_refl)), lw_t5 (List.mem_of_getElem? (i := 228) (by eq_refl)), lw_t5 (List.mem_of_getElem? (i := 229) (by eq_refl))⟩
set_option maxRecDepth 100000 in
theorem lw_p39 : lw_okq (⟨"ThreeStrangersModel", "sentBy", "(IIII)I"⟩, 45) := ⟨⟨by decide +kernel, by decide +kernel⟩, lw_t5 (List.mem_of_getElem? (i := 32) (by eq_refl)), lw_t5 (List.mem_of_getElem? (i := 232) (by eq_refl)), lw_t5 (List.mem_of_getElem? (i := 233) (by eq_refl))⟩
set_option maxRecDepth 100000 in
theorem lw_p40 : lw_okq (⟨"ThreeStrangersModel", "listAll", "()V"⟩, 45) := ⟨⟨by decide +kernel, by decide +kernel⟩, lw_t5 (List.mem_of_getElem? (i := 32) (by eq_refl)), lw_t5 (List.mem_of_getElem? (i := 236) (by eq_refl)), lw_t5 (List.mem_of_getElem? (i := 237) (by eq_refl))⟩
set_option maxRecDepth 100000 in
theorem lw_p41 : lw_okq (⟨"ThreeStrangersModel", "listFrom", "(III)V"⟩, 45) := ⟨⟨by decide +kernel, by decide +kernel⟩, lw_t5 (List.mem_of_getElem? (i := 32) (by eq_refl)), lw_t6 (List.mem_of_getElem? (i := 0) (by eq_refl)), lw_t6 (List.mem_of_getElem? (i := 1) (by eq_refl))⟩
set_option maxRecDepth 100000 in
theorem lw_p42 : lw_okq (⟨"ThreeStrangersModel", "firstIn", "(I)I"⟩, 45) := ⟨⟨by decide +kernel, by decide +kernel⟩, lw_t5 (List.mem_of_getElem? (i := 32) (by eq_refl)), lw_t6 (List.mem_of_getElem? (i := 10) (by eq_refl)), lw_t6 (List.mem_of_getElem? (i := 11) (by eq_refl))⟩
set_option maxRecDepth 100000 in
theorem lw_p43 : lw_okq (⟨"ThreeStrangersModel", "bestIn", "(I)I"⟩, 45) := ⟨⟨by decide +kernel, by decide +kernel⟩, lw_t5 (List.mem_of_getElem? (i := 32) (by eq_refl)), lw_t6 (List.mem_of_getElem? (i := 14) (by eq_refl)), lw_t6 (List.mem_of_getElem? (i := 15) (by eq_refl))⟩
set_option maxRecDepth 100000 in
theorem lw_p44 : lw_okq (⟨"ThreeStrangersModel", "mostIn", "(I)I"⟩, 45) := ⟨⟨by decide +kernel, by decide +kernel⟩, lw_t5 (List.mem_of_getElem? (i := 32) (by eq_refl)), lw_t6 (List.mem_of_getElem? (i := 18) (by eq_refl)), lw_t6 (List.mem_of_getElem? (i := 19) (by eq_refl))⟩
set_option maxRecDepth 100000 in
theorem lw_p45 : lw_okq (⟨"ThreeStrangersModel", "costOf", "(I)I"⟩, 45) := ⟨⟨by decide +kernel, by decide +kernel⟩, lw_t5 (List.mem_of_getElem? (i := 32) (by eq_refl)), lw_t6 (List.mem_of_getElem? (i := 22) (by eq_refl)), lw_t6 (List.mem_of_getElem? (i := 23) (by eq_refl))⟩
set_option maxRecDepth 100000 in
theorem lw_p46 : lw_okq (⟨"ThreeStrangersModel", "meetsOf", "(I)I"⟩, 45) := ⟨⟨by decide +kernel, by decide +kernel⟩, lw_t5 (List.mem_of_getElem? (i := 32) (by eq_refl)), lw_t6 (List.mem_of_getElem? (i := 26) (by eq_refl)), lw_t6 (List.mem_of_getElem? (i := 27) (by eq_refl))⟩
set_option maxRecDepth 100000 in
theorem lw_p47 : lw_okq (⟨"ThreeStrangersModel", "strangersOf", "(I)I"⟩, 45) := ⟨⟨by decide +kernel, by decide +kernel⟩, lw_t5 (List.mem_of_getElem? (i := 32) (by eq_refl)), lw_t6 (List.mem_of_getElem? (i := 30) (by eq_refl)), lw_t6 (List.mem_of_getElem? (i := 31) (by eq_refl))⟩
def lw_privs_3 : List (MethodName × Nat) := [(⟨"ThreeStrangers", "firstWrong", "(II)I"⟩, 9), (⟨"ThreeStrangers", "whyNotRidden", "(II)I"⟩, 9), (⟨"ThreeStrangers$Town", "draw", "(I)I"⟩, 10), (⟨"ThreeStrangers", "countHeld", "()I"⟩, 9), (⟨"ThreeStrangersModel", "refuse", "(I)I"⟩, 45), (⟨"ThreeStrangersModel", "noRow", "(I)I"⟩, 45), (⟨"ThreeStrangersModel", "all", "()I"⟩, 45), (⟨"ThreeStrangersModel", "sentBy", "(IIII)I"⟩, 45), (⟨"ThreeStrangersModel", "listAll", "()V"⟩, 45), (⟨"ThreeStrangersModel", "listFrom", "(III)V"⟩, 45), (⟨"ThreeStrangersModel", "firstIn", "(I)I"⟩, 45), (⟨"ThreeStrangersModel", "bestIn", "(I)I"⟩, 45), (⟨"ThreeStrangersModel", "mostIn", "(I)I"⟩, 45), (⟨"ThreeStrangersModel", "costOf", "(I)I"⟩, 45), (⟨"ThreeStrangersModel", "meetsOf", "(I)I"⟩, 45), (⟨"ThreeStrangersModel", "strangersOf", "(I)I"⟩, 45)]
theorem lw_r3 : ∀ q ∈ lw_privs_3, lw_okq q := List.forall_mem_cons.mpr ⟨lw_p32, List.forall_mem_cons.mpr ⟨lw_p33, List.forall_mem_cons.mpr ⟨lw_p34, List.forall_mem_cons.mpr ⟨lw_p35, List.forall_mem_cons.mpr ⟨lw_p36, List.forall_mem_cons.mpr ⟨lw_p37, List.forall_mem_cons.mpr ⟨lw_p38, List.forall_mem_cons.mpr ⟨lw_p39, List.forall_mem_cons.mpr ⟨lw_p40, List.forall_mem_cons.mpr ⟨lw_p41, List.forall_mem_cons.mpr ⟨lw_p42, List.forall_mem_cons.mpr ⟨lw_p43, List.forall_mem_cons.mpr ⟨lw_p44, List.forall_mem_cons.mpr ⟨lw_p45, List.forall_mem_cons.mpr ⟨lw_p46, List.forall_mem_cons.mpr ⟨lw_p47, fun _ h => absurd h List.not_mem_nil⟩⟩⟩⟩⟩⟩⟩⟩⟩⟩⟩⟩⟩⟩⟩⟩
set_option maxRecDepth 100000 in
theorem lw_p48 : lw_okq (⟨"ThreeStrangersModel", "addOne", "(II)V"⟩, 45) := ⟨⟨by decide +kernel, by decide +kernel⟩, lw_t5 (List.mem_of_getElem? (i := 32) (by eq_refl)), lw_t6 (List.mem_of_getElem? (i := 39) (by eq_refl)), lw_t6 (List.mem_of_getElem? (i := 40) (by eq_refl))⟩
set_option maxRecDepth 100000 in
theorem lw_p49 : lw_okq (⟨"ThreeStrangersModel", "isOne", "(I)Z"⟩, 45) := ⟨⟨by decide +kernel, by decide +kernel⟩, lw_t5 (List.mem_of_getElem? (i := 32) (by eq_refl)), lw_t6 (List.mem_of_getElem? (i := 47) (by eq_refl)), lw_t6 (List.mem_of_getElem? (i := 48) (by eq_refl))⟩
set_option maxRecDepth 100000 in
theorem lw_p50 : lw_okq (⟨"ThreeStrangersModel", "areTwo", "(II)Z"⟩, 45) := ⟨⟨by decide +kernel, by decide +kernel⟩, lw_t5 (List.mem_of_getElem? (i := 32) (by eq_refl)), lw_t6 (List.mem_of_getElem? (i := 55) (by eq_refl)), lw_t6 (List.mem_of_getElem? (i := 56) (by eq_refl))⟩
set_option maxRecDepth 100000 in
theorem lw_p51 : lw_okq (⟨"ThreeStrangersModel", "knows", "(III)V"⟩, 45) := ⟨⟨by decide +kernel, by decide +kernel⟩, lw_t5 (List.mem_of_getElem? (i := 32) (by eq_refl)), lw_t6 (List.mem_of_getElem? (i := 61) (by eq_refl)), lw_t6 (List.mem_of_getElem? (i := 62) (by eq_refl))⟩
set_option maxRecDepth 100000 in
theorem lw_p52 : lw_okq (⟨"ThreeStrangersModel", "fresh", "()LThreeStrangersModel;"⟩, 45) := ⟨⟨by decide +kernel, by decide +kernel⟩, lw_t5 (List.mem_of_getElem? (i := 32) (by eq_refl)), lw_t6 (List.mem_of_getElem? (i := 83) (by eq_refl)), lw_t6 (List.mem_of_getElem? (i := 84) (by eq_refl))⟩
set_option maxRecDepth 100000 in
theorem lw_p53 : lw_okq (⟨"ThreeStrangersModel", "takeFrom", "(LThreeStrangersModel;)V"⟩, 45) := ⟨⟨by decide +kernel, by decide +kernel⟩, lw_t5 (List.mem_of_getElem? (i := 32) (by eq_refl)), lw_t6 (List.mem_of_getElem? (i := 89) (by eq_refl)), lw_t6 (List.mem_of_getElem? (i := 90) (by eq_refl))⟩
set_option maxRecDepth 100000 in
theorem lw_p54 : lw_okq (⟨"ThreeStrangersModel", "readAll", "()Z"⟩, 45) := ⟨⟨by decide +kernel, by decide +kernel⟩, lw_t5 (List.mem_of_getElem? (i := 32) (by eq_refl)), lw_t6 (List.mem_of_getElem? (i := 96) (by eq_refl)), lw_t6 (List.mem_of_getElem? (i := 97) (by eq_refl))⟩
set_option maxRecDepth 100000 in
theorem lw_p55 : lw_okq (⟨"ThreeStrangersModel", "look", "()V"⟩, 45) := ⟨⟨by decide +kernel, by decide +kernel⟩, lw_t5 (List.mem_of_getElem? (i := 32) (by eq_refl)), lw_t6 (List.mem_of_getElem? (i := 100) (by eq_refl)), lw_t6 (List.mem_of_getElem? (i := 101) (by eq_refl))⟩
set_option maxRecDepth 100000 in
theorem lw_p56 : lw_okq (⟨"ThreeStrangersModel", "statement", "()Z"⟩, 45) := ⟨⟨by decide +kernel, by decide +kernel⟩, lw_t5 (List.mem_of_getElem? (i := 32) (by eq_refl)), lw_t6 (List.mem_of_getElem? (i := 111) (by eq_refl)), lw_t6 (List.mem_of_getElem? (i := 112) (by eq_refl))⟩
set_option maxRecDepth 100000 in
theorem lw_p57 : lw_okq (⟨"ThreeStrangersModel", "isWord", "(Ljava/lang/String;)Z"⟩, 45) := ⟨⟨by decide +kernel, by decide +kernel⟩, lw_t5 (List.mem_of_getElem? (i := 32) (by eq_refl)), lw_t6 (List.mem_of_getElem? (i := 116) (by eq_refl)), lw_t6 (List.mem_of_getElem? (i := 117) (by eq_refl))⟩
set_option maxRecDepth 100000 in
theorem lw_p58 : lw_okq (⟨"ThreeStrangersModel", "tells", "(II)Z"⟩, 45) := ⟨⟨by decide +kernel, by decide +kernel⟩, lw_t5 (List.mem_of_getElem? (i := 32) (by eq_refl)), lw_t6 (List.mem_of_getElem? (i := 122) (by eq_refl)), lw_t6 (List.mem_of_getElem? (i := 123) (by eq_refl))⟩
set_option maxRecDepth 100000 in
theorem lw_p59 : lw_okq (⟨"ThreeStrangersModel", "number", "(III)Z"⟩, 45) := ⟨⟨by decide +kernel, by decide +kernel⟩, lw_t5 (List.mem_of_getElem? (i := 32) (by eq_refl)), lw_t6 (List.mem_of_getElem? (i := 126) (by eq_refl)), lw_t6 (List.mem_of_getElem? (i := 127) (by eq_refl))⟩
set_option maxRecDepth 100000 in
theorem lw_p60 : lw_okq (⟨"ThreeStrangersModel", "wrong", "()Z"⟩, 45) := ⟨⟨by decide +kernel, by decide +kernel⟩, lw_t5 (List.mem_of_getElem? (i := 32) (by eq_refl)), lw_t6 (List.mem_of_getElem? (i := 130) (by eq_refl)), lw_t6 (List.mem_of_getElem? (i := 131) (by eq_refl))⟩
set_option maxRecDepth 100000 in
theorem lw_p61 : lw_okq (⟨"ThreeStrangersModel", "knowTold", "()Z"⟩, 45) := ⟨⟨by decide +kernel, by decide +kernel⟩, lw_t5 (List.mem_of_getElem? (i := 32) (by eq_refl)), lw_t6 (List.mem_of_getElem? (i := 135) (by eq_refl)), lw_t6 (List.mem_of_getElem? (i := 136) (by eq_refl))⟩
set_option maxRecDepth 100000 in
theorem lw_p62 : lw_okq (⟨"ThreeStrangersModel", "twoTold", "()Z"⟩, 45) := ⟨⟨by decide +kernel, by decide +kernel⟩, lw_t5 (List.mem_of_getElem? (i := 32) (by eq_refl)), lw_t6 (List.mem_of_getElem? (i := 139) (by eq_refl)), lw_t6 (List.mem_of_getElem? (i := 140) (by eq_refl))⟩
set_option maxRecDepth 100000 in
theorem lw_p63 : lw_okq (⟨"ThreeStrangersModel", "metTold", "()Z"⟩, 45) := ⟨⟨by decide +kernel, by decide +kernel⟩, lw_t5 (List.mem_of_getElem? (i := 32) (by eq_refl)), lw_t6 (List.mem_of_getElem? (i := 148) (by eq_refl)), lw_t6 (List.mem_of_getElem? (i := 149) (by eq_refl))⟩
def lw_privs_4 : List (MethodName × Nat) := [(⟨"ThreeStrangersModel", "addOne", "(II)V"⟩, 45), (⟨"ThreeStrangersModel", "isOne", "(I)Z"⟩, 45), (⟨"ThreeStrangersModel", "areTwo", "(II)Z"⟩, 45), (⟨"ThreeStrangersModel", "knows", "(III)V"⟩, 45), (⟨"ThreeStrangersModel", "fresh", "()LThreeStrangersModel;"⟩, 45), (⟨"ThreeStrangersModel", "takeFrom", "(LThreeStrangersModel;)V"⟩, 45), (⟨"ThreeStrangersModel", "readAll", "()Z"⟩, 45), (⟨"ThreeStrangersModel", "look", "()V"⟩, 45), (⟨"ThreeStrangersModel", "statement", "()Z"⟩, 45), (⟨"ThreeStrangersModel", "isWord", "(Ljava/lang/String;)Z"⟩, 45), (⟨"ThreeStrangersModel", "tells", "(II)Z"⟩, 45), (⟨"ThreeStrangersModel", "number", "(III)Z"⟩, 45), (⟨"ThreeStrangersModel", "wrong", "()Z"⟩, 45), (⟨"ThreeStrangersModel", "knowTold", "()Z"⟩, 45), (⟨"ThreeStrangersModel", "twoTold", "()Z"⟩, 45), (⟨"ThreeStrangersModel", "metTold", "()Z"⟩, 45)]
theorem lw_r4 : ∀ q ∈ lw_privs_4, lw_okq q := List.forall_mem_cons.mpr ⟨lw_p48, List.forall_mem_cons.mpr ⟨lw_p49, List.forall_mem_cons.mpr ⟨lw_p50, List.forall_mem_cons.mpr ⟨lw_p51, List.forall_mem_cons.mpr ⟨lw_p52, List.forall_mem_cons.mpr ⟨lw_p53, List.forall_mem_cons.mpr ⟨lw_p54, List.forall_mem_cons.mpr ⟨lw_p55, List.forall_mem_cons.mpr ⟨lw_p56, List.forall_mem_cons.mpr ⟨lw_p57, List.forall_mem_cons.mpr ⟨lw_p58, List.forall_mem_cons.mpr ⟨lw_p59, List.forall_mem_cons.mpr ⟨lw_p60, List.forall_mem_cons.mpr ⟨lw_p61, List.forall_mem_cons.mpr ⟨lw_p62, List.forall_mem_cons.mpr ⟨lw_p63, fun _ h => absurd h List.not_mem_nil⟩⟩⟩⟩⟩⟩⟩⟩⟩⟩⟩⟩⟩⟩⟩⟩
set_option maxRecDepth 100000 in
theorem lw_p64 : lw_okq (⟨"ThreeStrangersModel", "meets", "(I)I"⟩, 45) := ⟨⟨by decide +kernel, by decide +kernel⟩, lw_t5 (List.mem_of_getElem? (i := 32) (by eq_refl)), lw_t6 (List.mem_of_getElem? (i := 152) (by eq_refl)), lw_t6 (List.mem_of_getElem? (i := 153) (by eq_refl))⟩
set_option maxRecDepth 100000 in
theorem lw_p65 : lw_okq (⟨"ThreeStrangersModel", "isSet", "(I)Z"⟩, 45) := ⟨⟨by decide +kernel, by decide +kernel⟩, lw_t5 (List.mem_of_getElem? (i := 32) (by eq_refl)), lw_t6 (List.mem_of_getElem? (i := 169) (by eq_refl)), lw_t6 (List.mem_of_getElem? (i := 170) (by eq_refl))⟩
set_option maxRecDepth 100000 in
theorem lw_p66 : lw_okq (⟨"ThreeStrangersModel", "isGroupNow", "(I)Z"⟩, 45) := ⟨⟨by decide +kernel, by decide +kernel⟩, lw_t5 (List.mem_of_getElem? (i := 32) (by eq_refl)), lw_t6 (List.mem_of_getElem? (i := 173) (by eq_refl)), lw_t6 (List.mem_of_getElem? (i := 174) (by eq_refl))⟩
set_option maxRecDepth 100000 in
theorem lw_p67 : lw_okq (⟨"ThreeStrangersModel", "groupsOf", "(I)I"⟩, 45) := ⟨⟨by decide +kernel, by decide +kernel⟩, lw_t5 (List.mem_of_getElem? (i := 32) (by eq_refl)), lw_t6 (List.mem_of_getElem? (i := 181) (by eq_refl)), lw_t6 (List.mem_of_getElem? (i := 182) (by eq_refl))⟩
set_option maxRecDepth 100000 in
theorem lw_p68 : lw_okq (⟨"ThreeStrangersModel", "noMan", "(I)I"⟩, 45) := ⟨⟨by decide +kernel, by decide +kernel⟩, lw_t5 (List.mem_of_getElem? (i := 32) (by eq_refl)), lw_t6 (List.mem_of_getElem? (i := 201) (by eq_refl)), lw_t6 (List.mem_of_getElem? (i := 202) (by eq_refl))⟩
set_option maxRecDepth 100000 in
theorem lw_p69 : lw_okq (⟨"ThreeStrangersModel", "goesBy", "(II)V"⟩, 45) := ⟨⟨by decide +kernel, by decide +kernel⟩, lw_t5 (List.mem_of_getElem? (i := 32) (by eq_refl)), lw_t6 (List.mem_of_getElem? (i := 209) (by eq_refl)), lw_t6 (List.mem_of_getElem? (i := 210) (by eq_refl))⟩
set_option maxRecDepth 100000 in
theorem lw_p70 : lw_okq (⟨"ThreeStrangersModel", "findComing", "()V"⟩, 45) := ⟨⟨by decide +kernel, by decide +kernel⟩, lw_t5 (List.mem_of_getElem? (i := 32) (by eq_refl)), lw_t6 (List.mem_of_getElem? (i := 213) (by eq_refl)), lw_t6 (List.mem_of_getElem? (i := 214) (by eq_refl))⟩
set_option maxRecDepth 100000 in
theorem lw_p71 : lw_okq (⟨"ThreeStrangersModel", "waitedAll", "()I"⟩, 45) := ⟨⟨by decide +kernel, by decide +kernel⟩, lw_t5 (List.mem_of_getElem? (i := 32) (by eq_refl)), lw_t6 (List.mem_of_getElem? (i := 229) (by eq_refl)), lw_t6 (List.mem_of_getElem? (i := 230) (by eq_refl))⟩
set_option maxRecDepth 100000 in
theorem lw_p72 : lw_okq (⟨"ThreeStrangersModel", "leastFrom", "(II)I"⟩, 45) := ⟨⟨by decide +kernel, by decide +kernel⟩, lw_t5 (List.mem_of_getElem? (i := 32) (by eq_refl)), lw_t6 (List.mem_of_getElem? (i := 237) (by eq_refl)), lw_t6 (List.mem_of_getElem? (i := 238) (by eq_refl))⟩
set_option maxRecDepth 100000 in
theorem lw_p73 : lw_okq (⟨"ThreeStrangersModel", "dayOf", "(II)I"⟩, 45) := ⟨⟨by decide +kernel, by decide +kernel⟩, lw_t5 (List.mem_of_getElem? (i := 32) (by eq_refl)), lw_t7 (List.mem_of_getElem? (i := 9) (by eq_refl)), lw_t7 (List.mem_of_getElem? (i := 10) (by eq_refl))⟩
set_option maxRecDepth 100000 in
theorem lw_p74 : lw_okq (⟨"ThreeStrangersModel", "findEver", "()V"⟩, 45) := ⟨⟨by decide +kernel, by decide +kernel⟩, lw_t5 (List.mem_of_getElem? (i := 32) (by eq_refl)), lw_t7 (List.mem_of_getElem? (i := 17) (by eq_refl)), lw_t7 (List.mem_of_getElem? (i := 18) (by eq_refl))⟩
set_option maxRecDepth 100000 in
theorem lw_p75 : lw_okq (⟨"ThreeStrangersModel", "pairsOf", "(I)I"⟩, 45) := ⟨⟨by decide +kernel, by decide +kernel⟩, lw_t5 (List.mem_of_getElem? (i := 32) (by eq_refl)), lw_t7 (List.mem_of_getElem? (i := 21) (by eq_refl)), lw_t7 (List.mem_of_getElem? (i := 22) (by eq_refl))⟩
set_option maxRecDepth 100000 in
theorem lw_p76 : lw_okq (⟨"ThreeStrangersModel", "seekEver", "(I[II)V"⟩, 45) := ⟨⟨by decide +kernel, by decide +kernel⟩, lw_t5 (List.mem_of_getElem? (i := 32) (by eq_refl)), lw_t7 (List.mem_of_getElem? (i := 25) (by eq_refl)), lw_t7 (List.mem_of_getElem? (i := 26) (by eq_refl))⟩
set_option maxRecDepth 100000 in
theorem lw_p77 : lw_okq (⟨"ThreeStrangersModel", "closesOf", "(II)I"⟩, 45) := ⟨⟨by decide +kernel, by decide +kernel⟩, lw_t5 (List.mem_of_getElem? (i := 32) (by eq_refl)), lw_t7 (List.mem_of_getElem? (i := 44) (by eq_refl)), lw_t7 (List.mem_of_getElem? (i := 45) (by eq_refl))⟩
set_option maxRecDepth 100000 in
theorem lw_p78 : lw_okq (⟨"ThreeStrangersModel", "findWays", "(I)V"⟩, 45) := ⟨⟨by decide +kernel, by decide +kernel⟩, lw_t5 (List.mem_of_getElem? (i := 32) (by eq_refl)), lw_t7 (List.mem_of_getElem? (i := 56) (by eq_refl)), lw_t7 (List.mem_of_getElem? (i := 57) (by eq_refl))⟩
set_option maxRecDepth 100000 in
theorem lw_p79 : lw_okq (⟨"ThreeStrangersModel", "noDay", "(II)I"⟩, 45) := ⟨⟨by decide +kernel, by decide +kernel⟩, lw_t5 (List.mem_of_getElem? (i := 32) (by eq_refl)), lw_t7 (List.mem_of_getElem? (i := 68) (by eq_refl)), lw_t7 (List.mem_of_getElem? (i := 69) (by eq_refl))⟩
def lw_privs_5 : List (MethodName × Nat) := [(⟨"ThreeStrangersModel", "meets", "(I)I"⟩, 45), (⟨"ThreeStrangersModel", "isSet", "(I)Z"⟩, 45), (⟨"ThreeStrangersModel", "isGroupNow", "(I)Z"⟩, 45), (⟨"ThreeStrangersModel", "groupsOf", "(I)I"⟩, 45), (⟨"ThreeStrangersModel", "noMan", "(I)I"⟩, 45), (⟨"ThreeStrangersModel", "goesBy", "(II)V"⟩, 45), (⟨"ThreeStrangersModel", "findComing", "()V"⟩, 45), (⟨"ThreeStrangersModel", "waitedAll", "()I"⟩, 45), (⟨"ThreeStrangersModel", "leastFrom", "(II)I"⟩, 45), (⟨"ThreeStrangersModel", "dayOf", "(II)I"⟩, 45), (⟨"ThreeStrangersModel", "findEver", "()V"⟩, 45), (⟨"ThreeStrangersModel", "pairsOf", "(I)I"⟩, 45), (⟨"ThreeStrangersModel", "seekEver", "(I[II)V"⟩, 45), (⟨"ThreeStrangersModel", "closesOf", "(II)I"⟩, 45), (⟨"ThreeStrangersModel", "findWays", "(I)V"⟩, 45), (⟨"ThreeStrangersModel", "noDay", "(II)I"⟩, 45)]
theorem lw_r5 : ∀ q ∈ lw_privs_5, lw_okq q := List.forall_mem_cons.mpr ⟨lw_p64, List.forall_mem_cons.mpr ⟨lw_p65, List.forall_mem_cons.mpr ⟨lw_p66, List.forall_mem_cons.mpr ⟨lw_p67, List.forall_mem_cons.mpr ⟨lw_p68, List.forall_mem_cons.mpr ⟨lw_p69, List.forall_mem_cons.mpr ⟨lw_p70, List.forall_mem_cons.mpr ⟨lw_p71, List.forall_mem_cons.mpr ⟨lw_p72, List.forall_mem_cons.mpr ⟨lw_p73, List.forall_mem_cons.mpr ⟨lw_p74, List.forall_mem_cons.mpr ⟨lw_p75, List.forall_mem_cons.mpr ⟨lw_p76, List.forall_mem_cons.mpr ⟨lw_p77, List.forall_mem_cons.mpr ⟨lw_p78, List.forall_mem_cons.mpr ⟨lw_p79, fun _ h => absurd h List.not_mem_nil⟩⟩⟩⟩⟩⟩⟩⟩⟩⟩⟩⟩⟩⟩⟩⟩
set_option maxRecDepth 100000 in
theorem lw_p80 : lw_okq (⟨"ThreeStrangersModel", "wrongCoach", "([JI)I"⟩, 45) := ⟨⟨by decide +kernel, by decide +kernel⟩, lw_t5 (List.mem_of_getElem? (i := 32) (by eq_refl)), lw_t7 (List.mem_of_getElem? (i := 72) (by eq_refl)), lw_t7 (List.mem_of_getElem? (i := 73) (by eq_refl))⟩
set_option maxRecDepth 100000 in
theorem lw_p81 : lw_okq (⟨"ThreeStrangersModel", "below", "(I)I"⟩, 45) := ⟨⟨by decide +kernel, by decide +kernel⟩, lw_t5 (List.mem_of_getElem? (i := 32) (by eq_refl)), lw_t7 (List.mem_of_getElem? (i := 100) (by eq_refl)), lw_t7 (List.mem_of_getElem? (i := 101) (by eq_refl))⟩
def lw_privs_6 : List (MethodName × Nat) := [(⟨"ThreeStrangersModel", "wrongCoach", "([JI)I"⟩, 45), (⟨"ThreeStrangersModel", "below", "(I)I"⟩, 45)]
theorem lw_r6 : ∀ q ∈ lw_privs_6, lw_okq q := List.forall_mem_cons.mpr ⟨lw_p80, List.forall_mem_cons.mpr ⟨lw_p81, fun _ h => absurd h List.not_mem_nil⟩⟩
def lw_privs : List (MethodName × Nat) := lw_privs_1 ++ (lw_privs_2 ++ (lw_privs_3 ++ (lw_privs_4 ++ (lw_privs_5 ++ (lw_privs_6)))))
def lw_tbl : List Cond := k2_sels lw_privs ++ tables_1
theorem lw_privs_ok : ∀ q ∈ lw_privs, lw_okq q := by
  show ∀ q ∈ lw_privs_1 ++ (lw_privs_2 ++ (lw_privs_3 ++ (lw_privs_4 ++ (lw_privs_5 ++ (lw_privs_6))))), lw_okq q
  exact List.forall_mem_append.mpr ⟨lw_r1, List.forall_mem_append.mpr ⟨lw_r2, List.forall_mem_append.mpr ⟨lw_r3, List.forall_mem_append.mpr ⟨lw_r4, List.forall_mem_append.mpr ⟨lw_r5, lw_r6⟩⟩⟩⟩⟩
def RX0 : String := "ThreeStrangers$Best"
def TX0 : u_T := fun k => match k with
  | _ => ("ThreeStrangers$Coachman", "a", "I", true)
def tyX0 : Nat → FieldType := fun k => match k with
  | _ => .int
theorem nmX0 : ∀ a, a < 1 → ∀ b, b < 1 → a ≠ b → (TX0 a).2.1 ≠ (TX0 b).2.1 := by decide +kernel
theorem tyX0_ok : ∀ k, k < 1 → parseFieldDescriptor (TX0 k).2.2.1 = some (tyX0 k) := by decide +kernel
abbrev cX0_init : ByteArray := prog_2_method_1_code
def yX0_init : MethodName := ⟨RX0, "<init>", "(I)V"⟩
abbrev cX0_kind : ByteArray := prog_2_method_2_code
def yX0_kind : MethodName := ⟨RX0, "kind", "()I"⟩
abbrev cX0_worth : ByteArray := prog_2_method_3_code
def yX0_worth : MethodName := ⟨RX0, "worth", "(LThreeStrangers$Ties;II)I"⟩
def RX1 : String := "ThreeStrangers$Choose"
def TX1 : u_T := fun k => match k with
  | _ => ("ThreeStrangers$Coachman", "a", "I", true)
def tyX1 : Nat → FieldType := fun k => match k with
  | _ => .int
theorem nmX1 : ∀ a, a < 1 → ∀ b, b < 1 → a ≠ b → (TX1 a).2.1 ≠ (TX1 b).2.1 := by decide +kernel
theorem tyX1_ok : ∀ k, k < 1 → parseFieldDescriptor (TX1 k).2.2.1 = some (tyX1 k) := by decide +kernel
abbrev cX1_init : ByteArray := prog_3_method_1_code
def yX1_init : MethodName := ⟨RX1, "<init>", "(I)V"⟩
abbrev cX1_kind : ByteArray := prog_3_method_2_code
def yX1_kind : MethodName := ⟨RX1, "kind", "()I"⟩
abbrev cX1_worth : ByteArray := prog_3_method_3_code
def yX1_worth : MethodName := ⟨RX1, "worth", "(LThreeStrangers$Ties;II)I"⟩
abbrev cX1_pick : ByteArray := prog_3_method_4_code
def yX1_pick : MethodName := ⟨RX1, "pick", "(LThreeStrangers$Ties;II)I"⟩
def RX2 : String := "ThreeStrangers$Coachman"
abbrev cX2_init : ByteArray := prog_4_method_1_code
def yX2_init : MethodName := ⟨RX2, "<init>", "(I)V"⟩
abbrev cX2_pick : ByteArray := prog_4_method_3_code
def yX2_pick : MethodName := ⟨RX2, "pick", "(LThreeStrangers$Ties;II)I"⟩
abbrev cX2_number : ByteArray := prog_4_method_4_code
def yX2_number : MethodName := ⟨RX2, "number", "()I"⟩
abbrev cX2_isOf : ByteArray := prog_4_method_5_code
def yX2_isOf : MethodName := ⟨RX2, "isOf", "(I)Z"⟩
def RX3 : String := "ThreeStrangers$Day"
def TX3 : u_T := fun k => match k with
  | 0 => ("ThreeStrangers$Day", "coaches", "[I", true)
  | 1 => ("ThreeStrangers$Day", "sentAt", "[I", true)
  | 2 => ("ThreeStrangers$Day", "least", "[I", true)
  | 3 => ("ThreeStrangers$Day", "price", "[I", true)
  | 4 => ("ThreeStrangers$Day", "sent", "I", false)
  | 5 => ("ThreeStrangers$Day", "yard", "I", false)
  | _ => ("ThreeStrangers$Day", "leastPrice", "I", false)
def tyX3 : Nat → FieldType := fun k => match k with
  | 0 => .array .int
  | 1 => .array .int
  | 2 => .array .int
  | 3 => .array .int
  | 4 => .int
  | 5 => .int
  | _ => .int
theorem nmX3 : ∀ a, a < 7 → ∀ b, b < 7 → a ≠ b → (TX3 a).2.1 ≠ (TX3 b).2.1 := by decide +kernel
theorem tyX3_ok : ∀ k, k < 7 → parseFieldDescriptor (TX3 k).2.2.1 = some (tyX3 k) := by decide +kernel
abbrev cX3_init : ByteArray := prog_5_method_1_code
def yX3_init : MethodName := ⟨RX3, "<init>", "()V"⟩
abbrev cX3_pass : ByteArray := prog_5_method_2_code
def yX3_pass : MethodName := ⟨RX3, "pass", "(LThreeStrangers$Town;LThreeStrangers$Ties;LThreeStrangers$Coachman;)V"⟩
abbrev cX3_sendAll : ByteArray := prog_5_method_3_code
def yX3_sendAll : MethodName := ⟨RX3, "sendAll", "(LThreeStrangers$Ties;LThreeStrangers$Coachman;II)V"⟩
abbrev cX3_coachAt : ByteArray := prog_5_method_4_code
def yX3_coachAt : MethodName := ⟨RX3, "coachAt", "(I)I"⟩
abbrev cX3_waitingOf : ByteArray := prog_5_method_5_code
def yX3_waitingOf : MethodName := ⟨RX3, "waitingOf", "(LThreeStrangers$Town;I)I"⟩
abbrev cX3_waitingOfAll : ByteArray := prog_5_method_6_code
def yX3_waitingOfAll : MethodName := ⟨RX3, "waitingOfAll", "(LThreeStrangers$Town;)I"⟩
abbrev cX3_findLeast : ByteArray := prog_5_method_7_code
def yX3_findLeast : MethodName := ⟨RX3, "findLeast", "(LThreeStrangers$Town;LThreeStrangers$Ties;)V"⟩
abbrev cX3_cheapest : ByteArray := prog_5_method_8_code
def yX3_cheapest : MethodName := ⟨RX3, "cheapest", "(LThreeStrangers$Town;LThreeStrangers$Ties;I)I"⟩
abbrev cX3_waitingTogether : ByteArray := prog_5_method_9_code
def yX3_waitingTogether : MethodName := ⟨RX3, "waitingTogether", "(LThreeStrangers$Town;I)I"⟩
abbrev cX3_leastWaiting : ByteArray := prog_5_method_10_code
def yX3_leastWaiting : MethodName := ⟨RX3, "leastWaiting", "()I"⟩
abbrev cX3_leastCoaches : ByteArray := prog_5_method_11_code
def yX3_leastCoaches : MethodName := ⟨RX3, "leastCoaches", "()I"⟩
def RX4 : String := "ThreeStrangers$First"
def TX4 : u_T := fun k => match k with
  | _ => ("ThreeStrangers$Coachman", "a", "I", true)
def tyX4 : Nat → FieldType := fun k => match k with
  | _ => .int
theorem nmX4 : ∀ a, a < 1 → ∀ b, b < 1 → a ≠ b → (TX4 a).2.1 ≠ (TX4 b).2.1 := by decide +kernel
theorem tyX4_ok : ∀ k, k < 1 → parseFieldDescriptor (TX4 k).2.2.1 = some (tyX4 k) := by decide +kernel
abbrev cX4_init : ByteArray := prog_6_method_1_code
def yX4_init : MethodName := ⟨RX4, "<init>", "(I)V"⟩
abbrev cX4_kind : ByteArray := prog_6_method_2_code
def yX4_kind : MethodName := ⟨RX4, "kind", "()I"⟩
abbrev cX4_pick : ByteArray := prog_6_method_3_code
def yX4_pick : MethodName := ⟨RX4, "pick", "(LThreeStrangers$Ties;II)I"⟩
def RX5 : String := "ThreeStrangers$Scribe"
def TX5 : u_T := fun k => match k with
  | 0 => ("ThreeStrangers$Scribe", "tape", "[I", true)
  | 1 => ("ThreeStrangers$Scribe", "size", "I", false)
  | 2 => ("ThreeStrangers$Scribe", "token", "I", false)
  | 3 => ("ThreeStrangers$Scribe", "start", "I", false)
  | 4 => ("ThreeStrangers$Scribe", "end", "I", false)
  | _ => ("ThreeStrangers$Scribe", "fault", "I", false)
def tyX5 : Nat → FieldType := fun k => match k with
  | 0 => .array .int
  | 1 => .int
  | 2 => .int
  | 3 => .int
  | 4 => .int
  | _ => .int
theorem nmX5 : ∀ a, a < 6 → ∀ b, b < 6 → a ≠ b → (TX5 a).2.1 ≠ (TX5 b).2.1 := by decide +kernel
theorem tyX5_ok : ∀ k, k < 6 → parseFieldDescriptor (TX5 k).2.2.1 = some (tyX5 k) := by decide +kernel
abbrev cX5_init : ByteArray := prog_7_method_1_code
def yX5_init : MethodName := ⟨RX5, "<init>", "()V"⟩
abbrev cX5_isFull : ByteArray := prog_7_method_2_code
def yX5_isFull : MethodName := ⟨RX5, "isFull", "()Z"⟩
abbrev cX5_append : ByteArray := prog_7_method_3_code
def yX5_append : MethodName := ⟨RX5, "append", "(I)V"⟩
abbrev cX5_clear : ByteArray := prog_7_method_4_code
def yX5_clear : MethodName := ⟨RX5, "clear", "()V"⟩
abbrev cX5_read : ByteArray := prog_7_method_5_code
def yX5_read : MethodName := ⟨RX5, "read", "(LThreeStrangers$Town;)I"⟩
abbrev cX5_fail : ByteArray := prog_7_method_6_code
def yX5_fail : MethodName := ⟨RX5, "fail", "()Z"⟩
abbrev cX5_advance : ByteArray := prog_7_method_7_code
def yX5_advance : MethodName := ⟨RX5, "advance", "()V"⟩
abbrev cX5_tokenOf : ByteArray := prog_7_method_8_code
def yX5_tokenOf : MethodName := ⟨RX5, "tokenOf", "(I)I"⟩
abbrev cX5_isWord : ByteArray := prog_7_method_9_code
def yX5_isWord : MethodName := ⟨RX5, "isWord", "(Ljava/lang/String;)Z"⟩
abbrev cX5_readNumber : ByteArray := prog_7_method_10_code
def yX5_readNumber : MethodName := ⟨RX5, "readNumber", "(III)I"⟩
abbrev cX5_readStatement : ByteArray := prog_7_method_11_code
def yX5_readStatement : MethodName := ⟨RX5, "readStatement", "(LThreeStrangers$Town;)Z"⟩
abbrev cX5_readPerson : ByteArray := prog_7_method_12_code
def yX5_readPerson : MethodName := ⟨RX5, "readPerson", "(LThreeStrangers$Town;)Z"⟩
abbrev cX5_readPair : ByteArray := prog_7_method_13_code
def yX5_readPair : MethodName := ⟨RX5, "readPair", "(LThreeStrangers$Town;Z)Z"⟩
abbrev cX5_readSeats : ByteArray := prog_7_method_14_code
def yX5_readSeats : MethodName := ⟨RX5, "readSeats", "(LThreeStrangers$Town;)Z"⟩
abbrev cX5_readMemory : ByteArray := prog_7_method_15_code
def yX5_readMemory : MethodName := ⟨RX5, "readMemory", "(LThreeStrangers$Town;)Z"⟩
abbrev cX5_readMet : ByteArray := prog_7_method_16_code
def yX5_readMet : MethodName := ⟨RX5, "readMet", "(LThreeStrangers$Town;)Z"⟩
def RX6 : String := "ThreeStrangers$Shelf"
def TX6 : u_T := fun k => match k with
  | 0 => ("ThreeStrangers$Shelf", "items", "[J", true)
  | 1 => ("ThreeStrangers$Shelf", "sort", "I", false)
  | 2 => ("ThreeStrangers$Shelf", "size", "I", false)
  | _ => ("ThreeStrangers$Shelf", "man", "LThreeStrangers$Coachman;", false)
def tyX6 : Nat → FieldType := fun k => match k with
  | 0 => .array .long
  | 1 => .int
  | 2 => .int
  | _ => .object "ThreeStrangers$Coachman"
theorem nmX6 : ∀ a, a < 4 → ∀ b, b < 4 → a ≠ b → (TX6 a).2.1 ≠ (TX6 b).2.1 := by decide +kernel
theorem tyX6_ok : ∀ k, k < 4 → parseFieldDescriptor (TX6 k).2.2.1 = some (tyX6 k) := by decide +kernel
abbrev cX6_init : ByteArray := prog_8_method_1_code
def yX6_init : MethodName := ⟨RX6, "<init>", "()V"⟩
abbrev cX6_isRow : ByteArray := prog_8_method_2_code
def yX6_isRow : MethodName := ⟨RX6, "isRow", "()Z"⟩
abbrev cX6_takeRow : ByteArray := prog_8_method_3_code
def yX6_takeRow : MethodName := ⟨RX6, "takeRow", "(II)V"⟩
abbrev cX6_takeMan : ByteArray := prog_8_method_4_code
def yX6_takeMan : MethodName := ⟨RX6, "takeMan", "(LThreeStrangers$Coachman;)V"⟩
abbrev cX6_put : ByteArray := prog_8_method_5_code
def yX6_put : MethodName := ⟨RX6, "put", "(IJ)V"⟩
abbrev cX6_cut : ByteArray := prog_8_method_6_code
def yX6_cut : MethodName := ⟨RX6, "cut", "(J)J"⟩
def RX7 : String := "ThreeStrangers$Spares"
def TX7 : u_T := fun k => match k with
  | _ => ("ThreeStrangers$Coachman", "a", "I", true)
def tyX7 : Nat → FieldType := fun k => match k with
  | _ => .int
theorem nmX7 : ∀ a, a < 1 → ∀ b, b < 1 → a ≠ b → (TX7 a).2.1 ≠ (TX7 b).2.1 := by decide +kernel
theorem tyX7_ok : ∀ k, k < 1 → parseFieldDescriptor (TX7 k).2.2.1 = some (tyX7 k) := by decide +kernel
abbrev cX7_init : ByteArray := prog_9_method_1_code
def yX7_init : MethodName := ⟨RX7, "<init>", "(I)V"⟩
abbrev cX7_kind : ByteArray := prog_9_method_2_code
def yX7_kind : MethodName := ⟨RX7, "kind", "()I"⟩
abbrev cX7_worth : ByteArray := prog_9_method_3_code
def yX7_worth : MethodName := ⟨RX7, "worth", "(LThreeStrangers$Ties;II)I"⟩
def RX8 : String := "ThreeStrangers$Ties"
def TX8 : u_T := fun k => match k with
  | 0 => ("ThreeStrangers$Ties", "strangers", "[I", true)
  | 1 => ("ThreeStrangers$Ties", "cost", "[I", true)
  | 2 => ("ThreeStrangers$Ties", "group", "[I", true)
  | 3 => ("ThreeStrangers$Ties", "pairs", "[I", true)
  | 4 => ("ThreeStrangers$Ties", "most", "[I", true)
  | 5 => ("ThreeStrangers$Ties", "known", "[I", true)
  | 6 => ("ThreeStrangers$Ties", "people", "I", false)
  | 7 => ("ThreeStrangers$Ties", "seats", "I", false)
  | 8 => ("ThreeStrangers$Ties", "count", "I", false)
  | 9 => ("ThreeStrangers$Ties", "best", "I", false)
  | _ => ("ThreeStrangers$Ties", "isCounted", "Z", false)
def tyX8 : Nat → FieldType := fun k => match k with
  | 0 => .array .int
  | 1 => .array .int
  | 2 => .array .int
  | 3 => .array .int
  | 4 => .array .int
  | 5 => .array .int
  | 6 => .int
  | 7 => .int
  | 8 => .int
  | 9 => .int
  | _ => .boolean
theorem nmX8 : ∀ a, a < 11 → ∀ b, b < 11 → a ≠ b → (TX8 a).2.1 ≠ (TX8 b).2.1 := by decide +kernel
theorem tyX8_ok : ∀ k, k < 11 → parseFieldDescriptor (TX8 k).2.2.1 = some (tyX8 k) := by decide +kernel
abbrev cX8_init : ByteArray := prog_10_method_1_code
def yX8_init : MethodName := ⟨RX8, "<init>", "()V"⟩
abbrev cX8_load : ByteArray := prog_10_method_2_code
def yX8_load : MethodName := ⟨RX8, "load", "(LThreeStrangers$Town;)V"⟩
abbrev cX8_addStranger : ByteArray := prog_10_method_3_code
def yX8_addStranger : MethodName := ⟨RX8, "addStranger", "()V"⟩
abbrev cX8_acquaint : ByteArray := prog_10_method_4_code
def yX8_acquaint : MethodName := ⟨RX8, "acquaint", "(I)V"⟩
abbrev cX8_everybody : ByteArray := prog_10_method_5_code
def yX8_everybody : MethodName := ⟨RX8, "everybody", "()I"⟩
abbrev cX8_list : ByteArray := prog_10_method_6_code
def yX8_list : MethodName := ⟨RX8, "list", "()V"⟩
abbrev cX8_gather : ByteArray := prog_10_method_7_code
def yX8_gather : MethodName := ⟨RX8, "gather", "(III)V"⟩
abbrev cX8_isOne : ByteArray := prog_10_method_8_code
def yX8_isOne : MethodName := ⟨RX8, "isOne", "(I)Z"⟩
abbrev cX8_countIn : ByteArray := prog_10_method_9_code
def yX8_countIn : MethodName := ⟨RX8, "countIn", "(I)I"⟩
abbrev cX8_countWith : ByteArray := prog_10_method_10_code
def yX8_countWith : MethodName := ⟨RX8, "countWith", "(I)I"⟩
abbrev cX8_firstIn : ByteArray := prog_10_method_11_code
def yX8_firstIn : MethodName := ⟨RX8, "firstIn", "(I)I"⟩
abbrev cX8_mostFrom : ByteArray := prog_10_method_12_code
def yX8_mostFrom : MethodName := ⟨RX8, "mostFrom", "(I)I"⟩
abbrev cX8_countMost : ByteArray := prog_10_method_13_code
def yX8_countMost : MethodName := ⟨RX8, "countMost", "()V"⟩
abbrev cX8_firstOfMost : ByteArray := prog_10_method_14_code
def yX8_firstOfMost : MethodName := ⟨RX8, "firstOfMost", "(I)I"⟩
abbrev cX8_mostRow : ByteArray := prog_10_method_15_code
def yX8_mostRow : MethodName := ⟨RX8, "mostRow", "(II)I"⟩
abbrev cX8_costTogether : ByteArray := prog_10_method_16_code
def yX8_costTogether : MethodName := ⟨RX8, "costTogether", "(I)I"⟩
abbrev cX8_strangersTogether : ByteArray := prog_10_method_17_code
def yX8_strangersTogether : MethodName := ⟨RX8, "strangersTogether", "(I)I"⟩
abbrev cX8_closest : ByteArray := prog_10_method_18_code
def yX8_closest : MethodName := ⟨RX8, "closest", "()I"⟩
abbrev cX8_pairBit : ByteArray := prog_10_method_19_code
def yX8_pairBit : MethodName := ⟨RX8, "pairBit", "(II)I"⟩
abbrev cX8_pairsIn : ByteArray := prog_10_method_20_code
def yX8_pairsIn : MethodName := ⟨RX8, "pairsIn", "(I)I"⟩
abbrev cX8_listPairs : ByteArray := prog_10_method_21_code
def yX8_listPairs : MethodName := ⟨RX8, "listPairs", "(I)I"⟩
abbrev cX8_longest : ByteArray := prog_10_method_22_code
def yX8_longest : MethodName := ⟨RX8, "longest", "()I"⟩
abbrev cX8_lengthen : ByteArray := prog_10_method_23_code
def yX8_lengthen : MethodName := ⟨RX8, "lengthen", "(III)V"⟩
abbrev cX8_soonest : ByteArray := prog_10_method_24_code
def yX8_soonest : MethodName := ⟨RX8, "soonest", "()I"⟩
abbrev cX8_finish : ByteArray := prog_10_method_25_code
def yX8_finish : MethodName := ⟨RX8, "finish", "(IJI)V"⟩
abbrev cX8_firstPossible : ByteArray := prog_10_method_26_code
def yX8_firstPossible : MethodName := ⟨RX8, "firstPossible", "(I)I"⟩
abbrev cX8_countWays : ByteArray := prog_10_method_27_code
def yX8_countWays : MethodName := ⟨RX8, "countWays", "(I)I"⟩
abbrev cX8_breaksAll : ByteArray := prog_10_method_28_code
def yX8_breaksAll : MethodName := ⟨RX8, "breaksAll", "(II)Z"⟩
abbrev cX8_tally : ByteArray := prog_10_method_29_code
def yX8_tally : MethodName := ⟨RX8, "tally", "(I)V"⟩
abbrev cX8_surest : ByteArray := prog_10_method_30_code
def yX8_surest : MethodName := ⟨RX8, "surest", "(I)I"⟩
def RX9 : String := "ThreeStrangers$Town"
def TX9 : u_T := fun k => match k with
  | 0 => ("ThreeStrangers$Town", "hour", "[I", true)
  | 1 => ("ThreeStrangers$Town", "cost", "[I", true)
  | 2 => ("ThreeStrangers$Town", "since", "[I", true)
  | 3 => ("ThreeStrangers$Town", "people", "I", false)
  | 4 => ("ThreeStrangers$Town", "seats", "I", false)
  | 5 => ("ThreeStrangers$Town", "memory", "I", false)
  | 6 => ("ThreeStrangers$Town", "seed", "I", false)
  | 7 => ("ThreeStrangers$Town", "coaches", "I", false)
  | 8 => ("ThreeStrangers$Town", "days", "I", false)
  | _ => ("ThreeStrangers$Town", "years", "I", false)
def tyX9 : Nat → FieldType := fun k => match k with
  | 0 => .array .int
  | 1 => .array .int
  | 2 => .array .int
  | 3 => .int
  | 4 => .int
  | 5 => .int
  | 6 => .int
  | 7 => .int
  | 8 => .int
  | _ => .int
theorem nmX9 : ∀ a, a < 10 → ∀ b, b < 10 → a ≠ b → (TX9 a).2.1 ≠ (TX9 b).2.1 := by decide +kernel
theorem tyX9_ok : ∀ k, k < 10 → parseFieldDescriptor (TX9 k).2.2.1 = some (tyX9 k) := by decide +kernel
abbrev cX9_init : ByteArray := prog_11_method_1_code
def yX9_init : MethodName := ⟨RX9, "<init>", "()V"⟩
abbrev cX9_has : ByteArray := prog_11_method_2_code
def yX9_has : MethodName := ⟨RX9, "has", "(I)Z"⟩
abbrev cX9_hasTwo : ByteArray := prog_11_method_3_code
def yX9_hasTwo : MethodName := ⟨RX9, "hasTwo", "(II)Z"⟩
abbrev cX9_hasAll : ByteArray := prog_11_method_4_code
def yX9_hasAll : MethodName := ⟨RX9, "hasAll", "(I)Z"⟩
abbrev cX9_everybody : ByteArray := prog_11_method_5_code
def yX9_everybody : MethodName := ⟨RX9, "everybody", "()I"⟩
abbrev cX9_since : ByteArray := prog_11_method_6_code
def yX9_since : MethodName := ⟨RX9, "since", "(II)I"⟩
abbrev cX9_tie : ByteArray := prog_11_method_7_code
def yX9_tie : MethodName := ⟨RX9, "tie", "(III)V"⟩
abbrev cX9_add : ByteArray := prog_11_method_8_code
def yX9_add : MethodName := ⟨RX9, "add", "(II)I"⟩
abbrev cX9_addByDraws : ByteArray := prog_11_method_9_code
def yX9_addByDraws : MethodName := ⟨RX9, "addByDraws", "()V"⟩
abbrev cX9_draw : ByteArray := prog_11_method_10_code
def yX9_draw : MethodName := ⟨RX9, "draw", "(I)I"⟩
abbrev cX9_strangersTo : ByteArray := prog_11_method_11_code
def yX9_strangersTo : MethodName := ⟨RX9, "strangersTo", "(I)I"⟩
abbrev cX9_countStrangers : ByteArray := prog_11_method_12_code
def yX9_countStrangers : MethodName := ⟨RX9, "countStrangers", "()I"⟩
abbrev cX9_acquaint : ByteArray := prog_11_method_13_code
def yX9_acquaint : MethodName := ⟨RX9, "acquaint", "(I)I"⟩
abbrev cX9_endDay : ByteArray := prog_11_method_14_code
def yX9_endDay : MethodName := ⟨RX9, "endDay", "(I)V"⟩
abbrev cX9_age : ByteArray := prog_11_method_15_code
def yX9_age : MethodName := ⟨RX9, "age", "()I"⟩
abbrev cX9_become : ByteArray := prog_11_method_16_code
def yX9_become : MethodName := ⟨RX9, "become", "(LThreeStrangers$Town;)V"⟩
def RX10 : String := "ThreeStrangers$Waits"
def TX10 : u_T := fun k => match k with
  | _ => ("ThreeStrangers$Coachman", "a", "I", true)
def tyX10 : Nat → FieldType := fun k => match k with
  | _ => .int
theorem nmX10 : ∀ a, a < 1 → ∀ b, b < 1 → a ≠ b → (TX10 a).2.1 ≠ (TX10 b).2.1 := by decide +kernel
theorem tyX10_ok : ∀ k, k < 1 → parseFieldDescriptor (TX10 k).2.2.1 = some (tyX10 k) := by decide +kernel
abbrev cX10_init : ByteArray := prog_12_method_1_code
def yX10_init : MethodName := ⟨RX10, "<init>", "(I)V"⟩
abbrev cX10_kind : ByteArray := prog_12_method_2_code
def yX10_kind : MethodName := ⟨RX10, "kind", "()I"⟩
abbrev cX10_pick : ByteArray := prog_12_method_3_code
def yX10_pick : MethodName := ⟨RX10, "pick", "(LThreeStrangers$Ties;II)I"⟩
def RX11 : String := "ThreeStrangers"
def TX11 : u_T := fun k => match k with
  | 0 => ("ThreeStrangers", "town", "LThreeStrangers$Town;", true)
  | 1 => ("ThreeStrangers", "kept", "LThreeStrangers$Town;", true)
  | 2 => ("ThreeStrangers", "draft", "LThreeStrangers$Town;", true)
  | 3 => ("ThreeStrangers", "ties", "LThreeStrangers$Ties;", true)
  | 4 => ("ThreeStrangers", "plan", "LThreeStrangers$Day;", true)
  | 5 => ("ThreeStrangers", "scribe", "LThreeStrangers$Scribe;", true)
  | 6 => ("ThreeStrangers", "shelves", "[LThreeStrangers$Shelf;", true)
  | 7 => ("ThreeStrangers", "refused", "[I", true)
  | _ => ("ThreeStrangers", "isKept", "Z", false)
def tyX11 : Nat → FieldType := fun k => match k with
  | 0 => .object "ThreeStrangers$Town"
  | 1 => .object "ThreeStrangers$Town"
  | 2 => .object "ThreeStrangers$Town"
  | 3 => .object "ThreeStrangers$Ties"
  | 4 => .object "ThreeStrangers$Day"
  | 5 => .object "ThreeStrangers$Scribe"
  | 6 => .array (.object "ThreeStrangers$Shelf")
  | 7 => .array .int
  | _ => .boolean
theorem nmX11 : ∀ a, a < 9 → ∀ b, b < 9 → a ≠ b → (TX11 a).2.1 ≠ (TX11 b).2.1 := by decide +kernel
theorem tyX11_ok : ∀ k, k < 9 → parseFieldDescriptor (TX11 k).2.2.1 = some (tyX11 k) := by decide +kernel
abbrev cX11_init : ByteArray := prog_1_method_1_code
def yX11_init : MethodName := ⟨RX11, "<init>", "()V"⟩
abbrev cX11_row : ByteArray := prog_1_method_2_code
def yX11_row : MethodName := ⟨RX11, "row", "(III)I"⟩
abbrev cX11_set : ByteArray := prog_1_method_3_code
def yX11_set : MethodName := ⟨RX11, "set", "(IIJ)I"⟩
abbrev cX11_copy : ByteArray := prog_1_method_4_code
def yX11_copy : MethodName := ⟨RX11, "copy", "(IIIII)I"⟩
abbrev cX11_element : ByteArray := prog_1_method_5_code
def yX11_element : MethodName := ⟨RX11, "element", "(II)J"⟩
abbrev cX11_holds : ByteArray := prog_1_method_6_code
def yX11_holds : MethodName := ⟨RX11, "holds", "(I)I"⟩
abbrev cX11_coachman : ByteArray := prog_1_method_7_code
def yX11_coachman : MethodName := ⟨RX11, "coachman", "(III)I"⟩
abbrev cX11_says : ByteArray := prog_1_method_8_code
def yX11_says : MethodName := ⟨RX11, "says", "(II)I"⟩
abbrev cX11_person : ByteArray := prog_1_method_9_code
def yX11_person : MethodName := ⟨RX11, "person", "(II)I"⟩
abbrev cX11_change : ByteArray := prog_1_method_10_code
def yX11_change : MethodName := ⟨RX11, "change", "(III)I"⟩
abbrev cX11_know : ByteArray := prog_1_method_11_code
def yX11_know : MethodName := ⟨RX11, "know", "(III)I"⟩
abbrev cX11_ask : ByteArray := prog_1_method_12_code
def yX11_ask : MethodName := ⟨RX11, "ask", "(II)I"⟩
abbrev cX11_feed : ByteArray := prog_1_method_13_code
def yX11_feed : MethodName := ⟨RX11, "feed", "(I)I"⟩
abbrev cX11_wipe : ByteArray := prog_1_method_14_code
def yX11_wipe : MethodName := ⟨RX11, "wipe", "()I"⟩
abbrev cX11_town : ByteArray := prog_1_method_15_code
def yX11_town : MethodName := ⟨RX11, "town", "()I"⟩
abbrev cX11_personOf : ByteArray := prog_1_method_16_code
def yX11_personOf : MethodName := ⟨RX11, "personOf", "(II)I"⟩
abbrev cX11_knownOf : ByteArray := prog_1_method_17_code
def yX11_knownOf : MethodName := ⟨RX11, "knownOf", "(II)I"⟩
abbrev cX11_isGroup : ByteArray := prog_1_method_18_code
def yX11_isGroup : MethodName := ⟨RX11, "isGroup", "(I)I"⟩
abbrev cX11_groups : ByteArray := prog_1_method_19_code
def yX11_groups : MethodName := ⟨RX11, "groups", "(I)I"⟩
abbrev cX11_firstOf : ByteArray := prog_1_method_20_code
def yX11_firstOf : MethodName := ⟨RX11, "firstOf", "(I)I"⟩
abbrev cX11_most : ByteArray := prog_1_method_21_code
def yX11_most : MethodName := ⟨RX11, "most", "(I)I"⟩
abbrev cX11_mostOf : ByteArray := prog_1_method_22_code
def yX11_mostOf : MethodName := ⟨RX11, "mostOf", "(II)I"⟩
abbrev cX11_sends : ByteArray := prog_1_method_23_code
def yX11_sends : MethodName := ⟨RX11, "sends", "(III)I"⟩
abbrev cX11_run : ByteArray := prog_1_method_24_code
def yX11_run : MethodName := ⟨RX11, "run", "(I)I"⟩
abbrev cX11_coach : ByteArray := prog_1_method_25_code
def yX11_coach : MethodName := ⟨RX11, "coach", "(II)I"⟩
abbrev cX11_left : ByteArray := prog_1_method_26_code
def yX11_left : MethodName := ⟨RX11, "left", "(I)I"⟩
abbrev cX11_waits : ByteArray := prog_1_method_27_code
def yX11_waits : MethodName := ⟨RX11, "waits", "(II)I"⟩
abbrev cX11_least : ByteArray := prog_1_method_28_code
def yX11_least : MethodName := ⟨RX11, "least", "(I)I"⟩
abbrev cX11_head : ByteArray := prog_1_method_29_code
def yX11_head : MethodName := ⟨RX11, "head", "()I"⟩
abbrev cX11_days : ByteArray := prog_1_method_30_code
def yX11_days : MethodName := ⟨RX11, "days", "(I)I"⟩
abbrev cX11_ever : ByteArray := prog_1_method_31_code
def yX11_ever : MethodName := ⟨RX11, "ever", "(I)I"⟩
abbrev cX11_hire : ByteArray := prog_1_method_32_code
def yX11_hire : MethodName := ⟨RX11, "hire", "()I"⟩
abbrev cX11_feast : ByteArray := prog_1_method_33_code
def yX11_feast : MethodName := ⟨RX11, "feast", "(I)I"⟩
abbrev cX11_closes : ByteArray := prog_1_method_34_code
def yX11_closes : MethodName := ⟨RX11, "closes", "(II)I"⟩
abbrev cX11_worst : ByteArray := prog_1_method_35_code
def yX11_worst : MethodName := ⟨RX11, "worst", "()I"⟩
abbrev cX11_fits : ByteArray := prog_1_method_36_code
def yX11_fits : MethodName := ⟨RX11, "fits", "(I)I"⟩
abbrev cX11_sure : ByteArray := prog_1_method_37_code
def yX11_sure : MethodName := ⟨RX11, "sure", "(I)I"⟩
abbrev cX11_judge : ByteArray := prog_1_method_38_code
def yX11_judge : MethodName := ⟨RX11, "judge", "(II)I"⟩
abbrev cX11_behind : ByteArray := prog_1_method_39_code
def yX11_behind : MethodName := ⟨RX11, "behind", "(III)I"⟩
abbrev cX11_rides : ByteArray := prog_1_method_40_code
def yX11_rides : MethodName := ⟨RX11, "rides", "(II)I"⟩
abbrev cX11_day : ByteArray := prog_1_method_41_code
def yX11_day : MethodName := ⟨RX11, "day", "(I)I"⟩
abbrev cX11_meet : ByteArray := prog_1_method_42_code
def yX11_meet : MethodName := ⟨RX11, "meet", "(I)I"⟩
abbrev cX11_year : ByteArray := prog_1_method_43_code
def yX11_year : MethodName := ⟨RX11, "year", "()I"⟩
abbrev cX11_come : ByteArray := prog_1_method_44_code
def yX11_come : MethodName := ⟨RX11, "come", "(I)I"⟩
abbrev cX11_seed : ByteArray := prog_1_method_45_code
def yX11_seed : MethodName := ⟨RX11, "seed", "(I)I"⟩
abbrev cX11_image : ByteArray := prog_1_method_46_code
def yX11_image : MethodName := ⟨RX11, "image", "()I"⟩
abbrev cX11_back : ByteArray := prog_1_method_47_code
def yX11_back : MethodName := ⟨RX11, "back", "()I"⟩
abbrev cX11_status : ByteArray := prog_1_method_48_code
def yX11_status : MethodName := ⟨RX11, "status", "(I)I"⟩
abbrev cX11_refuse : ByteArray := prog_1_method_49_code
def yX11_refuse : MethodName := ⟨RX11, "refuse", "(I)I"⟩
abbrev cX11_isShelf : ByteArray := prog_1_method_50_code
def yX11_isShelf : MethodName := ⟨RX11, "isShelf", "(I)Z"⟩
abbrev cX11_isHour : ByteArray := prog_1_method_51_code
def yX11_isHour : MethodName := ⟨RX11, "isHour", "(I)Z"⟩
abbrev cX11_isCost : ByteArray := prog_1_method_52_code
def yX11_isCost : MethodName := ⟨RX11, "isCost", "(I)Z"⟩
abbrev cX11_canBeSecret : ByteArray := prog_1_method_53_code
def yX11_canBeSecret : MethodName := ⟨RX11, "canBeSecret", "(I)Z"⟩
abbrev cX11_holdsRow : ByteArray := prog_1_method_54_code
def yX11_holdsRow : MethodName := ⟨RX11, "holdsRow", "(I)Z"⟩
abbrev cX11_whyNoRow : ByteArray := prog_1_method_55_code
def yX11_whyNoRow : MethodName := ⟨RX11, "whyNoRow", "(I)I"⟩
abbrev cX11_manIn : ByteArray := prog_1_method_56_code
def yX11_manIn : MethodName := ⟨RX11, "manIn", "(I)LThreeStrangers$Coachman;"⟩
abbrev cX11_whyNoMan : ByteArray := prog_1_method_57_code
def yX11_whyNoMan : MethodName := ⟨RX11, "whyNoMan", "(I)I"⟩
abbrev cX11_countHeld : ByteArray := prog_1_method_58_code
def yX11_countHeld : MethodName := ⟨RX11, "countHeld", "()I"⟩
abbrev cX11_newCoachman : ByteArray := prog_1_method_59_code
def yX11_newCoachman : MethodName := ⟨RX11, "newCoachman", "(II)LThreeStrangers$Coachman;"⟩
abbrev cX11_think : ByteArray := prog_1_method_60_code
def yX11_think : MethodName := ⟨RX11, "think", "(LThreeStrangers$Coachman;)V"⟩
abbrev cX11_whyNotTold : ByteArray := prog_1_method_61_code
def yX11_whyNotTold : MethodName := ⟨RX11, "whyNotTold", "(II)I"⟩
abbrev cX11_whyNotRidden : ByteArray := prog_1_method_62_code
def yX11_whyNotRidden : MethodName := ⟨RX11, "whyNotRidden", "(II)I"⟩
abbrev cX11_firstWrong : ByteArray := prog_1_method_63_code
def yX11_firstWrong : MethodName := ⟨RX11, "firstWrong", "(II)I"⟩
def RX12 : String := "ThreeStrangersModel"
def TX12 : u_T := fun k => match k with
  | 0 => ("ThreeStrangersModel", "shelf", "[I", true)
  | 1 => ("ThreeStrangersModel", "rowSort", "[I", true)
  | 2 => ("ThreeStrangersModel", "rowSize", "[I", true)
  | 3 => ("ThreeStrangersModel", "rows", "[[J", true)
  | 4 => ("ThreeStrangersModel", "moved", "[J", true)
  | 5 => ("ThreeStrangersModel", "manKind", "[I", true)
  | 6 => ("ThreeStrangersModel", "manBy", "[I", true)
  | 7 => ("ThreeStrangersModel", "tape", "[I", true)
  | 8 => ("ThreeStrangersModel", "tapeSize", "I", false)
  | 9 => ("ThreeStrangersModel", "refused", "[I", true)
  | 10 => ("ThreeStrangersModel", "people", "I", false)
  | 11 => ("ThreeStrangersModel", "hour", "[I", true)
  | 12 => ("ThreeStrangersModel", "cost", "[I", true)
  | 13 => ("ThreeStrangersModel", "known", "[[I", true)
  | 14 => ("ThreeStrangersModel", "seats", "I", false)
  | 15 => ("ThreeStrangersModel", "memory", "I", false)
  | 16 => ("ThreeStrangersModel", "coaches", "I", false)
  | 17 => ("ThreeStrangersModel", "days", "I", false)
  | 18 => ("ThreeStrangersModel", "years", "I", false)
  | 19 => ("ThreeStrangersModel", "seed", "I", false)
  | 20 => ("ThreeStrangersModel", "kept", "LThreeStrangersModel;", false)
  | 21 => ("ThreeStrangersModel", "tried", "LThreeStrangersModel;", false)
  | 22 => ("ThreeStrangersModel", "at", "I", false)
  | 23 => ("ThreeStrangersModel", "token", "I", false)
  | 24 => ("ThreeStrangersModel", "from", "I", false)
  | 25 => ("ThreeStrangersModel", "figures", "I", false)
  | 26 => ("ThreeStrangersModel", "fault", "I", false)
  | 27 => ("ThreeStrangersModel", "told", "[I", true)
  | 28 => ("ThreeStrangersModel", "statements", "I", false)
  | 29 => ("ThreeStrangersModel", "list", "[I", true)
  | 30 => ("ThreeStrangersModel", "listed", "I", false)
  | 31 => ("ThreeStrangersModel", "coming", "[I", true)
  | 32 => ("ThreeStrangersModel", "coach", "[I", true)
  | 33 => ("ThreeStrangersModel", "went", "I", false)
  | 34 => ("ThreeStrangersModel", "leftNow", "I", false)
  | 35 => ("ThreeStrangersModel", "waited", "[I", true)
  | 36 => ("ThreeStrangersModel", "leastKnown", "[I", true)
  | 37 => ("ThreeStrangersModel", "longest", "I", false)
  | 38 => ("ThreeStrangersModel", "soonest", "I", false)
  | 39 => ("ThreeStrangersModel", "pairP", "[I", true)
  | 40 => ("ThreeStrangersModel", "pairQ", "[I", true)
  | 41 => ("ThreeStrangersModel", "pairWays", "[I", true)
  | 42 => ("ThreeStrangersModel", "pairs", "I", false)
  | 43 => ("ThreeStrangersModel", "ways", "I", false)
  | _ => ("ThreeStrangersModel", "rodeNow", "I", false)
def tyX12 : Nat → FieldType := fun k => match k with
  | 0 => .array .int
  | 1 => .array .int
  | 2 => .array .int
  | 3 => .array (.array .long)
  | 4 => .array .long
  | 5 => .array .int
  | 6 => .array .int
  | 7 => .array .int
  | 8 => .int
  | 9 => .array .int
  | 10 => .int
  | 11 => .array .int
  | 12 => .array .int
  | 13 => .array (.array .int)
  | 14 => .int
  | 15 => .int
  | 16 => .int
  | 17 => .int
  | 18 => .int
  | 19 => .int
  | 20 => .object "ThreeStrangersModel"
  | 21 => .object "ThreeStrangersModel"
  | 22 => .int
  | 23 => .int
  | 24 => .int
  | 25 => .int
  | 26 => .int
  | 27 => .array .int
  | 28 => .int
  | 29 => .array .int
  | 30 => .int
  | 31 => .array .int
  | 32 => .array .int
  | 33 => .int
  | 34 => .int
  | 35 => .array .int
  | 36 => .array .int
  | 37 => .int
  | 38 => .int
  | 39 => .array .int
  | 40 => .array .int
  | 41 => .array .int
  | 42 => .int
  | 43 => .int
  | _ => .int
theorem nmX12 : ∀ a, a < 45 → ∀ b, b < 45 → a ≠ b → (TX12 a).2.1 ≠ (TX12 b).2.1 := by decide +kernel
theorem tyX12_ok : ∀ k, k < 45 → parseFieldDescriptor (TX12 k).2.2.1 = some (tyX12 k) := by decide +kernel
abbrev cX12_init : ByteArray := prog_14_method_1_code
def yX12_init : MethodName := ⟨RX12, "<init>", "()V"⟩
abbrev cX12_refuse : ByteArray := prog_14_method_2_code
def yX12_refuse : MethodName := ⟨RX12, "refuse", "(I)I"⟩
abbrev cX12_in : ByteArray := prog_14_method_3_code
def yX12_in : MethodName := ⟨RX12, "in", "(JJJ)Z"⟩
abbrev cX12_isOne : ByteArray := prog_14_method_4_code
def yX12_isOne : MethodName := ⟨RX12, "isOne", "(I)Z"⟩
abbrev cX12_all : ByteArray := prog_14_method_5_code
def yX12_all : MethodName := ⟨RX12, "all", "()I"⟩
abbrev cX12_isSet : ByteArray := prog_14_method_6_code
def yX12_isSet : MethodName := ⟨RX12, "isSet", "(I)Z"⟩
abbrev cX12_has : ByteArray := prog_14_method_7_code
def yX12_has : MethodName := ⟨RX12, "has", "(II)Z"⟩
abbrev cX12_bits : ByteArray := prog_14_method_8_code
def yX12_bits : MethodName := ⟨RX12, "bits", "(I)I"⟩
abbrev cX12_row : ByteArray := prog_14_method_9_code
def yX12_row : MethodName := ⟨RX12, "row", "(III)I"⟩
abbrev cX12_fit : ByteArray := prog_14_method_10_code
def yX12_fit : MethodName := ⟨RX12, "fit", "(IJ)J"⟩
abbrev cX12_noRow : ByteArray := prog_14_method_11_code
def yX12_noRow : MethodName := ⟨RX12, "noRow", "(I)I"⟩
abbrev cX12_noMan : ByteArray := prog_14_method_12_code
def yX12_noMan : MethodName := ⟨RX12, "noMan", "(I)I"⟩
abbrev cX12_set : ByteArray := prog_14_method_13_code
def yX12_set : MethodName := ⟨RX12, "set", "(IIJ)I"⟩
abbrev cX12_copy : ByteArray := prog_14_method_14_code
def yX12_copy : MethodName := ⟨RX12, "copy", "(IIIII)I"⟩
abbrev cX12_element : ByteArray := prog_14_method_15_code
def yX12_element : MethodName := ⟨RX12, "element", "(II)J"⟩
abbrev cX12_holds : ByteArray := prog_14_method_16_code
def yX12_holds : MethodName := ⟨RX12, "holds", "(I)I"⟩
abbrev cX12_coachman : ByteArray := prog_14_method_17_code
def yX12_coachman : MethodName := ⟨RX12, "coachman", "(III)I"⟩
abbrev cX12_isUnder : ByteArray := prog_14_method_18_code
def yX12_isUnder : MethodName := ⟨RX12, "isUnder", "(II)Z"⟩
abbrev cX12_says : ByteArray := prog_14_method_19_code
def yX12_says : MethodName := ⟨RX12, "says", "(II)I"⟩
abbrev cX12_addOne : ByteArray := prog_14_method_20_code
def yX12_addOne : MethodName := ⟨RX12, "addOne", "(II)V"⟩
abbrev cX12_person : ByteArray := prog_14_method_21_code
def yX12_person : MethodName := ⟨RX12, "person", "(II)I"⟩
abbrev cX12_change : ByteArray := prog_14_method_22_code
def yX12_change : MethodName := ⟨RX12, "change", "(III)I"⟩
abbrev cX12_knows : ByteArray := prog_14_method_23_code
def yX12_knows : MethodName := ⟨RX12, "knows", "(III)V"⟩
abbrev cX12_areTwo : ByteArray := prog_14_method_24_code
def yX12_areTwo : MethodName := ⟨RX12, "areTwo", "(II)Z"⟩
abbrev cX12_know : ByteArray := prog_14_method_25_code
def yX12_know : MethodName := ⟨RX12, "know", "(III)I"⟩
abbrev cX12_ask : ByteArray := prog_14_method_26_code
def yX12_ask : MethodName := ⟨RX12, "ask", "(II)I"⟩
abbrev cX12_meets : ByteArray := prog_14_method_27_code
def yX12_meets : MethodName := ⟨RX12, "meets", "(I)I"⟩
abbrev cX12_feed : ByteArray := prog_14_method_28_code
def yX12_feed : MethodName := ⟨RX12, "feed", "(I)I"⟩
abbrev cX12_wipe : ByteArray := prog_14_method_29_code
def yX12_wipe : MethodName := ⟨RX12, "wipe", "()I"⟩
abbrev cX12_isLetter : ByteArray := prog_14_method_30_code
def yX12_isLetter : MethodName := ⟨RX12, "isLetter", "(I)Z"⟩
abbrev cX12_isDigit : ByteArray := prog_14_method_31_code
def yX12_isDigit : MethodName := ⟨RX12, "isDigit", "(I)Z"⟩
abbrev cX12_look : ByteArray := prog_14_method_32_code
def yX12_look : MethodName := ⟨RX12, "look", "()V"⟩
abbrev cX12_wrong : ByteArray := prog_14_method_33_code
def yX12_wrong : MethodName := ⟨RX12, "wrong", "()Z"⟩
abbrev cX12_isWord : ByteArray := prog_14_method_34_code
def yX12_isWord : MethodName := ⟨RX12, "isWord", "(Ljava/lang/String;)Z"⟩
abbrev cX12_number : ByteArray := prog_14_method_35_code
def yX12_number : MethodName := ⟨RX12, "number", "(III)Z"⟩
abbrev cX12_tells : ByteArray := prog_14_method_36_code
def yX12_tells : MethodName := ⟨RX12, "tells", "(II)Z"⟩
abbrev cX12_twoTold : ByteArray := prog_14_method_37_code
def yX12_twoTold : MethodName := ⟨RX12, "twoTold", "()Z"⟩
abbrev cX12_knowTold : ByteArray := prog_14_method_38_code
def yX12_knowTold : MethodName := ⟨RX12, "knowTold", "()Z"⟩
abbrev cX12_metTold : ByteArray := prog_14_method_39_code
def yX12_metTold : MethodName := ⟨RX12, "metTold", "()Z"⟩
abbrev cX12_statement : ByteArray := prog_14_method_40_code
def yX12_statement : MethodName := ⟨RX12, "statement", "()Z"⟩
abbrev cX12_readAll : ByteArray := prog_14_method_41_code
def yX12_readAll : MethodName := ⟨RX12, "readAll", "()Z"⟩
abbrev cX12_town : ByteArray := prog_14_method_42_code
def yX12_town : MethodName := ⟨RX12, "town", "()I"⟩
abbrev cX12_strangersOf : ByteArray := prog_14_method_43_code
def yX12_strangersOf : MethodName := ⟨RX12, "strangersOf", "(I)I"⟩
abbrev cX12_personOf : ByteArray := prog_14_method_44_code
def yX12_personOf : MethodName := ⟨RX12, "personOf", "(II)I"⟩
abbrev cX12_knownOf : ByteArray := prog_14_method_45_code
def yX12_knownOf : MethodName := ⟨RX12, "knownOf", "(II)I"⟩
abbrev cX12_isGroupNow : ByteArray := prog_14_method_46_code
def yX12_isGroupNow : MethodName := ⟨RX12, "isGroupNow", "(I)Z"⟩
abbrev cX12_listFrom : ByteArray := prog_14_method_47_code
def yX12_listFrom : MethodName := ⟨RX12, "listFrom", "(III)V"⟩
abbrev cX12_listAll : ByteArray := prog_14_method_48_code
def yX12_listAll : MethodName := ⟨RX12, "listAll", "()V"⟩
abbrev cX12_isGroup : ByteArray := prog_14_method_49_code
def yX12_isGroup : MethodName := ⟨RX12, "isGroup", "(I)I"⟩
abbrev cX12_groupsOf : ByteArray := prog_14_method_50_code
def yX12_groupsOf : MethodName := ⟨RX12, "groupsOf", "(I)I"⟩
abbrev cX12_groups : ByteArray := prog_14_method_51_code
def yX12_groups : MethodName := ⟨RX12, "groups", "(I)I"⟩
abbrev cX12_firstIn : ByteArray := prog_14_method_52_code
def yX12_firstIn : MethodName := ⟨RX12, "firstIn", "(I)I"⟩
abbrev cX12_firstOf : ByteArray := prog_14_method_53_code
def yX12_firstOf : MethodName := ⟨RX12, "firstOf", "(I)I"⟩
abbrev cX12_mostIn : ByteArray := prog_14_method_54_code
def yX12_mostIn : MethodName := ⟨RX12, "mostIn", "(I)I"⟩
abbrev cX12_most : ByteArray := prog_14_method_55_code
def yX12_most : MethodName := ⟨RX12, "most", "(I)I"⟩
abbrev cX12_bestIn : ByteArray := prog_14_method_56_code
def yX12_bestIn : MethodName := ⟨RX12, "bestIn", "(I)I"⟩
abbrev cX12_mostOf : ByteArray := prog_14_method_57_code
def yX12_mostOf : MethodName := ⟨RX12, "mostOf", "(II)I"⟩
abbrev cX12_costOf : ByteArray := prog_14_method_58_code
def yX12_costOf : MethodName := ⟨RX12, "costOf", "(I)I"⟩
abbrev cX12_meetsOf : ByteArray := prog_14_method_59_code
def yX12_meetsOf : MethodName := ⟨RX12, "meetsOf", "(I)I"⟩
abbrev cX12_sentBy : ByteArray := prog_14_method_60_code
def yX12_sentBy : MethodName := ⟨RX12, "sentBy", "(IIII)I"⟩
abbrev cX12_sends : ByteArray := prog_14_method_61_code
def yX12_sends : MethodName := ⟨RX12, "sends", "(III)I"⟩
abbrev cX12_findComing : ByteArray := prog_14_method_62_code
def yX12_findComing : MethodName := ⟨RX12, "findComing", "()V"⟩
abbrev cX12_goesBy : ByteArray := prog_14_method_63_code
def yX12_goesBy : MethodName := ⟨RX12, "goesBy", "(II)V"⟩
abbrev cX12_waitedAll : ByteArray := prog_14_method_64_code
def yX12_waitedAll : MethodName := ⟨RX12, "waitedAll", "()I"⟩
abbrev cX12_run : ByteArray := prog_14_method_65_code
def yX12_run : MethodName := ⟨RX12, "run", "(I)I"⟩
abbrev cX12_coach : ByteArray := prog_14_method_66_code
def yX12_coach : MethodName := ⟨RX12, "coach", "(II)I"⟩
abbrev cX12_left : ByteArray := prog_14_method_67_code
def yX12_left : MethodName := ⟨RX12, "left", "(I)I"⟩
abbrev cX12_waits : ByteArray := prog_14_method_68_code
def yX12_waits : MethodName := ⟨RX12, "waits", "(II)I"⟩
abbrev cX12_leastFrom : ByteArray := prog_14_method_69_code
def yX12_leastFrom : MethodName := ⟨RX12, "leastFrom", "(II)I"⟩
abbrev cX12_least : ByteArray := prog_14_method_70_code
def yX12_least : MethodName := ⟨RX12, "least", "(I)I"⟩
abbrev cX12_head : ByteArray := prog_14_method_71_code
def yX12_head : MethodName := ⟨RX12, "head", "()I"⟩
abbrev cX12_dayOf : ByteArray := prog_14_method_72_code
def yX12_dayOf : MethodName := ⟨RX12, "dayOf", "(II)I"⟩
abbrev cX12_days : ByteArray := prog_14_method_73_code
def yX12_days : MethodName := ⟨RX12, "days", "(I)I"⟩
abbrev cX12_pairsOf : ByteArray := prog_14_method_74_code
def yX12_pairsOf : MethodName := ⟨RX12, "pairsOf", "(I)I"⟩
abbrev cX12_seekEver : ByteArray := prog_14_method_75_code
def yX12_seekEver : MethodName := ⟨RX12, "seekEver", "(I[II)V"⟩
abbrev cX12_isApart : ByteArray := prog_14_method_76_code
def yX12_isApart : MethodName := ⟨RX12, "isApart", "([III)Z"⟩
abbrev cX12_findEver : ByteArray := prog_14_method_77_code
def yX12_findEver : MethodName := ⟨RX12, "findEver", "()V"⟩
abbrev cX12_ever : ByteArray := prog_14_method_78_code
def yX12_ever : MethodName := ⟨RX12, "ever", "(I)I"⟩
abbrev cX12_hire : ByteArray := prog_14_method_79_code
def yX12_hire : MethodName := ⟨RX12, "hire", "()I"⟩
abbrev cX12_feast : ByteArray := prog_14_method_80_code
def yX12_feast : MethodName := ⟨RX12, "feast", "(I)I"⟩
abbrev cX12_closesOf : ByteArray := prog_14_method_81_code
def yX12_closesOf : MethodName := ⟨RX12, "closesOf", "(II)I"⟩
abbrev cX12_closes : ByteArray := prog_14_method_82_code
def yX12_closes : MethodName := ⟨RX12, "closes", "(II)I"⟩
abbrev cX12_worst : ByteArray := prog_14_method_83_code
def yX12_worst : MethodName := ⟨RX12, "worst", "()I"⟩
abbrev cX12_findWays : ByteArray := prog_14_method_84_code
def yX12_findWays : MethodName := ⟨RX12, "findWays", "(I)V"⟩
abbrev cX12_fits : ByteArray := prog_14_method_85_code
def yX12_fits : MethodName := ⟨RX12, "fits", "(I)I"⟩
abbrev cX12_sure : ByteArray := prog_14_method_86_code
def yX12_sure : MethodName := ⟨RX12, "sure", "(I)I"⟩
abbrev cX12_noDay : ByteArray := prog_14_method_87_code
def yX12_noDay : MethodName := ⟨RX12, "noDay", "(II)I"⟩
abbrev cX12_wrongCoach : ByteArray := prog_14_method_88_code
def yX12_wrongCoach : MethodName := ⟨RX12, "wrongCoach", "([JI)I"⟩
abbrev cX12_judge : ByteArray := prog_14_method_89_code
def yX12_judge : MethodName := ⟨RX12, "judge", "(II)I"⟩
abbrev cX12_behind : ByteArray := prog_14_method_90_code
def yX12_behind : MethodName := ⟨RX12, "behind", "(III)I"⟩
abbrev cX12_rides : ByteArray := prog_14_method_91_code
def yX12_rides : MethodName := ⟨RX12, "rides", "(II)I"⟩
abbrev cX12_day : ByteArray := prog_14_method_92_code
def yX12_day : MethodName := ⟨RX12, "day", "(I)I"⟩
abbrev cX12_meet : ByteArray := prog_14_method_93_code
def yX12_meet : MethodName := ⟨RX12, "meet", "(I)I"⟩
abbrev cX12_year : ByteArray := prog_14_method_94_code
def yX12_year : MethodName := ⟨RX12, "year", "()I"⟩
abbrev cX12_below : ByteArray := prog_14_method_95_code
def yX12_below : MethodName := ⟨RX12, "below", "(I)I"⟩
abbrev cX12_come : ByteArray := prog_14_method_96_code
def yX12_come : MethodName := ⟨RX12, "come", "(I)I"⟩
abbrev cX12_seed : ByteArray := prog_14_method_97_code
def yX12_seed : MethodName := ⟨RX12, "seed", "(I)I"⟩
abbrev cX12_fresh : ByteArray := prog_14_method_98_code
def yX12_fresh : MethodName := ⟨RX12, "fresh", "()LThreeStrangersModel;"⟩
abbrev cX12_over : ByteArray := prog_14_method_99_code
def yX12_over : MethodName := ⟨RX12, "over", "([I[I)V"⟩
abbrev cX12_takeFrom : ByteArray := prog_14_method_100_code
def yX12_takeFrom : MethodName := ⟨RX12, "takeFrom", "(LThreeStrangersModel;)V"⟩
abbrev cX12_image : ByteArray := prog_14_method_101_code
def yX12_image : MethodName := ⟨RX12, "image", "()I"⟩
abbrev cX12_back : ByteArray := prog_14_method_102_code
def yX12_back : MethodName := ⟨RX12, "back", "()I"⟩
abbrev cX12_status : ByteArray := prog_14_method_103_code
def yX12_status : MethodName := ⟨RX12, "status", "(I)I"⟩
def RJ6 : String := "java/lang/Integer"
abbrev cJ6_bitCount_0f7a4 : ByteArray := prog_15_method_49_code
def yJ6_bitCount_0f7a4 : MethodName := ⟨RJ6, "bitCount", "(I)I"⟩
def RJ9 : String := "java/lang/Math"
abbrev cJ9_max_7cf53 : ByteArray := prog_16_method_65_code
def yJ9_max_7cf53 : MethodName := ⟨RJ9, "max", "(II)I"⟩
abbrev cJ9_min_7cf53 : ByteArray := prog_16_method_69_code
def yJ9_min_7cf53 : MethodName := ⟨RJ9, "min", "(II)I"⟩
def RJ0 : String := "java/lang/String"
abbrev cJ0_length_8abf5 : ByteArray := prog_17_method_54_code
def yJ0_length_8abf5 : MethodName := ⟨RJ0, "length", "()I"⟩
abbrev cJ0_charAt_5068e : ByteArray := prog_17_method_56_code
def yJ0_charAt_5068e : MethodName := ⟨RJ0, "charAt", "(I)C"⟩
abbrev cJ0_coder_7d493 : ByteArray := prog_17_method_152_code
def yJ0_coder_7d493 : MethodName := ⟨RJ0, "coder", "()B"⟩
abbrev cJ0_isLatin1_aae02 : ByteArray := prog_17_method_154_code
def yJ0_isLatin1_aae02 : MethodName := ⟨RJ0, "isLatin1", "()Z"⟩
abbrev cJ0_checkIndex_df160 : ByteArray := prog_17_method_155_code
def yJ0_checkIndex_df160 : MethodName := ⟨RJ0, "checkIndex", "(II)V"⟩
def RJ1 : String := "java/lang/StringLatin1"
abbrev cJ1_charAt_3b067 : ByteArray := prog_18_method_2_code
def yJ1_charAt_3b067 : MethodName := ⟨RJ1, "charAt", "([BI)C"⟩
def RJ3 : String := "jdk/internal/util/Preconditions"
abbrev cJ3_checkIndex_8e157 : ByteArray := prog_21_method_11_code
def yJ3_checkIndex_8e157 : MethodName := ⟨RJ3, "checkIndex", "(IILjava/util/function/BiFunction;)I"⟩
def RL : String := "ThreeStrangersLaw"
abbrev cL_law : ByteArray := code
abbrev vwCl : List vw_C := [(RX0, TX0, 1), (RX1, TX1, 1), (RX3, TX3, 7), (RX4, TX4, 1), (RX5, TX5, 6), (RX6, TX6, 4), (RX7, TX7, 1), (RX8, TX8, 11), (RX9, TX9, 10), (RX10, TX10, 1), (RX11, TX11, 9), (RX12, TX12, 45)]
/-! THE LOGIC: a method's frame over a typed memory. Cells are named by numbers (address less the size of the heap at the law's start). -/
abbrev jdM : Type := MethodName × ByteArray × Nat × Option FieldType
/-- what each cell is (kind, length); the references that it holds; how many cells there are -/
abbrev jdL : Type := (Nat → Option (Nat × Nat)) × (Nat → Nat → Option Nat) × Nat
abbrev jdI : Type := Nat → Nat → Int32
abbrev jdJ : Type := Nat → Nat → Int64
abbrev jdG : Type := Launch × va_G × Heap × (Nat → ClassId) × (State → Prop)
abbrev jdQ : Type := Option Value → jdL → jdI → jdJ → Prop
abbrev jdF : Type := List Frame → Array Value → State → Nat → Nat → State → Prop
def gb (G : jdG) : Nat := G.2.2.1.size
/-- the kinds of a class's fields: true where it is a reference -/
def jdk : Nat → List Bool
  | 2 => [true, true, true, true, false, false, false]
  | 4 => [true, false, false, false, false, false]
  | 5 => [true, false, false, true]
  | 7 => [true, true, true, true, true, true, false, false, false, false, false]
  | 8 => [true, true, true, false, false, false, false, false, false, false]
  | 10 => [true, true, true, true, true, true, true, true, false]
  | 11 => [true, true, true, true, true, true, true, true, false, true, false, true, true, true, false, false, false, false, false, false, true, true, false, false, false, false, false, true, false, true, false, true, true, false, false, true, true, false, false, true, true, true, false, false, false]
  | _ => [false]
def jdf (b : Nat) (P : Nat → Option Nat) (I : Nat → Int32) : List Bool → Nat → List Value
  | [], _ => []
  | r :: ks, j => (if r = true then va_rf ((P j).map (fun x => b + x)) else .int (I j)) :: jdf b P I ks (j + 1)
theorem jdf_get (b : Nat) (P : Nat → Option Nat) (I : Nat → Int32) : ∀ (ks : List Bool) (j k : Nat), (jdf b P I ks j)[k]? = (ks[k]?).map (fun r => if r = true then va_rf ((P (j + k)).map (fun x => b + x)) else .int (I (j + k)))
  | [], j, k => by simp [jdf]
  | r :: ks, j, 0 => by simp [jdf]
  | r :: ks, j, k + 1 => by
    have h := jdf_get b P I ks (j + 1) k
    simp only [jdf, List.getElem?_cons_succ, h]
    rw [show j + 1 + k = j + (k + 1) by omega]
theorem jdf_len (b : Nat) (P : Nat → Option Nat) (I : Nat → Int32) : ∀ (ks : List Bool) (j : Nat), (jdf b P I ks j).length = ks.length
  | [], j => rfl
  | r :: ks, j => by simp [jdf, jdf_len b P I ks (j + 1)]
theorem jdf_setI (b : Nat) (P : Nat → Option Nat) (I : Nat → Int32) (ks : List Bool) (j k : Nat) (v : Int32) (h : ks[k]? = some false) : (jdf b P I ks j).set k (.int v) = jdf b P (upd I (j + k) v) ks j := by
  apply List.ext_getElem?
  intro i
  rw [List.getElem?_set, jdf_get, jdf_get, jdf_len]
  by_cases hik : k = i
  · subst hik
    have hl : k < ks.length := (List.getElem?_eq_some_iff.mp h).1
    rw [if_pos rfl, if_pos hl, h]
    simp [upd]
  · have hne : ¬ j + i = j + k := by omega
    rw [if_neg hik]
    cases hk : ks[i]? with
    | none => rfl
    | some r =>
      cases r
      · simp only [Option.map_some, upd, if_neg hne]
      · rfl
theorem jdf_setP (b : Nat) (P : Nat → Option Nat) (I : Nat → Int32) (ks : List Bool) (j k : Nat) (v : Option Nat) (h : ks[k]? = some true) : (jdf b P I ks j).set k (va_rf (v.map (fun x => b + x))) = jdf b (va_up P (j + k) v) I ks j := by
  apply List.ext_getElem?
  intro i
  rw [List.getElem?_set, jdf_get, jdf_get, jdf_len]
  by_cases hik : k = i
  · subst hik
    have hl : k < ks.length := (List.getElem?_eq_some_iff.mp h).1
    rw [if_pos rfl, if_pos hl, h]
    simp [va_up]
  · have hne : ¬ j + i = j + k := by omega
    rw [if_neg hik]
    cases hk : ks[i]? with
    | none => rfl
    | some r =>
      cases r
      · rfl
      · simp only [Option.map_some, va_up, if_neg hne]
/-- a cell's content -/
def jdc (G : jdG) (Z : jdL) (I : jdI) (J : jdJ) (id : Nat) (t : Nat × Nat) : va_E :=
  if t.1 = 0 then .inl (G.2.2.2.1 0, t.2, .inl (I id))
  else if t.1 = 1 then .inl (G.2.2.2.1 1, t.2, .inr (.inl (J id)))
  else if t.1 < 10 then .inl (G.2.2.2.1 t.1, t.2, .inr (.inr (.inr (.inr (fun i => (Z.2.1 id i).map (fun x => gb G + x))))))
  else .inr (t.1 - 10, jdf (gb G) (Z.2.1 id) (I id) (jdk (t.1 - 10)) 0)
/-- the heap holds the memory -/
def jdR (G : jdG) (Z : jdL) (I : jdI) (J : jdJ) (H : Heap) : Prop :=
  H.size = gb G + Z.2.2 ∧ (∀ q : Nat, q < gb G → H[q]? = G.2.2.1[q]?) ∧ ∀ (id : Nat) (t : Nat × Nat), Z.1 id = some t → va_at G.2.1 vwCl (gb G + id, jdc G Z I J id t) H
def jdT (G : jdG) : List (ClassId × FieldType) := [(G.2.2.2.1 0, .int), (G.2.2.2.1 1, .long), (G.2.2.2.1 2, .array .int), (G.2.2.2.1 3, .array .long), (G.2.2.2.1 4, .object RX6)]
def jdK (G : jdG) (U : State) : Prop := va_K G.2.1 vwCl (jdT G) U ∧ G.2.2.2.2 U ∧ ∀ s V : State, s.WarmedH V.vm → G.2.2.2.2 s → G.2.2.2.2 V
def jdW : List Cond := lw_tbl.filter goodWord
def jdws (M : jdM) : List Cond := Cond.code M.1 M.2.1 M.2.2.1 M.2.2.2 :: jdW
def jdC (G : jdG) (M : jdM) (n : Nat) (p : Program) (R : Room) (s : State) (m : MethodId) (args : Array Value) (meth : Method) (c : Code) : Prop :=
  p.tables.exec = Jvm.exec ∧ c.code = M.2.1 ∧ meth.sig.returnType = M.2.2.2 ∧ c.maxLocals = M.2.2.1 ∧ s.vm.findClass M.1.cls = some m.cls ∧ (∀ w ∈ jdW, w.before args s = true) ∧ meth.locks = false ∧ meth.name = M.1.name ∧ jdK G s ∧ n ≤ R.frames ∧ 40 * n ≤ R.locals
def Jd (G : jdG) (M : jdM) (F : jdF) (n rc rs pc : Nat) (lv : List (Nat × Value)) (st : List Value) (Z : jdL) (I : jdI) (J : jdJ) : Prop :=
  ∀ (p : Program) (e : Env) (R : Room) (s : State) (m : MethodId) (args : Array Value) (below : List Frame) (meth : Method) (c : Code) (H : Heap) (locs : List Loc) (cells slots : Nat) (ls : Array Slot),
    jdC G M n p R s m args meth c → jdR G Z I J H → (∀ q ∈ locs, gb G ≤ q.base) → lv_has ls M.2.2.1 lv → cells + rc ≤ R.cells → slots + rs ≤ R.slots →
    W p G.1 e R s m args below meth c H locs cells slots (F below args s R.cells R.slots) (F0 m pc ls st)
def jdE (G : jdG) (Q : jdQ) : Array Value → State → Outcome → State → Prop := fun _ _ o t => ∃ (r : Option Value) (Z : jdL) (I : jdI) (J : jdJ), o = .returned r ∧ Q r Z I J ∧ jdR G Z I J t.heap
def jdFm (G : jdG) (Q : jdQ) : jdF := fun below args s mc ms => MQ below (jdE G Q) args s mc ms (fun q => gb G ≤ q)
def jdrm (n mc ms : Nat) : Room := { frames := n, cells := mc, slots := ms, locals := 40 * n }
def jdPc (G : jdG) (av : List Value) (Z : jdL) (I : jdI) (J : jdJ) : Array Value → State → Prop := va_Pc av (fun U => jdR G Z I J U.heap ∧ jdK G U)
/-- the method M, called with av over the memory Z I J with n frames, mc cells, ms slots left, returns with Q -/
def Cl (G : jdG) (M : jdM) (n mc ms : Nat) (av : List Value) (Z : jdL) (I : jdI) (J : jdJ) (Q : jdQ) : Prop :=
  Met G.1 M.1 (jdws M) (jdrm n mc ms) (jdPc G av Z I J) (jdE G Q) mc ms (fun q => gb G ≤ q)
def uI (I : jdI) (id k : Nat) (v : Int32) : jdI := fun a => if a = id then upd (I id) k v else I a
def uJ (J : jdJ) (id k : Nat) (v : Int64) : jdJ := fun a => if a = id then vp_updL (J id) k v else J a
def uP (Z : jdL) (id k : Nat) (v : Option Nat) : jdL := (Z.1, (fun a => if a = id then va_up (Z.2.1 id) k v else Z.2.1 a), Z.2.2)
theorem uI_s (I : jdI) (id k : Nat) (v : Int32) : uI I id k v id = upd (I id) k v := if_pos rfl
theorem uI_n (I : jdI) {id a : Nat} (k : Nat) (v : Int32) (h : a ≠ id) : uI I id k v a = I a := if_neg h
theorem uJ_s (J : jdJ) (id k : Nat) (v : Int64) : uJ J id k v id = vp_updL (J id) k v := if_pos rfl
theorem uJ_n (J : jdJ) {id a : Nat} (k : Nat) (v : Int64) (h : a ≠ id) : uJ J id k v a = J a := if_neg h
theorem jdR_one {G : jdG} {Z : jdL} {I : jdI} {J : jdJ} {H : Heap} (hR : jdR G Z I J H) {id : Nat} {t : Nat × Nat} (hT : Z.1 id = some t) : va_P G.2.1 vwCl [(gb G + id, jdc G Z I J id t)] H := by
  intro k q hk
  have h0 : k < 1 := (List.getElem?_eq_some_iff.mp hk).1
  rw [show k = 0 by omega] at hk
  cases hk
  exact hR.2.2 id t hT
theorem jdR_set {G : jdG} {Z Z' : jdL} {I I' : jdI} {J J' : jdJ} {H H' : Heap} {id : Nat} {t : Nat × Nat} (hR : jdR G Z I J H) (hT : Z.1 id = some t) (hz : H'.size = H.size) (ho : ∀ q : Nat, q ≠ gb G + id → H'[q]? = H[q]?) (h1 : Z'.1 = Z.1) (h3 : Z'.2.2 = Z.2.2)
    (hoth : ∀ (j : Nat) (u : Nat × Nat), j ≠ id → jdc G Z' I' J' j u = jdc G Z I J j u) (hnew : va_at G.2.1 vwCl (gb G + id, jdc G Z' I' J' id t) H') : jdR G Z' I' J' H' := by
  refine ⟨by rw [hz, h3]; exact hR.1, fun q hq => by rw [ho q (by omega)]; exact hR.2.1 q hq, fun j u hu => ?_⟩
  rw [h1] at hu
  by_cases hj : j = id
  · subst hj
    cases hT.symm.trans hu
    exact hnew
  · rw [hoth j u hj]
    exact (hR.2.2 j u hu).kept (ho _ (by show gb G + j ≠ gb G + id; omega))
theorem jdc_uI {G : jdG} {Z : jdL} {I : jdI} {J : jdJ} {id k j : Nat} {v : Int32} (u : Nat × Nat) (h : j ≠ id) : jdc G Z (uI I id k v) J j u = jdc G Z I J j u := by
  simp only [jdc, uI_n I k v h]
theorem jdc_uJ {G : jdG} {Z : jdL} {I : jdI} {J : jdJ} {id k j : Nat} {v : Int64} (u : Nat × Nat) (h : j ≠ id) : jdc G Z I (uJ J id k v) j u = jdc G Z I J j u := by
  simp only [jdc, uJ_n J k v h]
theorem jdc_uP {G : jdG} {Z : jdL} {I : jdI} {J : jdJ} {id k j : Nat} {v : Option Nat} (u : Nat × Nat) (h : j ≠ id) : jdc G (uP Z id k v) I J j u = jdc G Z I J j u := by
  simp only [jdc, uP, if_neg h]
theorem jdW_in {w : Cond} (h : w ∈ lw_tbl) (hg : goodWord w = true) : w ∈ jdW := List.mem_filter.mpr ⟨h, hg⟩
theorem jdW_good : ∀ (M : jdM), Cond.code M.1 M.2.1 M.2.2.1 M.2.2.2 ∈ jdW → GoodIn jdW (jdws M) := by
  intro M hM w hw
  have : w ∈ jdW := by
    rcases List.mem_cons.mp hw with h | h
    · rw [h]; exact hM
    · exact h
  exact ⟨this, good_of_word (List.mem_filter.mp this).2⟩
set_option maxHeartbeats 1000000 in
theorem Cl.of {G : jdG} {M : jdM} {n mc ms : Nat} {av : List Value} {Z : jdL} {I : jdI} {J : jdJ} {Q : jdQ} (hy : plainName M.1.cls = true) (hav : (lg_sl av).length ≤ M.2.2.1) (h : Jd G M (jdFm G Q) n mc ms 0 (lv_args 0 av) [] Z I J) : Cl G M n mc ms av Z I J Q := by
  refine Met.ofW (cc := M.2.1) (maxL := M.2.2.1) (ret := M.2.2.2) hy rfl ?_
  intro p e s m args below meth c s₁ B hml hv
  obtain ⟨rfl, hR, hK⟩ := hv
  have hts := atoms_spec (ws := jdws M) B.pre
  rw [lg_entry_eq]
  exact h p e (jdrm n mc ms) s m av.toArray below meth c s.heap [] 0 0 _ ⟨B.exec, B.bytes, B.returns, hml, findClass_of_methodNamed B.named, fun w hw => hts w (List.mem_cons_of_mem _ hw), B.notSynchronized, (name_of_methodNamed B.named B.method).1, hK, Nat.le_refl _, Nat.le_refl _⟩ hR (fun q hq => by cases hq) (lv_entry av hav) (Nat.le_of_eq (Nat.zero_add _)) (Nat.le_of_eq (Nat.zero_add _))
theorem jd_iconst {G : jdG} {M : jdM} {F : jdF} {n rc rs pc : Nat} {lv : List (Nat × Value)} {st : List Value} {Z : jdL} {I : jdI} {J : jdJ} {v : Int32} {z : Int} (hdg : decode M.2.1 pc = .ok (.iconst z, 1)) (hv : Int32.ofInt z = v) (k : Jd G M F n rc rs (pc + 1) lv (.int v :: st) Z I J) : Jd G M F n rc rs pc lv st Z I J :=
  fun p e R s m args below meth c H locs cells slots ls hC hR hL hl h1 h2 => lv_iconst hC.1 hC.2.1 hdg hv (k p e R s m args below meth c H locs cells slots ls hC hR hL hl h1 h2)
theorem jd_bipush {G : jdG} {M : jdM} {F : jdF} {n rc rs pc : Nat} {lv : List (Nat × Value)} {st : List Value} {Z : jdL} {I : jdI} {J : jdJ} {v : Int32} {z : Int} (hdg : decode M.2.1 pc = .ok (.bipush z, 2)) (hv : (Int8.ofInt z).toInt32 = v) (k : Jd G M F n rc rs (pc + 2) lv (.int v :: st) Z I J) : Jd G M F n rc rs pc lv st Z I J :=
  fun p e R s m args below meth c H locs cells slots ls hC hR hL hl h1 h2 => lv_bipush hC.1 hC.2.1 hdg hv (k p e R s m args below meth c H locs cells slots ls hC hR hL hl h1 h2)
theorem jd_sipush {G : jdG} {M : jdM} {F : jdF} {n rc rs pc : Nat} {lv : List (Nat × Value)} {st : List Value} {Z : jdL} {I : jdI} {J : jdJ} {v : Int32} {z : Int} (hdg : decode M.2.1 pc = .ok (.sipush z, 3)) (hv : (Int16.ofInt z).toInt32 = v) (k : Jd G M F n rc rs (pc + 3) lv (.int v :: st) Z I J) : Jd G M F n rc rs pc lv st Z I J :=
  fun p e R s m args below meth c H locs cells slots ls hC hR hL hl h1 h2 => lv_sipush hC.1 hC.2.1 hdg hv (k p e R s m args below meth c H locs cells slots ls hC hR hL hl h1 h2)
theorem jd_lconst {G : jdG} {M : jdM} {F : jdF} {n rc rs pc : Nat} {lv : List (Nat × Value)} {st : List Value} {Z : jdL} {I : jdI} {J : jdJ} {v : Int64} {z : Fin 2} (hdg : decode M.2.1 pc = .ok (.lconst z, 1)) (hv : Int64.ofNat (z : Nat) = v) (k : Jd G M F n rc rs (pc + 1) lv (.long v :: st) Z I J) : Jd G M F n rc rs pc lv st Z I J :=
  fun p e R s m args below meth c H locs cells slots ls hC hR hL hl h1 h2 => lv_lconst hC.1 hC.2.1 hdg hv (k p e R s m args below meth c H locs cells slots ls hC hR hL hl h1 h2)
theorem jd_ldc {G : jdG} {M : jdM} {F : jdF} {n rc rs pc : Nat} {lv : List (Nat × Value)} {st : List Value} {Z : jdL} {I : jdI} {J : jdJ} {v : Int32} {index : Nat} (hw : Cond.constant M.1.cls index v ∈ jdW) (hdg : decode M.2.1 pc = .ok (.ldc index, 2)) (k : Jd G M F n rc rs (pc + 2) lv (.int v :: st) Z I J) : Jd G M F n rc rs pc lv st Z I J :=
  fun p e R s m args below meth c H locs cells slots ls hC hR hL hl h1 h2 => lv_ldc hC.1 hC.2.1 hC.2.2.2.2.1 (hC.2.2.2.2.2.1 _ hw) hdg (k p e R s m args below meth c H locs cells slots ls hC hR hL hl h1 h2)
theorem jd_ldcw {G : jdG} {M : jdM} {F : jdF} {n rc rs pc : Nat} {lv : List (Nat × Value)} {st : List Value} {Z : jdL} {I : jdI} {J : jdJ} {v : Int32} {index : Nat} (hw : Cond.constant M.1.cls index v ∈ jdW) (hdg : decode M.2.1 pc = .ok (.ldc_w index, 3)) (k : Jd G M F n rc rs (pc + 3) lv (.int v :: st) Z I J) : Jd G M F n rc rs pc lv st Z I J :=
  fun p e R s m args below meth c H locs cells slots ls hC hR hL hl h1 h2 => lv_ldcw hC.1 hC.2.1 hC.2.2.2.2.1 (hC.2.2.2.2.2.1 _ hw) hdg (k p e R s m args below meth c H locs cells slots ls hC hR hL hl h1 h2)
theorem jd_ldc2 {G : jdG} {M : jdM} {F : jdF} {n rc rs pc : Nat} {lv : List (Nat × Value)} {st : List Value} {Z : jdL} {I : jdI} {J : jdJ} {v : Int64} {index : Nat} (hw : Cond.constantLong M.1.cls index v ∈ jdW) (hdg : decode M.2.1 pc = .ok (.ldc2_w index, 3)) (k : Jd G M F n rc rs (pc + 3) lv (.long v :: st) Z I J) : Jd G M F n rc rs pc lv st Z I J :=
  fun p e R s m args below meth c H locs cells slots ls hC hR hL hl h1 h2 => lv_ldc2 hC.1 hC.2.1 hC.2.2.2.2.1 (hC.2.2.2.2.2.1 _ hw) hdg (k p e R s m args below meth c H locs cells slots ls hC hR hL hl h1 h2)
theorem jd_null {G : jdG} {M : jdM} {F : jdF} {n rc rs pc : Nat} {lv : List (Nat × Value)} {st : List Value} {Z : jdL} {I : jdI} {J : jdJ}  (hdg : decode M.2.1 pc = .ok (.aconst_null, 1)) (k : Jd G M F n rc rs (pc + 1) lv (.null :: st) Z I J) : Jd G M F n rc rs pc lv st Z I J :=
  fun p e R s m args below meth c H locs cells slots ls hC hR hL hl h1 h2 => lv_null hC.1 hC.2.1 hdg (k p e R s m args below meth c H locs cells slots ls hC hR hL hl h1 h2)
theorem jd_iload_n {G : jdG} {M : jdM} {F : jdF} {n rc rs pc : Nat} {lv : List (Nat × Value)} {st : List Value} {Z : jdL} {I : jdI} {J : jdJ} {x : Int32} {z : Fin 4} {i : Nat} (j : Nat) (hdg : decode M.2.1 pc = .ok (.iload_n z, 1)) (hi : (z : Nat) = i) (hj : lv[j]? = some (i, .int x)) (k : Jd G M F n rc rs (pc + 1) lv (.int x :: st) Z I J) : Jd G M F n rc rs pc lv st Z I J :=
  fun p e R s m args below meth c H locs cells slots ls hC hR hL hl h1 h2 => lv_iload_n hC.1 hC.2.1 hdg hi (lv_at hl j hj) (k p e R s m args below meth c H locs cells slots ls hC hR hL hl h1 h2)
theorem jd_iload {G : jdG} {M : jdM} {F : jdF} {n rc rs pc : Nat} {lv : List (Nat × Value)} {st : List Value} {Z : jdL} {I : jdI} {J : jdJ} {x : Int32} {i : Nat} (j : Nat) (hdg : decode M.2.1 pc = .ok (.iload i, 2)) (hj : lv[j]? = some (i, .int x)) (k : Jd G M F n rc rs (pc + 2) lv (.int x :: st) Z I J) : Jd G M F n rc rs pc lv st Z I J :=
  fun p e R s m args below meth c H locs cells slots ls hC hR hL hl h1 h2 => lv_iload hC.1 hC.2.1 hdg (lv_at hl j hj) (k p e R s m args below meth c H locs cells slots ls hC hR hL hl h1 h2)
theorem jd_istore_n {G : jdG} {M : jdM} {F : jdF} {n rc rs pc : Nat} {lv : List (Nat × Value)} {st : List Value} {Z : jdL} {I : jdI} {J : jdJ} {x : Int32} {z : Fin 4} {i : Nat} (lv2 : List (Nat × Value)) (hdg : decode M.2.1 pc = .ok (.istore_n z, 1)) (hi : (z : Nat) = i) (hn : i < M.2.2.1) (h9 : (i, Value.int x) :: lv.filter (fun q => !(q.1 == i) && !(q.1 + 1 == i && q.2.category == 2)) = lv2) (k : Jd G M F n rc rs (pc + 1) lv2 st Z I J) : Jd G M F n rc rs pc lv (.int x :: st) Z I J :=
  fun p e R s m args below meth c H locs cells slots ls hC hR hL hl h1 h2 => lv_istore_n hC.1 hC.2.1 hdg hi hl hn h9 (fun ls2 hl2 => k p e R s m args below meth c H locs cells slots ls2 hC hR hL hl2 h1 h2)
theorem jd_istore {G : jdG} {M : jdM} {F : jdF} {n rc rs pc : Nat} {lv : List (Nat × Value)} {st : List Value} {Z : jdL} {I : jdI} {J : jdJ} {x : Int32} {i : Nat} (lv2 : List (Nat × Value)) (hdg : decode M.2.1 pc = .ok (.istore i, 2)) (hn : i < M.2.2.1) (h9 : (i, Value.int x) :: lv.filter (fun q => !(q.1 == i) && !(q.1 + 1 == i && q.2.category == 2)) = lv2) (k : Jd G M F n rc rs (pc + 2) lv2 st Z I J) : Jd G M F n rc rs pc lv (.int x :: st) Z I J :=
  fun p e R s m args below meth c H locs cells slots ls hC hR hL hl h1 h2 => lv_istore hC.1 hC.2.1 hdg hl hn h9 (fun ls2 hl2 => k p e R s m args below meth c H locs cells slots ls2 hC hR hL hl2 h1 h2)
theorem jd_lload_n {G : jdG} {M : jdM} {F : jdF} {n rc rs pc : Nat} {lv : List (Nat × Value)} {st : List Value} {Z : jdL} {I : jdI} {J : jdJ} {x : Int64} {z : Fin 4} {i : Nat} (j : Nat) (hdg : decode M.2.1 pc = .ok (.lload_n z, 1)) (hi : (z : Nat) = i) (hj : lv[j]? = some (i, .long x)) (k : Jd G M F n rc rs (pc + 1) lv (.long x :: st) Z I J) : Jd G M F n rc rs pc lv st Z I J :=
  fun p e R s m args below meth c H locs cells slots ls hC hR hL hl h1 h2 => lv_lload_n hC.1 hC.2.1 hdg hi (lv_at hl j hj) (k p e R s m args below meth c H locs cells slots ls hC hR hL hl h1 h2)
theorem jd_lload {G : jdG} {M : jdM} {F : jdF} {n rc rs pc : Nat} {lv : List (Nat × Value)} {st : List Value} {Z : jdL} {I : jdI} {J : jdJ} {x : Int64} {i : Nat} (j : Nat) (hdg : decode M.2.1 pc = .ok (.lload i, 2)) (hj : lv[j]? = some (i, .long x)) (k : Jd G M F n rc rs (pc + 2) lv (.long x :: st) Z I J) : Jd G M F n rc rs pc lv st Z I J :=
  fun p e R s m args below meth c H locs cells slots ls hC hR hL hl h1 h2 => lv_lload hC.1 hC.2.1 hdg (lv_at hl j hj) (k p e R s m args below meth c H locs cells slots ls hC hR hL hl h1 h2)
theorem jd_lstore {G : jdG} {M : jdM} {F : jdF} {n rc rs pc : Nat} {lv : List (Nat × Value)} {st : List Value} {Z : jdL} {I : jdI} {J : jdJ} {x : Int64} {i : Nat} (lv2 : List (Nat × Value)) (hdg : decode M.2.1 pc = .ok (.lstore i, 2)) (hn : i + 1 < M.2.2.1) (h9 : (i, Value.long x) :: lv.filter (fun q => !(q.1 == i) && (!(q.1 == i + 1) && !(q.1 + 1 == i && q.2.category == 2))) = lv2) (k : Jd G M F n rc rs (pc + 2) lv2 st Z I J) : Jd G M F n rc rs pc lv (.long x :: st) Z I J :=
  fun p e R s m args below meth c H locs cells slots ls hC hR hL hl h1 h2 => lv_lstore hC.1 hC.2.1 hdg hl hn h9 (fun ls2 hl2 => k p e R s m args below meth c H locs cells slots ls2 hC hR hL hl2 h1 h2)
theorem jd_aload_n {G : jdG} {M : jdM} {F : jdF} {n rc rs pc : Nat} {lv : List (Nat × Value)} {st : List Value} {Z : jdL} {I : jdI} {J : jdJ} {x : Nat} {z : Fin 4} {i : Nat} (j : Nat) (hdg : decode M.2.1 pc = .ok (.aload_n z, 1)) (hi : (z : Nat) = i) (hj : lv[j]? = some (i, .ref x)) (k : Jd G M F n rc rs (pc + 1) lv (.ref x :: st) Z I J) : Jd G M F n rc rs pc lv st Z I J :=
  fun p e R s m args below meth c H locs cells slots ls hC hR hL hl h1 h2 => lv_aload_n hC.1 hC.2.1 hdg hi (lv_at hl j hj) (k p e R s m args below meth c H locs cells slots ls hC hR hL hl h1 h2)
theorem jd_aload {G : jdG} {M : jdM} {F : jdF} {n rc rs pc : Nat} {lv : List (Nat × Value)} {st : List Value} {Z : jdL} {I : jdI} {J : jdJ} {x : Nat} {i : Nat} (j : Nat) (hdg : decode M.2.1 pc = .ok (.aload i, 2)) (hj : lv[j]? = some (i, .ref x)) (k : Jd G M F n rc rs (pc + 2) lv (.ref x :: st) Z I J) : Jd G M F n rc rs pc lv st Z I J :=
  fun p e R s m args below meth c H locs cells slots ls hC hR hL hl h1 h2 => lv_aload hC.1 hC.2.1 hdg (lv_at hl j hj) (k p e R s m args below meth c H locs cells slots ls hC hR hL hl h1 h2)
theorem jd_astore_n {G : jdG} {M : jdM} {F : jdF} {n rc rs pc : Nat} {lv : List (Nat × Value)} {st : List Value} {Z : jdL} {I : jdI} {J : jdJ} {x : Nat} {z : Fin 4} {i : Nat} (lv2 : List (Nat × Value)) (hdg : decode M.2.1 pc = .ok (.astore_n z, 1)) (hi : (z : Nat) = i) (hn : i < M.2.2.1) (h9 : (i, Value.ref x) :: lv.filter (fun q => !(q.1 == i) && !(q.1 + 1 == i && q.2.category == 2)) = lv2) (k : Jd G M F n rc rs (pc + 1) lv2 st Z I J) : Jd G M F n rc rs pc lv (.ref x :: st) Z I J :=
  fun p e R s m args below meth c H locs cells slots ls hC hR hL hl h1 h2 => lv_astore_n hC.1 hC.2.1 hdg hi hl hn h9 (fun ls2 hl2 => k p e R s m args below meth c H locs cells slots ls2 hC hR hL hl2 h1 h2)
theorem jd_astore {G : jdG} {M : jdM} {F : jdF} {n rc rs pc : Nat} {lv : List (Nat × Value)} {st : List Value} {Z : jdL} {I : jdI} {J : jdJ} {x : Nat} {i : Nat} (lv2 : List (Nat × Value)) (hdg : decode M.2.1 pc = .ok (.astore i, 2)) (hn : i < M.2.2.1) (h9 : (i, Value.ref x) :: lv.filter (fun q => !(q.1 == i) && !(q.1 + 1 == i && q.2.category == 2)) = lv2) (k : Jd G M F n rc rs (pc + 2) lv2 st Z I J) : Jd G M F n rc rs pc lv (.ref x :: st) Z I J :=
  fun p e R s m args below meth c H locs cells slots ls hC hR hL hl h1 h2 => lv_astore hC.1 hC.2.1 hdg hl hn h9 (fun ls2 hl2 => k p e R s m args below meth c H locs cells slots ls2 hC hR hL hl2 h1 h2)
theorem jd_aload_nN {G : jdG} {M : jdM} {F : jdF} {n rc rs pc : Nat} {lv : List (Nat × Value)} {st : List Value} {Z : jdL} {I : jdI} {J : jdJ} {z : Fin 4} {i : Nat} (j : Nat) (hdg : decode M.2.1 pc = .ok (.aload_n z, 1)) (hi : (z : Nat) = i) (hj : lv[j]? = some (i, .null)) (k : Jd G M F n rc rs (pc + 1) lv (.null :: st) Z I J) : Jd G M F n rc rs pc lv st Z I J :=
  fun p e R s m args below meth c H locs cells slots ls hC hR hL hl h1 h2 => lv_aload_nN hC.1 hC.2.1 hdg hi (lv_at hl j hj) (k p e R s m args below meth c H locs cells slots ls hC hR hL hl h1 h2)
theorem jd_aloadN {G : jdG} {M : jdM} {F : jdF} {n rc rs pc : Nat} {lv : List (Nat × Value)} {st : List Value} {Z : jdL} {I : jdI} {J : jdJ} {i : Nat} (j : Nat) (hdg : decode M.2.1 pc = .ok (.aload i, 2)) (hj : lv[j]? = some (i, .null)) (k : Jd G M F n rc rs (pc + 2) lv (.null :: st) Z I J) : Jd G M F n rc rs pc lv st Z I J :=
  fun p e R s m args below meth c H locs cells slots ls hC hR hL hl h1 h2 => lv_aloadN hC.1 hC.2.1 hdg (lv_at hl j hj) (k p e R s m args below meth c H locs cells slots ls hC hR hL hl h1 h2)
theorem jd_astore_nN {G : jdG} {M : jdM} {F : jdF} {n rc rs pc : Nat} {lv : List (Nat × Value)} {st : List Value} {Z : jdL} {I : jdI} {J : jdJ} {z : Fin 4} {i : Nat} (lv2 : List (Nat × Value)) (hdg : decode M.2.1 pc = .ok (.astore_n z, 1)) (hi : (z : Nat) = i) (hn : i < M.2.2.1) (h9 : (i, Value.null) :: lv.filter (fun q => !(q.1 == i) && !(q.1 + 1 == i && q.2.category == 2)) = lv2) (k : Jd G M F n rc rs (pc + 1) lv2 st Z I J) : Jd G M F n rc rs pc lv (.null :: st) Z I J :=
  fun p e R s m args below meth c H locs cells slots ls hC hR hL hl h1 h2 => lv_astore_nN hC.1 hC.2.1 hdg hi hl hn h9 (fun ls2 hl2 => k p e R s m args below meth c H locs cells slots ls2 hC hR hL hl2 h1 h2)
theorem jd_astoreN {G : jdG} {M : jdM} {F : jdF} {n rc rs pc : Nat} {lv : List (Nat × Value)} {st : List Value} {Z : jdL} {I : jdI} {J : jdJ} {i : Nat} (lv2 : List (Nat × Value)) (hdg : decode M.2.1 pc = .ok (.astore i, 2)) (hn : i < M.2.2.1) (h9 : (i, Value.null) :: lv.filter (fun q => !(q.1 == i) && !(q.1 + 1 == i && q.2.category == 2)) = lv2) (k : Jd G M F n rc rs (pc + 2) lv2 st Z I J) : Jd G M F n rc rs pc lv (.null :: st) Z I J :=
  fun p e R s m args below meth c H locs cells slots ls hC hR hL hl h1 h2 => lv_astoreN hC.1 hC.2.1 hdg hl hn h9 (fun ls2 hl2 => k p e R s m args below meth c H locs cells slots ls2 hC hR hL hl2 h1 h2)
theorem jd_iinc {G : jdG} {M : jdM} {F : jdF} {n rc rs pc : Nat} {lv : List (Nat × Value)} {st : List Value} {Z : jdL} {I : jdI} {J : jdJ} {i : Nat} (j : Nat) {z : Int} {x v : Int32} (lv2 : List (Nat × Value)) (hdg : decode M.2.1 pc = .ok (.iinc i z, 3)) (hj : lv[j]? = some (i, .int x)) (hv : x + Int32.ofInt z = v) (hn : i < M.2.2.1) (h9 : (i, Value.int v) :: lv.filter (fun q => !(q.1 == i) && !(q.1 + 1 == i && q.2.category == 2)) = lv2) (k : Jd G M F n rc rs (pc + 3) lv2 st Z I J) : Jd G M F n rc rs pc lv st Z I J :=
  fun p e R s m args below meth c H locs cells slots ls hC hR hL hl h1 h2 => lv_iinc hC.1 hC.2.1 hdg hl hj hv hn h9 (fun ls2 hl2 => k p e R s m args below meth c H locs cells slots ls2 hC hR hL hl2 h1 h2)
theorem jd_iadd {G : jdG} {M : jdM} {F : jdF} {n rc rs pc : Nat} {lv : List (Nat × Value)} {st : List Value} {Z : jdL} {I : jdI} {J : jdJ} {x y : Int32} (hdg : decode M.2.1 pc = .ok (.iadd, 1)) (k : Jd G M F n rc rs (pc + 1) lv (.int (x + y) :: st) Z I J) : Jd G M F n rc rs pc lv (.int y :: .int x :: st) Z I J :=
  fun p e R s m args below meth c H locs cells slots ls hC hR hL hl h1 h2 => lv_iadd hC.1 hC.2.1 hdg (k p e R s m args below meth c H locs cells slots ls hC hR hL hl h1 h2)
theorem jd_isub {G : jdG} {M : jdM} {F : jdF} {n rc rs pc : Nat} {lv : List (Nat × Value)} {st : List Value} {Z : jdL} {I : jdI} {J : jdJ} {x y : Int32} (hdg : decode M.2.1 pc = .ok (.isub, 1)) (k : Jd G M F n rc rs (pc + 1) lv (.int (x - y) :: st) Z I J) : Jd G M F n rc rs pc lv (.int y :: .int x :: st) Z I J :=
  fun p e R s m args below meth c H locs cells slots ls hC hR hL hl h1 h2 => lv_isub hC.1 hC.2.1 hdg (k p e R s m args below meth c H locs cells slots ls hC hR hL hl h1 h2)
theorem jd_imul {G : jdG} {M : jdM} {F : jdF} {n rc rs pc : Nat} {lv : List (Nat × Value)} {st : List Value} {Z : jdL} {I : jdI} {J : jdJ} {x y : Int32} (hdg : decode M.2.1 pc = .ok (.imul, 1)) (k : Jd G M F n rc rs (pc + 1) lv (.int (x * y) :: st) Z I J) : Jd G M F n rc rs pc lv (.int y :: .int x :: st) Z I J :=
  fun p e R s m args below meth c H locs cells slots ls hC hR hL hl h1 h2 => lv_imul hC.1 hC.2.1 hdg (k p e R s m args below meth c H locs cells slots ls hC hR hL hl h1 h2)
theorem jd_iand {G : jdG} {M : jdM} {F : jdF} {n rc rs pc : Nat} {lv : List (Nat × Value)} {st : List Value} {Z : jdL} {I : jdI} {J : jdJ} {x y : Int32} (hdg : decode M.2.1 pc = .ok (.iand, 1)) (k : Jd G M F n rc rs (pc + 1) lv (.int (x &&& y) :: st) Z I J) : Jd G M F n rc rs pc lv (.int y :: .int x :: st) Z I J :=
  fun p e R s m args below meth c H locs cells slots ls hC hR hL hl h1 h2 => lv_iand hC.1 hC.2.1 hdg (k p e R s m args below meth c H locs cells slots ls hC hR hL hl h1 h2)
theorem jd_ior {G : jdG} {M : jdM} {F : jdF} {n rc rs pc : Nat} {lv : List (Nat × Value)} {st : List Value} {Z : jdL} {I : jdI} {J : jdJ} {x y : Int32} (hdg : decode M.2.1 pc = .ok (.ior, 1)) (k : Jd G M F n rc rs (pc + 1) lv (.int (x ||| y) :: st) Z I J) : Jd G M F n rc rs pc lv (.int y :: .int x :: st) Z I J :=
  fun p e R s m args below meth c H locs cells slots ls hC hR hL hl h1 h2 => lv_ior hC.1 hC.2.1 hdg (k p e R s m args below meth c H locs cells slots ls hC hR hL hl h1 h2)
theorem jd_ixor {G : jdG} {M : jdM} {F : jdF} {n rc rs pc : Nat} {lv : List (Nat × Value)} {st : List Value} {Z : jdL} {I : jdI} {J : jdJ} {x y : Int32} (hdg : decode M.2.1 pc = .ok (.ixor, 1)) (k : Jd G M F n rc rs (pc + 1) lv (.int (x ^^^ y) :: st) Z I J) : Jd G M F n rc rs pc lv (.int y :: .int x :: st) Z I J :=
  fun p e R s m args below meth c H locs cells slots ls hC hR hL hl h1 h2 => lv_ixor hC.1 hC.2.1 hdg (k p e R s m args below meth c H locs cells slots ls hC hR hL hl h1 h2)
theorem jd_ishl {G : jdG} {M : jdM} {F : jdF} {n rc rs pc : Nat} {lv : List (Nat × Value)} {st : List Value} {Z : jdL} {I : jdI} {J : jdJ} {x y : Int32} (hdg : decode M.2.1 pc = .ok (.ishl, 1)) (k : Jd G M F n rc rs (pc + 1) lv (.int (x <<< (y &&& 31)) :: st) Z I J) : Jd G M F n rc rs pc lv (.int y :: .int x :: st) Z I J :=
  fun p e R s m args below meth c H locs cells slots ls hC hR hL hl h1 h2 => lv_ishl hC.1 hC.2.1 hdg (k p e R s m args below meth c H locs cells slots ls hC hR hL hl h1 h2)
theorem jd_ishr {G : jdG} {M : jdM} {F : jdF} {n rc rs pc : Nat} {lv : List (Nat × Value)} {st : List Value} {Z : jdL} {I : jdI} {J : jdJ} {x y : Int32} (hdg : decode M.2.1 pc = .ok (.ishr, 1)) (k : Jd G M F n rc rs (pc + 1) lv (.int (x >>> (y &&& 31)) :: st) Z I J) : Jd G M F n rc rs pc lv (.int y :: .int x :: st) Z I J :=
  fun p e R s m args below meth c H locs cells slots ls hC hR hL hl h1 h2 => lv_ishr hC.1 hC.2.1 hdg (k p e R s m args below meth c H locs cells slots ls hC hR hL hl h1 h2)
theorem jd_iushr {G : jdG} {M : jdM} {F : jdF} {n rc rs pc : Nat} {lv : List (Nat × Value)} {st : List Value} {Z : jdL} {I : jdI} {J : jdJ} {x y : Int32} (hdg : decode M.2.1 pc = .ok (.iushr, 1)) (k : Jd G M F n rc rs (pc + 1) lv (.int ((x.toUInt32 >>> (y.toUInt32 &&& Int32.toUInt32 31)).toInt32) :: st) Z I J) : Jd G M F n rc rs pc lv (.int y :: .int x :: st) Z I J :=
  fun p e R s m args below meth c H locs cells slots ls hC hR hL hl h1 h2 => lv_iushr hC.1 hC.2.1 hdg rfl (k p e R s m args below meth c H locs cells slots ls hC hR hL hl h1 h2)
theorem jd_idiv {G : jdG} {M : jdM} {F : jdF} {n rc rs pc : Nat} {lv : List (Nat × Value)} {st : List Value} {Z : jdL} {I : jdI} {J : jdJ} {x y : Int32} (hdg : decode M.2.1 pc = .ok (.idiv, 1)) (hne : ¬ y = 0) (k : Jd G M F n rc rs (pc + 1) lv (.int (x / y) :: st) Z I J) : Jd G M F n rc rs pc lv (.int y :: .int x :: st) Z I J :=
  fun p e R s m args below meth c H locs cells slots ls hC hR hL hl h1 h2 => lv_idiv hC.1 hC.2.1 hdg hne (k p e R s m args below meth c H locs cells slots ls hC hR hL hl h1 h2)
theorem jd_irem {G : jdG} {M : jdM} {F : jdF} {n rc rs pc : Nat} {lv : List (Nat × Value)} {st : List Value} {Z : jdL} {I : jdI} {J : jdJ} {x y : Int32} (hdg : decode M.2.1 pc = .ok (.irem, 1)) (hne : ¬ y = 0) (k : Jd G M F n rc rs (pc + 1) lv (.int (x - x / y * y) :: st) Z I J) : Jd G M F n rc rs pc lv (.int y :: .int x :: st) Z I J :=
  fun p e R s m args below meth c H locs cells slots ls hC hR hL hl h1 h2 => lv_irem hC.1 hC.2.1 hdg hne (k p e R s m args below meth c H locs cells slots ls hC hR hL hl h1 h2)
theorem jd_ineg {G : jdG} {M : jdM} {F : jdF} {n rc rs pc : Nat} {lv : List (Nat × Value)} {st : List Value} {Z : jdL} {I : jdI} {J : jdJ} {x : Int32} (hdg : decode M.2.1 pc = .ok (.ineg, 1)) (k : Jd G M F n rc rs (pc + 1) lv (.int (-x) :: st) Z I J) : Jd G M F n rc rs pc lv (.int x :: st) Z I J :=
  fun p e R s m args below meth c H locs cells slots ls hC hR hL hl h1 h2 => lv_ineg hC.1 hC.2.1 hdg (k p e R s m args below meth c H locs cells slots ls hC hR hL hl h1 h2)
theorem jd_land {G : jdG} {M : jdM} {F : jdF} {n rc rs pc : Nat} {lv : List (Nat × Value)} {st : List Value} {Z : jdL} {I : jdI} {J : jdJ} {x y : Int64} (hdg : decode M.2.1 pc = .ok (.land, 1)) (k : Jd G M F n rc rs (pc + 1) lv (.long (x &&& y) :: st) Z I J) : Jd G M F n rc rs pc lv (.long y :: .long x :: st) Z I J :=
  fun p e R s m args below meth c H locs cells slots ls hC hR hL hl h1 h2 => lv_land hC.1 hC.2.1 hdg (k p e R s m args below meth c H locs cells slots ls hC hR hL hl h1 h2)
theorem jd_lor {G : jdG} {M : jdM} {F : jdF} {n rc rs pc : Nat} {lv : List (Nat × Value)} {st : List Value} {Z : jdL} {I : jdI} {J : jdJ} {x y : Int64} (hdg : decode M.2.1 pc = .ok (.lor, 1)) (k : Jd G M F n rc rs (pc + 1) lv (.long (x ||| y) :: st) Z I J) : Jd G M F n rc rs pc lv (.long y :: .long x :: st) Z I J :=
  fun p e R s m args below meth c H locs cells slots ls hC hR hL hl h1 h2 => lv_lor hC.1 hC.2.1 hdg (k p e R s m args below meth c H locs cells slots ls hC hR hL hl h1 h2)
theorem jd_lshl {G : jdG} {M : jdM} {F : jdF} {n rc rs pc : Nat} {lv : List (Nat × Value)} {st : List Value} {Z : jdL} {I : jdI} {J : jdJ} {x : Int64} {y : Int32} (hdg : decode M.2.1 pc = .ok (.lshl, 1)) (k : Jd G M F n rc rs (pc + 1) lv (.long (x <<< (y.toInt64 &&& 63)) :: st) Z I J) : Jd G M F n rc rs pc lv (.int y :: .long x :: st) Z I J :=
  fun p e R s m args below meth c H locs cells slots ls hC hR hL hl h1 h2 => lv_lshl hC.1 hC.2.1 hdg rfl (k p e R s m args below meth c H locs cells slots ls hC hR hL hl h1 h2)
theorem jd_lshr {G : jdG} {M : jdM} {F : jdF} {n rc rs pc : Nat} {lv : List (Nat × Value)} {st : List Value} {Z : jdL} {I : jdI} {J : jdJ} {x : Int64} {y : Int32} (hdg : decode M.2.1 pc = .ok (.lshr, 1)) (k : Jd G M F n rc rs (pc + 1) lv (.long (x >>> (y.toInt64 &&& 63)) :: st) Z I J) : Jd G M F n rc rs pc lv (.int y :: .long x :: st) Z I J :=
  fun p e R s m args below meth c H locs cells slots ls hC hR hL hl h1 h2 => lv_lshr hC.1 hC.2.1 hdg rfl (k p e R s m args below meth c H locs cells slots ls hC hR hL hl h1 h2)
theorem jd_i2l {G : jdG} {M : jdM} {F : jdF} {n rc rs pc : Nat} {lv : List (Nat × Value)} {st : List Value} {Z : jdL} {I : jdI} {J : jdJ} {x : Int32} (hdg : decode M.2.1 pc = .ok (.i2l, 1)) (k : Jd G M F n rc rs (pc + 1) lv (.long x.toInt64 :: st) Z I J) : Jd G M F n rc rs pc lv (.int x :: st) Z I J :=
  fun p e R s m args below meth c H locs cells slots ls hC hR hL hl h1 h2 => lv_i2l hC.1 hC.2.1 hdg rfl (k p e R s m args below meth c H locs cells slots ls hC hR hL hl h1 h2)
theorem jd_l2i {G : jdG} {M : jdM} {F : jdF} {n rc rs pc : Nat} {lv : List (Nat × Value)} {st : List Value} {Z : jdL} {I : jdI} {J : jdJ} {x : Int64} (hdg : decode M.2.1 pc = .ok (.l2i, 1)) (k : Jd G M F n rc rs (pc + 1) lv (.int x.toInt32 :: st) Z I J) : Jd G M F n rc rs pc lv (.long x :: st) Z I J :=
  fun p e R s m args below meth c H locs cells slots ls hC hR hL hl h1 h2 => lv_l2i hC.1 hC.2.1 hdg rfl (k p e R s m args below meth c H locs cells slots ls hC hR hL hl h1 h2)
theorem jd_i2b {G : jdG} {M : jdM} {F : jdF} {n rc rs pc : Nat} {lv : List (Nat × Value)} {st : List Value} {Z : jdL} {I : jdI} {J : jdJ} {x : Int32} (hdg : decode M.2.1 pc = .ok (.i2b, 1)) (k : Jd G M F n rc rs (pc + 1) lv (.int x.toInt8.toInt32 :: st) Z I J) : Jd G M F n rc rs pc lv (.int x :: st) Z I J :=
  fun p e R s m args below meth c H locs cells slots ls hC hR hL hl h1 h2 => lv_i2b hC.1 hC.2.1 hdg rfl (k p e R s m args below meth c H locs cells slots ls hC hR hL hl h1 h2)
theorem jd_i2s {G : jdG} {M : jdM} {F : jdF} {n rc rs pc : Nat} {lv : List (Nat × Value)} {st : List Value} {Z : jdL} {I : jdI} {J : jdJ} {x : Int32} (hdg : decode M.2.1 pc = .ok (.i2s, 1)) (k : Jd G M F n rc rs (pc + 1) lv (.int x.toInt16.toInt32 :: st) Z I J) : Jd G M F n rc rs pc lv (.int x :: st) Z I J :=
  fun p e R s m args below meth c H locs cells slots ls hC hR hL hl h1 h2 => lv_i2s hC.1 hC.2.1 hdg rfl (k p e R s m args below meth c H locs cells slots ls hC hR hL hl h1 h2)
theorem jd_i2c {G : jdG} {M : jdM} {F : jdF} {n rc rs pc : Nat} {lv : List (Nat × Value)} {st : List Value} {Z : jdL} {I : jdI} {J : jdJ} {x v : Int32} (hdg : decode M.2.1 pc = .ok (.i2c, 1)) (hv : (x.toUInt32 % 65536).toInt32 = v) (k : Jd G M F n rc rs (pc + 1) lv (.int v :: st) Z I J) : Jd G M F n rc rs pc lv (.int x :: st) Z I J :=
  fun p e R s m args below meth c H locs cells slots ls hC hR hL hl h1 h2 => lv_i2c hC.1 hC.2.1 hdg hv (k p e R s m args below meth c H locs cells slots ls hC hR hL hl h1 h2)
theorem jd_dup {G : jdG} {M : jdM} {F : jdF} {n rc rs pc : Nat} {lv : List (Nat × Value)} {st : List Value} {Z : jdL} {I : jdI} {J : jdJ} {a : Value} (hdg : decode M.2.1 pc = .ok (.dup, 1)) (ha : a.category = 1) (k : Jd G M F n rc rs (pc + 1) lv (a :: a :: st) Z I J) : Jd G M F n rc rs pc lv (a :: st) Z I J :=
  fun p e R s m args below meth c H locs cells slots ls hC hR hL hl h1 h2 => lv_dup hC.1 hC.2.1 hdg ha (k p e R s m args below meth c H locs cells slots ls hC hR hL hl h1 h2)
theorem jd_pop {G : jdG} {M : jdM} {F : jdF} {n rc rs pc : Nat} {lv : List (Nat × Value)} {st : List Value} {Z : jdL} {I : jdI} {J : jdJ} {a : Value} (hdg : decode M.2.1 pc = .ok (.pop, 1)) (ha : a.category = 1) (k : Jd G M F n rc rs (pc + 1) lv st Z I J) : Jd G M F n rc rs pc lv (a :: st) Z I J :=
  fun p e R s m args below meth c H locs cells slots ls hC hR hL hl h1 h2 => lv_pop hC.1 hC.2.1 hdg ha (k p e R s m args below meth c H locs cells slots ls hC hR hL hl h1 h2)
theorem jd_pop2 {G : jdG} {M : jdM} {F : jdF} {n rc rs pc : Nat} {lv : List (Nat × Value)} {st : List Value} {Z : jdL} {I : jdI} {J : jdJ} {a : Value} (hdg : decode M.2.1 pc = .ok (.pop2, 1)) (ha : a.category = 2) (k : Jd G M F n rc rs (pc + 1) lv st Z I J) : Jd G M F n rc rs pc lv (a :: st) Z I J :=
  fun p e R s m args below meth c H locs cells slots ls hC hR hL hl h1 h2 => lv_pop2_2 hC.1 hC.2.1 hdg ha (k p e R s m args below meth c H locs cells slots ls hC hR hL hl h1 h2)
theorem jd_dup2 {G : jdG} {M : jdM} {F : jdF} {n rc rs pc : Nat} {lv : List (Nat × Value)} {st : List Value} {Z : jdL} {I : jdI} {J : jdJ} {a b : Value} (hdg : decode M.2.1 pc = .ok (.dup2, 1)) (ha : a.category = 1) (hb : b.category = 1) (k : Jd G M F n rc rs (pc + 1) lv (a :: b :: a :: b :: st) Z I J) : Jd G M F n rc rs pc lv (a :: b :: st) Z I J :=
  fun p e R s m args below meth c H locs cells slots ls hC hR hL hl h1 h2 => lv_dup2_11 hC.1 hC.2.1 hdg ha hb (k p e R s m args below meth c H locs cells slots ls hC hR hL hl h1 h2)
theorem jd_dup_x1 {G : jdG} {M : jdM} {F : jdF} {n rc rs pc : Nat} {lv : List (Nat × Value)} {st : List Value} {Z : jdL} {I : jdI} {J : jdJ} {a b : Value} (hdg : decode M.2.1 pc = .ok (.dup_x1, 1)) (ha : a.category = 1) (hb : b.category = 1) (k : Jd G M F n rc rs (pc + 1) lv (a :: b :: a :: st) Z I J) : Jd G M F n rc rs pc lv (a :: b :: st) Z I J :=
  fun p e R s m args below meth c H locs cells slots ls hC hR hL hl h1 h2 => lv_dup_x1 hC.1 hC.2.1 hdg ha hb (k p e R s m args below meth c H locs cells slots ls hC hR hL hl h1 h2)
theorem jd_if_eq {G : jdG} {M : jdM} {F : jdF} {n rc rs pc : Nat} {lv : List (Nat × Value)} {st : List Value} {Z : jdL} {I : jdI} {J : jdJ} (tgt : Nat) {off : Int} {x : Int32} (hdg : decode M.2.1 pc = .ok (.ifCond .eq off, 3)) (ht : (pc : Int) + off = (tgt : Int)) (kt : x = 0 → Jd G M F n rc rs tgt lv st Z I J) (kf : ¬ x = 0 → Jd G M F n rc rs (pc + 3) lv st Z I J) : Jd G M F n rc rs pc lv (.int x :: st) Z I J :=
  fun p e R s m args below meth c H locs cells slots ls hC hR hL hl h1 h2 => lv_if_eq hC.1 hC.2.1 hdg ht (fun q => kt q p e R s m args below meth c H locs cells slots ls hC hR hL hl h1 h2) (fun q => kf q p e R s m args below meth c H locs cells slots ls hC hR hL hl h1 h2)
theorem jd_if_ne {G : jdG} {M : jdM} {F : jdF} {n rc rs pc : Nat} {lv : List (Nat × Value)} {st : List Value} {Z : jdL} {I : jdI} {J : jdJ} (tgt : Nat) {off : Int} {x : Int32} (hdg : decode M.2.1 pc = .ok (.ifCond .ne off, 3)) (ht : (pc : Int) + off = (tgt : Int)) (kt : ¬ x = 0 → Jd G M F n rc rs tgt lv st Z I J) (kf : x = 0 → Jd G M F n rc rs (pc + 3) lv st Z I J) : Jd G M F n rc rs pc lv (.int x :: st) Z I J :=
  fun p e R s m args below meth c H locs cells slots ls hC hR hL hl h1 h2 => lv_if_ne hC.1 hC.2.1 hdg ht (fun q => kt q p e R s m args below meth c H locs cells slots ls hC hR hL hl h1 h2) (fun q => kf q p e R s m args below meth c H locs cells slots ls hC hR hL hl h1 h2)
theorem jd_if_lt {G : jdG} {M : jdM} {F : jdF} {n rc rs pc : Nat} {lv : List (Nat × Value)} {st : List Value} {Z : jdL} {I : jdI} {J : jdJ} (tgt : Nat) {off : Int} {x : Int32} (hdg : decode M.2.1 pc = .ok (.ifCond .lt off, 3)) (ht : (pc : Int) + off = (tgt : Int)) (kt : x < 0 → Jd G M F n rc rs tgt lv st Z I J) (kf : ¬ x < 0 → Jd G M F n rc rs (pc + 3) lv st Z I J) : Jd G M F n rc rs pc lv (.int x :: st) Z I J :=
  fun p e R s m args below meth c H locs cells slots ls hC hR hL hl h1 h2 => lv_if_lt hC.1 hC.2.1 hdg ht (fun q => kt q p e R s m args below meth c H locs cells slots ls hC hR hL hl h1 h2) (fun q => kf q p e R s m args below meth c H locs cells slots ls hC hR hL hl h1 h2)
theorem jd_if_ge {G : jdG} {M : jdM} {F : jdF} {n rc rs pc : Nat} {lv : List (Nat × Value)} {st : List Value} {Z : jdL} {I : jdI} {J : jdJ} (tgt : Nat) {off : Int} {x : Int32} (hdg : decode M.2.1 pc = .ok (.ifCond .ge off, 3)) (ht : (pc : Int) + off = (tgt : Int)) (kt : 0 ≤ x → Jd G M F n rc rs tgt lv st Z I J) (kf : ¬ 0 ≤ x → Jd G M F n rc rs (pc + 3) lv st Z I J) : Jd G M F n rc rs pc lv (.int x :: st) Z I J :=
  fun p e R s m args below meth c H locs cells slots ls hC hR hL hl h1 h2 => lv_if_ge hC.1 hC.2.1 hdg ht (fun q => kt q p e R s m args below meth c H locs cells slots ls hC hR hL hl h1 h2) (fun q => kf q p e R s m args below meth c H locs cells slots ls hC hR hL hl h1 h2)
theorem jd_if_gt {G : jdG} {M : jdM} {F : jdF} {n rc rs pc : Nat} {lv : List (Nat × Value)} {st : List Value} {Z : jdL} {I : jdI} {J : jdJ} (tgt : Nat) {off : Int} {x : Int32} (hdg : decode M.2.1 pc = .ok (.ifCond .gt off, 3)) (ht : (pc : Int) + off = (tgt : Int)) (kt : 0 < x → Jd G M F n rc rs tgt lv st Z I J) (kf : ¬ 0 < x → Jd G M F n rc rs (pc + 3) lv st Z I J) : Jd G M F n rc rs pc lv (.int x :: st) Z I J :=
  fun p e R s m args below meth c H locs cells slots ls hC hR hL hl h1 h2 => lv_if_gt hC.1 hC.2.1 hdg ht (fun q => kt q p e R s m args below meth c H locs cells slots ls hC hR hL hl h1 h2) (fun q => kf q p e R s m args below meth c H locs cells slots ls hC hR hL hl h1 h2)
theorem jd_if_le {G : jdG} {M : jdM} {F : jdF} {n rc rs pc : Nat} {lv : List (Nat × Value)} {st : List Value} {Z : jdL} {I : jdI} {J : jdJ} (tgt : Nat) {off : Int} {x : Int32} (hdg : decode M.2.1 pc = .ok (.ifCond .le off, 3)) (ht : (pc : Int) + off = (tgt : Int)) (kt : x ≤ 0 → Jd G M F n rc rs tgt lv st Z I J) (kf : ¬ x ≤ 0 → Jd G M F n rc rs (pc + 3) lv st Z I J) : Jd G M F n rc rs pc lv (.int x :: st) Z I J :=
  fun p e R s m args below meth c H locs cells slots ls hC hR hL hl h1 h2 => lv_if_le hC.1 hC.2.1 hdg ht (fun q => kt q p e R s m args below meth c H locs cells slots ls hC hR hL hl h1 h2) (fun q => kf q p e R s m args below meth c H locs cells slots ls hC hR hL hl h1 h2)
theorem jd_icmp_eq {G : jdG} {M : jdM} {F : jdF} {n rc rs pc : Nat} {lv : List (Nat × Value)} {st : List Value} {Z : jdL} {I : jdI} {J : jdJ} (tgt : Nat) {off : Int} {x y : Int32} (hdg : decode M.2.1 pc = .ok (.if_icmp .eq off, 3)) (ht : (pc : Int) + off = (tgt : Int)) (kt : x = y → Jd G M F n rc rs tgt lv st Z I J) (kf : ¬ x = y → Jd G M F n rc rs (pc + 3) lv st Z I J) : Jd G M F n rc rs pc lv (.int y :: .int x :: st) Z I J :=
  fun p e R s m args below meth c H locs cells slots ls hC hR hL hl h1 h2 => lv_icmp_eq hC.1 hC.2.1 hdg ht (fun q => kt q p e R s m args below meth c H locs cells slots ls hC hR hL hl h1 h2) (fun q => kf q p e R s m args below meth c H locs cells slots ls hC hR hL hl h1 h2)
theorem jd_icmp_ne {G : jdG} {M : jdM} {F : jdF} {n rc rs pc : Nat} {lv : List (Nat × Value)} {st : List Value} {Z : jdL} {I : jdI} {J : jdJ} (tgt : Nat) {off : Int} {x y : Int32} (hdg : decode M.2.1 pc = .ok (.if_icmp .ne off, 3)) (ht : (pc : Int) + off = (tgt : Int)) (kt : ¬ x = y → Jd G M F n rc rs tgt lv st Z I J) (kf : x = y → Jd G M F n rc rs (pc + 3) lv st Z I J) : Jd G M F n rc rs pc lv (.int y :: .int x :: st) Z I J :=
  fun p e R s m args below meth c H locs cells slots ls hC hR hL hl h1 h2 => lv_icmp_ne hC.1 hC.2.1 hdg ht (fun q => kt q p e R s m args below meth c H locs cells slots ls hC hR hL hl h1 h2) (fun q => kf q p e R s m args below meth c H locs cells slots ls hC hR hL hl h1 h2)
theorem jd_icmp_lt {G : jdG} {M : jdM} {F : jdF} {n rc rs pc : Nat} {lv : List (Nat × Value)} {st : List Value} {Z : jdL} {I : jdI} {J : jdJ} (tgt : Nat) {off : Int} {x y : Int32} (hdg : decode M.2.1 pc = .ok (.if_icmp .lt off, 3)) (ht : (pc : Int) + off = (tgt : Int)) (kt : x < y → Jd G M F n rc rs tgt lv st Z I J) (kf : ¬ x < y → Jd G M F n rc rs (pc + 3) lv st Z I J) : Jd G M F n rc rs pc lv (.int y :: .int x :: st) Z I J :=
  fun p e R s m args below meth c H locs cells slots ls hC hR hL hl h1 h2 => lv_icmp_lt hC.1 hC.2.1 hdg ht (fun q => kt q p e R s m args below meth c H locs cells slots ls hC hR hL hl h1 h2) (fun q => kf q p e R s m args below meth c H locs cells slots ls hC hR hL hl h1 h2)
theorem jd_icmp_ge {G : jdG} {M : jdM} {F : jdF} {n rc rs pc : Nat} {lv : List (Nat × Value)} {st : List Value} {Z : jdL} {I : jdI} {J : jdJ} (tgt : Nat) {off : Int} {x y : Int32} (hdg : decode M.2.1 pc = .ok (.if_icmp .ge off, 3)) (ht : (pc : Int) + off = (tgt : Int)) (kt : y ≤ x → Jd G M F n rc rs tgt lv st Z I J) (kf : ¬ y ≤ x → Jd G M F n rc rs (pc + 3) lv st Z I J) : Jd G M F n rc rs pc lv (.int y :: .int x :: st) Z I J :=
  fun p e R s m args below meth c H locs cells slots ls hC hR hL hl h1 h2 => lv_icmp_ge hC.1 hC.2.1 hdg ht (fun q => kt q p e R s m args below meth c H locs cells slots ls hC hR hL hl h1 h2) (fun q => kf q p e R s m args below meth c H locs cells slots ls hC hR hL hl h1 h2)
theorem jd_icmp_gt {G : jdG} {M : jdM} {F : jdF} {n rc rs pc : Nat} {lv : List (Nat × Value)} {st : List Value} {Z : jdL} {I : jdI} {J : jdJ} (tgt : Nat) {off : Int} {x y : Int32} (hdg : decode M.2.1 pc = .ok (.if_icmp .gt off, 3)) (ht : (pc : Int) + off = (tgt : Int)) (kt : y < x → Jd G M F n rc rs tgt lv st Z I J) (kf : ¬ y < x → Jd G M F n rc rs (pc + 3) lv st Z I J) : Jd G M F n rc rs pc lv (.int y :: .int x :: st) Z I J :=
  fun p e R s m args below meth c H locs cells slots ls hC hR hL hl h1 h2 => lv_icmp_gt hC.1 hC.2.1 hdg ht (fun q => kt q p e R s m args below meth c H locs cells slots ls hC hR hL hl h1 h2) (fun q => kf q p e R s m args below meth c H locs cells slots ls hC hR hL hl h1 h2)
theorem jd_icmp_le {G : jdG} {M : jdM} {F : jdF} {n rc rs pc : Nat} {lv : List (Nat × Value)} {st : List Value} {Z : jdL} {I : jdI} {J : jdJ} (tgt : Nat) {off : Int} {x y : Int32} (hdg : decode M.2.1 pc = .ok (.if_icmp .le off, 3)) (ht : (pc : Int) + off = (tgt : Int)) (kt : x ≤ y → Jd G M F n rc rs tgt lv st Z I J) (kf : ¬ x ≤ y → Jd G M F n rc rs (pc + 3) lv st Z I J) : Jd G M F n rc rs pc lv (.int y :: .int x :: st) Z I J :=
  fun p e R s m args below meth c H locs cells slots ls hC hR hL hl h1 h2 => lv_icmp_le hC.1 hC.2.1 hdg ht (fun q => kt q p e R s m args below meth c H locs cells slots ls hC hR hL hl h1 h2) (fun q => kf q p e R s m args below meth c H locs cells slots ls hC hR hL hl h1 h2)
theorem jd_goto {G : jdG} {M : jdM} {F : jdF} {n rc rs pc : Nat} {lv : List (Nat × Value)} {st : List Value} {Z : jdL} {I : jdI} {J : jdJ} (tgt : Nat) {off : Int} (hdg : decode M.2.1 pc = .ok (.goto off, 3)) (ht : (pc : Int) + off = (tgt : Int)) (k : Jd G M F n rc rs tgt lv st Z I J) : Jd G M F n rc rs pc lv st Z I J :=
  fun p e R s m args below meth c H locs cells slots ls hC hR hL hl h1 h2 => lv_goto hC.1 hC.2.1 hdg ht (k p e R s m args below meth c H locs cells slots ls hC hR hL hl h1 h2)
theorem jd_ifnull {G : jdG} {M : jdM} {F : jdF} {n rc rs pc : Nat} {lv : List (Nat × Value)} {st : List Value} {Z : jdL} {I : jdI} {J : jdJ} {x : Nat} {off : Int} (hdg : decode M.2.1 pc = .ok (.ifnull off, 3)) (k : Jd G M F n rc rs (pc + 3) lv st Z I J) : Jd G M F n rc rs pc lv (.ref x :: st) Z I J :=
  fun p e R s m args below meth c H locs cells slots ls hC hR hL hl h1 h2 => lv_ifnull hC.1 hC.2.1 hdg (k p e R s m args below meth c H locs cells slots ls hC hR hL hl h1 h2)
theorem jd_ifnullN {G : jdG} {M : jdM} {F : jdF} {n rc rs pc : Nat} {lv : List (Nat × Value)} {st : List Value} {Z : jdL} {I : jdI} {J : jdJ} (tgt : Nat) {off : Int} (hdg : decode M.2.1 pc = .ok (.ifnull off, 3)) (ht : (pc : Int) + off = (tgt : Int)) (k : Jd G M F n rc rs tgt lv st Z I J) : Jd G M F n rc rs pc lv (.null :: st) Z I J :=
  fun p e R s m args below meth c H locs cells slots ls hC hR hL hl h1 h2 => lv_ifnullN hC.1 hC.2.1 hdg ht (k p e R s m args below meth c H locs cells slots ls hC hR hL hl h1 h2)
theorem jd_ifnonnull {G : jdG} {M : jdM} {F : jdF} {n rc rs pc : Nat} {lv : List (Nat × Value)} {st : List Value} {Z : jdL} {I : jdI} {J : jdJ} (tgt : Nat) {x : Nat} {off : Int} (hdg : decode M.2.1 pc = .ok (.ifnonnull off, 3)) (ht : (pc : Int) + off = (tgt : Int)) (k : Jd G M F n rc rs tgt lv st Z I J) : Jd G M F n rc rs pc lv (.ref x :: st) Z I J :=
  fun p e R s m args below meth c H locs cells slots ls hC hR hL hl h1 h2 => lv_ifnonnull hC.1 hC.2.1 hdg ht (k p e R s m args below meth c H locs cells slots ls hC hR hL hl h1 h2)
theorem jd_ifnonnullN {G : jdG} {M : jdM} {F : jdF} {n rc rs pc : Nat} {lv : List (Nat × Value)} {st : List Value} {Z : jdL} {I : jdI} {J : jdJ} {off : Int} (hdg : decode M.2.1 pc = .ok (.ifnonnull off, 3)) (k : Jd G M F n rc rs (pc + 3) lv st Z I J) : Jd G M F n rc rs pc lv (.null :: st) Z I J :=
  fun p e R s m args below meth c H locs cells slots ls hC hR hL hl h1 h2 => lv_ifnonnullN hC.1 hC.2.1 hdg (k p e R s m args below meth c H locs cells slots ls hC hR hL hl h1 h2)
theorem jd_tableIn {G : jdG} {M : jdM} {F : jdF} {n rc rs pc : Nat} {lv : List (Nat × Value)} {st : List Value} {Z : jdL} {I : jdI} {J : jdJ} (tgt : Nat) {dflt lo hi : Int} {offs : Array Int} {len : Nat} {x : Int32} {off : Int} (hdg : decode M.2.1 pc = .ok (.tableswitch dflt lo hi offs, len)) (h3 : ¬ x.toInt < lo) (h4 : ¬ hi < x.toInt) (ho : offs[(x.toInt - lo).toNat]? = some off) (ht : (pc : Int) + off = (tgt : Int)) (k : Jd G M F n rc rs tgt lv st Z I J) : Jd G M F n rc rs pc lv (.int x :: st) Z I J :=
  fun p e R s m args below meth c H locs cells slots ls hC hR hL hl h1 h2 => lv_tableIn hC.1 hC.2.1 hdg h3 h4 ho ht (k p e R s m args below meth c H locs cells slots ls hC hR hL hl h1 h2)
theorem jd_tableOut {G : jdG} {M : jdM} {F : jdF} {n rc rs pc : Nat} {lv : List (Nat × Value)} {st : List Value} {Z : jdL} {I : jdI} {J : jdJ} (tgt : Nat) {dflt lo hi : Int} {offs : Array Int} {len : Nat} {x : Int32} (hdg : decode M.2.1 pc = .ok (.tableswitch dflt lo hi offs, len)) (h3 : x.toInt < lo ∨ hi < x.toInt) (ht : (pc : Int) + dflt = (tgt : Int)) (k : Jd G M F n rc rs tgt lv st Z I J) : Jd G M F n rc rs pc lv (.int x :: st) Z I J :=
  fun p e R s m args below meth c H locs cells slots ls hC hR hL hl h1 h2 => lv_tableOut hC.1 hC.2.1 hdg h3 ht (k p e R s m args below meth c H locs cells slots ls hC hR hL hl h1 h2)
theorem jd_lv {G : jdG} {M : jdM} {F : jdF} {n rc rs pc : Nat} {lv : List (Nat × Value)} {st : List Value} {Z : jdL} {I : jdI} {J : jdJ} {lv2 : List (Nat × Value)} (ks : List Nat) (h9 : lv_pick lv ks = lv2) (k : Jd G M F n rc rs pc lv2 st Z I J) : Jd G M F n rc rs pc lv st Z I J :=
  fun p e R s m args below meth c H locs cells slots ls hC hR hL hl h1 h2 => k p e R s m args below meth c H locs cells slots ls hC hR hL (lv_sub hl ks h9) h1 h2
/-! rows that read and write the memory -/
/-- a field that is read: which class and place, the words -/
def jdFg (ci k : Nat) (own : String) (index : Nat) : Prop := ∃ (C : String) (T : u_T) (N : Nat), vwCl[ci]? = some (C, T, N) ∧ k < N ∧ (∀ w ∈ u_ws C T N, w ∈ jdW) ∧ Cond.fieldLink own index (T k).1 (T k).2.1 (T k).2.2.1 ∈ jdW
/-- a field that is written -/
def jdFp (ci k : Nat) (own : String) (index : Nat) (fin : Bool) (ty : FieldType) : Prop := ∃ (C : String) (T : u_T) (N : Nat) (ty0 : Nat → FieldType), vwCl[ci]? = some (C, T, N) ∧ k < N ∧ (∀ w ∈ u_ws C T N, w ∈ jdW) ∧ Cond.fieldLink own index (T k).1 (T k).2.1 (T k).2.2.1 ∈ jdW ∧ (∀ k, k < N → parseFieldDescriptor (T k).2.2.1 = some (ty0 k)) ∧ (∀ a, a < N → ∀ b, b < N → a ≠ b → (T a).2.1 ≠ (T b).2.1) ∧ (T k).2.2.2 = fin ∧ parseFieldDescriptor (T k).2.2.1 = some ty ∧ (fin = true → (T k).1 = own)
theorem jdc_o (G : jdG) (Z : jdL) (I : jdI) (J : jdJ) (id ci : Nat) : jdc G Z I J id (ci + 10, 0) = .inr (ci, jdf (gb G) (Z.2.1 id) (I id) (jdk ci) 0) := by
  simp [jdc]
theorem jdc_i (G : jdG) (Z : jdL) (I : jdI) (J : jdJ) (id n : Nat) : jdc G Z I J id (0, n) = .inl (G.2.2.2.1 0, n, .inl (I id)) := by
  simp [jdc]
theorem jdc_l (G : jdG) (Z : jdL) (I : jdI) (J : jdJ) (id n : Nat) : jdc G Z I J id (1, n) = .inl (G.2.2.2.1 1, n, .inr (.inl (J id))) := by
  simp [jdc]
theorem jdc_r (G : jdG) (Z : jdL) (I : jdI) (J : jdJ) (id n k : Nat) (h1 : 1 < k) (h2 : k < 10) : jdc G Z I J id (k, n) = .inl (G.2.2.2.1 k, n, .inr (.inr (.inr (.inr (fun i => (Z.2.1 id i).map (fun x => gb G + x)))))) := by
  have e1 : ¬ k = 0 := by omega
  have e2 : ¬ k = 1 := by omega
  simp [jdc, e1, e2, h2]
section HP
variable {G : jdG} {M : jdM} {F : jdF} {n rc rs pc : Nat} {lv : List (Nat × Value)} {st : List Value} {Z : jdL} {I : jdI} {J : jdJ}
theorem jd_getI {id ci k index : Nat} (hf : jdFg ci k M.1.cls index) (hT : Z.1 id = some (ci + 10, 0)) (hk : (jdk ci)[k]? = some false) (hdg : decode M.2.1 pc = .ok (.getfield index, 3)) (kk : Jd G M F n rc rs (pc + 3) lv (.int (I id k) :: st) Z I J) : Jd G M F n rc rs pc lv (.ref (gb G + id) :: st) Z I J := by
  intro p e R s m args below meth c H locs cells slots ls hC hR hL hl h1 h2
  obtain ⟨C, T, N, hc, hkN, hin, hw⟩ := hf
  have hP := jdR_one hR hT
  rw [jdc_o] at hP
  refine va_get (D := G.2.1) (ci := ci) (v := .int (I id k)) hC.1 hC.2.1 hC.2.2.2.2.2.1 hin hC.2.2.2.2.1 hC.2.2.2.2.2.2.2.2.1.1 hP 0 rfl hc k hkN (hC.2.2.2.2.2.1 _ hw) (fun _ h => h) ?_ hdg (kk p e R s m args below meth c H locs cells slots ls hC hR hL hl h1 h2)
  rw [jdf_get, hk]
  simp
theorem jd_getR {id ci k index r : Nat} (hf : jdFg ci k M.1.cls index) (hT : Z.1 id = some (ci + 10, 0)) (hk : (jdk ci)[k]? = some true) (hp : Z.2.1 id k = some r) (hdg : decode M.2.1 pc = .ok (.getfield index, 3)) (kk : Jd G M F n rc rs (pc + 3) lv (.ref (gb G + r) :: st) Z I J) : Jd G M F n rc rs pc lv (.ref (gb G + id) :: st) Z I J := by
  intro p e R s m args below meth c H locs cells slots ls hC hR hL hl h1 h2
  obtain ⟨C, T, N, hc, hkN, hin, hw⟩ := hf
  have hP := jdR_one hR hT
  rw [jdc_o] at hP
  refine va_get (D := G.2.1) (ci := ci) (v := .ref (gb G + r)) hC.1 hC.2.1 hC.2.2.2.2.2.1 hin hC.2.2.2.2.1 hC.2.2.2.2.2.2.2.2.1.1 hP 0 rfl hc k hkN (hC.2.2.2.2.2.1 _ hw) (fun _ h => h) ?_ hdg (kk p e R s m args below meth c H locs cells slots ls hC hR hL hl h1 h2)
  rw [jdf_get, hk]
  simp [hp, va_rf]
theorem jd_getN {id ci k index : Nat} (hf : jdFg ci k M.1.cls index) (hT : Z.1 id = some (ci + 10, 0)) (hk : (jdk ci)[k]? = some true) (hp : Z.2.1 id k = none) (hdg : decode M.2.1 pc = .ok (.getfield index, 3)) (kk : Jd G M F n rc rs (pc + 3) lv (.null :: st) Z I J) : Jd G M F n rc rs pc lv (.ref (gb G + id) :: st) Z I J := by
  intro p e R s m args below meth c H locs cells slots ls hC hR hL hl h1 h2
  obtain ⟨C, T, N, hc, hkN, hin, hw⟩ := hf
  have hP := jdR_one hR hT
  rw [jdc_o] at hP
  refine va_get (D := G.2.1) (ci := ci) (v := .null) hC.1 hC.2.1 hC.2.2.2.2.2.1 hin hC.2.2.2.2.1 hC.2.2.2.2.2.2.2.2.1.1 hP 0 rfl hc k hkN (hC.2.2.2.2.2.1 _ hw) (fun _ h => h) ?_ hdg (kk p e R s m args below meth c H locs cells slots ls hC hR hL hl h1 h2)
  rw [jdf_get, hk]
  simp [hp, va_rf]
theorem jd_locs {locs : List Loc} {id k : Nat} (hL : ∀ q ∈ locs, gb G ≤ q.base) : ∀ q ∈ locs ++ [⟨gb G + id, k⟩], gb G ≤ q.base := by
  intro q hq
  rcases List.mem_append.mp hq with h | h
  · exact hL q h
  · rw [List.mem_singleton.mp h]
    exact Nat.le_add_right _ _
/-- writing a field: what any value does -/
theorem jd_put {id ci k index : Nat} {ty : FieldType} {v : Value} {Z' : jdL} {I' : jdI} (hf : jdFp ci k M.1.cls index false ty) (hT : Z.1 id = some (ci + 10, 0)) (hk : k < (jdk ci).length) (hn : narrow ty v = v) (hfit : fits ty v = true) (hdg : decode M.2.1 pc = .ok (.putfield index, 3))
    (h3 : Z'.1 = Z.1) (h4 : Z'.2.2 = Z.2.2) (hoth : ∀ (j : Nat) (u : Nat × Nat), j ≠ id → jdc G Z' I' J j u = jdc G Z I J j u) (hnew : (jdf (gb G) (Z.2.1 id) (I id) (jdk ci) 0).set k v = jdf (gb G) (Z'.2.1 id) (I' id) (jdk ci) 0)
    (kk : Jd G M F n rc rs (pc + 3) lv st Z' I' J) : Jd G M F n rc rs pc lv (v :: .ref (gb G + id) :: st) Z I J := by
  intro p e R s m args below meth c H locs cells slots ls hC hR hL hl h1 h2
  obtain ⟨C, T, N, ty0, hc, hkN, hin, hw, hty, hnm, hfin, hd, -⟩ := hf
  have hts := hC.2.2.2.2.2.1
  have hK := hC.2.2.2.2.2.2.2.2.1.1
  have hap := va_apart (own := M.1.cls) hts hin ty0 hty hnm hK hc
  have hat := hR.2.2 id _ hT
  rw [jdc_o] at hat
  obtain ⟨r, hr1, cell, q1, q2, q3, q4⟩ := hat
  have hr : r = (C, T, N) := Option.some.inj (hr1.symm.trans hc)
  subst hr
  obtain ⟨hS, hfc, kC, hkC, hkind⟩ := hK.1 ci _ hc
  obtain ⟨cf, kf, fi, f, hi, hsl⟩ := hS k hkN
  have hlay := hts _ (hin _ (u_in_lay hkN))
  unfold u_lay at hlay
  rw [if_neg (by rw [hfin]; decide)] at hlay
  have hst := (u_facts hfc hkC (u_lays hts hin hkN) hi).1
  have h6 := u_store hfc hkC hkind hlay hi hd hn hfit
  refine W.putK hC.1 hC.2.1 (f := f) ⟨hC.2.2.2.2.1, hts _ hw, ⟨_, _, _, hi⟩, hst⟩ (by rw [q2]; exact h6) q1 q3 (by rw [hsl]; exact k2_hasslot (q4 k hkN)) rfl rfl hdg fun H' e1 e2 e3 => ?_
  rw [hsl] at e1
  refine kk p e R s m args below meth c H' _ cells slots ls hC (jdR_set hR hT e2 e3 h3 h4 hoth ?_) (jd_locs hL) hl h1 h2
  rw [jdc_o, ← hnew]
  exact ⟨_, hc, t_OB.to (V := updV (vp_V (jdf (gb G) (Z.2.1 id) (I id) (jdk ci) 0)) k v) ⟨_, e1, q2, q3, t_set q4 hap hkN v⟩ (fun j _ => vp_updV_set (by rw [jdf_len]; exact hk) v j)⟩
theorem jd_putI {id ci k index : Nat} {ty : FieldType} {v : Int32} (hf : jdFp ci k M.1.cls index false ty) (hT : Z.1 id = some (ci + 10, 0)) (hk : (jdk ci)[k]? = some false) (hn : narrow ty (.int v) = .int v) (hfit : fits ty (.int v) = true) (hdg : decode M.2.1 pc = .ok (.putfield index, 3)) (kk : Jd G M F n rc rs (pc + 3) lv st Z (uI I id k v) J) : Jd G M F n rc rs pc lv (.int v :: .ref (gb G + id) :: st) Z I J :=
  jd_put hf hT (List.getElem?_eq_some_iff.mp hk).1 hn hfit hdg rfl rfl (fun j u hj => jdc_uI u hj) (by rw [uI_s, jdf_setI _ _ _ _ _ _ _ hk, Nat.zero_add]) kk
theorem jd_putR {id ci k index r : Nat} {ty : FieldType} (hf : jdFp ci k M.1.cls index false ty) (hT : Z.1 id = some (ci + 10, 0)) (hk : (jdk ci)[k]? = some true) (hn : narrow ty (.ref (gb G + r)) = .ref (gb G + r)) (hfit : fits ty (.ref (gb G + r)) = true) (hdg : decode M.2.1 pc = .ok (.putfield index, 3)) (kk : Jd G M F n rc rs (pc + 3) lv st (uP Z id k (some r)) I J) : Jd G M F n rc rs pc lv (.ref (gb G + r) :: .ref (gb G + id) :: st) Z I J :=
  jd_put (Z' := uP Z id k (some r)) (I' := I) hf hT (List.getElem?_eq_some_iff.mp hk).1 hn hfit hdg rfl rfl (fun j u hj => jdc_uP u hj) (by
    have h := jdf_setP (gb G) (Z.2.1 id) (I id) (jdk ci) 0 k (some r) hk
    rw [Nat.zero_add] at h
    simp only [uP, if_true]
    exact h) kk
theorem jd_putN {id ci k index : Nat} {ty : FieldType} (hf : jdFp ci k M.1.cls index false ty) (hT : Z.1 id = some (ci + 10, 0)) (hk : (jdk ci)[k]? = some true) (hn : narrow ty .null = .null) (hfit : fits ty .null = true) (hdg : decode M.2.1 pc = .ok (.putfield index, 3)) (kk : Jd G M F n rc rs (pc + 3) lv st (uP Z id k none) I J) : Jd G M F n rc rs pc lv (.null :: .ref (gb G + id) :: st) Z I J :=
  jd_put (Z' := uP Z id k none) (I' := I) hf hT (List.getElem?_eq_some_iff.mp hk).1 hn hfit hdg rfl rfl (fun j u hj => jdc_uP u hj) (by
    have h := jdf_setP (gb G) (Z.2.1 id) (I id) (jdk ci) 0 k none hk
    rw [Nat.zero_add] at h
    simp only [uP, if_true]
    exact h) kk
theorem jd_iald {id len : Nat} {i : Int32} (hT : Z.1 id = some (0, len)) (hin : vp_in i len) (hdg : decode M.2.1 pc = .ok (.iaload, 1)) (kk : Jd G M F n rc rs (pc + 1) lv (.int (I id i.toNatClampNeg) :: st) Z I J) : Jd G M F n rc rs pc lv (.int i :: .ref (gb G + id) :: st) Z I J := by
  intro p e R s m args below meth c H locs cells slots ls hC hR hL hl h1 h2
  have hP := jdR_one hR hT
  rw [jdc_i] at hP
  exact va_iald (tys := jdT G) hC.1 hC.2.1 hC.2.2.2.2.2.2.2.2.1.1 hP 0 0 rfl rfl hin hdg (kk p e R s m args below meth c H locs cells slots ls hC hR hL hl h1 h2)
theorem jd_lald {id len : Nat} {i : Int32} (hT : Z.1 id = some (1, len)) (hin : vp_in i len) (hdg : decode M.2.1 pc = .ok (.laload, 1)) (kk : Jd G M F n rc rs (pc + 1) lv (.long (J id i.toNatClampNeg) :: st) Z I J) : Jd G M F n rc rs pc lv (.int i :: .ref (gb G + id) :: st) Z I J := by
  intro p e R s m args below meth c H locs cells slots ls hC hR hL hl h1 h2
  have hP := jdR_one hR hT
  rw [jdc_l] at hP
  exact va_lald (tys := jdT G) hC.1 hC.2.1 hC.2.2.2.2.2.2.2.2.1.1 hP 0 1 rfl rfl hin hdg (kk p e R s m args below meth c H locs cells slots ls hC hR hL hl h1 h2)
theorem jd_iast {id len : Nat} {i x : Int32} (hT : Z.1 id = some (0, len)) (hin : vp_in i len) (hdg : decode M.2.1 pc = .ok (.iastore, 1)) (kk : Jd G M F n rc rs (pc + 1) lv st Z (uI I id i.toNatClampNeg x) J) : Jd G M F n rc rs pc lv (.int x :: .int i :: .ref (gb G + id) :: st) Z I J := by
  intro p e R s m args below meth c H locs cells slots ls hC hR hL hl h1 h2
  have hK := hC.2.2.2.2.2.2.2.2.1.1
  have hat := hR.2.2 id _ hT
  rw [jdc_i] at hat
  refine W.iast hC.1 hC.2.1 hat ((hK.2 0 _ rfl).1 len (fun j => .int (I id j))) (fun q => by cases q) (by show ¬ (i < 0 ∨ (arrV _ _ _).slots.size ≤ _); rw [arrV_size]; exact hin) rfl rfl hdg fun H1 e1 z oq => ?_
  refine kk p e R s m args below meth c H1 _ cells slots ls hC (jdR_set hR hT z oq rfl rfl (fun j u hj => jdc_uI u hj) ?_) (jd_locs hL) hl h1 h2
  rw [jdc_i, uI_s]
  show H1[gb G + id]? = some (vp_cell _ _)
  rw [e1, vp_cell_i, vp_cell_i, arrV_store]
  congr 2
  funext q
  by_cases hq : q = i.toNatClampNeg
  · subst hq
    simp [updV, upd]
  · simp [updV, upd, hq]
theorem jd_last {id len : Nat} {i : Int32} {x : Int64} (hT : Z.1 id = some (1, len)) (hin : vp_in i len) (hdg : decode M.2.1 pc = .ok (.lastore, 1)) (kk : Jd G M F n rc rs (pc + 1) lv st Z I (uJ J id i.toNatClampNeg x)) : Jd G M F n rc rs pc lv (.long x :: .int i :: .ref (gb G + id) :: st) Z I J := by
  intro p e R s m args below meth c H locs cells slots ls hC hR hL hl h1 h2
  have hK := hC.2.2.2.2.2.2.2.2.1.1
  have hat := hR.2.2 id _ hT
  rw [jdc_l] at hat
  refine W.last hC.1 hC.2.1 hat ((hK.2 1 _ rfl).1 len (fun j => .long (J id j))) (fun q => by cases q) (by show ¬ (i < 0 ∨ (arrV _ _ _).slots.size ≤ _); rw [arrV_size]; exact hin) rfl rfl hdg fun H1 e1 z oq => ?_
  refine kk p e R s m args below meth c H1 _ cells slots ls hC (jdR_set hR hT z oq rfl rfl (fun j u hj => jdc_uJ u hj) ?_) (jd_locs hL) hl h1 h2
  rw [jdc_l, uJ_s]
  show H1[gb G + id]? = some (vp_cell _ _)
  rw [e1, vp_cell_l, vp_cell_l, arrV_store]
  congr 2
  funext q
  by_cases hq : q = i.toNatClampNeg
  · subst hq
    simp [updV, vp_updL]
  · simp [updV, vp_updL, hq]
theorem jd_alenI {id len : Nat} {v : Int32} (hT : Z.1 id = some (0, len)) (hv : Int32.ofNat len = v) (hdg : decode M.2.1 pc = .ok (.arraylength, 1)) (kk : Jd G M F n rc rs (pc + 1) lv (.int v :: st) Z I J) : Jd G M F n rc rs pc lv (.ref (gb G + id) :: st) Z I J := by
  intro p e R s m args below meth c H locs cells slots ls hC hR hL hl h1 h2
  have hP := jdR_one hR hT
  rw [jdc_i] at hP
  exact va_alen (tys := jdT G) hC.1 hC.2.1 hC.2.2.2.2.2.2.2.2.1.1 hP 0 0 rfl rfl hv hdg (kk p e R s m args below meth c H locs cells slots ls hC hR hL hl h1 h2)
end HP
/-! rows that make cells, and those of rows of references -/
def nZ (Z : jdL) (t : Nat × Nat) : jdL := ((fun a => if a = Z.2.2 then some t else Z.1 a), (fun a => if a = Z.2.2 then (fun _ => none) else Z.2.1 a), Z.2.2 + 1)
def zI (I : jdI) (id : Nat) : jdI := fun a => if a = id then (fun _ => 0) else I a
def zJ (J : jdJ) (id : Nat) : jdJ := fun a => if a = id then (fun _ => 0) else J a
theorem jdR_new {G : jdG} {Z : jdL} {I I' : jdI} {J J' : jdJ} {H H' : Heap} {t : Nat × Nat} (hR : jdR G Z I J H) (hz : H'.size = H.size + 1) (ho : ∀ q : Nat, q < H.size → H'[q]? = H[q]?)
    (hI : ∀ a, a ≠ Z.2.2 → I' a = I a) (hJ : ∀ a, a ≠ Z.2.2 → J' a = J a) (hnew : va_at G.2.1 vwCl (gb G + Z.2.2, jdc G (nZ Z t) I' J' Z.2.2 t) H') : jdR G (nZ Z t) I' J' H' := by
  refine ⟨by rw [hz, hR.1]; rfl, fun q hq => by rw [ho q (by have := hR.1; omega)]; exact hR.2.1 q hq, fun j u hu => ?_⟩
  by_cases hj : j = Z.2.2
  · subst hj
    have e : (nZ Z t).1 Z.2.2 = some t := if_pos rfl
    cases e.symm.trans hu
    exact hnew
  · have e : (nZ Z t).1 j = Z.1 j := if_neg hj
    rw [e] at hu
    have e2 : jdc G (nZ Z t) I' J' j u = jdc G Z I J j u := by
      simp only [jdc, nZ, if_neg hj, hI j hj, hJ j hj]
    rw [e2]
    have hl := (hR.2.2 j u hu).lt
    exact (hR.2.2 j u hu).kept (ho _ hl)
/-- a class that is made -/
def jdNw (ci : Nat) (own : String) (index : Nat) (N : Nat) : Prop := ∃ (C : String) (T : u_T) (ty0 : Nat → FieldType), vwCl[ci]? = some (C, T, N) ∧ (∀ w ∈ u_ws C T N, w ∈ jdW) ∧ (∀ k, k < N → parseFieldDescriptor (T k).2.2.1 = some (ty0 k)) ∧ Cond.classLink own index C ∈ jdW ∧ Cond.instantiable C N ∈ jdW ∧ Cond.initialized C ∈ jdW ∧ (∀ j, j < N → defaultValue (ty0 j) = vp_V (jdf 0 (fun _ => none) (fun _ => 0) (jdk ci) 0) j)
theorem jdf_0 (b : Nat) (I : Nat → Int32) : ∀ (ks : List Bool) (j : Nat), jdf b (fun _ => none) I ks j = jdf 0 (fun _ => none) I ks j
  | [], _ => rfl
  | r :: ks, j => by simp [jdf, jdf_0 b I ks (j + 1)]
section MK
variable {G : jdG} {M : jdM} {F : jdF} {n rc rs pc : Nat} {lv : List (Nat × Value)} {st : List Value} {Z : jdL} {I : jdI} {J : jdJ}
theorem jd_new {ci index N rc2 rs2 : Nat} (hf : jdNw ci M.1.cls index N) (hb1 : 1 + rc2 ≤ rc) (hb2 : N + rs2 ≤ rs) (hdg : decode M.2.1 pc = .ok (.new index, 3)) (kk : Jd G M F n rc2 rs2 (pc + 3) lv (.ref (gb G + Z.2.2) :: st) (nZ Z (ci + 10, 0)) (zI I Z.2.2) J) : Jd G M F n rc rs pc lv st Z I J := by
  intro p e R s m args below meth c H locs cells slots ls hC hR hL hl h1 h2
  obtain ⟨C, T, ty0, hc, hin, hty, hw1, hw2, hw3, hdef⟩ := hf
  have hts := hC.2.2.2.2.2.1
  have hK := hC.2.2.2.2.2.2.2.2.1.1
  have hKn := hK.1 ci _ hc
  refine W.newcK hC.1 hC.2.1 hC.2.2.2.2.1 (hts _ hw1) (hts _ hw2) (hts _ hw3) rfl hdg (by omega) (by omega) hKn.2.1 hR.1 fun H1 kC hkC e1 z1 o1 => ?_
  refine kk p e R s m args below meth c H1 locs (cells + 1) (slots + N) ls hC (jdR_new hR (by rw [z1, hR.1]) (fun q hq => o1 q (by rw [← hR.1]; exact hq)) (fun a ha => if_neg ha) (fun a _ => rfl) ?_) hL hl (by omega) (by omega)
  rw [jdc_o]
  have e2 : (nZ Z (ci + 10, 0)).2.1 Z.2.2 = (fun _ => none) := if_pos rfl
  have e3 : zI I Z.2.2 Z.2.2 = (fun _ => 0) := if_pos rfl
  rw [e2, e3, jdf_0]
  exact ⟨_, hc, (u_born ty0 hts hin hKn hkC e1 hty).to hdef⟩
theorem jd_newI {rc2 rs2 len : Nat} {x : Int32} (hw : Cond.arrayClass .int ∈ jdW) (hx : ¬ x < 0) (hx2 : x.toNatClampNeg = len) (hlen : len * 4 ≤ 536870912) (hb1 : 1 + rc2 ≤ rc) (hb2 : len + rs2 ≤ rs) (hdg : decode M.2.1 pc = .ok (.newarray .int, 2)) (kk : Jd G M F n rc2 rs2 (pc + 2) lv (.ref (gb G + Z.2.2) :: st) (nZ Z (0, len)) (zI I Z.2.2) J) : Jd G M F n rc rs pc lv (.int x :: st) Z I J := by
  intro p e R s m args below meth c H locs cells slots ls hC hR hL hl h1 h2
  have hts := hC.2.2.2.2.2.1
  have hK := hC.2.2.2.2.2.2.2.2.1.1
  refine va_newaK (atype := .int) hC.1 hC.2.1 (hts _ hw) rfl hdg rfl hx hx2 hlen (by omega) (by omega) hR.1 fun H1 cA e1 z1 o1 hAr hNm => ?_
  refine kk p e R s m args below meth c H1 locs (cells + 1) (slots + len) ls hC (jdR_new hR (by rw [z1, hR.1]) (fun q hq => o1 q (by rw [← hR.1]; exact hq)) (fun a ha => if_neg ha) (fun a _ => rfl) ?_) hL hl (by omega) (by omega)
  rw [jdc_i]
  have hcA : G.2.2.2.1 0 = cA := by
    have h9 := (hK.2 0 _ rfl).2
    exact Option.some.inj (h9.symm.trans hNm)
  have e3 : zI I Z.2.2 Z.2.2 = (fun _ => 0) := if_pos rfl
  rw [e3, hcA]
  exact e1
theorem jd_newJ {rc2 rs2 len : Nat} {x : Int32} (hw : Cond.arrayClass .long ∈ jdW) (hx : ¬ x < 0) (hx2 : x.toNatClampNeg = len) (hlen : len * 8 ≤ 536870912) (hb1 : 1 + rc2 ≤ rc) (hb2 : len + rs2 ≤ rs) (hdg : decode M.2.1 pc = .ok (.newarray .long, 2)) (kk : Jd G M F n rc2 rs2 (pc + 2) lv (.ref (gb G + Z.2.2) :: st) (nZ Z (1, len)) I (zJ J Z.2.2)) : Jd G M F n rc rs pc lv (.int x :: st) Z I J := by
  intro p e R s m args below meth c H locs cells slots ls hC hR hL hl h1 h2
  have hts := hC.2.2.2.2.2.1
  have hK := hC.2.2.2.2.2.2.2.2.1.1
  refine va_newaK (atype := .long) hC.1 hC.2.1 (hts _ hw) rfl hdg rfl hx hx2 hlen (by omega) (by omega) hR.1 fun H1 cA e1 z1 o1 hAr hNm => ?_
  refine kk p e R s m args below meth c H1 locs (cells + 1) (slots + len) ls hC (jdR_new hR (by rw [z1, hR.1]) (fun q hq => o1 q (by rw [← hR.1]; exact hq)) (fun a _ => rfl) (fun a ha => if_neg ha) ?_) hL hl (by omega) (by omega)
  rw [jdc_l]
  have hcA : G.2.2.2.1 1 = cA := by
    have h9 := (hK.2 1 _ rfl).2
    exact Option.some.inj (h9.symm.trans hNm)
  have e3 : zJ J Z.2.2 Z.2.2 = (fun _ => 0) := if_pos rfl
  rw [e3, hcA]
  exact e1
/-- Shelf[] -/
theorem jd_anew {rc2 rs2 len index : Nat} {x : Int32} (hw : Cond.classLink M.1.cls index RX6 ∈ jdW) (hX : ∀ U, G.2.2.2.2 U → va_AO RX6 U) (hx : ¬ x < 0) (hx2 : x.toNatClampNeg = len) (hlen : len * 4 ≤ 536870912) (hb1 : 1 + rc2 ≤ rc) (hb2 : len + rs2 ≤ rs) (hdg : decode M.2.1 pc = .ok (.anewarray index, 3)) (kk : Jd G M F n rc2 rs2 (pc + 3) lv (.ref (gb G + Z.2.2) :: st) (nZ Z (4, len)) I J) : Jd G M F n rc rs pc lv (.int x :: st) Z I J := by
  intro p e R s m args below meth c H locs cells slots ls hC hR hL hl h1 h2
  have hts := hC.2.2.2.2.2.1
  have hK := hC.2.2.2.2.2.2.2.2.1.1
  subst hx2
  refine W.anew hC.1 hC.2.1 hC.2.2.2.2.1 (hts _ hw) (va_AO.use (hX s hC.2.2.2.2.2.2.2.2.1.2.1)) rfl hdg rfl hx hlen (by omega) (by omega) fun cA kA comp f1 f2 f3 f4 => ?_
  have z0 := hR.1
  generalize hH1 : H.push ({ cls := cA, slots := Array.replicate x.toNatClampNeg .null, vm := .none } : Cell) = H1
  have z1 : H1.size = H.size + 1 := by rw [← hH1, Array.size_push]
  have e1 : H1[H.size]? = some (arrV cA x.toNatClampNeg (fun _ => .null)) := by rw [← hH1, Array.getElem?_push_size, ← arrV_new]
  have o1 : ∀ q : Nat, q < H.size → H1[q]? = H[q]? := fun q hq => by rw [← hH1, Array.getElem?_push, if_neg (Nat.ne_of_lt hq)]
  show W _ _ _ _ _ _ _ _ _ _ _ _ _ _ _ (F0 m (pc + 3) ls (.ref H.size :: st))
  rw [z0]
  refine kk p e R s m args below meth c H1 locs (cells + 1) (slots + x.toNatClampNeg) ls hC (jdR_new hR z1 o1 (fun a _ => rfl) (fun a _ => rfl) ?_) hL hl (by omega) (by omega)
  rw [jdc_r _ _ _ _ _ _ _ (by omega) (by omega)]
  have hcA : G.2.2.2.1 4 = cA := by
    obtain ⟨-, -, -, -, -, h9⟩ := (hK.2 4 _ rfl).2
    exact Option.some.inj (h9.symm.trans f1)
  have e2 : (nZ Z (4, x.toNatClampNeg)).2.1 Z.2.2 = (fun _ => none) := if_pos rfl
  rw [e2, hcA]
  show H1[gb G + Z.2.2]? = some (vp_cell _ _)
  rw [← z0, e1]
  rfl
end MK
section CA
variable {G : jdG} {M : jdM} {F : jdF} {n rc rs pc : Nat} {lv : List (Nat × Value)} {st : List Value} {Z : jdL} {I : jdI} {J : jdJ}
theorem jd_aald {id len k r : Nat} {i : Int32} (hT : Z.1 id = some (k, len)) (hk : k = 2 ∨ k = 3 ∨ k = 4) (hin : vp_in i len) (hp : Z.2.1 id i.toNatClampNeg = some r) (hdg : decode M.2.1 pc = .ok (.aaload, 1)) (kk : Jd G M F n rc rs (pc + 1) lv (.ref (gb G + r) :: st) Z I J) : Jd G M F n rc rs pc lv (.int i :: .ref (gb G + id) :: st) Z I J := by
  intro p e R s m args below meth c H locs cells slots ls hC hR hL hl h1 h2
  have hK := hC.2.2.2.2.2.2.2.2.1.1
  have hat := hR.2.2 id _ hT
  have hlt : i.toNatClampNeg < len := Nat.not_le.mp fun q => hin (Or.inr q)
  rw [jdc_r _ _ _ _ _ _ _ (by omega) (by omega)] at hat
  have hA : ∃ ty : FieldType, ty.isReference = true ∧ ArrOfT s (G.2.2.2.1 k) ty := by
    rcases hk with rfl | rfl | rfl
    · exact ⟨_, rfl, (hK.2 2 _ rfl).1⟩
    · exact ⟨_, rfl, (hK.2 3 _ rfl).1⟩
    · exact ⟨_, rfl, (hK.2 4 _ rfl).1⟩
  obtain ⟨ty, hty, hA⟩ := hA
  refine W.aald (v := .ref (gb G + r)) (ty := ty) hC.1 hC.2.1 hat (hA len (fun j => va_rf ((Z.2.1 id j).map (fun x => gb G + x)))) hty (fun q => by cases q) (by show ¬ (i < 0 ∨ (arrV _ _ _).slots.size ≤ _); rw [arrV_size]; exact hin) ?_ rfl rfl hdg (kk p e R s m args below meth c H locs cells slots ls hC hR hL hl h1 h2)
  show (arrV _ _ _).slots[_]? = _
  rw [arrV_read _ _ hlt]
  show some (va_rf (Option.map _ (Z.2.1 id i.toNatClampNeg))) = _
  rw [hp]
  rfl
theorem jd_iret {G : jdG} {Q : jdQ} {v : Int32} {ty : FieldType} (hr : M.2.2.2 = some ty) (hn : narrow ty (.int v) = .int v) (hdg : decode M.2.1 pc = .ok (.ireturn, 1)) (hQ : Q (some (.int v)) Z I J) : Jd G M (jdFm G Q) n rc rs pc lv [.int v] Z I J := by
  intro p e R s m args below meth c H locs cells slots ls hC hR hL hl h1 h2
  refine W.widen (k := R.cells) (n := R.slots) (by omega) (by omega) ?_
  exact W.zret hC.1 hC.2.1 (hC.2.2.1.trans hr) hn (fun t ht _ => ⟨_, Z, I, J, rfl, hQ, by rw [ht]; exact hR⟩) hL hdg hC.2.2.2.2.2.2.1
theorem jd_lret {G : jdG} {Q : jdQ} {v : Int64} (hr : M.2.2.2 = some .long) (hdg : decode M.2.1 pc = .ok (.lreturn, 1)) (hQ : Q (some (.long v)) Z I J) : Jd G M (jdFm G Q) n rc rs pc lv [.long v] Z I J := by
  intro p e R s m args below meth c H locs cells slots ls hC hR hL hl h1 h2
  refine W.widen (k := R.cells) (n := R.slots) (by omega) (by omega) ?_
  exact W.lret hC.1 hC.2.1 (hC.2.2.1.trans hr) (fun t ht _ => ⟨_, Z, I, J, rfl, hQ, by rw [ht]; exact hR⟩) hL hdg hC.2.2.2.2.2.2.1
theorem jd_vret {G : jdG} {Q : jdQ} (hr : M.2.2.2 = none) (hdg : decode M.2.1 pc = .ok (.return_, 1)) (hQ : Q none Z I J) : Jd G M (jdFm G Q) n rc rs pc lv [] Z I J := by
  intro p e R s m args below meth c H locs cells slots ls hC hR hL hl h1 h2
  refine W.widen (k := R.cells) (n := R.slots) (by omega) (by omega) ?_
  exact W.vret hC.1 hC.2.1 (hC.2.2.1.trans hr) (fun t ht _ => ⟨_, Z, I, J, rfl, hQ, by rw [ht]; exact hR⟩) hL hdg hC.2.2.2.2.2.2.1
theorem jd_aret {G : jdG} {Q : jdQ} {v : Value} {C : String} (hr : M.2.2.2 = some (.object C)) (hv : v = .null ∨ ∃ a, v = .ref a) (hdg : decode M.2.1 pc = .ok (.areturn, 1)) (hQ : Q (some v) Z I J) : Jd G M (jdFm G Q) n rc rs pc lv [v] Z I J := by
  intro p e R s m args below meth c H locs cells slots ls hC hR hL hl h1 h2
  refine W.widen (k := R.cells) (n := R.slots) (by omega) (by omega) ?_
  exact W.aret hC.1 hC.2.1 (hC.2.2.1.trans hr) (Or.inl ⟨_, rfl⟩) hv (fun t ht _ => ⟨_, Z, I, J, rfl, hQ, by rw [ht]; exact hR⟩) hL hdg hC.2.2.2.2.2.2.1
theorem jd_blind (G : jdG) (av : List Value) (Z : jdL) (I : jdI) (J : jdJ) : FrameBlind (jdPc G av Z I J) := by
  intro a U g mk h
  obtain ⟨h1, h2, h3, h4, h5⟩ := h
  exact ⟨h1, h2, va_K.moved (u := U) (U := U.calling g mk a) (Vm.Alike.refl U.vm) h3, h5 U (U.calling g mk a) (State.WarmedH.refl U) h4, h5⟩
theorem jd_pre {s : State} {H : Heap} (hR : jdR G Z I J H) (hK : jdK G s) (av : List Value) : PreS s H (jdPc G av Z I J) av :=
  ⟨jd_blind G av Z I J, fun U hU hW => ⟨rfl, by rw [hU]; exact hR, va_K.moved hW.alike hK.1, hK.2.2 s U hW hK.2.1, hK.2.2⟩⟩
/-- a method that is called: its words -/
def jdMc (M : jdM) (na : Nat) : Prop := Cond.code M.1 M.2.1 M.2.2.1 M.2.2.2 ∈ jdW ∧ Cond.initialized M.1.cls ∈ jdW ∧ (M.1.cls ≠ "java/lang/invoke/MethodHandle" ∧ M.1.cls ≠ "java/lang/invoke/VarHandle" ∧ (parseMethodDescriptor M.1.desc).map (fun d => d.parameters.length) = some na) ∧ M.2.2.1 ≤ 21
theorem jd_cb {M2 : jdM} {na mc ms index : Nat} (hm : jdMc M2 na) {p : Program} {R : Room} {s : State} {m : MethodId} {args : Array Value} {meth : Method} {c : Code} (hC : jdC G M (n + 1) p R s m args meth c) (hw : Cond.methodLink M.1.cls index M2.1 ∈ jdW) : CallB R s args M.1.cls index M2.1 M2.2.1 M2.2.2.1 M2.2.2.2 (jdws M2) (jdrm n mc ms) mc ms na :=
  callB_of (ws' := jdW) na hC.2.2.2.2.2.1 (jdW_good M2 hm.1) rfl rfl rfl (hC.2.2.2.2.2.1 _ hm.2.1) (hC.2.2.2.2.2.1 _ hw) hm.2.2.1 ⟨hC.2.2.2.2.2.2.2.2.2.1, by have h9 := hC.2.2.2.2.2.2.2.2.2.2; have h8 := hm.2.2.2; show 8 + (M2.2.2.1 + 11) + 40 * n ≤ R.locals; omega⟩
/-- behind a call -/
theorem jd_after {st0 : List Value} {mc ms rc2 rs2 : Nat} {Q : jdQ} {a : Array Value} {p : Program} {e : Env} {R : Room} {s : State} {m : MethodId} {args : Array Value} {below : List Frame} {meth : Method} {c : Code} {H : Heap} {locs : List Loc} {cells slots : Nat} {ls : Array Slot}
    (hr : va_Run p G.1 e R s m args below meth c H locs cells slots mc ms (F0 m pc ls st0) st (jdE G Q a) (fun q => gb G ≤ q)) (hC : jdC G M n p R s m args meth c) (hL : ∀ q ∈ locs, gb G ≤ q.base) (hl : lv_has ls M.2.2.1 lv) (h1 : cells + mc + rc2 ≤ R.cells) (h2 : slots + ms + rs2 ≤ R.slots)
    (kk : ∀ (r : Option Value) (Z2 : jdL) (I2 : jdI) (J2 : jdJ), Q r Z2 I2 J2 → Jd G M F n rc2 rs2 (pc + 3) lv (r.toList ++ st) Z2 I2 J2) : W p G.1 e R s m args below meth c H locs cells slots (F below args s R.cells R.slots) (F0 m pc ls st0) := by
  intro T hT X
  obtain ⟨v, st₀, t, T', L, h0, X', hL2, e1, e2, ⟨r, Z2, I2, J2, hv, hq, hR2⟩, stp⟩ := hr T hT X
  cases hv
  obtain ⟨t2, a1, b1⟩ := kk v Z2 I2 J2 hq p e R s m args below meth c T'.heap (locs ++ L) (cells + mc) (slots + ms) ls hC (by rw [e1]; exact hR2) (fun q hq => (List.mem_append.mp hq).elim (hL q) (hL2 q)) hl h1 h2 T' rfl X'
  exact ⟨t2, stp t2 a1, b1⟩
theorem jd_callS {M2 : jdM} {na mc ms rc2 rs2 index : Nat} {av st0 : List Value} (hm : jdMc M2 na) (hs : Cond.static M2.1 ∈ jdW) (hw : Cond.methodLink M.1.cls index M2.1 ∈ jdW) (hna : av.length = na) (hst0 : st0 = av.reverse ++ st) (hst : (st.map fun v => v.category).sum ≤ 8) (hb1 : mc + rc2 ≤ rc) (hb2 : ms + rs2 ≤ rs) (hdg : decode M.2.1 pc = .ok (.invokestatic index, 3))
    (kk : Cl G M2 n mc ms av Z I J (fun r Z2 I2 J2 => Jd G M F (n + 1) rc2 rs2 (pc + 3) lv (r.toList ++ st) Z2 I2 J2)) : Jd G M F (n + 1) rc rs pc lv st0 Z I J := by
  intro p e R s m args below meth c H locs cells slots ls hC hR hL hl h1 h2
  exact jd_after (va_runS (g := F0 m pc ls st0) (As := av) (rest := st) ⟨hC.1, hC.2.1, hC.2.2.2.1, hC.2.2.2.2.1, hC.2.2.2.2.2.1⟩ kk ⟨jd_cb hm hC hw, hC.2.2.2.2.2.1 _ hs⟩ (jd_pre hR hC.2.2.2.2.2.2.2.2.1 av) rfl hna hl.1 hst0 (lv_room hst) hdg ⟨by omega, by omega⟩) hC hL hl (by omega) (by omega) (fun r Z2 I2 J2 h => h)
theorem jd_recv {s : State} {H : Heap} {id ci : Nat} {C : String} {T : u_T} {N : Nat} (hR : jdR G Z I J H) (hK : jdK G s) (hT : Z.1 id = some (ci + 10, 0)) (hc : vwCl[ci]? = some (C, T, N)) : ∃ cell : Cell, H[gb G + id]? = some cell ∧ cell.vm.isStatics = false ∧ s.vm.findClass C = some cell.cls := by
  have hP := jdR_one hR hT
  rw [jdc_o] at hP
  exact va_recv hK.1 hP hc (q0 := 0) rfl
/-- a call of a method of the receiver's own class -/
theorem jd_callV {M2 : jdM} {na mc ms rc2 rs2 index id ci N : Nat} {T : u_T} {av st0 : List Value} (hm : jdMc M2 na) (hs : Cond.instanceMethod M2.1 ∈ jdW ∧ Cond.selects M2.1.cls M2.1 M2.1 ∈ jdW) (hc : vwCl[ci]? = some (M2.1.cls, T, N)) (hT : Z.1 id = some (ci + 10, 0)) (hw : Cond.methodLink M.1.cls index M2.1 ∈ jdW) (hna : av.length = na) (hst0 : st0 = av.reverse ++ .ref (gb G + id) :: st) (hst : (st.map fun v => v.category).sum ≤ 8) (hb1 : mc + rc2 ≤ rc) (hb2 : ms + rs2 ≤ rs) (hdg : decode M.2.1 pc = .ok (.invokevirtual index, 3))
    (kk : Cl G M2 n mc ms (.ref (gb G + id) :: av) Z I J (fun r Z2 I2 J2 => Jd G M F (n + 1) rc2 rs2 (pc + 3) lv (r.toList ++ st) Z2 I2 J2)) : Jd G M F (n + 1) rc rs pc lv st0 Z I J := by
  intro p e R s m args below meth c H locs cells slots ls hC hR hL hl h1 h2
  have hp := jd_pre hR hC.2.2.2.2.2.2.2.2.1 (.ref (gb G + id) :: av)
  exact jd_after (va_runV (g := F0 m pc ls st0) (As := av) (rest := st) (C := M2.1.cls) (b := gb G + id) ⟨hC.1, hC.2.1, hC.2.2.2.1, hC.2.2.2.2.1, hC.2.2.2.2.2.1⟩ kk ⟨jd_cb hm hC hw, hC.2.2.2.2.2.1 _ hs.1, hC.2.2.2.2.2.1 _ hs.2⟩ ⟨hp.1, jd_recv hR hC.2.2.2.2.2.2.2.2.1 hT hc, hp.2⟩ rfl hna hl.1 hst0 (lv_room hst) hdg ⟨by omega, by omega⟩) hC hL hl (by omega) (by omega) (fun r Z2 I2 J2 h => h)
/-- a constructor -/
theorem jd_callI {M2 : jdM} {na mc ms rc2 rs2 index id : Nat} {av st0 : List Value} (hm : jdMc M2 na) (hs : M2.1.name = "<init>" ∧ Cond.instanceMethod M2.1 ∈ jdW ∧ M2.2.2.2 = none) (hw : Cond.methodLink M.1.cls index M2.1 ∈ jdW) (hna : av.length = na) (hst0 : st0 = av.reverse ++ .ref (gb G + id) :: st) (hst : (st.map fun v => v.category).sum ≤ 8) (hb1 : mc + rc2 ≤ rc) (hb2 : ms + rs2 ≤ rs) (hdg : decode M.2.1 pc = .ok (.invokespecial index, 3))
    (kk : Cl G M2 n mc ms (.ref (gb G + id) :: av) Z I J (fun r Z2 I2 J2 => Jd G M F (n + 1) rc2 rs2 (pc + 3) lv (r.toList ++ st) Z2 I2 J2)) : Jd G M F (n + 1) rc rs pc lv st0 Z I J := by
  intro p e R s m args below meth c H locs cells slots ls hC hR hL hl h1 h2
  have hp := jd_pre hR hC.2.2.2.2.2.2.2.2.1 (.ref (gb G + id) :: av)
  have cb : CallB R s args M.1.cls index M2.1 M2.2.1 M2.2.2.1 none (jdws M2) (jdrm n mc ms) mc ms na := by
    rw [← hs.2.2]
    exact jd_cb hm hC hw
  exact jd_after (va_runI (g := F0 m pc ls st0) (As := av) (rest := st) (b := gb G + id) ⟨hC.1, hC.2.1, hC.2.2.2.1, hC.2.2.2.2.1, hC.2.2.2.2.2.1⟩ kk ⟨cb, hs.1, hC.2.2.2.2.2.1 _ hs.2.1⟩ hp rfl hna hl.1 hst0 (lv_room hst) hdg ⟨by omega, by omega⟩) hC hL hl (by omega) (by omega) (fun r Z2 I2 J2 h => h)
/-- a nest mate's constructor -/
theorem jd_callIN {M2 : jdM} {na mc ms rc2 rs2 index id : Nat} {host : String} {av st0 : List Value} (hm : jdMc M2 na) (hs : M2.1.name = "<init>" ∧ Cond.instanceMethod M2.1 ∈ jdW ∧ M2.2.2.2 = none) (hX : ∀ U, G.2.2.2.2 U → va_Nw (.methodLinkNest M.1.cls index M2.1 host) U) (hna : av.length = na) (hst0 : st0 = av.reverse ++ .ref (gb G + id) :: st) (hst : (st.map fun v => v.category).sum ≤ 8) (hb1 : mc + rc2 ≤ rc) (hb2 : ms + rs2 ≤ rs) (hdg : decode M.2.1 pc = .ok (.invokespecial index, 3))
    (kk : Cl G M2 n mc ms (.ref (gb G + id) :: av) Z I J (fun r Z2 I2 J2 => Jd G M F (n + 1) rc2 rs2 (pc + 3) lv (r.toList ++ st) Z2 I2 J2)) : Jd G M F (n + 1) rc rs pc lv st0 Z I J := by
  intro p e R s m args below meth c H locs cells slots ls hC hR hL hl h1 h2
  have hp := jd_pre hR hC.2.2.2.2.2.2.2.2.1 (.ref (gb G + id) :: av)
  have cb : va_CN R s args M.1.cls index M2.1 host M2.2.1 M2.2.2.1 none (jdws M2) (jdrm n mc ms) mc ms na := by
    have h := va_cnB (R := R) (ws' := jdW) (ws := jdws M2) (rm := jdrm n mc ms) na hC.2.2.2.2.2.1 (jdW_good M2 hm.1) rfl rfl rfl (hX s hC.2.2.2.2.2.2.2.2.1.2.1) (hC.2.2.2.2.2.1 _ hm.2.1) hm.2.2.1 ⟨hC.2.2.2.2.2.2.2.2.2.1, by have h9 := hC.2.2.2.2.2.2.2.2.2.2; have h8 := hm.2.2.2; show 8 + (M2.2.2.1 + 11) + 40 * n ≤ R.locals; omega⟩
    rw [hs.2.2] at h
    exact h
  exact jd_after (va_runIN (g := F0 m pc ls st0) (As := av) (rest := st) (b := gb G + id) ⟨hC.1, hC.2.1, hC.2.2.2.1, hC.2.2.2.2.1, hC.2.2.2.2.2.1⟩ kk ⟨cb, hs.1, hC.2.2.2.2.2.1 _ hs.2.1⟩ hp rfl hna hl.1 hst0 (lv_room hst) hdg ⟨by omega, by omega⟩) hC hL hl (by omega) (by omega) (fun r Z2 I2 J2 h => h)
theorem jd_objInit {index id : Nat} (hw : Cond.methodLink M.1.cls index objectInit ∈ jdW ∧ Cond.instanceMethod objectInit ∈ jdW ∧ Cond.code objectInit ⟨#[0xb1]⟩ 1 none ∈ jdW) (hst : (st.map fun v => v.category).sum ≤ 8) (hdg : decode M.2.1 pc = .ok (.invokespecial index, 3)) (kk : Jd G M F (n + 1) rc rs (pc + 3) lv st Z I J) : Jd G M F (n + 1) rc rs pc lv (.ref (gb G + id) :: st) Z I J := by
  intro p e R s m args below meth c H locs cells slots ls hC hR hL hl h1 h2
  have hts := hC.2.2.2.2.2.1
  have h8 := hC.2.2.2.2.2.2.2.2.2.1
  have h9 := hC.2.2.2.2.2.2.2.2.2.2
  exact W.objInit hC.1 hC.2.1 hC.2.2.2.2.1 (hts _ hw.1) (hts _ hw.2.1) (hts _ hw.2.2) rfl (hl.1.trans hC.2.2.2.1.symm) rfl hdg (by omega) (by show 2 * 0 + _ + 12 ≤ _; omega) (kk p e R s m args below meth c H locs cells slots ls hC hR hL hl h1 h2)
end CA
/-! more rows: overridden methods, System.arraycopy, Math, long compares, final fields, instanceof, new T[n][m] -/
section MO
variable {G : jdG} {M : jdM} {F : jdF} {n rc rs pc : Nat} {lv : List (Nat × Value)} {st : List Value} {Z : jdL} {I : jdI} {J : jdJ}
theorem jd_lcmp {x y : Int64} (hdg : decode M.2.1 pc = .ok (.lcmp, 1)) (k : Jd G M F n rc rs (pc + 1) lv (.int (lg_cmp x y) :: st) Z I J) : Jd G M F n rc rs pc lv (.long y :: .long x :: st) Z I J :=
  fun p e R s m args below meth c H locs cells slots ls hC hR hL hl h1 h2 => W.lcmp hC.1 hC.2.1 hdg (k p e R s m args below meth c H locs cells slots ls hC hR hL hl h1 h2)
/-- a call by the name x of a class above, on a receiver of class ci, whose method is M2 -/
theorem jd_callU {M2 : jdM} {x : MethodName} {na mc ms rc2 rs2 index id ci N : Nat} {C owner : String} {T : u_T} {av st0 : List Value} (hm : jdMc M2 na) (hs : Cond.instanceMethod M2.1 ∈ jdW ∧ Cond.selects C x M2.1 ∈ jdW ∧ Cond.sameMethod x.cls owner x.name x.desc ∈ jdW)
    (hx : owner ≠ "java/lang/invoke/MethodHandle" ∧ owner ≠ "java/lang/invoke/VarHandle" ∧ x.desc = M2.1.desc) (hd : (Cond.instanceMethod ⟨owner, x.name, x.desc⟩ ∈ jdW ∧ ∃ (b0 : ByteArray) (m0 : Nat) (r0 : Option FieldType), Cond.code ⟨owner, x.name, x.desc⟩ b0 m0 r0 ∈ jdW) ∨ ∀ U, G.2.2.2.2 U → va_Decl U ⟨owner, x.name, x.desc⟩) (hc : vwCl[ci]? = some (C, T, N)) (hT : Z.1 id = some (ci + 10, 0)) (hw : Cond.methodLink M.1.cls index x ∈ jdW) (hna : av.length = na) (hst0 : st0 = av.reverse ++ .ref (gb G + id) :: st) (hst : (st.map fun v => v.category).sum ≤ 8) (hb1 : mc + rc2 ≤ rc) (hb2 : ms + rs2 ≤ rs) (hdg : decode M.2.1 pc = .ok (.invokevirtual index, 3))
    (kk : Cl G M2 n mc ms (.ref (gb G + id) :: av) Z I J (fun r Z2 I2 J2 => Jd G M F (n + 1) rc2 rs2 (pc + 3) lv (r.toList ++ st) Z2 I2 J2)) : Jd G M F (n + 1) rc rs pc lv st0 Z I J := by
  intro p e R s m args below meth c H locs cells slots ls hC hR hL hl h1 h2
  have hp := jd_pre hR hC.2.2.2.2.2.2.2.2.1 (.ref (gb G + id) :: av)
  have hts := hC.2.2.2.2.2.1
  have hdec : va_Decl s ⟨owner, x.name, x.desc⟩ := by
    rcases hd with ⟨h3, b0, m0, r0, h4⟩ | h3
    · exact va_Decl.of (hts _ h3) (hts _ h4)
    · exact h3 s hC.2.2.2.2.2.2.2.2.1.2.1
  have cw : va_CU R s args M.1.cls C owner index x M2.1 M2.2.1 M2.2.2.1 M2.2.2.2 (jdws M2) (jdrm n mc ms) mc ms na := by
    refine ⟨⟨rfl, rfl, hC.2.2.2.2.2.2.2.2.2.1, by have h9 := hC.2.2.2.2.2.2.2.2.2.2; have h8 := hm.2.2.2; show 8 + (M2.2.2.1 + 11) + 40 * n ≤ R.locals; omega, pay_in hts (jdW_good M2 hm.1), List.mem_cons_self⟩, hts _ hm.1, hts _ hm.2.1, ⟨hx.1, hx.2.1⟩, fun sig h => ?_, hts _ hw, hts _ hs.2.2, hdec, hts _ hs.2.1, hts _ hs.1⟩
    have h9 := hm.2.2.1.2.2
    rw [← hx.2.2, h] at h9
    exact (Option.some.inj h9).symm
  exact jd_after (va_runU (g := F0 m pc ls st0) (As := av) (rest := st) (C := C) (owner := owner) (b := gb G + id) ⟨hC.1, hC.2.1, hC.2.2.2.1, hC.2.2.2.2.1, hts⟩ kk cw ⟨hp.1, jd_recv hR hC.2.2.2.2.2.2.2.2.1 hT hc, hp.2⟩ rfl hna hl.1 hst0 (lv_room hst) hdg ⟨by omega, by omega⟩) hC hL hl (by omega) (by omega) (fun r Z2 I2 J2 h => h)
def jdWc (own : String) (index : Nat) : Prop := Cond.methodLink own index arraycopyName ∈ jdW ∧ Cond.native arraycopyName ∈ jdW ∧ Cond.static arraycopyName ∈ jdW ∧ Cond.initialized "java/lang/System" ∈ jdW
def cI (I : jdI) (a b sp dp k : Nat) : jdI := fun q => if q = b then va_cpy (I a) (I b) sp dp k else I q
def cJ (J : jdJ) (a b sp dp k : Nat) : jdJ := fun q => if q = b then va_cpy (J a) (J b) sp dp k else J q
theorem jd_nn : ∀ z : Int32, ¬ z < 0 → z.toInt = (z.toNatClampNeg : Int) := by
  intro z hz
  have hz0 : (0 : Int) ≤ z.toInt := by
    have := Int32.not_lt.mp hz
    simpa using Int32.le_iff_toInt_le.mp this
  show z.toInt = ((z.toInt.toNat : Nat) : Int)
  omega
theorem jd_copyI {a b n0 n1 index : Nat} {sp dp k : Int32} (hw : jdWc M.1.cls index) (hTa : Z.1 a = some (0, n0)) (hTb : Z.1 b = some (0, n1)) (hst : (st.map fun v => v.category).sum ≤ 8) (g1 : ¬ sp < 0) (g2 : ¬ dp < 0) (g3 : ¬ k < 0) (h4 : sp.toNatClampNeg + k.toNatClampNeg ≤ n0) (h5 : dp.toNatClampNeg + k.toNatClampNeg ≤ n1) (hdg : decode M.2.1 pc = .ok (.invokestatic index, 3))
    (kk : Jd G M F (n + 1) rc rs (pc + 3) lv st Z (cI I a b sp.toNatClampNeg dp.toNatClampNeg k.toNatClampNeg) J) : Jd G M F (n + 1) rc rs pc lv (.int k :: .int dp :: .ref (gb G + b) :: .int sp :: .ref (gb G + a) :: st) Z I J := by
  intro p e R s m args below meth c H locs cells slots ls hC hR hL hl h1 h2
  have hts := hC.2.2.2.2.2.1
  have hK := hC.2.2.2.2.2.2.2.2.1.1
  have f8 := hC.2.2.2.2.2.2.2.2.2.1
  have f9 := hC.2.2.2.2.2.2.2.2.2.2
  have hc0 : H[gb G + a]? = some (vp_cell (G.2.2.2.1 0) (n0, .inl (I a))) := by have h := hR.2.2 a _ hTa; rw [jdc_i] at h; exact h
  have hc1 : H[gb G + b]? = some (vp_cell (G.2.2.2.1 0) (n1, .inl (I b))) := by have h := hR.2.2 b _ hTb; rw [jdc_i] at h; exact h
  obtain ⟨-, k0, hk0, cm0, hkk0⟩ := (hK.2 0 _ rfl).1 n0 (fun j => .int (I a j))
  obtain ⟨-, k1, hk1, cm1, hkk1⟩ := (hK.2 0 _ rfl).1 n1 (fun j => .int (I b j))
  have f7 : nativeFrameWords "java/lang/System" "arraycopy" 5 ≤ 21 := by decide +kernel
  intro T hT X
  obtain ⟨vm', X', step⟩ := X.arraycopy hC.1 hC.2.2.2.2.1 (hts _ hw.1) (hts _ hw.2.1) (hts _ hw.2.2.1) (hts _ hw.2.2.2) (src := gb G + a) (dst := gb G + b) (cs := vp_cell (G.2.2.2.1 0) (n0, .inl (I a))) (cd := vp_cell (G.2.2.2.1 0) (n1, .inl (I b))) (srcPos := sp) (destPos := dp) (n := k) (by rw [hT]; exact hc0) (by rw [hT]; exact hc1)
    (fun _ h => by cases h) (fun _ h => by cases h) (fun h => by cases h) (fun h => by cases h) hk0 hk1 hkk0 hkk1 (by simp [refKind]) g1 g2 g3
    (by rw [jd_nn sp g1, jd_nn k g3]; show ¬ _ > ((arrV (G.2.2.2.1 0) n0 (fun j => .int (I a j))).slots.size : Int); rw [arrV_size]; omega)
    (by rw [jd_nn dp g2, jd_nn k g3]; show ¬ _ > ((arrV (G.2.2.2.1 0) n1 (fun j => .int (I b j))).slots.size : Int); rw [arrV_size]; omega)
    (fun vm₁ _ i hi => by
      have e : (vp_cell (G.2.2.2.1 0) (n0, .inl (I a))).slots.getD (sp.toNatClampNeg + i) .null = .int (I a (sp.toNatClampNeg + i)) := by
        show (arrV (G.2.2.2.1 0) n0 (fun j => .int (I a j))).slots.getD _ _ = _
        rw [Array.getD_eq_getD_getElem?, arrV_read _ _ (by omega)]
        rfl
      refine ⟨?_, ?_⟩
      · rw [e]
        rfl
      · rw [e]
        exact trivial)
    (g := F0 m pc ls (.int k :: .int dp :: .ref (gb G + b) :: .int sp :: .ref (gb G + a) :: st)) rfl (by rw [hC.2.2.2.1]; exact hl.1) (rest := st) rfl (by rw [hC.2.1]; exact hdg) (by omega) (by show 2 * 0 + _ + (_ + 11) ≤ _; omega)
  have e1 : copied (vp_cell (G.2.2.2.1 0) (n0, .inl (I a))) (vp_cell (G.2.2.2.1 0) (n1, .inl (I b))) sp dp k = vp_cell (G.2.2.2.1 0) (n1, .inl (va_cpy (I a) (I b) sp.toNatClampNeg dp.toNatClampNeg k.toNatClampNeg)) := va_copied (fun z => .int z) _ _ (I a) (I b) h4
  rw [e1] at X' step
  have hlt : gb G + b < H.size := (Array.getElem?_eq_some_iff.mp hc1).1
  have hheap : ((T.setVm vm').setCell (gb G + b) (vp_cell (G.2.2.2.1 0) (n1, .inl (va_cpy (I a) (I b) sp.toNatClampNeg dp.toNatClampNeg k.toNatClampNeg)))).heap = H.setIfInBounds (gb G + b) (vp_cell (G.2.2.2.1 0) (n1, .inl (va_cpy (I a) (I b) sp.toNatClampNeg dp.toNatClampNeg k.toNatClampNeg))) := by rw [← hT]; rfl
  have oq : ∀ q : Nat, q ≠ gb G + b → (H.setIfInBounds (gb G + b) (vp_cell (G.2.2.2.1 0) (n1, .inl (va_cpy (I a) (I b) sp.toNatClampNeg dp.toNatClampNeg k.toNatClampNeg))))[q]? = H[q]? := fun q hq => by simp [Array.getElem?_setIfInBounds, Ne.symm hq]
  obtain ⟨t, a1, b1⟩ := kk p e R s m args below meth c _ _ cells slots ls hC (jdR_set hR hTb (by simp) oq rfl rfl (fun j u hj => by simp only [jdc, cI, if_neg hj]) (by
      rw [jdc_i, show cI I a b sp.toNatClampNeg dp.toNatClampNeg k.toNatClampNeg b = va_cpy (I a) (I b) sp.toNatClampNeg dp.toNatClampNeg k.toNatClampNeg from if_pos rfl]
      show (H.setIfInBounds (gb G + b) _)[gb G + b]? = some _
      simp [Array.getElem?_setIfInBounds, hlt])) (fun q hq => by
      rcases List.mem_append.mp hq with h | h
      · exact hL q h
      · obtain ⟨z, -, hz⟩ := List.mem_map.mp h
        rw [← hz]
        exact Nat.le_add_right _ _) hl h1 h2 _ hheap X'
  exact ⟨t, step t a1, b1⟩
theorem jd_copyJ {a b n0 n1 index : Nat} {sp dp k : Int32} (hw : jdWc M.1.cls index) (hTa : Z.1 a = some (1, n0)) (hTb : Z.1 b = some (1, n1)) (hst : (st.map fun v => v.category).sum ≤ 8) (g1 : ¬ sp < 0) (g2 : ¬ dp < 0) (g3 : ¬ k < 0) (h4 : sp.toNatClampNeg + k.toNatClampNeg ≤ n0) (h5 : dp.toNatClampNeg + k.toNatClampNeg ≤ n1) (hdg : decode M.2.1 pc = .ok (.invokestatic index, 3))
    (kk : Jd G M F (n + 1) rc rs (pc + 3) lv st Z I (cJ J a b sp.toNatClampNeg dp.toNatClampNeg k.toNatClampNeg)) : Jd G M F (n + 1) rc rs pc lv (.int k :: .int dp :: .ref (gb G + b) :: .int sp :: .ref (gb G + a) :: st) Z I J := by
  intro p e R s m args below meth c H locs cells slots ls hC hR hL hl h1 h2
  have hts := hC.2.2.2.2.2.1
  have hK := hC.2.2.2.2.2.2.2.2.1.1
  have f8 := hC.2.2.2.2.2.2.2.2.2.1
  have f9 := hC.2.2.2.2.2.2.2.2.2.2
  have hc0 : H[gb G + a]? = some (vp_cell (G.2.2.2.1 1) (n0, .inr (.inl (J a)))) := by have h := hR.2.2 a _ hTa; rw [jdc_l] at h; exact h
  have hc1 : H[gb G + b]? = some (vp_cell (G.2.2.2.1 1) (n1, .inr (.inl (J b)))) := by have h := hR.2.2 b _ hTb; rw [jdc_l] at h; exact h
  obtain ⟨-, k0, hk0, cm0, hkk0⟩ := (hK.2 1 _ rfl).1 n0 (fun j => .long (J a j))
  obtain ⟨-, k1, hk1, cm1, hkk1⟩ := (hK.2 1 _ rfl).1 n1 (fun j => .long (J b j))
  have f7 : nativeFrameWords "java/lang/System" "arraycopy" 5 ≤ 21 := by decide +kernel
  intro T hT X
  obtain ⟨vm', X', step⟩ := X.arraycopy hC.1 hC.2.2.2.2.1 (hts _ hw.1) (hts _ hw.2.1) (hts _ hw.2.2.1) (hts _ hw.2.2.2) (src := gb G + a) (dst := gb G + b) (cs := vp_cell (G.2.2.2.1 1) (n0, .inr (.inl (J a)))) (cd := vp_cell (G.2.2.2.1 1) (n1, .inr (.inl (J b)))) (srcPos := sp) (destPos := dp) (n := k) (by rw [hT]; exact hc0) (by rw [hT]; exact hc1)
    (fun _ h => by cases h) (fun _ h => by cases h) (fun h => by cases h) (fun h => by cases h) hk0 hk1 hkk0 hkk1 (by simp [refKind]) g1 g2 g3
    (by rw [jd_nn sp g1, jd_nn k g3]; show ¬ _ > ((arrV (G.2.2.2.1 1) n0 (fun j => .long (J a j))).slots.size : Int); rw [arrV_size]; omega)
    (by rw [jd_nn dp g2, jd_nn k g3]; show ¬ _ > ((arrV (G.2.2.2.1 1) n1 (fun j => .long (J b j))).slots.size : Int); rw [arrV_size]; omega)
    (fun vm₁ _ i hi => by
      have e : (vp_cell (G.2.2.2.1 1) (n0, .inr (.inl (J a)))).slots.getD (sp.toNatClampNeg + i) .null = .long (J a (sp.toNatClampNeg + i)) := by
        show (arrV (G.2.2.2.1 1) n0 (fun j => .long (J a j))).slots.getD _ _ = _
        rw [Array.getD_eq_getD_getElem?, arrV_read _ _ (by omega)]
        rfl
      refine ⟨?_, ?_⟩
      · rw [e]
        rfl
      · rw [e]
        exact trivial)
    (g := F0 m pc ls (.int k :: .int dp :: .ref (gb G + b) :: .int sp :: .ref (gb G + a) :: st)) rfl (by rw [hC.2.2.2.1]; exact hl.1) (rest := st) rfl (by rw [hC.2.1]; exact hdg) (by omega) (by show 2 * 0 + _ + (_ + 11) ≤ _; omega)
  have e1 : copied (vp_cell (G.2.2.2.1 1) (n0, .inr (.inl (J a)))) (vp_cell (G.2.2.2.1 1) (n1, .inr (.inl (J b)))) sp dp k = vp_cell (G.2.2.2.1 1) (n1, .inr (.inl (va_cpy (J a) (J b) sp.toNatClampNeg dp.toNatClampNeg k.toNatClampNeg))) := va_copied (fun z => .long z) _ _ (J a) (J b) h4
  rw [e1] at X' step
  have hlt : gb G + b < H.size := (Array.getElem?_eq_some_iff.mp hc1).1
  have hheap : ((T.setVm vm').setCell (gb G + b) (vp_cell (G.2.2.2.1 1) (n1, .inr (.inl (va_cpy (J a) (J b) sp.toNatClampNeg dp.toNatClampNeg k.toNatClampNeg))))).heap = H.setIfInBounds (gb G + b) (vp_cell (G.2.2.2.1 1) (n1, .inr (.inl (va_cpy (J a) (J b) sp.toNatClampNeg dp.toNatClampNeg k.toNatClampNeg)))) := by rw [← hT]; rfl
  have oq : ∀ q : Nat, q ≠ gb G + b → (H.setIfInBounds (gb G + b) (vp_cell (G.2.2.2.1 1) (n1, .inr (.inl (va_cpy (J a) (J b) sp.toNatClampNeg dp.toNatClampNeg k.toNatClampNeg)))))[q]? = H[q]? := fun q hq => by simp [Array.getElem?_setIfInBounds, Ne.symm hq]
  obtain ⟨t, a1, b1⟩ := kk p e R s m args below meth c _ _ cells slots ls hC (jdR_set hR hTb (by simp) oq rfl rfl (fun j u hj => by simp only [jdc, cJ, if_neg hj]) (by
      rw [jdc_l, show cJ J a b sp.toNatClampNeg dp.toNatClampNeg k.toNatClampNeg b = va_cpy (J a) (J b) sp.toNatClampNeg dp.toNatClampNeg k.toNatClampNeg from if_pos rfl]
      show (H.setIfInBounds (gb G + b) _)[gb G + b]? = some _
      simp [Array.getElem?_setIfInBounds, hlt])) (fun q hq => by
      rcases List.mem_append.mp hq with h | h
      · exact hL q h
      · obtain ⟨z, -, hz⟩ := List.mem_map.mp h
        rw [← hz]
        exact Nat.le_add_right _ _) hl h1 h2 _ hheap X'
  exact ⟨t, step t a1, b1⟩
def jdWm (own : String) (index : Nat) (mx : Bool) : Prop := if mx = true then Cond.methodLink own index Lib.Math.max.name ∈ jdW ∧ Cond.static Lib.Math.max.name ∈ jdW ∧ Cond.initialized "java/lang/Math" ∈ jdW ∧ Cond.code Lib.Math.max.name Lib.Math.max.code 2 (some .int) ∈ jdW else Cond.methodLink own index Lib.Math.min.name ∈ jdW ∧ Cond.static Lib.Math.min.name ∈ jdW ∧ Cond.initialized "java/lang/Math" ∈ jdW ∧ Cond.code Lib.Math.min.name Lib.Math.min.code 2 (some .int) ∈ jdW
theorem jd_max {index : Nat} {x y : Int32} (hw : jdWm M.1.cls index true) (hst : (st.map fun v => v.category).sum ≤ 8) (hdg : decode M.2.1 pc = .ok (.invokestatic index, 3)) (kk : Jd G M F (n + 1) rc rs (pc + 3) lv (.int (if x < y then y else x) :: st) Z I J) : Jd G M F (n + 1) rc rs pc lv (.int y :: .int x :: st) Z I J := by
  intro p e R s m args below meth c H locs cells slots ls hC hR hL hl h1 h2
  have hts := hC.2.2.2.2.2.1
  have f8 := hC.2.2.2.2.2.2.2.2.2.1
  have f9 := hC.2.2.2.2.2.2.2.2.2.2
  unfold jdWm at hw
  rw [if_pos rfl] at hw
  exact va_mmax hC.1 hC.2.1 (hC.2.2.2.1.trans hl.1.symm) hC.2.2.2.2.1 (hts _ hw.1) (hts _ hw.2.1) (hts _ hw.2.2.1) (hts _ hw.2.2.2) (by omega) (by omega) (by omega) (by omega) hdg (kk p e R s m args below meth c H locs cells slots ls hC hR hL hl h1 h2)
theorem jd_min {index : Nat} {x y : Int32} (hw : jdWm M.1.cls index false) (hst : (st.map fun v => v.category).sum ≤ 8) (hdg : decode M.2.1 pc = .ok (.invokestatic index, 3)) (kk : Jd G M F (n + 1) rc rs (pc + 3) lv (.int (if y < x then y else x) :: st) Z I J) : Jd G M F (n + 1) rc rs pc lv (.int y :: .int x :: st) Z I J := by
  intro p e R s m args below meth c H locs cells slots ls hC hR hL hl h1 h2
  have hts := hC.2.2.2.2.2.1
  have f8 := hC.2.2.2.2.2.2.2.2.2.1
  have f9 := hC.2.2.2.2.2.2.2.2.2.2
  unfold jdWm at hw
  rw [if_neg (by decide)] at hw
  exact va_mmin hC.1 hC.2.1 (hC.2.2.2.1.trans hl.1.symm) hC.2.2.2.2.1 (hts _ hw.1) (hts _ hw.2.1) (hts _ hw.2.2.1) (hts _ hw.2.2.2) (by omega) (by omega) (by omega) (by omega) hdg (kk p e R s m args below meth c H locs cells slots ls hC hR hL hl h1 h2)
/-- instanceof -/
theorem jd_instY {index id ci N : Nat} {nm C : String} {T : u_T} (hw : Cond.classLink M.1.cls index nm ∈ jdW) (hX : ∀ U, G.2.2.2.2 U → va_Nw (.castable C nm) U) (hc : vwCl[ci]? = some (C, T, N)) (hT : Z.1 id = some (ci + 10, 0)) (hdg : decode M.2.1 pc = .ok (.instanceof index, 3)) (kk : Jd G M F n rc rs (pc + 3) lv (.int 1 :: st) Z I J) : Jd G M F n rc rs pc lv (.ref (gb G + id) :: st) Z I J := by
  intro p e R s m args below meth c H locs cells slots ls hC hR hL hl h1 h2
  exact va_instY hC.1 hC.2.1 hC.2.2.2.2.1 (hC.2.2.2.2.2.1 _ hw) (hX s hC.2.2.2.2.2.2.2.2.1.2.1) (jd_recv hR hC.2.2.2.2.2.2.2.2.1 hT hc) hdg (kk p e R s m args below meth c H locs cells slots ls hC hR hL hl h1 h2)
theorem jd_instS {index id ci N : Nat} {C : String} {T : u_T} (hw : Cond.classLink M.1.cls index C ∈ jdW) (hc : vwCl[ci]? = some (C, T, N)) (hT : Z.1 id = some (ci + 10, 0)) (hdg : decode M.2.1 pc = .ok (.instanceof index, 3)) (kk : Jd G M F n rc rs (pc + 3) lv (.int 1 :: st) Z I J) : Jd G M F n rc rs pc lv (.ref (gb G + id) :: st) Z I J := by
  intro p e R s m args below meth c H locs cells slots ls hC hR hL hl h1 h2
  exact va_instS hC.1 hC.2.1 hC.2.2.2.2.1 (hC.2.2.2.2.2.1 _ hw) (hC.2.2.2.2.2.2.2.2.1.1.1 ci _ hc).2 (jd_recv hR hC.2.2.2.2.2.2.2.2.1 hT hc) hdg (kk p e R s m args below meth c H locs cells slots ls hC hR hL hl h1 h2)
theorem jd_instNo {index id ci N : Nat} {nm C : String} {T : u_T} (hw : Cond.classLink M.1.cls index nm ∈ jdW) (hX : ∀ U, G.2.2.2.2 U → va_Nc C nm U) (hc : vwCl[ci]? = some (C, T, N)) (hT : Z.1 id = some (ci + 10, 0)) (hdg : decode M.2.1 pc = .ok (.instanceof index, 3)) (kk : Jd G M F n rc rs (pc + 3) lv (.int 0 :: st) Z I J) : Jd G M F n rc rs pc lv (.ref (gb G + id) :: st) Z I J := by
  intro p e R s m args below meth c H locs cells slots ls hC hR hL hl h1 h2
  exact va_instNo hC.1 hC.2.1 hC.2.2.2.2.1 (hC.2.2.2.2.2.1 _ hw) (hX s hC.2.2.2.2.2.2.2.2.1.2.1) (jd_recv hR hC.2.2.2.2.2.2.2.2.1 hT hc) hdg (kk p e R s m args below meth c H locs cells slots ls hC hR hL hl h1 h2)
/-- a final field, in its constructor -/
theorem jd_putF {id ci k index : Nat} {ty : FieldType} {v : Value} {Z' : jdL} {I' : jdI} (hin2 : M.1.name = "<init>") (hf : jdFp ci k M.1.cls index true ty) (hT : Z.1 id = some (ci + 10, 0)) (hk : k < (jdk ci).length) (hn : narrow ty v = v) (hfit : fits ty v = true) (hdg : decode M.2.1 pc = .ok (.putfield index, 3))
    (h3 : Z'.1 = Z.1) (h4 : Z'.2.2 = Z.2.2) (hoth : ∀ (j : Nat) (u : Nat × Nat), j ≠ id → jdc G Z' I' J j u = jdc G Z I J j u) (hnew : (jdf (gb G) (Z.2.1 id) (I id) (jdk ci) 0).set k v = jdf (gb G) (Z'.2.1 id) (I' id) (jdk ci) 0)
    (kk : Jd G M F n rc rs (pc + 3) lv st Z' I' J) : Jd G M F n rc rs pc lv (v :: .ref (gb G + id) :: st) Z I J := by
  intro p e R s m args below meth c H locs cells slots ls hC hR hL hl h1 h2
  obtain ⟨C, T, N, ty0, hc, hkN, hin, hw, hty, hnm, hfin, hd, hdecl⟩ := hf
  have hts := hC.2.2.2.2.2.1
  have hK := hC.2.2.2.2.2.2.2.2.1.1
  have hap := va_apart (own := M.1.cls) hts hin ty0 hty hnm hK hc
  have hat := hR.2.2 id _ hT
  rw [jdc_o] at hat
  obtain ⟨r, hr1, cell, q1, q2, q3, q4⟩ := hat
  have hr : r = (C, T, N) := Option.some.inj (hr1.symm.trans hc)
  subst hr
  obtain ⟨hS, hfc, kC, hkC, hkind⟩ := hK.1 ci _ hc
  obtain ⟨cf, kf, fi, f, hi, hsl⟩ := hS k hkN
  have hlay := hts _ (hin _ (u_in_lay hkN))
  unfold u_lay at hlay
  rw [if_pos hfin] at hlay
  have hst := (u_facts hfc hkC (u_lays hts hin hkN) hi).1
  have hcf : m.cls = cf := by
    obtain ⟨_, _, c', _, _, _, -, -, hf', -, -, -, hown2, -⟩ := Cond.laysFinal_spec hlay
    have e1 : c' = cf := by have := hi.symm.trans hf'; simp at this; exact this.1.symm
    rw [hdecl rfl] at hown2
    rw [← e1]; exact Option.some.inj (hC.2.2.2.2.1.symm.trans hown2)
  have h6 := u_fits hfc hkC hkind (Or.inr hlay) hi hd hn hfit
  refine W.putFinK hC.1 hC.2.1 hC.2.2.2.2.1 (hts _ hw) hi hst hcf (hC.2.2.2.2.2.2.2.1.trans hin2) (by rw [q2]; exact h6) q1 q3 (by rw [hsl]; exact k2_hasslot (q4 k hkN)) rfl rfl hdg fun H' e1 e2 e3 => ?_
  rw [hsl] at e1
  refine kk p e R s m args below meth c H' _ cells slots ls hC (jdR_set hR hT e2 e3 h3 h4 hoth ?_) (jd_locs hL) hl h1 h2
  rw [jdc_o, ← hnew]
  exact ⟨_, hc, t_OB.to (V := updV (vp_V (jdf (gb G) (Z.2.1 id) (I id) (jdk ci) 0)) k v) ⟨_, e1, q2, q3, t_set q4 hap hkN v⟩ (fun j _ => vp_updV_set (by rw [jdf_len]; exact hk) v j)⟩
theorem jd_putFI {id ci k index : Nat} {ty : FieldType} {v : Int32} (hin2 : M.1.name = "<init>") (hf : jdFp ci k M.1.cls index true ty) (hT : Z.1 id = some (ci + 10, 0)) (hk : (jdk ci)[k]? = some false) (hn : narrow ty (.int v) = .int v) (hfit : fits ty (.int v) = true) (hdg : decode M.2.1 pc = .ok (.putfield index, 3)) (kk : Jd G M F n rc rs (pc + 3) lv st Z (uI I id k v) J) : Jd G M F n rc rs pc lv (.int v :: .ref (gb G + id) :: st) Z I J :=
  jd_putF hin2 hf hT (List.getElem?_eq_some_iff.mp hk).1 hn hfit hdg rfl rfl (fun j u hj => jdc_uI u hj) (by rw [uI_s, jdf_setI _ _ _ _ _ _ _ hk, Nat.zero_add]) kk
theorem jd_putFR {id ci k index r : Nat} {ty : FieldType} (hin2 : M.1.name = "<init>") (hf : jdFp ci k M.1.cls index true ty) (hT : Z.1 id = some (ci + 10, 0)) (hk : (jdk ci)[k]? = some true) (hn : narrow ty (.ref (gb G + r)) = .ref (gb G + r)) (hfit : fits ty (.ref (gb G + r)) = true) (hdg : decode M.2.1 pc = .ok (.putfield index, 3)) (kk : Jd G M F n rc rs (pc + 3) lv st (uP Z id k (some r)) I J) : Jd G M F n rc rs pc lv (.ref (gb G + r) :: .ref (gb G + id) :: st) Z I J :=
  jd_putF (Z' := uP Z id k (some r)) (I' := I) hin2 hf hT (List.getElem?_eq_some_iff.mp hk).1 hn hfit hdg rfl rfl (fun j u hj => jdc_uP u hj) (by
    have h := jdf_setP (gb G) (Z.2.1 id) (I id) (jdk ci) 0 k (some r) hk
    rw [Nat.zero_add] at h
    simp only [uP, if_true]
    exact h) kk
end MO
/-! what an int, a long, nothing is returned with; the memory's cells stay what they are -/
def qi (Z : jdL) (K : Int32 → jdI → jdJ → Prop) : jdQ := fun r Z2 I2 J2 => ∃ v : Int32, r = some (.int v) ∧ Z2 = Z ∧ K v I2 J2
def ql (Z : jdL) (K : Int64 → jdI → jdJ → Prop) : jdQ := fun r Z2 I2 J2 => ∃ v : Int64, r = some (.long v) ∧ Z2 = Z ∧ K v I2 J2
def qv (Z : jdL) (K : jdI → jdJ → Prop) : jdQ := fun r Z2 I2 J2 => r = none ∧ Z2 = Z ∧ K I2 J2
theorem Cl.mono {G : jdG} {M : jdM} {n mc ms : Nat} {av : List Value} {Z : jdL} {I : jdI} {J : jdJ} {Q Q' : jdQ} (h : Cl G M n mc ms av Z I J Q) (hQ : ∀ r Z2 I2 J2, Q r Z2 I2 J2 → Q' r Z2 I2 J2) : Cl G M n mc ms av Z I J Q' := by
  intro p e ha hc hk s m args below hf hpre hP hK
  obtain ⟨k, o, h1, h2, h3, ⟨r, Z2, I2, J2, e1, e2, e3⟩, hL⟩ := h p e ha hc hk s m args below hf hpre hP hK
  exact ⟨k, o, h1, h2, h3, ⟨r, Z2, I2, J2, e1, hQ _ _ _ _ e2, e3⟩, hL⟩
section QR
variable {G : jdG} {M : jdM} {F : jdF} {n rc rs pc : Nat} {lv : List (Nat × Value)} {st : List Value} {Z : jdL} {I : jdI} {J : jdJ}
theorem jd_iretK {K : Int32 → jdI → jdJ → Prop} {v : Int32} {ty : FieldType} (hr : M.2.2.2 = some ty) (hn : narrow ty (.int v) = .int v) (hdg : decode M.2.1 pc = .ok (.ireturn, 1)) (hK : K v I J) : Jd G M (jdFm G (qi Z K)) n rc rs pc lv [.int v] Z I J := jd_iret hr hn hdg ⟨v, rfl, rfl, hK⟩
theorem jd_lretK {K : Int64 → jdI → jdJ → Prop} {v : Int64} (hr : M.2.2.2 = some .long) (hdg : decode M.2.1 pc = .ok (.lreturn, 1)) (hK : K v I J) : Jd G M (jdFm G (ql Z K)) n rc rs pc lv [.long v] Z I J := jd_lret hr hdg ⟨v, rfl, rfl, hK⟩
theorem jd_vretK {K : jdI → jdJ → Prop} (hr : M.2.2.2 = none) (hdg : decode M.2.1 pc = .ok (.return_, 1)) (hK : K I J) : Jd G M (jdFm G (qv Z K)) n rc rs pc lv [] Z I J := jd_vret hr hdg ⟨rfl, rfl, hK⟩
theorem jd_callVi {M2 : jdM} {na index id ci N : Nat} {T : u_T} {av st0 : List Value} {K : Int32 → jdI → jdJ → Prop} (hm : jdMc M2 na) (hs : Cond.instanceMethod M2.1 ∈ jdW ∧ Cond.selects M2.1.cls M2.1 M2.1 ∈ jdW) (hc : vwCl[ci]? = some (M2.1.cls, T, N)) (hT : Z.1 id = some (ci + 10, 0)) (hw : Cond.methodLink M.1.cls index M2.1 ∈ jdW) (hna : av.length = na) (hst0 : st0 = av.reverse ++ .ref (gb G + id) :: st) (hst : (st.map fun v => v.category).sum ≤ 8) (hdg : decode M.2.1 pc = .ok (.invokevirtual index, 3)) (kk : Cl G M2 n 0 0 (.ref (gb G + id) :: av) Z I J (qi Z K)) (hk : ∀ (v : Int32) (I2 : jdI) (J2 : jdJ), K v I2 J2 → Jd G M F (n + 1) rc rs (pc + 3) lv (.int v :: st) Z I2 J2) : Jd G M F (n + 1) rc rs pc lv st0 Z I J :=
  jd_callV hm hs hc hT hw hna hst0 hst (Nat.le_of_eq (Nat.zero_add _)) (Nat.le_of_eq (Nat.zero_add _)) hdg (Cl.mono kk (fun r Z2 I2 J2 hq => by
    obtain ⟨v, hr, hz, hq⟩ := hq
    subst hr
    subst hz
    exact hk v I2 J2 hq))
theorem jd_callVl {M2 : jdM} {na index id ci N : Nat} {T : u_T} {av st0 : List Value} {K : Int64 → jdI → jdJ → Prop} (hm : jdMc M2 na) (hs : Cond.instanceMethod M2.1 ∈ jdW ∧ Cond.selects M2.1.cls M2.1 M2.1 ∈ jdW) (hc : vwCl[ci]? = some (M2.1.cls, T, N)) (hT : Z.1 id = some (ci + 10, 0)) (hw : Cond.methodLink M.1.cls index M2.1 ∈ jdW) (hna : av.length = na) (hst0 : st0 = av.reverse ++ .ref (gb G + id) :: st) (hst : (st.map fun v => v.category).sum ≤ 8) (hdg : decode M.2.1 pc = .ok (.invokevirtual index, 3)) (kk : Cl G M2 n 0 0 (.ref (gb G + id) :: av) Z I J (ql Z K)) (hk : ∀ (v : Int64) (I2 : jdI) (J2 : jdJ), K v I2 J2 → Jd G M F (n + 1) rc rs (pc + 3) lv (.long v :: st) Z I2 J2) : Jd G M F (n + 1) rc rs pc lv st0 Z I J :=
  jd_callV hm hs hc hT hw hna hst0 hst (Nat.le_of_eq (Nat.zero_add _)) (Nat.le_of_eq (Nat.zero_add _)) hdg (Cl.mono kk (fun r Z2 I2 J2 hq => by
    obtain ⟨v, hr, hz, hq⟩ := hq
    subst hr
    subst hz
    exact hk v I2 J2 hq))
theorem jd_callVv {M2 : jdM} {na index id ci N : Nat} {T : u_T} {av st0 : List Value} {K : jdI → jdJ → Prop} (hm : jdMc M2 na) (hs : Cond.instanceMethod M2.1 ∈ jdW ∧ Cond.selects M2.1.cls M2.1 M2.1 ∈ jdW) (hc : vwCl[ci]? = some (M2.1.cls, T, N)) (hT : Z.1 id = some (ci + 10, 0)) (hw : Cond.methodLink M.1.cls index M2.1 ∈ jdW) (hna : av.length = na) (hst0 : st0 = av.reverse ++ .ref (gb G + id) :: st) (hst : (st.map fun v => v.category).sum ≤ 8) (hdg : decode M.2.1 pc = .ok (.invokevirtual index, 3)) (kk : Cl G M2 n 0 0 (.ref (gb G + id) :: av) Z I J (qv Z K)) (hk : ∀ (I2 : jdI) (J2 : jdJ), K I2 J2 → Jd G M F (n + 1) rc rs (pc + 3) lv st Z I2 J2) : Jd G M F (n + 1) rc rs pc lv st0 Z I J :=
  jd_callV hm hs hc hT hw hna hst0 hst (Nat.le_of_eq (Nat.zero_add _)) (Nat.le_of_eq (Nat.zero_add _)) hdg (Cl.mono kk (fun r Z2 I2 J2 hq => by
    obtain ⟨hr, hz, hq⟩ := hq
    subst hr
    subst hz
    exact hk I2 J2 hq))
theorem jd_callSi {M2 : jdM} {na index : Nat} {av st0 : List Value} {K : Int32 → jdI → jdJ → Prop} (hm : jdMc M2 na) (hs : Cond.static M2.1 ∈ jdW) (hw : Cond.methodLink M.1.cls index M2.1 ∈ jdW) (hna : av.length = na) (hst0 : st0 = av.reverse ++ st) (hst : (st.map fun v => v.category).sum ≤ 8) (hdg : decode M.2.1 pc = .ok (.invokestatic index, 3)) (kk : Cl G M2 n 0 0 av Z I J (qi Z K)) (hk : ∀ (v : Int32) (I2 : jdI) (J2 : jdJ), K v I2 J2 → Jd G M F (n + 1) rc rs (pc + 3) lv (.int v :: st) Z I2 J2) : Jd G M F (n + 1) rc rs pc lv st0 Z I J :=
  jd_callS hm hs hw hna hst0 hst (Nat.le_of_eq (Nat.zero_add _)) (Nat.le_of_eq (Nat.zero_add _)) hdg (Cl.mono kk (fun r Z2 I2 J2 hq => by
    obtain ⟨v, hr, hz, hq⟩ := hq
    subst hr
    subst hz
    exact hk v I2 J2 hq))
theorem jd_callSl {M2 : jdM} {na index : Nat} {av st0 : List Value} {K : Int64 → jdI → jdJ → Prop} (hm : jdMc M2 na) (hs : Cond.static M2.1 ∈ jdW) (hw : Cond.methodLink M.1.cls index M2.1 ∈ jdW) (hna : av.length = na) (hst0 : st0 = av.reverse ++ st) (hst : (st.map fun v => v.category).sum ≤ 8) (hdg : decode M.2.1 pc = .ok (.invokestatic index, 3)) (kk : Cl G M2 n 0 0 av Z I J (ql Z K)) (hk : ∀ (v : Int64) (I2 : jdI) (J2 : jdJ), K v I2 J2 → Jd G M F (n + 1) rc rs (pc + 3) lv (.long v :: st) Z I2 J2) : Jd G M F (n + 1) rc rs pc lv st0 Z I J :=
  jd_callS hm hs hw hna hst0 hst (Nat.le_of_eq (Nat.zero_add _)) (Nat.le_of_eq (Nat.zero_add _)) hdg (Cl.mono kk (fun r Z2 I2 J2 hq => by
    obtain ⟨v, hr, hz, hq⟩ := hq
    subst hr
    subst hz
    exact hk v I2 J2 hq))
theorem jd_callSv {M2 : jdM} {na index : Nat} {av st0 : List Value} {K : jdI → jdJ → Prop} (hm : jdMc M2 na) (hs : Cond.static M2.1 ∈ jdW) (hw : Cond.methodLink M.1.cls index M2.1 ∈ jdW) (hna : av.length = na) (hst0 : st0 = av.reverse ++ st) (hst : (st.map fun v => v.category).sum ≤ 8) (hdg : decode M.2.1 pc = .ok (.invokestatic index, 3)) (kk : Cl G M2 n 0 0 av Z I J (qv Z K)) (hk : ∀ (I2 : jdI) (J2 : jdJ), K I2 J2 → Jd G M F (n + 1) rc rs (pc + 3) lv st Z I2 J2) : Jd G M F (n + 1) rc rs pc lv st0 Z I J :=
  jd_callS hm hs hw hna hst0 hst (Nat.le_of_eq (Nat.zero_add _)) (Nat.le_of_eq (Nat.zero_add _)) hdg (Cl.mono kk (fun r Z2 I2 J2 hq => by
    obtain ⟨hr, hz, hq⟩ := hq
    subst hr
    subst hz
    exact hk I2 J2 hq))
theorem jd_callUi {M2 : jdM} {x : MethodName} {na index id ci N : Nat} {C owner : String} {T : u_T} {av st0 : List Value} {K : Int32 → jdI → jdJ → Prop} (hm : jdMc M2 na) (hs : Cond.instanceMethod M2.1 ∈ jdW ∧ Cond.selects C x M2.1 ∈ jdW ∧ Cond.sameMethod x.cls owner x.name x.desc ∈ jdW) (hx : owner ≠ "java/lang/invoke/MethodHandle" ∧ owner ≠ "java/lang/invoke/VarHandle" ∧ x.desc = M2.1.desc) (hd : (Cond.instanceMethod ⟨owner, x.name, x.desc⟩ ∈ jdW ∧ ∃ (b0 : ByteArray) (m0 : Nat) (r0 : Option FieldType), Cond.code ⟨owner, x.name, x.desc⟩ b0 m0 r0 ∈ jdW) ∨ ∀ U, G.2.2.2.2 U → va_Decl U ⟨owner, x.name, x.desc⟩) (hc : vwCl[ci]? = some (C, T, N)) (hT : Z.1 id = some (ci + 10, 0)) (hw : Cond.methodLink M.1.cls index x ∈ jdW) (hna : av.length = na) (hst0 : st0 = av.reverse ++ .ref (gb G + id) :: st) (hst : (st.map fun v => v.category).sum ≤ 8) (hdg : decode M.2.1 pc = .ok (.invokevirtual index, 3)) (kk : Cl G M2 n 0 0 (.ref (gb G + id) :: av) Z I J (qi Z K)) (hk : ∀ (v : Int32) (I2 : jdI) (J2 : jdJ), K v I2 J2 → Jd G M F (n + 1) rc rs (pc + 3) lv (.int v :: st) Z I2 J2) : Jd G M F (n + 1) rc rs pc lv st0 Z I J :=
  jd_callU hm hs hx hd hc hT hw hna hst0 hst (Nat.le_of_eq (Nat.zero_add _)) (Nat.le_of_eq (Nat.zero_add _)) hdg (Cl.mono kk (fun r Z2 I2 J2 hq => by
    obtain ⟨v, hr, hz, hq⟩ := hq
    subst hr
    subst hz
    exact hk v I2 J2 hq))
end QR
