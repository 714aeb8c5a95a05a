/-- the law's method, by whatever name it is called -/
abbrev mLaw (nm : String) : jdM := (⟨RL, nm, "([I)Z"⟩, cL_law, 4, ret)
def lawZ (below : List Frame) (s : State) : State → Prop := fun t => ∃ o, t.status = .running ∧ Ended t below o ∧ o = .returned (some (.int 1)) ∧ Framed s o t [] 600000 7302250
/-- the law's end: what is asked of it, where it began as the claim has it -/
def lawF (G : jdG) : jdF := fun below _ s mc ms t => s.heap.size = gb G → mc = 600000 → ms = 7302250 → lawZ below s t
theorem jd_lawret {G : jdG} {nm : String} {n rc rs pc : Nat} {lv : List (Nat × Value)} {Z : jdL} {I : jdI} {J : jdJ} (hdg : decode cL_law pc = .ok (.ireturn, 1)) : Jd G (mLaw nm) (lawF G) n rc rs pc lv [.int 1] Z I J := by
  intro p e R s m args below meth c H locs cells slots ls hC hR hL hl h1 h2
  by_cases h3 : s.heap.size = gb G ∧ R.cells = 600000 ∧ R.slots = 7302250
  · refine va_forget (fun q hq => by rw [h3.1]; exact hL q hq) ?_
    refine W.widen (k := 600000) (n := 7302250) (by omega) (by omega) ?_
    intro T hT X
    have hlocks : meth.locks = false := hC.2.2.2.2.2.2.1
    have hr : meth.sig.returnType = ret := hC.2.2.1
    have hx := hC.1
    have hb : c.code = code := hC.2.1
    obtain ⟨fs, hret, hrun, hended, hW, hframe⟩ := X.leave (v := some (.int 1)) (hlocks := hlocks) (fun h => by rw [hr] at h; cases h)
    have hmeth' : T.vm.method? m = some meth := X.method'
    refine ⟨T.setFrames fs, ?_, fun _ _ _ => ⟨.returned (some (.int 1)), hrun, hended, rfl, ⟨_, rfl⟩, hW, hframe⟩⟩
    have hdg : decode code pc = .ok (.ireturn, 1) := hdg
    jvm_step X.here [X.here.top, hx, hb, hdg, hmeth', hr, ret, narrow_b1]
    (try refine ⟨rfl, ?_⟩); (try refine ⟨rfl, ?_⟩)
    first | (intro acts; rw [hret _ acts rfl rfl rfl]) | rw [hret _ _ rfl rfl rfl]
    exact Steps.refl _
  · intro T hT X
    exact ⟨_, Steps.refl _, fun q1 q2 q3 => absurd ⟨q1, q2, q3⟩ h3⟩
section SC
variable {G : jdG} {M : jdM} {F : jdF} {n rc rs pc : Nat} {lv : List (Nat × Value)} {st : List Value} {Z : jdL} {I : jdI} {J : jdJ}
theorem jd_sld {b L : Nat} {xs : Nat → Int32} {i : Int32} (hX : ∀ U, G.2.2.2.2 U → va_X b L xs U G.2.2.1) (hin : vp_in i L) (hdg : decode M.2.1 pc = .ok (.iaload, 1)) (kk : Jd G M F n rc rs (pc + 1) lv (.int (xs i.toNatClampNeg) :: st) Z I J) : Jd G M F n rc rs pc lv (.int i :: .ref b :: st) Z I J := by
  intro p e R s m args below meth c H locs cells slots ls hC hR hL hl h1 h2
  obtain ⟨scr, q1, q2, q3, q4, q5⟩ := hX s hC.2.2.2.2.2.2.2.2.1.2.1
  have hb : b < gb G := (Array.getElem?_eq_some_iff.mp q1).1
  have hlt := vp_lt hin
  exact W.iald (v := .int (xs i.toNatClampNeg)) hC.1 hC.2.1 ((hR.2.1 b hb).trans q1) q2 q3 (fun h => h.elim (fun h => hin (Or.inl h)) (fun h => by omega)) (q5 _ hlt) rfl rfl hdg (kk p e R s m args below meth c H locs cells slots ls hC hR hL hl h1 h2)
theorem jd_slen {b L : Nat} {xs : Nat → Int32} (hX : ∀ U, G.2.2.2.2 U → va_X b L xs U G.2.2.1) (hdg : decode M.2.1 pc = .ok (.arraylength, 1)) (kk : Jd G M F n rc rs (pc + 1) lv (.int (Nat.toInt32 L) :: st) Z I J) : Jd G M F n rc rs pc lv (.ref b :: st) Z I J := by
  intro p e R s m args below meth c H locs cells slots ls hC hR hL hl h1 h2
  obtain ⟨scr, q1, q2, q3, q4, q5⟩ := hX s hC.2.2.2.2.2.2.2.2.1.2.1
  have hb : b < gb G := (Array.getElem?_eq_some_iff.mp q1).1
  exact W.alen (n := Nat.toInt32 L) hC.1 hC.2.1 ((hR.2.1 b hb).trans q1) q2 (by rw [q4]) rfl rfl hdg (kk p e R s m args below meth c H locs cells slots ls hC hR hL hl h1 h2)
end SC
set_option maxRecDepth 20000 in
set_option maxHeartbeats 4000000 in
theorem rL_law {G : jdG} {nm : String} {n rc rs b L : Nat} {xs : Nat → Int32} {Z : jdL} {I : jdI} {J : jdJ} {x3 : Int32} (hXs : ∀ U, G.2.2.2.2 U → va_X b L xs U G.2.2.1) (hX : zX Z) (hM : zModel Z 45) (h : ((((Nat.toInt32 L) - 6) < x3 → True) ∧ (¬ ((Nat.toInt32 L) - 6) < x3 → (vp_in x3 L ∧ (((((xs (Int32.toNatClampNeg x3)) &&& 63) : Int32).toInt < 0 ∨ 46 < (((xs (Int32.toNatClampNeg x3)) &&& 63) : Int32).toInt → Jd G (mLaw nm) (lawF G) (n + 1) rc rs 18 [(0, .ref b), (1, .ref (gb G + 0)), (2, .ref (gb G + 45)), (3, .int (x3 + 6))] [] Z I J) ∧ ((((xs (Int32.toNatClampNeg x3)) &&& 63) : Int32).toInt = 0 → (vp_in (x3 + 1) L ∧ (vp_in (x3 + 2) L ∧ (vp_in (x3 + 3) L ∧ (∃ mc5 ms5 rc5 rs5 : Nat, mc5 + rc5 ≤ rc ∧ ms5 + rs5 ≤ rs ∧ Cl G mX11_row n mc5 ms5 [.ref (gb G + 0), .int (xs (Int32.toNatClampNeg (x3 + 1))), .int (xs (Int32.toNatClampNeg (x3 + 2))), .int (xs (Int32.toNatClampNeg (x3 + 3)))] Z I J (fun r5 Z5 I5 J5 => ∃ v5 : Int32, r5 = some (.int v5) ∧ (zX Z5 ∧ (zModel Z5 45 ∧ (vp_in (x3 + 1) L ∧ (vp_in (x3 + 2) L ∧ (vp_in (x3 + 3) L ∧ Cl G mX12_row n 0 0 [.ref (gb G + 45), .int (xs (Int32.toNatClampNeg (x3 + 1))), .int (xs (Int32.toNatClampNeg (x3 + 2))), .int (xs (Int32.toNatClampNeg (x3 + 3)))] Z5 I5 J5 (qi Z5 (fun v10 I9 J9 => Jd G (mLaw nm) (lawF G) (n + 1) rc5 rs5 18 [(0, .ref b), (1, .ref (gb G + 0)), (2, .ref (gb G + 45)), (3, .int (x3 + 6))] [] Z5 I9 J9))))))))))))) ∧ ((((xs (Int32.toNatClampNeg x3)) &&& 63) : Int32).toInt = 1 → (vp_in (x3 + 1) L ∧ (vp_in (x3 + 2) L ∧ (vp_in (x3 + 3) L ∧ (vp_in (x3 + 4) L ∧ Cl G mX11_set n 0 0 [.ref (gb G + 0), .int (xs (Int32.toNatClampNeg (x3 + 1))), .int (xs (Int32.toNatClampNeg (x3 + 2))), .long (((Int32.toInt64 (xs (Int32.toNatClampNeg (x3 + 3)))) <<< (Int32.toInt64 32 &&& 63)) ||| ((Int32.toInt64 (xs (Int32.toNatClampNeg (x3 + 4)))) &&& 4294967295))] Z I J (qi Z (fun v16 I15 J15 => (vp_in (x3 + 1) L ∧ (vp_in (x3 + 2) L ∧ (vp_in (x3 + 3) L ∧ (vp_in (x3 + 4) L ∧ Cl G mX12_set n 0 0 [.ref (gb G + 45), .int (xs (Int32.toNatClampNeg (x3 + 1))), .int (xs (Int32.toNatClampNeg (x3 + 2))), .long (((Int32.toInt64 (xs (Int32.toNatClampNeg (x3 + 3)))) <<< (Int32.toInt64 32 &&& 63)) ||| ((Int32.toInt64 (xs (Int32.toNatClampNeg (x3 + 4)))) &&& 4294967295))] Z I15 J15 (qi Z (fun v22 I21 J21 => Jd G (mLaw nm) (lawF G) (n + 1) rc rs 18 [(0, .ref b), (1, .ref (gb G + 0)), (2, .ref (gb G + 45)), (3, .int (x3 + 6))] [] Z I21 J21))))))))))))) ∧ ((((xs (Int32.toNatClampNeg x3)) &&& 63) : Int32).toInt = 2 → (vp_in (x3 + 1) L ∧ (vp_in (x3 + 2) L ∧ (vp_in (x3 + 3) L ∧ (vp_in (x3 + 4) L ∧ (vp_in (x3 + 5) L ∧ Cl G mX11_copy n 0 0 [.ref (gb G + 0), .int (xs (Int32.toNatClampNeg (x3 + 1))), .int (xs (Int32.toNatClampNeg (x3 + 2))), .int (xs (Int32.toNatClampNeg (x3 + 3))), .int (xs (Int32.toNatClampNeg (x3 + 4))), .int (xs (Int32.toNatClampNeg (x3 + 5)))] Z I J (qi Z (fun v29 I28 J28 => (vp_in (x3 + 1) L ∧ (vp_in (x3 + 2) L ∧ (vp_in (x3 + 3) L ∧ (vp_in (x3 + 4) L ∧ (vp_in (x3 + 5) L ∧ Cl G mX12_copy n 0 0 [.ref (gb G + 45), .int (xs (Int32.toNatClampNeg (x3 + 1))), .int (xs (Int32.toNatClampNeg (x3 + 2))), .int (xs (Int32.toNatClampNeg (x3 + 3))), .int (xs (Int32.toNatClampNeg (x3 + 4))), .int (xs (Int32.toNatClampNeg (x3 + 5)))] Z I28 J28 (qi Z (fun v36 I35 J35 => Jd G (mLaw nm) (lawF G) (n + 1) rc rs 18 [(0, .ref b), (1, .ref (gb G + 0)), (2, .ref (gb G + 45)), (3, .int (x3 + 6))] [] Z I35 J35))))))))))))))) ∧ ((((xs (Int32.toNatClampNeg x3)) &&& 63) : Int32).toInt = 3 → (vp_in (x3 + 1) L ∧ (vp_in (x3 + 2) L ∧ Cl G mX11_element n 0 0 [.ref (gb G + 0), .int (xs (Int32.toNatClampNeg (x3 + 1))), .int (xs (Int32.toNatClampNeg (x3 + 2)))] Z I J (ql Z (fun v40 I39 J39 => (vp_in (x3 + 1) L ∧ (vp_in (x3 + 2) L ∧ Cl G mX12_element n 0 0 [.ref (gb G + 45), .int (xs (Int32.toNatClampNeg (x3 + 1))), .int (xs (Int32.toNatClampNeg (x3 + 2)))] Z I39 J39 (ql Z (fun v44 I43 J43 => Jd G (mLaw nm) (lawF G) (n + 1) rc rs 18 [(0, .ref b), (1, .ref (gb G + 0)), (2, .ref (gb G + 45)), (3, .int (x3 + 6))] [] Z I43 J43))))))))) ∧ ((((xs (Int32.toNatClampNeg x3)) &&& 63) : Int32).toInt = 4 → (vp_in (x3 + 1) L ∧ Cl G mX11_holds n 0 0 [.ref (gb G + 0), .int (xs (Int32.toNatClampNeg (x3 + 1)))] Z I J (qi Z (fun v47 I46 J46 => (vp_in (x3 + 1) L ∧ Cl G mX12_holds n 0 0 [.ref (gb G + 45), .int (xs (Int32.toNatClampNeg (x3 + 1)))] Z I46 J46 (qi Z (fun v50 I49 J49 => Jd G (mLaw nm) (lawF G) (n + 1) rc rs 18 [(0, .ref b), (1, .ref (gb G + 0)), (2, .ref (gb G + 45)), (3, .int (x3 + 6))] [] Z I49 J49))))))) ∧ ((((xs (Int32.toNatClampNeg x3)) &&& 63) : Int32).toInt = 5 → (vp_in (x3 + 1) L ∧ (vp_in (x3 + 2) L ∧ (vp_in (x3 + 3) L ∧ (∃ mc54 ms54 rc54 rs54 : Nat, mc54 + rc54 ≤ rc ∧ ms54 + rs54 ≤ rs ∧ Cl G mX11_coachman n mc54 ms54 [.ref (gb G + 0), .int (xs (Int32.toNatClampNeg (x3 + 1))), .int (xs (Int32.toNatClampNeg (x3 + 2))), .int (xs (Int32.toNatClampNeg (x3 + 3)))] Z I J (fun r54 Z54 I54 J54 => ∃ v54 : Int32, r54 = some (.int v54) ∧ (zX Z54 ∧ (zModel Z54 45 ∧ (vp_in (x3 + 1) L ∧ (vp_in (x3 + 2) L ∧ (vp_in (x3 + 3) L ∧ Cl G mX12_coachman n 0 0 [.ref (gb G + 45), .int (xs (Int32.toNatClampNeg (x3 + 1))), .int (xs (Int32.toNatClampNeg (x3 + 2))), .int (xs (Int32.toNatClampNeg (x3 + 3)))] Z54 I54 J54 (qi Z54 (fun v59 I58 J58 => Jd G (mLaw nm) (lawF G) (n + 1) rc54 rs54 18 [(0, .ref b), (1, .ref (gb G + 0)), (2, .ref (gb G + 45)), (3, .int (x3 + 6))] [] Z54 I58 J58))))))))))))) ∧ ((((xs (Int32.toNatClampNeg x3)) &&& 63) : Int32).toInt = 6 → (vp_in (x3 + 1) L ∧ (vp_in (x3 + 2) L ∧ Cl G mX11_says n 0 0 [.ref (gb G + 0), .int (xs (Int32.toNatClampNeg (x3 + 1))), .int (xs (Int32.toNatClampNeg (x3 + 2)))] Z I J (qi Z (fun v63 I62 J62 => (vp_in (x3 + 1) L ∧ (vp_in (x3 + 2) L ∧ Cl G mX12_says n 0 0 [.ref (gb G + 45), .int (xs (Int32.toNatClampNeg (x3 + 1))), .int (xs (Int32.toNatClampNeg (x3 + 2)))] Z I62 J62 (qi Z (fun v67 I66 J66 => Jd G (mLaw nm) (lawF G) (n + 1) rc rs 18 [(0, .ref b), (1, .ref (gb G + 0)), (2, .ref (gb G + 45)), (3, .int (x3 + 6))] [] Z I66 J66))))))))) ∧ ((((xs (Int32.toNatClampNeg x3)) &&& 63) : Int32).toInt = 7 → (vp_in (x3 + 1) L ∧ (vp_in (x3 + 2) L ∧ Cl G mX11_person n 0 0 [.ref (gb G + 0), .int (xs (Int32.toNatClampNeg (x3 + 1))), .int (xs (Int32.toNatClampNeg (x3 + 2)))] Z I J (qi Z (fun v71 I70 J70 => (vp_in (x3 + 1) L ∧ (vp_in (x3 + 2) L ∧ Cl G mX12_person n 0 0 [.ref (gb G + 45), .int (xs (Int32.toNatClampNeg (x3 + 1))), .int (xs (Int32.toNatClampNeg (x3 + 2)))] Z I70 J70 (qi Z (fun v75 I74 J74 => Jd G (mLaw nm) (lawF G) (n + 1) rc rs 18 [(0, .ref b), (1, .ref (gb G + 0)), (2, .ref (gb G + 45)), (3, .int (x3 + 6))] [] Z I74 J74))))))))) ∧ ((((xs (Int32.toNatClampNeg x3)) &&& 63) : Int32).toInt = 8 → (vp_in (x3 + 1) L ∧ (vp_in (x3 + 2) L ∧ (vp_in (x3 + 3) L ∧ Cl G mX11_change n 0 0 [.ref (gb G + 0), .int (xs (Int32.toNatClampNeg (x3 + 1))), .int (xs (Int32.toNatClampNeg (x3 + 2))), .int (xs (Int32.toNatClampNeg (x3 + 3)))] Z I J (qi Z (fun v80 I79 J79 => (vp_in (x3 + 1) L ∧ (vp_in (x3 + 2) L ∧ (vp_in (x3 + 3) L ∧ Cl G mX12_change n 0 0 [.ref (gb G + 45), .int (xs (Int32.toNatClampNeg (x3 + 1))), .int (xs (Int32.toNatClampNeg (x3 + 2))), .int (xs (Int32.toNatClampNeg (x3 + 3)))] Z I79 J79 (qi Z (fun v85 I84 J84 => Jd G (mLaw nm) (lawF G) (n + 1) rc rs 18 [(0, .ref b), (1, .ref (gb G + 0)), (2, .ref (gb G + 45)), (3, .int (x3 + 6))] [] Z I84 J84))))))))))) ∧ ((((xs (Int32.toNatClampNeg x3)) &&& 63) : Int32).toInt = 9 → (vp_in (x3 + 1) L ∧ (vp_in (x3 + 2) L ∧ (vp_in (x3 + 3) L ∧ Cl G mX11_know n 0 0 [.ref (gb G + 0), .int (xs (Int32.toNatClampNeg (x3 + 1))), .int (xs (Int32.toNatClampNeg (x3 + 2))), .int (xs (Int32.toNatClampNeg (x3 + 3)))] Z I J (qi Z (fun v90 I89 J89 => (vp_in (x3 + 1) L ∧ (vp_in (x3 + 2) L ∧ (vp_in (x3 + 3) L ∧ Cl G mX12_know n 0 0 [.ref (gb G + 45), .int (xs (Int32.toNatClampNeg (x3 + 1))), .int (xs (Int32.toNatClampNeg (x3 + 2))), .int (xs (Int32.toNatClampNeg (x3 + 3)))] Z I89 J89 (qi Z (fun v95 I94 J94 => Jd G (mLaw nm) (lawF G) (n + 1) rc rs 18 [(0, .ref b), (1, .ref (gb G + 0)), (2, .ref (gb G + 45)), (3, .int (x3 + 6))] [] Z I94 J94))))))))))) ∧ ((((xs (Int32.toNatClampNeg x3)) &&& 63) : Int32).toInt = 10 → (vp_in (x3 + 1) L ∧ (vp_in (x3 + 2) L ∧ Cl G mX11_ask n 0 0 [.ref (gb G + 0), .int (xs (Int32.toNatClampNeg (x3 + 1))), .int (xs (Int32.toNatClampNeg (x3 + 2)))] Z I J (qi Z (fun v99 I98 J98 => (vp_in (x3 + 1) L ∧ (vp_in (x3 + 2) L ∧ Cl G mX12_ask n 0 0 [.ref (gb G + 45), .int (xs (Int32.toNatClampNeg (x3 + 1))), .int (xs (Int32.toNatClampNeg (x3 + 2)))] Z I98 J98 (qi Z (fun v103 I102 J102 => Jd G (mLaw nm) (lawF G) (n + 1) rc rs 18 [(0, .ref b), (1, .ref (gb G + 0)), (2, .ref (gb G + 45)), (3, .int (x3 + 6))] [] Z I102 J102))))))))) ∧ ((((xs (Int32.toNatClampNeg x3)) &&& 63) : Int32).toInt = 11 → (vp_in (x3 + 1) L ∧ Cl G mX11_feed n 0 0 [.ref (gb G + 0), .int (xs (Int32.toNatClampNeg (x3 + 1)))] Z I J (qi Z (fun v106 I105 J105 => (vp_in (x3 + 1) L ∧ Cl G mX12_feed n 0 0 [.ref (gb G + 45), .int (xs (Int32.toNatClampNeg (x3 + 1)))] Z I105 J105 (qi Z (fun v109 I108 J108 => Jd G (mLaw nm) (lawF G) (n + 1) rc rs 18 [(0, .ref b), (1, .ref (gb G + 0)), (2, .ref (gb G + 45)), (3, .int (x3 + 6))] [] Z I108 J108))))))) ∧ ((((xs (Int32.toNatClampNeg x3)) &&& 63) : Int32).toInt = 12 → Cl G mX11_wipe n 0 0 [.ref (gb G + 0)] Z I J (qi Z (fun v111 I110 J110 => Cl G mX12_wipe n 0 0 [.ref (gb G + 45)] Z I110 J110 (qi Z (fun v113 I112 J112 => Jd G (mLaw nm) (lawF G) (n + 1) rc rs 18 [(0, .ref b), (1, .ref (gb G + 0)), (2, .ref (gb G + 45)), (3, .int (x3 + 6))] [] Z I112 J112))))) ∧ ((((xs (Int32.toNatClampNeg x3)) &&& 63) : Int32).toInt = 13 → Cl G mX11_town n 0 0 [.ref (gb G + 0)] Z I J (qi Z (fun v115 I114 J114 => (∃ mc116 ms116 rc116 rs116 : Nat, mc116 + rc116 ≤ rc ∧ ms116 + rs116 ≤ rs ∧ Cl G mX12_town n mc116 ms116 [.ref (gb G + 45)] Z I114 J114 (fun r116 Z116 I116 J116 => ∃ v116 : Int32, r116 = some (.int v116) ∧ (zX Z116 ∧ (zModel Z116 45 ∧ Jd G (mLaw nm) (lawF G) (n + 1) rc116 rs116 18 [(0, .ref b), (1, .ref (gb G + 0)), (2, .ref (gb G + 45)), (3, .int (x3 + 6))] [] Z116 I116 J116))))))) ∧ ((((xs (Int32.toNatClampNeg x3)) &&& 63) : Int32).toInt = 14 → (vp_in (x3 + 1) L ∧ (vp_in (x3 + 2) L ∧ Cl G mX11_personOf n 0 0 [.ref (gb G + 0), .int (xs (Int32.toNatClampNeg (x3 + 1))), .int (xs (Int32.toNatClampNeg (x3 + 2)))] Z I J (qi Z (fun v120 I119 J119 => (vp_in (x3 + 1) L ∧ (vp_in (x3 + 2) L ∧ Cl G mX12_personOf n 0 0 [.ref (gb G + 45), .int (xs (Int32.toNatClampNeg (x3 + 1))), .int (xs (Int32.toNatClampNeg (x3 + 2)))] Z I119 J119 (qi Z (fun v124 I123 J123 => ((v120 = v124 → Jd G (mLaw nm) (lawF G) (n + 1) rc rs 18 [(0, .ref b), (1, .ref (gb G + 0)), (2, .ref (gb G + 45)), (3, .int (x3 + 6))] [] Z I123 J123) ∧ (¬ v120 = v124 → False))))))))))) ∧ ((((xs (Int32.toNatClampNeg x3)) &&& 63) : Int32).toInt = 15 → (vp_in (x3 + 1) L ∧ (vp_in (x3 + 2) L ∧ Cl G mX11_knownOf n 0 0 [.ref (gb G + 0), .int (xs (Int32.toNatClampNeg (x3 + 1))), .int (xs (Int32.toNatClampNeg (x3 + 2)))] Z I J (qi Z (fun v128 I127 J127 => (vp_in (x3 + 1) L ∧ (vp_in (x3 + 2) L ∧ Cl G mX12_knownOf n 0 0 [.ref (gb G + 45), .int (xs (Int32.toNatClampNeg (x3 + 1))), .int (xs (Int32.toNatClampNeg (x3 + 2)))] Z I127 J127 (qi Z (fun v132 I131 J131 => Jd G (mLaw nm) (lawF G) (n + 1) rc rs 18 [(0, .ref b), (1, .ref (gb G + 0)), (2, .ref (gb G + 45)), (3, .int (x3 + 6))] [] Z I131 J131))))))))) ∧ ((((xs (Int32.toNatClampNeg x3)) &&& 63) : Int32).toInt = 16 → (vp_in (x3 + 1) L ∧ Cl G mX11_isGroup n 0 0 [.ref (gb G + 0), .int (xs (Int32.toNatClampNeg (x3 + 1)))] Z I J (qi Z (fun v135 I134 J134 => (vp_in (x3 + 1) L ∧ Cl G mX12_isGroup n 0 0 [.ref (gb G + 45), .int (xs (Int32.toNatClampNeg (x3 + 1)))] Z I134 J134 (qi Z (fun v138 I137 J137 => Jd G (mLaw nm) (lawF G) (n + 1) rc rs 18 [(0, .ref b), (1, .ref (gb G + 0)), (2, .ref (gb G + 45)), (3, .int (x3 + 6))] [] Z I137 J137))))))) ∧ ((((xs (Int32.toNatClampNeg x3)) &&& 63) : Int32).toInt = 17 → (vp_in (x3 + 1) L ∧ Cl G mX11_groups n 0 0 [.ref (gb G + 0), .int (xs (Int32.toNatClampNeg (x3 + 1)))] Z I J (qi Z (fun v141 I140 J140 => (vp_in (x3 + 1) L ∧ Cl G mX12_groups n 0 0 [.ref (gb G + 45), .int (xs (Int32.toNatClampNeg (x3 + 1)))] Z I140 J140 (qi Z (fun v144 I143 J143 => Jd G (mLaw nm) (lawF G) (n + 1) rc rs 18 [(0, .ref b), (1, .ref (gb G + 0)), (2, .ref (gb G + 45)), (3, .int (x3 + 6))] [] Z I143 J143))))))) ∧ ((((xs (Int32.toNatClampNeg x3)) &&& 63) : Int32).toInt = 18 → (vp_in (x3 + 1) L ∧ Cl G mX11_firstOf n 0 0 [.ref (gb G + 0), .int (xs (Int32.toNatClampNeg (x3 + 1)))] Z I J (qi Z (fun v147 I146 J146 => (vp_in (x3 + 1) L ∧ Cl G mX12_firstOf n 0 0 [.ref (gb G + 45), .int (xs (Int32.toNatClampNeg (x3 + 1)))] Z I146 J146 (qi Z (fun v150 I149 J149 => Jd G (mLaw nm) (lawF G) (n + 1) rc rs 18 [(0, .ref b), (1, .ref (gb G + 0)), (2, .ref (gb G + 45)), (3, .int (x3 + 6))] [] Z I149 J149))))))) ∧ ((((xs (Int32.toNatClampNeg x3)) &&& 63) : Int32).toInt = 19 → (vp_in (x3 + 1) L ∧ Cl G mX11_most n 0 0 [.ref (gb G + 0), .int (xs (Int32.toNatClampNeg (x3 + 1)))] Z I J (qi Z (fun v153 I152 J152 => (vp_in (x3 + 1) L ∧ Cl G mX12_most n 0 0 [.ref (gb G + 45), .int (xs (Int32.toNatClampNeg (x3 + 1)))] Z I152 J152 (qi Z (fun v156 I155 J155 => Jd G (mLaw nm) (lawF G) (n + 1) rc rs 18 [(0, .ref b), (1, .ref (gb G + 0)), (2, .ref (gb G + 45)), (3, .int (x3 + 6))] [] Z I155 J155))))))) ∧ ((((xs (Int32.toNatClampNeg x3)) &&& 63) : Int32).toInt = 20 → (vp_in (x3 + 1) L ∧ (vp_in (x3 + 2) L ∧ Cl G mX11_mostOf n 0 0 [.ref (gb G + 0), .int (xs (Int32.toNatClampNeg (x3 + 1))), .int (xs (Int32.toNatClampNeg (x3 + 2)))] Z I J (qi Z (fun v160 I159 J159 => (vp_in (x3 + 1) L ∧ (vp_in (x3 + 2) L ∧ Cl G mX12_mostOf n 0 0 [.ref (gb G + 45), .int (xs (Int32.toNatClampNeg (x3 + 1))), .int (xs (Int32.toNatClampNeg (x3 + 2)))] Z I159 J159 (qi Z (fun v164 I163 J163 => Jd G (mLaw nm) (lawF G) (n + 1) rc rs 18 [(0, .ref b), (1, .ref (gb G + 0)), (2, .ref (gb G + 45)), (3, .int (x3 + 6))] [] Z I163 J163))))))))) ∧ ((((xs (Int32.toNatClampNeg x3)) &&& 63) : Int32).toInt = 21 → (vp_in (x3 + 1) L ∧ (vp_in (x3 + 2) L ∧ (vp_in (x3 + 3) L ∧ Cl G mX11_sends n 0 0 [.ref (gb G + 0), .int (xs (Int32.toNatClampNeg (x3 + 1))), .int (xs (Int32.toNatClampNeg (x3 + 2))), .int (xs (Int32.toNatClampNeg (x3 + 3)))] Z I J (qi Z (fun v169 I168 J168 => (vp_in (x3 + 1) L ∧ (vp_in (x3 + 2) L ∧ (vp_in (x3 + 3) L ∧ Cl G mX12_sends n 0 0 [.ref (gb G + 45), .int (xs (Int32.toNatClampNeg (x3 + 1))), .int (xs (Int32.toNatClampNeg (x3 + 2))), .int (xs (Int32.toNatClampNeg (x3 + 3)))] Z I168 J168 (qi Z (fun v174 I173 J173 => Jd G (mLaw nm) (lawF G) (n + 1) rc rs 18 [(0, .ref b), (1, .ref (gb G + 0)), (2, .ref (gb G + 45)), (3, .int (x3 + 6))] [] Z I173 J173))))))))))) ∧ ((((xs (Int32.toNatClampNeg x3)) &&& 63) : Int32).toInt = 22 → (vp_in (x3 + 1) L ∧ Cl G mX11_run n 0 0 [.ref (gb G + 0), .int (xs (Int32.toNatClampNeg (x3 + 1)))] Z I J (qi Z (fun v177 I176 J176 => (vp_in (x3 + 1) L ∧ Cl G mX12_run n 0 0 [.ref (gb G + 45), .int (xs (Int32.toNatClampNeg (x3 + 1)))] Z I176 J176 (qi Z (fun v180 I179 J179 => Jd G (mLaw nm) (lawF G) (n + 1) rc rs 18 [(0, .ref b), (1, .ref (gb G + 0)), (2, .ref (gb G + 45)), (3, .int (x3 + 6))] [] Z I179 J179))))))) ∧ ((((xs (Int32.toNatClampNeg x3)) &&& 63) : Int32).toInt = 23 → (vp_in (x3 + 1) L ∧ (vp_in (x3 + 2) L ∧ Cl G mX11_coach n 0 0 [.ref (gb G + 0), .int (xs (Int32.toNatClampNeg (x3 + 1))), .int (xs (Int32.toNatClampNeg (x3 + 2)))] Z I J (qi Z (fun v184 I183 J183 => (vp_in (x3 + 1) L ∧ (vp_in (x3 + 2) L ∧ Cl G mX12_coach n 0 0 [.ref (gb G + 45), .int (xs (Int32.toNatClampNeg (x3 + 1))), .int (xs (Int32.toNatClampNeg (x3 + 2)))] Z I183 J183 (qi Z (fun v188 I187 J187 => Jd G (mLaw nm) (lawF G) (n + 1) rc rs 18 [(0, .ref b), (1, .ref (gb G + 0)), (2, .ref (gb G + 45)), (3, .int (x3 + 6))] [] Z I187 J187))))))))) ∧ ((((xs (Int32.toNatClampNeg x3)) &&& 63) : Int32).toInt = 24 → (vp_in (x3 + 1) L ∧ Cl G mX11_left n 0 0 [.ref (gb G + 0), .int (xs (Int32.toNatClampNeg (x3 + 1)))] Z I J (qi Z (fun v191 I190 J190 => (vp_in (x3 + 1) L ∧ Cl G mX12_left n 0 0 [.ref (gb G + 45), .int (xs (Int32.toNatClampNeg (x3 + 1)))] Z I190 J190 (qi Z (fun v194 I193 J193 => Jd G (mLaw nm) (lawF G) (n + 1) rc rs 18 [(0, .ref b), (1, .ref (gb G + 0)), (2, .ref (gb G + 45)), (3, .int (x3 + 6))] [] Z I193 J193))))))) ∧ ((((xs (Int32.toNatClampNeg x3)) &&& 63) : Int32).toInt = 25 → (vp_in (x3 + 1) L ∧ (vp_in (x3 + 2) L ∧ Cl G mX11_waits n 0 0 [.ref (gb G + 0), .int (xs (Int32.toNatClampNeg (x3 + 1))), .int (xs (Int32.toNatClampNeg (x3 + 2)))] Z I J (qi Z (fun v198 I197 J197 => (vp_in (x3 + 1) L ∧ (vp_in (x3 + 2) L ∧ Cl G mX12_waits n 0 0 [.ref (gb G + 45), .int (xs (Int32.toNatClampNeg (x3 + 1))), .int (xs (Int32.toNatClampNeg (x3 + 2)))] Z I197 J197 (qi Z (fun v202 I201 J201 => Jd G (mLaw nm) (lawF G) (n + 1) rc rs 18 [(0, .ref b), (1, .ref (gb G + 0)), (2, .ref (gb G + 45)), (3, .int (x3 + 6))] [] Z I201 J201))))))))) ∧ ((((xs (Int32.toNatClampNeg x3)) &&& 63) : Int32).toInt = 26 → (vp_in (x3 + 1) L ∧ Cl G mX11_least n 0 0 [.ref (gb G + 0), .int (xs (Int32.toNatClampNeg (x3 + 1)))] Z I J (qi Z (fun v205 I204 J204 => (vp_in (x3 + 1) L ∧ Cl G mX12_least n 0 0 [.ref (gb G + 45), .int (xs (Int32.toNatClampNeg (x3 + 1)))] Z I204 J204 (qi Z (fun v208 I207 J207 => Jd G (mLaw nm) (lawF G) (n + 1) rc rs 18 [(0, .ref b), (1, .ref (gb G + 0)), (2, .ref (gb G + 45)), (3, .int (x3 + 6))] [] Z I207 J207))))))) ∧ ((((xs (Int32.toNatClampNeg x3)) &&& 63) : Int32).toInt = 27 → Cl G mX11_head n 0 0 [.ref (gb G + 0)] Z I J (qi Z (fun v210 I209 J209 => Cl G mX12_head n 0 0 [.ref (gb G + 45)] Z I209 J209 (qi Z (fun v212 I211 J211 => Jd G (mLaw nm) (lawF G) (n + 1) rc rs 18 [(0, .ref b), (1, .ref (gb G + 0)), (2, .ref (gb G + 45)), (3, .int (x3 + 6))] [] Z I211 J211))))) ∧ ((((xs (Int32.toNatClampNeg x3)) &&& 63) : Int32).toInt = 28 → (vp_in (x3 + 1) L ∧ Cl G mX11_days n 0 0 [.ref (gb G + 0), .int (xs (Int32.toNatClampNeg (x3 + 1)))] Z I J (qi Z (fun v215 I214 J214 => (vp_in (x3 + 1) L ∧ (∃ mc217 ms217 rc217 rs217 : Nat, mc217 + rc217 ≤ rc ∧ ms217 + rs217 ≤ rs ∧ Cl G mX12_days n mc217 ms217 [.ref (gb G + 45), .int (xs (Int32.toNatClampNeg (x3 + 1)))] Z I214 J214 (fun r217 Z217 I217 J217 => ∃ v217 : Int32, r217 = some (.int v217) ∧ (zX Z217 ∧ (zModel Z217 45 ∧ Jd G (mLaw nm) (lawF G) (n + 1) rc217 rs217 18 [(0, .ref b), (1, .ref (gb G + 0)), (2, .ref (gb G + 45)), (3, .int (x3 + 6))] [] Z217 I217 J217))))))))) ∧ ((((xs (Int32.toNatClampNeg x3)) &&& 63) : Int32).toInt = 29 → (vp_in (x3 + 1) L ∧ Cl G mX11_ever n 0 0 [.ref (gb G + 0), .int (xs (Int32.toNatClampNeg (x3 + 1)))] Z I J (qi Z (fun v220 I219 J219 => (vp_in (x3 + 1) L ∧ (∃ mc222 ms222 rc222 rs222 : Nat, mc222 + rc222 ≤ rc ∧ ms222 + rs222 ≤ rs ∧ Cl G mX12_ever n mc222 ms222 [.ref (gb G + 45), .int (xs (Int32.toNatClampNeg (x3 + 1)))] Z I219 J219 (fun r222 Z222 I222 J222 => ∃ v222 : Int32, r222 = some (.int v222) ∧ (zX Z222 ∧ (zModel Z222 45 ∧ Jd G (mLaw nm) (lawF G) (n + 1) rc222 rs222 18 [(0, .ref b), (1, .ref (gb G + 0)), (2, .ref (gb G + 45)), (3, .int (x3 + 6))] [] Z222 I222 J222))))))))) ∧ ((((xs (Int32.toNatClampNeg x3)) &&& 63) : Int32).toInt = 30 → Cl G mX11_hire n 0 0 [.ref (gb G + 0)] Z I J (qi Z (fun v224 I223 J223 => (∃ mc225 ms225 rc225 rs225 : Nat, mc225 + rc225 ≤ rc ∧ ms225 + rs225 ≤ rs ∧ Cl G mX12_hire n mc225 ms225 [.ref (gb G + 45)] Z I223 J223 (fun r225 Z225 I225 J225 => ∃ v225 : Int32, r225 = some (.int v225) ∧ (zX Z225 ∧ (zModel Z225 45 ∧ Jd G (mLaw nm) (lawF G) (n + 1) rc225 rs225 18 [(0, .ref b), (1, .ref (gb G + 0)), (2, .ref (gb G + 45)), (3, .int (x3 + 6))] [] Z225 I225 J225))))))) ∧ ((((xs (Int32.toNatClampNeg x3)) &&& 63) : Int32).toInt = 31 → (vp_in (x3 + 1) L ∧ Cl G mX11_feast n 0 0 [.ref (gb G + 0), .int (xs (Int32.toNatClampNeg (x3 + 1)))] Z I J (qi Z (fun v228 I227 J227 => (vp_in (x3 + 1) L ∧ (∃ mc230 ms230 rc230 rs230 : Nat, mc230 + rc230 ≤ rc ∧ ms230 + rs230 ≤ rs ∧ Cl G mX12_feast n mc230 ms230 [.ref (gb G + 45), .int (xs (Int32.toNatClampNeg (x3 + 1)))] Z I227 J227 (fun r230 Z230 I230 J230 => ∃ v230 : Int32, r230 = some (.int v230) ∧ (zX Z230 ∧ (zModel Z230 45 ∧ Jd G (mLaw nm) (lawF G) (n + 1) rc230 rs230 18 [(0, .ref b), (1, .ref (gb G + 0)), (2, .ref (gb G + 45)), (3, .int (x3 + 6))] [] Z230 I230 J230))))))))) ∧ ((((xs (Int32.toNatClampNeg x3)) &&& 63) : Int32).toInt = 32 → (vp_in (x3 + 1) L ∧ (vp_in (x3 + 2) L ∧ Cl G mX11_closes n 0 0 [.ref (gb G + 0), .int (xs (Int32.toNatClampNeg (x3 + 1))), .int (xs (Int32.toNatClampNeg (x3 + 2)))] Z I J (qi Z (fun v234 I233 J233 => (vp_in (x3 + 1) L ∧ (vp_in (x3 + 2) L ∧ (∃ mc237 ms237 rc237 rs237 : Nat, mc237 + rc237 ≤ rc ∧ ms237 + rs237 ≤ rs ∧ Cl G mX12_closes n mc237 ms237 [.ref (gb G + 45), .int (xs (Int32.toNatClampNeg (x3 + 1))), .int (xs (Int32.toNatClampNeg (x3 + 2)))] Z I233 J233 (fun r237 Z237 I237 J237 => ∃ v237 : Int32, r237 = some (.int v237) ∧ (zX Z237 ∧ (zModel Z237 45 ∧ Jd G (mLaw nm) (lawF G) (n + 1) rc237 rs237 18 [(0, .ref b), (1, .ref (gb G + 0)), (2, .ref (gb G + 45)), (3, .int (x3 + 6))] [] Z237 I237 J237))))))))))) ∧ ((((xs (Int32.toNatClampNeg x3)) &&& 63) : Int32).toInt = 33 → Cl G mX11_worst n 0 0 [.ref (gb G + 0)] Z I J (qi Z (fun v239 I238 J238 => (∃ mc240 ms240 rc240 rs240 : Nat, mc240 + rc240 ≤ rc ∧ ms240 + rs240 ≤ rs ∧ Cl G mX12_worst n mc240 ms240 [.ref (gb G + 45)] Z I238 J238 (fun r240 Z240 I240 J240 => ∃ v240 : Int32, r240 = some (.int v240) ∧ (zX Z240 ∧ (zModel Z240 45 ∧ Jd G (mLaw nm) (lawF G) (n + 1) rc240 rs240 18 [(0, .ref b), (1, .ref (gb G + 0)), (2, .ref (gb G + 45)), (3, .int (x3 + 6))] [] Z240 I240 J240))))))) ∧ ((((xs (Int32.toNatClampNeg x3)) &&& 63) : Int32).toInt = 34 → (vp_in (x3 + 1) L ∧ Cl G mX11_fits n 0 0 [.ref (gb G + 0), .int (xs (Int32.toNatClampNeg (x3 + 1)))] Z I J (qi Z (fun v243 I242 J242 => (vp_in (x3 + 1) L ∧ (∃ mc245 ms245 rc245 rs245 : Nat, mc245 + rc245 ≤ rc ∧ ms245 + rs245 ≤ rs ∧ Cl G mX12_fits n mc245 ms245 [.ref (gb G + 45), .int (xs (Int32.toNatClampNeg (x3 + 1)))] Z I242 J242 (fun r245 Z245 I245 J245 => ∃ v245 : Int32, r245 = some (.int v245) ∧ (zX Z245 ∧ (zModel Z245 45 ∧ Jd G (mLaw nm) (lawF G) (n + 1) rc245 rs245 18 [(0, .ref b), (1, .ref (gb G + 0)), (2, .ref (gb G + 45)), (3, .int (x3 + 6))] [] Z245 I245 J245))))))))) ∧ ((((xs (Int32.toNatClampNeg x3)) &&& 63) : Int32).toInt = 35 → (vp_in (x3 + 1) L ∧ Cl G mX11_sure n 0 0 [.ref (gb G + 0), .int (xs (Int32.toNatClampNeg (x3 + 1)))] Z I J (qi Z (fun v248 I247 J247 => (vp_in (x3 + 1) L ∧ (∃ mc250 ms250 rc250 rs250 : Nat, mc250 + rc250 ≤ rc ∧ ms250 + rs250 ≤ rs ∧ Cl G mX12_sure n mc250 ms250 [.ref (gb G + 45), .int (xs (Int32.toNatClampNeg (x3 + 1)))] Z I247 J247 (fun r250 Z250 I250 J250 => ∃ v250 : Int32, r250 = some (.int v250) ∧ (zX Z250 ∧ (zModel Z250 45 ∧ Jd G (mLaw nm) (lawF G) (n + 1) rc250 rs250 18 [(0, .ref b), (1, .ref (gb G + 0)), (2, .ref (gb G + 45)), (3, .int (x3 + 6))] [] Z250 I250 J250))))))))) ∧ ((((xs (Int32.toNatClampNeg x3)) &&& 63) : Int32).toInt = 36 → (vp_in (x3 + 1) L ∧ (vp_in (x3 + 2) L ∧ Cl G mX11_judge n 0 0 [.ref (gb G + 0), .int (xs (Int32.toNatClampNeg (x3 + 1))), .int (xs (Int32.toNatClampNeg (x3 + 2)))] Z I J (qi Z (fun v254 I253 J253 => (vp_in (x3 + 1) L ∧ (vp_in (x3 + 2) L ∧ Cl G mX12_judge n 0 0 [.ref (gb G + 45), .int (xs (Int32.toNatClampNeg (x3 + 1))), .int (xs (Int32.toNatClampNeg (x3 + 2)))] Z I253 J253 (qi Z (fun v258 I257 J257 => Jd G (mLaw nm) (lawF G) (n + 1) rc rs 18 [(0, .ref b), (1, .ref (gb G + 0)), (2, .ref (gb G + 45)), (3, .int (x3 + 6))] [] Z I257 J257))))))))) ∧ ((((xs (Int32.toNatClampNeg x3)) &&& 63) : Int32).toInt = 37 → (vp_in (x3 + 1) L ∧ (vp_in (x3 + 2) L ∧ (vp_in (x3 + 3) L ∧ Cl G mX11_behind n 0 0 [.ref (gb G + 0), .int (xs (Int32.toNatClampNeg (x3 + 1))), .int (xs (Int32.toNatClampNeg (x3 + 2))), .int (xs (Int32.toNatClampNeg (x3 + 3)))] Z I J (qi Z (fun v263 I262 J262 => (vp_in (x3 + 1) L ∧ (vp_in (x3 + 2) L ∧ (vp_in (x3 + 3) L ∧ (∃ mc267 ms267 rc267 rs267 : Nat, mc267 + rc267 ≤ rc ∧ ms267 + rs267 ≤ rs ∧ Cl G mX12_behind n mc267 ms267 [.ref (gb G + 45), .int (xs (Int32.toNatClampNeg (x3 + 1))), .int (xs (Int32.toNatClampNeg (x3 + 2))), .int (xs (Int32.toNatClampNeg (x3 + 3)))] Z I262 J262 (fun r267 Z267 I267 J267 => ∃ v267 : Int32, r267 = some (.int v267) ∧ (zX Z267 ∧ (zModel Z267 45 ∧ Jd G (mLaw nm) (lawF G) (n + 1) rc267 rs267 18 [(0, .ref b), (1, .ref (gb G + 0)), (2, .ref (gb G + 45)), (3, .int (x3 + 6))] [] Z267 I267 J267))))))))))))) ∧ ((((xs (Int32.toNatClampNeg x3)) &&& 63) : Int32).toInt = 38 → (vp_in (x3 + 1) L ∧ (vp_in (x3 + 2) L ∧ Cl G mX11_rides n 0 0 [.ref (gb G + 0), .int (xs (Int32.toNatClampNeg (x3 + 1))), .int (xs (Int32.toNatClampNeg (x3 + 2)))] Z I J (qi Z (fun v271 I270 J270 => (vp_in (x3 + 1) L ∧ (vp_in (x3 + 2) L ∧ Cl G mX12_rides n 0 0 [.ref (gb G + 45), .int (xs (Int32.toNatClampNeg (x3 + 1))), .int (xs (Int32.toNatClampNeg (x3 + 2)))] Z I270 J270 (qi Z (fun v275 I274 J274 => Jd G (mLaw nm) (lawF G) (n + 1) rc rs 18 [(0, .ref b), (1, .ref (gb G + 0)), (2, .ref (gb G + 45)), (3, .int (x3 + 6))] [] Z I274 J274))))))))) ∧ ((((xs (Int32.toNatClampNeg x3)) &&& 63) : Int32).toInt = 39 → (vp_in (x3 + 1) L ∧ Cl G mX11_day n 0 0 [.ref (gb G + 0), .int (xs (Int32.toNatClampNeg (x3 + 1)))] Z I J (qi Z (fun v278 I277 J277 => (vp_in (x3 + 1) L ∧ Cl G mX12_day n 0 0 [.ref (gb G + 45), .int (xs (Int32.toNatClampNeg (x3 + 1)))] Z I277 J277 (qi Z (fun v281 I280 J280 => Jd G (mLaw nm) (lawF G) (n + 1) rc rs 18 [(0, .ref b), (1, .ref (gb G + 0)), (2, .ref (gb G + 45)), (3, .int (x3 + 6))] [] Z I280 J280))))))) ∧ ((((xs (Int32.toNatClampNeg x3)) &&& 63) : Int32).toInt = 40 → (vp_in (x3 + 1) L ∧ Cl G mX11_meet n 0 0 [.ref (gb G + 0), .int (xs (Int32.toNatClampNeg (x3 + 1)))] Z I J (qi Z (fun v284 I283 J283 => (vp_in (x3 + 1) L ∧ Cl G mX12_meet n 0 0 [.ref (gb G + 45), .int (xs (Int32.toNatClampNeg (x3 + 1)))] Z I283 J283 (qi Z (fun v287 I286 J286 => Jd G (mLaw nm) (lawF G) (n + 1) rc rs 18 [(0, .ref b), (1, .ref (gb G + 0)), (2, .ref (gb G + 45)), (3, .int (x3 + 6))] [] Z I286 J286))))))) ∧ ((((xs (Int32.toNatClampNeg x3)) &&& 63) : Int32).toInt = 41 → Cl G mX11_year n 0 0 [.ref (gb G + 0)] Z I J (qi Z (fun v289 I288 J288 => Cl G mX12_year n 0 0 [.ref (gb G + 45)] Z I288 J288 (qi Z (fun v291 I290 J290 => Jd G (mLaw nm) (lawF G) (n + 1) rc rs 18 [(0, .ref b), (1, .ref (gb G + 0)), (2, .ref (gb G + 45)), (3, .int (x3 + 6))] [] Z I290 J290))))) ∧ ((((xs (Int32.toNatClampNeg x3)) &&& 63) : Int32).toInt = 42 → (vp_in (x3 + 1) L ∧ Cl G mX11_come n 0 0 [.ref (gb G + 0), .int (xs (Int32.toNatClampNeg (x3 + 1)))] Z I J (qi Z (fun v294 I293 J293 => (vp_in (x3 + 1) L ∧ Cl G mX12_come n 0 0 [.ref (gb G + 45), .int (xs (Int32.toNatClampNeg (x3 + 1)))] Z I293 J293 (qi Z (fun v297 I296 J296 => Jd G (mLaw nm) (lawF G) (n + 1) rc rs 18 [(0, .ref b), (1, .ref (gb G + 0)), (2, .ref (gb G + 45)), (3, .int (x3 + 6))] [] Z I296 J296))))))) ∧ ((((xs (Int32.toNatClampNeg x3)) &&& 63) : Int32).toInt = 43 → (vp_in (x3 + 1) L ∧ Cl G mX11_seed n 0 0 [.ref (gb G + 0), .int (xs (Int32.toNatClampNeg (x3 + 1)))] Z I J (qi Z (fun v300 I299 J299 => (vp_in (x3 + 1) L ∧ Cl G mX12_seed n 0 0 [.ref (gb G + 45), .int (xs (Int32.toNatClampNeg (x3 + 1)))] Z I299 J299 (qi Z (fun v303 I302 J302 => Jd G (mLaw nm) (lawF G) (n + 1) rc rs 18 [(0, .ref b), (1, .ref (gb G + 0)), (2, .ref (gb G + 45)), (3, .int (x3 + 6))] [] Z I302 J302))))))) ∧ ((((xs (Int32.toNatClampNeg x3)) &&& 63) : Int32).toInt = 44 → Cl G mX11_image n 0 0 [.ref (gb G + 0)] Z I J (qi Z (fun v305 I304 J304 => (∃ mc306 ms306 rc306 rs306 : Nat, mc306 + rc306 ≤ rc ∧ ms306 + rs306 ≤ rs ∧ Cl G mX12_image n mc306 ms306 [.ref (gb G + 45)] Z I304 J304 (fun r306 Z306 I306 J306 => ∃ v306 : Int32, r306 = some (.int v306) ∧ (zX Z306 ∧ (zModel Z306 45 ∧ Jd G (mLaw nm) (lawF G) (n + 1) rc306 rs306 18 [(0, .ref b), (1, .ref (gb G + 0)), (2, .ref (gb G + 45)), (3, .int (x3 + 6))] [] Z306 I306 J306))))))) ∧ ((((xs (Int32.toNatClampNeg x3)) &&& 63) : Int32).toInt = 45 → Cl G mX11_back n 0 0 [.ref (gb G + 0)] Z I J (qi Z (fun v308 I307 J307 => Cl G mX12_back n 0 0 [.ref (gb G + 45)] Z I307 J307 (qi Z (fun v310 I309 J309 => Jd G (mLaw nm) (lawF G) (n + 1) rc rs 18 [(0, .ref b), (1, .ref (gb G + 0)), (2, .ref (gb G + 45)), (3, .int (x3 + 6))] [] Z I309 J309))))) ∧ ((((xs (Int32.toNatClampNeg x3)) &&& 63) : Int32).toInt = 46 → (vp_in (x3 + 1) L ∧ Cl G mX11_status n 0 0 [.ref (gb G + 0), .int (xs (Int32.toNatClampNeg (x3 + 1)))] Z I J (qi Z (fun v313 I312 J312 => (vp_in (x3 + 1) L ∧ Cl G mX12_status n 0 0 [.ref (gb G + 45), .int (xs (Int32.toNatClampNeg (x3 + 1)))] Z I312 J312 (qi Z (fun v316 I315 J315 => Jd G (mLaw nm) (lawF G) (n + 1) rc rs 18 [(0, .ref b), (1, .ref (gb G + 0)), (2, .ref (gb G + 45)), (3, .int (x3 + 6))] [] Z I315 J315)))))))))))) : Jd G (mLaw nm) (lawF G) (n + 1) rc rs 18 [(0, .ref b), (1, .ref (gb G + 0)), (2, .ref (gb G + 45)), (3, .int x3)] [] Z I J := by
  refine jd_iload_n (pc := 18) 3 dL_law_18 rfl rfl ?_
  refine jd_aload_n (pc := 19) 0 dL_law_19 rfl rfl ?_
  refine jd_slen (pc := 20) hXs dL_law_20 ?_
  refine jd_bipush (pc := 21) (v := 6) dL_law_21 (by decide) ?_
  refine jd_isub (pc := 23) dL_law_23 ?_
  refine jd_icmp_gt (pc := 24) 1573 dL_law_24 (by decide) (fun hc => ?_) (fun hc => ?_)
  · have h := h.1 hc
    refine jd_iconst (pc := 1573) (v := 1) dL_law_1573 (by decide) ?_
    exact jd_lawret (pc := 1574) dL_law_1574
  · have h := h.2 hc
    refine jd_aload_n (pc := 27) 0 dL_law_27 rfl rfl ?_
    refine jd_iload_n (pc := 28) 3 dL_law_28 rfl rfl ?_
    obtain ⟨hv1, h⟩ := h
    refine jd_sld (pc := 29) hXs hv1 dL_law_29 ?_
    refine jd_bipush (pc := 30) (v := 63) dL_law_30 (by decide) ?_
    refine jd_iand (pc := 32) dL_law_32 ?_
    by_cases hs : (((xs (Int32.toNatClampNeg x3)) &&& 63) : Int32).toInt < 0 ∨ 46 < (((xs (Int32.toNatClampNeg x3)) &&& 63) : Int32).toInt
    · have h := h.1 hs
      refine jd_tableOut (pc := 33) 1567 dL_law_33 hs (by decide) ?_
      refine jd_iinc (pc := 1567) (v := (x3 + 6)) 3 [(3, .int (x3 + 6)), (0, .ref b), (1, .ref (gb G + 0)), (2, .ref (gb G + 45))] dL_law_1567 rfl rfl (Nat.le_of_ble_eq_true rfl) rfl ?_
      refine jd_goto (pc := 1570) 18 dL_law_1570 (by decide) ?_
      exact jd_lv (lv2 := [(0, .ref b), (1, .ref (gb G + 0)), (2, .ref (gb G + 45)), (3, .int (x3 + 6))]) [1, 2, 3, 0] rfl h
    · have h := h.2
      have hs2 : (((xs (Int32.toNatClampNeg x3)) &&& 63) : Int32).toInt = 0 ∨ (((xs (Int32.toNatClampNeg x3)) &&& 63) : Int32).toInt = 1 ∨ (((xs (Int32.toNatClampNeg x3)) &&& 63) : Int32).toInt = 2 ∨ (((xs (Int32.toNatClampNeg x3)) &&& 63) : Int32).toInt = 3 ∨ (((xs (Int32.toNatClampNeg x3)) &&& 63) : Int32).toInt = 4 ∨ (((xs (Int32.toNatClampNeg x3)) &&& 63) : Int32).toInt = 5 ∨ (((xs (Int32.toNatClampNeg x3)) &&& 63) : Int32).toInt = 6 ∨ (((xs (Int32.toNatClampNeg x3)) &&& 63) : Int32).toInt = 7 ∨ (((xs (Int32.toNatClampNeg x3)) &&& 63) : Int32).toInt = 8 ∨ (((xs (Int32.toNatClampNeg x3)) &&& 63) : Int32).toInt = 9 ∨ (((xs (Int32.toNatClampNeg x3)) &&& 63) : Int32).toInt = 10 ∨ (((xs (Int32.toNatClampNeg x3)) &&& 63) : Int32).toInt = 11 ∨ (((xs (Int32.toNatClampNeg x3)) &&& 63) : Int32).toInt = 12 ∨ (((xs (Int32.toNatClampNeg x3)) &&& 63) : Int32).toInt = 13 ∨ (((xs (Int32.toNatClampNeg x3)) &&& 63) : Int32).toInt = 14 ∨ (((xs (Int32.toNatClampNeg x3)) &&& 63) : Int32).toInt = 15 ∨ (((xs (Int32.toNatClampNeg x3)) &&& 63) : Int32).toInt = 16 ∨ (((xs (Int32.toNatClampNeg x3)) &&& 63) : Int32).toInt = 17 ∨ (((xs (Int32.toNatClampNeg x3)) &&& 63) : Int32).toInt = 18 ∨ (((xs (Int32.toNatClampNeg x3)) &&& 63) : Int32).toInt = 19 ∨ (((xs (Int32.toNatClampNeg x3)) &&& 63) : Int32).toInt = 20 ∨ (((xs (Int32.toNatClampNeg x3)) &&& 63) : Int32).toInt = 21 ∨ (((xs (Int32.toNatClampNeg x3)) &&& 63) : Int32).toInt = 22 ∨ (((xs (Int32.toNatClampNeg x3)) &&& 63) : Int32).toInt = 23 ∨ (((xs (Int32.toNatClampNeg x3)) &&& 63) : Int32).toInt = 24 ∨ (((xs (Int32.toNatClampNeg x3)) &&& 63) : Int32).toInt = 25 ∨ (((xs (Int32.toNatClampNeg x3)) &&& 63) : Int32).toInt = 26 ∨ (((xs (Int32.toNatClampNeg x3)) &&& 63) : Int32).toInt = 27 ∨ (((xs (Int32.toNatClampNeg x3)) &&& 63) : Int32).toInt = 28 ∨ (((xs (Int32.toNatClampNeg x3)) &&& 63) : Int32).toInt = 29 ∨ (((xs (Int32.toNatClampNeg x3)) &&& 63) : Int32).toInt = 30 ∨ (((xs (Int32.toNatClampNeg x3)) &&& 63) : Int32).toInt = 31 ∨ (((xs (Int32.toNatClampNeg x3)) &&& 63) : Int32).toInt = 32 ∨ (((xs (Int32.toNatClampNeg x3)) &&& 63) : Int32).toInt = 33 ∨ (((xs (Int32.toNatClampNeg x3)) &&& 63) : Int32).toInt = 34 ∨ (((xs (Int32.toNatClampNeg x3)) &&& 63) : Int32).toInt = 35 ∨ (((xs (Int32.toNatClampNeg x3)) &&& 63) : Int32).toInt = 36 ∨ (((xs (Int32.toNatClampNeg x3)) &&& 63) : Int32).toInt = 37 ∨ (((xs (Int32.toNatClampNeg x3)) &&& 63) : Int32).toInt = 38 ∨ (((xs (Int32.toNatClampNeg x3)) &&& 63) : Int32).toInt = 39 ∨ (((xs (Int32.toNatClampNeg x3)) &&& 63) : Int32).toInt = 40 ∨ (((xs (Int32.toNatClampNeg x3)) &&& 63) : Int32).toInt = 41 ∨ (((xs (Int32.toNatClampNeg x3)) &&& 63) : Int32).toInt = 42 ∨ (((xs (Int32.toNatClampNeg x3)) &&& 63) : Int32).toInt = 43 ∨ (((xs (Int32.toNatClampNeg x3)) &&& 63) : Int32).toInt = 44 ∨ (((xs (Int32.toNatClampNeg x3)) &&& 63) : Int32).toInt = 45 ∨ (((xs (Int32.toNatClampNeg x3)) &&& 63) : Int32).toInt = 46 := by omega
      rcases hs2 with hq | hq | hq | hq | hq | hq | hq | hq | hq | hq | hq | hq | hq | hq | hq | hq | hq | hq | hq | hq | hq | hq | hq | hq | hq | hq | hq | hq | hq | hq | hq | hq | hq | hq | hq | hq | hq | hq | hq | hq | hq | hq | hq | hq | hq | hq | hq
      · have h := h.1 hq
        refine jd_tableIn (pc := 33) 236 dL_law_33 (by omega) (by omega) (by rw [hq]; rfl) (by decide) ?_
        refine jd_aload_n (pc := 236) 1 dL_law_236 rfl rfl ?_
        refine jd_aload_n (pc := 237) 0 dL_law_237 rfl rfl ?_
        refine jd_iload_n (pc := 238) 3 dL_law_238 rfl rfl ?_
        refine jd_iconst (pc := 239) (v := 1) dL_law_239 (by decide) ?_
        refine jd_iadd (pc := 240) dL_law_240 ?_
        obtain ⟨hv2, h⟩ := h
        refine jd_sld (pc := 241) hXs hv2 dL_law_241 ?_
        refine jd_aload_n (pc := 242) 0 dL_law_242 rfl rfl ?_
        refine jd_iload_n (pc := 243) 3 dL_law_243 rfl rfl ?_
        refine jd_iconst (pc := 244) (v := 2) dL_law_244 (by decide) ?_
        refine jd_iadd (pc := 245) dL_law_245 ?_
        obtain ⟨hv3, h⟩ := h
        refine jd_sld (pc := 246) hXs hv3 dL_law_246 ?_
        refine jd_aload_n (pc := 247) 0 dL_law_247 rfl rfl ?_
        refine jd_iload_n (pc := 248) 3 dL_law_248 rfl rfl ?_
        refine jd_iconst (pc := 249) (v := 3) dL_law_249 (by decide) ?_
        refine jd_iadd (pc := 250) dL_law_250 ?_
        obtain ⟨hv4, h⟩ := h
        refine jd_sld (pc := 251) hXs hv4 dL_law_251 ?_
        obtain ⟨mc5, ms5, rc5, rs5, hb1, hb2, h⟩ := h
        refine jd_callV (pc := 252) (M2 := mX11_row) (id := 0) (ci := 10) (T := TX11) (N := 9) (rc2 := rc5) (rs2 := rs5) (av := [.int (xs (Int32.toNatClampNeg (x3 + 1))), .int (xs (Int32.toNatClampNeg (x3 + 2))), .int (xs (Int32.toNatClampNeg (x3 + 3)))]) kX11_row sX11_row rfl hX.1 lL_13 rfl rfl (Nat.le_of_ble_eq_true rfl) hb1 hb2 dL_law_252 (Cl.mono h (fun r5 Z5 I5 J5 h => ?_))
        obtain ⟨v5, rfl, h⟩ := h
        obtain ⟨hX, h⟩ := h
        obtain ⟨hM, h⟩ := h
        refine jd_pop (pc := 255) dL_law_255 rfl ?_
        refine jd_aload_n (pc := 256) 2 dL_law_256 rfl rfl ?_
        refine jd_aload_n (pc := 257) 0 dL_law_257 rfl rfl ?_
        refine jd_iload_n (pc := 258) 3 dL_law_258 rfl rfl ?_
        refine jd_iconst (pc := 259) (v := 1) dL_law_259 (by decide) ?_
        refine jd_iadd (pc := 260) dL_law_260 ?_
        obtain ⟨hv6, h⟩ := h
        refine jd_sld (pc := 261) hXs hv6 dL_law_261 ?_
        refine jd_aload_n (pc := 262) 0 dL_law_262 rfl rfl ?_
        refine jd_iload_n (pc := 263) 3 dL_law_263 rfl rfl ?_
        refine jd_iconst (pc := 264) (v := 2) dL_law_264 (by decide) ?_
        refine jd_iadd (pc := 265) dL_law_265 ?_
        obtain ⟨hv7, h⟩ := h
        refine jd_sld (pc := 266) hXs hv7 dL_law_266 ?_
        refine jd_aload_n (pc := 267) 0 dL_law_267 rfl rfl ?_
        refine jd_iload_n (pc := 268) 3 dL_law_268 rfl rfl ?_
        refine jd_iconst (pc := 269) (v := 3) dL_law_269 (by decide) ?_
        refine jd_iadd (pc := 270) dL_law_270 ?_
        obtain ⟨hv8, h⟩ := h
        refine jd_sld (pc := 271) hXs hv8 dL_law_271 ?_
        refine jd_callVi (pc := 272) (M2 := mX12_row) (id := 45) (ci := 11) (T := TX12) (N := 45) (av := [.int (xs (Int32.toNatClampNeg (x3 + 1))), .int (xs (Int32.toNatClampNeg (x3 + 2))), .int (xs (Int32.toNatClampNeg (x3 + 3)))]) kX12_row sX12_row rfl hM.1 lL_17 rfl rfl (Nat.le_of_ble_eq_true rfl) dL_law_272 h ?_
        intro v10 I9 J9 h
        refine jd_pop (pc := 275) dL_law_275 rfl ?_
        refine jd_goto (pc := 276) 1567 dL_law_276 (by decide) ?_
        refine jd_iinc (pc := 1567) (v := (x3 + 6)) 3 [(3, .int (x3 + 6)), (0, .ref b), (1, .ref (gb G + 0)), (2, .ref (gb G + 45))] dL_law_1567 rfl rfl (Nat.le_of_ble_eq_true rfl) rfl ?_
        refine jd_goto (pc := 1570) 18 dL_law_1570 (by decide) ?_
        exact jd_lv (lv2 := [(0, .ref b), (1, .ref (gb G + 0)), (2, .ref (gb G + 45)), (3, .int (x3 + 6))]) [1, 2, 3, 0] rfl h
      · have h := h.2.1 hq
        refine jd_tableIn (pc := 33) 279 dL_law_33 (by omega) (by omega) (by rw [hq]; rfl) (by decide) ?_
        refine jd_aload_n (pc := 279) 1 dL_law_279 rfl rfl ?_
        refine jd_aload_n (pc := 280) 0 dL_law_280 rfl rfl ?_
        refine jd_iload_n (pc := 281) 3 dL_law_281 rfl rfl ?_
        refine jd_iconst (pc := 282) (v := 1) dL_law_282 (by decide) ?_
        refine jd_iadd (pc := 283) dL_law_283 ?_
        obtain ⟨hv11, h⟩ := h
        refine jd_sld (pc := 284) hXs hv11 dL_law_284 ?_
        refine jd_aload_n (pc := 285) 0 dL_law_285 rfl rfl ?_
        refine jd_iload_n (pc := 286) 3 dL_law_286 rfl rfl ?_
        refine jd_iconst (pc := 287) (v := 2) dL_law_287 (by decide) ?_
        refine jd_iadd (pc := 288) dL_law_288 ?_
        obtain ⟨hv12, h⟩ := h
        refine jd_sld (pc := 289) hXs hv12 dL_law_289 ?_
        refine jd_aload_n (pc := 290) 0 dL_law_290 rfl rfl ?_
        refine jd_iload_n (pc := 291) 3 dL_law_291 rfl rfl ?_
        refine jd_iconst (pc := 292) (v := 3) dL_law_292 (by decide) ?_
        refine jd_iadd (pc := 293) dL_law_293 ?_
        obtain ⟨hv13, h⟩ := h
        refine jd_sld (pc := 294) hXs hv13 dL_law_294 ?_
        refine jd_i2l (pc := 295) dL_law_295 ?_
        refine jd_bipush (pc := 296) (v := 32) dL_law_296 (by decide) ?_
        refine jd_lshl (pc := 298) dL_law_298 ?_
        refine jd_aload_n (pc := 299) 0 dL_law_299 rfl rfl ?_
        refine jd_iload_n (pc := 300) 3 dL_law_300 rfl rfl ?_
        refine jd_iconst (pc := 301) (v := 4) dL_law_301 (by decide) ?_
        refine jd_iadd (pc := 302) dL_law_302 ?_
        obtain ⟨hv14, h⟩ := h
        refine jd_sld (pc := 303) hXs hv14 dL_law_303 ?_
        refine jd_i2l (pc := 304) dL_law_304 ?_
        refine jd_ldc2 (pc := 305) (v := 4294967295) qL_18 dL_law_305 ?_
        refine jd_land (pc := 308) dL_law_308 ?_
        refine jd_lor (pc := 309) dL_law_309 ?_
        refine jd_callVi (pc := 310) (M2 := mX11_set) (id := 0) (ci := 10) (T := TX11) (N := 9) (av := [.int (xs (Int32.toNatClampNeg (x3 + 1))), .int (xs (Int32.toNatClampNeg (x3 + 2))), .long (((Int32.toInt64 (xs (Int32.toNatClampNeg (x3 + 3)))) <<< (Int32.toInt64 32 &&& 63)) ||| ((Int32.toInt64 (xs (Int32.toNatClampNeg (x3 + 4)))) &&& 4294967295))]) kX11_set sX11_set rfl hX.1 lL_20 rfl rfl (Nat.le_of_ble_eq_true rfl) dL_law_310 h ?_
        intro v16 I15 J15 h
        refine jd_pop (pc := 313) dL_law_313 rfl ?_
        refine jd_aload_n (pc := 314) 2 dL_law_314 rfl rfl ?_
        refine jd_aload_n (pc := 315) 0 dL_law_315 rfl rfl ?_
        refine jd_iload_n (pc := 316) 3 dL_law_316 rfl rfl ?_
        refine jd_iconst (pc := 317) (v := 1) dL_law_317 (by decide) ?_
        refine jd_iadd (pc := 318) dL_law_318 ?_
        obtain ⟨hv17, h⟩ := h
        refine jd_sld (pc := 319) hXs hv17 dL_law_319 ?_
        refine jd_aload_n (pc := 320) 0 dL_law_320 rfl rfl ?_
        refine jd_iload_n (pc := 321) 3 dL_law_321 rfl rfl ?_
        refine jd_iconst (pc := 322) (v := 2) dL_law_322 (by decide) ?_
        refine jd_iadd (pc := 323) dL_law_323 ?_
        obtain ⟨hv18, h⟩ := h
        refine jd_sld (pc := 324) hXs hv18 dL_law_324 ?_
        refine jd_aload_n (pc := 325) 0 dL_law_325 rfl rfl ?_
        refine jd_iload_n (pc := 326) 3 dL_law_326 rfl rfl ?_
        refine jd_iconst (pc := 327) (v := 3) dL_law_327 (by decide) ?_
        refine jd_iadd (pc := 328) dL_law_328 ?_
        obtain ⟨hv19, h⟩ := h
        refine jd_sld (pc := 329) hXs hv19 dL_law_329 ?_
        refine jd_i2l (pc := 330) dL_law_330 ?_
        refine jd_bipush (pc := 331) (v := 32) dL_law_331 (by decide) ?_
        refine jd_lshl (pc := 333) dL_law_333 ?_
        refine jd_aload_n (pc := 334) 0 dL_law_334 rfl rfl ?_
        refine jd_iload_n (pc := 335) 3 dL_law_335 rfl rfl ?_
        refine jd_iconst (pc := 336) (v := 4) dL_law_336 (by decide) ?_
        refine jd_iadd (pc := 337) dL_law_337 ?_
        obtain ⟨hv20, h⟩ := h
        refine jd_sld (pc := 338) hXs hv20 dL_law_338 ?_
        refine jd_i2l (pc := 339) dL_law_339 ?_
        refine jd_ldc2 (pc := 340) (v := 4294967295) qL_18 dL_law_340 ?_
        refine jd_land (pc := 343) dL_law_343 ?_
        refine jd_lor (pc := 344) dL_law_344 ?_
        refine jd_callVi (pc := 345) (M2 := mX12_set) (id := 45) (ci := 11) (T := TX12) (N := 45) (av := [.int (xs (Int32.toNatClampNeg (x3 + 1))), .int (xs (Int32.toNatClampNeg (x3 + 2))), .long (((Int32.toInt64 (xs (Int32.toNatClampNeg (x3 + 3)))) <<< (Int32.toInt64 32 &&& 63)) ||| ((Int32.toInt64 (xs (Int32.toNatClampNeg (x3 + 4)))) &&& 4294967295))]) kX12_set sX12_set rfl hM.1 lL_24 rfl rfl (Nat.le_of_ble_eq_true rfl) dL_law_345 h ?_
        intro v22 I21 J21 h
        refine jd_pop (pc := 348) dL_law_348 rfl ?_
        refine jd_goto (pc := 349) 1567 dL_law_349 (by decide) ?_
        refine jd_iinc (pc := 1567) (v := (x3 + 6)) 3 [(3, .int (x3 + 6)), (0, .ref b), (1, .ref (gb G + 0)), (2, .ref (gb G + 45))] dL_law_1567 rfl rfl (Nat.le_of_ble_eq_true rfl) rfl ?_
        refine jd_goto (pc := 1570) 18 dL_law_1570 (by decide) ?_
        exact jd_lv (lv2 := [(0, .ref b), (1, .ref (gb G + 0)), (2, .ref (gb G + 45)), (3, .int (x3 + 6))]) [1, 2, 3, 0] rfl h
      · have h := h.2.2.1 hq
        refine jd_tableIn (pc := 33) 352 dL_law_33 (by omega) (by omega) (by rw [hq]; rfl) (by decide) ?_
        refine jd_aload_n (pc := 352) 1 dL_law_352 rfl rfl ?_
        refine jd_aload_n (pc := 353) 0 dL_law_353 rfl rfl ?_
        refine jd_iload_n (pc := 354) 3 dL_law_354 rfl rfl ?_
        refine jd_iconst (pc := 355) (v := 1) dL_law_355 (by decide) ?_
        refine jd_iadd (pc := 356) dL_law_356 ?_
        obtain ⟨hv23, h⟩ := h
        refine jd_sld (pc := 357) hXs hv23 dL_law_357 ?_
        refine jd_aload_n (pc := 358) 0 dL_law_358 rfl rfl ?_
        refine jd_iload_n (pc := 359) 3 dL_law_359 rfl rfl ?_
        refine jd_iconst (pc := 360) (v := 2) dL_law_360 (by decide) ?_
        refine jd_iadd (pc := 361) dL_law_361 ?_
        obtain ⟨hv24, h⟩ := h
        refine jd_sld (pc := 362) hXs hv24 dL_law_362 ?_
        refine jd_aload_n (pc := 363) 0 dL_law_363 rfl rfl ?_
        refine jd_iload_n (pc := 364) 3 dL_law_364 rfl rfl ?_
        refine jd_iconst (pc := 365) (v := 3) dL_law_365 (by decide) ?_
        refine jd_iadd (pc := 366) dL_law_366 ?_
        obtain ⟨hv25, h⟩ := h
        refine jd_sld (pc := 367) hXs hv25 dL_law_367 ?_
        refine jd_aload_n (pc := 368) 0 dL_law_368 rfl rfl ?_
        refine jd_iload_n (pc := 369) 3 dL_law_369 rfl rfl ?_
        refine jd_iconst (pc := 370) (v := 4) dL_law_370 (by decide) ?_
        refine jd_iadd (pc := 371) dL_law_371 ?_
        obtain ⟨hv26, h⟩ := h
        refine jd_sld (pc := 372) hXs hv26 dL_law_372 ?_
        refine jd_aload_n (pc := 373) 0 dL_law_373 rfl rfl ?_
        refine jd_iload_n (pc := 374) 3 dL_law_374 rfl rfl ?_
        refine jd_iconst (pc := 375) (v := 5) dL_law_375 (by decide) ?_
        refine jd_iadd (pc := 376) dL_law_376 ?_
        obtain ⟨hv27, h⟩ := h
        refine jd_sld (pc := 377) hXs hv27 dL_law_377 ?_
        refine jd_callVi (pc := 378) (M2 := mX11_copy) (id := 0) (ci := 10) (T := TX11) (N := 9) (av := [.int (xs (Int32.toNatClampNeg (x3 + 1))), .int (xs (Int32.toNatClampNeg (x3 + 2))), .int (xs (Int32.toNatClampNeg (x3 + 3))), .int (xs (Int32.toNatClampNeg (x3 + 4))), .int (xs (Int32.toNatClampNeg (x3 + 5)))]) kX11_copy sX11_copy rfl hX.1 lL_25 rfl rfl (Nat.le_of_ble_eq_true rfl) dL_law_378 h ?_
        intro v29 I28 J28 h
        refine jd_pop (pc := 381) dL_law_381 rfl ?_
        refine jd_aload_n (pc := 382) 2 dL_law_382 rfl rfl ?_
        refine jd_aload_n (pc := 383) 0 dL_law_383 rfl rfl ?_
        refine jd_iload_n (pc := 384) 3 dL_law_384 rfl rfl ?_
        refine jd_iconst (pc := 385) (v := 1) dL_law_385 (by decide) ?_
        refine jd_iadd (pc := 386) dL_law_386 ?_
        obtain ⟨hv30, h⟩ := h
        refine jd_sld (pc := 387) hXs hv30 dL_law_387 ?_
        refine jd_aload_n (pc := 388) 0 dL_law_388 rfl rfl ?_
        refine jd_iload_n (pc := 389) 3 dL_law_389 rfl rfl ?_
        refine jd_iconst (pc := 390) (v := 2) dL_law_390 (by decide) ?_
        refine jd_iadd (pc := 391) dL_law_391 ?_
        obtain ⟨hv31, h⟩ := h
        refine jd_sld (pc := 392) hXs hv31 dL_law_392 ?_
        refine jd_aload_n (pc := 393) 0 dL_law_393 rfl rfl ?_
        refine jd_iload_n (pc := 394) 3 dL_law_394 rfl rfl ?_
        refine jd_iconst (pc := 395) (v := 3) dL_law_395 (by decide) ?_
        refine jd_iadd (pc := 396) dL_law_396 ?_
        obtain ⟨hv32, h⟩ := h
        refine jd_sld (pc := 397) hXs hv32 dL_law_397 ?_
        refine jd_aload_n (pc := 398) 0 dL_law_398 rfl rfl ?_
        refine jd_iload_n (pc := 399) 3 dL_law_399 rfl rfl ?_
        refine jd_iconst (pc := 400) (v := 4) dL_law_400 (by decide) ?_
        refine jd_iadd (pc := 401) dL_law_401 ?_
        obtain ⟨hv33, h⟩ := h
        refine jd_sld (pc := 402) hXs hv33 dL_law_402 ?_
        refine jd_aload_n (pc := 403) 0 dL_law_403 rfl rfl ?_
        refine jd_iload_n (pc := 404) 3 dL_law_404 rfl rfl ?_
        refine jd_iconst (pc := 405) (v := 5) dL_law_405 (by decide) ?_
        refine jd_iadd (pc := 406) dL_law_406 ?_
        obtain ⟨hv34, h⟩ := h
        refine jd_sld (pc := 407) hXs hv34 dL_law_407 ?_
        refine jd_callVi (pc := 408) (M2 := mX12_copy) (id := 45) (ci := 11) (T := TX12) (N := 45) (av := [.int (xs (Int32.toNatClampNeg (x3 + 1))), .int (xs (Int32.toNatClampNeg (x3 + 2))), .int (xs (Int32.toNatClampNeg (x3 + 3))), .int (xs (Int32.toNatClampNeg (x3 + 4))), .int (xs (Int32.toNatClampNeg (x3 + 5)))]) kX12_copy sX12_copy rfl hM.1 lL_29 rfl rfl (Nat.le_of_ble_eq_true rfl) dL_law_408 h ?_
        intro v36 I35 J35 h
        refine jd_pop (pc := 411) dL_law_411 rfl ?_
        refine jd_goto (pc := 412) 1567 dL_law_412 (by decide) ?_
        refine jd_iinc (pc := 1567) (v := (x3 + 6)) 3 [(3, .int (x3 + 6)), (0, .ref b), (1, .ref (gb G + 0)), (2, .ref (gb G + 45))] dL_law_1567 rfl rfl (Nat.le_of_ble_eq_true rfl) rfl ?_
        refine jd_goto (pc := 1570) 18 dL_law_1570 (by decide) ?_
        exact jd_lv (lv2 := [(0, .ref b), (1, .ref (gb G + 0)), (2, .ref (gb G + 45)), (3, .int (x3 + 6))]) [1, 2, 3, 0] rfl h
      · have h := h.2.2.2.1 hq
        refine jd_tableIn (pc := 33) 415 dL_law_33 (by omega) (by omega) (by rw [hq]; rfl) (by decide) ?_
        refine jd_aload_n (pc := 415) 1 dL_law_415 rfl rfl ?_
        refine jd_aload_n (pc := 416) 0 dL_law_416 rfl rfl ?_
        refine jd_iload_n (pc := 417) 3 dL_law_417 rfl rfl ?_
        refine jd_iconst (pc := 418) (v := 1) dL_law_418 (by decide) ?_
        refine jd_iadd (pc := 419) dL_law_419 ?_
        obtain ⟨hv37, h⟩ := h
        refine jd_sld (pc := 420) hXs hv37 dL_law_420 ?_
        refine jd_aload_n (pc := 421) 0 dL_law_421 rfl rfl ?_
        refine jd_iload_n (pc := 422) 3 dL_law_422 rfl rfl ?_
        refine jd_iconst (pc := 423) (v := 2) dL_law_423 (by decide) ?_
        refine jd_iadd (pc := 424) dL_law_424 ?_
        obtain ⟨hv38, h⟩ := h
        refine jd_sld (pc := 425) hXs hv38 dL_law_425 ?_
        refine jd_callVl (pc := 426) (M2 := mX11_element) (id := 0) (ci := 10) (T := TX11) (N := 9) (av := [.int (xs (Int32.toNatClampNeg (x3 + 1))), .int (xs (Int32.toNatClampNeg (x3 + 2)))]) kX11_element sX11_element rfl hX.1 lL_30 rfl rfl (Nat.le_of_ble_eq_true rfl) dL_law_426 h ?_
        intro v40 I39 J39 h
        refine jd_pop2 (pc := 429) dL_law_429 rfl ?_
        refine jd_aload_n (pc := 430) 2 dL_law_430 rfl rfl ?_
        refine jd_aload_n (pc := 431) 0 dL_law_431 rfl rfl ?_
        refine jd_iload_n (pc := 432) 3 dL_law_432 rfl rfl ?_
        refine jd_iconst (pc := 433) (v := 1) dL_law_433 (by decide) ?_
        refine jd_iadd (pc := 434) dL_law_434 ?_
        obtain ⟨hv41, h⟩ := h
        refine jd_sld (pc := 435) hXs hv41 dL_law_435 ?_
        refine jd_aload_n (pc := 436) 0 dL_law_436 rfl rfl ?_
        refine jd_iload_n (pc := 437) 3 dL_law_437 rfl rfl ?_
        refine jd_iconst (pc := 438) (v := 2) dL_law_438 (by decide) ?_
        refine jd_iadd (pc := 439) dL_law_439 ?_
        obtain ⟨hv42, h⟩ := h
        refine jd_sld (pc := 440) hXs hv42 dL_law_440 ?_
        refine jd_callVl (pc := 441) (M2 := mX12_element) (id := 45) (ci := 11) (T := TX12) (N := 45) (av := [.int (xs (Int32.toNatClampNeg (x3 + 1))), .int (xs (Int32.toNatClampNeg (x3 + 2)))]) kX12_element sX12_element rfl hM.1 lL_34 rfl rfl (Nat.le_of_ble_eq_true rfl) dL_law_441 h ?_
        intro v44 I43 J43 h
        refine jd_pop2 (pc := 444) dL_law_444 rfl ?_
        refine jd_goto (pc := 445) 1567 dL_law_445 (by decide) ?_
        refine jd_iinc (pc := 1567) (v := (x3 + 6)) 3 [(3, .int (x3 + 6)), (0, .ref b), (1, .ref (gb G + 0)), (2, .ref (gb G + 45))] dL_law_1567 rfl rfl (Nat.le_of_ble_eq_true rfl) rfl ?_
        refine jd_goto (pc := 1570) 18 dL_law_1570 (by decide) ?_
        exact jd_lv (lv2 := [(0, .ref b), (1, .ref (gb G + 0)), (2, .ref (gb G + 45)), (3, .int (x3 + 6))]) [1, 2, 3, 0] rfl h
      · have h := h.2.2.2.2.1 hq
        refine jd_tableIn (pc := 33) 448 dL_law_33 (by omega) (by omega) (by rw [hq]; rfl) (by decide) ?_
        refine jd_aload_n (pc := 448) 1 dL_law_448 rfl rfl ?_
        refine jd_aload_n (pc := 449) 0 dL_law_449 rfl rfl ?_
        refine jd_iload_n (pc := 450) 3 dL_law_450 rfl rfl ?_
        refine jd_iconst (pc := 451) (v := 1) dL_law_451 (by decide) ?_
        refine jd_iadd (pc := 452) dL_law_452 ?_
        obtain ⟨hv45, h⟩ := h
        refine jd_sld (pc := 453) hXs hv45 dL_law_453 ?_
        refine jd_callVi (pc := 454) (M2 := mX11_holds) (id := 0) (ci := 10) (T := TX11) (N := 9) (av := [.int (xs (Int32.toNatClampNeg (x3 + 1)))]) kX11_holds sX11_holds rfl hX.1 lL_35 rfl rfl (Nat.le_of_ble_eq_true rfl) dL_law_454 h ?_
        intro v47 I46 J46 h
        refine jd_pop (pc := 457) dL_law_457 rfl ?_
        refine jd_aload_n (pc := 458) 2 dL_law_458 rfl rfl ?_
        refine jd_aload_n (pc := 459) 0 dL_law_459 rfl rfl ?_
        refine jd_iload_n (pc := 460) 3 dL_law_460 rfl rfl ?_
        refine jd_iconst (pc := 461) (v := 1) dL_law_461 (by decide) ?_
        refine jd_iadd (pc := 462) dL_law_462 ?_
        obtain ⟨hv48, h⟩ := h
        refine jd_sld (pc := 463) hXs hv48 dL_law_463 ?_
        refine jd_callVi (pc := 464) (M2 := mX12_holds) (id := 45) (ci := 11) (T := TX12) (N := 45) (av := [.int (xs (Int32.toNatClampNeg (x3 + 1)))]) kX12_holds sX12_holds rfl hM.1 lL_39 rfl rfl (Nat.le_of_ble_eq_true rfl) dL_law_464 h ?_
        intro v50 I49 J49 h
        refine jd_pop (pc := 467) dL_law_467 rfl ?_
        refine jd_goto (pc := 468) 1567 dL_law_468 (by decide) ?_
        refine jd_iinc (pc := 1567) (v := (x3 + 6)) 3 [(3, .int (x3 + 6)), (0, .ref b), (1, .ref (gb G + 0)), (2, .ref (gb G + 45))] dL_law_1567 rfl rfl (Nat.le_of_ble_eq_true rfl) rfl ?_
        refine jd_goto (pc := 1570) 18 dL_law_1570 (by decide) ?_
        exact jd_lv (lv2 := [(0, .ref b), (1, .ref (gb G + 0)), (2, .ref (gb G + 45)), (3, .int (x3 + 6))]) [1, 2, 3, 0] rfl h
      · have h := h.2.2.2.2.2.1 hq
        refine jd_tableIn (pc := 33) 471 dL_law_33 (by omega) (by omega) (by rw [hq]; rfl) (by decide) ?_
        refine jd_aload_n (pc := 471) 1 dL_law_471 rfl rfl ?_
        refine jd_aload_n (pc := 472) 0 dL_law_472 rfl rfl ?_
        refine jd_iload_n (pc := 473) 3 dL_law_473 rfl rfl ?_
        refine jd_iconst (pc := 474) (v := 1) dL_law_474 (by decide) ?_
        refine jd_iadd (pc := 475) dL_law_475 ?_
        obtain ⟨hv51, h⟩ := h
        refine jd_sld (pc := 476) hXs hv51 dL_law_476 ?_
        refine jd_aload_n (pc := 477) 0 dL_law_477 rfl rfl ?_
        refine jd_iload_n (pc := 478) 3 dL_law_478 rfl rfl ?_
        refine jd_iconst (pc := 479) (v := 2) dL_law_479 (by decide) ?_
        refine jd_iadd (pc := 480) dL_law_480 ?_
        obtain ⟨hv52, h⟩ := h
        refine jd_sld (pc := 481) hXs hv52 dL_law_481 ?_
        refine jd_aload_n (pc := 482) 0 dL_law_482 rfl rfl ?_
        refine jd_iload_n (pc := 483) 3 dL_law_483 rfl rfl ?_
        refine jd_iconst (pc := 484) (v := 3) dL_law_484 (by decide) ?_
        refine jd_iadd (pc := 485) dL_law_485 ?_
        obtain ⟨hv53, h⟩ := h
        refine jd_sld (pc := 486) hXs hv53 dL_law_486 ?_
        obtain ⟨mc54, ms54, rc54, rs54, hb1, hb2, h⟩ := h
        refine jd_callV (pc := 487) (M2 := mX11_coachman) (id := 0) (ci := 10) (T := TX11) (N := 9) (rc2 := rc54) (rs2 := rs54) (av := [.int (xs (Int32.toNatClampNeg (x3 + 1))), .int (xs (Int32.toNatClampNeg (x3 + 2))), .int (xs (Int32.toNatClampNeg (x3 + 3)))]) kX11_coachman sX11_coachman rfl hX.1 lL_40 rfl rfl (Nat.le_of_ble_eq_true rfl) hb1 hb2 dL_law_487 (Cl.mono h (fun r54 Z54 I54 J54 h => ?_))
        obtain ⟨v54, rfl, h⟩ := h
        obtain ⟨hX, h⟩ := h
        obtain ⟨hM, h⟩ := h
        refine jd_pop (pc := 490) dL_law_490 rfl ?_
        refine jd_aload_n (pc := 491) 2 dL_law_491 rfl rfl ?_
        refine jd_aload_n (pc := 492) 0 dL_law_492 rfl rfl ?_
        refine jd_iload_n (pc := 493) 3 dL_law_493 rfl rfl ?_
        refine jd_iconst (pc := 494) (v := 1) dL_law_494 (by decide) ?_
        refine jd_iadd (pc := 495) dL_law_495 ?_
        obtain ⟨hv55, h⟩ := h
        refine jd_sld (pc := 496) hXs hv55 dL_law_496 ?_
        refine jd_aload_n (pc := 497) 0 dL_law_497 rfl rfl ?_
        refine jd_iload_n (pc := 498) 3 dL_law_498 rfl rfl ?_
        refine jd_iconst (pc := 499) (v := 2) dL_law_499 (by decide) ?_
        refine jd_iadd (pc := 500) dL_law_500 ?_
        obtain ⟨hv56, h⟩ := h
        refine jd_sld (pc := 501) hXs hv56 dL_law_501 ?_
        refine jd_aload_n (pc := 502) 0 dL_law_502 rfl rfl ?_
        refine jd_iload_n (pc := 503) 3 dL_law_503 rfl rfl ?_
        refine jd_iconst (pc := 504) (v := 3) dL_law_504 (by decide) ?_
        refine jd_iadd (pc := 505) dL_law_505 ?_
        obtain ⟨hv57, h⟩ := h
        refine jd_sld (pc := 506) hXs hv57 dL_law_506 ?_
        refine jd_callVi (pc := 507) (M2 := mX12_coachman) (id := 45) (ci := 11) (T := TX12) (N := 45) (av := [.int (xs (Int32.toNatClampNeg (x3 + 1))), .int (xs (Int32.toNatClampNeg (x3 + 2))), .int (xs (Int32.toNatClampNeg (x3 + 3)))]) kX12_coachman sX12_coachman rfl hM.1 lL_43 rfl rfl (Nat.le_of_ble_eq_true rfl) dL_law_507 h ?_
        intro v59 I58 J58 h
        refine jd_pop (pc := 510) dL_law_510 rfl ?_
        refine jd_goto (pc := 511) 1567 dL_law_511 (by decide) ?_
        refine jd_iinc (pc := 1567) (v := (x3 + 6)) 3 [(3, .int (x3 + 6)), (0, .ref b), (1, .ref (gb G + 0)), (2, .ref (gb G + 45))] dL_law_1567 rfl rfl (Nat.le_of_ble_eq_true rfl) rfl ?_
        refine jd_goto (pc := 1570) 18 dL_law_1570 (by decide) ?_
        exact jd_lv (lv2 := [(0, .ref b), (1, .ref (gb G + 0)), (2, .ref (gb G + 45)), (3, .int (x3 + 6))]) [1, 2, 3, 0] rfl h
      · have h := h.2.2.2.2.2.2.1 hq
        refine jd_tableIn (pc := 33) 514 dL_law_33 (by omega) (by omega) (by rw [hq]; rfl) (by decide) ?_
        refine jd_aload_n (pc := 514) 1 dL_law_514 rfl rfl ?_
        refine jd_aload_n (pc := 515) 0 dL_law_515 rfl rfl ?_
        refine jd_iload_n (pc := 516) 3 dL_law_516 rfl rfl ?_
        refine jd_iconst (pc := 517) (v := 1) dL_law_517 (by decide) ?_
        refine jd_iadd (pc := 518) dL_law_518 ?_
        obtain ⟨hv60, h⟩ := h
        refine jd_sld (pc := 519) hXs hv60 dL_law_519 ?_
        refine jd_aload_n (pc := 520) 0 dL_law_520 rfl rfl ?_
        refine jd_iload_n (pc := 521) 3 dL_law_521 rfl rfl ?_
        refine jd_iconst (pc := 522) (v := 2) dL_law_522 (by decide) ?_
        refine jd_iadd (pc := 523) dL_law_523 ?_
        obtain ⟨hv61, h⟩ := h
        refine jd_sld (pc := 524) hXs hv61 dL_law_524 ?_
        refine jd_callVi (pc := 525) (M2 := mX11_says) (id := 0) (ci := 10) (T := TX11) (N := 9) (av := [.int (xs (Int32.toNatClampNeg (x3 + 1))), .int (xs (Int32.toNatClampNeg (x3 + 2)))]) kX11_says sX11_says rfl hX.1 lL_44 rfl rfl (Nat.le_of_ble_eq_true rfl) dL_law_525 h ?_
        intro v63 I62 J62 h
        refine jd_pop (pc := 528) dL_law_528 rfl ?_
        refine jd_aload_n (pc := 529) 2 dL_law_529 rfl rfl ?_
        refine jd_aload_n (pc := 530) 0 dL_law_530 rfl rfl ?_
        refine jd_iload_n (pc := 531) 3 dL_law_531 rfl rfl ?_
        refine jd_iconst (pc := 532) (v := 1) dL_law_532 (by decide) ?_
        refine jd_iadd (pc := 533) dL_law_533 ?_
        obtain ⟨hv64, h⟩ := h
        refine jd_sld (pc := 534) hXs hv64 dL_law_534 ?_
        refine jd_aload_n (pc := 535) 0 dL_law_535 rfl rfl ?_
        refine jd_iload_n (pc := 536) 3 dL_law_536 rfl rfl ?_
        refine jd_iconst (pc := 537) (v := 2) dL_law_537 (by decide) ?_
        refine jd_iadd (pc := 538) dL_law_538 ?_
        obtain ⟨hv65, h⟩ := h
        refine jd_sld (pc := 539) hXs hv65 dL_law_539 ?_
        refine jd_callVi (pc := 540) (M2 := mX12_says) (id := 45) (ci := 11) (T := TX12) (N := 45) (av := [.int (xs (Int32.toNatClampNeg (x3 + 1))), .int (xs (Int32.toNatClampNeg (x3 + 2)))]) kX12_says sX12_says rfl hM.1 lL_48 rfl rfl (Nat.le_of_ble_eq_true rfl) dL_law_540 h ?_
        intro v67 I66 J66 h
        refine jd_pop (pc := 543) dL_law_543 rfl ?_
        refine jd_goto (pc := 544) 1567 dL_law_544 (by decide) ?_
        refine jd_iinc (pc := 1567) (v := (x3 + 6)) 3 [(3, .int (x3 + 6)), (0, .ref b), (1, .ref (gb G + 0)), (2, .ref (gb G + 45))] dL_law_1567 rfl rfl (Nat.le_of_ble_eq_true rfl) rfl ?_
        refine jd_goto (pc := 1570) 18 dL_law_1570 (by decide) ?_
        exact jd_lv (lv2 := [(0, .ref b), (1, .ref (gb G + 0)), (2, .ref (gb G + 45)), (3, .int (x3 + 6))]) [1, 2, 3, 0] rfl h
      · have h := h.2.2.2.2.2.2.2.1 hq
        refine jd_tableIn (pc := 33) 547 dL_law_33 (by omega) (by omega) (by rw [hq]; rfl) (by decide) ?_
        refine jd_aload_n (pc := 547) 1 dL_law_547 rfl rfl ?_
        refine jd_aload_n (pc := 548) 0 dL_law_548 rfl rfl ?_
        refine jd_iload_n (pc := 549) 3 dL_law_549 rfl rfl ?_
        refine jd_iconst (pc := 550) (v := 1) dL_law_550 (by decide) ?_
        refine jd_iadd (pc := 551) dL_law_551 ?_
        obtain ⟨hv68, h⟩ := h
        refine jd_sld (pc := 552) hXs hv68 dL_law_552 ?_
        refine jd_aload_n (pc := 553) 0 dL_law_553 rfl rfl ?_
        refine jd_iload_n (pc := 554) 3 dL_law_554 rfl rfl ?_
        refine jd_iconst (pc := 555) (v := 2) dL_law_555 (by decide) ?_
        refine jd_iadd (pc := 556) dL_law_556 ?_
        obtain ⟨hv69, h⟩ := h
        refine jd_sld (pc := 557) hXs hv69 dL_law_557 ?_
        refine jd_callVi (pc := 558) (M2 := mX11_person) (id := 0) (ci := 10) (T := TX11) (N := 9) (av := [.int (xs (Int32.toNatClampNeg (x3 + 1))), .int (xs (Int32.toNatClampNeg (x3 + 2)))]) kX11_person sX11_person rfl hX.1 lL_49 rfl rfl (Nat.le_of_ble_eq_true rfl) dL_law_558 h ?_
        intro v71 I70 J70 h
        refine jd_pop (pc := 561) dL_law_561 rfl ?_
        refine jd_aload_n (pc := 562) 2 dL_law_562 rfl rfl ?_
        refine jd_aload_n (pc := 563) 0 dL_law_563 rfl rfl ?_
        refine jd_iload_n (pc := 564) 3 dL_law_564 rfl rfl ?_
        refine jd_iconst (pc := 565) (v := 1) dL_law_565 (by decide) ?_
        refine jd_iadd (pc := 566) dL_law_566 ?_
        obtain ⟨hv72, h⟩ := h
        refine jd_sld (pc := 567) hXs hv72 dL_law_567 ?_
        refine jd_aload_n (pc := 568) 0 dL_law_568 rfl rfl ?_
        refine jd_iload_n (pc := 569) 3 dL_law_569 rfl rfl ?_
        refine jd_iconst (pc := 570) (v := 2) dL_law_570 (by decide) ?_
        refine jd_iadd (pc := 571) dL_law_571 ?_
        obtain ⟨hv73, h⟩ := h
        refine jd_sld (pc := 572) hXs hv73 dL_law_572 ?_
        refine jd_callVi (pc := 573) (M2 := mX12_person) (id := 45) (ci := 11) (T := TX12) (N := 45) (av := [.int (xs (Int32.toNatClampNeg (x3 + 1))), .int (xs (Int32.toNatClampNeg (x3 + 2)))]) kX12_person sX12_person rfl hM.1 lL_52 rfl rfl (Nat.le_of_ble_eq_true rfl) dL_law_573 h ?_
        intro v75 I74 J74 h
        refine jd_pop (pc := 576) dL_law_576 rfl ?_
        refine jd_goto (pc := 577) 1567 dL_law_577 (by decide) ?_
        refine jd_iinc (pc := 1567) (v := (x3 + 6)) 3 [(3, .int (x3 + 6)), (0, .ref b), (1, .ref (gb G + 0)), (2, .ref (gb G + 45))] dL_law_1567 rfl rfl (Nat.le_of_ble_eq_true rfl) rfl ?_
        refine jd_goto (pc := 1570) 18 dL_law_1570 (by decide) ?_
        exact jd_lv (lv2 := [(0, .ref b), (1, .ref (gb G + 0)), (2, .ref (gb G + 45)), (3, .int (x3 + 6))]) [1, 2, 3, 0] rfl h
      · have h := h.2.2.2.2.2.2.2.2.1 hq
        refine jd_tableIn (pc := 33) 580 dL_law_33 (by omega) (by omega) (by rw [hq]; rfl) (by decide) ?_
        refine jd_aload_n (pc := 580) 1 dL_law_580 rfl rfl ?_
        refine jd_aload_n (pc := 581) 0 dL_law_581 rfl rfl ?_
        refine jd_iload_n (pc := 582) 3 dL_law_582 rfl rfl ?_
        refine jd_iconst (pc := 583) (v := 1) dL_law_583 (by decide) ?_
        refine jd_iadd (pc := 584) dL_law_584 ?_
        obtain ⟨hv76, h⟩ := h
        refine jd_sld (pc := 585) hXs hv76 dL_law_585 ?_
        refine jd_aload_n (pc := 586) 0 dL_law_586 rfl rfl ?_
        refine jd_iload_n (pc := 587) 3 dL_law_587 rfl rfl ?_
        refine jd_iconst (pc := 588) (v := 2) dL_law_588 (by decide) ?_
        refine jd_iadd (pc := 589) dL_law_589 ?_
        obtain ⟨hv77, h⟩ := h
        refine jd_sld (pc := 590) hXs hv77 dL_law_590 ?_
        refine jd_aload_n (pc := 591) 0 dL_law_591 rfl rfl ?_
        refine jd_iload_n (pc := 592) 3 dL_law_592 rfl rfl ?_
        refine jd_iconst (pc := 593) (v := 3) dL_law_593 (by decide) ?_
        refine jd_iadd (pc := 594) dL_law_594 ?_
        obtain ⟨hv78, h⟩ := h
        refine jd_sld (pc := 595) hXs hv78 dL_law_595 ?_
        refine jd_callVi (pc := 596) (M2 := mX11_change) (id := 0) (ci := 10) (T := TX11) (N := 9) (av := [.int (xs (Int32.toNatClampNeg (x3 + 1))), .int (xs (Int32.toNatClampNeg (x3 + 2))), .int (xs (Int32.toNatClampNeg (x3 + 3)))]) kX11_change sX11_change rfl hX.1 lL_53 rfl rfl (Nat.le_of_ble_eq_true rfl) dL_law_596 h ?_
        intro v80 I79 J79 h
        refine jd_pop (pc := 599) dL_law_599 rfl ?_
        refine jd_aload_n (pc := 600) 2 dL_law_600 rfl rfl ?_
        refine jd_aload_n (pc := 601) 0 dL_law_601 rfl rfl ?_
        refine jd_iload_n (pc := 602) 3 dL_law_602 rfl rfl ?_
        refine jd_iconst (pc := 603) (v := 1) dL_law_603 (by decide) ?_
        refine jd_iadd (pc := 604) dL_law_604 ?_
        obtain ⟨hv81, h⟩ := h
        refine jd_sld (pc := 605) hXs hv81 dL_law_605 ?_
        refine jd_aload_n (pc := 606) 0 dL_law_606 rfl rfl ?_
        refine jd_iload_n (pc := 607) 3 dL_law_607 rfl rfl ?_
        refine jd_iconst (pc := 608) (v := 2) dL_law_608 (by decide) ?_
        refine jd_iadd (pc := 609) dL_law_609 ?_
        obtain ⟨hv82, h⟩ := h
        refine jd_sld (pc := 610) hXs hv82 dL_law_610 ?_
        refine jd_aload_n (pc := 611) 0 dL_law_611 rfl rfl ?_
        refine jd_iload_n (pc := 612) 3 dL_law_612 rfl rfl ?_
        refine jd_iconst (pc := 613) (v := 3) dL_law_613 (by decide) ?_
        refine jd_iadd (pc := 614) dL_law_614 ?_
        obtain ⟨hv83, h⟩ := h
        refine jd_sld (pc := 615) hXs hv83 dL_law_615 ?_
        refine jd_callVi (pc := 616) (M2 := mX12_change) (id := 45) (ci := 11) (T := TX12) (N := 45) (av := [.int (xs (Int32.toNatClampNeg (x3 + 1))), .int (xs (Int32.toNatClampNeg (x3 + 2))), .int (xs (Int32.toNatClampNeg (x3 + 3)))]) kX12_change sX12_change rfl hM.1 lL_56 rfl rfl (Nat.le_of_ble_eq_true rfl) dL_law_616 h ?_
        intro v85 I84 J84 h
        refine jd_pop (pc := 619) dL_law_619 rfl ?_
        refine jd_goto (pc := 620) 1567 dL_law_620 (by decide) ?_
        refine jd_iinc (pc := 1567) (v := (x3 + 6)) 3 [(3, .int (x3 + 6)), (0, .ref b), (1, .ref (gb G + 0)), (2, .ref (gb G + 45))] dL_law_1567 rfl rfl (Nat.le_of_ble_eq_true rfl) rfl ?_
        refine jd_goto (pc := 1570) 18 dL_law_1570 (by decide) ?_
        exact jd_lv (lv2 := [(0, .ref b), (1, .ref (gb G + 0)), (2, .ref (gb G + 45)), (3, .int (x3 + 6))]) [1, 2, 3, 0] rfl h
      · have h := h.2.2.2.2.2.2.2.2.2.1 hq
        refine jd_tableIn (pc := 33) 623 dL_law_33 (by omega) (by omega) (by rw [hq]; rfl) (by decide) ?_
        refine jd_aload_n (pc := 623) 1 dL_law_623 rfl rfl ?_
        refine jd_aload_n (pc := 624) 0 dL_law_624 rfl rfl ?_
        refine jd_iload_n (pc := 625) 3 dL_law_625 rfl rfl ?_
        refine jd_iconst (pc := 626) (v := 1) dL_law_626 (by decide) ?_
        refine jd_iadd (pc := 627) dL_law_627 ?_
        obtain ⟨hv86, h⟩ := h
        refine jd_sld (pc := 628) hXs hv86 dL_law_628 ?_
        refine jd_aload_n (pc := 629) 0 dL_law_629 rfl rfl ?_
        refine jd_iload_n (pc := 630) 3 dL_law_630 rfl rfl ?_
        refine jd_iconst (pc := 631) (v := 2) dL_law_631 (by decide) ?_
        refine jd_iadd (pc := 632) dL_law_632 ?_
        obtain ⟨hv87, h⟩ := h
        refine jd_sld (pc := 633) hXs hv87 dL_law_633 ?_
        refine jd_aload_n (pc := 634) 0 dL_law_634 rfl rfl ?_
        refine jd_iload_n (pc := 635) 3 dL_law_635 rfl rfl ?_
        refine jd_iconst (pc := 636) (v := 3) dL_law_636 (by decide) ?_
        refine jd_iadd (pc := 637) dL_law_637 ?_
        obtain ⟨hv88, h⟩ := h
        refine jd_sld (pc := 638) hXs hv88 dL_law_638 ?_
        refine jd_callVi (pc := 639) (M2 := mX11_know) (id := 0) (ci := 10) (T := TX11) (N := 9) (av := [.int (xs (Int32.toNatClampNeg (x3 + 1))), .int (xs (Int32.toNatClampNeg (x3 + 2))), .int (xs (Int32.toNatClampNeg (x3 + 3)))]) kX11_know sX11_know rfl hX.1 lL_57 rfl rfl (Nat.le_of_ble_eq_true rfl) dL_law_639 h ?_
        intro v90 I89 J89 h
        refine jd_pop (pc := 642) dL_law_642 rfl ?_
        refine jd_aload_n (pc := 643) 2 dL_law_643 rfl rfl ?_
        refine jd_aload_n (pc := 644) 0 dL_law_644 rfl rfl ?_
        refine jd_iload_n (pc := 645) 3 dL_law_645 rfl rfl ?_
        refine jd_iconst (pc := 646) (v := 1) dL_law_646 (by decide) ?_
        refine jd_iadd (pc := 647) dL_law_647 ?_
        obtain ⟨hv91, h⟩ := h
        refine jd_sld (pc := 648) hXs hv91 dL_law_648 ?_
        refine jd_aload_n (pc := 649) 0 dL_law_649 rfl rfl ?_
        refine jd_iload_n (pc := 650) 3 dL_law_650 rfl rfl ?_
        refine jd_iconst (pc := 651) (v := 2) dL_law_651 (by decide) ?_
        refine jd_iadd (pc := 652) dL_law_652 ?_
        obtain ⟨hv92, h⟩ := h
        refine jd_sld (pc := 653) hXs hv92 dL_law_653 ?_
        refine jd_aload_n (pc := 654) 0 dL_law_654 rfl rfl ?_
        refine jd_iload_n (pc := 655) 3 dL_law_655 rfl rfl ?_
        refine jd_iconst (pc := 656) (v := 3) dL_law_656 (by decide) ?_
        refine jd_iadd (pc := 657) dL_law_657 ?_
        obtain ⟨hv93, h⟩ := h
        refine jd_sld (pc := 658) hXs hv93 dL_law_658 ?_
        refine jd_callVi (pc := 659) (M2 := mX12_know) (id := 45) (ci := 11) (T := TX12) (N := 45) (av := [.int (xs (Int32.toNatClampNeg (x3 + 1))), .int (xs (Int32.toNatClampNeg (x3 + 2))), .int (xs (Int32.toNatClampNeg (x3 + 3)))]) kX12_know sX12_know rfl hM.1 lL_60 rfl rfl (Nat.le_of_ble_eq_true rfl) dL_law_659 h ?_
        intro v95 I94 J94 h
        refine jd_pop (pc := 662) dL_law_662 rfl ?_
        refine jd_goto (pc := 663) 1567 dL_law_663 (by decide) ?_
        refine jd_iinc (pc := 1567) (v := (x3 + 6)) 3 [(3, .int (x3 + 6)), (0, .ref b), (1, .ref (gb G + 0)), (2, .ref (gb G + 45))] dL_law_1567 rfl rfl (Nat.le_of_ble_eq_true rfl) rfl ?_
        refine jd_goto (pc := 1570) 18 dL_law_1570 (by decide) ?_
        exact jd_lv (lv2 := [(0, .ref b), (1, .ref (gb G + 0)), (2, .ref (gb G + 45)), (3, .int (x3 + 6))]) [1, 2, 3, 0] rfl h
      · have h := h.2.2.2.2.2.2.2.2.2.2.1 hq
        refine jd_tableIn (pc := 33) 666 dL_law_33 (by omega) (by omega) (by rw [hq]; rfl) (by decide) ?_
        refine jd_aload_n (pc := 666) 1 dL_law_666 rfl rfl ?_
        refine jd_aload_n (pc := 667) 0 dL_law_667 rfl rfl ?_
        refine jd_iload_n (pc := 668) 3 dL_law_668 rfl rfl ?_
        refine jd_iconst (pc := 669) (v := 1) dL_law_669 (by decide) ?_
        refine jd_iadd (pc := 670) dL_law_670 ?_
        obtain ⟨hv96, h⟩ := h
        refine jd_sld (pc := 671) hXs hv96 dL_law_671 ?_
        refine jd_aload_n (pc := 672) 0 dL_law_672 rfl rfl ?_
        refine jd_iload_n (pc := 673) 3 dL_law_673 rfl rfl ?_
        refine jd_iconst (pc := 674) (v := 2) dL_law_674 (by decide) ?_
        refine jd_iadd (pc := 675) dL_law_675 ?_
        obtain ⟨hv97, h⟩ := h
        refine jd_sld (pc := 676) hXs hv97 dL_law_676 ?_
        refine jd_callVi (pc := 677) (M2 := mX11_ask) (id := 0) (ci := 10) (T := TX11) (N := 9) (av := [.int (xs (Int32.toNatClampNeg (x3 + 1))), .int (xs (Int32.toNatClampNeg (x3 + 2)))]) kX11_ask sX11_ask rfl hX.1 lL_61 rfl rfl (Nat.le_of_ble_eq_true rfl) dL_law_677 h ?_
        intro v99 I98 J98 h
        refine jd_pop (pc := 680) dL_law_680 rfl ?_
        refine jd_aload_n (pc := 681) 2 dL_law_681 rfl rfl ?_
        refine jd_aload_n (pc := 682) 0 dL_law_682 rfl rfl ?_
        refine jd_iload_n (pc := 683) 3 dL_law_683 rfl rfl ?_
        refine jd_iconst (pc := 684) (v := 1) dL_law_684 (by decide) ?_
        refine jd_iadd (pc := 685) dL_law_685 ?_
        obtain ⟨hv100, h⟩ := h
        refine jd_sld (pc := 686) hXs hv100 dL_law_686 ?_
        refine jd_aload_n (pc := 687) 0 dL_law_687 rfl rfl ?_
        refine jd_iload_n (pc := 688) 3 dL_law_688 rfl rfl ?_
        refine jd_iconst (pc := 689) (v := 2) dL_law_689 (by decide) ?_
        refine jd_iadd (pc := 690) dL_law_690 ?_
        obtain ⟨hv101, h⟩ := h
        refine jd_sld (pc := 691) hXs hv101 dL_law_691 ?_
        refine jd_callVi (pc := 692) (M2 := mX12_ask) (id := 45) (ci := 11) (T := TX12) (N := 45) (av := [.int (xs (Int32.toNatClampNeg (x3 + 1))), .int (xs (Int32.toNatClampNeg (x3 + 2)))]) kX12_ask sX12_ask rfl hM.1 lL_64 rfl rfl (Nat.le_of_ble_eq_true rfl) dL_law_692 h ?_
        intro v103 I102 J102 h
        refine jd_pop (pc := 695) dL_law_695 rfl ?_
        refine jd_goto (pc := 696) 1567 dL_law_696 (by decide) ?_
        refine jd_iinc (pc := 1567) (v := (x3 + 6)) 3 [(3, .int (x3 + 6)), (0, .ref b), (1, .ref (gb G + 0)), (2, .ref (gb G + 45))] dL_law_1567 rfl rfl (Nat.le_of_ble_eq_true rfl) rfl ?_
        refine jd_goto (pc := 1570) 18 dL_law_1570 (by decide) ?_
        exact jd_lv (lv2 := [(0, .ref b), (1, .ref (gb G + 0)), (2, .ref (gb G + 45)), (3, .int (x3 + 6))]) [1, 2, 3, 0] rfl h
      · have h := h.2.2.2.2.2.2.2.2.2.2.2.1 hq
        refine jd_tableIn (pc := 33) 699 dL_law_33 (by omega) (by omega) (by rw [hq]; rfl) (by decide) ?_
        refine jd_aload_n (pc := 699) 1 dL_law_699 rfl rfl ?_
        refine jd_aload_n (pc := 700) 0 dL_law_700 rfl rfl ?_
        refine jd_iload_n (pc := 701) 3 dL_law_701 rfl rfl ?_
        refine jd_iconst (pc := 702) (v := 1) dL_law_702 (by decide) ?_
        refine jd_iadd (pc := 703) dL_law_703 ?_
        obtain ⟨hv104, h⟩ := h
        refine jd_sld (pc := 704) hXs hv104 dL_law_704 ?_
        refine jd_callVi (pc := 705) (M2 := mX11_feed) (id := 0) (ci := 10) (T := TX11) (N := 9) (av := [.int (xs (Int32.toNatClampNeg (x3 + 1)))]) kX11_feed sX11_feed rfl hX.1 lL_65 rfl rfl (Nat.le_of_ble_eq_true rfl) dL_law_705 h ?_
        intro v106 I105 J105 h
        refine jd_pop (pc := 708) dL_law_708 rfl ?_
        refine jd_aload_n (pc := 709) 2 dL_law_709 rfl rfl ?_
        refine jd_aload_n (pc := 710) 0 dL_law_710 rfl rfl ?_
        refine jd_iload_n (pc := 711) 3 dL_law_711 rfl rfl ?_
        refine jd_iconst (pc := 712) (v := 1) dL_law_712 (by decide) ?_
        refine jd_iadd (pc := 713) dL_law_713 ?_
        obtain ⟨hv107, h⟩ := h
        refine jd_sld (pc := 714) hXs hv107 dL_law_714 ?_
        refine jd_callVi (pc := 715) (M2 := mX12_feed) (id := 45) (ci := 11) (T := TX12) (N := 45) (av := [.int (xs (Int32.toNatClampNeg (x3 + 1)))]) kX12_feed sX12_feed rfl hM.1 lL_68 rfl rfl (Nat.le_of_ble_eq_true rfl) dL_law_715 h ?_
        intro v109 I108 J108 h
        refine jd_pop (pc := 718) dL_law_718 rfl ?_
        refine jd_goto (pc := 719) 1567 dL_law_719 (by decide) ?_
        refine jd_iinc (pc := 1567) (v := (x3 + 6)) 3 [(3, .int (x3 + 6)), (0, .ref b), (1, .ref (gb G + 0)), (2, .ref (gb G + 45))] dL_law_1567 rfl rfl (Nat.le_of_ble_eq_true rfl) rfl ?_
        refine jd_goto (pc := 1570) 18 dL_law_1570 (by decide) ?_
        exact jd_lv (lv2 := [(0, .ref b), (1, .ref (gb G + 0)), (2, .ref (gb G + 45)), (3, .int (x3 + 6))]) [1, 2, 3, 0] rfl h
      · have h := h.2.2.2.2.2.2.2.2.2.2.2.2.1 hq
        refine jd_tableIn (pc := 33) 722 dL_law_33 (by omega) (by omega) (by rw [hq]; rfl) (by decide) ?_
        refine jd_aload_n (pc := 722) 1 dL_law_722 rfl rfl ?_
        refine jd_callVi (pc := 723) (M2 := mX11_wipe) (id := 0) (ci := 10) (T := TX11) (N := 9) (av := []) kX11_wipe sX11_wipe rfl hX.1 lL_69 rfl rfl (Nat.le_of_ble_eq_true rfl) dL_law_723 h ?_
        intro v111 I110 J110 h
        refine jd_pop (pc := 726) dL_law_726 rfl ?_
        refine jd_aload_n (pc := 727) 2 dL_law_727 rfl rfl ?_
        refine jd_callVi (pc := 728) (M2 := mX12_wipe) (id := 45) (ci := 11) (T := TX12) (N := 45) (av := []) kX12_wipe sX12_wipe rfl hM.1 lL_73 rfl rfl (Nat.le_of_ble_eq_true rfl) dL_law_728 h ?_
        intro v113 I112 J112 h
        refine jd_pop (pc := 731) dL_law_731 rfl ?_
        refine jd_goto (pc := 732) 1567 dL_law_732 (by decide) ?_
        refine jd_iinc (pc := 1567) (v := (x3 + 6)) 3 [(3, .int (x3 + 6)), (0, .ref b), (1, .ref (gb G + 0)), (2, .ref (gb G + 45))] dL_law_1567 rfl rfl (Nat.le_of_ble_eq_true rfl) rfl ?_
        refine jd_goto (pc := 1570) 18 dL_law_1570 (by decide) ?_
        exact jd_lv (lv2 := [(0, .ref b), (1, .ref (gb G + 0)), (2, .ref (gb G + 45)), (3, .int (x3 + 6))]) [1, 2, 3, 0] rfl h
      · have h := h.2.2.2.2.2.2.2.2.2.2.2.2.2.1 hq
        refine jd_tableIn (pc := 33) 735 dL_law_33 (by omega) (by omega) (by rw [hq]; rfl) (by decide) ?_
        refine jd_aload_n (pc := 735) 1 dL_law_735 rfl rfl ?_
        refine jd_callVi (pc := 736) (M2 := mX11_town) (id := 0) (ci := 10) (T := TX11) (N := 9) (av := []) kX11_town sX11_town rfl hX.1 lL_74 rfl rfl (Nat.le_of_ble_eq_true rfl) dL_law_736 h ?_
        intro v115 I114 J114 h
        refine jd_pop (pc := 739) dL_law_739 rfl ?_
        refine jd_aload_n (pc := 740) 2 dL_law_740 rfl rfl ?_
        obtain ⟨mc116, ms116, rc116, rs116, hb1, hb2, h⟩ := h
        refine jd_callV (pc := 741) (M2 := mX12_town) (id := 45) (ci := 11) (T := TX12) (N := 45) (rc2 := rc116) (rs2 := rs116) (av := []) kX12_town sX12_town rfl hM.1 lL_77 rfl rfl (Nat.le_of_ble_eq_true rfl) hb1 hb2 dL_law_741 (Cl.mono h (fun r116 Z116 I116 J116 h => ?_))
        obtain ⟨v116, rfl, h⟩ := h
        obtain ⟨hX, h⟩ := h
        obtain ⟨hM, h⟩ := h
        refine jd_pop (pc := 744) dL_law_744 rfl ?_
        refine jd_goto (pc := 745) 1567 dL_law_745 (by decide) ?_
        refine jd_iinc (pc := 1567) (v := (x3 + 6)) 3 [(3, .int (x3 + 6)), (0, .ref b), (1, .ref (gb G + 0)), (2, .ref (gb G + 45))] dL_law_1567 rfl rfl (Nat.le_of_ble_eq_true rfl) rfl ?_
        refine jd_goto (pc := 1570) 18 dL_law_1570 (by decide) ?_
        exact jd_lv (lv2 := [(0, .ref b), (1, .ref (gb G + 0)), (2, .ref (gb G + 45)), (3, .int (x3 + 6))]) [1, 2, 3, 0] rfl h
      · have h := h.2.2.2.2.2.2.2.2.2.2.2.2.2.2.1 hq
        refine jd_tableIn (pc := 33) 748 dL_law_33 (by omega) (by omega) (by rw [hq]; rfl) (by decide) ?_
        refine jd_aload_n (pc := 748) 1 dL_law_748 rfl rfl ?_
        refine jd_aload_n (pc := 749) 0 dL_law_749 rfl rfl ?_
        refine jd_iload_n (pc := 750) 3 dL_law_750 rfl rfl ?_
        refine jd_iconst (pc := 751) (v := 1) dL_law_751 (by decide) ?_
        refine jd_iadd (pc := 752) dL_law_752 ?_
        obtain ⟨hv117, h⟩ := h
        refine jd_sld (pc := 753) hXs hv117 dL_law_753 ?_
        refine jd_aload_n (pc := 754) 0 dL_law_754 rfl rfl ?_
        refine jd_iload_n (pc := 755) 3 dL_law_755 rfl rfl ?_
        refine jd_iconst (pc := 756) (v := 2) dL_law_756 (by decide) ?_
        refine jd_iadd (pc := 757) dL_law_757 ?_
        obtain ⟨hv118, h⟩ := h
        refine jd_sld (pc := 758) hXs hv118 dL_law_758 ?_
        refine jd_callVi (pc := 759) (M2 := mX11_personOf) (id := 0) (ci := 10) (T := TX11) (N := 9) (av := [.int (xs (Int32.toNatClampNeg (x3 + 1))), .int (xs (Int32.toNatClampNeg (x3 + 2)))]) kX11_personOf sX11_personOf rfl hX.1 lL_78 rfl rfl (Nat.le_of_ble_eq_true rfl) dL_law_759 h ?_
        intro v120 I119 J119 h
        refine jd_aload_n (pc := 762) 2 dL_law_762 rfl rfl ?_
        refine jd_aload_n (pc := 763) 0 dL_law_763 rfl rfl ?_
        refine jd_iload_n (pc := 764) 3 dL_law_764 rfl rfl ?_
        refine jd_iconst (pc := 765) (v := 1) dL_law_765 (by decide) ?_
        refine jd_iadd (pc := 766) dL_law_766 ?_
        obtain ⟨hv121, h⟩ := h
        refine jd_sld (pc := 767) hXs hv121 dL_law_767 ?_
        refine jd_aload_n (pc := 768) 0 dL_law_768 rfl rfl ?_
        refine jd_iload_n (pc := 769) 3 dL_law_769 rfl rfl ?_
        refine jd_iconst (pc := 770) (v := 2) dL_law_770 (by decide) ?_
        refine jd_iadd (pc := 771) dL_law_771 ?_
        obtain ⟨hv122, h⟩ := h
        refine jd_sld (pc := 772) hXs hv122 dL_law_772 ?_
        refine jd_callVi (pc := 773) (M2 := mX12_personOf) (id := 45) (ci := 11) (T := TX12) (N := 45) (av := [.int (xs (Int32.toNatClampNeg (x3 + 1))), .int (xs (Int32.toNatClampNeg (x3 + 2)))]) kX12_personOf sX12_personOf rfl hM.1 lL_81 rfl rfl (Nat.le_of_ble_eq_true rfl) dL_law_773 h ?_
        intro v124 I123 J123 h
        refine jd_icmp_eq (pc := 776) 1567 dL_law_776 (by decide) (fun hc => ?_) (fun hc => ?_)
        · have h := h.1 hc
          refine jd_iinc (pc := 1567) (v := (x3 + 6)) 3 [(3, .int (x3 + 6)), (0, .ref b), (1, .ref (gb G + 0)), (2, .ref (gb G + 45))] dL_law_1567 rfl rfl (Nat.le_of_ble_eq_true rfl) rfl ?_
          refine jd_goto (pc := 1570) 18 dL_law_1570 (by decide) ?_
          exact jd_lv (lv2 := [(0, .ref b), (1, .ref (gb G + 0)), (2, .ref (gb G + 45)), (3, .int (x3 + 6))]) [1, 2, 3, 0] rfl h
        · have h := h.2 hc
          refine jd_iconst (pc := 779) (v := 0) dL_law_779 (by decide) ?_
          exact h.elim
      · have h := h.2.2.2.2.2.2.2.2.2.2.2.2.2.2.2.1 hq
        refine jd_tableIn (pc := 33) 781 dL_law_33 (by omega) (by omega) (by rw [hq]; rfl) (by decide) ?_
        refine jd_aload_n (pc := 781) 1 dL_law_781 rfl rfl ?_
        refine jd_aload_n (pc := 782) 0 dL_law_782 rfl rfl ?_
        refine jd_iload_n (pc := 783) 3 dL_law_783 rfl rfl ?_
        refine jd_iconst (pc := 784) (v := 1) dL_law_784 (by decide) ?_
        refine jd_iadd (pc := 785) dL_law_785 ?_
        obtain ⟨hv125, h⟩ := h
        refine jd_sld (pc := 786) hXs hv125 dL_law_786 ?_
        refine jd_aload_n (pc := 787) 0 dL_law_787 rfl rfl ?_
        refine jd_iload_n (pc := 788) 3 dL_law_788 rfl rfl ?_
        refine jd_iconst (pc := 789) (v := 2) dL_law_789 (by decide) ?_
        refine jd_iadd (pc := 790) dL_law_790 ?_
        obtain ⟨hv126, h⟩ := h
        refine jd_sld (pc := 791) hXs hv126 dL_law_791 ?_
        refine jd_callVi (pc := 792) (M2 := mX11_knownOf) (id := 0) (ci := 10) (T := TX11) (N := 9) (av := [.int (xs (Int32.toNatClampNeg (x3 + 1))), .int (xs (Int32.toNatClampNeg (x3 + 2)))]) kX11_knownOf sX11_knownOf rfl hX.1 lL_82 rfl rfl (Nat.le_of_ble_eq_true rfl) dL_law_792 h ?_
        intro v128 I127 J127 h
        refine jd_pop (pc := 795) dL_law_795 rfl ?_
        refine jd_aload_n (pc := 796) 2 dL_law_796 rfl rfl ?_
        refine jd_aload_n (pc := 797) 0 dL_law_797 rfl rfl ?_
        refine jd_iload_n (pc := 798) 3 dL_law_798 rfl rfl ?_
        refine jd_iconst (pc := 799) (v := 1) dL_law_799 (by decide) ?_
        refine jd_iadd (pc := 800) dL_law_800 ?_
        obtain ⟨hv129, h⟩ := h
        refine jd_sld (pc := 801) hXs hv129 dL_law_801 ?_
        refine jd_aload_n (pc := 802) 0 dL_law_802 rfl rfl ?_
        refine jd_iload_n (pc := 803) 3 dL_law_803 rfl rfl ?_
        refine jd_iconst (pc := 804) (v := 2) dL_law_804 (by decide) ?_
        refine jd_iadd (pc := 805) dL_law_805 ?_
        obtain ⟨hv130, h⟩ := h
        refine jd_sld (pc := 806) hXs hv130 dL_law_806 ?_
        refine jd_callVi (pc := 807) (M2 := mX12_knownOf) (id := 45) (ci := 11) (T := TX12) (N := 45) (av := [.int (xs (Int32.toNatClampNeg (x3 + 1))), .int (xs (Int32.toNatClampNeg (x3 + 2)))]) kX12_knownOf sX12_knownOf rfl hM.1 lL_85 rfl rfl (Nat.le_of_ble_eq_true rfl) dL_law_807 h ?_
        intro v132 I131 J131 h
        refine jd_pop (pc := 810) dL_law_810 rfl ?_
        refine jd_goto (pc := 811) 1567 dL_law_811 (by decide) ?_
        refine jd_iinc (pc := 1567) (v := (x3 + 6)) 3 [(3, .int (x3 + 6)), (0, .ref b), (1, .ref (gb G + 0)), (2, .ref (gb G + 45))] dL_law_1567 rfl rfl (Nat.le_of_ble_eq_true rfl) rfl ?_
        refine jd_goto (pc := 1570) 18 dL_law_1570 (by decide) ?_
        exact jd_lv (lv2 := [(0, .ref b), (1, .ref (gb G + 0)), (2, .ref (gb G + 45)), (3, .int (x3 + 6))]) [1, 2, 3, 0] rfl h
      · have h := h.2.2.2.2.2.2.2.2.2.2.2.2.2.2.2.2.1 hq
        refine jd_tableIn (pc := 33) 814 dL_law_33 (by omega) (by omega) (by rw [hq]; rfl) (by decide) ?_
        refine jd_aload_n (pc := 814) 1 dL_law_814 rfl rfl ?_
        refine jd_aload_n (pc := 815) 0 dL_law_815 rfl rfl ?_
        refine jd_iload_n (pc := 816) 3 dL_law_816 rfl rfl ?_
        refine jd_iconst (pc := 817) (v := 1) dL_law_817 (by decide) ?_
        refine jd_iadd (pc := 818) dL_law_818 ?_
        obtain ⟨hv133, h⟩ := h
        refine jd_sld (pc := 819) hXs hv133 dL_law_819 ?_
        refine jd_callVi (pc := 820) (M2 := mX11_isGroup) (id := 0) (ci := 10) (T := TX11) (N := 9) (av := [.int (xs (Int32.toNatClampNeg (x3 + 1)))]) kX11_isGroup sX11_isGroup rfl hX.1 lL_86 rfl rfl (Nat.le_of_ble_eq_true rfl) dL_law_820 h ?_
        intro v135 I134 J134 h
        refine jd_pop (pc := 823) dL_law_823 rfl ?_
        refine jd_aload_n (pc := 824) 2 dL_law_824 rfl rfl ?_
        refine jd_aload_n (pc := 825) 0 dL_law_825 rfl rfl ?_
        refine jd_iload_n (pc := 826) 3 dL_law_826 rfl rfl ?_
        refine jd_iconst (pc := 827) (v := 1) dL_law_827 (by decide) ?_
        refine jd_iadd (pc := 828) dL_law_828 ?_
        obtain ⟨hv136, h⟩ := h
        refine jd_sld (pc := 829) hXs hv136 dL_law_829 ?_
        refine jd_callVi (pc := 830) (M2 := mX12_isGroup) (id := 45) (ci := 11) (T := TX12) (N := 45) (av := [.int (xs (Int32.toNatClampNeg (x3 + 1)))]) kX12_isGroup sX12_isGroup rfl hM.1 lL_89 rfl rfl (Nat.le_of_ble_eq_true rfl) dL_law_830 h ?_
        intro v138 I137 J137 h
        refine jd_pop (pc := 833) dL_law_833 rfl ?_
        refine jd_goto (pc := 834) 1567 dL_law_834 (by decide) ?_
        refine jd_iinc (pc := 1567) (v := (x3 + 6)) 3 [(3, .int (x3 + 6)), (0, .ref b), (1, .ref (gb G + 0)), (2, .ref (gb G + 45))] dL_law_1567 rfl rfl (Nat.le_of_ble_eq_true rfl) rfl ?_
        refine jd_goto (pc := 1570) 18 dL_law_1570 (by decide) ?_
        exact jd_lv (lv2 := [(0, .ref b), (1, .ref (gb G + 0)), (2, .ref (gb G + 45)), (3, .int (x3 + 6))]) [1, 2, 3, 0] rfl h
      · have h := h.2.2.2.2.2.2.2.2.2.2.2.2.2.2.2.2.2.1 hq
        refine jd_tableIn (pc := 33) 837 dL_law_33 (by omega) (by omega) (by rw [hq]; rfl) (by decide) ?_
        refine jd_aload_n (pc := 837) 1 dL_law_837 rfl rfl ?_
        refine jd_aload_n (pc := 838) 0 dL_law_838 rfl rfl ?_
        refine jd_iload_n (pc := 839) 3 dL_law_839 rfl rfl ?_
        refine jd_iconst (pc := 840) (v := 1) dL_law_840 (by decide) ?_
        refine jd_iadd (pc := 841) dL_law_841 ?_
        obtain ⟨hv139, h⟩ := h
        refine jd_sld (pc := 842) hXs hv139 dL_law_842 ?_
        refine jd_callVi (pc := 843) (M2 := mX11_groups) (id := 0) (ci := 10) (T := TX11) (N := 9) (av := [.int (xs (Int32.toNatClampNeg (x3 + 1)))]) kX11_groups sX11_groups rfl hX.1 lL_90 rfl rfl (Nat.le_of_ble_eq_true rfl) dL_law_843 h ?_
        intro v141 I140 J140 h
        refine jd_pop (pc := 846) dL_law_846 rfl ?_
        refine jd_aload_n (pc := 847) 2 dL_law_847 rfl rfl ?_
        refine jd_aload_n (pc := 848) 0 dL_law_848 rfl rfl ?_
        refine jd_iload_n (pc := 849) 3 dL_law_849 rfl rfl ?_
        refine jd_iconst (pc := 850) (v := 1) dL_law_850 (by decide) ?_
        refine jd_iadd (pc := 851) dL_law_851 ?_
        obtain ⟨hv142, h⟩ := h
        refine jd_sld (pc := 852) hXs hv142 dL_law_852 ?_
        refine jd_callVi (pc := 853) (M2 := mX12_groups) (id := 45) (ci := 11) (T := TX12) (N := 45) (av := [.int (xs (Int32.toNatClampNeg (x3 + 1)))]) kX12_groups sX12_groups rfl hM.1 lL_93 rfl rfl (Nat.le_of_ble_eq_true rfl) dL_law_853 h ?_
        intro v144 I143 J143 h
        refine jd_pop (pc := 856) dL_law_856 rfl ?_
        refine jd_goto (pc := 857) 1567 dL_law_857 (by decide) ?_
        refine jd_iinc (pc := 1567) (v := (x3 + 6)) 3 [(3, .int (x3 + 6)), (0, .ref b), (1, .ref (gb G + 0)), (2, .ref (gb G + 45))] dL_law_1567 rfl rfl (Nat.le_of_ble_eq_true rfl) rfl ?_
        refine jd_goto (pc := 1570) 18 dL_law_1570 (by decide) ?_
        exact jd_lv (lv2 := [(0, .ref b), (1, .ref (gb G + 0)), (2, .ref (gb G + 45)), (3, .int (x3 + 6))]) [1, 2, 3, 0] rfl h
      · have h := h.2.2.2.2.2.2.2.2.2.2.2.2.2.2.2.2.2.2.1 hq
        refine jd_tableIn (pc := 33) 860 dL_law_33 (by omega) (by omega) (by rw [hq]; rfl) (by decide) ?_
        refine jd_aload_n (pc := 860) 1 dL_law_860 rfl rfl ?_
        refine jd_aload_n (pc := 861) 0 dL_law_861 rfl rfl ?_
        refine jd_iload_n (pc := 862) 3 dL_law_862 rfl rfl ?_
        refine jd_iconst (pc := 863) (v := 1) dL_law_863 (by decide) ?_
        refine jd_iadd (pc := 864) dL_law_864 ?_
        obtain ⟨hv145, h⟩ := h
        refine jd_sld (pc := 865) hXs hv145 dL_law_865 ?_
        refine jd_callVi (pc := 866) (M2 := mX11_firstOf) (id := 0) (ci := 10) (T := TX11) (N := 9) (av := [.int (xs (Int32.toNatClampNeg (x3 + 1)))]) kX11_firstOf sX11_firstOf rfl hX.1 lL_94 rfl rfl (Nat.le_of_ble_eq_true rfl) dL_law_866 h ?_
        intro v147 I146 J146 h
        refine jd_pop (pc := 869) dL_law_869 rfl ?_
        refine jd_aload_n (pc := 870) 2 dL_law_870 rfl rfl ?_
        refine jd_aload_n (pc := 871) 0 dL_law_871 rfl rfl ?_
        refine jd_iload_n (pc := 872) 3 dL_law_872 rfl rfl ?_
        refine jd_iconst (pc := 873) (v := 1) dL_law_873 (by decide) ?_
        refine jd_iadd (pc := 874) dL_law_874 ?_
        obtain ⟨hv148, h⟩ := h
        refine jd_sld (pc := 875) hXs hv148 dL_law_875 ?_
        refine jd_callVi (pc := 876) (M2 := mX12_firstOf) (id := 45) (ci := 11) (T := TX12) (N := 45) (av := [.int (xs (Int32.toNatClampNeg (x3 + 1)))]) kX12_firstOf sX12_firstOf rfl hM.1 lL_97 rfl rfl (Nat.le_of_ble_eq_true rfl) dL_law_876 h ?_
        intro v150 I149 J149 h
        refine jd_pop (pc := 879) dL_law_879 rfl ?_
        refine jd_goto (pc := 880) 1567 dL_law_880 (by decide) ?_
        refine jd_iinc (pc := 1567) (v := (x3 + 6)) 3 [(3, .int (x3 + 6)), (0, .ref b), (1, .ref (gb G + 0)), (2, .ref (gb G + 45))] dL_law_1567 rfl rfl (Nat.le_of_ble_eq_true rfl) rfl ?_
        refine jd_goto (pc := 1570) 18 dL_law_1570 (by decide) ?_
        exact jd_lv (lv2 := [(0, .ref b), (1, .ref (gb G + 0)), (2, .ref (gb G + 45)), (3, .int (x3 + 6))]) [1, 2, 3, 0] rfl h
      · have h := h.2.2.2.2.2.2.2.2.2.2.2.2.2.2.2.2.2.2.2.1 hq
        refine jd_tableIn (pc := 33) 883 dL_law_33 (by omega) (by omega) (by rw [hq]; rfl) (by decide) ?_
        refine jd_aload_n (pc := 883) 1 dL_law_883 rfl rfl ?_
        refine jd_aload_n (pc := 884) 0 dL_law_884 rfl rfl ?_
        refine jd_iload_n (pc := 885) 3 dL_law_885 rfl rfl ?_
        refine jd_iconst (pc := 886) (v := 1) dL_law_886 (by decide) ?_
        refine jd_iadd (pc := 887) dL_law_887 ?_
        obtain ⟨hv151, h⟩ := h
        refine jd_sld (pc := 888) hXs hv151 dL_law_888 ?_
        refine jd_callVi (pc := 889) (M2 := mX11_most) (id := 0) (ci := 10) (T := TX11) (N := 9) (av := [.int (xs (Int32.toNatClampNeg (x3 + 1)))]) kX11_most sX11_most rfl hX.1 lL_98 rfl rfl (Nat.le_of_ble_eq_true rfl) dL_law_889 h ?_
        intro v153 I152 J152 h
        refine jd_pop (pc := 892) dL_law_892 rfl ?_
        refine jd_aload_n (pc := 893) 2 dL_law_893 rfl rfl ?_
        refine jd_aload_n (pc := 894) 0 dL_law_894 rfl rfl ?_
        refine jd_iload_n (pc := 895) 3 dL_law_895 rfl rfl ?_
        refine jd_iconst (pc := 896) (v := 1) dL_law_896 (by decide) ?_
        refine jd_iadd (pc := 897) dL_law_897 ?_
        obtain ⟨hv154, h⟩ := h
        refine jd_sld (pc := 898) hXs hv154 dL_law_898 ?_
        refine jd_callVi (pc := 899) (M2 := mX12_most) (id := 45) (ci := 11) (T := TX12) (N := 45) (av := [.int (xs (Int32.toNatClampNeg (x3 + 1)))]) kX12_most sX12_most rfl hM.1 lL_101 rfl rfl (Nat.le_of_ble_eq_true rfl) dL_law_899 h ?_
        intro v156 I155 J155 h
        refine jd_pop (pc := 902) dL_law_902 rfl ?_
        refine jd_goto (pc := 903) 1567 dL_law_903 (by decide) ?_
        refine jd_iinc (pc := 1567) (v := (x3 + 6)) 3 [(3, .int (x3 + 6)), (0, .ref b), (1, .ref (gb G + 0)), (2, .ref (gb G + 45))] dL_law_1567 rfl rfl (Nat.le_of_ble_eq_true rfl) rfl ?_
        refine jd_goto (pc := 1570) 18 dL_law_1570 (by decide) ?_
        exact jd_lv (lv2 := [(0, .ref b), (1, .ref (gb G + 0)), (2, .ref (gb G + 45)), (3, .int (x3 + 6))]) [1, 2, 3, 0] rfl h
      · have h := h.2.2.2.2.2.2.2.2.2.2.2.2.2.2.2.2.2.2.2.2.1 hq
        refine jd_tableIn (pc := 33) 906 dL_law_33 (by omega) (by omega) (by rw [hq]; rfl) (by decide) ?_
        refine jd_aload_n (pc := 906) 1 dL_law_906 rfl rfl ?_
        refine jd_aload_n (pc := 907) 0 dL_law_907 rfl rfl ?_
        refine jd_iload_n (pc := 908) 3 dL_law_908 rfl rfl ?_
        refine jd_iconst (pc := 909) (v := 1) dL_law_909 (by decide) ?_
        refine jd_iadd (pc := 910) dL_law_910 ?_
        obtain ⟨hv157, h⟩ := h
        refine jd_sld (pc := 911) hXs hv157 dL_law_911 ?_
        refine jd_aload_n (pc := 912) 0 dL_law_912 rfl rfl ?_
        refine jd_iload_n (pc := 913) 3 dL_law_913 rfl rfl ?_
        refine jd_iconst (pc := 914) (v := 2) dL_law_914 (by decide) ?_
        refine jd_iadd (pc := 915) dL_law_915 ?_
        obtain ⟨hv158, h⟩ := h
        refine jd_sld (pc := 916) hXs hv158 dL_law_916 ?_
        refine jd_callVi (pc := 917) (M2 := mX11_mostOf) (id := 0) (ci := 10) (T := TX11) (N := 9) (av := [.int (xs (Int32.toNatClampNeg (x3 + 1))), .int (xs (Int32.toNatClampNeg (x3 + 2)))]) kX11_mostOf sX11_mostOf rfl hX.1 lL_102 rfl rfl (Nat.le_of_ble_eq_true rfl) dL_law_917 h ?_
        intro v160 I159 J159 h
        refine jd_pop (pc := 920) dL_law_920 rfl ?_
        refine jd_aload_n (pc := 921) 2 dL_law_921 rfl rfl ?_
        refine jd_aload_n (pc := 922) 0 dL_law_922 rfl rfl ?_
        refine jd_iload_n (pc := 923) 3 dL_law_923 rfl rfl ?_
        refine jd_iconst (pc := 924) (v := 1) dL_law_924 (by decide) ?_
        refine jd_iadd (pc := 925) dL_law_925 ?_
        obtain ⟨hv161, h⟩ := h
        refine jd_sld (pc := 926) hXs hv161 dL_law_926 ?_
        refine jd_aload_n (pc := 927) 0 dL_law_927 rfl rfl ?_
        refine jd_iload_n (pc := 928) 3 dL_law_928 rfl rfl ?_
        refine jd_iconst (pc := 929) (v := 2) dL_law_929 (by decide) ?_
        refine jd_iadd (pc := 930) dL_law_930 ?_
        obtain ⟨hv162, h⟩ := h
        refine jd_sld (pc := 931) hXs hv162 dL_law_931 ?_
        refine jd_callVi (pc := 932) (M2 := mX12_mostOf) (id := 45) (ci := 11) (T := TX12) (N := 45) (av := [.int (xs (Int32.toNatClampNeg (x3 + 1))), .int (xs (Int32.toNatClampNeg (x3 + 2)))]) kX12_mostOf sX12_mostOf rfl hM.1 lL_105 rfl rfl (Nat.le_of_ble_eq_true rfl) dL_law_932 h ?_
        intro v164 I163 J163 h
        refine jd_pop (pc := 935) dL_law_935 rfl ?_
        refine jd_goto (pc := 936) 1567 dL_law_936 (by decide) ?_
        refine jd_iinc (pc := 1567) (v := (x3 + 6)) 3 [(3, .int (x3 + 6)), (0, .ref b), (1, .ref (gb G + 0)), (2, .ref (gb G + 45))] dL_law_1567 rfl rfl (Nat.le_of_ble_eq_true rfl) rfl ?_
        refine jd_goto (pc := 1570) 18 dL_law_1570 (by decide) ?_
        exact jd_lv (lv2 := [(0, .ref b), (1, .ref (gb G + 0)), (2, .ref (gb G + 45)), (3, .int (x3 + 6))]) [1, 2, 3, 0] rfl h
      · have h := h.2.2.2.2.2.2.2.2.2.2.2.2.2.2.2.2.2.2.2.2.2.1 hq
        refine jd_tableIn (pc := 33) 939 dL_law_33 (by omega) (by omega) (by rw [hq]; rfl) (by decide) ?_
        refine jd_aload_n (pc := 939) 1 dL_law_939 rfl rfl ?_
        refine jd_aload_n (pc := 940) 0 dL_law_940 rfl rfl ?_
        refine jd_iload_n (pc := 941) 3 dL_law_941 rfl rfl ?_
        refine jd_iconst (pc := 942) (v := 1) dL_law_942 (by decide) ?_
        refine jd_iadd (pc := 943) dL_law_943 ?_
        obtain ⟨hv165, h⟩ := h
        refine jd_sld (pc := 944) hXs hv165 dL_law_944 ?_
        refine jd_aload_n (pc := 945) 0 dL_law_945 rfl rfl ?_
        refine jd_iload_n (pc := 946) 3 dL_law_946 rfl rfl ?_
        refine jd_iconst (pc := 947) (v := 2) dL_law_947 (by decide) ?_
        refine jd_iadd (pc := 948) dL_law_948 ?_
        obtain ⟨hv166, h⟩ := h
        refine jd_sld (pc := 949) hXs hv166 dL_law_949 ?_
        refine jd_aload_n (pc := 950) 0 dL_law_950 rfl rfl ?_
        refine jd_iload_n (pc := 951) 3 dL_law_951 rfl rfl ?_
        refine jd_iconst (pc := 952) (v := 3) dL_law_952 (by decide) ?_
        refine jd_iadd (pc := 953) dL_law_953 ?_
        obtain ⟨hv167, h⟩ := h
        refine jd_sld (pc := 954) hXs hv167 dL_law_954 ?_
        refine jd_callVi (pc := 955) (M2 := mX11_sends) (id := 0) (ci := 10) (T := TX11) (N := 9) (av := [.int (xs (Int32.toNatClampNeg (x3 + 1))), .int (xs (Int32.toNatClampNeg (x3 + 2))), .int (xs (Int32.toNatClampNeg (x3 + 3)))]) kX11_sends sX11_sends rfl hX.1 lL_106 rfl rfl (Nat.le_of_ble_eq_true rfl) dL_law_955 h ?_
        intro v169 I168 J168 h
        refine jd_pop (pc := 958) dL_law_958 rfl ?_
        refine jd_aload_n (pc := 959) 2 dL_law_959 rfl rfl ?_
        refine jd_aload_n (pc := 960) 0 dL_law_960 rfl rfl ?_
        refine jd_iload_n (pc := 961) 3 dL_law_961 rfl rfl ?_
        refine jd_iconst (pc := 962) (v := 1) dL_law_962 (by decide) ?_
        refine jd_iadd (pc := 963) dL_law_963 ?_
        obtain ⟨hv170, h⟩ := h
        refine jd_sld (pc := 964) hXs hv170 dL_law_964 ?_
        refine jd_aload_n (pc := 965) 0 dL_law_965 rfl rfl ?_
        refine jd_iload_n (pc := 966) 3 dL_law_966 rfl rfl ?_
        refine jd_iconst (pc := 967) (v := 2) dL_law_967 (by decide) ?_
        refine jd_iadd (pc := 968) dL_law_968 ?_
        obtain ⟨hv171, h⟩ := h
        refine jd_sld (pc := 969) hXs hv171 dL_law_969 ?_
        refine jd_aload_n (pc := 970) 0 dL_law_970 rfl rfl ?_
        refine jd_iload_n (pc := 971) 3 dL_law_971 rfl rfl ?_
        refine jd_iconst (pc := 972) (v := 3) dL_law_972 (by decide) ?_
        refine jd_iadd (pc := 973) dL_law_973 ?_
        obtain ⟨hv172, h⟩ := h
        refine jd_sld (pc := 974) hXs hv172 dL_law_974 ?_
        refine jd_callVi (pc := 975) (M2 := mX12_sends) (id := 45) (ci := 11) (T := TX12) (N := 45) (av := [.int (xs (Int32.toNatClampNeg (x3 + 1))), .int (xs (Int32.toNatClampNeg (x3 + 2))), .int (xs (Int32.toNatClampNeg (x3 + 3)))]) kX12_sends sX12_sends rfl hM.1 lL_109 rfl rfl (Nat.le_of_ble_eq_true rfl) dL_law_975 h ?_
        intro v174 I173 J173 h
        refine jd_pop (pc := 978) dL_law_978 rfl ?_
        refine jd_goto (pc := 979) 1567 dL_law_979 (by decide) ?_
        refine jd_iinc (pc := 1567) (v := (x3 + 6)) 3 [(3, .int (x3 + 6)), (0, .ref b), (1, .ref (gb G + 0)), (2, .ref (gb G + 45))] dL_law_1567 rfl rfl (Nat.le_of_ble_eq_true rfl) rfl ?_
        refine jd_goto (pc := 1570) 18 dL_law_1570 (by decide) ?_
        exact jd_lv (lv2 := [(0, .ref b), (1, .ref (gb G + 0)), (2, .ref (gb G + 45)), (3, .int (x3 + 6))]) [1, 2, 3, 0] rfl h
      · have h := h.2.2.2.2.2.2.2.2.2.2.2.2.2.2.2.2.2.2.2.2.2.2.1 hq
        refine jd_tableIn (pc := 33) 982 dL_law_33 (by omega) (by omega) (by rw [hq]; rfl) (by decide) ?_
        refine jd_aload_n (pc := 982) 1 dL_law_982 rfl rfl ?_
        refine jd_aload_n (pc := 983) 0 dL_law_983 rfl rfl ?_
        refine jd_iload_n (pc := 984) 3 dL_law_984 rfl rfl ?_
        refine jd_iconst (pc := 985) (v := 1) dL_law_985 (by decide) ?_
        refine jd_iadd (pc := 986) dL_law_986 ?_
        obtain ⟨hv175, h⟩ := h
        refine jd_sld (pc := 987) hXs hv175 dL_law_987 ?_
        refine jd_callVi (pc := 988) (M2 := mX11_run) (id := 0) (ci := 10) (T := TX11) (N := 9) (av := [.int (xs (Int32.toNatClampNeg (x3 + 1)))]) kX11_run sX11_run rfl hX.1 lL_110 rfl rfl (Nat.le_of_ble_eq_true rfl) dL_law_988 h ?_
        intro v177 I176 J176 h
        refine jd_pop (pc := 991) dL_law_991 rfl ?_
        refine jd_aload_n (pc := 992) 2 dL_law_992 rfl rfl ?_
        refine jd_aload_n (pc := 993) 0 dL_law_993 rfl rfl ?_
        refine jd_iload_n (pc := 994) 3 dL_law_994 rfl rfl ?_
        refine jd_iconst (pc := 995) (v := 1) dL_law_995 (by decide) ?_
        refine jd_iadd (pc := 996) dL_law_996 ?_
        obtain ⟨hv178, h⟩ := h
        refine jd_sld (pc := 997) hXs hv178 dL_law_997 ?_
        refine jd_callVi (pc := 998) (M2 := mX12_run) (id := 45) (ci := 11) (T := TX12) (N := 45) (av := [.int (xs (Int32.toNatClampNeg (x3 + 1)))]) kX12_run sX12_run rfl hM.1 lL_113 rfl rfl (Nat.le_of_ble_eq_true rfl) dL_law_998 h ?_
        intro v180 I179 J179 h
        refine jd_pop (pc := 1001) dL_law_1001 rfl ?_
        refine jd_goto (pc := 1002) 1567 dL_law_1002 (by decide) ?_
        refine jd_iinc (pc := 1567) (v := (x3 + 6)) 3 [(3, .int (x3 + 6)), (0, .ref b), (1, .ref (gb G + 0)), (2, .ref (gb G + 45))] dL_law_1567 rfl rfl (Nat.le_of_ble_eq_true rfl) rfl ?_
        refine jd_goto (pc := 1570) 18 dL_law_1570 (by decide) ?_
        exact jd_lv (lv2 := [(0, .ref b), (1, .ref (gb G + 0)), (2, .ref (gb G + 45)), (3, .int (x3 + 6))]) [1, 2, 3, 0] rfl h
      · have h := h.2.2.2.2.2.2.2.2.2.2.2.2.2.2.2.2.2.2.2.2.2.2.2.1 hq
        refine jd_tableIn (pc := 33) 1005 dL_law_33 (by omega) (by omega) (by rw [hq]; rfl) (by decide) ?_
        refine jd_aload_n (pc := 1005) 1 dL_law_1005 rfl rfl ?_
        refine jd_aload_n (pc := 1006) 0 dL_law_1006 rfl rfl ?_
        refine jd_iload_n (pc := 1007) 3 dL_law_1007 rfl rfl ?_
        refine jd_iconst (pc := 1008) (v := 1) dL_law_1008 (by decide) ?_
        refine jd_iadd (pc := 1009) dL_law_1009 ?_
        obtain ⟨hv181, h⟩ := h
        refine jd_sld (pc := 1010) hXs hv181 dL_law_1010 ?_
        refine jd_aload_n (pc := 1011) 0 dL_law_1011 rfl rfl ?_
        refine jd_iload_n (pc := 1012) 3 dL_law_1012 rfl rfl ?_
        refine jd_iconst (pc := 1013) (v := 2) dL_law_1013 (by decide) ?_
        refine jd_iadd (pc := 1014) dL_law_1014 ?_
        obtain ⟨hv182, h⟩ := h
        refine jd_sld (pc := 1015) hXs hv182 dL_law_1015 ?_
        refine jd_callVi (pc := 1016) (M2 := mX11_coach) (id := 0) (ci := 10) (T := TX11) (N := 9) (av := [.int (xs (Int32.toNatClampNeg (x3 + 1))), .int (xs (Int32.toNatClampNeg (x3 + 2)))]) kX11_coach sX11_coach rfl hX.1 lL_114 rfl rfl (Nat.le_of_ble_eq_true rfl) dL_law_1016 h ?_
        intro v184 I183 J183 h
        refine jd_pop (pc := 1019) dL_law_1019 rfl ?_
        refine jd_aload_n (pc := 1020) 2 dL_law_1020 rfl rfl ?_
        refine jd_aload_n (pc := 1021) 0 dL_law_1021 rfl rfl ?_
        refine jd_iload_n (pc := 1022) 3 dL_law_1022 rfl rfl ?_
        refine jd_iconst (pc := 1023) (v := 1) dL_law_1023 (by decide) ?_
        refine jd_iadd (pc := 1024) dL_law_1024 ?_
        obtain ⟨hv185, h⟩ := h
        refine jd_sld (pc := 1025) hXs hv185 dL_law_1025 ?_
        refine jd_aload_n (pc := 1026) 0 dL_law_1026 rfl rfl ?_
        refine jd_iload_n (pc := 1027) 3 dL_law_1027 rfl rfl ?_
        refine jd_iconst (pc := 1028) (v := 2) dL_law_1028 (by decide) ?_
        refine jd_iadd (pc := 1029) dL_law_1029 ?_
        obtain ⟨hv186, h⟩ := h
        refine jd_sld (pc := 1030) hXs hv186 dL_law_1030 ?_
        refine jd_callVi (pc := 1031) (M2 := mX12_coach) (id := 45) (ci := 11) (T := TX12) (N := 45) (av := [.int (xs (Int32.toNatClampNeg (x3 + 1))), .int (xs (Int32.toNatClampNeg (x3 + 2)))]) kX12_coach sX12_coach rfl hM.1 lL_117 rfl rfl (Nat.le_of_ble_eq_true rfl) dL_law_1031 h ?_
        intro v188 I187 J187 h
        refine jd_pop (pc := 1034) dL_law_1034 rfl ?_
        refine jd_goto (pc := 1035) 1567 dL_law_1035 (by decide) ?_
        refine jd_iinc (pc := 1567) (v := (x3 + 6)) 3 [(3, .int (x3 + 6)), (0, .ref b), (1, .ref (gb G + 0)), (2, .ref (gb G + 45))] dL_law_1567 rfl rfl (Nat.le_of_ble_eq_true rfl) rfl ?_
        refine jd_goto (pc := 1570) 18 dL_law_1570 (by decide) ?_
        exact jd_lv (lv2 := [(0, .ref b), (1, .ref (gb G + 0)), (2, .ref (gb G + 45)), (3, .int (x3 + 6))]) [1, 2, 3, 0] rfl h
      · have h := h.2.2.2.2.2.2.2.2.2.2.2.2.2.2.2.2.2.2.2.2.2.2.2.2.1 hq
        refine jd_tableIn (pc := 33) 1038 dL_law_33 (by omega) (by omega) (by rw [hq]; rfl) (by decide) ?_
        refine jd_aload_n (pc := 1038) 1 dL_law_1038 rfl rfl ?_
        refine jd_aload_n (pc := 1039) 0 dL_law_1039 rfl rfl ?_
        refine jd_iload_n (pc := 1040) 3 dL_law_1040 rfl rfl ?_
        refine jd_iconst (pc := 1041) (v := 1) dL_law_1041 (by decide) ?_
        refine jd_iadd (pc := 1042) dL_law_1042 ?_
        obtain ⟨hv189, h⟩ := h
        refine jd_sld (pc := 1043) hXs hv189 dL_law_1043 ?_
        refine jd_callVi (pc := 1044) (M2 := mX11_left) (id := 0) (ci := 10) (T := TX11) (N := 9) (av := [.int (xs (Int32.toNatClampNeg (x3 + 1)))]) kX11_left sX11_left rfl hX.1 lL_118 rfl rfl (Nat.le_of_ble_eq_true rfl) dL_law_1044 h ?_
        intro v191 I190 J190 h
        refine jd_pop (pc := 1047) dL_law_1047 rfl ?_
        refine jd_aload_n (pc := 1048) 2 dL_law_1048 rfl rfl ?_
        refine jd_aload_n (pc := 1049) 0 dL_law_1049 rfl rfl ?_
        refine jd_iload_n (pc := 1050) 3 dL_law_1050 rfl rfl ?_
        refine jd_iconst (pc := 1051) (v := 1) dL_law_1051 (by decide) ?_
        refine jd_iadd (pc := 1052) dL_law_1052 ?_
        obtain ⟨hv192, h⟩ := h
        refine jd_sld (pc := 1053) hXs hv192 dL_law_1053 ?_
        refine jd_callVi (pc := 1054) (M2 := mX12_left) (id := 45) (ci := 11) (T := TX12) (N := 45) (av := [.int (xs (Int32.toNatClampNeg (x3 + 1)))]) kX12_left sX12_left rfl hM.1 lL_121 rfl rfl (Nat.le_of_ble_eq_true rfl) dL_law_1054 h ?_
        intro v194 I193 J193 h
        refine jd_pop (pc := 1057) dL_law_1057 rfl ?_
        refine jd_goto (pc := 1058) 1567 dL_law_1058 (by decide) ?_
        refine jd_iinc (pc := 1567) (v := (x3 + 6)) 3 [(3, .int (x3 + 6)), (0, .ref b), (1, .ref (gb G + 0)), (2, .ref (gb G + 45))] dL_law_1567 rfl rfl (Nat.le_of_ble_eq_true rfl) rfl ?_
        refine jd_goto (pc := 1570) 18 dL_law_1570 (by decide) ?_
        exact jd_lv (lv2 := [(0, .ref b), (1, .ref (gb G + 0)), (2, .ref (gb G + 45)), (3, .int (x3 + 6))]) [1, 2, 3, 0] rfl h
      · have h := h.2.2.2.2.2.2.2.2.2.2.2.2.2.2.2.2.2.2.2.2.2.2.2.2.2.1 hq
        refine jd_tableIn (pc := 33) 1061 dL_law_33 (by omega) (by omega) (by rw [hq]; rfl) (by decide) ?_
        refine jd_aload_n (pc := 1061) 1 dL_law_1061 rfl rfl ?_
        refine jd_aload_n (pc := 1062) 0 dL_law_1062 rfl rfl ?_
        refine jd_iload_n (pc := 1063) 3 dL_law_1063 rfl rfl ?_
        refine jd_iconst (pc := 1064) (v := 1) dL_law_1064 (by decide) ?_
        refine jd_iadd (pc := 1065) dL_law_1065 ?_
        obtain ⟨hv195, h⟩ := h
        refine jd_sld (pc := 1066) hXs hv195 dL_law_1066 ?_
        refine jd_aload_n (pc := 1067) 0 dL_law_1067 rfl rfl ?_
        refine jd_iload_n (pc := 1068) 3 dL_law_1068 rfl rfl ?_
        refine jd_iconst (pc := 1069) (v := 2) dL_law_1069 (by decide) ?_
        refine jd_iadd (pc := 1070) dL_law_1070 ?_
        obtain ⟨hv196, h⟩ := h
        refine jd_sld (pc := 1071) hXs hv196 dL_law_1071 ?_
        refine jd_callVi (pc := 1072) (M2 := mX11_waits) (id := 0) (ci := 10) (T := TX11) (N := 9) (av := [.int (xs (Int32.toNatClampNeg (x3 + 1))), .int (xs (Int32.toNatClampNeg (x3 + 2)))]) kX11_waits sX11_waits rfl hX.1 lL_122 rfl rfl (Nat.le_of_ble_eq_true rfl) dL_law_1072 h ?_
        intro v198 I197 J197 h
        refine jd_pop (pc := 1075) dL_law_1075 rfl ?_
        refine jd_aload_n (pc := 1076) 2 dL_law_1076 rfl rfl ?_
        refine jd_aload_n (pc := 1077) 0 dL_law_1077 rfl rfl ?_
        refine jd_iload_n (pc := 1078) 3 dL_law_1078 rfl rfl ?_
        refine jd_iconst (pc := 1079) (v := 1) dL_law_1079 (by decide) ?_
        refine jd_iadd (pc := 1080) dL_law_1080 ?_
        obtain ⟨hv199, h⟩ := h
        refine jd_sld (pc := 1081) hXs hv199 dL_law_1081 ?_
        refine jd_aload_n (pc := 1082) 0 dL_law_1082 rfl rfl ?_
        refine jd_iload_n (pc := 1083) 3 dL_law_1083 rfl rfl ?_
        refine jd_iconst (pc := 1084) (v := 2) dL_law_1084 (by decide) ?_
        refine jd_iadd (pc := 1085) dL_law_1085 ?_
        obtain ⟨hv200, h⟩ := h
        refine jd_sld (pc := 1086) hXs hv200 dL_law_1086 ?_
        refine jd_callVi (pc := 1087) (M2 := mX12_waits) (id := 45) (ci := 11) (T := TX12) (N := 45) (av := [.int (xs (Int32.toNatClampNeg (x3 + 1))), .int (xs (Int32.toNatClampNeg (x3 + 2)))]) kX12_waits sX12_waits rfl hM.1 lL_125 rfl rfl (Nat.le_of_ble_eq_true rfl) dL_law_1087 h ?_
        intro v202 I201 J201 h
        refine jd_pop (pc := 1090) dL_law_1090 rfl ?_
        refine jd_goto (pc := 1091) 1567 dL_law_1091 (by decide) ?_
        refine jd_iinc (pc := 1567) (v := (x3 + 6)) 3 [(3, .int (x3 + 6)), (0, .ref b), (1, .ref (gb G + 0)), (2, .ref (gb G + 45))] dL_law_1567 rfl rfl (Nat.le_of_ble_eq_true rfl) rfl ?_
        refine jd_goto (pc := 1570) 18 dL_law_1570 (by decide) ?_
        exact jd_lv (lv2 := [(0, .ref b), (1, .ref (gb G + 0)), (2, .ref (gb G + 45)), (3, .int (x3 + 6))]) [1, 2, 3, 0] rfl h
      · have h := h.2.2.2.2.2.2.2.2.2.2.2.2.2.2.2.2.2.2.2.2.2.2.2.2.2.2.1 hq
        refine jd_tableIn (pc := 33) 1094 dL_law_33 (by omega) (by omega) (by rw [hq]; rfl) (by decide) ?_
        refine jd_aload_n (pc := 1094) 1 dL_law_1094 rfl rfl ?_
        refine jd_aload_n (pc := 1095) 0 dL_law_1095 rfl rfl ?_
        refine jd_iload_n (pc := 1096) 3 dL_law_1096 rfl rfl ?_
        refine jd_iconst (pc := 1097) (v := 1) dL_law_1097 (by decide) ?_
        refine jd_iadd (pc := 1098) dL_law_1098 ?_
        obtain ⟨hv203, h⟩ := h
        refine jd_sld (pc := 1099) hXs hv203 dL_law_1099 ?_
        refine jd_callVi (pc := 1100) (M2 := mX11_least) (id := 0) (ci := 10) (T := TX11) (N := 9) (av := [.int (xs (Int32.toNatClampNeg (x3 + 1)))]) kX11_least sX11_least rfl hX.1 lL_126 rfl rfl (Nat.le_of_ble_eq_true rfl) dL_law_1100 h ?_
        intro v205 I204 J204 h
        refine jd_pop (pc := 1103) dL_law_1103 rfl ?_
        refine jd_aload_n (pc := 1104) 2 dL_law_1104 rfl rfl ?_
        refine jd_aload_n (pc := 1105) 0 dL_law_1105 rfl rfl ?_
        refine jd_iload_n (pc := 1106) 3 dL_law_1106 rfl rfl ?_
        refine jd_iconst (pc := 1107) (v := 1) dL_law_1107 (by decide) ?_
        refine jd_iadd (pc := 1108) dL_law_1108 ?_
        obtain ⟨hv206, h⟩ := h
        refine jd_sld (pc := 1109) hXs hv206 dL_law_1109 ?_
        refine jd_callVi (pc := 1110) (M2 := mX12_least) (id := 45) (ci := 11) (T := TX12) (N := 45) (av := [.int (xs (Int32.toNatClampNeg (x3 + 1)))]) kX12_least sX12_least rfl hM.1 lL_129 rfl rfl (Nat.le_of_ble_eq_true rfl) dL_law_1110 h ?_
        intro v208 I207 J207 h
        refine jd_pop (pc := 1113) dL_law_1113 rfl ?_
        refine jd_goto (pc := 1114) 1567 dL_law_1114 (by decide) ?_
        refine jd_iinc (pc := 1567) (v := (x3 + 6)) 3 [(3, .int (x3 + 6)), (0, .ref b), (1, .ref (gb G + 0)), (2, .ref (gb G + 45))] dL_law_1567 rfl rfl (Nat.le_of_ble_eq_true rfl) rfl ?_
        refine jd_goto (pc := 1570) 18 dL_law_1570 (by decide) ?_
        exact jd_lv (lv2 := [(0, .ref b), (1, .ref (gb G + 0)), (2, .ref (gb G + 45)), (3, .int (x3 + 6))]) [1, 2, 3, 0] rfl h
      · have h := h.2.2.2.2.2.2.2.2.2.2.2.2.2.2.2.2.2.2.2.2.2.2.2.2.2.2.2.1 hq
        refine jd_tableIn (pc := 33) 1117 dL_law_33 (by omega) (by omega) (by rw [hq]; rfl) (by decide) ?_
        refine jd_aload_n (pc := 1117) 1 dL_law_1117 rfl rfl ?_
        refine jd_callVi (pc := 1118) (M2 := mX11_head) (id := 0) (ci := 10) (T := TX11) (N := 9) (av := []) kX11_head sX11_head rfl hX.1 lL_130 rfl rfl (Nat.le_of_ble_eq_true rfl) dL_law_1118 h ?_
        intro v210 I209 J209 h
        refine jd_pop (pc := 1121) dL_law_1121 rfl ?_
        refine jd_aload_n (pc := 1122) 2 dL_law_1122 rfl rfl ?_
        refine jd_callVi (pc := 1123) (M2 := mX12_head) (id := 45) (ci := 11) (T := TX12) (N := 45) (av := []) kX12_head sX12_head rfl hM.1 lL_133 rfl rfl (Nat.le_of_ble_eq_true rfl) dL_law_1123 h ?_
        intro v212 I211 J211 h
        refine jd_pop (pc := 1126) dL_law_1126 rfl ?_
        refine jd_goto (pc := 1127) 1567 dL_law_1127 (by decide) ?_
        refine jd_iinc (pc := 1567) (v := (x3 + 6)) 3 [(3, .int (x3 + 6)), (0, .ref b), (1, .ref (gb G + 0)), (2, .ref (gb G + 45))] dL_law_1567 rfl rfl (Nat.le_of_ble_eq_true rfl) rfl ?_
        refine jd_goto (pc := 1570) 18 dL_law_1570 (by decide) ?_
        exact jd_lv (lv2 := [(0, .ref b), (1, .ref (gb G + 0)), (2, .ref (gb G + 45)), (3, .int (x3 + 6))]) [1, 2, 3, 0] rfl h
      · have h := h.2.2.2.2.2.2.2.2.2.2.2.2.2.2.2.2.2.2.2.2.2.2.2.2.2.2.2.2.1 hq
        refine jd_tableIn (pc := 33) 1130 dL_law_33 (by omega) (by omega) (by rw [hq]; rfl) (by decide) ?_
        refine jd_aload_n (pc := 1130) 1 dL_law_1130 rfl rfl ?_
        refine jd_aload_n (pc := 1131) 0 dL_law_1131 rfl rfl ?_
        refine jd_iload_n (pc := 1132) 3 dL_law_1132 rfl rfl ?_
        refine jd_iconst (pc := 1133) (v := 1) dL_law_1133 (by decide) ?_
        refine jd_iadd (pc := 1134) dL_law_1134 ?_
        obtain ⟨hv213, h⟩ := h
        refine jd_sld (pc := 1135) hXs hv213 dL_law_1135 ?_
        refine jd_callVi (pc := 1136) (M2 := mX11_days) (id := 0) (ci := 10) (T := TX11) (N := 9) (av := [.int (xs (Int32.toNatClampNeg (x3 + 1)))]) kX11_days sX11_days rfl hX.1 lL_134 rfl rfl (Nat.le_of_ble_eq_true rfl) dL_law_1136 h ?_
        intro v215 I214 J214 h
        refine jd_pop (pc := 1139) dL_law_1139 rfl ?_
        refine jd_aload_n (pc := 1140) 2 dL_law_1140 rfl rfl ?_
        refine jd_aload_n (pc := 1141) 0 dL_law_1141 rfl rfl ?_
        refine jd_iload_n (pc := 1142) 3 dL_law_1142 rfl rfl ?_
        refine jd_iconst (pc := 1143) (v := 1) dL_law_1143 (by decide) ?_
        refine jd_iadd (pc := 1144) dL_law_1144 ?_
        obtain ⟨hv216, h⟩ := h
        refine jd_sld (pc := 1145) hXs hv216 dL_law_1145 ?_
        obtain ⟨mc217, ms217, rc217, rs217, hb1, hb2, h⟩ := h
        refine jd_callV (pc := 1146) (M2 := mX12_days) (id := 45) (ci := 11) (T := TX12) (N := 45) (rc2 := rc217) (rs2 := rs217) (av := [.int (xs (Int32.toNatClampNeg (x3 + 1)))]) kX12_days sX12_days rfl hM.1 lL_137 rfl rfl (Nat.le_of_ble_eq_true rfl) hb1 hb2 dL_law_1146 (Cl.mono h (fun r217 Z217 I217 J217 h => ?_))
        obtain ⟨v217, rfl, h⟩ := h
        obtain ⟨hX, h⟩ := h
        obtain ⟨hM, h⟩ := h
        refine jd_pop (pc := 1149) dL_law_1149 rfl ?_
        refine jd_goto (pc := 1150) 1567 dL_law_1150 (by decide) ?_
        refine jd_iinc (pc := 1567) (v := (x3 + 6)) 3 [(3, .int (x3 + 6)), (0, .ref b), (1, .ref (gb G + 0)), (2, .ref (gb G + 45))] dL_law_1567 rfl rfl (Nat.le_of_ble_eq_true rfl) rfl ?_
        refine jd_goto (pc := 1570) 18 dL_law_1570 (by decide) ?_
        exact jd_lv (lv2 := [(0, .ref b), (1, .ref (gb G + 0)), (2, .ref (gb G + 45)), (3, .int (x3 + 6))]) [1, 2, 3, 0] rfl h
      · have h := h.2.2.2.2.2.2.2.2.2.2.2.2.2.2.2.2.2.2.2.2.2.2.2.2.2.2.2.2.2.1 hq
        refine jd_tableIn (pc := 33) 1153 dL_law_33 (by omega) (by omega) (by rw [hq]; rfl) (by decide) ?_
        refine jd_aload_n (pc := 1153) 1 dL_law_1153 rfl rfl ?_
        refine jd_aload_n (pc := 1154) 0 dL_law_1154 rfl rfl ?_
        refine jd_iload_n (pc := 1155) 3 dL_law_1155 rfl rfl ?_
        refine jd_iconst (pc := 1156) (v := 1) dL_law_1156 (by decide) ?_
        refine jd_iadd (pc := 1157) dL_law_1157 ?_
        obtain ⟨hv218, h⟩ := h
        refine jd_sld (pc := 1158) hXs hv218 dL_law_1158 ?_
        refine jd_callVi (pc := 1159) (M2 := mX11_ever) (id := 0) (ci := 10) (T := TX11) (N := 9) (av := [.int (xs (Int32.toNatClampNeg (x3 + 1)))]) kX11_ever sX11_ever rfl hX.1 lL_138 rfl rfl (Nat.le_of_ble_eq_true rfl) dL_law_1159 h ?_
        intro v220 I219 J219 h
        refine jd_pop (pc := 1162) dL_law_1162 rfl ?_
        refine jd_aload_n (pc := 1163) 2 dL_law_1163 rfl rfl ?_
        refine jd_aload_n (pc := 1164) 0 dL_law_1164 rfl rfl ?_
        refine jd_iload_n (pc := 1165) 3 dL_law_1165 rfl rfl ?_
        refine jd_iconst (pc := 1166) (v := 1) dL_law_1166 (by decide) ?_
        refine jd_iadd (pc := 1167) dL_law_1167 ?_
        obtain ⟨hv221, h⟩ := h
        refine jd_sld (pc := 1168) hXs hv221 dL_law_1168 ?_
        obtain ⟨mc222, ms222, rc222, rs222, hb1, hb2, h⟩ := h
        refine jd_callV (pc := 1169) (M2 := mX12_ever) (id := 45) (ci := 11) (T := TX12) (N := 45) (rc2 := rc222) (rs2 := rs222) (av := [.int (xs (Int32.toNatClampNeg (x3 + 1)))]) kX12_ever sX12_ever rfl hM.1 lL_141 rfl rfl (Nat.le_of_ble_eq_true rfl) hb1 hb2 dL_law_1169 (Cl.mono h (fun r222 Z222 I222 J222 h => ?_))
        obtain ⟨v222, rfl, h⟩ := h
        obtain ⟨hX, h⟩ := h
        obtain ⟨hM, h⟩ := h
        refine jd_pop (pc := 1172) dL_law_1172 rfl ?_
        refine jd_goto (pc := 1173) 1567 dL_law_1173 (by decide) ?_
        refine jd_iinc (pc := 1567) (v := (x3 + 6)) 3 [(3, .int (x3 + 6)), (0, .ref b), (1, .ref (gb G + 0)), (2, .ref (gb G + 45))] dL_law_1567 rfl rfl (Nat.le_of_ble_eq_true rfl) rfl ?_
        refine jd_goto (pc := 1570) 18 dL_law_1570 (by decide) ?_
        exact jd_lv (lv2 := [(0, .ref b), (1, .ref (gb G + 0)), (2, .ref (gb G + 45)), (3, .int (x3 + 6))]) [1, 2, 3, 0] rfl h
      · have h := h.2.2.2.2.2.2.2.2.2.2.2.2.2.2.2.2.2.2.2.2.2.2.2.2.2.2.2.2.2.2.1 hq
        refine jd_tableIn (pc := 33) 1176 dL_law_33 (by omega) (by omega) (by rw [hq]; rfl) (by decide) ?_
        refine jd_aload_n (pc := 1176) 1 dL_law_1176 rfl rfl ?_
        refine jd_callVi (pc := 1177) (M2 := mX11_hire) (id := 0) (ci := 10) (T := TX11) (N := 9) (av := []) kX11_hire sX11_hire rfl hX.1 lL_142 rfl rfl (Nat.le_of_ble_eq_true rfl) dL_law_1177 h ?_
        intro v224 I223 J223 h
        refine jd_pop (pc := 1180) dL_law_1180 rfl ?_
        refine jd_aload_n (pc := 1181) 2 dL_law_1181 rfl rfl ?_
        obtain ⟨mc225, ms225, rc225, rs225, hb1, hb2, h⟩ := h
        refine jd_callV (pc := 1182) (M2 := mX12_hire) (id := 45) (ci := 11) (T := TX12) (N := 45) (rc2 := rc225) (rs2 := rs225) (av := []) kX12_hire sX12_hire rfl hM.1 lL_145 rfl rfl (Nat.le_of_ble_eq_true rfl) hb1 hb2 dL_law_1182 (Cl.mono h (fun r225 Z225 I225 J225 h => ?_))
        obtain ⟨v225, rfl, h⟩ := h
        obtain ⟨hX, h⟩ := h
        obtain ⟨hM, h⟩ := h
        refine jd_pop (pc := 1185) dL_law_1185 rfl ?_
        refine jd_goto (pc := 1186) 1567 dL_law_1186 (by decide) ?_
        refine jd_iinc (pc := 1567) (v := (x3 + 6)) 3 [(3, .int (x3 + 6)), (0, .ref b), (1, .ref (gb G + 0)), (2, .ref (gb G + 45))] dL_law_1567 rfl rfl (Nat.le_of_ble_eq_true rfl) rfl ?_
        refine jd_goto (pc := 1570) 18 dL_law_1570 (by decide) ?_
        exact jd_lv (lv2 := [(0, .ref b), (1, .ref (gb G + 0)), (2, .ref (gb G + 45)), (3, .int (x3 + 6))]) [1, 2, 3, 0] rfl h
      · have h := h.2.2.2.2.2.2.2.2.2.2.2.2.2.2.2.2.2.2.2.2.2.2.2.2.2.2.2.2.2.2.2.1 hq
        refine jd_tableIn (pc := 33) 1189 dL_law_33 (by omega) (by omega) (by rw [hq]; rfl) (by decide) ?_
        refine jd_aload_n (pc := 1189) 1 dL_law_1189 rfl rfl ?_
        refine jd_aload_n (pc := 1190) 0 dL_law_1190 rfl rfl ?_
        refine jd_iload_n (pc := 1191) 3 dL_law_1191 rfl rfl ?_
        refine jd_iconst (pc := 1192) (v := 1) dL_law_1192 (by decide) ?_
        refine jd_iadd (pc := 1193) dL_law_1193 ?_
        obtain ⟨hv226, h⟩ := h
        refine jd_sld (pc := 1194) hXs hv226 dL_law_1194 ?_
        refine jd_callVi (pc := 1195) (M2 := mX11_feast) (id := 0) (ci := 10) (T := TX11) (N := 9) (av := [.int (xs (Int32.toNatClampNeg (x3 + 1)))]) kX11_feast sX11_feast rfl hX.1 lL_146 rfl rfl (Nat.le_of_ble_eq_true rfl) dL_law_1195 h ?_
        intro v228 I227 J227 h
        refine jd_pop (pc := 1198) dL_law_1198 rfl ?_
        refine jd_aload_n (pc := 1199) 2 dL_law_1199 rfl rfl ?_
        refine jd_aload_n (pc := 1200) 0 dL_law_1200 rfl rfl ?_
        refine jd_iload_n (pc := 1201) 3 dL_law_1201 rfl rfl ?_
        refine jd_iconst (pc := 1202) (v := 1) dL_law_1202 (by decide) ?_
        refine jd_iadd (pc := 1203) dL_law_1203 ?_
        obtain ⟨hv229, h⟩ := h
        refine jd_sld (pc := 1204) hXs hv229 dL_law_1204 ?_
        obtain ⟨mc230, ms230, rc230, rs230, hb1, hb2, h⟩ := h
        refine jd_callV (pc := 1205) (M2 := mX12_feast) (id := 45) (ci := 11) (T := TX12) (N := 45) (rc2 := rc230) (rs2 := rs230) (av := [.int (xs (Int32.toNatClampNeg (x3 + 1)))]) kX12_feast sX12_feast rfl hM.1 lL_149 rfl rfl (Nat.le_of_ble_eq_true rfl) hb1 hb2 dL_law_1205 (Cl.mono h (fun r230 Z230 I230 J230 h => ?_))
        obtain ⟨v230, rfl, h⟩ := h
        obtain ⟨hX, h⟩ := h
        obtain ⟨hM, h⟩ := h
        refine jd_pop (pc := 1208) dL_law_1208 rfl ?_
        refine jd_goto (pc := 1209) 1567 dL_law_1209 (by decide) ?_
        refine jd_iinc (pc := 1567) (v := (x3 + 6)) 3 [(3, .int (x3 + 6)), (0, .ref b), (1, .ref (gb G + 0)), (2, .ref (gb G + 45))] dL_law_1567 rfl rfl (Nat.le_of_ble_eq_true rfl) rfl ?_
        refine jd_goto (pc := 1570) 18 dL_law_1570 (by decide) ?_
        exact jd_lv (lv2 := [(0, .ref b), (1, .ref (gb G + 0)), (2, .ref (gb G + 45)), (3, .int (x3 + 6))]) [1, 2, 3, 0] rfl h
      · have h := h.2.2.2.2.2.2.2.2.2.2.2.2.2.2.2.2.2.2.2.2.2.2.2.2.2.2.2.2.2.2.2.2.1 hq
        refine jd_tableIn (pc := 33) 1212 dL_law_33 (by omega) (by omega) (by rw [hq]; rfl) (by decide) ?_
        refine jd_aload_n (pc := 1212) 1 dL_law_1212 rfl rfl ?_
        refine jd_aload_n (pc := 1213) 0 dL_law_1213 rfl rfl ?_
        refine jd_iload_n (pc := 1214) 3 dL_law_1214 rfl rfl ?_
        refine jd_iconst (pc := 1215) (v := 1) dL_law_1215 (by decide) ?_
        refine jd_iadd (pc := 1216) dL_law_1216 ?_
        obtain ⟨hv231, h⟩ := h
        refine jd_sld (pc := 1217) hXs hv231 dL_law_1217 ?_
        refine jd_aload_n (pc := 1218) 0 dL_law_1218 rfl rfl ?_
        refine jd_iload_n (pc := 1219) 3 dL_law_1219 rfl rfl ?_
        refine jd_iconst (pc := 1220) (v := 2) dL_law_1220 (by decide) ?_
        refine jd_iadd (pc := 1221) dL_law_1221 ?_
        obtain ⟨hv232, h⟩ := h
        refine jd_sld (pc := 1222) hXs hv232 dL_law_1222 ?_
        refine jd_callVi (pc := 1223) (M2 := mX11_closes) (id := 0) (ci := 10) (T := TX11) (N := 9) (av := [.int (xs (Int32.toNatClampNeg (x3 + 1))), .int (xs (Int32.toNatClampNeg (x3 + 2)))]) kX11_closes sX11_closes rfl hX.1 lL_150 rfl rfl (Nat.le_of_ble_eq_true rfl) dL_law_1223 h ?_
        intro v234 I233 J233 h
        refine jd_pop (pc := 1226) dL_law_1226 rfl ?_
        refine jd_aload_n (pc := 1227) 2 dL_law_1227 rfl rfl ?_
        refine jd_aload_n (pc := 1228) 0 dL_law_1228 rfl rfl ?_
        refine jd_iload_n (pc := 1229) 3 dL_law_1229 rfl rfl ?_
        refine jd_iconst (pc := 1230) (v := 1) dL_law_1230 (by decide) ?_
        refine jd_iadd (pc := 1231) dL_law_1231 ?_
        obtain ⟨hv235, h⟩ := h
        refine jd_sld (pc := 1232) hXs hv235 dL_law_1232 ?_
        refine jd_aload_n (pc := 1233) 0 dL_law_1233 rfl rfl ?_
        refine jd_iload_n (pc := 1234) 3 dL_law_1234 rfl rfl ?_
        refine jd_iconst (pc := 1235) (v := 2) dL_law_1235 (by decide) ?_
        refine jd_iadd (pc := 1236) dL_law_1236 ?_
        obtain ⟨hv236, h⟩ := h
        refine jd_sld (pc := 1237) hXs hv236 dL_law_1237 ?_
        obtain ⟨mc237, ms237, rc237, rs237, hb1, hb2, h⟩ := h
        refine jd_callV (pc := 1238) (M2 := mX12_closes) (id := 45) (ci := 11) (T := TX12) (N := 45) (rc2 := rc237) (rs2 := rs237) (av := [.int (xs (Int32.toNatClampNeg (x3 + 1))), .int (xs (Int32.toNatClampNeg (x3 + 2)))]) kX12_closes sX12_closes rfl hM.1 lL_153 rfl rfl (Nat.le_of_ble_eq_true rfl) hb1 hb2 dL_law_1238 (Cl.mono h (fun r237 Z237 I237 J237 h => ?_))
        obtain ⟨v237, rfl, h⟩ := h
        obtain ⟨hX, h⟩ := h
        obtain ⟨hM, h⟩ := h
        refine jd_pop (pc := 1241) dL_law_1241 rfl ?_
        refine jd_goto (pc := 1242) 1567 dL_law_1242 (by decide) ?_
        refine jd_iinc (pc := 1567) (v := (x3 + 6)) 3 [(3, .int (x3 + 6)), (0, .ref b), (1, .ref (gb G + 0)), (2, .ref (gb G + 45))] dL_law_1567 rfl rfl (Nat.le_of_ble_eq_true rfl) rfl ?_
        refine jd_goto (pc := 1570) 18 dL_law_1570 (by decide) ?_
        exact jd_lv (lv2 := [(0, .ref b), (1, .ref (gb G + 0)), (2, .ref (gb G + 45)), (3, .int (x3 + 6))]) [1, 2, 3, 0] rfl h
      · have h := h.2.2.2.2.2.2.2.2.2.2.2.2.2.2.2.2.2.2.2.2.2.2.2.2.2.2.2.2.2.2.2.2.2.1 hq
        refine jd_tableIn (pc := 33) 1245 dL_law_33 (by omega) (by omega) (by rw [hq]; rfl) (by decide) ?_
        refine jd_aload_n (pc := 1245) 1 dL_law_1245 rfl rfl ?_
        refine jd_callVi (pc := 1246) (M2 := mX11_worst) (id := 0) (ci := 10) (T := TX11) (N := 9) (av := []) kX11_worst sX11_worst rfl hX.1 lL_154 rfl rfl (Nat.le_of_ble_eq_true rfl) dL_law_1246 h ?_
        intro v239 I238 J238 h
        refine jd_pop (pc := 1249) dL_law_1249 rfl ?_
        refine jd_aload_n (pc := 1250) 2 dL_law_1250 rfl rfl ?_
        obtain ⟨mc240, ms240, rc240, rs240, hb1, hb2, h⟩ := h
        refine jd_callV (pc := 1251) (M2 := mX12_worst) (id := 45) (ci := 11) (T := TX12) (N := 45) (rc2 := rc240) (rs2 := rs240) (av := []) kX12_worst sX12_worst rfl hM.1 lL_157 rfl rfl (Nat.le_of_ble_eq_true rfl) hb1 hb2 dL_law_1251 (Cl.mono h (fun r240 Z240 I240 J240 h => ?_))
        obtain ⟨v240, rfl, h⟩ := h
        obtain ⟨hX, h⟩ := h
        obtain ⟨hM, h⟩ := h
        refine jd_pop (pc := 1254) dL_law_1254 rfl ?_
        refine jd_goto (pc := 1255) 1567 dL_law_1255 (by decide) ?_
        refine jd_iinc (pc := 1567) (v := (x3 + 6)) 3 [(3, .int (x3 + 6)), (0, .ref b), (1, .ref (gb G + 0)), (2, .ref (gb G + 45))] dL_law_1567 rfl rfl (Nat.le_of_ble_eq_true rfl) rfl ?_
        refine jd_goto (pc := 1570) 18 dL_law_1570 (by decide) ?_
        exact jd_lv (lv2 := [(0, .ref b), (1, .ref (gb G + 0)), (2, .ref (gb G + 45)), (3, .int (x3 + 6))]) [1, 2, 3, 0] rfl h
      · have h := h.2.2.2.2.2.2.2.2.2.2.2.2.2.2.2.2.2.2.2.2.2.2.2.2.2.2.2.2.2.2.2.2.2.2.1 hq
        refine jd_tableIn (pc := 33) 1258 dL_law_33 (by omega) (by omega) (by rw [hq]; rfl) (by decide) ?_
        refine jd_aload_n (pc := 1258) 1 dL_law_1258 rfl rfl ?_
        refine jd_aload_n (pc := 1259) 0 dL_law_1259 rfl rfl ?_
        refine jd_iload_n (pc := 1260) 3 dL_law_1260 rfl rfl ?_
        refine jd_iconst (pc := 1261) (v := 1) dL_law_1261 (by decide) ?_
        refine jd_iadd (pc := 1262) dL_law_1262 ?_
        obtain ⟨hv241, h⟩ := h
        refine jd_sld (pc := 1263) hXs hv241 dL_law_1263 ?_
        refine jd_callVi (pc := 1264) (M2 := mX11_fits) (id := 0) (ci := 10) (T := TX11) (N := 9) (av := [.int (xs (Int32.toNatClampNeg (x3 + 1)))]) kX11_fits sX11_fits rfl hX.1 lL_158 rfl rfl (Nat.le_of_ble_eq_true rfl) dL_law_1264 h ?_
        intro v243 I242 J242 h
        refine jd_pop (pc := 1267) dL_law_1267 rfl ?_
        refine jd_aload_n (pc := 1268) 2 dL_law_1268 rfl rfl ?_
        refine jd_aload_n (pc := 1269) 0 dL_law_1269 rfl rfl ?_
        refine jd_iload_n (pc := 1270) 3 dL_law_1270 rfl rfl ?_
        refine jd_iconst (pc := 1271) (v := 1) dL_law_1271 (by decide) ?_
        refine jd_iadd (pc := 1272) dL_law_1272 ?_
        obtain ⟨hv244, h⟩ := h
        refine jd_sld (pc := 1273) hXs hv244 dL_law_1273 ?_
        obtain ⟨mc245, ms245, rc245, rs245, hb1, hb2, h⟩ := h
        refine jd_callV (pc := 1274) (M2 := mX12_fits) (id := 45) (ci := 11) (T := TX12) (N := 45) (rc2 := rc245) (rs2 := rs245) (av := [.int (xs (Int32.toNatClampNeg (x3 + 1)))]) kX12_fits sX12_fits rfl hM.1 lL_161 rfl rfl (Nat.le_of_ble_eq_true rfl) hb1 hb2 dL_law_1274 (Cl.mono h (fun r245 Z245 I245 J245 h => ?_))
        obtain ⟨v245, rfl, h⟩ := h
        obtain ⟨hX, h⟩ := h
        obtain ⟨hM, h⟩ := h
        refine jd_pop (pc := 1277) dL_law_1277 rfl ?_
        refine jd_goto (pc := 1278) 1567 dL_law_1278 (by decide) ?_
        refine jd_iinc (pc := 1567) (v := (x3 + 6)) 3 [(3, .int (x3 + 6)), (0, .ref b), (1, .ref (gb G + 0)), (2, .ref (gb G + 45))] dL_law_1567 rfl rfl (Nat.le_of_ble_eq_true rfl) rfl ?_
        refine jd_goto (pc := 1570) 18 dL_law_1570 (by decide) ?_
        exact jd_lv (lv2 := [(0, .ref b), (1, .ref (gb G + 0)), (2, .ref (gb G + 45)), (3, .int (x3 + 6))]) [1, 2, 3, 0] rfl h
      · have h := h.2.2.2.2.2.2.2.2.2.2.2.2.2.2.2.2.2.2.2.2.2.2.2.2.2.2.2.2.2.2.2.2.2.2.2.1 hq
        refine jd_tableIn (pc := 33) 1281 dL_law_33 (by omega) (by omega) (by rw [hq]; rfl) (by decide) ?_
        refine jd_aload_n (pc := 1281) 1 dL_law_1281 rfl rfl ?_
        refine jd_aload_n (pc := 1282) 0 dL_law_1282 rfl rfl ?_
        refine jd_iload_n (pc := 1283) 3 dL_law_1283 rfl rfl ?_
        refine jd_iconst (pc := 1284) (v := 1) dL_law_1284 (by decide) ?_
        refine jd_iadd (pc := 1285) dL_law_1285 ?_
        obtain ⟨hv246, h⟩ := h
        refine jd_sld (pc := 1286) hXs hv246 dL_law_1286 ?_
        refine jd_callVi (pc := 1287) (M2 := mX11_sure) (id := 0) (ci := 10) (T := TX11) (N := 9) (av := [.int (xs (Int32.toNatClampNeg (x3 + 1)))]) kX11_sure sX11_sure rfl hX.1 lL_162 rfl rfl (Nat.le_of_ble_eq_true rfl) dL_law_1287 h ?_
        intro v248 I247 J247 h
        refine jd_pop (pc := 1290) dL_law_1290 rfl ?_
        refine jd_aload_n (pc := 1291) 2 dL_law_1291 rfl rfl ?_
        refine jd_aload_n (pc := 1292) 0 dL_law_1292 rfl rfl ?_
        refine jd_iload_n (pc := 1293) 3 dL_law_1293 rfl rfl ?_
        refine jd_iconst (pc := 1294) (v := 1) dL_law_1294 (by decide) ?_
        refine jd_iadd (pc := 1295) dL_law_1295 ?_
        obtain ⟨hv249, h⟩ := h
        refine jd_sld (pc := 1296) hXs hv249 dL_law_1296 ?_
        obtain ⟨mc250, ms250, rc250, rs250, hb1, hb2, h⟩ := h
        refine jd_callV (pc := 1297) (M2 := mX12_sure) (id := 45) (ci := 11) (T := TX12) (N := 45) (rc2 := rc250) (rs2 := rs250) (av := [.int (xs (Int32.toNatClampNeg (x3 + 1)))]) kX12_sure sX12_sure rfl hM.1 lL_165 rfl rfl (Nat.le_of_ble_eq_true rfl) hb1 hb2 dL_law_1297 (Cl.mono h (fun r250 Z250 I250 J250 h => ?_))
        obtain ⟨v250, rfl, h⟩ := h
        obtain ⟨hX, h⟩ := h
        obtain ⟨hM, h⟩ := h
        refine jd_pop (pc := 1300) dL_law_1300 rfl ?_
        refine jd_goto (pc := 1301) 1567 dL_law_1301 (by decide) ?_
        refine jd_iinc (pc := 1567) (v := (x3 + 6)) 3 [(3, .int (x3 + 6)), (0, .ref b), (1, .ref (gb G + 0)), (2, .ref (gb G + 45))] dL_law_1567 rfl rfl (Nat.le_of_ble_eq_true rfl) rfl ?_
        refine jd_goto (pc := 1570) 18 dL_law_1570 (by decide) ?_
        exact jd_lv (lv2 := [(0, .ref b), (1, .ref (gb G + 0)), (2, .ref (gb G + 45)), (3, .int (x3 + 6))]) [1, 2, 3, 0] rfl h
      · have h := h.2.2.2.2.2.2.2.2.2.2.2.2.2.2.2.2.2.2.2.2.2.2.2.2.2.2.2.2.2.2.2.2.2.2.2.2.1 hq
        refine jd_tableIn (pc := 33) 1304 dL_law_33 (by omega) (by omega) (by rw [hq]; rfl) (by decide) ?_
        refine jd_aload_n (pc := 1304) 1 dL_law_1304 rfl rfl ?_
        refine jd_aload_n (pc := 1305) 0 dL_law_1305 rfl rfl ?_
        refine jd_iload_n (pc := 1306) 3 dL_law_1306 rfl rfl ?_
        refine jd_iconst (pc := 1307) (v := 1) dL_law_1307 (by decide) ?_
        refine jd_iadd (pc := 1308) dL_law_1308 ?_
        obtain ⟨hv251, h⟩ := h
        refine jd_sld (pc := 1309) hXs hv251 dL_law_1309 ?_
        refine jd_aload_n (pc := 1310) 0 dL_law_1310 rfl rfl ?_
        refine jd_iload_n (pc := 1311) 3 dL_law_1311 rfl rfl ?_
        refine jd_iconst (pc := 1312) (v := 2) dL_law_1312 (by decide) ?_
        refine jd_iadd (pc := 1313) dL_law_1313 ?_
        obtain ⟨hv252, h⟩ := h
        refine jd_sld (pc := 1314) hXs hv252 dL_law_1314 ?_
        refine jd_callVi (pc := 1315) (M2 := mX11_judge) (id := 0) (ci := 10) (T := TX11) (N := 9) (av := [.int (xs (Int32.toNatClampNeg (x3 + 1))), .int (xs (Int32.toNatClampNeg (x3 + 2)))]) kX11_judge sX11_judge rfl hX.1 lL_166 rfl rfl (Nat.le_of_ble_eq_true rfl) dL_law_1315 h ?_
        intro v254 I253 J253 h
        refine jd_pop (pc := 1318) dL_law_1318 rfl ?_
        refine jd_aload_n (pc := 1319) 2 dL_law_1319 rfl rfl ?_
        refine jd_aload_n (pc := 1320) 0 dL_law_1320 rfl rfl ?_
        refine jd_iload_n (pc := 1321) 3 dL_law_1321 rfl rfl ?_
        refine jd_iconst (pc := 1322) (v := 1) dL_law_1322 (by decide) ?_
        refine jd_iadd (pc := 1323) dL_law_1323 ?_
        obtain ⟨hv255, h⟩ := h
        refine jd_sld (pc := 1324) hXs hv255 dL_law_1324 ?_
        refine jd_aload_n (pc := 1325) 0 dL_law_1325 rfl rfl ?_
        refine jd_iload_n (pc := 1326) 3 dL_law_1326 rfl rfl ?_
        refine jd_iconst (pc := 1327) (v := 2) dL_law_1327 (by decide) ?_
        refine jd_iadd (pc := 1328) dL_law_1328 ?_
        obtain ⟨hv256, h⟩ := h
        refine jd_sld (pc := 1329) hXs hv256 dL_law_1329 ?_
        refine jd_callVi (pc := 1330) (M2 := mX12_judge) (id := 45) (ci := 11) (T := TX12) (N := 45) (av := [.int (xs (Int32.toNatClampNeg (x3 + 1))), .int (xs (Int32.toNatClampNeg (x3 + 2)))]) kX12_judge sX12_judge rfl hM.1 lL_169 rfl rfl (Nat.le_of_ble_eq_true rfl) dL_law_1330 h ?_
        intro v258 I257 J257 h
        refine jd_pop (pc := 1333) dL_law_1333 rfl ?_
        refine jd_goto (pc := 1334) 1567 dL_law_1334 (by decide) ?_
        refine jd_iinc (pc := 1567) (v := (x3 + 6)) 3 [(3, .int (x3 + 6)), (0, .ref b), (1, .ref (gb G + 0)), (2, .ref (gb G + 45))] dL_law_1567 rfl rfl (Nat.le_of_ble_eq_true rfl) rfl ?_
        refine jd_goto (pc := 1570) 18 dL_law_1570 (by decide) ?_
        exact jd_lv (lv2 := [(0, .ref b), (1, .ref (gb G + 0)), (2, .ref (gb G + 45)), (3, .int (x3 + 6))]) [1, 2, 3, 0] rfl h
      · have h := h.2.2.2.2.2.2.2.2.2.2.2.2.2.2.2.2.2.2.2.2.2.2.2.2.2.2.2.2.2.2.2.2.2.2.2.2.2.1 hq
        refine jd_tableIn (pc := 33) 1337 dL_law_33 (by omega) (by omega) (by rw [hq]; rfl) (by decide) ?_
        refine jd_aload_n (pc := 1337) 1 dL_law_1337 rfl rfl ?_
        refine jd_aload_n (pc := 1338) 0 dL_law_1338 rfl rfl ?_
        refine jd_iload_n (pc := 1339) 3 dL_law_1339 rfl rfl ?_
        refine jd_iconst (pc := 1340) (v := 1) dL_law_1340 (by decide) ?_
        refine jd_iadd (pc := 1341) dL_law_1341 ?_
        obtain ⟨hv259, h⟩ := h
        refine jd_sld (pc := 1342) hXs hv259 dL_law_1342 ?_
        refine jd_aload_n (pc := 1343) 0 dL_law_1343 rfl rfl ?_
        refine jd_iload_n (pc := 1344) 3 dL_law_1344 rfl rfl ?_
        refine jd_iconst (pc := 1345) (v := 2) dL_law_1345 (by decide) ?_
        refine jd_iadd (pc := 1346) dL_law_1346 ?_
        obtain ⟨hv260, h⟩ := h
        refine jd_sld (pc := 1347) hXs hv260 dL_law_1347 ?_
        refine jd_aload_n (pc := 1348) 0 dL_law_1348 rfl rfl ?_
        refine jd_iload_n (pc := 1349) 3 dL_law_1349 rfl rfl ?_
        refine jd_iconst (pc := 1350) (v := 3) dL_law_1350 (by decide) ?_
        refine jd_iadd (pc := 1351) dL_law_1351 ?_
        obtain ⟨hv261, h⟩ := h
        refine jd_sld (pc := 1352) hXs hv261 dL_law_1352 ?_
        refine jd_callVi (pc := 1353) (M2 := mX11_behind) (id := 0) (ci := 10) (T := TX11) (N := 9) (av := [.int (xs (Int32.toNatClampNeg (x3 + 1))), .int (xs (Int32.toNatClampNeg (x3 + 2))), .int (xs (Int32.toNatClampNeg (x3 + 3)))]) kX11_behind sX11_behind rfl hX.1 lL_170 rfl rfl (Nat.le_of_ble_eq_true rfl) dL_law_1353 h ?_
        intro v263 I262 J262 h
        refine jd_pop (pc := 1356) dL_law_1356 rfl ?_
        refine jd_aload_n (pc := 1357) 2 dL_law_1357 rfl rfl ?_
        refine jd_aload_n (pc := 1358) 0 dL_law_1358 rfl rfl ?_
        refine jd_iload_n (pc := 1359) 3 dL_law_1359 rfl rfl ?_
        refine jd_iconst (pc := 1360) (v := 1) dL_law_1360 (by decide) ?_
        refine jd_iadd (pc := 1361) dL_law_1361 ?_
        obtain ⟨hv264, h⟩ := h
        refine jd_sld (pc := 1362) hXs hv264 dL_law_1362 ?_
        refine jd_aload_n (pc := 1363) 0 dL_law_1363 rfl rfl ?_
        refine jd_iload_n (pc := 1364) 3 dL_law_1364 rfl rfl ?_
        refine jd_iconst (pc := 1365) (v := 2) dL_law_1365 (by decide) ?_
        refine jd_iadd (pc := 1366) dL_law_1366 ?_
        obtain ⟨hv265, h⟩ := h
        refine jd_sld (pc := 1367) hXs hv265 dL_law_1367 ?_
        refine jd_aload_n (pc := 1368) 0 dL_law_1368 rfl rfl ?_
        refine jd_iload_n (pc := 1369) 3 dL_law_1369 rfl rfl ?_
        refine jd_iconst (pc := 1370) (v := 3) dL_law_1370 (by decide) ?_
        refine jd_iadd (pc := 1371) dL_law_1371 ?_
        obtain ⟨hv266, h⟩ := h
        refine jd_sld (pc := 1372) hXs hv266 dL_law_1372 ?_
        obtain ⟨mc267, ms267, rc267, rs267, hb1, hb2, h⟩ := h
        refine jd_callV (pc := 1373) (M2 := mX12_behind) (id := 45) (ci := 11) (T := TX12) (N := 45) (rc2 := rc267) (rs2 := rs267) (av := [.int (xs (Int32.toNatClampNeg (x3 + 1))), .int (xs (Int32.toNatClampNeg (x3 + 2))), .int (xs (Int32.toNatClampNeg (x3 + 3)))]) kX12_behind sX12_behind rfl hM.1 lL_173 rfl rfl (Nat.le_of_ble_eq_true rfl) hb1 hb2 dL_law_1373 (Cl.mono h (fun r267 Z267 I267 J267 h => ?_))
        obtain ⟨v267, rfl, h⟩ := h
        obtain ⟨hX, h⟩ := h
        obtain ⟨hM, h⟩ := h
        refine jd_pop (pc := 1376) dL_law_1376 rfl ?_
        refine jd_goto (pc := 1377) 1567 dL_law_1377 (by decide) ?_
        refine jd_iinc (pc := 1567) (v := (x3 + 6)) 3 [(3, .int (x3 + 6)), (0, .ref b), (1, .ref (gb G + 0)), (2, .ref (gb G + 45))] dL_law_1567 rfl rfl (Nat.le_of_ble_eq_true rfl) rfl ?_
        refine jd_goto (pc := 1570) 18 dL_law_1570 (by decide) ?_
        exact jd_lv (lv2 := [(0, .ref b), (1, .ref (gb G + 0)), (2, .ref (gb G + 45)), (3, .int (x3 + 6))]) [1, 2, 3, 0] rfl h
      · have h := h.2.2.2.2.2.2.2.2.2.2.2.2.2.2.2.2.2.2.2.2.2.2.2.2.2.2.2.2.2.2.2.2.2.2.2.2.2.2.1 hq
        refine jd_tableIn (pc := 33) 1380 dL_law_33 (by omega) (by omega) (by rw [hq]; rfl) (by decide) ?_
        refine jd_aload_n (pc := 1380) 1 dL_law_1380 rfl rfl ?_
        refine jd_aload_n (pc := 1381) 0 dL_law_1381 rfl rfl ?_
        refine jd_iload_n (pc := 1382) 3 dL_law_1382 rfl rfl ?_
        refine jd_iconst (pc := 1383) (v := 1) dL_law_1383 (by decide) ?_
        refine jd_iadd (pc := 1384) dL_law_1384 ?_
        obtain ⟨hv268, h⟩ := h
        refine jd_sld (pc := 1385) hXs hv268 dL_law_1385 ?_
        refine jd_aload_n (pc := 1386) 0 dL_law_1386 rfl rfl ?_
        refine jd_iload_n (pc := 1387) 3 dL_law_1387 rfl rfl ?_
        refine jd_iconst (pc := 1388) (v := 2) dL_law_1388 (by decide) ?_
        refine jd_iadd (pc := 1389) dL_law_1389 ?_
        obtain ⟨hv269, h⟩ := h
        refine jd_sld (pc := 1390) hXs hv269 dL_law_1390 ?_
        refine jd_callVi (pc := 1391) (M2 := mX11_rides) (id := 0) (ci := 10) (T := TX11) (N := 9) (av := [.int (xs (Int32.toNatClampNeg (x3 + 1))), .int (xs (Int32.toNatClampNeg (x3 + 2)))]) kX11_rides sX11_rides rfl hX.1 lL_174 rfl rfl (Nat.le_of_ble_eq_true rfl) dL_law_1391 h ?_
        intro v271 I270 J270 h
        refine jd_pop (pc := 1394) dL_law_1394 rfl ?_
        refine jd_aload_n (pc := 1395) 2 dL_law_1395 rfl rfl ?_
        refine jd_aload_n (pc := 1396) 0 dL_law_1396 rfl rfl ?_
        refine jd_iload_n (pc := 1397) 3 dL_law_1397 rfl rfl ?_
        refine jd_iconst (pc := 1398) (v := 1) dL_law_1398 (by decide) ?_
        refine jd_iadd (pc := 1399) dL_law_1399 ?_
        obtain ⟨hv272, h⟩ := h
        refine jd_sld (pc := 1400) hXs hv272 dL_law_1400 ?_
        refine jd_aload_n (pc := 1401) 0 dL_law_1401 rfl rfl ?_
        refine jd_iload_n (pc := 1402) 3 dL_law_1402 rfl rfl ?_
        refine jd_iconst (pc := 1403) (v := 2) dL_law_1403 (by decide) ?_
        refine jd_iadd (pc := 1404) dL_law_1404 ?_
        obtain ⟨hv273, h⟩ := h
        refine jd_sld (pc := 1405) hXs hv273 dL_law_1405 ?_
        refine jd_callVi (pc := 1406) (M2 := mX12_rides) (id := 45) (ci := 11) (T := TX12) (N := 45) (av := [.int (xs (Int32.toNatClampNeg (x3 + 1))), .int (xs (Int32.toNatClampNeg (x3 + 2)))]) kX12_rides sX12_rides rfl hM.1 lL_177 rfl rfl (Nat.le_of_ble_eq_true rfl) dL_law_1406 h ?_
        intro v275 I274 J274 h
        refine jd_pop (pc := 1409) dL_law_1409 rfl ?_
        refine jd_goto (pc := 1410) 1567 dL_law_1410 (by decide) ?_
        refine jd_iinc (pc := 1567) (v := (x3 + 6)) 3 [(3, .int (x3 + 6)), (0, .ref b), (1, .ref (gb G + 0)), (2, .ref (gb G + 45))] dL_law_1567 rfl rfl (Nat.le_of_ble_eq_true rfl) rfl ?_
        refine jd_goto (pc := 1570) 18 dL_law_1570 (by decide) ?_
        exact jd_lv (lv2 := [(0, .ref b), (1, .ref (gb G + 0)), (2, .ref (gb G + 45)), (3, .int (x3 + 6))]) [1, 2, 3, 0] rfl h
      · have h := h.2.2.2.2.2.2.2.2.2.2.2.2.2.2.2.2.2.2.2.2.2.2.2.2.2.2.2.2.2.2.2.2.2.2.2.2.2.2.2.1 hq
        refine jd_tableIn (pc := 33) 1413 dL_law_33 (by omega) (by omega) (by rw [hq]; rfl) (by decide) ?_
        refine jd_aload_n (pc := 1413) 1 dL_law_1413 rfl rfl ?_
        refine jd_aload_n (pc := 1414) 0 dL_law_1414 rfl rfl ?_
        refine jd_iload_n (pc := 1415) 3 dL_law_1415 rfl rfl ?_
        refine jd_iconst (pc := 1416) (v := 1) dL_law_1416 (by decide) ?_
        refine jd_iadd (pc := 1417) dL_law_1417 ?_
        obtain ⟨hv276, h⟩ := h
        refine jd_sld (pc := 1418) hXs hv276 dL_law_1418 ?_
        refine jd_callVi (pc := 1419) (M2 := mX11_day) (id := 0) (ci := 10) (T := TX11) (N := 9) (av := [.int (xs (Int32.toNatClampNeg (x3 + 1)))]) kX11_day sX11_day rfl hX.1 lL_178 rfl rfl (Nat.le_of_ble_eq_true rfl) dL_law_1419 h ?_
        intro v278 I277 J277 h
        refine jd_pop (pc := 1422) dL_law_1422 rfl ?_
        refine jd_aload_n (pc := 1423) 2 dL_law_1423 rfl rfl ?_
        refine jd_aload_n (pc := 1424) 0 dL_law_1424 rfl rfl ?_
        refine jd_iload_n (pc := 1425) 3 dL_law_1425 rfl rfl ?_
        refine jd_iconst (pc := 1426) (v := 1) dL_law_1426 (by decide) ?_
        refine jd_iadd (pc := 1427) dL_law_1427 ?_
        obtain ⟨hv279, h⟩ := h
        refine jd_sld (pc := 1428) hXs hv279 dL_law_1428 ?_
        refine jd_callVi (pc := 1429) (M2 := mX12_day) (id := 45) (ci := 11) (T := TX12) (N := 45) (av := [.int (xs (Int32.toNatClampNeg (x3 + 1)))]) kX12_day sX12_day rfl hM.1 lL_181 rfl rfl (Nat.le_of_ble_eq_true rfl) dL_law_1429 h ?_
        intro v281 I280 J280 h
        refine jd_pop (pc := 1432) dL_law_1432 rfl ?_
        refine jd_goto (pc := 1433) 1567 dL_law_1433 (by decide) ?_
        refine jd_iinc (pc := 1567) (v := (x3 + 6)) 3 [(3, .int (x3 + 6)), (0, .ref b), (1, .ref (gb G + 0)), (2, .ref (gb G + 45))] dL_law_1567 rfl rfl (Nat.le_of_ble_eq_true rfl) rfl ?_
        refine jd_goto (pc := 1570) 18 dL_law_1570 (by decide) ?_
        exact jd_lv (lv2 := [(0, .ref b), (1, .ref (gb G + 0)), (2, .ref (gb G + 45)), (3, .int (x3 + 6))]) [1, 2, 3, 0] rfl h
      · have h := h.2.2.2.2.2.2.2.2.2.2.2.2.2.2.2.2.2.2.2.2.2.2.2.2.2.2.2.2.2.2.2.2.2.2.2.2.2.2.2.2.1 hq
        refine jd_tableIn (pc := 33) 1436 dL_law_33 (by omega) (by omega) (by rw [hq]; rfl) (by decide) ?_
        refine jd_aload_n (pc := 1436) 1 dL_law_1436 rfl rfl ?_
        refine jd_aload_n (pc := 1437) 0 dL_law_1437 rfl rfl ?_
        refine jd_iload_n (pc := 1438) 3 dL_law_1438 rfl rfl ?_
        refine jd_iconst (pc := 1439) (v := 1) dL_law_1439 (by decide) ?_
        refine jd_iadd (pc := 1440) dL_law_1440 ?_
        obtain ⟨hv282, h⟩ := h
        refine jd_sld (pc := 1441) hXs hv282 dL_law_1441 ?_
        refine jd_callVi (pc := 1442) (M2 := mX11_meet) (id := 0) (ci := 10) (T := TX11) (N := 9) (av := [.int (xs (Int32.toNatClampNeg (x3 + 1)))]) kX11_meet sX11_meet rfl hX.1 lL_182 rfl rfl (Nat.le_of_ble_eq_true rfl) dL_law_1442 h ?_
        intro v284 I283 J283 h
        refine jd_pop (pc := 1445) dL_law_1445 rfl ?_
        refine jd_aload_n (pc := 1446) 2 dL_law_1446 rfl rfl ?_
        refine jd_aload_n (pc := 1447) 0 dL_law_1447 rfl rfl ?_
        refine jd_iload_n (pc := 1448) 3 dL_law_1448 rfl rfl ?_
        refine jd_iconst (pc := 1449) (v := 1) dL_law_1449 (by decide) ?_
        refine jd_iadd (pc := 1450) dL_law_1450 ?_
        obtain ⟨hv285, h⟩ := h
        refine jd_sld (pc := 1451) hXs hv285 dL_law_1451 ?_
        refine jd_callVi (pc := 1452) (M2 := mX12_meet) (id := 45) (ci := 11) (T := TX12) (N := 45) (av := [.int (xs (Int32.toNatClampNeg (x3 + 1)))]) kX12_meet sX12_meet rfl hM.1 lL_185 rfl rfl (Nat.le_of_ble_eq_true rfl) dL_law_1452 h ?_
        intro v287 I286 J286 h
        refine jd_pop (pc := 1455) dL_law_1455 rfl ?_
        refine jd_goto (pc := 1456) 1567 dL_law_1456 (by decide) ?_
        refine jd_iinc (pc := 1567) (v := (x3 + 6)) 3 [(3, .int (x3 + 6)), (0, .ref b), (1, .ref (gb G + 0)), (2, .ref (gb G + 45))] dL_law_1567 rfl rfl (Nat.le_of_ble_eq_true rfl) rfl ?_
        refine jd_goto (pc := 1570) 18 dL_law_1570 (by decide) ?_
        exact jd_lv (lv2 := [(0, .ref b), (1, .ref (gb G + 0)), (2, .ref (gb G + 45)), (3, .int (x3 + 6))]) [1, 2, 3, 0] rfl h
      · have h := h.2.2.2.2.2.2.2.2.2.2.2.2.2.2.2.2.2.2.2.2.2.2.2.2.2.2.2.2.2.2.2.2.2.2.2.2.2.2.2.2.2.1 hq
        refine jd_tableIn (pc := 33) 1459 dL_law_33 (by omega) (by omega) (by rw [hq]; rfl) (by decide) ?_
        refine jd_aload_n (pc := 1459) 1 dL_law_1459 rfl rfl ?_
        refine jd_callVi (pc := 1460) (M2 := mX11_year) (id := 0) (ci := 10) (T := TX11) (N := 9) (av := []) kX11_year sX11_year rfl hX.1 lL_186 rfl rfl (Nat.le_of_ble_eq_true rfl) dL_law_1460 h ?_
        intro v289 I288 J288 h
        refine jd_pop (pc := 1463) dL_law_1463 rfl ?_
        refine jd_aload_n (pc := 1464) 2 dL_law_1464 rfl rfl ?_
        refine jd_callVi (pc := 1465) (M2 := mX12_year) (id := 45) (ci := 11) (T := TX12) (N := 45) (av := []) kX12_year sX12_year rfl hM.1 lL_189 rfl rfl (Nat.le_of_ble_eq_true rfl) dL_law_1465 h ?_
        intro v291 I290 J290 h
        refine jd_pop (pc := 1468) dL_law_1468 rfl ?_
        refine jd_goto (pc := 1469) 1567 dL_law_1469 (by decide) ?_
        refine jd_iinc (pc := 1567) (v := (x3 + 6)) 3 [(3, .int (x3 + 6)), (0, .ref b), (1, .ref (gb G + 0)), (2, .ref (gb G + 45))] dL_law_1567 rfl rfl (Nat.le_of_ble_eq_true rfl) rfl ?_
        refine jd_goto (pc := 1570) 18 dL_law_1570 (by decide) ?_
        exact jd_lv (lv2 := [(0, .ref b), (1, .ref (gb G + 0)), (2, .ref (gb G + 45)), (3, .int (x3 + 6))]) [1, 2, 3, 0] rfl h
      · have h := h.2.2.2.2.2.2.2.2.2.2.2.2.2.2.2.2.2.2.2.2.2.2.2.2.2.2.2.2.2.2.2.2.2.2.2.2.2.2.2.2.2.2.1 hq
        refine jd_tableIn (pc := 33) 1472 dL_law_33 (by omega) (by omega) (by rw [hq]; rfl) (by decide) ?_
        refine jd_aload_n (pc := 1472) 1 dL_law_1472 rfl rfl ?_
        refine jd_aload_n (pc := 1473) 0 dL_law_1473 rfl rfl ?_
        refine jd_iload_n (pc := 1474) 3 dL_law_1474 rfl rfl ?_
        refine jd_iconst (pc := 1475) (v := 1) dL_law_1475 (by decide) ?_
        refine jd_iadd (pc := 1476) dL_law_1476 ?_
        obtain ⟨hv292, h⟩ := h
        refine jd_sld (pc := 1477) hXs hv292 dL_law_1477 ?_
        refine jd_callVi (pc := 1478) (M2 := mX11_come) (id := 0) (ci := 10) (T := TX11) (N := 9) (av := [.int (xs (Int32.toNatClampNeg (x3 + 1)))]) kX11_come sX11_come rfl hX.1 lL_190 rfl rfl (Nat.le_of_ble_eq_true rfl) dL_law_1478 h ?_
        intro v294 I293 J293 h
        refine jd_pop (pc := 1481) dL_law_1481 rfl ?_
        refine jd_aload_n (pc := 1482) 2 dL_law_1482 rfl rfl ?_
        refine jd_aload_n (pc := 1483) 0 dL_law_1483 rfl rfl ?_
        refine jd_iload_n (pc := 1484) 3 dL_law_1484 rfl rfl ?_
        refine jd_iconst (pc := 1485) (v := 1) dL_law_1485 (by decide) ?_
        refine jd_iadd (pc := 1486) dL_law_1486 ?_
        obtain ⟨hv295, h⟩ := h
        refine jd_sld (pc := 1487) hXs hv295 dL_law_1487 ?_
        refine jd_callVi (pc := 1488) (M2 := mX12_come) (id := 45) (ci := 11) (T := TX12) (N := 45) (av := [.int (xs (Int32.toNatClampNeg (x3 + 1)))]) kX12_come sX12_come rfl hM.1 lL_193 rfl rfl (Nat.le_of_ble_eq_true rfl) dL_law_1488 h ?_
        intro v297 I296 J296 h
        refine jd_pop (pc := 1491) dL_law_1491 rfl ?_
        refine jd_goto (pc := 1492) 1567 dL_law_1492 (by decide) ?_
        refine jd_iinc (pc := 1567) (v := (x3 + 6)) 3 [(3, .int (x3 + 6)), (0, .ref b), (1, .ref (gb G + 0)), (2, .ref (gb G + 45))] dL_law_1567 rfl rfl (Nat.le_of_ble_eq_true rfl) rfl ?_
        refine jd_goto (pc := 1570) 18 dL_law_1570 (by decide) ?_
        exact jd_lv (lv2 := [(0, .ref b), (1, .ref (gb G + 0)), (2, .ref (gb G + 45)), (3, .int (x3 + 6))]) [1, 2, 3, 0] rfl h
      · have h := h.2.2.2.2.2.2.2.2.2.2.2.2.2.2.2.2.2.2.2.2.2.2.2.2.2.2.2.2.2.2.2.2.2.2.2.2.2.2.2.2.2.2.2.1 hq
        refine jd_tableIn (pc := 33) 1495 dL_law_33 (by omega) (by omega) (by rw [hq]; rfl) (by decide) ?_
        refine jd_aload_n (pc := 1495) 1 dL_law_1495 rfl rfl ?_
        refine jd_aload_n (pc := 1496) 0 dL_law_1496 rfl rfl ?_
        refine jd_iload_n (pc := 1497) 3 dL_law_1497 rfl rfl ?_
        refine jd_iconst (pc := 1498) (v := 1) dL_law_1498 (by decide) ?_
        refine jd_iadd (pc := 1499) dL_law_1499 ?_
        obtain ⟨hv298, h⟩ := h
        refine jd_sld (pc := 1500) hXs hv298 dL_law_1500 ?_
        refine jd_callVi (pc := 1501) (M2 := mX11_seed) (id := 0) (ci := 10) (T := TX11) (N := 9) (av := [.int (xs (Int32.toNatClampNeg (x3 + 1)))]) kX11_seed sX11_seed rfl hX.1 lL_194 rfl rfl (Nat.le_of_ble_eq_true rfl) dL_law_1501 h ?_
        intro v300 I299 J299 h
        refine jd_pop (pc := 1504) dL_law_1504 rfl ?_
        refine jd_aload_n (pc := 1505) 2 dL_law_1505 rfl rfl ?_
        refine jd_aload_n (pc := 1506) 0 dL_law_1506 rfl rfl ?_
        refine jd_iload_n (pc := 1507) 3 dL_law_1507 rfl rfl ?_
        refine jd_iconst (pc := 1508) (v := 1) dL_law_1508 (by decide) ?_
        refine jd_iadd (pc := 1509) dL_law_1509 ?_
        obtain ⟨hv301, h⟩ := h
        refine jd_sld (pc := 1510) hXs hv301 dL_law_1510 ?_
        refine jd_callVi (pc := 1511) (M2 := mX12_seed) (id := 45) (ci := 11) (T := TX12) (N := 45) (av := [.int (xs (Int32.toNatClampNeg (x3 + 1)))]) kX12_seed sX12_seed rfl hM.1 lL_197 rfl rfl (Nat.le_of_ble_eq_true rfl) dL_law_1511 h ?_
        intro v303 I302 J302 h
        refine jd_pop (pc := 1514) dL_law_1514 rfl ?_
        refine jd_goto (pc := 1515) 1567 dL_law_1515 (by decide) ?_
        refine jd_iinc (pc := 1567) (v := (x3 + 6)) 3 [(3, .int (x3 + 6)), (0, .ref b), (1, .ref (gb G + 0)), (2, .ref (gb G + 45))] dL_law_1567 rfl rfl (Nat.le_of_ble_eq_true rfl) rfl ?_
        refine jd_goto (pc := 1570) 18 dL_law_1570 (by decide) ?_
        exact jd_lv (lv2 := [(0, .ref b), (1, .ref (gb G + 0)), (2, .ref (gb G + 45)), (3, .int (x3 + 6))]) [1, 2, 3, 0] rfl h
      · have h := h.2.2.2.2.2.2.2.2.2.2.2.2.2.2.2.2.2.2.2.2.2.2.2.2.2.2.2.2.2.2.2.2.2.2.2.2.2.2.2.2.2.2.2.2.1 hq
        refine jd_tableIn (pc := 33) 1518 dL_law_33 (by omega) (by omega) (by rw [hq]; rfl) (by decide) ?_
        refine jd_aload_n (pc := 1518) 1 dL_law_1518 rfl rfl ?_
        refine jd_callVi (pc := 1519) (M2 := mX11_image) (id := 0) (ci := 10) (T := TX11) (N := 9) (av := []) kX11_image sX11_image rfl hX.1 lL_198 rfl rfl (Nat.le_of_ble_eq_true rfl) dL_law_1519 h ?_
        intro v305 I304 J304 h
        refine jd_pop (pc := 1522) dL_law_1522 rfl ?_
        refine jd_aload_n (pc := 1523) 2 dL_law_1523 rfl rfl ?_
        obtain ⟨mc306, ms306, rc306, rs306, hb1, hb2, h⟩ := h
        refine jd_callV (pc := 1524) (M2 := mX12_image) (id := 45) (ci := 11) (T := TX12) (N := 45) (rc2 := rc306) (rs2 := rs306) (av := []) kX12_image sX12_image rfl hM.1 lL_201 rfl rfl (Nat.le_of_ble_eq_true rfl) hb1 hb2 dL_law_1524 (Cl.mono h (fun r306 Z306 I306 J306 h => ?_))
        obtain ⟨v306, rfl, h⟩ := h
        obtain ⟨hX, h⟩ := h
        obtain ⟨hM, h⟩ := h
        refine jd_pop (pc := 1527) dL_law_1527 rfl ?_
        refine jd_goto (pc := 1528) 1567 dL_law_1528 (by decide) ?_
        refine jd_iinc (pc := 1567) (v := (x3 + 6)) 3 [(3, .int (x3 + 6)), (0, .ref b), (1, .ref (gb G + 0)), (2, .ref (gb G + 45))] dL_law_1567 rfl rfl (Nat.le_of_ble_eq_true rfl) rfl ?_
        refine jd_goto (pc := 1570) 18 dL_law_1570 (by decide) ?_
        exact jd_lv (lv2 := [(0, .ref b), (1, .ref (gb G + 0)), (2, .ref (gb G + 45)), (3, .int (x3 + 6))]) [1, 2, 3, 0] rfl h
      · have h := h.2.2.2.2.2.2.2.2.2.2.2.2.2.2.2.2.2.2.2.2.2.2.2.2.2.2.2.2.2.2.2.2.2.2.2.2.2.2.2.2.2.2.2.2.2.1 hq
        refine jd_tableIn (pc := 33) 1531 dL_law_33 (by omega) (by omega) (by rw [hq]; rfl) (by decide) ?_
        refine jd_aload_n (pc := 1531) 1 dL_law_1531 rfl rfl ?_
        refine jd_callVi (pc := 1532) (M2 := mX11_back) (id := 0) (ci := 10) (T := TX11) (N := 9) (av := []) kX11_back sX11_back rfl hX.1 lL_202 rfl rfl (Nat.le_of_ble_eq_true rfl) dL_law_1532 h ?_
        intro v308 I307 J307 h
        refine jd_pop (pc := 1535) dL_law_1535 rfl ?_
        refine jd_aload_n (pc := 1536) 2 dL_law_1536 rfl rfl ?_
        refine jd_callVi (pc := 1537) (M2 := mX12_back) (id := 45) (ci := 11) (T := TX12) (N := 45) (av := []) kX12_back sX12_back rfl hM.1 lL_205 rfl rfl (Nat.le_of_ble_eq_true rfl) dL_law_1537 h ?_
        intro v310 I309 J309 h
        refine jd_pop (pc := 1540) dL_law_1540 rfl ?_
        refine jd_goto (pc := 1541) 1567 dL_law_1541 (by decide) ?_
        refine jd_iinc (pc := 1567) (v := (x3 + 6)) 3 [(3, .int (x3 + 6)), (0, .ref b), (1, .ref (gb G + 0)), (2, .ref (gb G + 45))] dL_law_1567 rfl rfl (Nat.le_of_ble_eq_true rfl) rfl ?_
        refine jd_goto (pc := 1570) 18 dL_law_1570 (by decide) ?_
        exact jd_lv (lv2 := [(0, .ref b), (1, .ref (gb G + 0)), (2, .ref (gb G + 45)), (3, .int (x3 + 6))]) [1, 2, 3, 0] rfl h
      · have h := h.2.2.2.2.2.2.2.2.2.2.2.2.2.2.2.2.2.2.2.2.2.2.2.2.2.2.2.2.2.2.2.2.2.2.2.2.2.2.2.2.2.2.2.2.2.2 hq
        refine jd_tableIn (pc := 33) 1544 dL_law_33 (by omega) (by omega) (by rw [hq]; rfl) (by decide) ?_
        refine jd_aload_n (pc := 1544) 1 dL_law_1544 rfl rfl ?_
        refine jd_aload_n (pc := 1545) 0 dL_law_1545 rfl rfl ?_
        refine jd_iload_n (pc := 1546) 3 dL_law_1546 rfl rfl ?_
        refine jd_iconst (pc := 1547) (v := 1) dL_law_1547 (by decide) ?_
        refine jd_iadd (pc := 1548) dL_law_1548 ?_
        obtain ⟨hv311, h⟩ := h
        refine jd_sld (pc := 1549) hXs hv311 dL_law_1549 ?_
        refine jd_callVi (pc := 1550) (M2 := mX11_status) (id := 0) (ci := 10) (T := TX11) (N := 9) (av := [.int (xs (Int32.toNatClampNeg (x3 + 1)))]) kX11_status sX11_status rfl hX.1 lL_206 rfl rfl (Nat.le_of_ble_eq_true rfl) dL_law_1550 h ?_
        intro v313 I312 J312 h
        refine jd_pop (pc := 1553) dL_law_1553 rfl ?_
        refine jd_aload_n (pc := 1554) 2 dL_law_1554 rfl rfl ?_
        refine jd_aload_n (pc := 1555) 0 dL_law_1555 rfl rfl ?_
        refine jd_iload_n (pc := 1556) 3 dL_law_1556 rfl rfl ?_
        refine jd_iconst (pc := 1557) (v := 1) dL_law_1557 (by decide) ?_
        refine jd_iadd (pc := 1558) dL_law_1558 ?_
        obtain ⟨hv314, h⟩ := h
        refine jd_sld (pc := 1559) hXs hv314 dL_law_1559 ?_
        refine jd_callVi (pc := 1560) (M2 := mX12_status) (id := 45) (ci := 11) (T := TX12) (N := 45) (av := [.int (xs (Int32.toNatClampNeg (x3 + 1)))]) kX12_status sX12_status rfl hM.1 lL_209 rfl rfl (Nat.le_of_ble_eq_true rfl) dL_law_1560 h ?_
        intro v316 I315 J315 h
        refine jd_pop (pc := 1563) dL_law_1563 rfl ?_
        refine jd_goto (pc := 1564) 1567 dL_law_1564 (by decide) ?_
        refine jd_iinc (pc := 1567) (v := (x3 + 6)) 3 [(3, .int (x3 + 6)), (0, .ref b), (1, .ref (gb G + 0)), (2, .ref (gb G + 45))] dL_law_1567 rfl rfl (Nat.le_of_ble_eq_true rfl) rfl ?_
        refine jd_goto (pc := 1570) 18 dL_law_1570 (by decide) ?_
        exact jd_lv (lv2 := [(0, .ref b), (1, .ref (gb G + 0)), (2, .ref (gb G + 45)), (3, .int (x3 + 6))]) [1, 2, 3, 0] rfl h
