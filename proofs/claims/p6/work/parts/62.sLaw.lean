set_option maxRecDepth 20000 in
set_option maxHeartbeats 4000000 in
/-- the law's loop goes on well -/
theorem lL_law {G : jdG} {nm : String} {b L : Nat} {xs : Nat → Int32} {sA sV : Nat → Nat} (hG : gOK G sA sV) (hXs : ∀ U, G.2.2.2.2 U → va_X b L xs U G.2.2.1) (hL : L ≤ 100000) : ∀ m : Nat, ∀ (Z : jdL) (I : jdI) (J : jdJ) (rc rs : Nat) (x3 : Int32), IV Z I → RV Z I → RS Z I → RJ I J → 0 ≤ x3.toInt → (L : Int) - x3.toInt + 6 < (m : Int) → 20 * ((L : Int) - x3.toInt) ≤ (rc : Int) → 350 * ((L : Int) - x3.toInt) ≤ (rs : Int) → x3.toInt ≤ (L : Int) → Jd G (mLaw nm) (lawF G) (2046 + 1) rc rs 18 [(0, .ref b), (1, .ref (gb G + 0)), (2, .ref (gb G + 45)), (3, .int x3)] [] Z I J := by
  intro m
  induction m with
  | zero =>
    intro Z I J rc rs x3 h hr hrs hrj h0 hm h1 h2 h3
    have hr1 := hr.1
    omega
  | succ m ih0 =>
    have ih : ∀ (Z : jdL) (I : jdI) (J : jdJ) (rc rs : Nat) (x3 : Int32), IV Z I → RV Z I → RS Z I → RJ I J → 0 ≤ x3.toInt → (L : Int) - x3.toInt + 6 < (m : Int) → 20 * ((L : Int) - x3.toInt) ≤ (rc : Int) → 350 * ((L : Int) - x3.toInt) ≤ (rs : Int) ∧ x3.toInt ≤ (L : Int) → Jd G (mLaw nm) (lawF G) (2046 + 1) rc rs 18 [(0, .ref b), (1, .ref (gb G + 0)), (2, .ref (gb G + 45)), (3, .int x3)] [] Z I J := fun Z I J rc rs x3 h hr hrs hrj a1 a2 a3 a4 => ih0 Z I J rc rs x3 h hr hrs hrj a1 a2 a3 a4.1 a4.2
    intro Z I J rc rs x3 h hr hrs hrj h0 hm h1 h2 h3
    have hr1 := hr.1
    have qL : (Nat.toInt32 L).toInt = (L : Int) := nI_toInt (by omega)
    have q6 : (6 : Int32).toInt = 6 := rfl
    have q1 : (1 : Int32).toInt = 1 := rfl
    have q2 : (2 : Int32).toInt = 2 := rfl
    have q3 : (3 : Int32).toInt = 3 := rfl
    have q4 : (4 : Int32).toInt = 4 := rfl
    have q5 : (5 : Int32).toInt = 5 := rfl
    have s6 := i32_sub (Nat.toInt32 L) 6 (by omega) (by omega)
    refine rL_law hXs h.1 h.2.2.2.1 ⟨fun _ => trivial, fun hc => ?_⟩
    have hc := mt Int32.lt_iff_toInt_lt.mpr hc
    have e6 := i32_add x3 6 (by omega) (by omega)
    have hv0 : vp_in x3 L := vp_of (by omega) (by omega)
    have e1 := i32_add x3 1 (by omega) (by omega)
    have hv1 : vp_in (x3 + 1) L := vp_of (by omega) (by omega)
    have e2 := i32_add x3 2 (by omega) (by omega)
    have hv2 : vp_in (x3 + 2) L := vp_of (by omega) (by omega)
    have e3 := i32_add x3 3 (by omega) (by omega)
    have hv3 : vp_in (x3 + 3) L := vp_of (by omega) (by omega)
    have e4 := i32_add x3 4 (by omega) (by omega)
    have hv4 : vp_in (x3 + 4) L := vp_of (by omega) (by omega)
    have e5 := i32_add x3 5 (by omega) (by omega)
    have hv5 : vp_in (x3 + 5) L := vp_of (by omega) (by omega)
    refine ⟨hv0, ?_⟩
    refine ⟨fun hc1 => ?_, fun hc2 => ?_, fun hc3 => ?_, fun hc4 => ?_, fun hc5 => ?_, fun hc6 => ?_, fun hc7 => ?_, fun hc8 => ?_, fun hc9 => ?_, fun hc10 => ?_, fun hc11 => ?_, fun hc12 => ?_, fun hc13 => ?_, fun hc14 => ?_, fun hc15 => ?_, fun hc16 => ?_, fun hc17 => ?_, fun hc18 => ?_, fun hc19 => ?_, fun hc20 => ?_, fun hc21 => ?_, fun hc22 => ?_, fun hc23 => ?_, fun hc24 => ?_, fun hc25 => ?_, fun hc26 => ?_, fun hc27 => ?_, fun hc28 => ?_, fun hc29 => ?_, fun hc30 => ?_, fun hc31 => ?_, fun hc32 => ?_, fun hc33 => ?_, fun hc34 => ?_, fun hc35 => ?_, fun hc36 => ?_, fun hc37 => ?_, fun hc38 => ?_, fun hc39 => ?_, fun hc40 => ?_, fun hc41 => ?_, fun hc42 => ?_, fun hc43 => ?_, fun hc44 => ?_, fun hc45 => ?_, fun hc46 => ?_, fun hc47 => ?_, fun hc48 => ?_⟩
    · skip
      have hr49 := hr
      have hs50 := hrs
      have hj51 := hrj
      exact ih Z I J rc rs (x3 + 6) h hr49 hs50 hj51 (by omega) (by omega) (by omega) (by omega)
    · skip
      refine ⟨hv1, ?_⟩
      refine ⟨hv2, ?_⟩
      refine ⟨hv3, ?_⟩
      refine ⟨0, 0, rc - 100, rs - 2100, by omega, by omega, ?_⟩
      refine qX11_row h (fun v54 Z5 I5 J5 hS52 hp53 nx55 hx56 hj57 => ⟨v54, rfl, hS52.1, hS52.2.2.2.1, ?_⟩)
      refine ⟨hv1, ?_⟩
      refine ⟨hv2, ?_⟩
      refine ⟨hv3, ?_⟩
      refine sfX12_row hS52.2.2.2.1 hS52.2.2.2.2.1 (fun v10 I9 J9 hW59 hF60 hp58 => ?_)
      have h61 := IV_m hS52 hW59 hF60 (by intro a k h; omega)
      have nx62 : NX Z5 I5 Z5 I9 := NX_fr hF60 (by omega) (by omega) (by omega)
      have hr63 := RV_keep hr (NX.tr nx55 nx62)
      have hs64 := RS_row h hrs hx56 hF60 hp58
      have hj65 := RJ_row hrj (fun i hi => hx56.1 _ _ (by omega) (by have := h.2.2.2.2.2.1; omega)) hj57 hF60 hp58
      exact ih Z5 I9 J9 (rc - 100) (rs - 2100) (x3 + 6) h61 hr63 hs64 hj65 (by omega) (by omega) (by omega) (by omega)
    · skip
      refine ⟨hv1, ?_⟩
      refine ⟨hv2, ?_⟩
      refine ⟨hv3, ?_⟩
      refine ⟨hv4, ?_⟩
      refine sfX11_set h.1 h.2.2.1 (fun v16 I15 J15 hW67 hF68 hp66 => ?_)
      have h69 := IV_x h hW67 hF68 (by intro a k h; omega)
      have nx70 : NX Z I Z I15 := NX_fr hF68 (by omega) (by omega) (by omega)
      have ns71 : NS Z I Z I15 := NS_fr hF68 (by intro a k h; omega)
      refine ⟨hv1, ?_⟩
      refine ⟨hv2, ?_⟩
      refine ⟨hv3, ?_⟩
      refine ⟨hv4, ?_⟩
      refine sfX12_set h69.2.2.2.1 h69.2.2.2.2.1 (fun v22 I21 J21 hW73 hF74 hp72 => ?_)
      have h75 := IV_m h69 hW73 hF74 (by intro a k h; omega)
      have nx76 : NX Z I15 Z I21 := NX_fr hF74 (by omega) (by omega) (by omega)
      have ns77 : NS Z I15 Z I21 := NS_fr hF74 (by intro a k h; omega)
      have hr78 := RV_keep hr (NX.tr nx70 nx76)
      have hs79 := RS_keep hrs (NS.tr ns71 ns77)
      have hj80 := RJ_set hrs hrj ns71 (NS.tr ns71 ns77) hp66 hp72
      exact ih Z I21 J21 rc rs (x3 + 6) h75 hr78 hs79 hj80 (by omega) (by omega) (by omega) (by omega)
    · skip
      refine ⟨hv1, ?_⟩
      refine ⟨hv2, ?_⟩
      refine ⟨hv3, ?_⟩
      refine ⟨hv4, ?_⟩
      refine ⟨hv5, ?_⟩
      refine sfX11_copy h.1 h.2.2.1 (fun v29 I28 J28 hW82 hF83 hp81 => ?_)
      have h84 := IV_x h hW82 hF83 (by intro a k h; omega)
      have nx85 : NX Z I Z I28 := NX_fr hF83 (by omega) (by omega) (by omega)
      have ns86 : NS Z I Z I28 := NS_fr hF83 (by intro a k h; omega)
      refine ⟨hv1, ?_⟩
      refine ⟨hv2, ?_⟩
      refine ⟨hv3, ?_⟩
      refine ⟨hv4, ?_⟩
      refine ⟨hv5, ?_⟩
      refine sfX12_copy h84.2.2.2.1 h84.2.2.2.2.1 (fun v36 I35 J35 hW88 hF89 hp87 => ?_)
      have h90 := IV_m h84 hW88 hF89 (by intro a k h; omega)
      have nx91 : NX Z I28 Z I35 := NX_fr hF89 (by omega) (by omega) (by omega)
      have ns92 : NS Z I28 Z I35 := NS_fr hF89 (by intro a k h; omega)
      have hr93 := RV_keep hr (NX.tr nx85 nx91)
      have hs94 := RS_keep hrs (NS.tr ns86 ns92)
      have hj95 := RJ_copy h.2.2.2.2.1 hrs hrj ns86 (NS.tr ns86 ns92) hp81 hp87
      exact ih Z I35 J35 rc rs (x3 + 6) h90 hr93 hs94 hj95 (by omega) (by omega) (by omega) (by omega)
    · skip
      refine ⟨hv1, ?_⟩
      refine ⟨hv2, ?_⟩
      refine sfX11_element h.1 h.2.2.1 (fun v40  hp96 => ?_)
      have nx97 : NX Z I Z I := NX.rf
      have ns98 : NS Z I Z I := NS.rf
      refine ⟨hv1, ?_⟩
      refine ⟨hv2, ?_⟩
      refine sfX12_element h.2.2.2.1 h.2.2.2.2.1 (fun v44  hp99 => ?_)
      have nx100 : NX Z I Z I := NX.rf
      have ns101 : NS Z I Z I := NS.rf
      have hr102 := RV_keep hr (NX.tr nx97 nx100)
      have hs103 := RS_keep hrs (NS.tr ns98 ns101)
      have hj104 := RJ_keep hrj (NS.tr ns98 ns101) NJ.rf
      exact ih Z I J rc rs (x3 + 6) h hr102 hs103 hj104 (by omega) (by omega) (by omega) (by omega)
    · skip
      refine ⟨hv1, ?_⟩
      refine sfX11_holds hG h.1 h.2.1 h.2.2.1 (fun v47  hp105 => ?_)
      have nx106 : NX Z I Z I := NX.rf
      have ns107 : NS Z I Z I := NS.rf
      refine ⟨hv1, ?_⟩
      refine sfX12_holds h.2.2.2.1 h.2.2.2.2.1 (fun v50  hp108 => ?_)
      have nx109 : NX Z I Z I := NX.rf
      have ns110 : NS Z I Z I := NS.rf
      refine ⟨fun hc111 => ?_, fun hc112 => ?_⟩
      · skip
        have hr113 := RV_keep hr (NX.tr nx106 nx109)
        have hs114 := RS_keep hrs (NS.tr ns107 ns110)
        have hj115 := RJ_keep hrj (NS.tr ns107 ns110) NJ.rf
        exact ih Z I J rc rs (x3 + 6) h hr113 hs114 hj115 (by omega) (by omega) (by omega) (by omega)
      · skip
        have hs1 : 0 ≤ (xs (Int32.toNatClampNeg (x3 + 1))).toInt ∧ (xs (Int32.toNatClampNeg (x3 + 1))).toInt < 8 → SRI Z I (Int32.toNatClampNeg (xs (Int32.toNatClampNeg (x3 + 1)))) := fun q => hrs _ (by rw [tn_eq]; omega)
        unfold SRI at hs1
        exact hc112 (Int32.toInt_inj.mp (by omega))
    · skip
      refine ⟨hv1, ?_⟩
      refine ⟨hv2, ?_⟩
      refine ⟨hv3, ?_⟩
      refine ⟨1, 1, rc - 100, rs - 2100, by omega, by omega, ?_⟩
      refine qX11_coachman h (fun v118 Z54 I54 J54 hS116 hp117 nx119 hx120 hj121 => ⟨v118, rfl, hS116.1, hS116.2.2.2.1, ?_⟩)
      refine ⟨hv1, ?_⟩
      refine ⟨hv2, ?_⟩
      refine ⟨hv3, ?_⟩
      refine sfX12_coachman hS116.2.2.2.1 hS116.2.2.2.2.1 (fun v59 I58 hW123 hF124 hp122 => ?_)
      have h125 := IV_m hS116 hW123 hF124 (by intro a k h; omega)
      have nx126 : NX Z54 I54 Z54 I58 := NX_fr hF124 (by omega) (by omega) (by omega)
      have hr127 := RV_keep hr (NX.tr nx119 nx126)
      have hs128 := RS_man h hrs hx120 hF124 hp122
      rw [hj121]
      have hj129 := RJ_man hrj (fun i hi => hx120.1 _ _ (by omega) (by have := h.2.2.2.2.2.1; omega)) hF124 hp122
      exact ih Z54 I58 J (rc - 100) (rs - 2100) (x3 + 6) h125 hr127 hs128 hj129 (by omega) (by omega) (by omega) (by omega)
    · skip
      refine ⟨hv1, ?_⟩
      refine ⟨hv2, ?_⟩
      refine sfX11_says hG h.1 h.2.1 h.2.2.1 (fun v63 I62 hW131 hF132 => ?_)
      have h133 := IV_x h hW131 hF132 (by intro a k h; omega)
      have nx134 : NX Z I Z I62 := NX_fr hF132 (by omega) (by omega) (by omega)
      have ns135 : NS Z I Z I62 := NS_fr hF132 (by intro a k h; omega)
      refine ⟨hv1, ?_⟩
      refine ⟨hv2, ?_⟩
      refine sfX12_says h133.2.2.2.1 h133.2.2.2.2.1 (fun v67 I66 hW137 hF138 => ?_)
      have h139 := IV_m h133 hW137 hF138 (by intro a k h; omega)
      have nx140 : NX Z I62 Z I66 := NX_fr hF138 (by omega) (by omega) (by omega)
      have ns141 : NS Z I62 Z I66 := NS_fr hF138 (by intro a k h; omega)
      have hr142 := RV_keep hr (NX.tr nx134 nx140)
      have hs143 := RS_keep hrs (NS.tr ns135 ns141)
      have hj144 := RJ_keep hrj (NS.tr ns135 ns141) NJ.rf
      exact ih Z I66 J rc rs (x3 + 6) h139 hr142 hs143 hj144 (by omega) (by omega) (by omega) (by omega)
    · skip
      refine ⟨hv1, ?_⟩
      refine ⟨hv2, ?_⟩
      refine sfX11_person h.1 h.2.2.1 (fun v71 I70 hW146 hF147 => ?_)
      have h148 := IV_x h hW146 hF147 (by intro a k h; omega)
      have nx149 : NX Z I Z I70 := NX_fr hF147 (by omega) (by omega) (by omega)
      have ns150 : NS Z I Z I70 := NS_fr hF147 (by intro a k h; omega)
      refine ⟨hv1, ?_⟩
      refine ⟨hv2, ?_⟩
      refine sfX12_person h148.2.2.2.1 h148.2.2.2.2.1 (fun v75 I74 hW152 hF153 => ?_)
      have h154 := IV_m h148 hW152 hF153 (by intro a k h; omega)
      have nx155 : NX Z I70 Z I74 := NX_fr hF153 (by omega) (by omega) (by omega)
      have ns156 : NS Z I70 Z I74 := NS_fr hF153 (by intro a k h; omega)
      have hr157 := RV_keep hr (NX.tr nx149 nx155)
      have hs158 := RS_keep hrs (NS.tr ns150 ns156)
      have hj159 := RJ_keep hrj (NS.tr ns150 ns156) NJ.rf
      exact ih Z I74 J rc rs (x3 + 6) h154 hr157 hs158 hj159 (by omega) (by omega) (by omega) (by omega)
    · skip
      refine ⟨hv1, ?_⟩
      refine ⟨hv2, ?_⟩
      refine ⟨hv3, ?_⟩
      refine sfX11_change h.1 h.2.2.1 (fun v80 I79 hW161 hF162 => ?_)
      have h163 := IV_x h hW161 hF162 (by intro a k h; omega)
      have nx164 : NX Z I Z I79 := NX_fr hF162 (by omega) (by omega) (by omega)
      have ns165 : NS Z I Z I79 := NS_fr hF162 (by intro a k h; omega)
      refine ⟨hv1, ?_⟩
      refine ⟨hv2, ?_⟩
      refine ⟨hv3, ?_⟩
      refine sfX12_change h163.2.2.2.1 h163.2.2.2.2.1 (fun v85 I84 hW167 hF168 => ?_)
      have h169 := IV_m h163 hW167 hF168 (by intro a k h; omega)
      have nx170 : NX Z I79 Z I84 := NX_fr hF168 (by omega) (by omega) (by omega)
      have ns171 : NS Z I79 Z I84 := NS_fr hF168 (by intro a k h; omega)
      have hr172 := RV_keep hr (NX.tr nx164 nx170)
      have hs173 := RS_keep hrs (NS.tr ns165 ns171)
      have hj174 := RJ_keep hrj (NS.tr ns165 ns171) NJ.rf
      exact ih Z I84 J rc rs (x3 + 6) h169 hr172 hs173 hj174 (by omega) (by omega) (by omega) (by omega)
    · skip
      refine ⟨hv1, ?_⟩
      refine ⟨hv2, ?_⟩
      refine ⟨hv3, ?_⟩
      refine sfX11_know h.1 h.2.2.1 (fun v90 I89 hW176 hF177 => ?_)
      have h178 := IV_x h hW176 hF177 (by intro a k h; omega)
      have nx179 : NX Z I Z I89 := NX_fr hF177 (by omega) (by omega) (by omega)
      have ns180 : NS Z I Z I89 := NS_fr hF177 (by intro a k h; omega)
      refine ⟨hv1, ?_⟩
      refine ⟨hv2, ?_⟩
      refine ⟨hv3, ?_⟩
      refine sfX12_know h178.2.2.2.1 h178.2.2.2.2.1 (fun v95 I94 hW182 hF183 => ?_)
      have h184 := IV_m h178 hW182 hF183 (by intro a k h; omega)
      have nx185 : NX Z I89 Z I94 := NX_fr hF183 (by omega) (by omega) (by omega)
      have ns186 : NS Z I89 Z I94 := NS_fr hF183 (by intro a k h; omega)
      have hr187 := RV_keep hr (NX.tr nx179 nx185)
      have hs188 := RS_keep hrs (NS.tr ns180 ns186)
      have hj189 := RJ_keep hrj (NS.tr ns180 ns186) NJ.rf
      exact ih Z I94 J rc rs (x3 + 6) h184 hr187 hs188 hj189 (by omega) (by omega) (by omega) (by omega)
    · skip
      refine ⟨hv1, ?_⟩
      refine ⟨hv2, ?_⟩
      refine sfX11_ask h.1 h.2.2.1 (fun v99 I98 hW191 hF192 => ?_)
      have h193 := IV_x h hW191 hF192 (by intro a k h; omega)
      have nx194 : NX Z I Z I98 := NX_fr hF192 (by omega) (by omega) (by omega)
      have ns195 : NS Z I Z I98 := NS_fr hF192 (by intro a k h; omega)
      refine ⟨hv1, ?_⟩
      refine ⟨hv2, ?_⟩
      refine sfX12_ask h193.2.2.2.1 h193.2.2.2.2.1 (fun v103 I102 hW197 hF198 => ?_)
      have h199 := IV_m h193 hW197 hF198 (by intro a k h; omega)
      have nx200 : NX Z I98 Z I102 := NX_fr hF198 (by omega) (by omega) (by omega)
      have ns201 : NS Z I98 Z I102 := NS_fr hF198 (by intro a k h; omega)
      have hr202 := RV_keep hr (NX.tr nx194 nx200)
      have hs203 := RS_keep hrs (NS.tr ns195 ns201)
      have hj204 := RJ_keep hrj (NS.tr ns195 ns201) NJ.rf
      exact ih Z I102 J rc rs (x3 + 6) h199 hr202 hs203 hj204 (by omega) (by omega) (by omega) (by omega)
    · skip
      refine ⟨hv1, ?_⟩
      refine sfX11_feed h.1 h.2.2.1 (fun v106 I105 hW206 hF207 hp205 => ?_)
      have h208 := IV_x h hW206 hF207 (by intro a k h; omega)
      have e08 := congrArg Int32.toInt (hF207 0 8 (by omega))
      have e458 := congrArg Int32.toInt (hF207 45 8 (by omega))
      have ns209 : NS Z I Z I105 := NS_fr hF207 (by intro a k h; omega)
      refine ⟨hv1, ?_⟩
      refine sfX12_feed h208.2.2.2.1 h208.2.2.2.2.1 (fun v109 I108 hW211 hF212 hp210 => ?_)
      have h213 := IV_m h208 hW211 hF212 (by intro a k h; omega)
      have m25 := congrArg Int32.toInt (hF212 25 1 (by omega))
      have m08 := congrArg Int32.toInt (hF212 0 8 (by omega))
      have ns214 : NS Z I105 Z I108 := NS_fr hF212 (by intro a k h; omega)
      have hr215 : RV Z I108 := ⟨by omega, by rw [show (I108 0 8).toInt = (I 0 8).toInt by omega]; exact hr.2⟩
      have hs216 := RS_keep hrs (NS.tr ns209 ns214)
      have hj217 := RJ_keep hrj (NS.tr ns209 ns214) NJ.rf
      exact ih Z I108 J rc rs (x3 + 6) h213 hr215 hs216 hj217 (by omega) (by omega) (by omega) (by omega)
    · skip
      refine sfX11_wipe h.1 h.2.2.1 (fun v111 I110 hW219 hF220 hp218 => ?_)
      have h221 := IV_x h hW219 hF220 (by intro a k h; omega)
      have e08 := congrArg Int32.toInt (hF220 0 8 (by omega))
      have e458 := congrArg Int32.toInt (hF220 45 8 (by omega))
      have ns222 : NS Z I Z I110 := NS_fr hF220 (by intro a k h; omega)
      refine sfX12_wipe h221.2.2.2.1 h221.2.2.2.2.1 (fun v113 I112 hW224 hF225 hp223 => ?_)
      have h226 := IV_m h221 hW224 hF225 (by intro a k h; omega)
      have m25 := congrArg Int32.toInt (hF225 25 1 (by omega))
      have m08 := congrArg Int32.toInt (hF225 0 8 (by omega))
      have ns227 : NS Z I110 Z I112 := NS_fr hF225 (by intro a k h; omega)
      have hr228 : RV Z I112 := ⟨by omega, by rw [show (I112 0 8).toInt = (I 0 8).toInt by omega]; exact hr.2⟩
      have hs229 := RS_keep hrs (NS.tr ns222 ns227)
      have hj230 := RJ_keep hrj (NS.tr ns222 ns227) NJ.rf
      exact ih Z I112 J rc rs (x3 + 6) h226 hr228 hs229 hj230 (by omega) (by omega) (by omega) (by omega)
    · skip
      refine sfX11_town hG h.1 h.2.2.1 (fun v115 I114 hW232 hF233 hp231 => ?_)
      have h234 := IV_x h hW232 hF233 (by intro a k h; omega)
      have e08 := congrArg Int32.toInt (hF233 0 8 (by omega))
      have e458 := congrArg Int32.toInt (hF233 45 8 (by omega))
      have ns235 : NS Z I Z I114 := NS_fr hF233 (by intro a k h; omega)
      have hfc := fC_le Z 45
      refine ⟨(fC Z 45), (fS Z 45), rc - 100, rs - 2100, by omega, by omega, ?_⟩
      refine qX12_town hG h234.2.2.2 (fun v238 Z116 I116 J116 hS236 hp237 => ⟨v238, rfl, (IV_s h234 hS236).1, hS236.1.1, ?_⟩)
      have h240 := IV_s h234 hS236
      have hbz := h234.2.2.2.2.2.1
      have m25 := congrArg Int32.toInt (hS236.2.2.2.2.1 25 1 (by omega))
      have m08 := congrArg Int32.toInt (hS236.2.2.2.2.1 0 8 (by omega))
      have eZ := hS236.2.2.2.1 45 20 (by omega) (by omega)
      have ns241 := NS_st h234 hS236
      have nj242 := NJ_st h234 hS236
      have hr243 : RV Z116 I116 := ⟨by omega, by rw [show (I116 0 8).toInt = (I 0 8).toInt by omega, eZ]; exact hr.2⟩
      have hs244 := RS_keep hrs (NS.tr ns235 ns241)
      have hj245 := RJ_keep hrj (NS.tr ns235 ns241) nj242
      exact ih Z116 I116 J116 (rc - 100) (rs - 2100) (x3 + 6) h240 hr243 hs244 hj245 (by omega) (by omega) (by omega) (by omega)
    · skip
      refine ⟨hv1, ?_⟩
      refine ⟨hv2, ?_⟩
      refine sfX11_personOf h.1 h.2.2.1 (fun v120 I119 hW247 hF248 => ?_)
      have h249 := IV_x h hW247 hF248 (by intro a k h; omega)
      have nx250 : NX Z I Z I119 := NX_fr hF248 (by omega) (by omega) (by omega)
      have ns251 : NS Z I Z I119 := NS_fr hF248 (by intro a k h; omega)
      refine ⟨hv1, ?_⟩
      refine ⟨hv2, ?_⟩
      refine sfX12_personOf h249.2.2.2.1 h249.2.2.2.2.1 (fun v124 I123 hW253 hF254 => ?_)
      have h255 := IV_m h249 hW253 hF254 (by intro a k h; omega)
      have nx256 : NX Z I119 Z I123 := NX_fr hF254 (by omega) (by omega) (by omega)
      have ns257 : NS Z I119 Z I123 := NS_fr hF254 (by intro a k h; omega)
      have hr258 := RV_keep hr (NX.tr nx250 nx256)
      have hs259 := RS_keep hrs (NS.tr ns251 ns257)
      have hj260 := RJ_keep hrj (NS.tr ns251 ns257) NJ.rf
      exact ih Z I123 J rc rs (x3 + 6) h255 hr258 hs259 hj260 (by omega) (by omega) (by omega) (by omega)
    · skip
      refine ⟨hv1, ?_⟩
      refine ⟨hv2, ?_⟩
      refine sfX11_knownOf h.1 h.2.2.1 (fun v128 I127 hW262 hF263 => ?_)
      have h264 := IV_x h hW262 hF263 (by intro a k h; omega)
      have nx265 : NX Z I Z I127 := NX_fr hF263 (by omega) (by omega) (by omega)
      have ns266 : NS Z I Z I127 := NS_fr hF263 (by intro a k h; omega)
      refine ⟨hv1, ?_⟩
      refine ⟨hv2, ?_⟩
      refine sfX12_knownOf h264.2.2.2.1 h264.2.2.2.2.1 (fun v132 I131 hW268 hF269 => ?_)
      have h270 := IV_m h264 hW268 hF269 (by intro a k h; omega)
      have nx271 : NX Z I127 Z I131 := NX_fr hF269 (by omega) (by omega) (by omega)
      have ns272 : NS Z I127 Z I131 := NS_fr hF269 (by intro a k h; omega)
      have hr273 := RV_keep hr (NX.tr nx265 nx271)
      have hs274 := RS_keep hrs (NS.tr ns266 ns272)
      have hj275 := RJ_keep hrj (NS.tr ns266 ns272) NJ.rf
      exact ih Z I131 J rc rs (x3 + 6) h270 hr273 hs274 hj275 (by omega) (by omega) (by omega) (by omega)
    · skip
      refine ⟨hv1, ?_⟩
      refine sfX11_isGroup h.1 h.2.2.1 (fun v135 I134 hW277 hF278 => ?_)
      have h279 := IV_x h hW277 hF278 (by intro a k h; omega)
      have nx280 : NX Z I Z I134 := NX_fr hF278 (by omega) (by omega) (by omega)
      have ns281 : NS Z I Z I134 := NS_fr hF278 (by intro a k h; omega)
      refine ⟨hv1, ?_⟩
      refine sfX12_isGroup h279.2.2.2.1 h279.2.2.2.2.1 (fun v138 I137 hW283 hF284 => ?_)
      have h285 := IV_m h279 hW283 hF284 (by intro a k h; omega)
      have nx286 : NX Z I134 Z I137 := NX_fr hF284 (by omega) (by omega) (by omega)
      have ns287 : NS Z I134 Z I137 := NS_fr hF284 (by intro a k h; omega)
      have hr288 := RV_keep hr (NX.tr nx280 nx286)
      have hs289 := RS_keep hrs (NS.tr ns281 ns287)
      have hj290 := RJ_keep hrj (NS.tr ns281 ns287) NJ.rf
      exact ih Z I137 J rc rs (x3 + 6) h285 hr288 hs289 hj290 (by omega) (by omega) (by omega) (by omega)
    · skip
      refine ⟨hv1, ?_⟩
      refine sfX11_groups h.1 h.2.2.1 (fun v141 I140 hW292 hF293 => ?_)
      have h294 := IV_x h hW292 hF293 (by intro a k h; omega)
      have nx295 : NX Z I Z I140 := NX_fr hF293 (by omega) (by omega) (by omega)
      have ns296 : NS Z I Z I140 := NS_fr hF293 (by intro a k h; omega)
      refine ⟨hv1, ?_⟩
      refine sfX12_groups h294.2.2.2.1 h294.2.2.2.2.1 (fun v144 I143 hW298 hF299 => ?_)
      have h300 := IV_m h294 hW298 hF299 (by intro a k h; omega)
      have nx301 : NX Z I140 Z I143 := NX_fr hF299 (by omega) (by omega) (by omega)
      have ns302 : NS Z I140 Z I143 := NS_fr hF299 (by intro a k h; omega)
      have hr303 := RV_keep hr (NX.tr nx295 nx301)
      have hs304 := RS_keep hrs (NS.tr ns296 ns302)
      have hj305 := RJ_keep hrj (NS.tr ns296 ns302) NJ.rf
      exact ih Z I143 J rc rs (x3 + 6) h300 hr303 hs304 hj305 (by omega) (by omega) (by omega) (by omega)
    · skip
      refine ⟨hv1, ?_⟩
      refine sfX11_firstOf h.1 h.2.2.1 (fun v147 I146 hW307 hF308 => ?_)
      have h309 := IV_x h hW307 hF308 (by intro a k h; omega)
      have nx310 : NX Z I Z I146 := NX_fr hF308 (by omega) (by omega) (by omega)
      have ns311 : NS Z I Z I146 := NS_fr hF308 (by intro a k h; omega)
      refine ⟨hv1, ?_⟩
      refine sfX12_firstOf h309.2.2.2.1 h309.2.2.2.2.1 (fun v150 I149 hW313 hF314 => ?_)
      have h315 := IV_m h309 hW313 hF314 (by intro a k h; omega)
      have nx316 : NX Z I146 Z I149 := NX_fr hF314 (by omega) (by omega) (by omega)
      have ns317 : NS Z I146 Z I149 := NS_fr hF314 (by intro a k h; omega)
      have hr318 := RV_keep hr (NX.tr nx310 nx316)
      have hs319 := RS_keep hrs (NS.tr ns311 ns317)
      have hj320 := RJ_keep hrj (NS.tr ns311 ns317) NJ.rf
      exact ih Z I149 J rc rs (x3 + 6) h315 hr318 hs319 hj320 (by omega) (by omega) (by omega) (by omega)
    · skip
      refine ⟨hv1, ?_⟩
      refine sfX11_most h.1 h.2.2.1 (fun v153 I152 hW322 hF323 => ?_)
      have h324 := IV_x h hW322 hF323 (by intro a k h; omega)
      have nx325 : NX Z I Z I152 := NX_fr hF323 (by omega) (by omega) (by omega)
      have ns326 : NS Z I Z I152 := NS_fr hF323 (by intro a k h; omega)
      refine ⟨hv1, ?_⟩
      refine sfX12_most h324.2.2.2.1 h324.2.2.2.2.1 (fun v156 I155 hW328 hF329 => ?_)
      have h330 := IV_m h324 hW328 hF329 (by intro a k h; omega)
      have nx331 : NX Z I152 Z I155 := NX_fr hF329 (by omega) (by omega) (by omega)
      have ns332 : NS Z I152 Z I155 := NS_fr hF329 (by intro a k h; omega)
      have hr333 := RV_keep hr (NX.tr nx325 nx331)
      have hs334 := RS_keep hrs (NS.tr ns326 ns332)
      have hj335 := RJ_keep hrj (NS.tr ns326 ns332) NJ.rf
      exact ih Z I155 J rc rs (x3 + 6) h330 hr333 hs334 hj335 (by omega) (by omega) (by omega) (by omega)
    · skip
      refine ⟨hv1, ?_⟩
      refine ⟨hv2, ?_⟩
      refine sfX11_mostOf h.1 h.2.2.1 (fun v160 I159 hW337 hF338 => ?_)
      have h339 := IV_x h hW337 hF338 (by intro a k h; omega)
      have nx340 : NX Z I Z I159 := NX_fr hF338 (by omega) (by omega) (by omega)
      have ns341 : NS Z I Z I159 := NS_fr hF338 (by intro a k h; omega)
      refine ⟨hv1, ?_⟩
      refine ⟨hv2, ?_⟩
      refine sfX12_mostOf h339.2.2.2.1 h339.2.2.2.2.1 (fun v164 I163 hW343 hF344 => ?_)
      have h345 := IV_m h339 hW343 hF344 (by intro a k h; omega)
      have nx346 : NX Z I159 Z I163 := NX_fr hF344 (by omega) (by omega) (by omega)
      have ns347 : NS Z I159 Z I163 := NS_fr hF344 (by intro a k h; omega)
      have hr348 := RV_keep hr (NX.tr nx340 nx346)
      have hs349 := RS_keep hrs (NS.tr ns341 ns347)
      have hj350 := RJ_keep hrj (NS.tr ns341 ns347) NJ.rf
      exact ih Z I163 J rc rs (x3 + 6) h345 hr348 hs349 hj350 (by omega) (by omega) (by omega) (by omega)
    · skip
      refine ⟨hv1, ?_⟩
      refine ⟨hv2, ?_⟩
      refine ⟨hv3, ?_⟩
      refine sfX11_sends h.1 h.2.1 h.2.2.1 (fun v169 I168 hW352 hF353 => ?_)
      have h354 := IV_x h hW352 hF353 (by intro a k h; omega)
      have nx355 : NX Z I Z I168 := NX_fr hF353 (by omega) (by omega) (by omega)
      have ns356 : NS Z I Z I168 := NS_fr hF353 (by intro a k h; omega)
      refine ⟨hv1, ?_⟩
      refine ⟨hv2, ?_⟩
      refine ⟨hv3, ?_⟩
      refine sfX12_sends h354.2.2.2.1 h354.2.2.2.2.1 (fun v174 I173 hW358 hF359 => ?_)
      have h360 := IV_m h354 hW358 hF359 (by intro a k h; omega)
      have nx361 : NX Z I168 Z I173 := NX_fr hF359 (by omega) (by omega) (by omega)
      have ns362 : NS Z I168 Z I173 := NS_fr hF359 (by intro a k h; omega)
      have hr363 := RV_keep hr (NX.tr nx355 nx361)
      have hs364 := RS_keep hrs (NS.tr ns356 ns362)
      have hj365 := RJ_keep hrj (NS.tr ns356 ns362) NJ.rf
      exact ih Z I173 J rc rs (x3 + 6) h360 hr363 hs364 hj365 (by omega) (by omega) (by omega) (by omega)
    · skip
      refine ⟨hv1, ?_⟩
      refine sfX11_run h.1 h.2.1 h.2.2.1 (fun v177 I176 hW367 hF368 => ?_)
      have h369 := IV_x h hW367 hF368 (by intro a k h; omega)
      have nx370 : NX Z I Z I176 := NX_fr hF368 (by omega) (by omega) (by omega)
      have ns371 : NS Z I Z I176 := NS_fr hF368 (by intro a k h; omega)
      refine ⟨hv1, ?_⟩
      refine sfX12_run h369.2.2.2.1 h369.2.2.2.2.1 (fun v180 I179 hW373 hF374 => ?_)
      have h375 := IV_m h369 hW373 hF374 (by intro a k h; omega)
      have nx376 : NX Z I176 Z I179 := NX_fr hF374 (by omega) (by omega) (by omega)
      have ns377 : NS Z I176 Z I179 := NS_fr hF374 (by intro a k h; omega)
      have hr378 := RV_keep hr (NX.tr nx370 nx376)
      have hs379 := RS_keep hrs (NS.tr ns371 ns377)
      have hj380 := RJ_keep hrj (NS.tr ns371 ns377) NJ.rf
      exact ih Z I179 J rc rs (x3 + 6) h375 hr378 hs379 hj380 (by omega) (by omega) (by omega) (by omega)
    · skip
      refine ⟨hv1, ?_⟩
      refine ⟨hv2, ?_⟩
      refine sfX11_coach h.1 h.2.1 h.2.2.1 (fun v184 I183 hW382 hF383 => ?_)
      have h384 := IV_x h hW382 hF383 (by intro a k h; omega)
      have nx385 : NX Z I Z I183 := NX_fr hF383 (by omega) (by omega) (by omega)
      have ns386 : NS Z I Z I183 := NS_fr hF383 (by intro a k h; omega)
      refine ⟨hv1, ?_⟩
      refine ⟨hv2, ?_⟩
      refine sfX12_coach h384.2.2.2.1 h384.2.2.2.2.1 (fun v188 I187 hW388 hF389 => ?_)
      have h390 := IV_m h384 hW388 hF389 (by intro a k h; omega)
      have nx391 : NX Z I183 Z I187 := NX_fr hF389 (by omega) (by omega) (by omega)
      have ns392 : NS Z I183 Z I187 := NS_fr hF389 (by intro a k h; omega)
      have hr393 := RV_keep hr (NX.tr nx385 nx391)
      have hs394 := RS_keep hrs (NS.tr ns386 ns392)
      have hj395 := RJ_keep hrj (NS.tr ns386 ns392) NJ.rf
      exact ih Z I187 J rc rs (x3 + 6) h390 hr393 hs394 hj395 (by omega) (by omega) (by omega) (by omega)
    · skip
      refine ⟨hv1, ?_⟩
      refine sfX11_left h.1 h.2.1 h.2.2.1 (fun v191 I190 hW397 hF398 => ?_)
      have h399 := IV_x h hW397 hF398 (by intro a k h; omega)
      have nx400 : NX Z I Z I190 := NX_fr hF398 (by omega) (by omega) (by omega)
      have ns401 : NS Z I Z I190 := NS_fr hF398 (by intro a k h; omega)
      refine ⟨hv1, ?_⟩
      refine sfX12_left h399.2.2.2.1 h399.2.2.2.2.1 (fun v194 I193 hW403 hF404 => ?_)
      have h405 := IV_m h399 hW403 hF404 (by intro a k h; omega)
      have nx406 : NX Z I190 Z I193 := NX_fr hF404 (by omega) (by omega) (by omega)
      have ns407 : NS Z I190 Z I193 := NS_fr hF404 (by intro a k h; omega)
      have hr408 := RV_keep hr (NX.tr nx400 nx406)
      have hs409 := RS_keep hrs (NS.tr ns401 ns407)
      have hj410 := RJ_keep hrj (NS.tr ns401 ns407) NJ.rf
      exact ih Z I193 J rc rs (x3 + 6) h405 hr408 hs409 hj410 (by omega) (by omega) (by omega) (by omega)
    · skip
      refine ⟨hv1, ?_⟩
      refine ⟨hv2, ?_⟩
      refine sfX11_waits h.1 h.2.1 h.2.2.1 (fun v198 I197 hW412 hF413 => ?_)
      have h414 := IV_x h hW412 hF413 (by intro a k h; omega)
      have nx415 : NX Z I Z I197 := NX_fr hF413 (by omega) (by omega) (by omega)
      have ns416 : NS Z I Z I197 := NS_fr hF413 (by intro a k h; omega)
      refine ⟨hv1, ?_⟩
      refine ⟨hv2, ?_⟩
      refine sfX12_waits h414.2.2.2.1 h414.2.2.2.2.1 (fun v202 I201 hW418 hF419 => ?_)
      have h420 := IV_m h414 hW418 hF419 (by intro a k h; omega)
      have nx421 : NX Z I197 Z I201 := NX_fr hF419 (by omega) (by omega) (by omega)
      have ns422 : NS Z I197 Z I201 := NS_fr hF419 (by intro a k h; omega)
      have hr423 := RV_keep hr (NX.tr nx415 nx421)
      have hs424 := RS_keep hrs (NS.tr ns416 ns422)
      have hj425 := RJ_keep hrj (NS.tr ns416 ns422) NJ.rf
      exact ih Z I201 J rc rs (x3 + 6) h420 hr423 hs424 hj425 (by omega) (by omega) (by omega) (by omega)
    · skip
      refine ⟨hv1, ?_⟩
      refine sfX11_least h.1 h.2.2.1 (fun v205 I204 hW427 hF428 => ?_)
      have h429 := IV_x h hW427 hF428 (by intro a k h; omega)
      have nx430 : NX Z I Z I204 := NX_fr hF428 (by omega) (by omega) (by omega)
      have ns431 : NS Z I Z I204 := NS_fr hF428 (by intro a k h; omega)
      refine ⟨hv1, ?_⟩
      refine sfX12_least h429.2.2.2.1 h429.2.2.2.2.1 (fun v208 I207 hW433 hF434 => ?_)
      have h435 := IV_m h429 hW433 hF434 (by intro a k h; omega)
      have nx436 : NX Z I204 Z I207 := NX_fr hF434 (by omega) (by omega) (by omega)
      have ns437 : NS Z I204 Z I207 := NS_fr hF434 (by intro a k h; omega)
      have hr438 := RV_keep hr (NX.tr nx430 nx436)
      have hs439 := RS_keep hrs (NS.tr ns431 ns437)
      have hj440 := RJ_keep hrj (NS.tr ns431 ns437) NJ.rf
      exact ih Z I207 J rc rs (x3 + 6) h435 hr438 hs439 hj440 (by omega) (by omega) (by omega) (by omega)
    · skip
      refine sfX11_head h.1 h.2.1 h.2.2.1 (fun v210 I209 hW442 hF443 => ?_)
      have h444 := IV_x h hW442 hF443 (by intro a k h; omega)
      have nx445 : NX Z I Z I209 := NX_fr hF443 (by omega) (by omega) (by omega)
      have ns446 : NS Z I Z I209 := NS_fr hF443 (by intro a k h; omega)
      refine sfX12_head h444.2.2.2.1 h444.2.2.2.2.1 (fun v212 I211 hW448 hF449 => ?_)
      have h450 := IV_m h444 hW448 hF449 (by intro a k h; omega)
      have nx451 : NX Z I209 Z I211 := NX_fr hF449 (by omega) (by omega) (by omega)
      have ns452 : NS Z I209 Z I211 := NS_fr hF449 (by intro a k h; omega)
      have hr453 := RV_keep hr (NX.tr nx445 nx451)
      have hs454 := RS_keep hrs (NS.tr ns446 ns452)
      have hj455 := RJ_keep hrj (NS.tr ns446 ns452) NJ.rf
      exact ih Z I211 J rc rs (x3 + 6) h450 hr453 hs454 hj455 (by omega) (by omega) (by omega) (by omega)
    · skip
      refine ⟨hv1, ?_⟩
      refine sfX11_days h.1 h.2.1 h.2.2.1 (fun v215 I214 hW457 hF458 => ?_)
      have h459 := IV_x h hW457 hF458 (by intro a k h; omega)
      have nx460 : NX Z I Z I214 := NX_fr hF458 (by omega) (by omega) (by omega)
      have ns461 : NS Z I Z I214 := NS_fr hF458 (by intro a k h; omega)
      refine ⟨hv1, ?_⟩
      have hfc := fC_le Z 45
      refine ⟨(fC Z 45), (fS Z 45), rc - 100, rs - 2100, by omega, by omega, ?_⟩
      refine qX12_days hG h459.2.2.2 (fun v464 Z217 I217 J217 hS462 => ⟨v464, rfl, (IV_s h459 hS462).1, hS462.1.1, ?_⟩)
      have h466 := IV_s h459 hS462
      have nx467 := NX_st h459 hS462
      have ns468 := NS_st h459 hS462
      have nj469 := NJ_st h459 hS462
      have hr470 := RV_keep hr (NX.tr nx460 nx467)
      have hs471 := RS_keep hrs (NS.tr ns461 ns468)
      have hj472 := RJ_keep hrj (NS.tr ns461 ns468) nj469
      exact ih Z217 I217 J217 (rc - 100) (rs - 2100) (x3 + 6) h466 hr470 hs471 hj472 (by omega) (by omega) (by omega) (by omega)
    · skip
      refine ⟨hv1, ?_⟩
      refine sfX11_ever h.1 h.2.2.1 (fun v220 I219 hW474 hF475 => ?_)
      have h476 := IV_x h hW474 hF475 (by intro a k h; omega)
      have nx477 : NX Z I Z I219 := NX_fr hF475 (by omega) (by omega) (by omega)
      have ns478 : NS Z I Z I219 := NS_fr hF475 (by intro a k h; omega)
      refine ⟨hv1, ?_⟩
      refine ⟨1, 40, rc - 100, rs - 2100, by omega, by omega, ?_⟩
      refine qX12_ever h476.2.2.2 (fun v481 Z222 I222 J222 hS479 => ⟨v481, rfl, (IV_s h476 hS479).1, hS479.1.1, ?_⟩)
      have h483 := IV_s h476 hS479
      have nx484 := NX_st h476 hS479
      have ns485 := NS_st h476 hS479
      have nj486 := NJ_st h476 hS479
      have hr487 := RV_keep hr (NX.tr nx477 nx484)
      have hs488 := RS_keep hrs (NS.tr ns478 ns485)
      have hj489 := RJ_keep hrj (NS.tr ns478 ns485) nj486
      exact ih Z222 I222 J222 (rc - 100) (rs - 2100) (x3 + 6) h483 hr487 hs488 hj489 (by omega) (by omega) (by omega) (by omega)
    · skip
      refine sfX11_hire h.1 h.2.2.1 (fun v224 I223 hW491 hF492 => ?_)
      have h493 := IV_x h hW491 hF492 (by intro a k h; omega)
      have nx494 : NX Z I Z I223 := NX_fr hF492 (by omega) (by omega) (by omega)
      have ns495 : NS Z I Z I223 := NS_fr hF492 (by intro a k h; omega)
      have hfc := fC_le Z 45
      refine ⟨(fC Z 45), (fS Z 45), rc - 100, rs - 2100, by omega, by omega, ?_⟩
      refine qX12_hire hG h493.2.2.2 (fun v498 Z225 I225 J225 hS496 => ⟨v498, rfl, (IV_s h493 hS496).1, hS496.1.1, ?_⟩)
      have h500 := IV_s h493 hS496
      have nx501 := NX_st h493 hS496
      have ns502 := NS_st h493 hS496
      have nj503 := NJ_st h493 hS496
      have hr504 := RV_keep hr (NX.tr nx494 nx501)
      have hs505 := RS_keep hrs (NS.tr ns495 ns502)
      have hj506 := RJ_keep hrj (NS.tr ns495 ns502) nj503
      exact ih Z225 I225 J225 (rc - 100) (rs - 2100) (x3 + 6) h500 hr504 hs505 hj506 (by omega) (by omega) (by omega) (by omega)
    · skip
      refine ⟨hv1, ?_⟩
      refine sfX11_feast h.1 h.2.2.1 (fun v228 I227 hW508 hF509 => ?_)
      have h510 := IV_x h hW508 hF509 (by intro a k h; omega)
      have nx511 : NX Z I Z I227 := NX_fr hF509 (by omega) (by omega) (by omega)
      have ns512 : NS Z I Z I227 := NS_fr hF509 (by intro a k h; omega)
      refine ⟨hv1, ?_⟩
      refine ⟨40, 2026, rc - 100, rs - 2100, by omega, by omega, ?_⟩
      refine qX12_feast hG h510.2.2.2 (fun v515 Z230 I230 J230 hS513 => ⟨v515, rfl, (IV_s h510 hS513).1, hS513.1.1, ?_⟩)
      have h517 := IV_s h510 hS513
      have nx518 := NX_st h510 hS513
      have ns519 := NS_st h510 hS513
      have nj520 := NJ_st h510 hS513
      have hr521 := RV_keep hr (NX.tr nx511 nx518)
      have hs522 := RS_keep hrs (NS.tr ns512 ns519)
      have hj523 := RJ_keep hrj (NS.tr ns512 ns519) nj520
      exact ih Z230 I230 J230 (rc - 100) (rs - 2100) (x3 + 6) h517 hr521 hs522 hj523 (by omega) (by omega) (by omega) (by omega)
    · skip
      refine ⟨hv1, ?_⟩
      refine ⟨hv2, ?_⟩
      refine sfX11_closes h.1 h.2.2.1 (fun v234 I233 hW525 hF526 => ?_)
      have h527 := IV_x h hW525 hF526 (by intro a k h; omega)
      have nx528 : NX Z I Z I233 := NX_fr hF526 (by omega) (by omega) (by omega)
      have ns529 : NS Z I Z I233 := NS_fr hF526 (by intro a k h; omega)
      refine ⟨hv1, ?_⟩
      refine ⟨hv2, ?_⟩
      have hfc := fC_le Z 45
      refine ⟨(fC Z 45), (fS Z 45), rc - 100, rs - 2100, by omega, by omega, ?_⟩
      refine qX12_closes hG h527.2.2.2 (fun v532 Z237 I237 J237 hS530 => ⟨v532, rfl, (IV_s h527 hS530).1, hS530.1.1, ?_⟩)
      have h534 := IV_s h527 hS530
      have nx535 := NX_st h527 hS530
      have ns536 := NS_st h527 hS530
      have nj537 := NJ_st h527 hS530
      have hr538 := RV_keep hr (NX.tr nx528 nx535)
      have hs539 := RS_keep hrs (NS.tr ns529 ns536)
      have hj540 := RJ_keep hrj (NS.tr ns529 ns536) nj537
      exact ih Z237 I237 J237 (rc - 100) (rs - 2100) (x3 + 6) h534 hr538 hs539 hj540 (by omega) (by omega) (by omega) (by omega)
    · skip
      refine sfX11_worst h.1 h.2.2.1 (fun v239 I238 hW542 hF543 => ?_)
      have h544 := IV_x h hW542 hF543 (by intro a k h; omega)
      have nx545 : NX Z I Z I238 := NX_fr hF543 (by omega) (by omega) (by omega)
      have ns546 : NS Z I Z I238 := NS_fr hF543 (by intro a k h; omega)
      have hfc := fC_le Z 45
      refine ⟨(fC Z 45), (fS Z 45), rc - 100, rs - 2100, by omega, by omega, ?_⟩
      refine qX12_worst hG h544.2.2.2 (fun v549 Z240 I240 J240 hS547 => ⟨v549, rfl, (IV_s h544 hS547).1, hS547.1.1, ?_⟩)
      have h551 := IV_s h544 hS547
      have nx552 := NX_st h544 hS547
      have ns553 := NS_st h544 hS547
      have nj554 := NJ_st h544 hS547
      have hr555 := RV_keep hr (NX.tr nx545 nx552)
      have hs556 := RS_keep hrs (NS.tr ns546 ns553)
      have hj557 := RJ_keep hrj (NS.tr ns546 ns553) nj554
      exact ih Z240 I240 J240 (rc - 100) (rs - 2100) (x3 + 6) h551 hr555 hs556 hj557 (by omega) (by omega) (by omega) (by omega)
    · skip
      refine ⟨hv1, ?_⟩
      refine sfX11_fits h.1 h.2.2.1 (fun v243 I242 hW559 hF560 => ?_)
      have h561 := IV_x h hW559 hF560 (by intro a k h; omega)
      have nx562 : NX Z I Z I242 := NX_fr hF560 (by omega) (by omega) (by omega)
      have ns563 : NS Z I Z I242 := NS_fr hF560 (by intro a k h; omega)
      refine ⟨hv1, ?_⟩
      have hfc := fC_le Z 45
      refine ⟨(fC Z 45), (fS Z 45), rc - 100, rs - 2100, by omega, by omega, ?_⟩
      refine qX12_fits hG h561.2.2.2 (fun v566 Z245 I245 J245 hS564 => ⟨v566, rfl, (IV_s h561 hS564).1, hS564.1.1, ?_⟩)
      have h568 := IV_s h561 hS564
      have nx569 := NX_st h561 hS564
      have ns570 := NS_st h561 hS564
      have nj571 := NJ_st h561 hS564
      have hr572 := RV_keep hr (NX.tr nx562 nx569)
      have hs573 := RS_keep hrs (NS.tr ns563 ns570)
      have hj574 := RJ_keep hrj (NS.tr ns563 ns570) nj571
      exact ih Z245 I245 J245 (rc - 100) (rs - 2100) (x3 + 6) h568 hr572 hs573 hj574 (by omega) (by omega) (by omega) (by omega)
    · skip
      refine ⟨hv1, ?_⟩
      refine sfX11_sure h.1 h.2.2.1 (fun v248 I247 hW576 hF577 => ?_)
      have h578 := IV_x h hW576 hF577 (by intro a k h; omega)
      have nx579 : NX Z I Z I247 := NX_fr hF577 (by omega) (by omega) (by omega)
      have ns580 : NS Z I Z I247 := NS_fr hF577 (by intro a k h; omega)
      refine ⟨hv1, ?_⟩
      have hfc := fC_le Z 45
      refine ⟨(fC Z 45), (fS Z 45), rc - 100, rs - 2100, by omega, by omega, ?_⟩
      refine qX12_sure hG h578.2.2.2 (fun v583 Z250 I250 J250 hS581 => ⟨v583, rfl, (IV_s h578 hS581).1, hS581.1.1, ?_⟩)
      have h585 := IV_s h578 hS581
      have nx586 := NX_st h578 hS581
      have ns587 := NS_st h578 hS581
      have nj588 := NJ_st h578 hS581
      have hr589 := RV_keep hr (NX.tr nx579 nx586)
      have hs590 := RS_keep hrs (NS.tr ns580 ns587)
      have hj591 := RJ_keep hrj (NS.tr ns580 ns587) nj588
      exact ih Z250 I250 J250 (rc - 100) (rs - 2100) (x3 + 6) h585 hr589 hs590 hj591 (by omega) (by omega) (by omega) (by omega)
    · skip
      refine ⟨hv1, ?_⟩
      refine ⟨hv2, ?_⟩
      refine sfX11_judge h.1 h.2.2.1 (fun v254 I253 hW593 hF594 => ?_)
      have h595 := IV_x h hW593 hF594 (by intro a k h; omega)
      have nx596 : NX Z I Z I253 := NX_fr hF594 (by omega) (by omega) (by omega)
      have ns597 : NS Z I Z I253 := NS_fr hF594 (by intro a k h; omega)
      refine ⟨hv1, ?_⟩
      refine ⟨hv2, ?_⟩
      refine sfX12_judge h595.2.2.2.1 h595.2.2.2.2.1 (fun v258 I257 hW599 hF600 => ?_)
      have h601 := IV_m h595 hW599 hF600 (by intro a k h; omega)
      have nx602 : NX Z I253 Z I257 := NX_fr hF600 (by omega) (by omega) (by omega)
      have ns603 : NS Z I253 Z I257 := NS_fr hF600 (by intro a k h; omega)
      have hr604 := RV_keep hr (NX.tr nx596 nx602)
      have hs605 := RS_keep hrs (NS.tr ns597 ns603)
      have hj606 := RJ_keep hrj (NS.tr ns597 ns603) NJ.rf
      exact ih Z I257 J rc rs (x3 + 6) h601 hr604 hs605 hj606 (by omega) (by omega) (by omega) (by omega)
    · skip
      refine ⟨hv1, ?_⟩
      refine ⟨hv2, ?_⟩
      refine ⟨hv3, ?_⟩
      refine sfX11_behind h.1 h.2.2.1 (fun v263 I262 hW608 hF609 => ?_)
      have h610 := IV_x h hW608 hF609 (by intro a k h; omega)
      have nx611 : NX Z I Z I262 := NX_fr hF609 (by omega) (by omega) (by omega)
      have ns612 : NS Z I Z I262 := NS_fr hF609 (by intro a k h; omega)
      refine ⟨hv1, ?_⟩
      refine ⟨hv2, ?_⟩
      refine ⟨hv3, ?_⟩
      have hfc := fC_le Z 45
      refine ⟨(fC Z 45), (fS Z 45), rc - 100, rs - 2100, by omega, by omega, ?_⟩
      refine qX12_behind hG h610.2.2.2 (fun v615 Z267 I267 J267 hS613 => ⟨v615, rfl, (IV_s h610 hS613).1, hS613.1.1, ?_⟩)
      have h617 := IV_s h610 hS613
      have nx618 := NX_st h610 hS613
      have ns619 := NS_st h610 hS613
      have nj620 := NJ_st h610 hS613
      have hr621 := RV_keep hr (NX.tr nx611 nx618)
      have hs622 := RS_keep hrs (NS.tr ns612 ns619)
      have hj623 := RJ_keep hrj (NS.tr ns612 ns619) nj620
      exact ih Z267 I267 J267 (rc - 100) (rs - 2100) (x3 + 6) h617 hr621 hs622 hj623 (by omega) (by omega) (by omega) (by omega)
    · skip
      refine ⟨hv1, ?_⟩
      refine ⟨hv2, ?_⟩
      refine sfX11_rides h.1 h.2.2.1 (fun v271 I270 hW625 hF626 => ?_)
      have h627 := IV_x h hW625 hF626 (by intro a k h; omega)
      have nx628 : NX Z I Z I270 := NX_fr hF626 (by omega) (by omega) (by omega)
      have ns629 : NS Z I Z I270 := NS_fr hF626 (by intro a k h; omega)
      refine ⟨hv1, ?_⟩
      refine ⟨hv2, ?_⟩
      refine sfX12_rides h627.2.2.2.1 h627.2.2.2.2.1 (fun v275 I274 hW631 hF632 => ?_)
      have h633 := IV_m h627 hW631 hF632 (by intro a k h; omega)
      have nx634 : NX Z I270 Z I274 := NX_fr hF632 (by omega) (by omega) (by omega)
      have ns635 : NS Z I270 Z I274 := NS_fr hF632 (by intro a k h; omega)
      have hr636 := RV_keep hr (NX.tr nx628 nx634)
      have hs637 := RS_keep hrs (NS.tr ns629 ns635)
      have hj638 := RJ_keep hrj (NS.tr ns629 ns635) NJ.rf
      exact ih Z I274 J rc rs (x3 + 6) h633 hr636 hs637 hj638 (by omega) (by omega) (by omega) (by omega)
    · skip
      refine ⟨hv1, ?_⟩
      refine sfX11_day h.1 h.2.1 h.2.2.1 (fun v278 I277 hW640 hF641 => ?_)
      have h642 := IV_x h hW640 hF641 (by intro a k h; omega)
      have nx643 : NX Z I Z I277 := NX_fr hF641 (by omega) (by omega) (by omega)
      have ns644 : NS Z I Z I277 := NS_fr hF641 (by intro a k h; omega)
      refine ⟨hv1, ?_⟩
      refine sfX12_day h642.2.2.2.1 h642.2.2.2.2.1 (fun v281 I280 hW646 hF647 => ?_)
      have h648 := IV_m h642 hW646 hF647 (by intro a k h; omega)
      have nx649 : NX Z I277 Z I280 := NX_fr hF647 (by omega) (by omega) (by omega)
      have ns650 : NS Z I277 Z I280 := NS_fr hF647 (by intro a k h; omega)
      have hr651 := RV_keep hr (NX.tr nx643 nx649)
      have hs652 := RS_keep hrs (NS.tr ns644 ns650)
      have hj653 := RJ_keep hrj (NS.tr ns644 ns650) NJ.rf
      exact ih Z I280 J rc rs (x3 + 6) h648 hr651 hs652 hj653 (by omega) (by omega) (by omega) (by omega)
    · skip
      refine ⟨hv1, ?_⟩
      refine sfX11_meet h.1 h.2.2.1 (fun v284 I283 hW655 hF656 => ?_)
      have h657 := IV_x h hW655 hF656 (by intro a k h; omega)
      have nx658 : NX Z I Z I283 := NX_fr hF656 (by omega) (by omega) (by omega)
      have ns659 : NS Z I Z I283 := NS_fr hF656 (by intro a k h; omega)
      refine ⟨hv1, ?_⟩
      refine sfX12_meet h657.2.2.2.1 h657.2.2.2.2.1 (fun v287 I286 hW661 hF662 => ?_)
      have h663 := IV_m h657 hW661 hF662 (by intro a k h; omega)
      have nx664 : NX Z I283 Z I286 := NX_fr hF662 (by omega) (by omega) (by omega)
      have ns665 : NS Z I283 Z I286 := NS_fr hF662 (by intro a k h; omega)
      have hr666 := RV_keep hr (NX.tr nx658 nx664)
      have hs667 := RS_keep hrs (NS.tr ns659 ns665)
      have hj668 := RJ_keep hrj (NS.tr ns659 ns665) NJ.rf
      exact ih Z I286 J rc rs (x3 + 6) h663 hr666 hs667 hj668 (by omega) (by omega) (by omega) (by omega)
    · skip
      refine sfX11_year h.1 h.2.2.1 (fun v289 I288 hW670 hF671 => ?_)
      have h672 := IV_x h hW670 hF671 (by intro a k h; omega)
      have nx673 : NX Z I Z I288 := NX_fr hF671 (by omega) (by omega) (by omega)
      have ns674 : NS Z I Z I288 := NS_fr hF671 (by intro a k h; omega)
      refine sfX12_year h672.2.2.2.1 h672.2.2.2.2.1 (fun v291 I290 hW676 hF677 => ?_)
      have h678 := IV_m h672 hW676 hF677 (by intro a k h; omega)
      have nx679 : NX Z I288 Z I290 := NX_fr hF677 (by omega) (by omega) (by omega)
      have ns680 : NS Z I288 Z I290 := NS_fr hF677 (by intro a k h; omega)
      have hr681 := RV_keep hr (NX.tr nx673 nx679)
      have hs682 := RS_keep hrs (NS.tr ns674 ns680)
      have hj683 := RJ_keep hrj (NS.tr ns674 ns680) NJ.rf
      exact ih Z I290 J rc rs (x3 + 6) h678 hr681 hs682 hj683 (by omega) (by omega) (by omega) (by omega)
    · skip
      refine ⟨hv1, ?_⟩
      refine sfX11_come h.1 h.2.2.1 (fun v294 I293 hW685 hF686 => ?_)
      have h687 := IV_x h hW685 hF686 (by intro a k h; omega)
      have nx688 : NX Z I Z I293 := NX_fr hF686 (by omega) (by omega) (by omega)
      have ns689 : NS Z I Z I293 := NS_fr hF686 (by intro a k h; omega)
      refine ⟨hv1, ?_⟩
      refine sfX12_come h687.2.2.2.1 h687.2.2.2.2.1 (fun v297 I296 hW691 hF692 => ?_)
      have h693 := IV_m h687 hW691 hF692 (by intro a k h; omega)
      have nx694 : NX Z I293 Z I296 := NX_fr hF692 (by omega) (by omega) (by omega)
      have ns695 : NS Z I293 Z I296 := NS_fr hF692 (by intro a k h; omega)
      have hr696 := RV_keep hr (NX.tr nx688 nx694)
      have hs697 := RS_keep hrs (NS.tr ns689 ns695)
      have hj698 := RJ_keep hrj (NS.tr ns689 ns695) NJ.rf
      exact ih Z I296 J rc rs (x3 + 6) h693 hr696 hs697 hj698 (by omega) (by omega) (by omega) (by omega)
    · skip
      refine ⟨hv1, ?_⟩
      refine sfX11_seed h.1 h.2.2.1 (fun v300 I299 hW700 hF701 => ?_)
      have h702 := IV_x h hW700 hF701 (by intro a k h; omega)
      have nx703 : NX Z I Z I299 := NX_fr hF701 (by omega) (by omega) (by omega)
      have ns704 : NS Z I Z I299 := NS_fr hF701 (by intro a k h; omega)
      refine ⟨hv1, ?_⟩
      refine sfX12_seed h702.2.2.2.1 h702.2.2.2.2.1 (fun v303 I302 hW706 hF707 => ?_)
      have h708 := IV_m h702 hW706 hF707 (by intro a k h; omega)
      have nx709 : NX Z I299 Z I302 := NX_fr hF707 (by omega) (by omega) (by omega)
      have ns710 : NS Z I299 Z I302 := NS_fr hF707 (by intro a k h; omega)
      have hr711 := RV_keep hr (NX.tr nx703 nx709)
      have hs712 := RS_keep hrs (NS.tr ns704 ns710)
      have hj713 := RJ_keep hrj (NS.tr ns704 ns710) NJ.rf
      exact ih Z I302 J rc rs (x3 + 6) h708 hr711 hs712 hj713 (by omega) (by omega) (by omega) (by omega)
    · skip
      refine sfX11_image h.1 h.2.2.1 (fun v305 I304 hW715 hF716 hp714 => ?_)
      have h717 := IV_x h hW715 hF716 (by intro a k h; omega)
      have e25 := congrArg Int32.toInt (hF716 25 1 (by omega))
      have e458 := congrArg Int32.toInt (hF716 45 8 (by omega))
      have ns718 : NS Z I Z I304 := NS_fr hF716 (by intro a k h; omega)
      refine ⟨38, 1946, rc - 100, rs - 2100, by omega, by omega, ?_⟩
      refine qX12_image hG h717.2.2.2 (fun Z306 I306 J306 hS719 hpi => ⟨1, rfl, (IV_s h717 hS719).1, hS719.1.1, ?_⟩)
      have h723 := IV_s h717 hS719
      have m25 := congrArg Int32.toInt (hS719.2.2.2.2.1 25 1 (by omega))
      have m458 := congrArg Int32.toInt (hS719.2.2.2.2.1 45 8 (by omega))
      have m08 := congrArg Int32.toInt (hS719.2.2.2.2.1 0 8 (by omega))
      have ns724 := NS_st h717 hS719
      have nj725 := NJ_st h717 hS719
      have hr726 : RV Z306 I306 := ⟨by omega, ⟨fun q => absurd q (by omega), fun q => by obtain ⟨w9, hw9⟩ := hpi; rw [hw9] at q; cases q⟩⟩
      have hs727 := RS_keep hrs (NS.tr ns718 ns724)
      have hj728 := RJ_keep hrj (NS.tr ns718 ns724) nj725
      exact ih Z306 I306 J306 (rc - 100) (rs - 2100) (x3 + 6) h723 hr726 hs727 hj728 (by omega) (by omega) (by omega) (by omega)
    · skip
      refine sfX11_back h.1 h.2.2.1 (fun v308 I307 hW730 hF731 hp729 => ?_)
      have h732 := IV_x h hW730 hF731 (by intro a k h; omega)
      have nx733 : NX Z I Z I307 := NX_fr hF731 (by omega) (by omega) (by omega)
      have ns734 : NS Z I Z I307 := NS_fr hF731 (by intro a k h; omega)
      refine qX12_back h732.2.2.2 (fun v310 I309 hS735 hpb => ?_)
      have h736 := IV_s h732 hS735
      have nx737 := NX_st h732 hS735
      have ns738 := NS_st h732 hS735
      have nj739 := NJ_st h732 hS735
      have hr740 := RV_keep hr (NX.tr nx733 nx737)
      have hs741 := RS_keep hrs (NS.tr ns734 ns738)
      have hj742 := RJ_keep hrj (NS.tr ns734 ns738) nj739
      exact ih Z I309 J rc rs (x3 + 6) h736 hr740 hs741 hj742 (by omega) (by omega) (by omega) (by omega)
    · skip
      refine ⟨hv1, ?_⟩
      refine sfX11_status h.1 h.2.2.1 (fun v313  => ?_)
      have nx744 : NX Z I Z I := NX.rf
      have ns745 : NS Z I Z I := NS.rf
      refine ⟨hv1, ?_⟩
      refine sfX12_status h.2.2.2.1 h.2.2.2.2.1 (fun v316  => ?_)
      have nx747 : NX Z I Z I := NX.rf
      have ns748 : NS Z I Z I := NS.rf
      have hr749 := RV_keep hr (NX.tr nx744 nx747)
      have hs750 := RS_keep hrs (NS.tr ns745 ns748)
      have hj751 := RJ_keep hrj (NS.tr ns745 ns748) NJ.rf
      exact ih Z I J rc rs (x3 + 6) h hr749 hs750 hj751 (by omega) (by omega) (by omega) (by omega)
