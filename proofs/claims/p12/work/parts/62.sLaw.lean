set_option maxRecDepth 20000 in
set_option maxHeartbeats 4000000 in
/-- the law's loop goes on well -/
theorem lL_law {G : jdG} {nm : String} {b L : Nat} {xs : Nat → Int32} {sA sV : Nat → Nat} (hG : gOK G sA sV) (hXs : ∀ U, G.2.2.2.2 U → va_X b L xs U G.2.2.1) (hL : L ≤ 100000) : ∀ m : Nat, ∀ (Z : jdL) (I : jdI) (J : jdJ) (rc rs : Nat) (x3 : Int32), IV Z I → RV Z I → RS Z I → RJ I J → RT Z I → RA Z I → 0 ≤ x3.toInt → (L : Int) - x3.toInt + 6 < (m : Int) → 20 * ((L : Int) - x3.toInt) ≤ (rc : Int) → 350 * ((L : Int) - x3.toInt) ≤ (rs : Int) → x3.toInt ≤ (L : Int) → Jd G (mLaw nm) (lawF G) (2046 + 1) rc rs 18 [(0, .ref b), (1, .ref (gb G + 0)), (2, .ref (gb G + 45)), (3, .int x3)] [] Z I J := by
  intro m
  induction m with
  | zero =>
    intro Z I J rc rs x3 h hr hrs hrj hrt hra h0 hm h1 h2 h3
    have hr1 := hr.1
    omega
  | succ m ih0 =>
    have ih : ∀ (Z : jdL) (I : jdI) (J : jdJ) (rc rs : Nat) (x3 : Int32), IV Z I → RV Z I → RS Z I → RJ I J → RT Z I → RA Z I → 0 ≤ x3.toInt → (L : Int) - x3.toInt + 6 < (m : Int) → 20 * ((L : Int) - x3.toInt) ≤ (rc : Int) → 350 * ((L : Int) - x3.toInt) ≤ (rs : Int) ∧ x3.toInt ≤ (L : Int) → Jd G (mLaw nm) (lawF G) (2046 + 1) rc rs 18 [(0, .ref b), (1, .ref (gb G + 0)), (2, .ref (gb G + 45)), (3, .int x3)] [] Z I J := fun Z I J rc rs x3 h hr hrs hrj hrt hra a1 a2 a3 a4 => ih0 Z I J rc rs x3 h hr hrs hrj hrt hra a1 a2 a3 a4.1 a4.2
    intro Z I J rc rs x3 h hr hrs hrj hrt hra h0 hm h1 h2 h3
    have hr1 := hr.1
    obtain ⟨s, hok, ht1, ht2⟩ := hrt.2.1
    have hP7 := ht1.1.1
    have hwx := WX_f h.2.2.1
    have qL : (Nat.toInt32 L).toInt = (L : Int) := nI_toInt (by omega)
    have q6 : (6 : Int32).toInt = 6 := rfl
    have q1 : (1 : Int32).toInt = 1 := rfl
    have q2 : (2 : Int32).toInt = 2 := rfl
    have q3 : (3 : Int32).toInt = 3 := rfl
    have q4 : (4 : Int32).toInt = 4 := rfl
    have q5 : (5 : Int32).toInt = 5 := rfl
    have s6 := i32_sub (Nat.toInt32 L) 6 (by omega) (by omega)
    refine rL_law hXs h.1 h.2.2.2.1 ⟨fun _ => trivial, fun hc => ?_⟩
    have hc := mt Int32.lt_iff_toInt_lt.mpr hc
    have e6 := i32_add x3 6 (by omega) (by omega)
    have hv0 : vp_in x3 L := vp_of (by omega) (by omega)
    have e1 := i32_add x3 1 (by omega) (by omega)
    have hv1 : vp_in (x3 + 1) L := vp_of (by omega) (by omega)
    have e2 := i32_add x3 2 (by omega) (by omega)
    have hv2 : vp_in (x3 + 2) L := vp_of (by omega) (by omega)
    have e3 := i32_add x3 3 (by omega) (by omega)
    have hv3 : vp_in (x3 + 3) L := vp_of (by omega) (by omega)
    have e4 := i32_add x3 4 (by omega) (by omega)
    have hv4 : vp_in (x3 + 4) L := vp_of (by omega) (by omega)
    have e5 := i32_add x3 5 (by omega) (by omega)
    have hv5 : vp_in (x3 + 5) L := vp_of (by omega) (by omega)
    refine ⟨hv0, ?_⟩
    refine ⟨fun hc1 => ?_, fun hc2 => ?_, fun hc3 => ?_, fun hc4 => ?_, fun hc5 => ?_, fun hc6 => ?_, fun hc7 => ?_, fun hc8 => ?_, fun hc9 => ?_, fun hc10 => ?_, fun hc11 => ?_, fun hc12 => ?_, fun hc13 => ?_, fun hc14 => ?_, fun hc15 => ?_, fun hc16 => ?_, fun hc17 => ?_, fun hc18 => ?_, fun hc19 => ?_, fun hc20 => ?_, fun hc21 => ?_, fun hc22 => ?_, fun hc23 => ?_, fun hc24 => ?_, fun hc25 => ?_, fun hc26 => ?_, fun hc27 => ?_, fun hc28 => ?_, fun hc29 => ?_, fun hc30 => ?_, fun hc31 => ?_, fun hc32 => ?_, fun hc33 => ?_, fun hc34 => ?_, fun hc35 => ?_, fun hc36 => ?_, fun hc37 => ?_, fun hc38 => ?_, fun hc39 => ?_, fun hc40 => ?_, fun hc41 => ?_, fun hc42 => ?_, fun hc43 => ?_, fun hc44 => ?_, fun hc45 => ?_, fun hc46 => ?_, fun hc47 => ?_, fun hc48 => ?_⟩
    · skip
      have hr49 := hr
      have hs50 := hrs
      have hj51 := hrj
      exact ih Z I J rc rs (x3 + 6) h hr49 hs50 hj51 hrt hra (by omega) (by omega) (by omega) (by omega)
    · skip
      refine ⟨hv1, ?_⟩
      refine ⟨hv2, ?_⟩
      refine ⟨hv3, ?_⟩
      refine ⟨0, 0, rc - 100, rs - 2100, by omega, by omega, ?_⟩
      refine qX11_row h (fun v55 Z5 I5 J5 hS53 hp54 nx56 hx57 ha58 hj59 nt60 => ⟨v55, rfl, hS53.1, hS53.2.2.2.1, ?_⟩)
      refine ⟨hv1, ?_⟩
      refine ⟨hv2, ?_⟩
      refine ⟨hv3, ?_⟩
      refine sfX12_row hS53.2.2.2.1 hS53.2.2.2.2.1 (fun v10 I9 J9 hW62 hF63 hp61 => ?_)
      have nt64 : NT Z5 I5 Z5 I9 := NT_fr hS53 hF63 (by intro a k h; omega)
      have h65 := IV_m hS53 hW62 hF63 (by intro a k h; omega)
      have nx66 : NX Z5 I5 Z5 I9 := NX_fr hF63 (by omega) (by omega) (by omega)
      have hr67 := RV_keep hr (NX.tr nx56 nx66)
      have hs68 := RS_row h hrs hx57 hF63 hp61
      have hj69 := RJ_row hrj (fun i hi => hx57.1 _ _ (by omega) (by have := h.2.2.2.2.2.1; omega)) hj59 hF63 hp61
      have ht70 := RT_keep h hrt (NT.tr nt60 nt64)
      have ha71 := RA_row hra (fun i hi => hx57.1 _ _ (by omega) (by have := h.2.2.2.2.2.1; omega)) ha58 hF63
      exact ih Z5 I9 J9 (rc - 100) (rs - 2100) (x3 + 6) h65 hr67 hs68 hj69 ht70 ha71 (by omega) (by omega) (by omega) (by omega)
    · skip
      refine ⟨hv1, ?_⟩
      refine ⟨hv2, ?_⟩
      refine ⟨hv3, ?_⟩
      refine ⟨hv4, ?_⟩
      refine sfX11_set h.1 h.2.2.1 (fun v16 I15 J15 hW73 hF74 hp72 => ?_)
      have nt75 : NT Z I Z I15 := NT_fr h hF74 (by intro a k h; omega)
      have h76 := IV_x h hW73 hF74 (by intro a k h; omega)
      have nx77 : NX Z I Z I15 := NX_fr hF74 (by omega) (by omega) (by omega)
      have ns78 : NS Z I Z I15 := NS_fr hF74 (by intro a k h; omega)
      have na79 : NA Z I Z I15 := NA_fr hF74 (by intro a k h; omega)
      refine ⟨hv1, ?_⟩
      refine ⟨hv2, ?_⟩
      refine ⟨hv3, ?_⟩
      refine ⟨hv4, ?_⟩
      refine sfX12_set h76.2.2.2.1 h76.2.2.2.2.1 (fun v22 I21 J21 hW81 hF82 hp80 => ?_)
      have nt83 : NT Z I15 Z I21 := NT_fr h76 hF82 (by intro a k h; omega)
      have h84 := IV_m h76 hW81 hF82 (by intro a k h; omega)
      have nx85 : NX Z I15 Z I21 := NX_fr hF82 (by omega) (by omega) (by omega)
      have ns86 : NS Z I15 Z I21 := NS_fr hF82 (by intro a k h; omega)
      have na87 : NA Z I15 Z I21 := NA_fr hF82 (by intro a k h; omega)
      have hr88 := RV_keep hr (NX.tr nx77 nx85)
      have hs89 := RS_keep hrs (NS.tr ns78 ns86)
      have hj90 := RJ_set hrs hrj ns78 (NS.tr ns78 ns86) hp72 hp80
      have ht91 := RT_keep h hrt (NT.tr nt75 nt83)
      have ha92 := RA_keep hra (NA.tr na79 na87)
      exact ih Z I21 J21 rc rs (x3 + 6) h84 hr88 hs89 hj90 ht91 ha92 (by omega) (by omega) (by omega) (by omega)
    · skip
      refine ⟨hv1, ?_⟩
      refine ⟨hv2, ?_⟩
      refine ⟨hv3, ?_⟩
      refine ⟨hv4, ?_⟩
      refine ⟨hv5, ?_⟩
      refine sfX11_copy h.1 h.2.2.1 (fun v29 I28 J28 hW94 hF95 hp93 => ?_)
      have nt96 : NT Z I Z I28 := NT_fr h hF95 (by intro a k h; omega)
      have h97 := IV_x h hW94 hF95 (by intro a k h; omega)
      have nx98 : NX Z I Z I28 := NX_fr hF95 (by omega) (by omega) (by omega)
      have ns99 : NS Z I Z I28 := NS_fr hF95 (by intro a k h; omega)
      have na100 : NA Z I Z I28 := NA_fr hF95 (by intro a k h; omega)
      refine ⟨hv1, ?_⟩
      refine ⟨hv2, ?_⟩
      refine ⟨hv3, ?_⟩
      refine ⟨hv4, ?_⟩
      refine ⟨hv5, ?_⟩
      refine sfX12_copy h97.2.2.2.1 h97.2.2.2.2.1 (fun v36 I35 J35 hW102 hF103 hp101 => ?_)
      have nt104 : NT Z I28 Z I35 := NT_fr h97 hF103 (by intro a k h; omega)
      have h105 := IV_m h97 hW102 hF103 (by intro a k h; omega)
      have nx106 : NX Z I28 Z I35 := NX_fr hF103 (by omega) (by omega) (by omega)
      have ns107 : NS Z I28 Z I35 := NS_fr hF103 (by intro a k h; omega)
      have na108 : NA Z I28 Z I35 := NA_fr hF103 (by intro a k h; omega)
      have hr109 := RV_keep hr (NX.tr nx98 nx106)
      have hs110 := RS_keep hrs (NS.tr ns99 ns107)
      have hj111 := RJ_copy h.2.2.2.2.1 hrs hrj ns99 (NS.tr ns99 ns107) hp93 hp101
      have ht112 := RT_keep h hrt (NT.tr nt96 nt104)
      have ha113 := RA_keep hra (NA.tr na100 na108)
      exact ih Z I35 J35 rc rs (x3 + 6) h105 hr109 hs110 hj111 ht112 ha113 (by omega) (by omega) (by omega) (by omega)
    · skip
      refine ⟨hv1, ?_⟩
      refine ⟨hv2, ?_⟩
      refine sfX11_element h.1 h.2.2.1 (fun v40  hp114 => ?_)
      have nx115 : NX Z I Z I := NX.rf
      have ns116 : NS Z I Z I := NS.rf
      have nt117 : NT Z I Z I := NT.rf
      have na118 : NA Z I Z I := NA.rf
      refine ⟨hv1, ?_⟩
      refine ⟨hv2, ?_⟩
      refine sfX12_element h.2.2.2.1 h.2.2.2.2.1 (fun v44  hp119 => ?_)
      have nx120 : NX Z I Z I := NX.rf
      have ns121 : NS Z I Z I := NS.rf
      have nt122 : NT Z I Z I := NT.rf
      have na123 : NA Z I Z I := NA.rf
      have hr124 := RV_keep hr (NX.tr nx115 nx120)
      have hs125 := RS_keep hrs (NS.tr ns116 ns121)
      have hj126 := RJ_keep hrj (NS.tr ns116 ns121) NJ.rf
      have ht127 := RT_keep h hrt (NT.tr nt117 nt122)
      have ha128 := RA_keep hra (NA.tr na118 na123)
      exact ih Z I J rc rs (x3 + 6) h hr124 hs125 hj126 ht127 ha128 (by omega) (by omega) (by omega) (by omega)
    · skip
      refine ⟨hv1, ?_⟩
      refine sfX11_holds hG h.1 h.2.1 h.2.2.1 (fun v47  hp129 => ?_)
      have nx130 : NX Z I Z I := NX.rf
      have ns131 : NS Z I Z I := NS.rf
      have nt132 : NT Z I Z I := NT.rf
      have na133 : NA Z I Z I := NA.rf
      refine ⟨hv1, ?_⟩
      refine sfX12_holds h.2.2.2.1 h.2.2.2.2.1 (fun v50  hp134 => ?_)
      have nx135 : NX Z I Z I := NX.rf
      have ns136 : NS Z I Z I := NS.rf
      have nt137 : NT Z I Z I := NT.rf
      have na138 : NA Z I Z I := NA.rf
      have hr139 := RV_keep hr (NX.tr nx130 nx135)
      have hs140 := RS_keep hrs (NS.tr ns131 ns136)
      have hj141 := RJ_keep hrj (NS.tr ns131 ns136) NJ.rf
      have ht142 := RT_keep h hrt (NT.tr nt132 nt137)
      have ha143 := RA_keep hra (NA.tr na133 na138)
      exact ih Z I J rc rs (x3 + 6) h hr139 hs140 hj141 ht142 ha143 (by omega) (by omega) (by omega) (by omega)
    · skip
      refine ⟨hv1, ?_⟩
      refine ⟨hv2, ?_⟩
      refine ⟨hv3, ?_⟩
      refine ⟨1, 1, rc - 100, rs - 2100, by omega, by omega, ?_⟩
      refine qX11_coachman h (fun v146 Z54 I54 J54 hS144 hp145 nx147 hx148 ha149 hj150 nt151 => ⟨v146, rfl, hS144.1, hS144.2.2.2.1, ?_⟩)
      refine ⟨hv1, ?_⟩
      refine ⟨hv2, ?_⟩
      refine ⟨hv3, ?_⟩
      refine pX12_coachman hS144.2.2.2.1 hS144.2.2.2.2.1 (fun v59 I58 hW153 hF154 hp152 mb155 => ?_)
      have nt156 : NT Z54 I54 Z54 I58 := NT_fr hS144 hF154 (by intro a k h; omega)
      have h157 := IV_m hS144 hW153 hF154 (by intro a k h; omega)
      have nx158 : NX Z54 I54 Z54 I58 := NX_fr hF154 (by omega) (by omega) (by omega)
      have hr159 := RV_keep hr (NX.tr nx147 nx158)
      have hs160 := RS_man h hrs hx148 hF154 hp152
      rw [hj150]
      have hj161 := RJ_man hrj (fun i hi => hx148.1 _ _ (by omega) (by have := h.2.2.2.2.2.1; omega)) hF154 hp152
      have ht162 := RT_keep h hrt (NT.tr nt151 nt156)
      have ha163 := RA_man hra (fun i hi => hx148.1 _ _ (by omega) (by have := h.2.2.2.2.2.1; omega)) ha149 hF154 mb155
      exact ih Z54 I58 J (rc - 100) (rs - 2100) (x3 + 6) h157 hr159 hs160 hj161 ht162 ha163 (by omega) (by omega) (by omega) (by omega)
    · skip
      refine ⟨hv1, ?_⟩
      refine ⟨hv2, ?_⟩
      refine sfX11_says hG h.1 h.2.1 h.2.2.1 (fun v63 I62 hW165 hF166 => ?_)
      have nt167 : NT Z I Z I62 := NT_fr h hF166 (by intro a k h; omega)
      have h168 := IV_x h hW165 hF166 (by intro a k h; omega)
      have nx169 : NX Z I Z I62 := NX_fr hF166 (by omega) (by omega) (by omega)
      have ns170 : NS Z I Z I62 := NS_fr hF166 (by intro a k h; omega)
      have na171 : NA Z I Z I62 := NA_fr hF166 (by intro a k h; omega)
      refine ⟨hv1, ?_⟩
      refine ⟨hv2, ?_⟩
      refine sfX12_says h168.2.2.2.1 h168.2.2.2.2.1 (fun v67 I66 hW173 hF174 => ?_)
      have nt175 : NT Z I62 Z I66 := NT_fr h168 hF174 (by intro a k h; omega)
      have h176 := IV_m h168 hW173 hF174 (by intro a k h; omega)
      have nx177 : NX Z I62 Z I66 := NX_fr hF174 (by omega) (by omega) (by omega)
      have ns178 : NS Z I62 Z I66 := NS_fr hF174 (by intro a k h; omega)
      have na179 : NA Z I62 Z I66 := NA_fr hF174 (by intro a k h; omega)
      have hr180 := RV_keep hr (NX.tr nx169 nx177)
      have hs181 := RS_keep hrs (NS.tr ns170 ns178)
      have hj182 := RJ_keep hrj (NS.tr ns170 ns178) NJ.rf
      have ht183 := RT_keep h hrt (NT.tr nt167 nt175)
      have ha184 := RA_keep hra (NA.tr na171 na179)
      exact ih Z I66 J rc rs (x3 + 6) h176 hr180 hs181 hj182 ht183 ha184 (by omega) (by omega) (by omega) (by omega)
    · skip
      refine ⟨hv1, ?_⟩
      refine ⟨hv2, ?_⟩
      refine pX11_person h.1 h.2.2.1 ht1 (fun v71 I70 hW186 hF187 hp185 => ?_)
      have tm188 := TM_fr ht2 (show s.1.1 ≤ 8 by omega) hF187 (by omega) (by omega) (by omega) (by omega) (by intro a k h1 h2 h3; omega)
      have rk189 := RK_fr h hrt.2.2 hF187 (by intro a k h; omega)
      have tp190 := TP_fr hrt.1 hF187 (by intro a k h; omega)
      have h191 := IV_x h hW186 hF187 (by intro a k h; omega)
      have nx192 : NX Z I Z I70 := NX_fr hF187 (by omega) (by omega) (by omega)
      have ns193 : NS Z I Z I70 := NS_fr hF187 (by intro a k h; omega)
      have na194 : NA Z I Z I70 := NA_fr hF187 (by intro a k h; omega)
      refine ⟨hv1, ?_⟩
      refine ⟨hv2, ?_⟩
      refine pX12_personS h191.2.2.2.1 h191.2.2.2.2.1 tm188 (fun v75 I74 hW196 hF197 hp195 => ?_)
      have rk198 := RK_fr h191 rk189 hF197 (by intro a k h; omega)
      have tp199 := TP_fr tp190 hF197 (by intro a k h; omega)
      have h200 := IV_m h191 hW196 hF197 (by intro a k h; omega)
      have nx201 : NX Z I70 Z I74 := NX_fr hF197 (by omega) (by omega) (by omega)
      have ns202 : NS Z I70 Z I74 := NS_fr hF197 (by intro a k h; omega)
      have na203 : NA Z I70 Z I74 := NA_fr hF197 (by intro a k h; omega)
      have hr204 := RV_keep hr (NX.tr nx192 nx201)
      have hs205 := RS_keep hrs (NS.tr ns193 ns202)
      have hj206 := RJ_keep hrj (NS.tr ns193 ns202) NJ.rf
      have ht207 : RT Z I74 := ⟨tp199, ⟨_, oPerson_ok hok, TX_fr hp185.2 hF197 (by intro a k h1 h2; omega), hp195.2⟩, rk198⟩
      have ha208 := RA_keep hra (NA.tr na194 na203)
      exact ih Z I74 J rc rs (x3 + 6) h200 hr204 hs205 hj206 ht207 ha208 (by omega) (by omega) (by omega) (by omega)
    · skip
      refine ⟨hv1, ?_⟩
      refine ⟨hv2, ?_⟩
      refine ⟨hv3, ?_⟩
      refine fsfX11_change h.1 h.2.2.1 ht1 (fun v80 I79 hW210 hF211 hp209 => ?_)
      have tm212 := TM_fr ht2 (show s.1.1 ≤ 8 by omega) hF211 (by omega) (by omega) (by omega) (by omega) (by intro a k h1 h2 h3; omega)
      have rk213 := RK_fr h hrt.2.2 hF211 (by intro a k h; omega)
      have tp214 := TP_fr hrt.1 hF211 (by intro a k h; omega)
      have h215 := IV_x h hW210 hF211 (by intro a k h; omega)
      have nx216 : NX Z I Z I79 := NX_fr hF211 (by omega) (by omega) (by omega)
      have ns217 : NS Z I Z I79 := NS_fr hF211 (by intro a k h; omega)
      have na218 : NA Z I Z I79 := NA_fr hF211 (by intro a k h; omega)
      refine ⟨hv1, ?_⟩
      refine ⟨hv2, ?_⟩
      refine ⟨hv3, ?_⟩
      refine fsfX12_change h215.2.2.2.1 h215.2.2.2.2.1 tm212 (fun v85 I84 hW220 hF221 hp219 => ?_)
      have rk222 := RK_fr h215 rk213 hF221 (by intro a k h; omega)
      have tp223 := TP_fr tp214 hF221 (by intro a k h; omega)
      have h224 := IV_m h215 hW220 hF221 (by intro a k h; omega)
      have nx225 : NX Z I79 Z I84 := NX_fr hF221 (by omega) (by omega) (by omega)
      have ns226 : NS Z I79 Z I84 := NS_fr hF221 (by intro a k h; omega)
      have na227 : NA Z I79 Z I84 := NA_fr hF221 (by intro a k h; omega)
      have hr228 := RV_keep hr (NX.tr nx216 nx225)
      have hs229 := RS_keep hrs (NS.tr ns217 ns226)
      have hj230 := RJ_keep hrj (NS.tr ns217 ns226) NJ.rf
      have ht231 : RT Z I84 := ⟨tp223, ⟨_, oChange_ok hok, TX_fr hp209.2 hF221 (by intro a k h1 h2; omega), hp219.2⟩, rk222⟩
      have ha232 := RA_keep hra (NA.tr na218 na227)
      exact ih Z I84 J rc rs (x3 + 6) h224 hr228 hs229 hj230 ht231 ha232 (by omega) (by omega) (by omega) (by omega)
    · skip
      refine ⟨hv1, ?_⟩
      refine ⟨hv2, ?_⟩
      refine ⟨hv3, ?_⟩
      refine pX11_know h.1 h.2.2.1 ht1 (fun v90 I89 hW234 hF235 hp233 => ?_)
      have tm236 := TM_fr ht2 (show s.1.1 ≤ 8 by omega) hF235 (by omega) (by omega) (by omega) (by omega) (by intro a k h1 h2 h3; omega)
      have rk237 := RK_fr h hrt.2.2 hF235 (by intro a k h; omega)
      have tp238 := TP_fr hrt.1 hF235 (by intro a k h; omega)
      have h239 := IV_x h hW234 hF235 (by intro a k h; omega)
      have nx240 : NX Z I Z I89 := NX_fr hF235 (by omega) (by omega) (by omega)
      have ns241 : NS Z I Z I89 := NS_fr hF235 (by intro a k h; omega)
      have na242 : NA Z I Z I89 := NA_fr hF235 (by intro a k h; omega)
      refine ⟨hv1, ?_⟩
      refine ⟨hv2, ?_⟩
      refine ⟨hv3, ?_⟩
      refine pX12_know h239.2.2.2.1 h239.2.2.2.2.1 tm236 (fun v95 I94 hW244 hF245 hp243 => ?_)
      have rk246 := RK_fr h239 rk237 hF245 (by intro a k h; omega)
      have tp247 := TP_fr tp238 hF245 (by intro a k h; omega)
      have h248 := IV_m h239 hW244 hF245 (by intro a k h; omega)
      have nx249 : NX Z I89 Z I94 := NX_fr hF245 (by omega) (by omega) (by omega)
      have ns250 : NS Z I89 Z I94 := NS_fr hF245 (by intro a k h; omega)
      have na251 : NA Z I89 Z I94 := NA_fr hF245 (by intro a k h; omega)
      have hr252 := RV_keep hr (NX.tr nx240 nx249)
      have hs253 := RS_keep hrs (NS.tr ns241 ns250)
      have hj254 := RJ_keep hrj (NS.tr ns241 ns250) NJ.rf
      have ht255 : RT Z I94 := ⟨tp247, ⟨_, oKnow_ok hok, TX_fr hp233.2 hF245 (by intro a k h1 h2; omega), hp243.2⟩, rk246⟩
      have ha256 := RA_keep hra (NA.tr na242 na251)
      exact ih Z I94 J rc rs (x3 + 6) h248 hr252 hs253 hj254 ht255 ha256 (by omega) (by omega) (by omega) (by omega)
    · skip
      refine ⟨hv1, ?_⟩
      refine ⟨hv2, ?_⟩
      refine fsfX11_ask h.1 h.2.2.1 ht1 (fun v99 I98 hW258 hF259 hp257 => ?_)
      have tm260 := TM_fr ht2 (show s.1.1 ≤ 8 by omega) hF259 (by omega) (by omega) (by omega) (by omega) (by intro a k h1 h2 h3; omega)
      have rk261 := RK_fr h hrt.2.2 hF259 (by intro a k h; omega)
      have tp262 := TP_fr hrt.1 hF259 (by intro a k h; omega)
      have h263 := IV_x h hW258 hF259 (by intro a k h; omega)
      have nx264 : NX Z I Z I98 := NX_fr hF259 (by omega) (by omega) (by omega)
      have ns265 : NS Z I Z I98 := NS_fr hF259 (by intro a k h; omega)
      have na266 : NA Z I Z I98 := NA_fr hF259 (by intro a k h; omega)
      refine ⟨hv1, ?_⟩
      refine ⟨hv2, ?_⟩
      refine fsfX12_ask h263.2.2.2.1 h263.2.2.2.2.1 tm260 (fun v103 I102 hW268 hF269 hp267 => ?_)
      have rk270 := RK_fr h263 rk261 hF269 (by intro a k h; omega)
      have tp271 := TP_fr tp262 hF269 (by intro a k h; omega)
      have h272 := IV_m h263 hW268 hF269 (by intro a k h; omega)
      have nx273 : NX Z I98 Z I102 := NX_fr hF269 (by omega) (by omega) (by omega)
      have ns274 : NS Z I98 Z I102 := NS_fr hF269 (by intro a k h; omega)
      have na275 : NA Z I98 Z I102 := NA_fr hF269 (by intro a k h; omega)
      refine ⟨fun hc276 => ?_, fun hc277 => ?_⟩
      · skip
        have hr278 := RV_keep hr (NX.tr nx264 nx273)
        have hs279 := RS_keep hrs (NS.tr ns265 ns274)
        have hj280 := RJ_keep hrj (NS.tr ns265 ns274) NJ.rf
        have ht281 : RT Z I102 := ⟨tp271, ⟨_, oAsk_ok hok, TX_fr hp257.2 hF269 (by intro a k h1 h2; omega), hp267.2⟩, rk270⟩
        have ha282 := RA_keep hra (NA.tr na266 na275)
        exact ih Z I102 J rc rs (x3 + 6) h272 hr278 hs279 hj280 ht281 ha282 (by omega) (by omega) (by omega) (by omega)
      · skip
        exact hc277 (Int32.toInt_inj.mp (hp257.1.trans hp267.1.symm))
    · skip
      refine ⟨hv1, ?_⟩
      refine pX11_feed h.1 h.2.2.1 (fun v106 I105 hW284 hF285 hp283 pF286 => ?_)
      have tm287 := TM_fr ht2 (show s.1.1 ≤ 8 by omega) hF285 (by omega) (by omega) (by omega) (by omega) (by intro a k h1 h2 h3; omega)
      have rk288 := RK_fr h hrt.2.2 hF285 (by intro a k h; omega)
      have h289 := IV_x h hW284 hF285 (by intro a k h; omega)
      have e08 := congrArg Int32.toInt (hF285 0 8 (by omega))
      have e458 := congrArg Int32.toInt (hF285 45 8 (by omega))
      have ns290 : NS Z I Z I105 := NS_fr hF285 (by intro a k h; omega)
      have na291 : NA Z I Z I105 := NA_fr hF285 (by intro a k h; omega)
      refine ⟨hv1, ?_⟩
      refine pX12_feed h289.2.2.2.1 h289.2.2.2.2.1 (fun v109 I108 hW293 hF294 hp292 pF295 => ?_)
      have rk296 := RK_fr h289 rk288 hF294 (by intro a k h; omega)
      have h297 := IV_m h289 hW293 hF294 (by intro a k h; omega)
      have m25 := congrArg Int32.toInt (hF294 25 1 (by omega))
      have m08 := congrArg Int32.toInt (hF294 0 8 (by omega))
      have ns298 : NS Z I105 Z I108 := NS_fr hF294 (by intro a k h; omega)
      have na299 : NA Z I105 Z I108 := NA_fr hF294 (by intro a k h; omega)
      have hr300 : RV Z I108 := ⟨by omega, by rw [show (I108 0 8).toInt = (I 0 8).toInt by omega]; exact hr.2⟩
      have hs301 := RS_keep hrs (NS.tr ns290 ns298)
      have hj302 := RJ_keep hrj (NS.tr ns290 ns298) NJ.rf
      have ta : I108 (25 + 1) = I105 (25 + 1) := funext (fun k => hF294 (25 + 1) k (by omega))
      have tb : I105 (45 + 16) = I (45 + 16) := funext (fun k => hF285 (45 + 16) k (by omega))
      have tc : (I105 45 8).toInt = (I 25 1).toInt := by rw [hF285 45 8 (by omega)]; exact hr.1.symm
      have ht303 : RT Z I108 := ⟨by rw [ta, pF286, pF295, tb, tc, hrt.1], ⟨s, hok, TX_fr (TX_fr ht1 hF285 (by intro a k h1 h2; omega)) hF294 (by intro a k h1 h2; omega), TM_fr tm287 (show s.1.1 ≤ 8 by omega) hF294 (by omega) (by omega) (by omega) (by omega) (by intro a k h1 h2 h3; omega)⟩, rk296⟩
      have ha304 := RA_keep hra (NA.tr na291 na299)
      exact ih Z I108 J rc rs (x3 + 6) h297 hr300 hs301 hj302 ht303 ha304 (by omega) (by omega) (by omega) (by omega)
    · skip
      refine sfX11_wipe h.1 h.2.2.1 (fun v111 I110 hW306 hF307 hp305 => ?_)
      have nt308 : NT Z I Z I110 := NT_fr h hF307 (by intro a k h; omega)
      have h309 := IV_x h hW306 hF307 (by intro a k h; omega)
      have e08 := congrArg Int32.toInt (hF307 0 8 (by omega))
      have e458 := congrArg Int32.toInt (hF307 45 8 (by omega))
      have ns310 : NS Z I Z I110 := NS_fr hF307 (by intro a k h; omega)
      have na311 : NA Z I Z I110 := NA_fr hF307 (by intro a k h; omega)
      refine sfX12_wipe h309.2.2.2.1 h309.2.2.2.2.1 (fun v113 I112 hW313 hF314 hp312 => ?_)
      have nt315 : NT Z I110 Z I112 := NT_fr h309 hF314 (by intro a k h; omega)
      have h316 := IV_m h309 hW313 hF314 (by intro a k h; omega)
      have m25 := congrArg Int32.toInt (hF314 25 1 (by omega))
      have m08 := congrArg Int32.toInt (hF314 0 8 (by omega))
      have ns317 : NS Z I110 Z I112 := NS_fr hF314 (by intro a k h; omega)
      have na318 : NA Z I110 Z I112 := NA_fr hF314 (by intro a k h; omega)
      have hr319 : RV Z I112 := ⟨by omega, by rw [show (I112 0 8).toInt = (I 0 8).toInt by omega]; exact hr.2⟩
      have hs320 := RS_keep hrs (NS.tr ns310 ns317)
      have hj321 := RJ_keep hrj (NS.tr ns310 ns317) NJ.rf
      have ht322 := RT_keep h hrt (NT.tr nt308 nt315)
      have ha323 := RA_keep hra (NA.tr na311 na318)
      exact ih Z I112 J rc rs (x3 + 6) h316 hr319 hs320 hj321 ht322 ha323 (by omega) (by omega) (by omega) (by omega)
    · skip
      refine pX11_town hG h.1 h.2.2.1 ht1 (fun v115 I114 hW325 hF326 hp324 pT327 pS328 => ?_)
      have tm329 := TM_fr ht2 (show s.1.1 ≤ 8 by omega) hF326 (by omega) (by omega) (by omega) (by omega) (by intro a k h1 h2 h3; omega)
      have rk330 := RK_fr h hrt.2.2 hF326 (by intro a k h; omega)
      have tp331 := TP_fr hrt.1 hF326 (by intro a k h; omega)
      have h332 := IV_x h hW325 hF326 (by intro a k h; omega)
      have e08 := congrArg Int32.toInt (hF326 0 8 (by omega))
      have e458 := congrArg Int32.toInt (hF326 45 8 (by omega))
      have ns333 : NS Z I Z I114 := NS_fr hF326 (by intro a k h; omega)
      have na334 : NA Z I Z I114 := NA_fr hF326 (by intro a k h; omega)
      have hfc := fC_le Z 45
      refine ⟨(fC Z 45), (fS Z 45), rc - 100, rs - 2100, by omega, by omega, ?_⟩
      refine qX12_town hG h332.2.2.2 tm329.1 (fun v337 Z116 I116 J116 hS335 hp336 pT339 pS340 => ⟨v337, rfl, (IV_s h332 hS335).1, hS335.1.1, ?_⟩)
      have h341 := IV_s h332 hS335
      have hbz := h332.2.2.2.2.2.1
      have m25 := congrArg Int32.toInt (hS335.2.2.2.2.1 25 1 (by omega))
      have m08 := congrArg Int32.toInt (hS335.2.2.2.2.1 0 8 (by omega))
      have eZ := hS335.2.2.2.1 45 20 (by omega) (by omega)
      have ns342 := NS_st h332 hS335
      have na343 := NA_st h332 hS335
      have nj344 := NJ_st h332 hS335
      have hr345 : RV Z116 I116 := ⟨by omega, by rw [show (I116 0 8).toInt = (I 0 8).toInt by omega, eZ]; exact hr.2⟩
      have hs346 := RS_keep hrs (NS.tr ns333 ns342)
      have hj347 := RJ_keep hrj (NS.tr ns333 ns342) nj344
      have e16 : I114 (45 + 16) = I (25 + 1) := (funext (fun k => hF326 (45 + 16) k (by omega))).trans hrt.1.symm
      have e8 : (I114 45 8).toInt = (I 25 1).toInt := by rw [hF326 45 8 (by omega)]; exact hr.1.symm
      rw [e16, e8] at pT339
      obtain ⟨ev, w2, k2, r1, r2⟩ := tn_k hok pT327 pT339
      have ht348 : RT Z116 I116 := ⟨TP_fr tp331 hS335.2.2.2.2.1 (by intro a k h; omega), ⟨(w2, s.2), k2, ⟨RX_fr r1 hS335.2.2.2.2.1 (by intro a k h1 h2; omega), by rw [hS335.2.2.2.2.1 1 6 (by omega)]; exact pS328⟩, ⟨r2, pS340.trans tm329.2⟩⟩, RK_eq rk330 h332.2.2.1 eZ (fun a k h1 h2 => hS335.2.2.2.2.1 a k (by omega)) (fun u hu a k h1 h2 => hS335.2.2.2.2.2.2.1 rfl (by omega) u hu a k h1 h2)⟩
      have ha349 := RA_keep hra (NA.tr na334 na343)
      exact ih Z116 I116 J116 (rc - 100) (rs - 2100) (x3 + 6) h341 hr345 hs346 hj347 ht348 ha349 (by omega) (by omega) (by omega) (by omega)
    · skip
      refine ⟨hv1, ?_⟩
      refine ⟨hv2, ?_⟩
      refine sfX11_personOf h.1 h.2.2.1 (fun v120 I119 hW351 hF352 => ?_)
      have nt353 : NT Z I Z I119 := NT_fr h hF352 (by intro a k h; omega)
      have h354 := IV_x h hW351 hF352 (by intro a k h; omega)
      have nx355 : NX Z I Z I119 := NX_fr hF352 (by omega) (by omega) (by omega)
      have ns356 : NS Z I Z I119 := NS_fr hF352 (by intro a k h; omega)
      have na357 : NA Z I Z I119 := NA_fr hF352 (by intro a k h; omega)
      refine ⟨hv1, ?_⟩
      refine ⟨hv2, ?_⟩
      refine sfX12_personOf h354.2.2.2.1 h354.2.2.2.2.1 (fun v124 I123 hW359 hF360 => ?_)
      have nt361 : NT Z I119 Z I123 := NT_fr h354 hF360 (by intro a k h; omega)
      have h362 := IV_m h354 hW359 hF360 (by intro a k h; omega)
      have nx363 : NX Z I119 Z I123 := NX_fr hF360 (by omega) (by omega) (by omega)
      have ns364 : NS Z I119 Z I123 := NS_fr hF360 (by intro a k h; omega)
      have na365 : NA Z I119 Z I123 := NA_fr hF360 (by intro a k h; omega)
      have hr366 := RV_keep hr (NX.tr nx355 nx363)
      have hs367 := RS_keep hrs (NS.tr ns356 ns364)
      have hj368 := RJ_keep hrj (NS.tr ns356 ns364) NJ.rf
      have ht369 := RT_keep h hrt (NT.tr nt353 nt361)
      have ha370 := RA_keep hra (NA.tr na357 na365)
      exact ih Z I123 J rc rs (x3 + 6) h362 hr366 hs367 hj368 ht369 ha370 (by omega) (by omega) (by omega) (by omega)
    · skip
      refine ⟨hv1, ?_⟩
      refine ⟨hv2, ?_⟩
      refine sfX11_knownOf h.1 h.2.2.1 (fun v128 I127 hW372 hF373 => ?_)
      have nt374 : NT Z I Z I127 := NT_fr h hF373 (by intro a k h; omega)
      have h375 := IV_x h hW372 hF373 (by intro a k h; omega)
      have nx376 : NX Z I Z I127 := NX_fr hF373 (by omega) (by omega) (by omega)
      have ns377 : NS Z I Z I127 := NS_fr hF373 (by intro a k h; omega)
      have na378 : NA Z I Z I127 := NA_fr hF373 (by intro a k h; omega)
      refine ⟨hv1, ?_⟩
      refine ⟨hv2, ?_⟩
      refine sfX12_knownOf h375.2.2.2.1 h375.2.2.2.2.1 (fun v132 I131 hW380 hF381 => ?_)
      have nt382 : NT Z I127 Z I131 := NT_fr h375 hF381 (by intro a k h; omega)
      have h383 := IV_m h375 hW380 hF381 (by intro a k h; omega)
      have nx384 : NX Z I127 Z I131 := NX_fr hF381 (by omega) (by omega) (by omega)
      have ns385 : NS Z I127 Z I131 := NS_fr hF381 (by intro a k h; omega)
      have na386 : NA Z I127 Z I131 := NA_fr hF381 (by intro a k h; omega)
      have hr387 := RV_keep hr (NX.tr nx376 nx384)
      have hs388 := RS_keep hrs (NS.tr ns377 ns385)
      have hj389 := RJ_keep hrj (NS.tr ns377 ns385) NJ.rf
      have ht390 := RT_keep h hrt (NT.tr nt374 nt382)
      have ha391 := RA_keep hra (NA.tr na378 na386)
      exact ih Z I131 J rc rs (x3 + 6) h383 hr387 hs388 hj389 ht390 ha391 (by omega) (by omega) (by omega) (by omega)
    · skip
      refine ⟨hv1, ?_⟩
      refine sfX11_isGroup h.1 h.2.2.1 (fun v135 I134 hW393 hF394 => ?_)
      have nt395 : NT Z I Z I134 := NT_fr h hF394 (by intro a k h; omega)
      have h396 := IV_x h hW393 hF394 (by intro a k h; omega)
      have nx397 : NX Z I Z I134 := NX_fr hF394 (by omega) (by omega) (by omega)
      have ns398 : NS Z I Z I134 := NS_fr hF394 (by intro a k h; omega)
      have na399 : NA Z I Z I134 := NA_fr hF394 (by intro a k h; omega)
      refine ⟨hv1, ?_⟩
      refine sfX12_isGroup h396.2.2.2.1 h396.2.2.2.2.1 (fun v138 I137 hW401 hF402 => ?_)
      have nt403 : NT Z I134 Z I137 := NT_fr h396 hF402 (by intro a k h; omega)
      have h404 := IV_m h396 hW401 hF402 (by intro a k h; omega)
      have nx405 : NX Z I134 Z I137 := NX_fr hF402 (by omega) (by omega) (by omega)
      have ns406 : NS Z I134 Z I137 := NS_fr hF402 (by intro a k h; omega)
      have na407 : NA Z I134 Z I137 := NA_fr hF402 (by intro a k h; omega)
      have hr408 := RV_keep hr (NX.tr nx397 nx405)
      have hs409 := RS_keep hrs (NS.tr ns398 ns406)
      have hj410 := RJ_keep hrj (NS.tr ns398 ns406) NJ.rf
      have ht411 := RT_keep h hrt (NT.tr nt395 nt403)
      have ha412 := RA_keep hra (NA.tr na399 na407)
      exact ih Z I137 J rc rs (x3 + 6) h404 hr408 hs409 hj410 ht411 ha412 (by omega) (by omega) (by omega) (by omega)
    · skip
      refine ⟨hv1, ?_⟩
      refine sfX11_groups h.1 h.2.2.1 (fun v141 I140 hW414 hF415 => ?_)
      have nt416 : NT Z I Z I140 := NT_fr h hF415 (by intro a k h; omega)
      have h417 := IV_x h hW414 hF415 (by intro a k h; omega)
      have nx418 : NX Z I Z I140 := NX_fr hF415 (by omega) (by omega) (by omega)
      have ns419 : NS Z I Z I140 := NS_fr hF415 (by intro a k h; omega)
      have na420 : NA Z I Z I140 := NA_fr hF415 (by intro a k h; omega)
      refine ⟨hv1, ?_⟩
      refine sfX12_groups h417.2.2.2.1 h417.2.2.2.2.1 (fun v144 I143 hW422 hF423 => ?_)
      have nt424 : NT Z I140 Z I143 := NT_fr h417 hF423 (by intro a k h; omega)
      have h425 := IV_m h417 hW422 hF423 (by intro a k h; omega)
      have nx426 : NX Z I140 Z I143 := NX_fr hF423 (by omega) (by omega) (by omega)
      have ns427 : NS Z I140 Z I143 := NS_fr hF423 (by intro a k h; omega)
      have na428 : NA Z I140 Z I143 := NA_fr hF423 (by intro a k h; omega)
      have hr429 := RV_keep hr (NX.tr nx418 nx426)
      have hs430 := RS_keep hrs (NS.tr ns419 ns427)
      have hj431 := RJ_keep hrj (NS.tr ns419 ns427) NJ.rf
      have ht432 := RT_keep h hrt (NT.tr nt416 nt424)
      have ha433 := RA_keep hra (NA.tr na420 na428)
      exact ih Z I143 J rc rs (x3 + 6) h425 hr429 hs430 hj431 ht432 ha433 (by omega) (by omega) (by omega) (by omega)
    · skip
      refine ⟨hv1, ?_⟩
      refine sfX11_firstOf h.1 h.2.2.1 (fun v147 I146 hW435 hF436 => ?_)
      have nt437 : NT Z I Z I146 := NT_fr h hF436 (by intro a k h; omega)
      have h438 := IV_x h hW435 hF436 (by intro a k h; omega)
      have nx439 : NX Z I Z I146 := NX_fr hF436 (by omega) (by omega) (by omega)
      have ns440 : NS Z I Z I146 := NS_fr hF436 (by intro a k h; omega)
      have na441 : NA Z I Z I146 := NA_fr hF436 (by intro a k h; omega)
      refine ⟨hv1, ?_⟩
      refine sfX12_firstOf h438.2.2.2.1 h438.2.2.2.2.1 (fun v150 I149 hW443 hF444 => ?_)
      have nt445 : NT Z I146 Z I149 := NT_fr h438 hF444 (by intro a k h; omega)
      have h446 := IV_m h438 hW443 hF444 (by intro a k h; omega)
      have nx447 : NX Z I146 Z I149 := NX_fr hF444 (by omega) (by omega) (by omega)
      have ns448 : NS Z I146 Z I149 := NS_fr hF444 (by intro a k h; omega)
      have na449 : NA Z I146 Z I149 := NA_fr hF444 (by intro a k h; omega)
      have hr450 := RV_keep hr (NX.tr nx439 nx447)
      have hs451 := RS_keep hrs (NS.tr ns440 ns448)
      have hj452 := RJ_keep hrj (NS.tr ns440 ns448) NJ.rf
      have ht453 := RT_keep h hrt (NT.tr nt437 nt445)
      have ha454 := RA_keep hra (NA.tr na441 na449)
      exact ih Z I149 J rc rs (x3 + 6) h446 hr450 hs451 hj452 ht453 ha454 (by omega) (by omega) (by omega) (by omega)
    · skip
      refine ⟨hv1, ?_⟩
      refine sfX11_most h.1 h.2.2.1 (fun v153 I152 hW456 hF457 => ?_)
      have nt458 : NT Z I Z I152 := NT_fr h hF457 (by intro a k h; omega)
      have h459 := IV_x h hW456 hF457 (by intro a k h; omega)
      have nx460 : NX Z I Z I152 := NX_fr hF457 (by omega) (by omega) (by omega)
      have ns461 : NS Z I Z I152 := NS_fr hF457 (by intro a k h; omega)
      have na462 : NA Z I Z I152 := NA_fr hF457 (by intro a k h; omega)
      refine ⟨hv1, ?_⟩
      refine sfX12_most h459.2.2.2.1 h459.2.2.2.2.1 (fun v156 I155 hW464 hF465 => ?_)
      have nt466 : NT Z I152 Z I155 := NT_fr h459 hF465 (by intro a k h; omega)
      have h467 := IV_m h459 hW464 hF465 (by intro a k h; omega)
      have nx468 : NX Z I152 Z I155 := NX_fr hF465 (by omega) (by omega) (by omega)
      have ns469 : NS Z I152 Z I155 := NS_fr hF465 (by intro a k h; omega)
      have na470 : NA Z I152 Z I155 := NA_fr hF465 (by intro a k h; omega)
      have hr471 := RV_keep hr (NX.tr nx460 nx468)
      have hs472 := RS_keep hrs (NS.tr ns461 ns469)
      have hj473 := RJ_keep hrj (NS.tr ns461 ns469) NJ.rf
      have ht474 := RT_keep h hrt (NT.tr nt458 nt466)
      have ha475 := RA_keep hra (NA.tr na462 na470)
      exact ih Z I155 J rc rs (x3 + 6) h467 hr471 hs472 hj473 ht474 ha475 (by omega) (by omega) (by omega) (by omega)
    · skip
      refine ⟨hv1, ?_⟩
      refine ⟨hv2, ?_⟩
      refine sfX11_mostOf h.1 h.2.2.1 (fun v160 I159 hW477 hF478 => ?_)
      have nt479 : NT Z I Z I159 := NT_fr h hF478 (by intro a k h; omega)
      have h480 := IV_x h hW477 hF478 (by intro a k h; omega)
      have nx481 : NX Z I Z I159 := NX_fr hF478 (by omega) (by omega) (by omega)
      have ns482 : NS Z I Z I159 := NS_fr hF478 (by intro a k h; omega)
      have na483 : NA Z I Z I159 := NA_fr hF478 (by intro a k h; omega)
      refine ⟨hv1, ?_⟩
      refine ⟨hv2, ?_⟩
      refine sfX12_mostOf h480.2.2.2.1 h480.2.2.2.2.1 (fun v164 I163 hW485 hF486 => ?_)
      have nt487 : NT Z I159 Z I163 := NT_fr h480 hF486 (by intro a k h; omega)
      have h488 := IV_m h480 hW485 hF486 (by intro a k h; omega)
      have nx489 : NX Z I159 Z I163 := NX_fr hF486 (by omega) (by omega) (by omega)
      have ns490 : NS Z I159 Z I163 := NS_fr hF486 (by intro a k h; omega)
      have na491 : NA Z I159 Z I163 := NA_fr hF486 (by intro a k h; omega)
      have hr492 := RV_keep hr (NX.tr nx481 nx489)
      have hs493 := RS_keep hrs (NS.tr ns482 ns490)
      have hj494 := RJ_keep hrj (NS.tr ns482 ns490) NJ.rf
      have ht495 := RT_keep h hrt (NT.tr nt479 nt487)
      have ha496 := RA_keep hra (NA.tr na483 na491)
      exact ih Z I163 J rc rs (x3 + 6) h488 hr492 hs493 hj494 ht495 ha496 (by omega) (by omega) (by omega) (by omega)
    · skip
      refine ⟨hv1, ?_⟩
      refine ⟨hv2, ?_⟩
      refine ⟨hv3, ?_⟩
      refine sfX11_sends h.1 h.2.1 h.2.2.1 (fun v169 I168 hW498 hF499 => ?_)
      have nt500 : NT Z I Z I168 := NT_fr h hF499 (by intro a k h; omega)
      have h501 := IV_x h hW498 hF499 (by intro a k h; omega)
      have nx502 : NX Z I Z I168 := NX_fr hF499 (by omega) (by omega) (by omega)
      have ns503 : NS Z I Z I168 := NS_fr hF499 (by intro a k h; omega)
      have na504 : NA Z I Z I168 := NA_fr hF499 (by intro a k h; omega)
      refine ⟨hv1, ?_⟩
      refine ⟨hv2, ?_⟩
      refine ⟨hv3, ?_⟩
      refine sfX12_sends h501.2.2.2.1 h501.2.2.2.2.1 (fun v174 I173 hW506 hF507 => ?_)
      have nt508 : NT Z I168 Z I173 := NT_fr h501 hF507 (by intro a k h; omega)
      have h509 := IV_m h501 hW506 hF507 (by intro a k h; omega)
      have nx510 : NX Z I168 Z I173 := NX_fr hF507 (by omega) (by omega) (by omega)
      have ns511 : NS Z I168 Z I173 := NS_fr hF507 (by intro a k h; omega)
      have na512 : NA Z I168 Z I173 := NA_fr hF507 (by intro a k h; omega)
      have hr513 := RV_keep hr (NX.tr nx502 nx510)
      have hs514 := RS_keep hrs (NS.tr ns503 ns511)
      have hj515 := RJ_keep hrj (NS.tr ns503 ns511) NJ.rf
      have ht516 := RT_keep h hrt (NT.tr nt500 nt508)
      have ha517 := RA_keep hra (NA.tr na504 na512)
      exact ih Z I173 J rc rs (x3 + 6) h509 hr513 hs514 hj515 ht516 ha517 (by omega) (by omega) (by omega) (by omega)
    · skip
      refine ⟨hv1, ?_⟩
      refine sfX11_run h.1 h.2.1 h.2.2.1 (fun v177 I176 hW519 hF520 => ?_)
      have nt521 : NT Z I Z I176 := NT_fr h hF520 (by intro a k h; omega)
      have h522 := IV_x h hW519 hF520 (by intro a k h; omega)
      have nx523 : NX Z I Z I176 := NX_fr hF520 (by omega) (by omega) (by omega)
      have ns524 : NS Z I Z I176 := NS_fr hF520 (by intro a k h; omega)
      have na525 : NA Z I Z I176 := NA_fr hF520 (by intro a k h; omega)
      refine ⟨hv1, ?_⟩
      refine sfX12_run h522.2.2.2.1 h522.2.2.2.2.1 (fun v180 I179 hW527 hF528 => ?_)
      have nt529 : NT Z I176 Z I179 := NT_fr h522 hF528 (by intro a k h; omega)
      have h530 := IV_m h522 hW527 hF528 (by intro a k h; omega)
      have nx531 : NX Z I176 Z I179 := NX_fr hF528 (by omega) (by omega) (by omega)
      have ns532 : NS Z I176 Z I179 := NS_fr hF528 (by intro a k h; omega)
      have na533 : NA Z I176 Z I179 := NA_fr hF528 (by intro a k h; omega)
      have hr534 := RV_keep hr (NX.tr nx523 nx531)
      have hs535 := RS_keep hrs (NS.tr ns524 ns532)
      have hj536 := RJ_keep hrj (NS.tr ns524 ns532) NJ.rf
      have ht537 := RT_keep h hrt (NT.tr nt521 nt529)
      have ha538 := RA_keep hra (NA.tr na525 na533)
      exact ih Z I179 J rc rs (x3 + 6) h530 hr534 hs535 hj536 ht537 ha538 (by omega) (by omega) (by omega) (by omega)
    · skip
      refine ⟨hv1, ?_⟩
      refine ⟨hv2, ?_⟩
      refine sfX11_coach h.1 h.2.1 h.2.2.1 (fun v184 I183 hW540 hF541 => ?_)
      have nt542 : NT Z I Z I183 := NT_fr h hF541 (by intro a k h; omega)
      have h543 := IV_x h hW540 hF541 (by intro a k h; omega)
      have nx544 : NX Z I Z I183 := NX_fr hF541 (by omega) (by omega) (by omega)
      have ns545 : NS Z I Z I183 := NS_fr hF541 (by intro a k h; omega)
      have na546 : NA Z I Z I183 := NA_fr hF541 (by intro a k h; omega)
      refine ⟨hv1, ?_⟩
      refine ⟨hv2, ?_⟩
      refine sfX12_coach h543.2.2.2.1 h543.2.2.2.2.1 (fun v188 I187 hW548 hF549 => ?_)
      have nt550 : NT Z I183 Z I187 := NT_fr h543 hF549 (by intro a k h; omega)
      have h551 := IV_m h543 hW548 hF549 (by intro a k h; omega)
      have nx552 : NX Z I183 Z I187 := NX_fr hF549 (by omega) (by omega) (by omega)
      have ns553 : NS Z I183 Z I187 := NS_fr hF549 (by intro a k h; omega)
      have na554 : NA Z I183 Z I187 := NA_fr hF549 (by intro a k h; omega)
      have hr555 := RV_keep hr (NX.tr nx544 nx552)
      have hs556 := RS_keep hrs (NS.tr ns545 ns553)
      have hj557 := RJ_keep hrj (NS.tr ns545 ns553) NJ.rf
      have ht558 := RT_keep h hrt (NT.tr nt542 nt550)
      have ha559 := RA_keep hra (NA.tr na546 na554)
      exact ih Z I187 J rc rs (x3 + 6) h551 hr555 hs556 hj557 ht558 ha559 (by omega) (by omega) (by omega) (by omega)
    · skip
      refine ⟨hv1, ?_⟩
      refine sfX11_left h.1 h.2.1 h.2.2.1 (fun v191 I190 hW561 hF562 => ?_)
      have nt563 : NT Z I Z I190 := NT_fr h hF562 (by intro a k h; omega)
      have h564 := IV_x h hW561 hF562 (by intro a k h; omega)
      have nx565 : NX Z I Z I190 := NX_fr hF562 (by omega) (by omega) (by omega)
      have ns566 : NS Z I Z I190 := NS_fr hF562 (by intro a k h; omega)
      have na567 : NA Z I Z I190 := NA_fr hF562 (by intro a k h; omega)
      refine ⟨hv1, ?_⟩
      refine sfX12_left h564.2.2.2.1 h564.2.2.2.2.1 (fun v194 I193 hW569 hF570 => ?_)
      have nt571 : NT Z I190 Z I193 := NT_fr h564 hF570 (by intro a k h; omega)
      have h572 := IV_m h564 hW569 hF570 (by intro a k h; omega)
      have nx573 : NX Z I190 Z I193 := NX_fr hF570 (by omega) (by omega) (by omega)
      have ns574 : NS Z I190 Z I193 := NS_fr hF570 (by intro a k h; omega)
      have na575 : NA Z I190 Z I193 := NA_fr hF570 (by intro a k h; omega)
      have hr576 := RV_keep hr (NX.tr nx565 nx573)
      have hs577 := RS_keep hrs (NS.tr ns566 ns574)
      have hj578 := RJ_keep hrj (NS.tr ns566 ns574) NJ.rf
      have ht579 := RT_keep h hrt (NT.tr nt563 nt571)
      have ha580 := RA_keep hra (NA.tr na567 na575)
      exact ih Z I193 J rc rs (x3 + 6) h572 hr576 hs577 hj578 ht579 ha580 (by omega) (by omega) (by omega) (by omega)
    · skip
      refine ⟨hv1, ?_⟩
      refine ⟨hv2, ?_⟩
      refine sfX11_waits h.1 h.2.1 h.2.2.1 (fun v198 I197 hW582 hF583 => ?_)
      have nt584 : NT Z I Z I197 := NT_fr h hF583 (by intro a k h; omega)
      have h585 := IV_x h hW582 hF583 (by intro a k h; omega)
      have nx586 : NX Z I Z I197 := NX_fr hF583 (by omega) (by omega) (by omega)
      have ns587 : NS Z I Z I197 := NS_fr hF583 (by intro a k h; omega)
      have na588 : NA Z I Z I197 := NA_fr hF583 (by intro a k h; omega)
      refine ⟨hv1, ?_⟩
      refine ⟨hv2, ?_⟩
      refine sfX12_waits h585.2.2.2.1 h585.2.2.2.2.1 (fun v202 I201 hW590 hF591 => ?_)
      have nt592 : NT Z I197 Z I201 := NT_fr h585 hF591 (by intro a k h; omega)
      have h593 := IV_m h585 hW590 hF591 (by intro a k h; omega)
      have nx594 : NX Z I197 Z I201 := NX_fr hF591 (by omega) (by omega) (by omega)
      have ns595 : NS Z I197 Z I201 := NS_fr hF591 (by intro a k h; omega)
      have na596 : NA Z I197 Z I201 := NA_fr hF591 (by intro a k h; omega)
      have hr597 := RV_keep hr (NX.tr nx586 nx594)
      have hs598 := RS_keep hrs (NS.tr ns587 ns595)
      have hj599 := RJ_keep hrj (NS.tr ns587 ns595) NJ.rf
      have ht600 := RT_keep h hrt (NT.tr nt584 nt592)
      have ha601 := RA_keep hra (NA.tr na588 na596)
      exact ih Z I201 J rc rs (x3 + 6) h593 hr597 hs598 hj599 ht600 ha601 (by omega) (by omega) (by omega) (by omega)
    · skip
      refine ⟨hv1, ?_⟩
      refine sfX11_least h.1 h.2.2.1 (fun v205 I204 hW603 hF604 => ?_)
      have nt605 : NT Z I Z I204 := NT_fr h hF604 (by intro a k h; omega)
      have h606 := IV_x h hW603 hF604 (by intro a k h; omega)
      have nx607 : NX Z I Z I204 := NX_fr hF604 (by omega) (by omega) (by omega)
      have ns608 : NS Z I Z I204 := NS_fr hF604 (by intro a k h; omega)
      have na609 : NA Z I Z I204 := NA_fr hF604 (by intro a k h; omega)
      refine ⟨hv1, ?_⟩
      refine sfX12_least h606.2.2.2.1 h606.2.2.2.2.1 (fun v208 I207 hW611 hF612 => ?_)
      have nt613 : NT Z I204 Z I207 := NT_fr h606 hF612 (by intro a k h; omega)
      have h614 := IV_m h606 hW611 hF612 (by intro a k h; omega)
      have nx615 : NX Z I204 Z I207 := NX_fr hF612 (by omega) (by omega) (by omega)
      have ns616 : NS Z I204 Z I207 := NS_fr hF612 (by intro a k h; omega)
      have na617 : NA Z I204 Z I207 := NA_fr hF612 (by intro a k h; omega)
      have hr618 := RV_keep hr (NX.tr nx607 nx615)
      have hs619 := RS_keep hrs (NS.tr ns608 ns616)
      have hj620 := RJ_keep hrj (NS.tr ns608 ns616) NJ.rf
      have ht621 := RT_keep h hrt (NT.tr nt605 nt613)
      have ha622 := RA_keep hra (NA.tr na609 na617)
      exact ih Z I207 J rc rs (x3 + 6) h614 hr618 hs619 hj620 ht621 ha622 (by omega) (by omega) (by omega) (by omega)
    · skip
      refine sfX11_head h.1 h.2.1 h.2.2.1 (fun v210 I209 hW624 hF625 => ?_)
      have nt626 : NT Z I Z I209 := NT_fr h hF625 (by intro a k h; omega)
      have h627 := IV_x h hW624 hF625 (by intro a k h; omega)
      have nx628 : NX Z I Z I209 := NX_fr hF625 (by omega) (by omega) (by omega)
      have ns629 : NS Z I Z I209 := NS_fr hF625 (by intro a k h; omega)
      have na630 : NA Z I Z I209 := NA_fr hF625 (by intro a k h; omega)
      refine sfX12_head h627.2.2.2.1 h627.2.2.2.2.1 (fun v212 I211 hW632 hF633 => ?_)
      have nt634 : NT Z I209 Z I211 := NT_fr h627 hF633 (by intro a k h; omega)
      have h635 := IV_m h627 hW632 hF633 (by intro a k h; omega)
      have nx636 : NX Z I209 Z I211 := NX_fr hF633 (by omega) (by omega) (by omega)
      have ns637 : NS Z I209 Z I211 := NS_fr hF633 (by intro a k h; omega)
      have na638 : NA Z I209 Z I211 := NA_fr hF633 (by intro a k h; omega)
      have hr639 := RV_keep hr (NX.tr nx628 nx636)
      have hs640 := RS_keep hrs (NS.tr ns629 ns637)
      have hj641 := RJ_keep hrj (NS.tr ns629 ns637) NJ.rf
      have ht642 := RT_keep h hrt (NT.tr nt626 nt634)
      have ha643 := RA_keep hra (NA.tr na630 na638)
      exact ih Z I211 J rc rs (x3 + 6) h635 hr639 hs640 hj641 ht642 ha643 (by omega) (by omega) (by omega) (by omega)
    · skip
      refine ⟨hv1, ?_⟩
      refine sfX11_days h.1 h.2.1 h.2.2.1 (fun v215 I214 hW645 hF646 => ?_)
      have nt647 : NT Z I Z I214 := NT_fr h hF646 (by intro a k h; omega)
      have h648 := IV_x h hW645 hF646 (by intro a k h; omega)
      have nx649 : NX Z I Z I214 := NX_fr hF646 (by omega) (by omega) (by omega)
      have ns650 : NS Z I Z I214 := NS_fr hF646 (by intro a k h; omega)
      have na651 : NA Z I Z I214 := NA_fr hF646 (by intro a k h; omega)
      refine ⟨hv1, ?_⟩
      have hfc := fC_le Z 45
      refine ⟨(fC Z 45), (fS Z 45), rc - 100, rs - 2100, by omega, by omega, ?_⟩
      refine qX12_days hG h648.2.2.2 (fun v654 Z217 I217 J217 hS652 => ⟨v654, rfl, (IV_s h648 hS652).1, hS652.1.1, ?_⟩)
      have h656 := IV_s h648 hS652
      have nx657 := NX_st h648 hS652 (by decide)
      have ns658 := NS_st h648 hS652
      have na659 := NA_st h648 hS652
      have nj660 := NJ_st h648 hS652
      have nt661 := NT_st h648 hS652 (by decide)
      have hr662 := RV_keep hr (NX.tr nx649 nx657)
      have hs663 := RS_keep hrs (NS.tr ns650 ns658)
      have hj664 := RJ_keep hrj (NS.tr ns650 ns658) nj660
      have ht665 := RT_keep h hrt (NT.tr nt647 nt661)
      have ha666 := RA_keep hra (NA.tr na651 na659)
      exact ih Z217 I217 J217 (rc - 100) (rs - 2100) (x3 + 6) h656 hr662 hs663 hj664 ht665 ha666 (by omega) (by omega) (by omega) (by omega)
    · skip
      refine ⟨hv1, ?_⟩
      refine sfX11_ever h.1 h.2.2.1 (fun v220 I219 hW668 hF669 => ?_)
      have nt670 : NT Z I Z I219 := NT_fr h hF669 (by intro a k h; omega)
      have h671 := IV_x h hW668 hF669 (by intro a k h; omega)
      have nx672 : NX Z I Z I219 := NX_fr hF669 (by omega) (by omega) (by omega)
      have ns673 : NS Z I Z I219 := NS_fr hF669 (by intro a k h; omega)
      have na674 : NA Z I Z I219 := NA_fr hF669 (by intro a k h; omega)
      refine ⟨hv1, ?_⟩
      refine ⟨1, 40, rc - 100, rs - 2100, by omega, by omega, ?_⟩
      refine qX12_ever h671.2.2.2 (fun v677 Z222 I222 J222 hS675 => ⟨v677, rfl, (IV_s h671 hS675).1, hS675.1.1, ?_⟩)
      have h679 := IV_s h671 hS675
      have nx680 := NX_st h671 hS675 (by decide)
      have ns681 := NS_st h671 hS675
      have na682 := NA_st h671 hS675
      have nj683 := NJ_st h671 hS675
      have nt684 := NT_st h671 hS675 (by decide)
      have hr685 := RV_keep hr (NX.tr nx672 nx680)
      have hs686 := RS_keep hrs (NS.tr ns673 ns681)
      have hj687 := RJ_keep hrj (NS.tr ns673 ns681) nj683
      have ht688 := RT_keep h hrt (NT.tr nt670 nt684)
      have ha689 := RA_keep hra (NA.tr na674 na682)
      exact ih Z222 I222 J222 (rc - 100) (rs - 2100) (x3 + 6) h679 hr685 hs686 hj687 ht688 ha689 (by omega) (by omega) (by omega) (by omega)
    · skip
      refine sfX11_hire h.1 h.2.2.1 (fun v224 I223 hW691 hF692 => ?_)
      have nt693 : NT Z I Z I223 := NT_fr h hF692 (by intro a k h; omega)
      have h694 := IV_x h hW691 hF692 (by intro a k h; omega)
      have nx695 : NX Z I Z I223 := NX_fr hF692 (by omega) (by omega) (by omega)
      have ns696 : NS Z I Z I223 := NS_fr hF692 (by intro a k h; omega)
      have na697 : NA Z I Z I223 := NA_fr hF692 (by intro a k h; omega)
      have hfc := fC_le Z 45
      refine ⟨(fC Z 45), (fS Z 45), rc - 100, rs - 2100, by omega, by omega, ?_⟩
      refine qX12_hire hG h694.2.2.2 (fun v700 Z225 I225 J225 hS698 => ⟨v700, rfl, (IV_s h694 hS698).1, hS698.1.1, ?_⟩)
      have h702 := IV_s h694 hS698
      have nx703 := NX_st h694 hS698 (by decide)
      have ns704 := NS_st h694 hS698
      have na705 := NA_st h694 hS698
      have nj706 := NJ_st h694 hS698
      have nt707 := NT_st h694 hS698 (by decide)
      have hr708 := RV_keep hr (NX.tr nx695 nx703)
      have hs709 := RS_keep hrs (NS.tr ns696 ns704)
      have hj710 := RJ_keep hrj (NS.tr ns696 ns704) nj706
      have ht711 := RT_keep h hrt (NT.tr nt693 nt707)
      have ha712 := RA_keep hra (NA.tr na697 na705)
      exact ih Z225 I225 J225 (rc - 100) (rs - 2100) (x3 + 6) h702 hr708 hs709 hj710 ht711 ha712 (by omega) (by omega) (by omega) (by omega)
    · skip
      refine ⟨hv1, ?_⟩
      refine sfX11_feast h.1 h.2.2.1 (fun v228 I227 hW714 hF715 => ?_)
      have nt716 : NT Z I Z I227 := NT_fr h hF715 (by intro a k h; omega)
      have h717 := IV_x h hW714 hF715 (by intro a k h; omega)
      have nx718 : NX Z I Z I227 := NX_fr hF715 (by omega) (by omega) (by omega)
      have ns719 : NS Z I Z I227 := NS_fr hF715 (by intro a k h; omega)
      have na720 : NA Z I Z I227 := NA_fr hF715 (by intro a k h; omega)
      refine ⟨hv1, ?_⟩
      refine ⟨40, 2026, rc - 100, rs - 2100, by omega, by omega, ?_⟩
      refine qX12_feast hG h717.2.2.2 (fun v723 Z230 I230 J230 hS721 => ⟨v723, rfl, (IV_s h717 hS721).1, hS721.1.1, ?_⟩)
      have h725 := IV_s h717 hS721
      have nx726 := NX_st h717 hS721 (by decide)
      have ns727 := NS_st h717 hS721
      have na728 := NA_st h717 hS721
      have nj729 := NJ_st h717 hS721
      have nt730 := NT_st h717 hS721 (by decide)
      have hr731 := RV_keep hr (NX.tr nx718 nx726)
      have hs732 := RS_keep hrs (NS.tr ns719 ns727)
      have hj733 := RJ_keep hrj (NS.tr ns719 ns727) nj729
      have ht734 := RT_keep h hrt (NT.tr nt716 nt730)
      have ha735 := RA_keep hra (NA.tr na720 na728)
      exact ih Z230 I230 J230 (rc - 100) (rs - 2100) (x3 + 6) h725 hr731 hs732 hj733 ht734 ha735 (by omega) (by omega) (by omega) (by omega)
    · skip
      refine ⟨hv1, ?_⟩
      refine ⟨hv2, ?_⟩
      refine sfX11_closes h.1 h.2.2.1 (fun v234 I233 hW737 hF738 => ?_)
      have nt739 : NT Z I Z I233 := NT_fr h hF738 (by intro a k h; omega)
      have h740 := IV_x h hW737 hF738 (by intro a k h; omega)
      have nx741 : NX Z I Z I233 := NX_fr hF738 (by omega) (by omega) (by omega)
      have ns742 : NS Z I Z I233 := NS_fr hF738 (by intro a k h; omega)
      have na743 : NA Z I Z I233 := NA_fr hF738 (by intro a k h; omega)
      refine ⟨hv1, ?_⟩
      refine ⟨hv2, ?_⟩
      have hfc := fC_le Z 45
      refine ⟨(fC Z 45), (fS Z 45), rc - 100, rs - 2100, by omega, by omega, ?_⟩
      refine qX12_closes hG h740.2.2.2 (fun v746 Z237 I237 J237 hS744 => ⟨v746, rfl, (IV_s h740 hS744).1, hS744.1.1, ?_⟩)
      have h748 := IV_s h740 hS744
      have nx749 := NX_st h740 hS744 (by decide)
      have ns750 := NS_st h740 hS744
      have na751 := NA_st h740 hS744
      have nj752 := NJ_st h740 hS744
      have nt753 := NT_st h740 hS744 (by decide)
      have hr754 := RV_keep hr (NX.tr nx741 nx749)
      have hs755 := RS_keep hrs (NS.tr ns742 ns750)
      have hj756 := RJ_keep hrj (NS.tr ns742 ns750) nj752
      have ht757 := RT_keep h hrt (NT.tr nt739 nt753)
      have ha758 := RA_keep hra (NA.tr na743 na751)
      exact ih Z237 I237 J237 (rc - 100) (rs - 2100) (x3 + 6) h748 hr754 hs755 hj756 ht757 ha758 (by omega) (by omega) (by omega) (by omega)
    · skip
      refine sfX11_worst h.1 h.2.2.1 (fun v239 I238 hW760 hF761 => ?_)
      have nt762 : NT Z I Z I238 := NT_fr h hF761 (by intro a k h; omega)
      have h763 := IV_x h hW760 hF761 (by intro a k h; omega)
      have nx764 : NX Z I Z I238 := NX_fr hF761 (by omega) (by omega) (by omega)
      have ns765 : NS Z I Z I238 := NS_fr hF761 (by intro a k h; omega)
      have na766 : NA Z I Z I238 := NA_fr hF761 (by intro a k h; omega)
      have hfc := fC_le Z 45
      refine ⟨(fC Z 45), (fS Z 45), rc - 100, rs - 2100, by omega, by omega, ?_⟩
      refine qX12_worst hG h763.2.2.2 (fun v769 Z240 I240 J240 hS767 => ⟨v769, rfl, (IV_s h763 hS767).1, hS767.1.1, ?_⟩)
      have h771 := IV_s h763 hS767
      have nx772 := NX_st h763 hS767 (by decide)
      have ns773 := NS_st h763 hS767
      have na774 := NA_st h763 hS767
      have nj775 := NJ_st h763 hS767
      have nt776 := NT_st h763 hS767 (by decide)
      have hr777 := RV_keep hr (NX.tr nx764 nx772)
      have hs778 := RS_keep hrs (NS.tr ns765 ns773)
      have hj779 := RJ_keep hrj (NS.tr ns765 ns773) nj775
      have ht780 := RT_keep h hrt (NT.tr nt762 nt776)
      have ha781 := RA_keep hra (NA.tr na766 na774)
      exact ih Z240 I240 J240 (rc - 100) (rs - 2100) (x3 + 6) h771 hr777 hs778 hj779 ht780 ha781 (by omega) (by omega) (by omega) (by omega)
    · skip
      refine ⟨hv1, ?_⟩
      refine sfX11_fits h.1 h.2.2.1 (fun v243 I242 hW783 hF784 => ?_)
      have nt785 : NT Z I Z I242 := NT_fr h hF784 (by intro a k h; omega)
      have h786 := IV_x h hW783 hF784 (by intro a k h; omega)
      have nx787 : NX Z I Z I242 := NX_fr hF784 (by omega) (by omega) (by omega)
      have ns788 : NS Z I Z I242 := NS_fr hF784 (by intro a k h; omega)
      have na789 : NA Z I Z I242 := NA_fr hF784 (by intro a k h; omega)
      refine ⟨hv1, ?_⟩
      have hfc := fC_le Z 45
      refine ⟨(fC Z 45), (fS Z 45), rc - 100, rs - 2100, by omega, by omega, ?_⟩
      refine qX12_fits hG h786.2.2.2 (fun v792 Z245 I245 J245 hS790 => ⟨v792, rfl, (IV_s h786 hS790).1, hS790.1.1, ?_⟩)
      have h794 := IV_s h786 hS790
      have nx795 := NX_st h786 hS790 (by decide)
      have ns796 := NS_st h786 hS790
      have na797 := NA_st h786 hS790
      have nj798 := NJ_st h786 hS790
      have nt799 := NT_st h786 hS790 (by decide)
      have hr800 := RV_keep hr (NX.tr nx787 nx795)
      have hs801 := RS_keep hrs (NS.tr ns788 ns796)
      have hj802 := RJ_keep hrj (NS.tr ns788 ns796) nj798
      have ht803 := RT_keep h hrt (NT.tr nt785 nt799)
      have ha804 := RA_keep hra (NA.tr na789 na797)
      exact ih Z245 I245 J245 (rc - 100) (rs - 2100) (x3 + 6) h794 hr800 hs801 hj802 ht803 ha804 (by omega) (by omega) (by omega) (by omega)
    · skip
      refine ⟨hv1, ?_⟩
      refine sfX11_sure h.1 h.2.2.1 (fun v248 I247 hW806 hF807 => ?_)
      have nt808 : NT Z I Z I247 := NT_fr h hF807 (by intro a k h; omega)
      have h809 := IV_x h hW806 hF807 (by intro a k h; omega)
      have nx810 : NX Z I Z I247 := NX_fr hF807 (by omega) (by omega) (by omega)
      have ns811 : NS Z I Z I247 := NS_fr hF807 (by intro a k h; omega)
      have na812 : NA Z I Z I247 := NA_fr hF807 (by intro a k h; omega)
      refine ⟨hv1, ?_⟩
      have hfc := fC_le Z 45
      refine ⟨(fC Z 45), (fS Z 45), rc - 100, rs - 2100, by omega, by omega, ?_⟩
      refine qX12_sure hG h809.2.2.2 (fun v815 Z250 I250 J250 hS813 => ⟨v815, rfl, (IV_s h809 hS813).1, hS813.1.1, ?_⟩)
      have h817 := IV_s h809 hS813
      have nx818 := NX_st h809 hS813 (by decide)
      have ns819 := NS_st h809 hS813
      have na820 := NA_st h809 hS813
      have nj821 := NJ_st h809 hS813
      have nt822 := NT_st h809 hS813 (by decide)
      have hr823 := RV_keep hr (NX.tr nx810 nx818)
      have hs824 := RS_keep hrs (NS.tr ns811 ns819)
      have hj825 := RJ_keep hrj (NS.tr ns811 ns819) nj821
      have ht826 := RT_keep h hrt (NT.tr nt808 nt822)
      have ha827 := RA_keep hra (NA.tr na812 na820)
      exact ih Z250 I250 J250 (rc - 100) (rs - 2100) (x3 + 6) h817 hr823 hs824 hj825 ht826 ha827 (by omega) (by omega) (by omega) (by omega)
    · skip
      refine ⟨hv1, ?_⟩
      refine ⟨hv2, ?_⟩
      refine sfX11_judge h.1 h.2.2.1 (fun v254 I253 hW829 hF830 => ?_)
      have nt831 : NT Z I Z I253 := NT_fr h hF830 (by intro a k h; omega)
      have h832 := IV_x h hW829 hF830 (by intro a k h; omega)
      have nx833 : NX Z I Z I253 := NX_fr hF830 (by omega) (by omega) (by omega)
      have ns834 : NS Z I Z I253 := NS_fr hF830 (by intro a k h; omega)
      have na835 : NA Z I Z I253 := NA_fr hF830 (by intro a k h; omega)
      refine ⟨hv1, ?_⟩
      refine ⟨hv2, ?_⟩
      refine sfX12_judge h832.2.2.2.1 h832.2.2.2.2.1 (fun v258 I257 hW837 hF838 => ?_)
      have nt839 : NT Z I253 Z I257 := NT_fr h832 hF838 (by intro a k h; omega)
      have h840 := IV_m h832 hW837 hF838 (by intro a k h; omega)
      have nx841 : NX Z I253 Z I257 := NX_fr hF838 (by omega) (by omega) (by omega)
      have ns842 : NS Z I253 Z I257 := NS_fr hF838 (by intro a k h; omega)
      have na843 : NA Z I253 Z I257 := NA_fr hF838 (by intro a k h; omega)
      have hr844 := RV_keep hr (NX.tr nx833 nx841)
      have hs845 := RS_keep hrs (NS.tr ns834 ns842)
      have hj846 := RJ_keep hrj (NS.tr ns834 ns842) NJ.rf
      have ht847 := RT_keep h hrt (NT.tr nt831 nt839)
      have ha848 := RA_keep hra (NA.tr na835 na843)
      exact ih Z I257 J rc rs (x3 + 6) h840 hr844 hs845 hj846 ht847 ha848 (by omega) (by omega) (by omega) (by omega)
    · skip
      refine ⟨hv1, ?_⟩
      refine ⟨hv2, ?_⟩
      refine ⟨hv3, ?_⟩
      refine sfX11_behind h.1 h.2.2.1 (fun v263 I262 hW850 hF851 => ?_)
      have nt852 : NT Z I Z I262 := NT_fr h hF851 (by intro a k h; omega)
      have h853 := IV_x h hW850 hF851 (by intro a k h; omega)
      have nx854 : NX Z I Z I262 := NX_fr hF851 (by omega) (by omega) (by omega)
      have ns855 : NS Z I Z I262 := NS_fr hF851 (by intro a k h; omega)
      have na856 : NA Z I Z I262 := NA_fr hF851 (by intro a k h; omega)
      refine ⟨hv1, ?_⟩
      refine ⟨hv2, ?_⟩
      refine ⟨hv3, ?_⟩
      have hfc := fC_le Z 45
      refine ⟨(fC Z 45), (fS Z 45), rc - 100, rs - 2100, by omega, by omega, ?_⟩
      refine qX12_behind hG h853.2.2.2 (fun v859 Z267 I267 J267 hS857 => ⟨v859, rfl, (IV_s h853 hS857).1, hS857.1.1, ?_⟩)
      have h861 := IV_s h853 hS857
      have nx862 := NX_st h853 hS857 (by decide)
      have ns863 := NS_st h853 hS857
      have na864 := NA_st h853 hS857
      have nj865 := NJ_st h853 hS857
      have nt866 := NT_st h853 hS857 (by decide)
      have hr867 := RV_keep hr (NX.tr nx854 nx862)
      have hs868 := RS_keep hrs (NS.tr ns855 ns863)
      have hj869 := RJ_keep hrj (NS.tr ns855 ns863) nj865
      have ht870 := RT_keep h hrt (NT.tr nt852 nt866)
      have ha871 := RA_keep hra (NA.tr na856 na864)
      exact ih Z267 I267 J267 (rc - 100) (rs - 2100) (x3 + 6) h861 hr867 hs868 hj869 ht870 ha871 (by omega) (by omega) (by omega) (by omega)
    · skip
      refine ⟨hv1, ?_⟩
      refine ⟨hv2, ?_⟩
      refine pX11_rides h.1 h.2.1 h.2.2.1 ht1 hok (fun v271 I270 hW873 hF874 hp872 => ?_)
      have tm875 := TM_fr ht2 (show s.1.1 ≤ 8 by omega) hF874 (by omega) (by omega) (by omega) (by omega) (by intro a k h1 h2 h3; omega)
      have rk876 := RK_fr h hrt.2.2 hF874 (by intro a k h; omega)
      have tp877 := TP_fr hrt.1 hF874 (by intro a k h; omega)
      have h878 := IV_x h hW873 hF874 (by intro a k h; omega)
      have nx879 : NX Z I Z I270 := NX_fr hF874 (by omega) (by omega) (by omega)
      have ns880 : NS Z I Z I270 := NS_fr hF874 (by intro a k h; omega)
      have na881 : NA Z I Z I270 := NA_fr hF874 (by intro a k h; omega)
      refine ⟨hv1, ?_⟩
      refine ⟨hv2, ?_⟩
      refine pX12_rides h878.2.2.2.1 h878.2.2.2.2.1 tm875 (fun v275 I274 hW883 hF884 hp882 => ?_)
      have rk885 := RK_fr h878 rk876 hF884 (by intro a k h; omega)
      have tp886 := TP_fr tp877 hF884 (by intro a k h; omega)
      have h887 := IV_m h878 hW883 hF884 (by intro a k h; omega)
      have nx888 : NX Z I270 Z I274 := NX_fr hF884 (by omega) (by omega) (by omega)
      have ns889 : NS Z I270 Z I274 := NS_fr hF884 (by intro a k h; omega)
      have na890 : NA Z I270 Z I274 := NA_fr hF884 (by intro a k h; omega)
      have hr891 := RV_keep hr (NX.tr nx879 nx888)
      have hs892 := RS_keep hrs (NS.tr ns880 ns889)
      have hj893 := RJ_keep hrj (NS.tr ns880 ns889) NJ.rf
      have hte := TOLD_eq (x1 := (xs (Int32.toNatClampNeg (x3 + 1)))) (x2 := (xs (Int32.toNatClampNeg (x3 + 2)))) hrs hrj (fun k => hF874 (45 + 1) k (by omega)) (fun k => hF874 (45 + 3) k (by omega))
      rw [hte.1, oRides_c (fun q j hj => hte.2 q j (by have := tX_0 q; omega))] at hp882
      have ht894 : RT Z I274 := ⟨tp886, ⟨_, oRides_ok hok, TX_fr hp872.2 hF884 (by intro a k h1 h2; omega), hp882.2⟩, rk885⟩
      have ha895 := RA_keep hra (NA.tr na881 na890)
      exact ih Z I274 J rc rs (x3 + 6) h887 hr891 hs892 hj893 ht894 ha895 (by omega) (by omega) (by omega) (by omega)
    · skip
      refine ⟨hv1, ?_⟩
      refine pX11_day h.1 h.2.1 (RA_hi hra) h.2.2.1 ht1 hok (fun v278 I277 hW897 hF898 hp896 => ?_)
      have tm899 := TM_fr ht2 (show s.1.1 ≤ 8 by omega) hF898 (by omega) (by omega) (by omega) (by omega) (by intro a k h1 h2 h3; omega)
      have rk900 := RK_fr h hrt.2.2 hF898 (by intro a k h; omega)
      have tp901 := TP_fr hrt.1 hF898 (by intro a k h; omega)
      have h902 := IV_x h hW897 hF898 (by intro a k h; omega)
      have nx903 : NX Z I Z I277 := NX_fr hF898 (by omega) (by omega) (by omega)
      have ns904 : NS Z I Z I277 := NS_fr hF898 (by intro a k h; omega)
      have na905 : NA Z I Z I277 := NA_fr hF898 (by intro a k h; omega)
      refine ⟨hv1, ?_⟩
      refine pX12_day h902.2.2.2.1 h902.2.2.2.2.1 tm899 hok (fun v281 I280 hW907 hF908 hp906 => ?_)
      have rk909 := RK_fr h902 rk900 hF908 (by intro a k h; omega)
      have tp910 := TP_fr tp901 hF908 (by intro a k h; omega)
      have h911 := IV_m h902 hW907 hF908 (by intro a k h; omega)
      have nx912 : NX Z I277 Z I280 := NX_fr hF908 (by omega) (by omega) (by omega)
      have ns913 : NS Z I277 Z I280 := NS_fr hF908 (by intro a k h; omega)
      have na914 : NA Z I277 Z I280 := NA_fr hF908 (by intro a k h; omega)
      have hr915 := RV_keep hr (NX.tr nx903 nx912)
      have hs916 := RS_keep hrs (NS.tr ns904 ns913)
      have hj917 := RJ_keep hrj (NS.tr ns904 ns913) NJ.rf
      have hme := MAN_eq (x := (xs (Int32.toNatClampNeg (x3 + 1)))) hrs hra (fun k => hF898 (45 + 1) k (by omega)) (fun k => hF898 (45 + 14) k (by omega)) (fun k => hF898 (45 + 15) k (by omega))
      rw [hme.1, oDay_c hme.2] at hp906
      have ht918 : RT Z I280 := ⟨tp910, ⟨_, oDay_ok hok, TX_fr hp896.2 hF908 (by intro a k h1 h2; omega), hp906.2⟩, rk909⟩
      have ha919 := RA_keep hra (NA.tr na905 na914)
      exact ih Z I280 J rc rs (x3 + 6) h911 hr915 hs916 hj917 ht918 ha919 (by omega) (by omega) (by omega) (by omega)
    · skip
      refine ⟨hv1, ?_⟩
      refine pX11_meet h.1 h.2.2.1 ht1 (fun v284 I283 hW921 hF922 hp920 => ?_)
      have tm923 := TM_fr ht2 (show s.1.1 ≤ 8 by omega) hF922 (by omega) (by omega) (by omega) (by omega) (by intro a k h1 h2 h3; omega)
      have rk924 := RK_fr h hrt.2.2 hF922 (by intro a k h; omega)
      have tp925 := TP_fr hrt.1 hF922 (by intro a k h; omega)
      have h926 := IV_x h hW921 hF922 (by intro a k h; omega)
      have nx927 : NX Z I Z I283 := NX_fr hF922 (by omega) (by omega) (by omega)
      have ns928 : NS Z I Z I283 := NS_fr hF922 (by intro a k h; omega)
      have na929 : NA Z I Z I283 := NA_fr hF922 (by intro a k h; omega)
      refine ⟨hv1, ?_⟩
      refine pX12_meet h926.2.2.2.1 h926.2.2.2.2.1 tm923 (fun v287 I286 hW931 hF932 hp930 => ?_)
      have rk933 := RK_fr h926 rk924 hF932 (by intro a k h; omega)
      have tp934 := TP_fr tp925 hF932 (by intro a k h; omega)
      have h935 := IV_m h926 hW931 hF932 (by intro a k h; omega)
      have nx936 : NX Z I283 Z I286 := NX_fr hF932 (by omega) (by omega) (by omega)
      have ns937 : NS Z I283 Z I286 := NS_fr hF932 (by intro a k h; omega)
      have na938 : NA Z I283 Z I286 := NA_fr hF932 (by intro a k h; omega)
      have hr939 := RV_keep hr (NX.tr nx927 nx936)
      have hs940 := RS_keep hrs (NS.tr ns928 ns937)
      have hj941 := RJ_keep hrj (NS.tr ns928 ns937) NJ.rf
      have ht942 : RT Z I286 := ⟨tp934, ⟨_, oMeet_ok hok, TX_fr hp920.2 hF932 (by intro a k h1 h2; omega), hp930.2⟩, rk933⟩
      have ha943 := RA_keep hra (NA.tr na929 na938)
      exact ih Z I286 J rc rs (x3 + 6) h935 hr939 hs940 hj941 ht942 ha943 (by omega) (by omega) (by omega) (by omega)
    · skip
      refine pX11_year h.1 h.2.2.1 ht1 hok (fun v289 I288 hW945 hF946 hp944 => ?_)
      have tm947 := TM_fr ht2 (show s.1.1 ≤ 8 by omega) hF946 (by omega) (by omega) (by omega) (by omega) (by intro a k h1 h2 h3; omega)
      have rk948 := RK_fr h hrt.2.2 hF946 (by intro a k h; omega)
      have tp949 := TP_fr hrt.1 hF946 (by intro a k h; omega)
      have h950 := IV_x h hW945 hF946 (by intro a k h; omega)
      have nx951 : NX Z I Z I288 := NX_fr hF946 (by omega) (by omega) (by omega)
      have ns952 : NS Z I Z I288 := NS_fr hF946 (by intro a k h; omega)
      have na953 : NA Z I Z I288 := NA_fr hF946 (by intro a k h; omega)
      refine pX12_year h950.2.2.2.1 h950.2.2.2.2.1 tm947 hok (fun v291 I290 hW955 hF956 hp954 => ?_)
      have rk957 := RK_fr h950 rk948 hF956 (by intro a k h; omega)
      have tp958 := TP_fr tp949 hF956 (by intro a k h; omega)
      have h959 := IV_m h950 hW955 hF956 (by intro a k h; omega)
      have nx960 : NX Z I288 Z I290 := NX_fr hF956 (by omega) (by omega) (by omega)
      have ns961 : NS Z I288 Z I290 := NS_fr hF956 (by intro a k h; omega)
      have na962 : NA Z I288 Z I290 := NA_fr hF956 (by intro a k h; omega)
      have hr963 := RV_keep hr (NX.tr nx951 nx960)
      have hs964 := RS_keep hrs (NS.tr ns952 ns961)
      have hj965 := RJ_keep hrj (NS.tr ns952 ns961) NJ.rf
      have ht966 : RT Z I290 := ⟨tp958, ⟨_, oYear_ok hok, TX_fr hp944.2 hF956 (by intro a k h1 h2; omega), hp954.2⟩, rk957⟩
      have ha967 := RA_keep hra (NA.tr na953 na962)
      exact ih Z I290 J rc rs (x3 + 6) h959 hr963 hs964 hj965 ht966 ha967 (by omega) (by omega) (by omega) (by omega)
    · skip
      refine ⟨hv1, ?_⟩
      refine pX11_come h.1 h.2.2.1 ht1 (fun v294 I293 hW969 hF970 hp968 => ?_)
      have tm971 := TM_fr ht2 (show s.1.1 ≤ 8 by omega) hF970 (by omega) (by omega) (by omega) (by omega) (by intro a k h1 h2 h3; omega)
      have rk972 := RK_fr h hrt.2.2 hF970 (by intro a k h; omega)
      have tp973 := TP_fr hrt.1 hF970 (by intro a k h; omega)
      have h974 := IV_x h hW969 hF970 (by intro a k h; omega)
      have nx975 : NX Z I Z I293 := NX_fr hF970 (by omega) (by omega) (by omega)
      have ns976 : NS Z I Z I293 := NS_fr hF970 (by intro a k h; omega)
      have na977 : NA Z I Z I293 := NA_fr hF970 (by intro a k h; omega)
      refine ⟨hv1, ?_⟩
      refine pX12_come h974.2.2.2.1 h974.2.2.2.2.1 tm971 (fun v297 I296 hW979 hF980 hp978 => ?_)
      have rk981 := RK_fr h974 rk972 hF980 (by intro a k h; omega)
      have tp982 := TP_fr tp973 hF980 (by intro a k h; omega)
      have h983 := IV_m h974 hW979 hF980 (by intro a k h; omega)
      have nx984 : NX Z I293 Z I296 := NX_fr hF980 (by omega) (by omega) (by omega)
      have ns985 : NS Z I293 Z I296 := NS_fr hF980 (by intro a k h; omega)
      have na986 : NA Z I293 Z I296 := NA_fr hF980 (by intro a k h; omega)
      have hr987 := RV_keep hr (NX.tr nx975 nx984)
      have hs988 := RS_keep hrs (NS.tr ns976 ns985)
      have hj989 := RJ_keep hrj (NS.tr ns976 ns985) NJ.rf
      have ht990 : RT Z I296 := ⟨tp982, ⟨_, oCome_ok hok, TX_fr hp968.2 hF980 (by intro a k h1 h2; omega), hp978.2⟩, rk981⟩
      have ha991 := RA_keep hra (NA.tr na977 na986)
      exact ih Z I296 J rc rs (x3 + 6) h983 hr987 hs988 hj989 ht990 ha991 (by omega) (by omega) (by omega) (by omega)
    · skip
      refine ⟨hv1, ?_⟩
      refine fsfX11_seed h.1 h.2.2.1 ht1 (fun v300 I299 hW993 hF994 hp992 => ?_)
      have tm995 := TM_fr ht2 (show s.1.1 ≤ 8 by omega) hF994 (by omega) (by omega) (by omega) (by omega) (by intro a k h1 h2 h3; omega)
      have rk996 := RK_fr h hrt.2.2 hF994 (by intro a k h; omega)
      have tp997 := TP_fr hrt.1 hF994 (by intro a k h; omega)
      have h998 := IV_x h hW993 hF994 (by intro a k h; omega)
      have nx999 : NX Z I Z I299 := NX_fr hF994 (by omega) (by omega) (by omega)
      have ns1000 : NS Z I Z I299 := NS_fr hF994 (by intro a k h; omega)
      have na1001 : NA Z I Z I299 := NA_fr hF994 (by intro a k h; omega)
      refine ⟨hv1, ?_⟩
      refine fsfX12_seed h998.2.2.2.1 h998.2.2.2.2.1 tm995 (fun v303 I302 hW1003 hF1004 hp1002 => ?_)
      have rk1005 := RK_fr h998 rk996 hF1004 (by intro a k h; omega)
      have tp1006 := TP_fr tp997 hF1004 (by intro a k h; omega)
      have h1007 := IV_m h998 hW1003 hF1004 (by intro a k h; omega)
      have nx1008 : NX Z I299 Z I302 := NX_fr hF1004 (by omega) (by omega) (by omega)
      have ns1009 : NS Z I299 Z I302 := NS_fr hF1004 (by intro a k h; omega)
      have na1010 : NA Z I299 Z I302 := NA_fr hF1004 (by intro a k h; omega)
      have hr1011 := RV_keep hr (NX.tr nx999 nx1008)
      have hs1012 := RS_keep hrs (NS.tr ns1000 ns1009)
      have hj1013 := RJ_keep hrj (NS.tr ns1000 ns1009) NJ.rf
      have ht1014 : RT Z I302 := ⟨tp1006, ⟨_, oSeed_ok hok, TX_fr hp992.2 hF1004 (by intro a k h1 h2; omega), hp1002.2⟩, rk1005⟩
      have ha1015 := RA_keep hra (NA.tr na1001 na1010)
      exact ih Z I302 J rc rs (x3 + 6) h1007 hr1011 hs1012 hj1013 ht1014 ha1015 (by omega) (by omega) (by omega) (by omega)
    · skip
      refine pX11_image h.1 h.2.2.1 ht1 (fun v305 I304 hW1017 hF1018 hp1016 pI1019 => ?_)
      have tm1020 := TM_fr ht2 (show s.1.1 ≤ 8 by omega) hF1018 (by omega) (by omega) (by omega) (by omega) (by intro a k h1 h2 h3; omega)
      have tp1021 := TP_fr hrt.1 hF1018 (by intro a k h; omega)
      have h1022 := IV_x h hW1017 hF1018 (by intro a k h; omega)
      have e25 := congrArg Int32.toInt (hF1018 25 1 (by omega))
      have e458 := congrArg Int32.toInt (hF1018 45 8 (by omega))
      have ns1023 : NS Z I Z I304 := NS_fr hF1018 (by intro a k h; omega)
      have na1024 : NA Z I Z I304 := NA_fr hF1018 (by intro a k h; omega)
      refine ⟨38, 1946, rc - 100, rs - 2100, by omega, by omega, ?_⟩
      refine qX12_image hG h1022.2.2.2 (fun Z306 I306 J306 hS1025 hpi hFi => ⟨1, rfl, (IV_s h1022 hS1025).1, hS1025.1.1, ?_⟩)
      have h1029 := IV_s h1022 hS1025
      have m25 := congrArg Int32.toInt (hS1025.2.2.2.2.1 25 1 (by omega))
      have m458 := congrArg Int32.toInt (hS1025.2.2.2.2.1 45 8 (by omega))
      have m08 := congrArg Int32.toInt (hS1025.2.2.2.2.1 0 8 (by omega))
      have ns1030 := NS_st h1022 hS1025
      have na1031 := NA_st h1022 hS1025
      have nj1032 := NJ_st h1022 hS1025
      have hr1033 : RV Z306 I306 := ⟨by omega, ⟨fun q => absurd q (by omega), fun q => by obtain ⟨w9, hw9, _⟩ := hpi; rw [hw9] at q; cases q⟩⟩
      have hs1034 := RS_keep hrs (NS.tr ns1023 ns1030)
      have hj1035 := RJ_keep hrj (NS.tr ns1023 ns1030) nj1032
      obtain ⟨w9, hw9, c1, c2, c3⟩ := hpi
      have ht1036 : RT Z306 I306 := ⟨TP_fr tp1021 hFi (by intro a k h; omega), ⟨s, hok, TX_fr (TX_fr ht1 hF1018 (by intro a k h1 h2; omega)) hFi (by intro a k h1 h2; omega), TM_fr tm1020 (show s.1.1 ≤ 8 by omega) hFi (by omega) (by omega) (by omega) (by omega) (by intro a k h1 h2 h3; omega)⟩, fun u hu => by rw [hw9] at hu; cases hu; exact ⟨s, hok, TX_fr pI1019 hFi (by intro a k h1 h2; omega), RM_cm tm1020.1 (show s.1.1 ≤ 8 by omega) c3, by rw [c3.2.2.2 19 (by decide) (by decide)]; exact tm1020.2⟩⟩
      have ha1037 := RA_keep hra (NA.tr na1024 na1031)
      exact ih Z306 I306 J306 (rc - 100) (rs - 2100) (x3 + 6) h1029 hr1033 hs1034 hj1035 ht1036 ha1037 (by omega) (by omega) (by omega) (by omega)
    · skip
      refine pX11_back h.1 h.2.2.1 (fun v308 I307 hW1039 hF1040 hp1038 pB1041 pB1042 => ?_)
      have tm1043 := TM_fr ht2 (show s.1.1 ≤ 8 by omega) hF1040 (by omega) (by omega) (by omega) (by omega) (by intro a k h1 h2 h3; omega)
      have rk1044 := RK_fr h hrt.2.2 hF1040 (by intro a k h; omega)
      have tp1045 := TP_fr hrt.1 hF1040 (by intro a k h; omega)
      have h1046 := IV_x h hW1039 hF1040 (by intro a k h; omega)
      have nx1047 : NX Z I Z I307 := NX_fr hF1040 (by omega) (by omega) (by omega)
      have ns1048 : NS Z I Z I307 := NS_fr hF1040 (by intro a k h; omega)
      have na1049 : NA Z I Z I307 := NA_fr hF1040 (by intro a k h; omega)
      refine qX12_back h1046.2.2.2 (fun v310 I309 hS1050 hpb => ?_)
      have h1051 := IV_s h1046 hS1050
      have nx1052 := NX_st h1046 hS1050 (by decide)
      have ns1053 := NS_st h1046 hS1050
      have na1054 := NA_st h1046 hS1050
      have nj1055 := NJ_st h1046 hS1050
      have hr1056 := RV_keep hr (NX.tr nx1047 nx1052)
      have hs1057 := RS_keep hrs (NS.tr ns1048 ns1053)
      have hj1058 := RJ_keep hrj (NS.tr ns1048 ns1053) nj1055
      have hmain : ∃ s : Sd, OKT s.1 ∧ TX I309 1 s ∧ TM I309 45 s := by
        cases hz9 : Z.2.1 45 20 with
        | none =>
          have g := hr.2.mpr hz9
          obtain ⟨_, fB⟩ := hpb.1 hz9
          exact ⟨s, hok, TX_fr (pB1042 g s ht1) fB (by intro a k h1 h2; omega), TM_fr tm1043 (show s.1.1 ≤ 8 by omega) fB (by omega) (by omega) (by omega) (by omega) (by intro a k h1 h2 h3; omega)⟩
        | some w9 =>
          have hne : ¬ Z.2.1 45 20 = none := by rw [hz9]; exact fun e => by cases e
          have g := mt hr.2.mp hne
          obtain ⟨s9, k9, g1, g2⟩ := hrt.2.2 w9 hz9
          have l9 := g1.1.1
          have hwk := IV_kept h hz9
          have hw9 := WX_f h.2.2.1
          obtain ⟨_, c3⟩ := hpb.2 hne
          have c3 := c3 w9 hz9
          have g3 := TM_fr g2 (show s9.1.1 ≤ 8 by omega) hF1040 (by omega) (by omega) (by omega) (by omega) (by intro a k h1 h2 h3; omega)
          exact ⟨s9, k9, TX_fr (pB1041 g s9 g1) hS1050.2.2.2.2.1 (by intro a k h1 h2; omega), RM_cm g3.1 (show s9.1.1 ≤ 8 by omega) c3, by rw [c3.2.2.2 19 (by decide) (by decide)]; exact g3.2⟩
      have hbz := h.2.2.2.2.2.1
      have ht1059 : RT Z I309 := ⟨TP_fr tp1045 hS1050.2.2.2.2.1 (by intro a k h; omega), hmain, RK_eq rk1044 h1046.2.2.1 rfl (fun a k h1 h2 => hS1050.2.2.2.2.1 a k (by omega)) (fun u hu a k h1 h2 => hS1050.2.2.2.2.2.2.1 rfl (by omega) u hu a k h1 h2)⟩
      have ha1060 := RA_keep hra (NA.tr na1049 na1054)
      exact ih Z I309 J rc rs (x3 + 6) h1051 hr1056 hs1057 hj1058 ht1059 ha1060 (by omega) (by omega) (by omega) (by omega)
    · skip
      refine ⟨hv1, ?_⟩
      refine sfX11_status h.1 h.2.2.1 (fun v313  => ?_)
      have nx1062 : NX Z I Z I := NX.rf
      have ns1063 : NS Z I Z I := NS.rf
      have nt1064 : NT Z I Z I := NT.rf
      have na1065 : NA Z I Z I := NA.rf
      refine ⟨hv1, ?_⟩
      refine sfX12_status h.2.2.2.1 h.2.2.2.2.1 (fun v316  => ?_)
      have nx1067 : NX Z I Z I := NX.rf
      have ns1068 : NS Z I Z I := NS.rf
      have nt1069 : NT Z I Z I := NT.rf
      have na1070 : NA Z I Z I := NA.rf
      have hr1071 := RV_keep hr (NX.tr nx1062 nx1067)
      have hs1072 := RS_keep hrs (NS.tr ns1063 ns1068)
      have hj1073 := RJ_keep hrj (NS.tr ns1063 ns1068) NJ.rf
      have ht1074 := RT_keep h hrt (NT.tr nt1064 nt1069)
      have ha1075 := RA_keep hra (NA.tr na1065 na1070)
      exact ih Z I J rc rs (x3 + 6) h hr1071 hs1072 hj1073 ht1074 ha1075 (by omega) (by omega) (by omega) (by omega)
