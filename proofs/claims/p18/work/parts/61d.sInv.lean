set_option maxRecDepth 20000 in
set_option maxHeartbeats 4000000 in
/-- the law's loop goes on well -/
theorem lL_law {G : jdG} {nm : String} {b L : Nat} {xs : Nat → Int32} {sA sV : Nat → Nat} (hG : gOK G sA sV) (hXs : ∀ U, G.2.2.2.2 U → va_X b L xs U G.2.2.1) (hL : L ≤ 100000) : ∀ m : Nat, ∀ (Z : jdL) (I : jdI) (J : jdJ) (rc rs : Nat) (x3 : Int32), IV Z I → RV Z I → RS Z I → RJ I J → RT Z I → RA Z I → 0 ≤ x3.toInt → (L : Int) - x3.toInt + 6 < (m : Int) → 20 * ((L : Int) - x3.toInt) ≤ (rc : Int) → 350 * ((L : Int) - x3.toInt) ≤ (rs : Int) → x3.toInt ≤ (L : Int) → Jd G (mLaw nm) (lawF G) (2046 + 1) rc rs 18 [(0, .ref b), (1, .ref (gb G + 0)), (2, .ref (gb G + 45)), (3, .int x3)] [] Z I J := by
  intro m
  induction m with
  | zero =>
    intro Z I J rc rs x3 h hr hrs hrj hrt hra h0 hm h1 h2 h3
    have hr1 := hr.1
    omega
  | succ m ih0 =>
    have ih : ∀ (Z : jdL) (I : jdI) (J : jdJ) (rc rs : Nat) (x3 : Int32), IV Z I → RV Z I → RS Z I → RJ I J → RT Z I → RA Z I → 0 ≤ x3.toInt → (L : Int) - x3.toInt + 6 < (m : Int) → 20 * ((L : Int) - x3.toInt) ≤ (rc : Int) → 350 * ((L : Int) - x3.toInt) ≤ (rs : Int) ∧ x3.toInt ≤ (L : Int) → Jd G (mLaw nm) (lawF G) (2046 + 1) rc rs 18 [(0, .ref b), (1, .ref (gb G + 0)), (2, .ref (gb G + 45)), (3, .int x3)] [] Z I J := fun Z I J rc rs x3 h hr hrs hrj hrt hra a1 a2 a3 a4 => ih0 Z I J rc rs x3 h hr hrs hrj hrt hra a1 a2 a3 a4.1 a4.2
    intro Z I J rc rs x3 h hr hrs hrj hrt hra h0 hm h1 h2 h3
    have hr1 := hr.1
    obtain ⟨s, hok, ht1, ht2⟩ := hrt.2.1
    have hP7 := ht1.1.1
    have hwx := WX_f h.2.2.1
    have qL : (Nat.toInt32 L).toInt = (L : Int) := nI_toInt (by omega)
    have q6 : (6 : Int32).toInt = 6 := rfl
    have q1 : (1 : Int32).toInt = 1 := rfl
    have q2 : (2 : Int32).toInt = 2 := rfl
    have q3 : (3 : Int32).toInt = 3 := rfl
    have q4 : (4 : Int32).toInt = 4 := rfl
    have q5 : (5 : Int32).toInt = 5 := rfl
    have s6 := i32_sub (Nat.toInt32 L) 6 (by omega) (by omega)
    refine rL_law hXs h.1 h.2.2.2.1 ⟨fun _ => trivial, fun hc => ?_⟩
    have hc := mt Int32.lt_iff_toInt_lt.mpr hc
    have e6 := i32_add x3 6 (by omega) (by omega)
    have hv0 : vp_in x3 L := vp_of (by omega) (by omega)
    have e1 := i32_add x3 1 (by omega) (by omega)
    have hv1 : vp_in (x3 + 1) L := vp_of (by omega) (by omega)
    have e2 := i32_add x3 2 (by omega) (by omega)
    have hv2 : vp_in (x3 + 2) L := vp_of (by omega) (by omega)
    have e3 := i32_add x3 3 (by omega) (by omega)
    have hv3 : vp_in (x3 + 3) L := vp_of (by omega) (by omega)
    have e4 := i32_add x3 4 (by omega) (by omega)
    have hv4 : vp_in (x3 + 4) L := vp_of (by omega) (by omega)
    have e5 := i32_add x3 5 (by omega) (by omega)
    have hv5 : vp_in (x3 + 5) L := vp_of (by omega) (by omega)
    refine ⟨hv0, ?_⟩
    refine ⟨fun hc1 => ?_, fun hc2 => ?_, fun hc3 => ?_, fun hc4 => ?_, fun hc5 => ?_, fun hc6 => ?_, fun hc7 => ?_, fun hc8 => ?_, fun hc9 => ?_, fun hc10 => ?_, fun hc11 => ?_, fun hc12 => ?_, fun hc13 => ?_, fun hc14 => ?_, fun hc15 => ?_, fun hc16 => ?_, fun hc17 => ?_, fun hc18 => ?_, fun hc19 => ?_, fun hc20 => ?_, fun hc21 => ?_, fun hc22 => ?_, fun hc23 => ?_, fun hc24 => ?_, fun hc25 => ?_, fun hc26 => ?_, fun hc27 => ?_, fun hc28 => ?_, fun hc29 => ?_, fun hc30 => ?_, fun hc31 => ?_, fun hc32 => ?_, fun hc33 => ?_, fun hc34 => ?_, fun hc35 => ?_, fun hc36 => ?_, fun hc37 => ?_, fun hc38 => ?_, fun hc39 => ?_, fun hc40 => ?_, fun hc41 => ?_, fun hc42 => ?_, fun hc43 => ?_, fun hc44 => ?_, fun hc45 => ?_, fun hc46 => ?_, fun hc47 => ?_, fun hc48 => ?_⟩
    · skip
      have hr49 := hr
      have hs50 := hrs
      have hj51 := hrj
      exact ih Z I J rc rs (x3 + 6) h hr49 hs50 hj51 hrt hra (by omega) (by omega) (by omega) (by omega)
    · skip
      refine ⟨hv1, ?_⟩
      refine ⟨hv2, ?_⟩
      refine ⟨hv3, ?_⟩
      refine ⟨0, 0, rc - 100, rs - 2100, by omega, by omega, ?_⟩
      refine qX11_row h (fun v55 Z5 I5 J5 hS53 hp54 nx56 hx57 ha58 hj59 nt60 => ⟨v55, rfl, hS53.1, hS53.2.2.2.1, ?_⟩)
      refine ⟨hv1, ?_⟩
      refine ⟨hv2, ?_⟩
      refine ⟨hv3, ?_⟩
      refine sfX12_row hS53.2.2.2.1 hS53.2.2.2.2.1 (fun v10 I9 J9 hW62 hF63 hp61 => ?_)
      have nt64 : NT Z5 I5 Z5 I9 := NT_fr hS53 hF63 (by intro a k h; omega)
      have h65 := IV_m hS53 hW62 hF63 (by intro a k h; omega)
      have nx66 : NX Z5 I5 Z5 I9 := NX_fr hF63 (by omega) (by omega) (by omega)
      have hr67 := RV_keep hr (NX.tr nx56 nx66)
      have hs68 := RS_row h hrs hx57 hF63 hp61
      have hj69 := RJ_row hrj (fun i hi => hx57.1 _ _ (by omega) (by have := h.2.2.2.2.2.1; omega)) hj59 hF63 hp61
      have ht70 := RT_keep h hrt (NT.tr nt60 nt64)
      have ha71 := RA_row hra (fun i hi => hx57.1 _ _ (by omega) (by have := h.2.2.2.2.2.1; omega)) ha58 hF63
      exact ih Z5 I9 J9 (rc - 100) (rs - 2100) (x3 + 6) h65 hr67 hs68 hj69 ht70 ha71 (by omega) (by omega) (by omega) (by omega)
    · skip
      refine ⟨hv1, ?_⟩
      refine ⟨hv2, ?_⟩
      refine ⟨hv3, ?_⟩
      refine ⟨hv4, ?_⟩
      refine sfX11_set h.1 h.2.2.1 (fun v16 I15 J15 hW73 hF74 hp72 => ?_)
      have nt75 : NT Z I Z I15 := NT_fr h hF74 (by intro a k h; omega)
      have h76 := IV_x h hW73 hF74 (by intro a k h; omega)
      have nx77 : NX Z I Z I15 := NX_fr hF74 (by omega) (by omega) (by omega)
      have ns78 : NS Z I Z I15 := NS_fr hF74 (by intro a k h; omega)
      have na79 : NA Z I Z I15 := NA_fr hF74 (by intro a k h; omega)
      refine ⟨hv1, ?_⟩
      refine ⟨hv2, ?_⟩
      refine ⟨hv3, ?_⟩
      refine ⟨hv4, ?_⟩
      refine sfX12_set h76.2.2.2.1 h76.2.2.2.2.1 (fun v22 I21 J21 hW81 hF82 hp80 => ?_)
      have nt83 : NT Z I15 Z I21 := NT_fr h76 hF82 (by intro a k h; omega)
      have h84 := IV_m h76 hW81 hF82 (by intro a k h; omega)
      have nx85 : NX Z I15 Z I21 := NX_fr hF82 (by omega) (by omega) (by omega)
      have ns86 : NS Z I15 Z I21 := NS_fr hF82 (by intro a k h; omega)
      have na87 : NA Z I15 Z I21 := NA_fr hF82 (by intro a k h; omega)
      have hr88 := RV_keep hr (NX.tr nx77 nx85)
      have hs89 := RS_keep hrs (NS.tr ns78 ns86)
      have hj90 := RJ_set hrs hrj ns78 (NS.tr ns78 ns86) hp72 hp80
      have ht91 := RT_keep h hrt (NT.tr nt75 nt83)
      have ha92 := RA_keep hra (NA.tr na79 na87)
      exact ih Z I21 J21 rc rs (x3 + 6) h84 hr88 hs89 hj90 ht91 ha92 (by omega) (by omega) (by omega) (by omega)
    · skip
      refine ⟨hv1, ?_⟩
      refine ⟨hv2, ?_⟩
      refine ⟨hv3, ?_⟩
      refine ⟨hv4, ?_⟩
      refine ⟨hv5, ?_⟩
      refine sfX11_copy h.1 h.2.2.1 (fun v29 I28 J28 hW94 hF95 hp93 => ?_)
      have nt96 : NT Z I Z I28 := NT_fr h hF95 (by intro a k h; omega)
      have h97 := IV_x h hW94 hF95 (by intro a k h; omega)
      have nx98 : NX Z I Z I28 := NX_fr hF95 (by omega) (by omega) (by omega)
      have ns99 : NS Z I Z I28 := NS_fr hF95 (by intro a k h; omega)
      have na100 : NA Z I Z I28 := NA_fr hF95 (by intro a k h; omega)
      refine ⟨hv1, ?_⟩
      refine ⟨hv2, ?_⟩
      refine ⟨hv3, ?_⟩
      refine ⟨hv4, ?_⟩
      refine ⟨hv5, ?_⟩
      refine sfX12_copy h97.2.2.2.1 h97.2.2.2.2.1 (fun v36 I35 J35 hW102 hF103 hp101 => ?_)
      have nt104 : NT Z I28 Z I35 := NT_fr h97 hF103 (by intro a k h; omega)
      have h105 := IV_m h97 hW102 hF103 (by intro a k h; omega)
      have nx106 : NX Z I28 Z I35 := NX_fr hF103 (by omega) (by omega) (by omega)
      have ns107 : NS Z I28 Z I35 := NS_fr hF103 (by intro a k h; omega)
      have na108 : NA Z I28 Z I35 := NA_fr hF103 (by intro a k h; omega)
      have hr109 := RV_keep hr (NX.tr nx98 nx106)
      have hs110 := RS_keep hrs (NS.tr ns99 ns107)
      have hj111 := RJ_copy h.2.2.2.2.1 hrs hrj ns99 (NS.tr ns99 ns107) hp93 hp101
      have ht112 := RT_keep h hrt (NT.tr nt96 nt104)
      have ha113 := RA_keep hra (NA.tr na100 na108)
      exact ih Z I35 J35 rc rs (x3 + 6) h105 hr109 hs110 hj111 ht112 ha113 (by omega) (by omega) (by omega) (by omega)
    · skip
      refine ⟨hv1, ?_⟩
      refine ⟨hv2, ?_⟩
      refine sfX11_element h.1 h.2.2.1 (fun v40  hp114 => ?_)
      have nx115 : NX Z I Z I := NX.rf
      have ns116 : NS Z I Z I := NS.rf
      have nt117 : NT Z I Z I := NT.rf
      have na118 : NA Z I Z I := NA.rf
      refine ⟨hv1, ?_⟩
      refine ⟨hv2, ?_⟩
      refine sfX12_element h.2.2.2.1 h.2.2.2.2.1 (fun v44  hp119 => ?_)
      have nx120 : NX Z I Z I := NX.rf
      have ns121 : NS Z I Z I := NS.rf
      have nt122 : NT Z I Z I := NT.rf
      have na123 : NA Z I Z I := NA.rf
      have hr124 := RV_keep hr (NX.tr nx115 nx120)
      have hs125 := RS_keep hrs (NS.tr ns116 ns121)
      have hj126 := RJ_keep hrj (NS.tr ns116 ns121) NJ.rf
      have ht127 := RT_keep h hrt (NT.tr nt117 nt122)
      have ha128 := RA_keep hra (NA.tr na118 na123)
      exact ih Z I J rc rs (x3 + 6) h hr124 hs125 hj126 ht127 ha128 (by omega) (by omega) (by omega) (by omega)
    · skip
      refine ⟨hv1, ?_⟩
      refine sfX11_holds hG h.1 h.2.1 h.2.2.1 (fun v47  hp129 => ?_)
      have nx130 : NX Z I Z I := NX.rf
      have ns131 : NS Z I Z I := NS.rf
      have nt132 : NT Z I Z I := NT.rf
      have na133 : NA Z I Z I := NA.rf
      refine ⟨hv1, ?_⟩
      refine sfX12_holds h.2.2.2.1 h.2.2.2.2.1 (fun v50  hp134 => ?_)
      have nx135 : NX Z I Z I := NX.rf
      have ns136 : NS Z I Z I := NS.rf
      have nt137 : NT Z I Z I := NT.rf
      have na138 : NA Z I Z I := NA.rf
      have hr139 := RV_keep hr (NX.tr nx130 nx135)
      have hs140 := RS_keep hrs (NS.tr ns131 ns136)
      have hj141 := RJ_keep hrj (NS.tr ns131 ns136) NJ.rf
      have ht142 := RT_keep h hrt (NT.tr nt132 nt137)
      have ha143 := RA_keep hra (NA.tr na133 na138)
      exact ih Z I J rc rs (x3 + 6) h hr139 hs140 hj141 ht142 ha143 (by omega) (by omega) (by omega) (by omega)
    · skip
      refine ⟨hv1, ?_⟩
      refine ⟨hv2, ?_⟩
      refine ⟨hv3, ?_⟩
      refine ⟨1, 1, rc - 100, rs - 2100, by omega, by omega, ?_⟩
      refine qX11_coachman h (fun v146 Z54 I54 J54 hS144 hp145 nx147 hx148 ha149 hj150 nt151 => ⟨v146, rfl, hS144.1, hS144.2.2.2.1, ?_⟩)
      refine ⟨hv1, ?_⟩
      refine ⟨hv2, ?_⟩
      refine ⟨hv3, ?_⟩
      refine pX12_coachman hS144.2.2.2.1 hS144.2.2.2.2.1 (fun v59 I58 hW153 hF154 hp152 mb155 => ?_)
      have nt156 : NT Z54 I54 Z54 I58 := NT_fr hS144 hF154 (by intro a k h; omega)
      have h157 := IV_m hS144 hW153 hF154 (by intro a k h; omega)
      have nx158 : NX Z54 I54 Z54 I58 := NX_fr hF154 (by omega) (by omega) (by omega)
      have hr159 := RV_keep hr (NX.tr nx147 nx158)
      have hs160 := RS_man h hrs hx148 hF154 hp152
      rw [hj150]
      have hj161 := RJ_man hrj (fun i hi => hx148.1 _ _ (by omega) (by have := h.2.2.2.2.2.1; omega)) hF154 hp152
      have ht162 := RT_keep h hrt (NT.tr nt151 nt156)
      have ha163 := RA_man hra (fun i hi => hx148.1 _ _ (by omega) (by have := h.2.2.2.2.2.1; omega)) ha149 hF154 mb155
      exact ih Z54 I58 J (rc - 100) (rs - 2100) (x3 + 6) h157 hr159 hs160 hj161 ht162 ha163 (by omega) (by omega) (by omega) (by omega)
    · skip
      refine ⟨hv1, ?_⟩
      refine ⟨hv2, ?_⟩
      refine sfX11_says hG h.1 h.2.1 h.2.2.1 (fun v63 I62 hW165 hF166 => ?_)
      have nt167 : NT Z I Z I62 := NT_fr h hF166 (by intro a k h; omega)
      have h168 := IV_x h hW165 hF166 (by intro a k h; omega)
      have nx169 : NX Z I Z I62 := NX_fr hF166 (by omega) (by omega) (by omega)
      have ns170 : NS Z I Z I62 := NS_fr hF166 (by intro a k h; omega)
      have na171 : NA Z I Z I62 := NA_fr hF166 (by intro a k h; omega)
      refine ⟨hv1, ?_⟩
      refine ⟨hv2, ?_⟩
      refine sfX12_says h168.2.2.2.1 h168.2.2.2.2.1 (fun v67 I66 hW173 hF174 => ?_)
      have nt175 : NT Z I62 Z I66 := NT_fr h168 hF174 (by intro a k h; omega)
      have h176 := IV_m h168 hW173 hF174 (by intro a k h; omega)
      have nx177 : NX Z I62 Z I66 := NX_fr hF174 (by omega) (by omega) (by omega)
      have ns178 : NS Z I62 Z I66 := NS_fr hF174 (by intro a k h; omega)
      have na179 : NA Z I62 Z I66 := NA_fr hF174 (by intro a k h; omega)
      have hr180 := RV_keep hr (NX.tr nx169 nx177)
      have hs181 := RS_keep hrs (NS.tr ns170 ns178)
      have hj182 := RJ_keep hrj (NS.tr ns170 ns178) NJ.rf
      have ht183 := RT_keep h hrt (NT.tr nt167 nt175)
      have ha184 := RA_keep hra (NA.tr na171 na179)
      exact ih Z I66 J rc rs (x3 + 6) h176 hr180 hs181 hj182 ht183 ha184 (by omega) (by omega) (by omega) (by omega)
    · skip
      refine ⟨hv1, ?_⟩
      refine ⟨hv2, ?_⟩
      refine pX11_person h.1 h.2.2.1 ht1 (fun v71 I70 hW186 hF187 hp185 => ?_)
      have tm188 := TM_fr ht2 (show s.1.1 ≤ 8 by omega) hF187 (by omega) (by omega) (by omega) (by omega) (by intro a k h1 h2 h3; omega)
      have rk189 := RK_fr h hrt.2.2 hF187 (by intro a k h; omega)
      have tp190 := TP_fr hrt.1 hF187 (by intro a k h; omega)
      have h191 := IV_x h hW186 hF187 (by intro a k h; omega)
      have nx192 : NX Z I Z I70 := NX_fr hF187 (by omega) (by omega) (by omega)
      have ns193 : NS Z I Z I70 := NS_fr hF187 (by intro a k h; omega)
      have na194 : NA Z I Z I70 := NA_fr hF187 (by intro a k h; omega)
      refine ⟨hv1, ?_⟩
      refine ⟨hv2, ?_⟩
      refine pX12_personS h191.2.2.2.1 h191.2.2.2.2.1 tm188 (fun v75 I74 hW196 hF197 hp195 => ?_)
      have rk198 := RK_fr h191 rk189 hF197 (by intro a k h; omega)
      have tp199 := TP_fr tp190 hF197 (by intro a k h; omega)
      have h200 := IV_m h191 hW196 hF197 (by intro a k h; omega)
      have nx201 : NX Z I70 Z I74 := NX_fr hF197 (by omega) (by omega) (by omega)
      have ns202 : NS Z I70 Z I74 := NS_fr hF197 (by intro a k h; omega)
      have na203 : NA Z I70 Z I74 := NA_fr hF197 (by intro a k h; omega)
      have hr204 := RV_keep hr (NX.tr nx192 nx201)
      have hs205 := RS_keep hrs (NS.tr ns193 ns202)
      have hj206 := RJ_keep hrj (NS.tr ns193 ns202) NJ.rf
      have ht207 : RT Z I74 := ⟨tp199, ⟨_, oPerson_ok hok, TX_fr hp185.2 hF197 (by intro a k h1 h2; omega), hp195.2⟩, rk198⟩
      have ha208 := RA_keep hra (NA.tr na194 na203)
      exact ih Z I74 J rc rs (x3 + 6) h200 hr204 hs205 hj206 ht207 ha208 (by omega) (by omega) (by omega) (by omega)
    · skip
      refine ⟨hv1, ?_⟩
      refine ⟨hv2, ?_⟩
      refine ⟨hv3, ?_⟩
      refine fsfX11_change h.1 h.2.2.1 ht1 (fun v80 I79 hW210 hF211 hp209 => ?_)
      have tm212 := TM_fr ht2 (show s.1.1 ≤ 8 by omega) hF211 (by omega) (by omega) (by omega) (by omega) (by intro a k h1 h2 h3; omega)
      have rk213 := RK_fr h hrt.2.2 hF211 (by intro a k h; omega)
      have tp214 := TP_fr hrt.1 hF211 (by intro a k h; omega)
      have h215 := IV_x h hW210 hF211 (by intro a k h; omega)
      have nx216 : NX Z I Z I79 := NX_fr hF211 (by omega) (by omega) (by omega)
      have ns217 : NS Z I Z I79 := NS_fr hF211 (by intro a k h; omega)
      have na218 : NA Z I Z I79 := NA_fr hF211 (by intro a k h; omega)
      refine ⟨hv1, ?_⟩
      refine ⟨hv2, ?_⟩
      refine ⟨hv3, ?_⟩
      refine fsfX12_change h215.2.2.2.1 h215.2.2.2.2.1 tm212 (fun v85 I84 hW220 hF221 hp219 => ?_)
      have rk222 := RK_fr h215 rk213 hF221 (by intro a k h; omega)
      have tp223 := TP_fr tp214 hF221 (by intro a k h; omega)
      have h224 := IV_m h215 hW220 hF221 (by intro a k h; omega)
      have nx225 : NX Z I79 Z I84 := NX_fr hF221 (by omega) (by omega) (by omega)
      have ns226 : NS Z I79 Z I84 := NS_fr hF221 (by intro a k h; omega)
      have na227 : NA Z I79 Z I84 := NA_fr hF221 (by intro a k h; omega)
      have hr228 := RV_keep hr (NX.tr nx216 nx225)
      have hs229 := RS_keep hrs (NS.tr ns217 ns226)
      have hj230 := RJ_keep hrj (NS.tr ns217 ns226) NJ.rf
      have ht231 : RT Z I84 := ⟨tp223, ⟨_, oChange_ok hok, TX_fr hp209.2 hF221 (by intro a k h1 h2; omega), hp219.2⟩, rk222⟩
      have ha232 := RA_keep hra (NA.tr na218 na227)
      exact ih Z I84 J rc rs (x3 + 6) h224 hr228 hs229 hj230 ht231 ha232 (by omega) (by omega) (by omega) (by omega)
    · skip
      refine ⟨hv1, ?_⟩
      refine ⟨hv2, ?_⟩
      refine ⟨hv3, ?_⟩
      refine pX11_know h.1 h.2.2.1 ht1 (fun v90 I89 hW234 hF235 hp233 => ?_)
      have tm236 := TM_fr ht2 (show s.1.1 ≤ 8 by omega) hF235 (by omega) (by omega) (by omega) (by omega) (by intro a k h1 h2 h3; omega)
      have rk237 := RK_fr h hrt.2.2 hF235 (by intro a k h; omega)
      have tp238 := TP_fr hrt.1 hF235 (by intro a k h; omega)
      have h239 := IV_x h hW234 hF235 (by intro a k h; omega)
      have nx240 : NX Z I Z I89 := NX_fr hF235 (by omega) (by omega) (by omega)
      have ns241 : NS Z I Z I89 := NS_fr hF235 (by intro a k h; omega)
      have na242 : NA Z I Z I89 := NA_fr hF235 (by intro a k h; omega)
      refine ⟨hv1, ?_⟩
      refine ⟨hv2, ?_⟩
      refine ⟨hv3, ?_⟩
      refine pX12_know h239.2.2.2.1 h239.2.2.2.2.1 tm236 (fun v95 I94 hW244 hF245 hp243 => ?_)
      have rk246 := RK_fr h239 rk237 hF245 (by intro a k h; omega)
      have tp247 := TP_fr tp238 hF245 (by intro a k h; omega)
      have h248 := IV_m h239 hW244 hF245 (by intro a k h; omega)
      have nx249 : NX Z I89 Z I94 := NX_fr hF245 (by omega) (by omega) (by omega)
      have ns250 : NS Z I89 Z I94 := NS_fr hF245 (by intro a k h; omega)
      have na251 : NA Z I89 Z I94 := NA_fr hF245 (by intro a k h; omega)
      have hr252 := RV_keep hr (NX.tr nx240 nx249)
      have hs253 := RS_keep hrs (NS.tr ns241 ns250)
      have hj254 := RJ_keep hrj (NS.tr ns241 ns250) NJ.rf
      have ht255 : RT Z I94 := ⟨tp247, ⟨_, oKnow_ok hok, TX_fr hp233.2 hF245 (by intro a k h1 h2; omega), hp243.2⟩, rk246⟩
      have ha256 := RA_keep hra (NA.tr na242 na251)
      exact ih Z I94 J rc rs (x3 + 6) h248 hr252 hs253 hj254 ht255 ha256 (by omega) (by omega) (by omega) (by omega)
    · skip
      refine ⟨hv1, ?_⟩
      refine ⟨hv2, ?_⟩
      refine fsfX11_ask h.1 h.2.2.1 ht1 (fun v99 I98 hW258 hF259 hp257 => ?_)
      have tm260 := TM_fr ht2 (show s.1.1 ≤ 8 by omega) hF259 (by omega) (by omega) (by omega) (by omega) (by intro a k h1 h2 h3; omega)
      have rk261 := RK_fr h hrt.2.2 hF259 (by intro a k h; omega)
      have tp262 := TP_fr hrt.1 hF259 (by intro a k h; omega)
      have h263 := IV_x h hW258 hF259 (by intro a k h; omega)
      have nx264 : NX Z I Z I98 := NX_fr hF259 (by omega) (by omega) (by omega)
      have ns265 : NS Z I Z I98 := NS_fr hF259 (by intro a k h; omega)
      have na266 : NA Z I Z I98 := NA_fr hF259 (by intro a k h; omega)
      refine ⟨hv1, ?_⟩
      refine ⟨hv2, ?_⟩
      refine fsfX12_ask h263.2.2.2.1 h263.2.2.2.2.1 tm260 (fun v103 I102 hW268 hF269 hp267 => ?_)
      have rk270 := RK_fr h263 rk261 hF269 (by intro a k h; omega)
      have tp271 := TP_fr tp262 hF269 (by intro a k h; omega)
      have h272 := IV_m h263 hW268 hF269 (by intro a k h; omega)
      have nx273 : NX Z I98 Z I102 := NX_fr hF269 (by omega) (by omega) (by omega)
      have ns274 : NS Z I98 Z I102 := NS_fr hF269 (by intro a k h; omega)
      have na275 : NA Z I98 Z I102 := NA_fr hF269 (by intro a k h; omega)
      have hr276 := RV_keep hr (NX.tr nx264 nx273)
      have hs277 := RS_keep hrs (NS.tr ns265 ns274)
      have hj278 := RJ_keep hrj (NS.tr ns265 ns274) NJ.rf
      have ht279 : RT Z I102 := ⟨tp271, ⟨_, oAsk_ok hok, TX_fr hp257.2 hF269 (by intro a k h1 h2; omega), hp267.2⟩, rk270⟩
      have ha280 := RA_keep hra (NA.tr na266 na275)
      exact ih Z I102 J rc rs (x3 + 6) h272 hr276 hs277 hj278 ht279 ha280 (by omega) (by omega) (by omega) (by omega)
    · skip
      refine ⟨hv1, ?_⟩
      refine pX11_feed h.1 h.2.2.1 (fun v106 I105 hW282 hF283 hp281 pF284 => ?_)
      have tm285 := TM_fr ht2 (show s.1.1 ≤ 8 by omega) hF283 (by omega) (by omega) (by omega) (by omega) (by intro a k h1 h2 h3; omega)
      have rk286 := RK_fr h hrt.2.2 hF283 (by intro a k h; omega)
      have h287 := IV_x h hW282 hF283 (by intro a k h; omega)
      have e08 := congrArg Int32.toInt (hF283 0 8 (by omega))
      have e458 := congrArg Int32.toInt (hF283 45 8 (by omega))
      have ns288 : NS Z I Z I105 := NS_fr hF283 (by intro a k h; omega)
      have na289 : NA Z I Z I105 := NA_fr hF283 (by intro a k h; omega)
      refine ⟨hv1, ?_⟩
      refine pX12_feed h287.2.2.2.1 h287.2.2.2.2.1 (fun v109 I108 hW291 hF292 hp290 pF293 => ?_)
      have rk294 := RK_fr h287 rk286 hF292 (by intro a k h; omega)
      have h295 := IV_m h287 hW291 hF292 (by intro a k h; omega)
      have m25 := congrArg Int32.toInt (hF292 25 1 (by omega))
      have m08 := congrArg Int32.toInt (hF292 0 8 (by omega))
      have ns296 : NS Z I105 Z I108 := NS_fr hF292 (by intro a k h; omega)
      have na297 : NA Z I105 Z I108 := NA_fr hF292 (by intro a k h; omega)
      have hr298 : RV Z I108 := ⟨by omega, by rw [show (I108 0 8).toInt = (I 0 8).toInt by omega]; exact hr.2⟩
      have hs299 := RS_keep hrs (NS.tr ns288 ns296)
      have hj300 := RJ_keep hrj (NS.tr ns288 ns296) NJ.rf
      have ta : I108 (25 + 1) = I105 (25 + 1) := funext (fun k => hF292 (25 + 1) k (by omega))
      have tb : I105 (45 + 16) = I (45 + 16) := funext (fun k => hF283 (45 + 16) k (by omega))
      have tc : (I105 45 8).toInt = (I 25 1).toInt := by rw [hF283 45 8 (by omega)]; exact hr.1.symm
      have ht301 : RT Z I108 := ⟨by rw [ta, pF284, pF293, tb, tc, hrt.1], ⟨s, hok, TX_fr (TX_fr ht1 hF283 (by intro a k h1 h2; omega)) hF292 (by intro a k h1 h2; omega), TM_fr tm285 (show s.1.1 ≤ 8 by omega) hF292 (by omega) (by omega) (by omega) (by omega) (by intro a k h1 h2 h3; omega)⟩, rk294⟩
      have ha302 := RA_keep hra (NA.tr na289 na297)
      exact ih Z I108 J rc rs (x3 + 6) h295 hr298 hs299 hj300 ht301 ha302 (by omega) (by omega) (by omega) (by omega)
    · skip
      refine sfX11_wipe h.1 h.2.2.1 (fun v111 I110 hW304 hF305 hp303 => ?_)
      have nt306 : NT Z I Z I110 := NT_fr h hF305 (by intro a k h; omega)
      have h307 := IV_x h hW304 hF305 (by intro a k h; omega)
      have e08 := congrArg Int32.toInt (hF305 0 8 (by omega))
      have e458 := congrArg Int32.toInt (hF305 45 8 (by omega))
      have ns308 : NS Z I Z I110 := NS_fr hF305 (by intro a k h; omega)
      have na309 : NA Z I Z I110 := NA_fr hF305 (by intro a k h; omega)
      refine sfX12_wipe h307.2.2.2.1 h307.2.2.2.2.1 (fun v113 I112 hW311 hF312 hp310 => ?_)
      have nt313 : NT Z I110 Z I112 := NT_fr h307 hF312 (by intro a k h; omega)
      have h314 := IV_m h307 hW311 hF312 (by intro a k h; omega)
      have m25 := congrArg Int32.toInt (hF312 25 1 (by omega))
      have m08 := congrArg Int32.toInt (hF312 0 8 (by omega))
      have ns315 : NS Z I110 Z I112 := NS_fr hF312 (by intro a k h; omega)
      have na316 : NA Z I110 Z I112 := NA_fr hF312 (by intro a k h; omega)
      have hr317 : RV Z I112 := ⟨by omega, by rw [show (I112 0 8).toInt = (I 0 8).toInt by omega]; exact hr.2⟩
      have hs318 := RS_keep hrs (NS.tr ns308 ns315)
      have hj319 := RJ_keep hrj (NS.tr ns308 ns315) NJ.rf
      have ht320 := RT_keep h hrt (NT.tr nt306 nt313)
      have ha321 := RA_keep hra (NA.tr na309 na316)
      exact ih Z I112 J rc rs (x3 + 6) h314 hr317 hs318 hj319 ht320 ha321 (by omega) (by omega) (by omega) (by omega)
    · skip
      refine pX11_town hG h.1 h.2.2.1 ht1 (fun v115 I114 hW323 hF324 hp322 pT325 pS326 => ?_)
      have tm327 := TM_fr ht2 (show s.1.1 ≤ 8 by omega) hF324 (by omega) (by omega) (by omega) (by omega) (by intro a k h1 h2 h3; omega)
      have rk328 := RK_fr h hrt.2.2 hF324 (by intro a k h; omega)
      have tp329 := TP_fr hrt.1 hF324 (by intro a k h; omega)
      have h330 := IV_x h hW323 hF324 (by intro a k h; omega)
      have e08 := congrArg Int32.toInt (hF324 0 8 (by omega))
      have e458 := congrArg Int32.toInt (hF324 45 8 (by omega))
      have ns331 : NS Z I Z I114 := NS_fr hF324 (by intro a k h; omega)
      have na332 : NA Z I Z I114 := NA_fr hF324 (by intro a k h; omega)
      have hfc := fC_le Z 45
      refine ⟨(fC Z 45), (fS Z 45), rc - 100, rs - 2100, by omega, by omega, ?_⟩
      refine qX12_town hG h330.2.2.2 tm327.1 (fun v335 Z116 I116 J116 hS333 hp334 pT337 pS338 => ⟨v335, rfl, (IV_s h330 hS333).1, hS333.1.1, ?_⟩)
      have h339 := IV_s h330 hS333
      have hbz := h330.2.2.2.2.2.1
      have m25 := congrArg Int32.toInt (hS333.2.2.2.2.1 25 1 (by omega))
      have m08 := congrArg Int32.toInt (hS333.2.2.2.2.1 0 8 (by omega))
      have eZ := hS333.2.2.2.1 45 20 (by omega) (by omega)
      have ns340 := NS_st h330 hS333
      have na341 := NA_st h330 hS333
      have nj342 := NJ_st h330 hS333
      have hr343 : RV Z116 I116 := ⟨by omega, by rw [show (I116 0 8).toInt = (I 0 8).toInt by omega, eZ]; exact hr.2⟩
      have hs344 := RS_keep hrs (NS.tr ns331 ns340)
      have hj345 := RJ_keep hrj (NS.tr ns331 ns340) nj342
      have e16 : I114 (45 + 16) = I (25 + 1) := (funext (fun k => hF324 (45 + 16) k (by omega))).trans hrt.1.symm
      have e8 : (I114 45 8).toInt = (I 25 1).toInt := by rw [hF324 45 8 (by omega)]; exact hr.1.symm
      rw [e16, e8] at pT337
      obtain ⟨ev, w2, k2, r1, r2⟩ := tn_k hok pT325 pT337
      have ht346 : RT Z116 I116 := ⟨TP_fr tp329 hS333.2.2.2.2.1 (by intro a k h; omega), ⟨(w2, s.2), k2, ⟨RX_fr r1 hS333.2.2.2.2.1 (by intro a k h1 h2; omega), by rw [hS333.2.2.2.2.1 1 6 (by omega)]; exact pS326⟩, ⟨r2, pS338.trans tm327.2⟩⟩, RK_eq rk328 h330.2.2.1 eZ (fun a k h1 h2 => hS333.2.2.2.2.1 a k (by omega)) (fun u hu a k h1 h2 => hS333.2.2.2.2.2.2.1 rfl (by omega) u hu a k h1 h2)⟩
      have ha347 := RA_keep hra (NA.tr na332 na341)
      exact ih Z116 I116 J116 (rc - 100) (rs - 2100) (x3 + 6) h339 hr343 hs344 hj345 ht346 ha347 (by omega) (by omega) (by omega) (by omega)
    · skip
      refine ⟨hv1, ?_⟩
      refine ⟨hv2, ?_⟩
      refine sfX11_personOf h.1 h.2.2.1 (fun v120 I119 hW349 hF350 => ?_)
      have nt351 : NT Z I Z I119 := NT_fr h hF350 (by intro a k h; omega)
      have h352 := IV_x h hW349 hF350 (by intro a k h; omega)
      have nx353 : NX Z I Z I119 := NX_fr hF350 (by omega) (by omega) (by omega)
      have ns354 : NS Z I Z I119 := NS_fr hF350 (by intro a k h; omega)
      have na355 : NA Z I Z I119 := NA_fr hF350 (by intro a k h; omega)
      refine ⟨hv1, ?_⟩
      refine ⟨hv2, ?_⟩
      refine sfX12_personOf h352.2.2.2.1 h352.2.2.2.2.1 (fun v124 I123 hW357 hF358 => ?_)
      have nt359 : NT Z I119 Z I123 := NT_fr h352 hF358 (by intro a k h; omega)
      have h360 := IV_m h352 hW357 hF358 (by intro a k h; omega)
      have nx361 : NX Z I119 Z I123 := NX_fr hF358 (by omega) (by omega) (by omega)
      have ns362 : NS Z I119 Z I123 := NS_fr hF358 (by intro a k h; omega)
      have na363 : NA Z I119 Z I123 := NA_fr hF358 (by intro a k h; omega)
      have hr364 := RV_keep hr (NX.tr nx353 nx361)
      have hs365 := RS_keep hrs (NS.tr ns354 ns362)
      have hj366 := RJ_keep hrj (NS.tr ns354 ns362) NJ.rf
      have ht367 := RT_keep h hrt (NT.tr nt351 nt359)
      have ha368 := RA_keep hra (NA.tr na355 na363)
      exact ih Z I123 J rc rs (x3 + 6) h360 hr364 hs365 hj366 ht367 ha368 (by omega) (by omega) (by omega) (by omega)
    · skip
      refine ⟨hv1, ?_⟩
      refine ⟨hv2, ?_⟩
      refine sfX11_knownOf h.1 h.2.2.1 (fun v128 I127 hW370 hF371 => ?_)
      have nt372 : NT Z I Z I127 := NT_fr h hF371 (by intro a k h; omega)
      have h373 := IV_x h hW370 hF371 (by intro a k h; omega)
      have nx374 : NX Z I Z I127 := NX_fr hF371 (by omega) (by omega) (by omega)
      have ns375 : NS Z I Z I127 := NS_fr hF371 (by intro a k h; omega)
      have na376 : NA Z I Z I127 := NA_fr hF371 (by intro a k h; omega)
      refine ⟨hv1, ?_⟩
      refine ⟨hv2, ?_⟩
      refine sfX12_knownOf h373.2.2.2.1 h373.2.2.2.2.1 (fun v132 I131 hW378 hF379 => ?_)
      have nt380 : NT Z I127 Z I131 := NT_fr h373 hF379 (by intro a k h; omega)
      have h381 := IV_m h373 hW378 hF379 (by intro a k h; omega)
      have nx382 : NX Z I127 Z I131 := NX_fr hF379 (by omega) (by omega) (by omega)
      have ns383 : NS Z I127 Z I131 := NS_fr hF379 (by intro a k h; omega)
      have na384 : NA Z I127 Z I131 := NA_fr hF379 (by intro a k h; omega)
      have hr385 := RV_keep hr (NX.tr nx374 nx382)
      have hs386 := RS_keep hrs (NS.tr ns375 ns383)
      have hj387 := RJ_keep hrj (NS.tr ns375 ns383) NJ.rf
      have ht388 := RT_keep h hrt (NT.tr nt372 nt380)
      have ha389 := RA_keep hra (NA.tr na376 na384)
      exact ih Z I131 J rc rs (x3 + 6) h381 hr385 hs386 hj387 ht388 ha389 (by omega) (by omega) (by omega) (by omega)
    · skip
      refine ⟨hv1, ?_⟩
      refine pX11_isGroup h.1 h.2.2.1 ht1 hok (fun v135 I134 hW391 hF392 hp390 => ?_)
      have nt393 : NT Z I Z I134 := NT_fr h hF392 (by intro a k h; omega)
      have tm394 := TM_fr ht2 (show s.1.1 ≤ 8 by omega) hF392 (by omega) (by omega) (by omega) (by omega) (by intro a k h1 h2 h3; omega)
      have h395 := IV_x h hW391 hF392 (by intro a k h; omega)
      have nx396 : NX Z I Z I134 := NX_fr hF392 (by omega) (by omega) (by omega)
      have ns397 : NS Z I Z I134 := NS_fr hF392 (by intro a k h; omega)
      have na398 : NA Z I Z I134 := NA_fr hF392 (by intro a k h; omega)
      refine ⟨hv1, ?_⟩
      refine pX12_isGroup h395.2.2.2.1 h395.2.2.2.2.1 tm394 (fun v138 I137 hW400 hF401 hp399 => ?_)
      have nt402 : NT Z I134 Z I137 := NT_fr h395 hF401 (by intro a k h; omega)
      have h403 := IV_m h395 hW400 hF401 (by intro a k h; omega)
      have nx404 : NX Z I134 Z I137 := NX_fr hF401 (by omega) (by omega) (by omega)
      have ns405 : NS Z I134 Z I137 := NS_fr hF401 (by intro a k h; omega)
      have na406 : NA Z I134 Z I137 := NA_fr hF401 (by intro a k h; omega)
      refine ⟨fun hc407 => ?_, fun hc408 => ?_⟩
      · skip
        have hr409 := RV_keep hr (NX.tr nx396 nx404)
        have hs410 := RS_keep hrs (NS.tr ns397 ns405)
        have hj411 := RJ_keep hrj (NS.tr ns397 ns405) NJ.rf
        have ht412 := RT_keep h hrt (NT.tr nt393 nt402)
        have ha413 := RA_keep hra (NA.tr na398 na406)
        exact ih Z I137 J rc rs (x3 + 6) h403 hr409 hs410 hj411 ht412 ha413 (by omega) (by omega) (by omega) (by omega)
      · skip
        exact hc408 (Int32.toInt_inj.mp (hp390.trans hp399.symm))
    · skip
      refine ⟨hv1, ?_⟩
      refine sfX11_groups h.1 h.2.2.1 (fun v141 I140 hW415 hF416 => ?_)
      have nt417 : NT Z I Z I140 := NT_fr h hF416 (by intro a k h; omega)
      have h418 := IV_x h hW415 hF416 (by intro a k h; omega)
      have nx419 : NX Z I Z I140 := NX_fr hF416 (by omega) (by omega) (by omega)
      have ns420 : NS Z I Z I140 := NS_fr hF416 (by intro a k h; omega)
      have na421 : NA Z I Z I140 := NA_fr hF416 (by intro a k h; omega)
      refine ⟨hv1, ?_⟩
      refine sfX12_groups h418.2.2.2.1 h418.2.2.2.2.1 (fun v144 I143 hW423 hF424 => ?_)
      have nt425 : NT Z I140 Z I143 := NT_fr h418 hF424 (by intro a k h; omega)
      have h426 := IV_m h418 hW423 hF424 (by intro a k h; omega)
      have nx427 : NX Z I140 Z I143 := NX_fr hF424 (by omega) (by omega) (by omega)
      have ns428 : NS Z I140 Z I143 := NS_fr hF424 (by intro a k h; omega)
      have na429 : NA Z I140 Z I143 := NA_fr hF424 (by intro a k h; omega)
      have hr430 := RV_keep hr (NX.tr nx419 nx427)
      have hs431 := RS_keep hrs (NS.tr ns420 ns428)
      have hj432 := RJ_keep hrj (NS.tr ns420 ns428) NJ.rf
      have ht433 := RT_keep h hrt (NT.tr nt417 nt425)
      have ha434 := RA_keep hra (NA.tr na421 na429)
      exact ih Z I143 J rc rs (x3 + 6) h426 hr430 hs431 hj432 ht433 ha434 (by omega) (by omega) (by omega) (by omega)
    · skip
      refine ⟨hv1, ?_⟩
      refine sfX11_firstOf h.1 h.2.2.1 (fun v147 I146 hW436 hF437 => ?_)
      have nt438 : NT Z I Z I146 := NT_fr h hF437 (by intro a k h; omega)
      have h439 := IV_x h hW436 hF437 (by intro a k h; omega)
      have nx440 : NX Z I Z I146 := NX_fr hF437 (by omega) (by omega) (by omega)
      have ns441 : NS Z I Z I146 := NS_fr hF437 (by intro a k h; omega)
      have na442 : NA Z I Z I146 := NA_fr hF437 (by intro a k h; omega)
      refine ⟨hv1, ?_⟩
      refine sfX12_firstOf h439.2.2.2.1 h439.2.2.2.2.1 (fun v150 I149 hW444 hF445 => ?_)
      have nt446 : NT Z I146 Z I149 := NT_fr h439 hF445 (by intro a k h; omega)
      have h447 := IV_m h439 hW444 hF445 (by intro a k h; omega)
      have nx448 : NX Z I146 Z I149 := NX_fr hF445 (by omega) (by omega) (by omega)
      have ns449 : NS Z I146 Z I149 := NS_fr hF445 (by intro a k h; omega)
      have na450 : NA Z I146 Z I149 := NA_fr hF445 (by intro a k h; omega)
      have hr451 := RV_keep hr (NX.tr nx440 nx448)
      have hs452 := RS_keep hrs (NS.tr ns441 ns449)
      have hj453 := RJ_keep hrj (NS.tr ns441 ns449) NJ.rf
      have ht454 := RT_keep h hrt (NT.tr nt438 nt446)
      have ha455 := RA_keep hra (NA.tr na442 na450)
      exact ih Z I149 J rc rs (x3 + 6) h447 hr451 hs452 hj453 ht454 ha455 (by omega) (by omega) (by omega) (by omega)
    · skip
      refine ⟨hv1, ?_⟩
      refine sfX11_most h.1 h.2.2.1 (fun v153 I152 hW457 hF458 => ?_)
      have nt459 : NT Z I Z I152 := NT_fr h hF458 (by intro a k h; omega)
      have h460 := IV_x h hW457 hF458 (by intro a k h; omega)
      have nx461 : NX Z I Z I152 := NX_fr hF458 (by omega) (by omega) (by omega)
      have ns462 : NS Z I Z I152 := NS_fr hF458 (by intro a k h; omega)
      have na463 : NA Z I Z I152 := NA_fr hF458 (by intro a k h; omega)
      refine ⟨hv1, ?_⟩
      refine sfX12_most h460.2.2.2.1 h460.2.2.2.2.1 (fun v156 I155 hW465 hF466 => ?_)
      have nt467 : NT Z I152 Z I155 := NT_fr h460 hF466 (by intro a k h; omega)
      have h468 := IV_m h460 hW465 hF466 (by intro a k h; omega)
      have nx469 : NX Z I152 Z I155 := NX_fr hF466 (by omega) (by omega) (by omega)
      have ns470 : NS Z I152 Z I155 := NS_fr hF466 (by intro a k h; omega)
      have na471 : NA Z I152 Z I155 := NA_fr hF466 (by intro a k h; omega)
      have hr472 := RV_keep hr (NX.tr nx461 nx469)
      have hs473 := RS_keep hrs (NS.tr ns462 ns470)
      have hj474 := RJ_keep hrj (NS.tr ns462 ns470) NJ.rf
      have ht475 := RT_keep h hrt (NT.tr nt459 nt467)
      have ha476 := RA_keep hra (NA.tr na463 na471)
      exact ih Z I155 J rc rs (x3 + 6) h468 hr472 hs473 hj474 ht475 ha476 (by omega) (by omega) (by omega) (by omega)
    · skip
      refine ⟨hv1, ?_⟩
      refine ⟨hv2, ?_⟩
      refine sfX11_mostOf h.1 h.2.2.1 (fun v160 I159 hW478 hF479 => ?_)
      have nt480 : NT Z I Z I159 := NT_fr h hF479 (by intro a k h; omega)
      have h481 := IV_x h hW478 hF479 (by intro a k h; omega)
      have nx482 : NX Z I Z I159 := NX_fr hF479 (by omega) (by omega) (by omega)
      have ns483 : NS Z I Z I159 := NS_fr hF479 (by intro a k h; omega)
      have na484 : NA Z I Z I159 := NA_fr hF479 (by intro a k h; omega)
      refine ⟨hv1, ?_⟩
      refine ⟨hv2, ?_⟩
      refine sfX12_mostOf h481.2.2.2.1 h481.2.2.2.2.1 (fun v164 I163 hW486 hF487 => ?_)
      have nt488 : NT Z I159 Z I163 := NT_fr h481 hF487 (by intro a k h; omega)
      have h489 := IV_m h481 hW486 hF487 (by intro a k h; omega)
      have nx490 : NX Z I159 Z I163 := NX_fr hF487 (by omega) (by omega) (by omega)
      have ns491 : NS Z I159 Z I163 := NS_fr hF487 (by intro a k h; omega)
      have na492 : NA Z I159 Z I163 := NA_fr hF487 (by intro a k h; omega)
      have hr493 := RV_keep hr (NX.tr nx482 nx490)
      have hs494 := RS_keep hrs (NS.tr ns483 ns491)
      have hj495 := RJ_keep hrj (NS.tr ns483 ns491) NJ.rf
      have ht496 := RT_keep h hrt (NT.tr nt480 nt488)
      have ha497 := RA_keep hra (NA.tr na484 na492)
      exact ih Z I163 J rc rs (x3 + 6) h489 hr493 hs494 hj495 ht496 ha497 (by omega) (by omega) (by omega) (by omega)
    · skip
      refine ⟨hv1, ?_⟩
      refine ⟨hv2, ?_⟩
      refine ⟨hv3, ?_⟩
      refine sfX11_sends h.1 h.2.1 h.2.2.1 (fun v169 I168 hW499 hF500 => ?_)
      have nt501 : NT Z I Z I168 := NT_fr h hF500 (by intro a k h; omega)
      have h502 := IV_x h hW499 hF500 (by intro a k h; omega)
      have nx503 : NX Z I Z I168 := NX_fr hF500 (by omega) (by omega) (by omega)
      have ns504 : NS Z I Z I168 := NS_fr hF500 (by intro a k h; omega)
      have na505 : NA Z I Z I168 := NA_fr hF500 (by intro a k h; omega)
      refine ⟨hv1, ?_⟩
      refine ⟨hv2, ?_⟩
      refine ⟨hv3, ?_⟩
      refine sfX12_sends h502.2.2.2.1 h502.2.2.2.2.1 (fun v174 I173 hW507 hF508 => ?_)
      have nt509 : NT Z I168 Z I173 := NT_fr h502 hF508 (by intro a k h; omega)
      have h510 := IV_m h502 hW507 hF508 (by intro a k h; omega)
      have nx511 : NX Z I168 Z I173 := NX_fr hF508 (by omega) (by omega) (by omega)
      have ns512 : NS Z I168 Z I173 := NS_fr hF508 (by intro a k h; omega)
      have na513 : NA Z I168 Z I173 := NA_fr hF508 (by intro a k h; omega)
      have hr514 := RV_keep hr (NX.tr nx503 nx511)
      have hs515 := RS_keep hrs (NS.tr ns504 ns512)
      have hj516 := RJ_keep hrj (NS.tr ns504 ns512) NJ.rf
      have ht517 := RT_keep h hrt (NT.tr nt501 nt509)
      have ha518 := RA_keep hra (NA.tr na505 na513)
      exact ih Z I173 J rc rs (x3 + 6) h510 hr514 hs515 hj516 ht517 ha518 (by omega) (by omega) (by omega) (by omega)
    · skip
      refine ⟨hv1, ?_⟩
      refine sfX11_run h.1 h.2.1 h.2.2.1 (fun v177 I176 hW520 hF521 => ?_)
      have nt522 : NT Z I Z I176 := NT_fr h hF521 (by intro a k h; omega)
      have h523 := IV_x h hW520 hF521 (by intro a k h; omega)
      have nx524 : NX Z I Z I176 := NX_fr hF521 (by omega) (by omega) (by omega)
      have ns525 : NS Z I Z I176 := NS_fr hF521 (by intro a k h; omega)
      have na526 : NA Z I Z I176 := NA_fr hF521 (by intro a k h; omega)
      refine ⟨hv1, ?_⟩
      refine sfX12_run h523.2.2.2.1 h523.2.2.2.2.1 (fun v180 I179 hW528 hF529 => ?_)
      have nt530 : NT Z I176 Z I179 := NT_fr h523 hF529 (by intro a k h; omega)
      have h531 := IV_m h523 hW528 hF529 (by intro a k h; omega)
      have nx532 : NX Z I176 Z I179 := NX_fr hF529 (by omega) (by omega) (by omega)
      have ns533 : NS Z I176 Z I179 := NS_fr hF529 (by intro a k h; omega)
      have na534 : NA Z I176 Z I179 := NA_fr hF529 (by intro a k h; omega)
      have hr535 := RV_keep hr (NX.tr nx524 nx532)
      have hs536 := RS_keep hrs (NS.tr ns525 ns533)
      have hj537 := RJ_keep hrj (NS.tr ns525 ns533) NJ.rf
      have ht538 := RT_keep h hrt (NT.tr nt522 nt530)
      have ha539 := RA_keep hra (NA.tr na526 na534)
      exact ih Z I179 J rc rs (x3 + 6) h531 hr535 hs536 hj537 ht538 ha539 (by omega) (by omega) (by omega) (by omega)
    · skip
      refine ⟨hv1, ?_⟩
      refine ⟨hv2, ?_⟩
      refine sfX11_coach h.1 h.2.1 h.2.2.1 (fun v184 I183 hW541 hF542 => ?_)
      have nt543 : NT Z I Z I183 := NT_fr h hF542 (by intro a k h; omega)
      have h544 := IV_x h hW541 hF542 (by intro a k h; omega)
      have nx545 : NX Z I Z I183 := NX_fr hF542 (by omega) (by omega) (by omega)
      have ns546 : NS Z I Z I183 := NS_fr hF542 (by intro a k h; omega)
      have na547 : NA Z I Z I183 := NA_fr hF542 (by intro a k h; omega)
      refine ⟨hv1, ?_⟩
      refine ⟨hv2, ?_⟩
      refine sfX12_coach h544.2.2.2.1 h544.2.2.2.2.1 (fun v188 I187 hW549 hF550 => ?_)
      have nt551 : NT Z I183 Z I187 := NT_fr h544 hF550 (by intro a k h; omega)
      have h552 := IV_m h544 hW549 hF550 (by intro a k h; omega)
      have nx553 : NX Z I183 Z I187 := NX_fr hF550 (by omega) (by omega) (by omega)
      have ns554 : NS Z I183 Z I187 := NS_fr hF550 (by intro a k h; omega)
      have na555 : NA Z I183 Z I187 := NA_fr hF550 (by intro a k h; omega)
      have hr556 := RV_keep hr (NX.tr nx545 nx553)
      have hs557 := RS_keep hrs (NS.tr ns546 ns554)
      have hj558 := RJ_keep hrj (NS.tr ns546 ns554) NJ.rf
      have ht559 := RT_keep h hrt (NT.tr nt543 nt551)
      have ha560 := RA_keep hra (NA.tr na547 na555)
      exact ih Z I187 J rc rs (x3 + 6) h552 hr556 hs557 hj558 ht559 ha560 (by omega) (by omega) (by omega) (by omega)
    · skip
      refine ⟨hv1, ?_⟩
      refine sfX11_left h.1 h.2.1 h.2.2.1 (fun v191 I190 hW562 hF563 => ?_)
      have nt564 : NT Z I Z I190 := NT_fr h hF563 (by intro a k h; omega)
      have h565 := IV_x h hW562 hF563 (by intro a k h; omega)
      have nx566 : NX Z I Z I190 := NX_fr hF563 (by omega) (by omega) (by omega)
      have ns567 : NS Z I Z I190 := NS_fr hF563 (by intro a k h; omega)
      have na568 : NA Z I Z I190 := NA_fr hF563 (by intro a k h; omega)
      refine ⟨hv1, ?_⟩
      refine sfX12_left h565.2.2.2.1 h565.2.2.2.2.1 (fun v194 I193 hW570 hF571 => ?_)
      have nt572 : NT Z I190 Z I193 := NT_fr h565 hF571 (by intro a k h; omega)
      have h573 := IV_m h565 hW570 hF571 (by intro a k h; omega)
      have nx574 : NX Z I190 Z I193 := NX_fr hF571 (by omega) (by omega) (by omega)
      have ns575 : NS Z I190 Z I193 := NS_fr hF571 (by intro a k h; omega)
      have na576 : NA Z I190 Z I193 := NA_fr hF571 (by intro a k h; omega)
      have hr577 := RV_keep hr (NX.tr nx566 nx574)
      have hs578 := RS_keep hrs (NS.tr ns567 ns575)
      have hj579 := RJ_keep hrj (NS.tr ns567 ns575) NJ.rf
      have ht580 := RT_keep h hrt (NT.tr nt564 nt572)
      have ha581 := RA_keep hra (NA.tr na568 na576)
      exact ih Z I193 J rc rs (x3 + 6) h573 hr577 hs578 hj579 ht580 ha581 (by omega) (by omega) (by omega) (by omega)
    · skip
      refine ⟨hv1, ?_⟩
      refine ⟨hv2, ?_⟩
      refine sfX11_waits h.1 h.2.1 h.2.2.1 (fun v198 I197 hW583 hF584 => ?_)
      have nt585 : NT Z I Z I197 := NT_fr h hF584 (by intro a k h; omega)
      have h586 := IV_x h hW583 hF584 (by intro a k h; omega)
      have nx587 : NX Z I Z I197 := NX_fr hF584 (by omega) (by omega) (by omega)
      have ns588 : NS Z I Z I197 := NS_fr hF584 (by intro a k h; omega)
      have na589 : NA Z I Z I197 := NA_fr hF584 (by intro a k h; omega)
      refine ⟨hv1, ?_⟩
      refine ⟨hv2, ?_⟩
      refine sfX12_waits h586.2.2.2.1 h586.2.2.2.2.1 (fun v202 I201 hW591 hF592 => ?_)
      have nt593 : NT Z I197 Z I201 := NT_fr h586 hF592 (by intro a k h; omega)
      have h594 := IV_m h586 hW591 hF592 (by intro a k h; omega)
      have nx595 : NX Z I197 Z I201 := NX_fr hF592 (by omega) (by omega) (by omega)
      have ns596 : NS Z I197 Z I201 := NS_fr hF592 (by intro a k h; omega)
      have na597 : NA Z I197 Z I201 := NA_fr hF592 (by intro a k h; omega)
      have hr598 := RV_keep hr (NX.tr nx587 nx595)
      have hs599 := RS_keep hrs (NS.tr ns588 ns596)
      have hj600 := RJ_keep hrj (NS.tr ns588 ns596) NJ.rf
      have ht601 := RT_keep h hrt (NT.tr nt585 nt593)
      have ha602 := RA_keep hra (NA.tr na589 na597)
      exact ih Z I201 J rc rs (x3 + 6) h594 hr598 hs599 hj600 ht601 ha602 (by omega) (by omega) (by omega) (by omega)
    · skip
      refine ⟨hv1, ?_⟩
      refine sfX11_least h.1 h.2.2.1 (fun v205 I204 hW604 hF605 => ?_)
      have nt606 : NT Z I Z I204 := NT_fr h hF605 (by intro a k h; omega)
      have h607 := IV_x h hW604 hF605 (by intro a k h; omega)
      have nx608 : NX Z I Z I204 := NX_fr hF605 (by omega) (by omega) (by omega)
      have ns609 : NS Z I Z I204 := NS_fr hF605 (by intro a k h; omega)
      have na610 : NA Z I Z I204 := NA_fr hF605 (by intro a k h; omega)
      refine ⟨hv1, ?_⟩
      refine sfX12_least h607.2.2.2.1 h607.2.2.2.2.1 (fun v208 I207 hW612 hF613 => ?_)
      have nt614 : NT Z I204 Z I207 := NT_fr h607 hF613 (by intro a k h; omega)
      have h615 := IV_m h607 hW612 hF613 (by intro a k h; omega)
      have nx616 : NX Z I204 Z I207 := NX_fr hF613 (by omega) (by omega) (by omega)
      have ns617 : NS Z I204 Z I207 := NS_fr hF613 (by intro a k h; omega)
      have na618 : NA Z I204 Z I207 := NA_fr hF613 (by intro a k h; omega)
      have hr619 := RV_keep hr (NX.tr nx608 nx616)
      have hs620 := RS_keep hrs (NS.tr ns609 ns617)
      have hj621 := RJ_keep hrj (NS.tr ns609 ns617) NJ.rf
      have ht622 := RT_keep h hrt (NT.tr nt606 nt614)
      have ha623 := RA_keep hra (NA.tr na610 na618)
      exact ih Z I207 J rc rs (x3 + 6) h615 hr619 hs620 hj621 ht622 ha623 (by omega) (by omega) (by omega) (by omega)
    · skip
      refine sfX11_head h.1 h.2.1 h.2.2.1 (fun v210 I209 hW625 hF626 => ?_)
      have nt627 : NT Z I Z I209 := NT_fr h hF626 (by intro a k h; omega)
      have h628 := IV_x h hW625 hF626 (by intro a k h; omega)
      have nx629 : NX Z I Z I209 := NX_fr hF626 (by omega) (by omega) (by omega)
      have ns630 : NS Z I Z I209 := NS_fr hF626 (by intro a k h; omega)
      have na631 : NA Z I Z I209 := NA_fr hF626 (by intro a k h; omega)
      refine sfX12_head h628.2.2.2.1 h628.2.2.2.2.1 (fun v212 I211 hW633 hF634 => ?_)
      have nt635 : NT Z I209 Z I211 := NT_fr h628 hF634 (by intro a k h; omega)
      have h636 := IV_m h628 hW633 hF634 (by intro a k h; omega)
      have nx637 : NX Z I209 Z I211 := NX_fr hF634 (by omega) (by omega) (by omega)
      have ns638 : NS Z I209 Z I211 := NS_fr hF634 (by intro a k h; omega)
      have na639 : NA Z I209 Z I211 := NA_fr hF634 (by intro a k h; omega)
      have hr640 := RV_keep hr (NX.tr nx629 nx637)
      have hs641 := RS_keep hrs (NS.tr ns630 ns638)
      have hj642 := RJ_keep hrj (NS.tr ns630 ns638) NJ.rf
      have ht643 := RT_keep h hrt (NT.tr nt627 nt635)
      have ha644 := RA_keep hra (NA.tr na631 na639)
      exact ih Z I211 J rc rs (x3 + 6) h636 hr640 hs641 hj642 ht643 ha644 (by omega) (by omega) (by omega) (by omega)
    · skip
      refine ⟨hv1, ?_⟩
      refine sfX11_days h.1 h.2.1 h.2.2.1 (fun v215 I214 hW646 hF647 => ?_)
      have nt648 : NT Z I Z I214 := NT_fr h hF647 (by intro a k h; omega)
      have h649 := IV_x h hW646 hF647 (by intro a k h; omega)
      have nx650 : NX Z I Z I214 := NX_fr hF647 (by omega) (by omega) (by omega)
      have ns651 : NS Z I Z I214 := NS_fr hF647 (by intro a k h; omega)
      have na652 : NA Z I Z I214 := NA_fr hF647 (by intro a k h; omega)
      refine ⟨hv1, ?_⟩
      have hfc := fC_le Z 45
      refine ⟨(fC Z 45), (fS Z 45), rc - 100, rs - 2100, by omega, by omega, ?_⟩
      refine qX12_days hG h649.2.2.2 (fun v655 Z217 I217 J217 hS653 => ⟨v655, rfl, (IV_s h649 hS653).1, hS653.1.1, ?_⟩)
      have h657 := IV_s h649 hS653
      have nx658 := NX_st h649 hS653 (by decide)
      have ns659 := NS_st h649 hS653
      have na660 := NA_st h649 hS653
      have nj661 := NJ_st h649 hS653
      have nt662 := NT_st h649 hS653 (by decide)
      have hr663 := RV_keep hr (NX.tr nx650 nx658)
      have hs664 := RS_keep hrs (NS.tr ns651 ns659)
      have hj665 := RJ_keep hrj (NS.tr ns651 ns659) nj661
      have ht666 := RT_keep h hrt (NT.tr nt648 nt662)
      have ha667 := RA_keep hra (NA.tr na652 na660)
      exact ih Z217 I217 J217 (rc - 100) (rs - 2100) (x3 + 6) h657 hr663 hs664 hj665 ht666 ha667 (by omega) (by omega) (by omega) (by omega)
    · skip
      refine ⟨hv1, ?_⟩
      refine sfX11_ever h.1 h.2.2.1 (fun v220 I219 hW669 hF670 => ?_)
      have nt671 : NT Z I Z I219 := NT_fr h hF670 (by intro a k h; omega)
      have h672 := IV_x h hW669 hF670 (by intro a k h; omega)
      have nx673 : NX Z I Z I219 := NX_fr hF670 (by omega) (by omega) (by omega)
      have ns674 : NS Z I Z I219 := NS_fr hF670 (by intro a k h; omega)
      have na675 : NA Z I Z I219 := NA_fr hF670 (by intro a k h; omega)
      refine ⟨hv1, ?_⟩
      refine ⟨1, 40, rc - 100, rs - 2100, by omega, by omega, ?_⟩
      refine qX12_ever h672.2.2.2 (fun v678 Z222 I222 J222 hS676 => ⟨v678, rfl, (IV_s h672 hS676).1, hS676.1.1, ?_⟩)
      have h680 := IV_s h672 hS676
      have nx681 := NX_st h672 hS676 (by decide)
      have ns682 := NS_st h672 hS676
      have na683 := NA_st h672 hS676
      have nj684 := NJ_st h672 hS676
      have nt685 := NT_st h672 hS676 (by decide)
      have hr686 := RV_keep hr (NX.tr nx673 nx681)
      have hs687 := RS_keep hrs (NS.tr ns674 ns682)
      have hj688 := RJ_keep hrj (NS.tr ns674 ns682) nj684
      have ht689 := RT_keep h hrt (NT.tr nt671 nt685)
      have ha690 := RA_keep hra (NA.tr na675 na683)
      exact ih Z222 I222 J222 (rc - 100) (rs - 2100) (x3 + 6) h680 hr686 hs687 hj688 ht689 ha690 (by omega) (by omega) (by omega) (by omega)
    · skip
      refine sfX11_hire h.1 h.2.2.1 (fun v224 I223 hW692 hF693 => ?_)
      have nt694 : NT Z I Z I223 := NT_fr h hF693 (by intro a k h; omega)
      have h695 := IV_x h hW692 hF693 (by intro a k h; omega)
      have nx696 : NX Z I Z I223 := NX_fr hF693 (by omega) (by omega) (by omega)
      have ns697 : NS Z I Z I223 := NS_fr hF693 (by intro a k h; omega)
      have na698 : NA Z I Z I223 := NA_fr hF693 (by intro a k h; omega)
      have hfc := fC_le Z 45
      refine ⟨(fC Z 45), (fS Z 45), rc - 100, rs - 2100, by omega, by omega, ?_⟩
      refine qX12_hire hG h695.2.2.2 (fun v701 Z225 I225 J225 hS699 => ⟨v701, rfl, (IV_s h695 hS699).1, hS699.1.1, ?_⟩)
      have h703 := IV_s h695 hS699
      have nx704 := NX_st h695 hS699 (by decide)
      have ns705 := NS_st h695 hS699
      have na706 := NA_st h695 hS699
      have nj707 := NJ_st h695 hS699
      have nt708 := NT_st h695 hS699 (by decide)
      have hr709 := RV_keep hr (NX.tr nx696 nx704)
      have hs710 := RS_keep hrs (NS.tr ns697 ns705)
      have hj711 := RJ_keep hrj (NS.tr ns697 ns705) nj707
      have ht712 := RT_keep h hrt (NT.tr nt694 nt708)
      have ha713 := RA_keep hra (NA.tr na698 na706)
      exact ih Z225 I225 J225 (rc - 100) (rs - 2100) (x3 + 6) h703 hr709 hs710 hj711 ht712 ha713 (by omega) (by omega) (by omega) (by omega)
    · skip
      refine ⟨hv1, ?_⟩
      refine sfX11_feast h.1 h.2.2.1 (fun v228 I227 hW715 hF716 => ?_)
      have nt717 : NT Z I Z I227 := NT_fr h hF716 (by intro a k h; omega)
      have h718 := IV_x h hW715 hF716 (by intro a k h; omega)
      have nx719 : NX Z I Z I227 := NX_fr hF716 (by omega) (by omega) (by omega)
      have ns720 : NS Z I Z I227 := NS_fr hF716 (by intro a k h; omega)
      have na721 : NA Z I Z I227 := NA_fr hF716 (by intro a k h; omega)
      refine ⟨hv1, ?_⟩
      refine ⟨40, 2026, rc - 100, rs - 2100, by omega, by omega, ?_⟩
      refine qX12_feast hG h718.2.2.2 (fun v724 Z230 I230 J230 hS722 => ⟨v724, rfl, (IV_s h718 hS722).1, hS722.1.1, ?_⟩)
      have h726 := IV_s h718 hS722
      have nx727 := NX_st h718 hS722 (by decide)
      have ns728 := NS_st h718 hS722
      have na729 := NA_st h718 hS722
      have nj730 := NJ_st h718 hS722
      have nt731 := NT_st h718 hS722 (by decide)
      have hr732 := RV_keep hr (NX.tr nx719 nx727)
      have hs733 := RS_keep hrs (NS.tr ns720 ns728)
      have hj734 := RJ_keep hrj (NS.tr ns720 ns728) nj730
      have ht735 := RT_keep h hrt (NT.tr nt717 nt731)
      have ha736 := RA_keep hra (NA.tr na721 na729)
      exact ih Z230 I230 J230 (rc - 100) (rs - 2100) (x3 + 6) h726 hr732 hs733 hj734 ht735 ha736 (by omega) (by omega) (by omega) (by omega)
    · skip
      refine ⟨hv1, ?_⟩
      refine ⟨hv2, ?_⟩
      refine sfX11_closes h.1 h.2.2.1 (fun v234 I233 hW738 hF739 => ?_)
      have nt740 : NT Z I Z I233 := NT_fr h hF739 (by intro a k h; omega)
      have h741 := IV_x h hW738 hF739 (by intro a k h; omega)
      have nx742 : NX Z I Z I233 := NX_fr hF739 (by omega) (by omega) (by omega)
      have ns743 : NS Z I Z I233 := NS_fr hF739 (by intro a k h; omega)
      have na744 : NA Z I Z I233 := NA_fr hF739 (by intro a k h; omega)
      refine ⟨hv1, ?_⟩
      refine ⟨hv2, ?_⟩
      have hfc := fC_le Z 45
      refine ⟨(fC Z 45), (fS Z 45), rc - 100, rs - 2100, by omega, by omega, ?_⟩
      refine qX12_closes hG h741.2.2.2 (fun v747 Z237 I237 J237 hS745 => ⟨v747, rfl, (IV_s h741 hS745).1, hS745.1.1, ?_⟩)
      have h749 := IV_s h741 hS745
      have nx750 := NX_st h741 hS745 (by decide)
      have ns751 := NS_st h741 hS745
      have na752 := NA_st h741 hS745
      have nj753 := NJ_st h741 hS745
      have nt754 := NT_st h741 hS745 (by decide)
      have hr755 := RV_keep hr (NX.tr nx742 nx750)
      have hs756 := RS_keep hrs (NS.tr ns743 ns751)
      have hj757 := RJ_keep hrj (NS.tr ns743 ns751) nj753
      have ht758 := RT_keep h hrt (NT.tr nt740 nt754)
      have ha759 := RA_keep hra (NA.tr na744 na752)
      exact ih Z237 I237 J237 (rc - 100) (rs - 2100) (x3 + 6) h749 hr755 hs756 hj757 ht758 ha759 (by omega) (by omega) (by omega) (by omega)
    · skip
      refine sfX11_worst h.1 h.2.2.1 (fun v239 I238 hW761 hF762 => ?_)
      have nt763 : NT Z I Z I238 := NT_fr h hF762 (by intro a k h; omega)
      have h764 := IV_x h hW761 hF762 (by intro a k h; omega)
      have nx765 : NX Z I Z I238 := NX_fr hF762 (by omega) (by omega) (by omega)
      have ns766 : NS Z I Z I238 := NS_fr hF762 (by intro a k h; omega)
      have na767 : NA Z I Z I238 := NA_fr hF762 (by intro a k h; omega)
      have hfc := fC_le Z 45
      refine ⟨(fC Z 45), (fS Z 45), rc - 100, rs - 2100, by omega, by omega, ?_⟩
      refine qX12_worst hG h764.2.2.2 (fun v770 Z240 I240 J240 hS768 => ⟨v770, rfl, (IV_s h764 hS768).1, hS768.1.1, ?_⟩)
      have h772 := IV_s h764 hS768
      have nx773 := NX_st h764 hS768 (by decide)
      have ns774 := NS_st h764 hS768
      have na775 := NA_st h764 hS768
      have nj776 := NJ_st h764 hS768
      have nt777 := NT_st h764 hS768 (by decide)
      have hr778 := RV_keep hr (NX.tr nx765 nx773)
      have hs779 := RS_keep hrs (NS.tr ns766 ns774)
      have hj780 := RJ_keep hrj (NS.tr ns766 ns774) nj776
      have ht781 := RT_keep h hrt (NT.tr nt763 nt777)
      have ha782 := RA_keep hra (NA.tr na767 na775)
      exact ih Z240 I240 J240 (rc - 100) (rs - 2100) (x3 + 6) h772 hr778 hs779 hj780 ht781 ha782 (by omega) (by omega) (by omega) (by omega)
    · skip
      refine ⟨hv1, ?_⟩
      refine sfX11_fits h.1 h.2.2.1 (fun v243 I242 hW784 hF785 => ?_)
      have nt786 : NT Z I Z I242 := NT_fr h hF785 (by intro a k h; omega)
      have h787 := IV_x h hW784 hF785 (by intro a k h; omega)
      have nx788 : NX Z I Z I242 := NX_fr hF785 (by omega) (by omega) (by omega)
      have ns789 : NS Z I Z I242 := NS_fr hF785 (by intro a k h; omega)
      have na790 : NA Z I Z I242 := NA_fr hF785 (by intro a k h; omega)
      refine ⟨hv1, ?_⟩
      have hfc := fC_le Z 45
      refine ⟨(fC Z 45), (fS Z 45), rc - 100, rs - 2100, by omega, by omega, ?_⟩
      refine qX12_fits hG h787.2.2.2 (fun v793 Z245 I245 J245 hS791 => ⟨v793, rfl, (IV_s h787 hS791).1, hS791.1.1, ?_⟩)
      have h795 := IV_s h787 hS791
      have nx796 := NX_st h787 hS791 (by decide)
      have ns797 := NS_st h787 hS791
      have na798 := NA_st h787 hS791
      have nj799 := NJ_st h787 hS791
      have nt800 := NT_st h787 hS791 (by decide)
      have hr801 := RV_keep hr (NX.tr nx788 nx796)
      have hs802 := RS_keep hrs (NS.tr ns789 ns797)
      have hj803 := RJ_keep hrj (NS.tr ns789 ns797) nj799
      have ht804 := RT_keep h hrt (NT.tr nt786 nt800)
      have ha805 := RA_keep hra (NA.tr na790 na798)
      exact ih Z245 I245 J245 (rc - 100) (rs - 2100) (x3 + 6) h795 hr801 hs802 hj803 ht804 ha805 (by omega) (by omega) (by omega) (by omega)
    · skip
      refine ⟨hv1, ?_⟩
      refine sfX11_sure h.1 h.2.2.1 (fun v248 I247 hW807 hF808 => ?_)
      have nt809 : NT Z I Z I247 := NT_fr h hF808 (by intro a k h; omega)
      have h810 := IV_x h hW807 hF808 (by intro a k h; omega)
      have nx811 : NX Z I Z I247 := NX_fr hF808 (by omega) (by omega) (by omega)
      have ns812 : NS Z I Z I247 := NS_fr hF808 (by intro a k h; omega)
      have na813 : NA Z I Z I247 := NA_fr hF808 (by intro a k h; omega)
      refine ⟨hv1, ?_⟩
      have hfc := fC_le Z 45
      refine ⟨(fC Z 45), (fS Z 45), rc - 100, rs - 2100, by omega, by omega, ?_⟩
      refine qX12_sure hG h810.2.2.2 (fun v816 Z250 I250 J250 hS814 => ⟨v816, rfl, (IV_s h810 hS814).1, hS814.1.1, ?_⟩)
      have h818 := IV_s h810 hS814
      have nx819 := NX_st h810 hS814 (by decide)
      have ns820 := NS_st h810 hS814
      have na821 := NA_st h810 hS814
      have nj822 := NJ_st h810 hS814
      have nt823 := NT_st h810 hS814 (by decide)
      have hr824 := RV_keep hr (NX.tr nx811 nx819)
      have hs825 := RS_keep hrs (NS.tr ns812 ns820)
      have hj826 := RJ_keep hrj (NS.tr ns812 ns820) nj822
      have ht827 := RT_keep h hrt (NT.tr nt809 nt823)
      have ha828 := RA_keep hra (NA.tr na813 na821)
      exact ih Z250 I250 J250 (rc - 100) (rs - 2100) (x3 + 6) h818 hr824 hs825 hj826 ht827 ha828 (by omega) (by omega) (by omega) (by omega)
    · skip
      refine ⟨hv1, ?_⟩
      refine ⟨hv2, ?_⟩
      refine sfX11_judge h.1 h.2.2.1 (fun v254 I253 hW830 hF831 => ?_)
      have nt832 : NT Z I Z I253 := NT_fr h hF831 (by intro a k h; omega)
      have h833 := IV_x h hW830 hF831 (by intro a k h; omega)
      have nx834 : NX Z I Z I253 := NX_fr hF831 (by omega) (by omega) (by omega)
      have ns835 : NS Z I Z I253 := NS_fr hF831 (by intro a k h; omega)
      have na836 : NA Z I Z I253 := NA_fr hF831 (by intro a k h; omega)
      refine ⟨hv1, ?_⟩
      refine ⟨hv2, ?_⟩
      refine sfX12_judge h833.2.2.2.1 h833.2.2.2.2.1 (fun v258 I257 hW838 hF839 => ?_)
      have nt840 : NT Z I253 Z I257 := NT_fr h833 hF839 (by intro a k h; omega)
      have h841 := IV_m h833 hW838 hF839 (by intro a k h; omega)
      have nx842 : NX Z I253 Z I257 := NX_fr hF839 (by omega) (by omega) (by omega)
      have ns843 : NS Z I253 Z I257 := NS_fr hF839 (by intro a k h; omega)
      have na844 : NA Z I253 Z I257 := NA_fr hF839 (by intro a k h; omega)
      have hr845 := RV_keep hr (NX.tr nx834 nx842)
      have hs846 := RS_keep hrs (NS.tr ns835 ns843)
      have hj847 := RJ_keep hrj (NS.tr ns835 ns843) NJ.rf
      have ht848 := RT_keep h hrt (NT.tr nt832 nt840)
      have ha849 := RA_keep hra (NA.tr na836 na844)
      exact ih Z I257 J rc rs (x3 + 6) h841 hr845 hs846 hj847 ht848 ha849 (by omega) (by omega) (by omega) (by omega)
    · skip
      refine ⟨hv1, ?_⟩
      refine ⟨hv2, ?_⟩
      refine ⟨hv3, ?_⟩
      refine sfX11_behind h.1 h.2.2.1 (fun v263 I262 hW851 hF852 => ?_)
      have nt853 : NT Z I Z I262 := NT_fr h hF852 (by intro a k h; omega)
      have h854 := IV_x h hW851 hF852 (by intro a k h; omega)
      have nx855 : NX Z I Z I262 := NX_fr hF852 (by omega) (by omega) (by omega)
      have ns856 : NS Z I Z I262 := NS_fr hF852 (by intro a k h; omega)
      have na857 : NA Z I Z I262 := NA_fr hF852 (by intro a k h; omega)
      refine ⟨hv1, ?_⟩
      refine ⟨hv2, ?_⟩
      refine ⟨hv3, ?_⟩
      have hfc := fC_le Z 45
      refine ⟨(fC Z 45), (fS Z 45), rc - 100, rs - 2100, by omega, by omega, ?_⟩
      refine qX12_behind hG h854.2.2.2 (fun v860 Z267 I267 J267 hS858 => ⟨v860, rfl, (IV_s h854 hS858).1, hS858.1.1, ?_⟩)
      have h862 := IV_s h854 hS858
      have nx863 := NX_st h854 hS858 (by decide)
      have ns864 := NS_st h854 hS858
      have na865 := NA_st h854 hS858
      have nj866 := NJ_st h854 hS858
      have nt867 := NT_st h854 hS858 (by decide)
      have hr868 := RV_keep hr (NX.tr nx855 nx863)
      have hs869 := RS_keep hrs (NS.tr ns856 ns864)
      have hj870 := RJ_keep hrj (NS.tr ns856 ns864) nj866
      have ht871 := RT_keep h hrt (NT.tr nt853 nt867)
      have ha872 := RA_keep hra (NA.tr na857 na865)
      exact ih Z267 I267 J267 (rc - 100) (rs - 2100) (x3 + 6) h862 hr868 hs869 hj870 ht871 ha872 (by omega) (by omega) (by omega) (by omega)
    · skip
      refine ⟨hv1, ?_⟩
      refine ⟨hv2, ?_⟩
      refine pX11_rides h.1 h.2.1 h.2.2.1 ht1 hok (fun v271 I270 hW874 hF875 hp873 => ?_)
      have tm876 := TM_fr ht2 (show s.1.1 ≤ 8 by omega) hF875 (by omega) (by omega) (by omega) (by omega) (by intro a k h1 h2 h3; omega)
      have rk877 := RK_fr h hrt.2.2 hF875 (by intro a k h; omega)
      have tp878 := TP_fr hrt.1 hF875 (by intro a k h; omega)
      have h879 := IV_x h hW874 hF875 (by intro a k h; omega)
      have nx880 : NX Z I Z I270 := NX_fr hF875 (by omega) (by omega) (by omega)
      have ns881 : NS Z I Z I270 := NS_fr hF875 (by intro a k h; omega)
      have na882 : NA Z I Z I270 := NA_fr hF875 (by intro a k h; omega)
      refine ⟨hv1, ?_⟩
      refine ⟨hv2, ?_⟩
      refine pX12_rides h879.2.2.2.1 h879.2.2.2.2.1 tm876 (fun v275 I274 hW884 hF885 hp883 => ?_)
      have rk886 := RK_fr h879 rk877 hF885 (by intro a k h; omega)
      have tp887 := TP_fr tp878 hF885 (by intro a k h; omega)
      have h888 := IV_m h879 hW884 hF885 (by intro a k h; omega)
      have nx889 : NX Z I270 Z I274 := NX_fr hF885 (by omega) (by omega) (by omega)
      have ns890 : NS Z I270 Z I274 := NS_fr hF885 (by intro a k h; omega)
      have na891 : NA Z I270 Z I274 := NA_fr hF885 (by intro a k h; omega)
      have hr892 := RV_keep hr (NX.tr nx880 nx889)
      have hs893 := RS_keep hrs (NS.tr ns881 ns890)
      have hj894 := RJ_keep hrj (NS.tr ns881 ns890) NJ.rf
      have hte := TOLD_eq (x1 := (xs (Int32.toNatClampNeg (x3 + 1)))) (x2 := (xs (Int32.toNatClampNeg (x3 + 2)))) hrs hrj (fun k => hF875 (45 + 1) k (by omega)) (fun k => hF875 (45 + 3) k (by omega))
      rw [hte.1, oRides_c (fun q j hj => hte.2 q j (by have := tX_0 q; omega))] at hp883
      have ht895 : RT Z I274 := ⟨tp887, ⟨_, oRides_ok hok, TX_fr hp873.2 hF885 (by intro a k h1 h2; omega), hp883.2⟩, rk886⟩
      have ha896 := RA_keep hra (NA.tr na882 na891)
      exact ih Z I274 J rc rs (x3 + 6) h888 hr892 hs893 hj894 ht895 ha896 (by omega) (by omega) (by omega) (by omega)
    · skip
      refine ⟨hv1, ?_⟩
      refine pX11_day h.1 h.2.1 (RA_hi hra) h.2.2.1 ht1 hok (fun v278 I277 hW898 hF899 hp897 => ?_)
      have tm900 := TM_fr ht2 (show s.1.1 ≤ 8 by omega) hF899 (by omega) (by omega) (by omega) (by omega) (by intro a k h1 h2 h3; omega)
      have rk901 := RK_fr h hrt.2.2 hF899 (by intro a k h; omega)
      have tp902 := TP_fr hrt.1 hF899 (by intro a k h; omega)
      have h903 := IV_x h hW898 hF899 (by intro a k h; omega)
      have nx904 : NX Z I Z I277 := NX_fr hF899 (by omega) (by omega) (by omega)
      have ns905 : NS Z I Z I277 := NS_fr hF899 (by intro a k h; omega)
      have na906 : NA Z I Z I277 := NA_fr hF899 (by intro a k h; omega)
      refine ⟨hv1, ?_⟩
      refine pX12_day h903.2.2.2.1 h903.2.2.2.2.1 tm900 hok (fun v281 I280 hW908 hF909 hp907 => ?_)
      have rk910 := RK_fr h903 rk901 hF909 (by intro a k h; omega)
      have tp911 := TP_fr tp902 hF909 (by intro a k h; omega)
      have h912 := IV_m h903 hW908 hF909 (by intro a k h; omega)
      have nx913 : NX Z I277 Z I280 := NX_fr hF909 (by omega) (by omega) (by omega)
      have ns914 : NS Z I277 Z I280 := NS_fr hF909 (by intro a k h; omega)
      have na915 : NA Z I277 Z I280 := NA_fr hF909 (by intro a k h; omega)
      have hr916 := RV_keep hr (NX.tr nx904 nx913)
      have hs917 := RS_keep hrs (NS.tr ns905 ns914)
      have hj918 := RJ_keep hrj (NS.tr ns905 ns914) NJ.rf
      have hme := MAN_eq (x := (xs (Int32.toNatClampNeg (x3 + 1)))) hrs hra (fun k => hF899 (45 + 1) k (by omega)) (fun k => hF899 (45 + 14) k (by omega)) (fun k => hF899 (45 + 15) k (by omega))
      rw [hme.1, oDay_c hme.2] at hp907
      have ht919 : RT Z I280 := ⟨tp911, ⟨_, oDay_ok hok, TX_fr hp897.2 hF909 (by intro a k h1 h2; omega), hp907.2⟩, rk910⟩
      have ha920 := RA_keep hra (NA.tr na906 na915)
      exact ih Z I280 J rc rs (x3 + 6) h912 hr916 hs917 hj918 ht919 ha920 (by omega) (by omega) (by omega) (by omega)
    · skip
      refine ⟨hv1, ?_⟩
      refine pX11_meet h.1 h.2.2.1 ht1 (fun v284 I283 hW922 hF923 hp921 => ?_)
      have tm924 := TM_fr ht2 (show s.1.1 ≤ 8 by omega) hF923 (by omega) (by omega) (by omega) (by omega) (by intro a k h1 h2 h3; omega)
      have rk925 := RK_fr h hrt.2.2 hF923 (by intro a k h; omega)
      have tp926 := TP_fr hrt.1 hF923 (by intro a k h; omega)
      have h927 := IV_x h hW922 hF923 (by intro a k h; omega)
      have nx928 : NX Z I Z I283 := NX_fr hF923 (by omega) (by omega) (by omega)
      have ns929 : NS Z I Z I283 := NS_fr hF923 (by intro a k h; omega)
      have na930 : NA Z I Z I283 := NA_fr hF923 (by intro a k h; omega)
      refine ⟨hv1, ?_⟩
      refine pX12_meet h927.2.2.2.1 h927.2.2.2.2.1 tm924 (fun v287 I286 hW932 hF933 hp931 => ?_)
      have rk934 := RK_fr h927 rk925 hF933 (by intro a k h; omega)
      have tp935 := TP_fr tp926 hF933 (by intro a k h; omega)
      have h936 := IV_m h927 hW932 hF933 (by intro a k h; omega)
      have nx937 : NX Z I283 Z I286 := NX_fr hF933 (by omega) (by omega) (by omega)
      have ns938 : NS Z I283 Z I286 := NS_fr hF933 (by intro a k h; omega)
      have na939 : NA Z I283 Z I286 := NA_fr hF933 (by intro a k h; omega)
      have hr940 := RV_keep hr (NX.tr nx928 nx937)
      have hs941 := RS_keep hrs (NS.tr ns929 ns938)
      have hj942 := RJ_keep hrj (NS.tr ns929 ns938) NJ.rf
      have ht943 : RT Z I286 := ⟨tp935, ⟨_, oMeet_ok hok, TX_fr hp921.2 hF933 (by intro a k h1 h2; omega), hp931.2⟩, rk934⟩
      have ha944 := RA_keep hra (NA.tr na930 na939)
      exact ih Z I286 J rc rs (x3 + 6) h936 hr940 hs941 hj942 ht943 ha944 (by omega) (by omega) (by omega) (by omega)
    · skip
      refine pX11_year h.1 h.2.2.1 ht1 hok (fun v289 I288 hW946 hF947 hp945 => ?_)
      have tm948 := TM_fr ht2 (show s.1.1 ≤ 8 by omega) hF947 (by omega) (by omega) (by omega) (by omega) (by intro a k h1 h2 h3; omega)
      have rk949 := RK_fr h hrt.2.2 hF947 (by intro a k h; omega)
      have tp950 := TP_fr hrt.1 hF947 (by intro a k h; omega)
      have h951 := IV_x h hW946 hF947 (by intro a k h; omega)
      have nx952 : NX Z I Z I288 := NX_fr hF947 (by omega) (by omega) (by omega)
      have ns953 : NS Z I Z I288 := NS_fr hF947 (by intro a k h; omega)
      have na954 : NA Z I Z I288 := NA_fr hF947 (by intro a k h; omega)
      refine pX12_year h951.2.2.2.1 h951.2.2.2.2.1 tm948 hok (fun v291 I290 hW956 hF957 hp955 => ?_)
      have rk958 := RK_fr h951 rk949 hF957 (by intro a k h; omega)
      have tp959 := TP_fr tp950 hF957 (by intro a k h; omega)
      have h960 := IV_m h951 hW956 hF957 (by intro a k h; omega)
      have nx961 : NX Z I288 Z I290 := NX_fr hF957 (by omega) (by omega) (by omega)
      have ns962 : NS Z I288 Z I290 := NS_fr hF957 (by intro a k h; omega)
      have na963 : NA Z I288 Z I290 := NA_fr hF957 (by intro a k h; omega)
      have hr964 := RV_keep hr (NX.tr nx952 nx961)
      have hs965 := RS_keep hrs (NS.tr ns953 ns962)
      have hj966 := RJ_keep hrj (NS.tr ns953 ns962) NJ.rf
      have ht967 : RT Z I290 := ⟨tp959, ⟨_, oYear_ok hok, TX_fr hp945.2 hF957 (by intro a k h1 h2; omega), hp955.2⟩, rk958⟩
      have ha968 := RA_keep hra (NA.tr na954 na963)
      exact ih Z I290 J rc rs (x3 + 6) h960 hr964 hs965 hj966 ht967 ha968 (by omega) (by omega) (by omega) (by omega)
    · skip
      refine ⟨hv1, ?_⟩
      refine pX11_come h.1 h.2.2.1 ht1 (fun v294 I293 hW970 hF971 hp969 => ?_)
      have tm972 := TM_fr ht2 (show s.1.1 ≤ 8 by omega) hF971 (by omega) (by omega) (by omega) (by omega) (by intro a k h1 h2 h3; omega)
      have rk973 := RK_fr h hrt.2.2 hF971 (by intro a k h; omega)
      have tp974 := TP_fr hrt.1 hF971 (by intro a k h; omega)
      have h975 := IV_x h hW970 hF971 (by intro a k h; omega)
      have nx976 : NX Z I Z I293 := NX_fr hF971 (by omega) (by omega) (by omega)
      have ns977 : NS Z I Z I293 := NS_fr hF971 (by intro a k h; omega)
      have na978 : NA Z I Z I293 := NA_fr hF971 (by intro a k h; omega)
      refine ⟨hv1, ?_⟩
      refine pX12_come h975.2.2.2.1 h975.2.2.2.2.1 tm972 (fun v297 I296 hW980 hF981 hp979 => ?_)
      have rk982 := RK_fr h975 rk973 hF981 (by intro a k h; omega)
      have tp983 := TP_fr tp974 hF981 (by intro a k h; omega)
      have h984 := IV_m h975 hW980 hF981 (by intro a k h; omega)
      have nx985 : NX Z I293 Z I296 := NX_fr hF981 (by omega) (by omega) (by omega)
      have ns986 : NS Z I293 Z I296 := NS_fr hF981 (by intro a k h; omega)
      have na987 : NA Z I293 Z I296 := NA_fr hF981 (by intro a k h; omega)
      have hr988 := RV_keep hr (NX.tr nx976 nx985)
      have hs989 := RS_keep hrs (NS.tr ns977 ns986)
      have hj990 := RJ_keep hrj (NS.tr ns977 ns986) NJ.rf
      have ht991 : RT Z I296 := ⟨tp983, ⟨_, oCome_ok hok, TX_fr hp969.2 hF981 (by intro a k h1 h2; omega), hp979.2⟩, rk982⟩
      have ha992 := RA_keep hra (NA.tr na978 na987)
      exact ih Z I296 J rc rs (x3 + 6) h984 hr988 hs989 hj990 ht991 ha992 (by omega) (by omega) (by omega) (by omega)
    · skip
      refine ⟨hv1, ?_⟩
      refine fsfX11_seed h.1 h.2.2.1 ht1 (fun v300 I299 hW994 hF995 hp993 => ?_)
      have tm996 := TM_fr ht2 (show s.1.1 ≤ 8 by omega) hF995 (by omega) (by omega) (by omega) (by omega) (by intro a k h1 h2 h3; omega)
      have rk997 := RK_fr h hrt.2.2 hF995 (by intro a k h; omega)
      have tp998 := TP_fr hrt.1 hF995 (by intro a k h; omega)
      have h999 := IV_x h hW994 hF995 (by intro a k h; omega)
      have nx1000 : NX Z I Z I299 := NX_fr hF995 (by omega) (by omega) (by omega)
      have ns1001 : NS Z I Z I299 := NS_fr hF995 (by intro a k h; omega)
      have na1002 : NA Z I Z I299 := NA_fr hF995 (by intro a k h; omega)
      refine ⟨hv1, ?_⟩
      refine fsfX12_seed h999.2.2.2.1 h999.2.2.2.2.1 tm996 (fun v303 I302 hW1004 hF1005 hp1003 => ?_)
      have rk1006 := RK_fr h999 rk997 hF1005 (by intro a k h; omega)
      have tp1007 := TP_fr tp998 hF1005 (by intro a k h; omega)
      have h1008 := IV_m h999 hW1004 hF1005 (by intro a k h; omega)
      have nx1009 : NX Z I299 Z I302 := NX_fr hF1005 (by omega) (by omega) (by omega)
      have ns1010 : NS Z I299 Z I302 := NS_fr hF1005 (by intro a k h; omega)
      have na1011 : NA Z I299 Z I302 := NA_fr hF1005 (by intro a k h; omega)
      have hr1012 := RV_keep hr (NX.tr nx1000 nx1009)
      have hs1013 := RS_keep hrs (NS.tr ns1001 ns1010)
      have hj1014 := RJ_keep hrj (NS.tr ns1001 ns1010) NJ.rf
      have ht1015 : RT Z I302 := ⟨tp1007, ⟨_, oSeed_ok hok, TX_fr hp993.2 hF1005 (by intro a k h1 h2; omega), hp1003.2⟩, rk1006⟩
      have ha1016 := RA_keep hra (NA.tr na1002 na1011)
      exact ih Z I302 J rc rs (x3 + 6) h1008 hr1012 hs1013 hj1014 ht1015 ha1016 (by omega) (by omega) (by omega) (by omega)
    · skip
      refine pX11_image h.1 h.2.2.1 ht1 (fun v305 I304 hW1018 hF1019 hp1017 pI1020 => ?_)
      have tm1021 := TM_fr ht2 (show s.1.1 ≤ 8 by omega) hF1019 (by omega) (by omega) (by omega) (by omega) (by intro a k h1 h2 h3; omega)
      have tp1022 := TP_fr hrt.1 hF1019 (by intro a k h; omega)
      have h1023 := IV_x h hW1018 hF1019 (by intro a k h; omega)
      have e25 := congrArg Int32.toInt (hF1019 25 1 (by omega))
      have e458 := congrArg Int32.toInt (hF1019 45 8 (by omega))
      have ns1024 : NS Z I Z I304 := NS_fr hF1019 (by intro a k h; omega)
      have na1025 : NA Z I Z I304 := NA_fr hF1019 (by intro a k h; omega)
      refine ⟨38, 1946, rc - 100, rs - 2100, by omega, by omega, ?_⟩
      refine qX12_image hG h1023.2.2.2 (fun Z306 I306 J306 hS1026 hpi hFi => ⟨1, rfl, (IV_s h1023 hS1026).1, hS1026.1.1, ?_⟩)
      have h1030 := IV_s h1023 hS1026
      have m25 := congrArg Int32.toInt (hS1026.2.2.2.2.1 25 1 (by omega))
      have m458 := congrArg Int32.toInt (hS1026.2.2.2.2.1 45 8 (by omega))
      have m08 := congrArg Int32.toInt (hS1026.2.2.2.2.1 0 8 (by omega))
      have ns1031 := NS_st h1023 hS1026
      have na1032 := NA_st h1023 hS1026
      have nj1033 := NJ_st h1023 hS1026
      have hr1034 : RV Z306 I306 := ⟨by omega, ⟨fun q => absurd q (by omega), fun q => by obtain ⟨w9, hw9, _⟩ := hpi; rw [hw9] at q; cases q⟩⟩
      have hs1035 := RS_keep hrs (NS.tr ns1024 ns1031)
      have hj1036 := RJ_keep hrj (NS.tr ns1024 ns1031) nj1033
      obtain ⟨w9, hw9, c1, c2, c3⟩ := hpi
      have ht1037 : RT Z306 I306 := ⟨TP_fr tp1022 hFi (by intro a k h; omega), ⟨s, hok, TX_fr (TX_fr ht1 hF1019 (by intro a k h1 h2; omega)) hFi (by intro a k h1 h2; omega), TM_fr tm1021 (show s.1.1 ≤ 8 by omega) hFi (by omega) (by omega) (by omega) (by omega) (by intro a k h1 h2 h3; omega)⟩, fun u hu => by rw [hw9] at hu; cases hu; exact ⟨s, hok, TX_fr pI1020 hFi (by intro a k h1 h2; omega), RM_cm tm1021.1 (show s.1.1 ≤ 8 by omega) c3, by rw [c3.2.2.2 19 (by decide) (by decide)]; exact tm1021.2⟩⟩
      have ha1038 := RA_keep hra (NA.tr na1025 na1032)
      exact ih Z306 I306 J306 (rc - 100) (rs - 2100) (x3 + 6) h1030 hr1034 hs1035 hj1036 ht1037 ha1038 (by omega) (by omega) (by omega) (by omega)
    · skip
      refine pX11_back h.1 h.2.2.1 (fun v308 I307 hW1040 hF1041 hp1039 pB1042 pB1043 => ?_)
      have tm1044 := TM_fr ht2 (show s.1.1 ≤ 8 by omega) hF1041 (by omega) (by omega) (by omega) (by omega) (by intro a k h1 h2 h3; omega)
      have rk1045 := RK_fr h hrt.2.2 hF1041 (by intro a k h; omega)
      have tp1046 := TP_fr hrt.1 hF1041 (by intro a k h; omega)
      have h1047 := IV_x h hW1040 hF1041 (by intro a k h; omega)
      have nx1048 : NX Z I Z I307 := NX_fr hF1041 (by omega) (by omega) (by omega)
      have ns1049 : NS Z I Z I307 := NS_fr hF1041 (by intro a k h; omega)
      have na1050 : NA Z I Z I307 := NA_fr hF1041 (by intro a k h; omega)
      refine qX12_back h1047.2.2.2 (fun v310 I309 hS1051 hpb => ?_)
      have h1052 := IV_s h1047 hS1051
      have nx1053 := NX_st h1047 hS1051 (by decide)
      have ns1054 := NS_st h1047 hS1051
      have na1055 := NA_st h1047 hS1051
      have nj1056 := NJ_st h1047 hS1051
      have hr1057 := RV_keep hr (NX.tr nx1048 nx1053)
      have hs1058 := RS_keep hrs (NS.tr ns1049 ns1054)
      have hj1059 := RJ_keep hrj (NS.tr ns1049 ns1054) nj1056
      have hmain : ∃ s : Sd, OKT s.1 ∧ TX I309 1 s ∧ TM I309 45 s := by
        cases hz9 : Z.2.1 45 20 with
        | none =>
          have g := hr.2.mpr hz9
          obtain ⟨_, fB⟩ := hpb.1 hz9
          exact ⟨s, hok, TX_fr (pB1043 g s ht1) fB (by intro a k h1 h2; omega), TM_fr tm1044 (show s.1.1 ≤ 8 by omega) fB (by omega) (by omega) (by omega) (by omega) (by intro a k h1 h2 h3; omega)⟩
        | some w9 =>
          have hne : ¬ Z.2.1 45 20 = none := by rw [hz9]; exact fun e => by cases e
          have g := mt hr.2.mp hne
          obtain ⟨s9, k9, g1, g2⟩ := hrt.2.2 w9 hz9
          have l9 := g1.1.1
          have hwk := IV_kept h hz9
          have hw9 := WX_f h.2.2.1
          obtain ⟨_, c3⟩ := hpb.2 hne
          have c3 := c3 w9 hz9
          have g3 := TM_fr g2 (show s9.1.1 ≤ 8 by omega) hF1041 (by omega) (by omega) (by omega) (by omega) (by intro a k h1 h2 h3; omega)
          exact ⟨s9, k9, TX_fr (pB1042 g s9 g1) hS1051.2.2.2.2.1 (by intro a k h1 h2; omega), RM_cm g3.1 (show s9.1.1 ≤ 8 by omega) c3, by rw [c3.2.2.2 19 (by decide) (by decide)]; exact g3.2⟩
      have hbz := h.2.2.2.2.2.1
      have ht1060 : RT Z I309 := ⟨TP_fr tp1046 hS1051.2.2.2.2.1 (by intro a k h; omega), hmain, RK_eq rk1045 h1047.2.2.1 rfl (fun a k h1 h2 => hS1051.2.2.2.2.1 a k (by omega)) (fun u hu a k h1 h2 => hS1051.2.2.2.2.2.2.1 rfl (by omega) u hu a k h1 h2)⟩
      have ha1061 := RA_keep hra (NA.tr na1050 na1055)
      exact ih Z I309 J rc rs (x3 + 6) h1052 hr1057 hs1058 hj1059 ht1060 ha1061 (by omega) (by omega) (by omega) (by omega)
    · skip
      refine ⟨hv1, ?_⟩
      refine sfX11_status h.1 h.2.2.1 (fun v313  => ?_)
      have nx1063 : NX Z I Z I := NX.rf
      have ns1064 : NS Z I Z I := NS.rf
      have nt1065 : NT Z I Z I := NT.rf
      have na1066 : NA Z I Z I := NA.rf
      refine ⟨hv1, ?_⟩
      refine sfX12_status h.2.2.2.1 h.2.2.2.2.1 (fun v316  => ?_)
      have nx1068 : NX Z I Z I := NX.rf
      have ns1069 : NS Z I Z I := NS.rf
      have nt1070 : NT Z I Z I := NT.rf
      have na1071 : NA Z I Z I := NA.rf
      have hr1072 := RV_keep hr (NX.tr nx1063 nx1068)
      have hs1073 := RS_keep hrs (NS.tr ns1064 ns1069)
      have hj1074 := RJ_keep hrj (NS.tr ns1064 ns1069) NJ.rf
      have ht1075 := RT_keep h hrt (NT.tr nt1065 nt1070)
      have ha1076 := RA_keep hra (NA.tr na1066 na1071)
      exact ih Z I J rc rs (x3 + 6) h hr1072 hs1073 hj1074 ht1075 ha1076 (by omega) (by omega) (by omega) (by omega)

