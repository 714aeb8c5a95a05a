set_option maxRecDepth 20000 in
set_option maxHeartbeats 4000000 in
/-- the law's loop goes on well -/
theorem lL_law {G : jdG} {nm : String} {b L : Nat} {xs : Nat → Int32} {sA sV : Nat → Nat} (hG : gOK G sA sV) (hXs : ∀ U, G.2.2.2.2 U → va_X b L xs U G.2.2.1) (hL : L ≤ 100000) : ∀ m : Nat, ∀ (Z : jdL) (I : jdI) (J : jdJ) (rc rs : Nat) (x3 : Int32), IV Z I → RV Z I → RS Z I → RJ I J → RT Z I → RA Z I → 0 ≤ x3.toInt → (L : Int) - x3.toInt + 6 < (m : Int) → 20 * ((L : Int) - x3.toInt) ≤ (rc : Int) → 350 * ((L : Int) - x3.toInt) ≤ (rs : Int) → x3.toInt ≤ (L : Int) → Jd G (mLaw nm) (lawF G) (2046 + 1) rc rs 18 [(0, .ref b), (1, .ref (gb G + 0)), (2, .ref (gb G + 45)), (3, .int x3)] [] Z I J := by
  intro m
  induction m with
  | zero =>
    intro Z I J rc rs x3 h hr hrs hrj hrt hra h0 hm h1 h2 h3
    have hr1 := hr.1
    omega
  | succ m ih0 =>
    have ih : ∀ (Z : jdL) (I : jdI) (J : jdJ) (rc rs : Nat) (x3 : Int32), IV Z I → RV Z I → RS Z I → RJ I J → RT Z I → RA Z I → 0 ≤ x3.toInt → (L : Int) - x3.toInt + 6 < (m : Int) → 20 * ((L : Int) - x3.toInt) ≤ (rc : Int) → 350 * ((L : Int) - x3.toInt) ≤ (rs : Int) ∧ x3.toInt ≤ (L : Int) → Jd G (mLaw nm) (lawF G) (2046 + 1) rc rs 18 [(0, .ref b), (1, .ref (gb G + 0)), (2, .ref (gb G + 45)), (3, .int x3)] [] Z I J := fun Z I J rc rs x3 h hr hrs hrj hrt hra a1 a2 a3 a4 => ih0 Z I J rc rs x3 h hr hrs hrj hrt hra a1 a2 a3 a4.1 a4.2
    intro Z I J rc rs x3 h hr hrs hrj hrt hra h0 hm h1 h2 h3
    have hr1 := hr.1
    obtain ⟨s, hok, ht1, ht2⟩ := hrt.2.1
    have hP7 := ht1.1.1
    have hwx := WX_f h.2.2.1
    have hs8 : s.1.1 ≤ 8 := by omega
    have qL : (Nat.toInt32 L).toInt = (L : Int) := nI_toInt (by omega)
    have q6 : (6 : Int32).toInt = 6 := rfl
    have q1 : (1 : Int32).toInt = 1 := rfl
    have q2 : (2 : Int32).toInt = 2 := rfl
    have q3 : (3 : Int32).toInt = 3 := rfl
    have q4 : (4 : Int32).toInt = 4 := rfl
    have q5 : (5 : Int32).toInt = 5 := rfl
    have s6 := i32_sub (Nat.toInt32 L) 6 (by omega) (by omega)
    refine rL_law hXs h.1 h.2.2.2.1 ⟨fun _ => trivial, fun hc => ?_⟩
    have hc := mt Int32.lt_iff_toInt_lt.mpr hc
    have e6 := i32_add x3 6 (by omega) (by omega)
    have hv0 : vp_in x3 L := vp_of (by omega) (by omega)
    have e1 := i32_add x3 1 (by omega) (by omega)
    have hv1 : vp_in (x3 + 1) L := vp_of (by omega) (by omega)
    have e2 := i32_add x3 2 (by omega) (by omega)
    have hv2 : vp_in (x3 + 2) L := vp_of (by omega) (by omega)
    have e3 := i32_add x3 3 (by omega) (by omega)
    have hv3 : vp_in (x3 + 3) L := vp_of (by omega) (by omega)
    have e4 := i32_add x3 4 (by omega) (by omega)
    have hv4 : vp_in (x3 + 4) L := vp_of (by omega) (by omega)
    have e5 := i32_add x3 5 (by omega) (by omega)
    have hv5 : vp_in (x3 + 5) L := vp_of (by omega) (by omega)
    have f1 : 0 ≤ (x3 + 6).toInt := by omega
    have f2 : (L : Int) - (x3 + 6).toInt + 6 < (m : Int) := by omega
    have f3 : 20 * ((L : Int) - (x3 + 6).toInt) ≤ (rc : Int) := by omega
    have f4 : 350 * ((L : Int) - (x3 + 6).toInt) ≤ (rs : Int) ∧ (x3 + 6).toInt ≤ (L : Int) := by omega
    refine ⟨hv0, ?_⟩
    refine ⟨fun hc1 => ?_, fun hc2 => ?_, fun hc3 => ?_, fun hc4 => ?_, fun hc5 => ?_, fun hc6 => ?_, fun hc7 => ?_, fun hc8 => ?_, fun hc9 => ?_, fun hc10 => ?_, fun hc11 => ?_, fun hc12 => ?_, fun hc13 => ?_, fun hc14 => ?_, fun hc15 => ?_, fun hc16 => ?_, fun hc17 => ?_, fun hc18 => ?_, fun hc19 => ?_, fun hc20 => ?_, fun hc21 => ?_, fun hc22 => ?_, fun hc23 => ?_, fun hc24 => ?_, fun hc25 => ?_, fun hc26 => ?_, fun hc27 => ?_, fun hc28 => ?_, fun hc29 => ?_, fun hc30 => ?_, fun hc31 => ?_, fun hc32 => ?_, fun hc33 => ?_, fun hc34 => ?_, fun hc35 => ?_, fun hc36 => ?_, fun hc37 => ?_, fun hc38 => ?_, fun hc39 => ?_, fun hc40 => ?_, fun hc41 => ?_, fun hc42 => ?_, fun hc43 => ?_, fun hc44 => ?_, fun hc45 => ?_, fun hc46 => ?_, fun hc47 => ?_, fun hc48 => ?_⟩
    · clear hwx e1 e2 e3 e4 e5 e6 s6 q1 q2 q3 q4 q5 q6 h0 hm h1 h2 h3 hc
      have hr49 := hr
      have hs50 := hrs
      have hj51 := hrj
      exact ih Z I J rc rs (x3 + 6) h hr49 hs50 hj51 hrt hra f1 f2 f3 f4
    · clear hwx
      refine ⟨hv1, ?_⟩
      refine ⟨hv2, ?_⟩
      refine ⟨hv3, ?_⟩
      refine ⟨0, 0, rc - 100, rs - 2100, by omega, by omega, ?_⟩
      refine qX11_row h (fun v55 Z5 I5 J5 hS53 hp54 nx56 hx57 ha58 hj59 nt60 => ⟨v55, rfl, hS53.1, hS53.2.2.2.1, ?_⟩)
      refine ⟨hv1, ?_⟩
      refine ⟨hv2, ?_⟩
      refine ⟨hv3, ?_⟩
      refine sfX12_row hS53.2.2.2.1 hS53.2.2.2.2.1 (fun v10 I9 J9 hW62 hF63 hp61 => ?_)
      have nt64 : NT Z5 I5 Z5 I9 := NT_fr hS53 hF63 (by intro a k h; omega)
      have h65 := IV_m hS53 hW62 hF63 (by intro a k h; omega)
      have nx66 : NX Z5 I5 Z5 I9 := NX_fr hF63 (by omega) (by omega) (by omega)
      have hr67 := RV_keep hr (NX.tr nx56 nx66)
      have hs68 := RS_row h hrs hx57 hF63 hp61
      have hj69 := RJ_row hrj (fun i hi => hx57.1 _ _ (by omega) (by have := h.2.2.2.2.2.1; omega)) hj59 hF63 hp61
      have ht70 := RT_keep h hrt (NT.tr nt60 nt64)
      have ha71 := RA_row hra (fun i hi => hx57.1 _ _ (by omega) (by have := h.2.2.2.2.2.1; omega)) ha58 hF63
      exact ih Z5 I9 J9 (rc - 100) (rs - 2100) (x3 + 6) h65 hr67 hs68 hj69 ht70 ha71 (by omega) (by omega) (by omega) (by omega)
    · clear hwx e1 e2 e3 e4 e5 e6 s6 q1 q2 q3 q4 q5 q6 h0 hm h1 h2 h3 hc
      refine ⟨hv1, ?_⟩
      refine ⟨hv2, ?_⟩
      refine ⟨hv3, ?_⟩
      refine ⟨hv4, ?_⟩
      refine sfX11_set h.1 h.2.2.1 (fun v16 I15 J15 hW73 hF74 hp72 => ?_)
      have nt75 : NT Z I Z I15 := NT_fr h hF74 (by intro a k h; omega)
      have h76 := IV_x h hW73 hF74 (by intro a k h; omega)
      have nx77 : NX Z I Z I15 := NX_fr hF74 (by omega) (by omega) (by omega)
      have ns78 : NS Z I Z I15 := NS_fr hF74 (by intro a k h; omega)
      have na79 : NA Z I Z I15 := NA_fr hF74 (by intro a k h; omega)
      refine ⟨hv1, ?_⟩
      refine ⟨hv2, ?_⟩
      refine ⟨hv3, ?_⟩
      refine ⟨hv4, ?_⟩
      refine sfX12_set h76.2.2.2.1 h76.2.2.2.2.1 (fun v22 I21 J21 hW81 hF82 hp80 => ?_)
      have nt83 : NT Z I15 Z I21 := NT_fr h76 hF82 (by intro a k h; omega)
      have h84 := IV_m h76 hW81 hF82 (by intro a k h; omega)
      have nx85 : NX Z I15 Z I21 := NX_fr hF82 (by omega) (by omega) (by omega)
      have ns86 : NS Z I15 Z I21 := NS_fr hF82 (by intro a k h; omega)
      have na87 : NA Z I15 Z I21 := NA_fr hF82 (by intro a k h; omega)
      have hr88 := RV_keep hr (NX.tr nx77 nx85)
      have hs89 := RS_keep hrs (NS.tr ns78 ns86)
      have hj90 := RJ_set hrs hrj ns78 (NS.tr ns78 ns86) hp72 hp80
      have ht91 := RT_keep h hrt (NT.tr nt75 nt83)
      have ha92 := RA_keep hra (NA.tr na79 na87)
      exact ih Z I21 J21 rc rs (x3 + 6) h84 hr88 hs89 hj90 ht91 ha92 f1 f2 f3 f4
    · clear hwx e1 e2 e3 e4 e5 e6 s6 q1 q2 q3 q4 q5 q6 h0 hm h1 h2 h3 hc
      refine ⟨hv1, ?_⟩
      refine ⟨hv2, ?_⟩
      refine ⟨hv3, ?_⟩
      refine ⟨hv4, ?_⟩
      refine ⟨hv5, ?_⟩
      refine sfX11_copy h.1 h.2.2.1 (fun v29 I28 J28 hW94 hF95 hp93 => ?_)
      have nt96 : NT Z I Z I28 := NT_fr h hF95 (by intro a k h; omega)
      have h97 := IV_x h hW94 hF95 (by intro a k h; omega)
      have nx98 : NX Z I Z I28 := NX_fr hF95 (by omega) (by omega) (by omega)
      have ns99 : NS Z I Z I28 := NS_fr hF95 (by intro a k h; omega)
      have na100 : NA Z I Z I28 := NA_fr hF95 (by intro a k h; omega)
      refine ⟨hv1, ?_⟩
      refine ⟨hv2, ?_⟩
      refine ⟨hv3, ?_⟩
      refine ⟨hv4, ?_⟩
      refine ⟨hv5, ?_⟩
      refine sfX12_copy h97.2.2.2.1 h97.2.2.2.2.1 (fun v36 I35 J35 hW102 hF103 hp101 => ?_)
      have nt104 : NT Z I28 Z I35 := NT_fr h97 hF103 (by intro a k h; omega)
      have h105 := IV_m h97 hW102 hF103 (by intro a k h; omega)
      have nx106 : NX Z I28 Z I35 := NX_fr hF103 (by omega) (by omega) (by omega)
      have ns107 : NS Z I28 Z I35 := NS_fr hF103 (by intro a k h; omega)
      have na108 : NA Z I28 Z I35 := NA_fr hF103 (by intro a k h; omega)
      have hr109 := RV_keep hr (NX.tr nx98 nx106)
      have hs110 := RS_keep hrs (NS.tr ns99 ns107)
      have hj111 := RJ_copy h.2.2.2.2.1 hrs hrj ns99 (NS.tr ns99 ns107) hp93 hp101
      have ht112 := RT_keep h hrt (NT.tr nt96 nt104)
      have ha113 := RA_keep hra (NA.tr na100 na108)
      exact ih Z I35 J35 rc rs (x3 + 6) h105 hr109 hs110 hj111 ht112 ha113 f1 f2 f3 f4
    · clear hwx e1 e2 e3 e4 e5 e6 s6 q1 q2 q3 q4 q5 q6 h0 hm h1 h2 h3 hc
      refine ⟨hv1, ?_⟩
      refine ⟨hv2, ?_⟩
      refine sfX11_element h.1 h.2.2.1 (fun v40  hp114 => ?_)
      have nx115 : NX Z I Z I := NX.rf
      have ns116 : NS Z I Z I := NS.rf
      have nt117 : NT Z I Z I := NT.rf
      have na118 : NA Z I Z I := NA.rf
      refine ⟨hv1, ?_⟩
      refine ⟨hv2, ?_⟩
      refine sfX12_element h.2.2.2.1 h.2.2.2.2.1 (fun v44  hp119 => ?_)
      have nx120 : NX Z I Z I := NX.rf
      have ns121 : NS Z I Z I := NS.rf
      have nt122 : NT Z I Z I := NT.rf
      have na123 : NA Z I Z I := NA.rf
      have hr124 := RV_keep hr (NX.tr nx115 nx120)
      have hs125 := RS_keep hrs (NS.tr ns116 ns121)
      have hj126 := RJ_keep hrj (NS.tr ns116 ns121) NJ.rf
      have ht127 := RT_keep h hrt (NT.tr nt117 nt122)
      have ha128 := RA_keep hra (NA.tr na118 na123)
      exact ih Z I J rc rs (x3 + 6) h hr124 hs125 hj126 ht127 ha128 f1 f2 f3 f4
    · clear hwx e1 e2 e3 e4 e5 e6 s6 q1 q2 q3 q4 q5 q6 h0 hm h1 h2 h3 hc
      refine ⟨hv1, ?_⟩
      refine sfX11_holds hG h.1 h.2.1 h.2.2.1 (fun v47  hp129 => ?_)
      have nx130 : NX Z I Z I := NX.rf
      have ns131 : NS Z I Z I := NS.rf
      have nt132 : NT Z I Z I := NT.rf
      have na133 : NA Z I Z I := NA.rf
      refine ⟨hv1, ?_⟩
      refine sfX12_holds h.2.2.2.1 h.2.2.2.2.1 (fun v50  hp134 => ?_)
      have nx135 : NX Z I Z I := NX.rf
      have ns136 : NS Z I Z I := NS.rf
      have nt137 : NT Z I Z I := NT.rf
      have na138 : NA Z I Z I := NA.rf
      have hr139 := RV_keep hr (NX.tr nx130 nx135)
      have hs140 := RS_keep hrs (NS.tr ns131 ns136)
      have hj141 := RJ_keep hrj (NS.tr ns131 ns136) NJ.rf
      have ht142 := RT_keep h hrt (NT.tr nt132 nt137)
      have ha143 := RA_keep hra (NA.tr na133 na138)
      exact ih Z I J rc rs (x3 + 6) h hr139 hs140 hj141 ht142 ha143 f1 f2 f3 f4
    · clear hwx
      refine ⟨hv1, ?_⟩
      refine ⟨hv2, ?_⟩
      refine ⟨hv3, ?_⟩
      refine ⟨1, 1, rc - 100, rs - 2100, by omega, by omega, ?_⟩
      refine qX11_coachman h (fun v146 Z54 I54 J54 hS144 hp145 nx147 hx148 ha149 hj150 nt151 => ⟨v146, rfl, hS144.1, hS144.2.2.2.1, ?_⟩)
      refine ⟨hv1, ?_⟩
      refine ⟨hv2, ?_⟩
      refine ⟨hv3, ?_⟩
      refine pX12_coachman hS144.2.2.2.1 hS144.2.2.2.2.1 (fun v59 I58 hW153 hF154 hp152 mb155 => ?_)
      have nt156 : NT Z54 I54 Z54 I58 := NT_fr hS144 hF154 (by intro a k h; omega)
      have h157 := IV_m hS144 hW153 hF154 (by intro a k h; omega)
      have nx158 : NX Z54 I54 Z54 I58 := NX_fr hF154 (by omega) (by omega) (by omega)
      have hr159 := RV_keep hr (NX.tr nx147 nx158)
      have hs160 := RS_man h hrs hx148 hF154 hp152
      rw [hj150]
      have hj161 := RJ_man hrj (fun i hi => hx148.1 _ _ (by omega) (by have := h.2.2.2.2.2.1; omega)) hF154 hp152
      have ht162 := RT_keep h hrt (NT.tr nt151 nt156)
      have ha163 := RA_man hra (fun i hi => hx148.1 _ _ (by omega) (by have := h.2.2.2.2.2.1; omega)) ha149 hF154 mb155
      exact ih Z54 I58 J (rc - 100) (rs - 2100) (x3 + 6) h157 hr159 hs160 hj161 ht162 ha163 (by omega) (by omega) (by omega) (by omega)
    · clear hwx e1 e2 e3 e4 e5 e6 s6 q1 q2 q3 q4 q5 q6 h0 hm h1 h2 h3 hc
      refine ⟨hv1, ?_⟩
      refine ⟨hv2, ?_⟩
      refine sfX11_says hG h.1 h.2.1 h.2.2.1 (fun v63 I62 hW165 hF166 => ?_)
      have nt167 : NT Z I Z I62 := NT_fr h hF166 (by intro a k h; omega)
      have h168 := IV_x h hW165 hF166 (by intro a k h; omega)
      have nx169 : NX Z I Z I62 := NX_fr hF166 (by omega) (by omega) (by omega)
      have ns170 : NS Z I Z I62 := NS_fr hF166 (by intro a k h; omega)
      have na171 : NA Z I Z I62 := NA_fr hF166 (by intro a k h; omega)
      refine ⟨hv1, ?_⟩
      refine ⟨hv2, ?_⟩
      refine sfX12_says h168.2.2.2.1 h168.2.2.2.2.1 (fun v67 I66 hW173 hF174 => ?_)
      have nt175 : NT Z I62 Z I66 := NT_fr h168 hF174 (by intro a k h; omega)
      have h176 := IV_m h168 hW173 hF174 (by intro a k h; omega)
      have nx177 : NX Z I62 Z I66 := NX_fr hF174 (by omega) (by omega) (by omega)
      have ns178 : NS Z I62 Z I66 := NS_fr hF174 (by intro a k h; omega)
      have na179 : NA Z I62 Z I66 := NA_fr hF174 (by intro a k h; omega)
      have hr180 := RV_keep hr (NX.tr nx169 nx177)
      have hs181 := RS_keep hrs (NS.tr ns170 ns178)
      have hj182 := RJ_keep hrj (NS.tr ns170 ns178) NJ.rf
      have ht183 := RT_keep h hrt (NT.tr nt167 nt175)
      have ha184 := RA_keep hra (NA.tr na171 na179)
      exact ih Z I66 J rc rs (x3 + 6) h176 hr180 hs181 hj182 ht183 ha184 f1 f2 f3 f4
    · clear hwx e1 e2 e3 e4 e5 e6 s6 q1 q2 q3 q4 q5 q6 h0 hm h1 h2 h3 hc
      refine ⟨hv1, ?_⟩
      refine ⟨hv2, ?_⟩
      refine pX11_person h.1 h.2.2.1 ht1 (fun v71 I70 hW186 hF187 hp185 => ?_)
      have tm188 := TM_fr ht2 (show s.1.1 ≤ 8 by omega) hF187 (by omega) (by omega) (by omega) (by omega) (by intro a k h1 h2 h3; omega)
      have rk189 := RK_fr h hrt.2.2 hF187 (by intro a k h; omega)
      have tp190 := TP_fr hrt.1 hF187 (by intro a k h; omega)
      have h191 := IV_x h hW186 hF187 (by intro a k h; omega)
      have nx192 : NX Z I Z I70 := NX_fr hF187 (by omega) (by omega) (by omega)
      have ns193 : NS Z I Z I70 := NS_fr hF187 (by intro a k h; omega)
      have na194 : NA Z I Z I70 := NA_fr hF187 (by intro a k h; omega)
      refine ⟨hv1, ?_⟩
      refine ⟨hv2, ?_⟩
      refine pX12_personS h191.2.2.2.1 h191.2.2.2.2.1 tm188 (fun v75 I74 hW196 hF197 hp195 => ?_)
      have rk198 := RK_fr h191 rk189 hF197 (by intro a k h; omega)
      have tp199 := TP_fr tp190 hF197 (by intro a k h; omega)
      have h200 := IV_m h191 hW196 hF197 (by intro a k h; omega)
      have nx201 : NX Z I70 Z I74 := NX_fr hF197 (by omega) (by omega) (by omega)
      have ns202 : NS Z I70 Z I74 := NS_fr hF197 (by intro a k h; omega)
      have na203 : NA Z I70 Z I74 := NA_fr hF197 (by intro a k h; omega)
      have hr204 := RV_keep hr (NX.tr nx192 nx201)
      have hs205 := RS_keep hrs (NS.tr ns193 ns202)
      have hj206 := RJ_keep hrj (NS.tr ns193 ns202) NJ.rf
      have ht207 : RT Z I74 := ⟨tp199, ⟨_, oPerson_ok hok, TX_fr hp185.2 hF197 (by intro a k h1 h2; omega), hp195.2⟩, rk198⟩
      have ha208 := RA_keep hra (NA.tr na194 na203)
      exact ih Z I74 J rc rs (x3 + 6) h200 hr204 hs205 hj206 ht207 ha208 f1 f2 f3 f4
    · clear hwx e1 e2 e3 e4 e5 e6 s6 q1 q2 q3 q4 q5 q6 h0 hm h1 h2 h3 hc
      refine ⟨hv1, ?_⟩
      refine ⟨hv2, ?_⟩
      refine ⟨hv3, ?_⟩
      refine fsfX11_change h.1 h.2.2.1 ht1 (fun v80 I79 hW210 hF211 hp209 => ?_)
      have tm212 := TM_fr ht2 (show s.1.1 ≤ 8 by omega) hF211 (by omega) (by omega) (by omega) (by omega) (by intro a k h1 h2 h3; omega)
      have rk213 := RK_fr h hrt.2.2 hF211 (by intro a k h; omega)
      have tp214 := TP_fr hrt.1 hF211 (by intro a k h; omega)
      have h215 := IV_x h hW210 hF211 (by intro a k h; omega)
      have nx216 : NX Z I Z I79 := NX_fr hF211 (by omega) (by omega) (by omega)
      have ns217 : NS Z I Z I79 := NS_fr hF211 (by intro a k h; omega)
      have na218 : NA Z I Z I79 := NA_fr hF211 (by intro a k h; omega)
      refine ⟨hv1, ?_⟩
      refine ⟨hv2, ?_⟩
      refine ⟨hv3, ?_⟩
      refine fsfX12_change h215.2.2.2.1 h215.2.2.2.2.1 tm212 (fun v85 I84 hW220 hF221 hp219 => ?_)
      have rk222 := RK_fr h215 rk213 hF221 (by intro a k h; omega)
      have tp223 := TP_fr tp214 hF221 (by intro a k h; omega)
      have h224 := IV_m h215 hW220 hF221 (by intro a k h; omega)
      have nx225 : NX Z I79 Z I84 := NX_fr hF221 (by omega) (by omega) (by omega)
      have ns226 : NS Z I79 Z I84 := NS_fr hF221 (by intro a k h; omega)
      have na227 : NA Z I79 Z I84 := NA_fr hF221 (by intro a k h; omega)
      have hr228 := RV_keep hr (NX.tr nx216 nx225)
      have hs229 := RS_keep hrs (NS.tr ns217 ns226)
      have hj230 := RJ_keep hrj (NS.tr ns217 ns226) NJ.rf
      have ht231 : RT Z I84 := ⟨tp223, ⟨_, oChange_ok hok, TX_fr hp209.2 hF221 (by intro a k h1 h2; omega), hp219.2⟩, rk222⟩
      have ha232 := RA_keep hra (NA.tr na218 na227)
      exact ih Z I84 J rc rs (x3 + 6) h224 hr228 hs229 hj230 ht231 ha232 f1 f2 f3 f4
    · clear hwx e1 e2 e3 e4 e5 e6 s6 q1 q2 q3 q4 q5 q6 h0 hm h1 h2 h3 hc
      refine ⟨hv1, ?_⟩
      refine ⟨hv2, ?_⟩
      refine ⟨hv3, ?_⟩
      refine pX11_know h.1 h.2.2.1 ht1 (fun v90 I89 hW234 hF235 hp233 => ?_)
      have tm236 := TM_fr ht2 (show s.1.1 ≤ 8 by omega) hF235 (by omega) (by omega) (by omega) (by omega) (by intro a k h1 h2 h3; omega)
      have rk237 := RK_fr h hrt.2.2 hF235 (by intro a k h; omega)
      have tp238 := TP_fr hrt.1 hF235 (by intro a k h; omega)
      have h239 := IV_x h hW234 hF235 (by intro a k h; omega)
      have nx240 : NX Z I Z I89 := NX_fr hF235 (by omega) (by omega) (by omega)
      have ns241 : NS Z I Z I89 := NS_fr hF235 (by intro a k h; omega)
      have na242 : NA Z I Z I89 := NA_fr hF235 (by intro a k h; omega)
      refine ⟨hv1, ?_⟩
      refine ⟨hv2, ?_⟩
      refine ⟨hv3, ?_⟩
      refine pX12_know h239.2.2.2.1 h239.2.2.2.2.1 tm236 (fun v95 I94 hW244 hF245 hp243 => ?_)
      have rk246 := RK_fr h239 rk237 hF245 (by intro a k h; omega)
      have tp247 := TP_fr tp238 hF245 (by intro a k h; omega)
      have h248 := IV_m h239 hW244 hF245 (by intro a k h; omega)
      have nx249 : NX Z I89 Z I94 := NX_fr hF245 (by omega) (by omega) (by omega)
      have ns250 : NS Z I89 Z I94 := NS_fr hF245 (by intro a k h; omega)
      have na251 : NA Z I89 Z I94 := NA_fr hF245 (by intro a k h; omega)
      have hr252 := RV_keep hr (NX.tr nx240 nx249)
      have hs253 := RS_keep hrs (NS.tr ns241 ns250)
      have hj254 := RJ_keep hrj (NS.tr ns241 ns250) NJ.rf
      have ht255 : RT Z I94 := ⟨tp247, ⟨_, oKnow_ok hok, TX_fr hp233.2 hF245 (by intro a k h1 h2; omega), hp243.2⟩, rk246⟩
      have ha256 := RA_keep hra (NA.tr na242 na251)
      exact ih Z I94 J rc rs (x3 + 6) h248 hr252 hs253 hj254 ht255 ha256 f1 f2 f3 f4
    · clear hwx e1 e2 e3 e4 e5 e6 s6 q1 q2 q3 q4 q5 q6 h0 hm h1 h2 h3 hc
      refine ⟨hv1, ?_⟩
      refine ⟨hv2, ?_⟩
      refine fsfX11_ask h.1 h.2.2.1 ht1 (fun v99 I98 hW258 hF259 hp257 => ?_)
      have tm260 := TM_fr ht2 (show s.1.1 ≤ 8 by omega) hF259 (by omega) (by omega) (by omega) (by omega) (by intro a k h1 h2 h3; omega)
      have rk261 := RK_fr h hrt.2.2 hF259 (by intro a k h; omega)
      have tp262 := TP_fr hrt.1 hF259 (by intro a k h; omega)
      have h263 := IV_x h hW258 hF259 (by intro a k h; omega)
      have nx264 : NX Z I Z I98 := NX_fr hF259 (by omega) (by omega) (by omega)
      have ns265 : NS Z I Z I98 := NS_fr hF259 (by intro a k h; omega)
      have na266 : NA Z I Z I98 := NA_fr hF259 (by intro a k h; omega)
      refine ⟨hv1, ?_⟩
      refine ⟨hv2, ?_⟩
      refine fsfX12_ask h263.2.2.2.1 h263.2.2.2.2.1 tm260 (fun v103 I102 hW268 hF269 hp267 => ?_)
      have rk270 := RK_fr h263 rk261 hF269 (by intro a k h; omega)
      have tp271 := TP_fr tp262 hF269 (by intro a k h; omega)
      have h272 := IV_m h263 hW268 hF269 (by intro a k h; omega)
      have nx273 : NX Z I98 Z I102 := NX_fr hF269 (by omega) (by omega) (by omega)
      have ns274 : NS Z I98 Z I102 := NS_fr hF269 (by intro a k h; omega)
      have na275 : NA Z I98 Z I102 := NA_fr hF269 (by intro a k h; omega)
      have hr276 := RV_keep hr (NX.tr nx264 nx273)
      have hs277 := RS_keep hrs (NS.tr ns265 ns274)
      have hj278 := RJ_keep hrj (NS.tr ns265 ns274) NJ.rf
      have ht279 : RT Z I102 := ⟨tp271, ⟨_, oAsk_ok hok, TX_fr hp257.2 hF269 (by intro a k h1 h2; omega), hp267.2⟩, rk270⟩
      have ha280 := RA_keep hra (NA.tr na266 na275)
      exact ih Z I102 J rc rs (x3 + 6) h272 hr276 hs277 hj278 ht279 ha280 f1 f2 f3 f4
    · clear hwx e1 e2 e3 e4 e5 e6 s6 q1 q2 q3 q4 q5 q6 h0 hm h1 h2 h3 hc
      refine ⟨hv1, ?_⟩
      refine pX11_feed h.1 h.2.2.1 (fun v106 I105 hW282 hF283 hp281 pF284 => ?_)
      have tm285 := TM_fr ht2 (show s.1.1 ≤ 8 by omega) hF283 (by omega) (by omega) (by omega) (by omega) (by intro a k h1 h2 h3; omega)
      have rk286 := RK_fr h hrt.2.2 hF283 (by intro a k h; omega)
      have h287 := IV_x h hW282 hF283 (by intro a k h; omega)
      have e08 := congrArg Int32.toInt (hF283 0 8 (by omega))
      have e458 := congrArg Int32.toInt (hF283 45 8 (by omega))
      have ns288 : NS Z I Z I105 := NS_fr hF283 (by intro a k h; omega)
      have na289 : NA Z I Z I105 := NA_fr hF283 (by intro a k h; omega)
      refine ⟨hv1, ?_⟩
      refine pX12_feed h287.2.2.2.1 h287.2.2.2.2.1 (fun v109 I108 hW291 hF292 hp290 pF293 => ?_)
      have rk294 := RK_fr h287 rk286 hF292 (by intro a k h; omega)
      have h295 := IV_m h287 hW291 hF292 (by intro a k h; omega)
      have m25 := congrArg Int32.toInt (hF292 25 1 (by omega))
      have m08 := congrArg Int32.toInt (hF292 0 8 (by omega))
      have ns296 : NS Z I105 Z I108 := NS_fr hF292 (by intro a k h; omega)
      have na297 : NA Z I105 Z I108 := NA_fr hF292 (by intro a k h; omega)
      have hr298 : RV Z I108 := ⟨by omega, by rw [show (I108 0 8).toInt = (I 0 8).toInt by omega]; exact hr.2⟩
      have hs299 := RS_keep hrs (NS.tr ns288 ns296)
      have hj300 := RJ_keep hrj (NS.tr ns288 ns296) NJ.rf
      have ta : I108 (25 + 1) = I105 (25 + 1) := funext (fun k => hF292 (25 + 1) k (by omega))
      have tb : I105 (45 + 16) = I (45 + 16) := funext (fun k => hF283 (45 + 16) k (by omega))
      have tc : (I105 45 8).toInt = (I 25 1).toInt := by rw [hF283 45 8 (by omega)]; exact hr.1.symm
      have ht301 : RT Z I108 := ⟨by rw [ta, pF284, pF293, tb, tc, hrt.1], ⟨s, hok, TX_fr (TX_fr ht1 hF283 (by intro a k h1 h2; omega)) hF292 (by intro a k h1 h2; omega), TM_fr tm285 (show s.1.1 ≤ 8 by omega) hF292 (by omega) (by omega) (by omega) (by omega) (by intro a k h1 h2 h3; omega)⟩, rk294⟩
      have ha302 := RA_keep hra (NA.tr na289 na297)
      exact ih Z I108 J rc rs (x3 + 6) h295 hr298 hs299 hj300 ht301 ha302 f1 f2 f3 f4
    · clear hwx e1 e2 e3 e4 e5 e6 s6 q1 q2 q3 q4 q5 q6 h0 hm h1 h2 h3 hc
      refine sfX11_wipe h.1 h.2.2.1 (fun v111 I110 hW304 hF305 hp303 => ?_)
      have nt306 : NT Z I Z I110 := NT_fr h hF305 (by intro a k h; omega)
      have h307 := IV_x h hW304 hF305 (by intro a k h; omega)
      have e08 := congrArg Int32.toInt (hF305 0 8 (by omega))
      have e458 := congrArg Int32.toInt (hF305 45 8 (by omega))
      have ns308 : NS Z I Z I110 := NS_fr hF305 (by intro a k h; omega)
      have na309 : NA Z I Z I110 := NA_fr hF305 (by intro a k h; omega)
      refine sfX12_wipe h307.2.2.2.1 h307.2.2.2.2.1 (fun v113 I112 hW311 hF312 hp310 => ?_)
      have nt313 : NT Z I110 Z I112 := NT_fr h307 hF312 (by intro a k h; omega)
      have h314 := IV_m h307 hW311 hF312 (by intro a k h; omega)
      have m25 := congrArg Int32.toInt (hF312 25 1 (by omega))
      have m08 := congrArg Int32.toInt (hF312 0 8 (by omega))
      have ns315 : NS Z I110 Z I112 := NS_fr hF312 (by intro a k h; omega)
      have na316 : NA Z I110 Z I112 := NA_fr hF312 (by intro a k h; omega)
      have hr317 : RV Z I112 := ⟨by omega, by rw [show (I112 0 8).toInt = (I 0 8).toInt by omega]; exact hr.2⟩
      have hs318 := RS_keep hrs (NS.tr ns308 ns315)
      have hj319 := RJ_keep hrj (NS.tr ns308 ns315) NJ.rf
      have ht320 := RT_keep h hrt (NT.tr nt306 nt313)
      have ha321 := RA_keep hra (NA.tr na309 na316)
      exact ih Z I112 J rc rs (x3 + 6) h314 hr317 hs318 hj319 ht320 ha321 f1 f2 f3 f4
    · clear hwx
      refine pX11_town hG h.1 h.2.2.1 ht1 (fun v115 I114 hW323 hF324 hp322 pT325 pS326 => ?_)
      have tm327 := TM_fr ht2 (show s.1.1 ≤ 8 by omega) hF324 (by omega) (by omega) (by omega) (by omega) (by intro a k h1 h2 h3; omega)
      have rk328 := RK_fr h hrt.2.2 hF324 (by intro a k h; omega)
      have tp329 := TP_fr hrt.1 hF324 (by intro a k h; omega)
      have h330 := IV_x h hW323 hF324 (by intro a k h; omega)
      have e08 := congrArg Int32.toInt (hF324 0 8 (by omega))
      have e458 := congrArg Int32.toInt (hF324 45 8 (by omega))
      have ns331 : NS Z I Z I114 := NS_fr hF324 (by intro a k h; omega)
      have na332 : NA Z I Z I114 := NA_fr hF324 (by intro a k h; omega)
      have hfc := fC_le Z 45
      refine ⟨(fC Z 45), (fS Z 45), rc - 100, rs - 2100, by omega, by omega, ?_⟩
      refine qX12_town hG h330.2.2.2 tm327.1 (fun v335 Z116 I116 J116 hS333 hp334 pT337 pS338 => ⟨v335, rfl, (IV_s h330 hS333).1, hS333.1.1, ?_⟩)
      have h339 := IV_s h330 hS333
      have hbz := h330.2.2.2.2.2.1
      have m25 := congrArg Int32.toInt (hS333.2.2.2.2.1 25 1 (by omega))
      have m08 := congrArg Int32.toInt (hS333.2.2.2.2.1 0 8 (by omega))
      have eZ := hS333.2.2.2.1 45 20 (by omega) (by omega)
      have ns340 := NS_st h330 hS333
      have na341 := NA_st h330 hS333
      have nj342 := NJ_st h330 hS333
      have hr343 : RV Z116 I116 := ⟨by omega, by rw [show (I116 0 8).toInt = (I 0 8).toInt by omega, eZ]; exact hr.2⟩
      have hs344 := RS_keep hrs (NS.tr ns331 ns340)
      have hj345 := RJ_keep hrj (NS.tr ns331 ns340) nj342
      have e16 : I114 (45 + 16) = I (25 + 1) := (funext (fun k => hF324 (45 + 16) k (by omega))).trans hrt.1.symm
      have e8 : (I114 45 8).toInt = (I 25 1).toInt := by rw [hF324 45 8 (by omega)]; exact hr.1.symm
      rw [e16, e8] at pT337
      obtain ⟨ev, w2, k2, r1, r2⟩ := tn_k hok pT325 pT337
      have ht346 : RT Z116 I116 := ⟨TP_fr tp329 hS333.2.2.2.2.1 (by intro a k h; omega), ⟨(w2, s.2), k2, ⟨RX_fr r1 hS333.2.2.2.2.1 (by intro a k h1 h2; omega), by rw [hS333.2.2.2.2.1 1 6 (by omega)]; exact pS326⟩, ⟨r2, pS338.trans tm327.2⟩⟩, RK_eq rk328 h330.2.2.1 eZ (fun a k h1 h2 => hS333.2.2.2.2.1 a k (by omega)) (fun u hu a k h1 h2 => hS333.2.2.2.2.2.2.1 rfl (by omega) u hu a k h1 h2)⟩
      have ha347 := RA_keep hra (NA.tr na332 na341)
      exact ih Z116 I116 J116 (rc - 100) (rs - 2100) (x3 + 6) h339 hr343 hs344 hj345 ht346 ha347 (by omega) (by omega) (by omega) (by omega)
    · clear hwx e1 e2 e3 e4 e5 e6 s6 q1 q2 q3 q4 q5 q6 h0 hm h1 h2 h3 hc
      refine ⟨hv1, ?_⟩
      refine ⟨hv2, ?_⟩
      refine sfX11_personOf h.1 h.2.2.1 (fun v120 I119 hW349 hF350 => ?_)
      have nt351 : NT Z I Z I119 := NT_fr h hF350 (by intro a k h; omega)
      have h352 := IV_x h hW349 hF350 (by intro a k h; omega)
      have nx353 : NX Z I Z I119 := NX_fr hF350 (by omega) (by omega) (by omega)
      have ns354 : NS Z I Z I119 := NS_fr hF350 (by intro a k h; omega)
      have na355 : NA Z I Z I119 := NA_fr hF350 (by intro a k h; omega)
      refine ⟨hv1, ?_⟩
      refine ⟨hv2, ?_⟩
      refine sfX12_personOf h352.2.2.2.1 h352.2.2.2.2.1 (fun v124 I123 hW357 hF358 => ?_)
      have nt359 : NT Z I119 Z I123 := NT_fr h352 hF358 (by intro a k h; omega)
      have h360 := IV_m h352 hW357 hF358 (by intro a k h; omega)
      have nx361 : NX Z I119 Z I123 := NX_fr hF358 (by omega) (by omega) (by omega)
      have ns362 : NS Z I119 Z I123 := NS_fr hF358 (by intro a k h; omega)
      have na363 : NA Z I119 Z I123 := NA_fr hF358 (by intro a k h; omega)
      have hr364 := RV_keep hr (NX.tr nx353 nx361)
      have hs365 := RS_keep hrs (NS.tr ns354 ns362)
      have hj366 := RJ_keep hrj (NS.tr ns354 ns362) NJ.rf
      have ht367 := RT_keep h hrt (NT.tr nt351 nt359)
      have ha368 := RA_keep hra (NA.tr na355 na363)
      exact ih Z I123 J rc rs (x3 + 6) h360 hr364 hs365 hj366 ht367 ha368 f1 f2 f3 f4
    · clear hwx e1 e2 e3 e4 e5 e6 s6 q1 q2 q3 q4 q5 q6 h0 hm h1 h2 h3 hc
      refine ⟨hv1, ?_⟩
      refine ⟨hv2, ?_⟩
      refine sfX11_knownOf h.1 h.2.2.1 (fun v128 I127 hW370 hF371 => ?_)
      have nt372 : NT Z I Z I127 := NT_fr h hF371 (by intro a k h; omega)
      have h373 := IV_x h hW370 hF371 (by intro a k h; omega)
      have nx374 : NX Z I Z I127 := NX_fr hF371 (by omega) (by omega) (by omega)
      have ns375 : NS Z I Z I127 := NS_fr hF371 (by intro a k h; omega)
      have na376 : NA Z I Z I127 := NA_fr hF371 (by intro a k h; omega)
      refine ⟨hv1, ?_⟩
      refine ⟨hv2, ?_⟩
      refine sfX12_knownOf h373.2.2.2.1 h373.2.2.2.2.1 (fun v132 I131 hW378 hF379 => ?_)
      have nt380 : NT Z I127 Z I131 := NT_fr h373 hF379 (by intro a k h; omega)
      have h381 := IV_m h373 hW378 hF379 (by intro a k h; omega)
      have nx382 : NX Z I127 Z I131 := NX_fr hF379 (by omega) (by omega) (by omega)
      have ns383 : NS Z I127 Z I131 := NS_fr hF379 (by intro a k h; omega)
      have na384 : NA Z I127 Z I131 := NA_fr hF379 (by intro a k h; omega)
      have hr385 := RV_keep hr (NX.tr nx374 nx382)
      have hs386 := RS_keep hrs (NS.tr ns375 ns383)
      have hj387 := RJ_keep hrj (NS.tr ns375 ns383) NJ.rf
      have ht388 := RT_keep h hrt (NT.tr nt372 nt380)
      have ha389 := RA_keep hra (NA.tr na376 na384)
      exact ih Z I131 J rc rs (x3 + 6) h381 hr385 hs386 hj387 ht388 ha389 f1 f2 f3 f4
    · clear hwx e1 e2 e3 e4 e5 e6 s6 q1 q2 q3 q4 q5 q6 h0 hm h1 h2 h3 hc
      refine ⟨hv1, ?_⟩
      refine sfX11_isGroup h.1 h.2.2.1 (fun v135 I134 hW391 hF392 => ?_)
      have nt393 : NT Z I Z I134 := NT_fr h hF392 (by intro a k h; omega)
      have h394 := IV_x h hW391 hF392 (by intro a k h; omega)
      have nx395 : NX Z I Z I134 := NX_fr hF392 (by omega) (by omega) (by omega)
      have ns396 : NS Z I Z I134 := NS_fr hF392 (by intro a k h; omega)
      have na397 : NA Z I Z I134 := NA_fr hF392 (by intro a k h; omega)
      refine ⟨hv1, ?_⟩
      refine sfX12_isGroup h394.2.2.2.1 h394.2.2.2.2.1 (fun v138 I137 hW399 hF400 => ?_)
      have nt401 : NT Z I134 Z I137 := NT_fr h394 hF400 (by intro a k h; omega)
      have h402 := IV_m h394 hW399 hF400 (by intro a k h; omega)
      have nx403 : NX Z I134 Z I137 := NX_fr hF400 (by omega) (by omega) (by omega)
      have ns404 : NS Z I134 Z I137 := NS_fr hF400 (by intro a k h; omega)
      have na405 : NA Z I134 Z I137 := NA_fr hF400 (by intro a k h; omega)
      have hr406 := RV_keep hr (NX.tr nx395 nx403)
      have hs407 := RS_keep hrs (NS.tr ns396 ns404)
      have hj408 := RJ_keep hrj (NS.tr ns396 ns404) NJ.rf
      have ht409 := RT_keep h hrt (NT.tr nt393 nt401)
      have ha410 := RA_keep hra (NA.tr na397 na405)
      exact ih Z I137 J rc rs (x3 + 6) h402 hr406 hs407 hj408 ht409 ha410 f1 f2 f3 f4
    · clear hwx e1 e2 e3 e4 e5 e6 s6 q1 q2 q3 q4 q5 q6 h0 hm h1 h2 h3 hc
      refine ⟨hv1, ?_⟩
      refine sfX11_groups h.1 h.2.2.1 (fun v141 I140 hW412 hF413 => ?_)
      have nt414 : NT Z I Z I140 := NT_fr h hF413 (by intro a k h; omega)
      have h415 := IV_x h hW412 hF413 (by intro a k h; omega)
      have nx416 : NX Z I Z I140 := NX_fr hF413 (by omega) (by omega) (by omega)
      have ns417 : NS Z I Z I140 := NS_fr hF413 (by intro a k h; omega)
      have na418 : NA Z I Z I140 := NA_fr hF413 (by intro a k h; omega)
      refine ⟨hv1, ?_⟩
      refine sfX12_groups h415.2.2.2.1 h415.2.2.2.2.1 (fun v144 I143 hW420 hF421 => ?_)
      have nt422 : NT Z I140 Z I143 := NT_fr h415 hF421 (by intro a k h; omega)
      have h423 := IV_m h415 hW420 hF421 (by intro a k h; omega)
      have nx424 : NX Z I140 Z I143 := NX_fr hF421 (by omega) (by omega) (by omega)
      have ns425 : NS Z I140 Z I143 := NS_fr hF421 (by intro a k h; omega)
      have na426 : NA Z I140 Z I143 := NA_fr hF421 (by intro a k h; omega)
      have hr427 := RV_keep hr (NX.tr nx416 nx424)
      have hs428 := RS_keep hrs (NS.tr ns417 ns425)
      have hj429 := RJ_keep hrj (NS.tr ns417 ns425) NJ.rf
      have ht430 := RT_keep h hrt (NT.tr nt414 nt422)
      have ha431 := RA_keep hra (NA.tr na418 na426)
      exact ih Z I143 J rc rs (x3 + 6) h423 hr427 hs428 hj429 ht430 ha431 f1 f2 f3 f4
    · clear hwx e1 e2 e3 e4 e5 e6 s6 q1 q2 q3 q4 q5 q6 h0 hm h1 h2 h3 hc
      refine ⟨hv1, ?_⟩
      refine sfX11_firstOf h.1 h.2.2.1 (fun v147 I146 hW433 hF434 => ?_)
      have nt435 : NT Z I Z I146 := NT_fr h hF434 (by intro a k h; omega)
      have h436 := IV_x h hW433 hF434 (by intro a k h; omega)
      have nx437 : NX Z I Z I146 := NX_fr hF434 (by omega) (by omega) (by omega)
      have ns438 : NS Z I Z I146 := NS_fr hF434 (by intro a k h; omega)
      have na439 : NA Z I Z I146 := NA_fr hF434 (by intro a k h; omega)
      refine ⟨hv1, ?_⟩
      refine sfX12_firstOf h436.2.2.2.1 h436.2.2.2.2.1 (fun v150 I149 hW441 hF442 => ?_)
      have nt443 : NT Z I146 Z I149 := NT_fr h436 hF442 (by intro a k h; omega)
      have h444 := IV_m h436 hW441 hF442 (by intro a k h; omega)
      have nx445 : NX Z I146 Z I149 := NX_fr hF442 (by omega) (by omega) (by omega)
      have ns446 : NS Z I146 Z I149 := NS_fr hF442 (by intro a k h; omega)
      have na447 : NA Z I146 Z I149 := NA_fr hF442 (by intro a k h; omega)
      have hr448 := RV_keep hr (NX.tr nx437 nx445)
      have hs449 := RS_keep hrs (NS.tr ns438 ns446)
      have hj450 := RJ_keep hrj (NS.tr ns438 ns446) NJ.rf
      have ht451 := RT_keep h hrt (NT.tr nt435 nt443)
      have ha452 := RA_keep hra (NA.tr na439 na447)
      exact ih Z I149 J rc rs (x3 + 6) h444 hr448 hs449 hj450 ht451 ha452 f1 f2 f3 f4
    · clear hwx e1 e2 e3 e4 e5 e6 s6 q1 q2 q3 q4 q5 q6 h0 hm h1 h2 h3 hc
      refine ⟨hv1, ?_⟩
      refine sfX11_most h.1 h.2.2.1 (fun v153 I152 hW454 hF455 => ?_)
      have nt456 : NT Z I Z I152 := NT_fr h hF455 (by intro a k h; omega)
      have h457 := IV_x h hW454 hF455 (by intro a k h; omega)
      have nx458 : NX Z I Z I152 := NX_fr hF455 (by omega) (by omega) (by omega)
      have ns459 : NS Z I Z I152 := NS_fr hF455 (by intro a k h; omega)
      have na460 : NA Z I Z I152 := NA_fr hF455 (by intro a k h; omega)
      refine ⟨hv1, ?_⟩
      refine sfX12_most h457.2.2.2.1 h457.2.2.2.2.1 (fun v156 I155 hW462 hF463 => ?_)
      have nt464 : NT Z I152 Z I155 := NT_fr h457 hF463 (by intro a k h; omega)
      have h465 := IV_m h457 hW462 hF463 (by intro a k h; omega)
      have nx466 : NX Z I152 Z I155 := NX_fr hF463 (by omega) (by omega) (by omega)
      have ns467 : NS Z I152 Z I155 := NS_fr hF463 (by intro a k h; omega)
      have na468 : NA Z I152 Z I155 := NA_fr hF463 (by intro a k h; omega)
      have hr469 := RV_keep hr (NX.tr nx458 nx466)
      have hs470 := RS_keep hrs (NS.tr ns459 ns467)
      have hj471 := RJ_keep hrj (NS.tr ns459 ns467) NJ.rf
      have ht472 := RT_keep h hrt (NT.tr nt456 nt464)
      have ha473 := RA_keep hra (NA.tr na460 na468)
      exact ih Z I155 J rc rs (x3 + 6) h465 hr469 hs470 hj471 ht472 ha473 f1 f2 f3 f4
    · clear hwx e1 e2 e3 e4 e5 e6 s6 q1 q2 q3 q4 q5 q6 h0 hm h1 h2 h3 hc
      refine ⟨hv1, ?_⟩
      refine ⟨hv2, ?_⟩
      refine sfX11_mostOf h.1 h.2.2.1 (fun v160 I159 hW475 hF476 => ?_)
      have nt477 : NT Z I Z I159 := NT_fr h hF476 (by intro a k h; omega)
      have h478 := IV_x h hW475 hF476 (by intro a k h; omega)
      have nx479 : NX Z I Z I159 := NX_fr hF476 (by omega) (by omega) (by omega)
      have ns480 : NS Z I Z I159 := NS_fr hF476 (by intro a k h; omega)
      have na481 : NA Z I Z I159 := NA_fr hF476 (by intro a k h; omega)
      refine ⟨hv1, ?_⟩
      refine ⟨hv2, ?_⟩
      refine sfX12_mostOf h478.2.2.2.1 h478.2.2.2.2.1 (fun v164 I163 hW483 hF484 => ?_)
      have nt485 : NT Z I159 Z I163 := NT_fr h478 hF484 (by intro a k h; omega)
      have h486 := IV_m h478 hW483 hF484 (by intro a k h; omega)
      have nx487 : NX Z I159 Z I163 := NX_fr hF484 (by omega) (by omega) (by omega)
      have ns488 : NS Z I159 Z I163 := NS_fr hF484 (by intro a k h; omega)
      have na489 : NA Z I159 Z I163 := NA_fr hF484 (by intro a k h; omega)
      have hr490 := RV_keep hr (NX.tr nx479 nx487)
      have hs491 := RS_keep hrs (NS.tr ns480 ns488)
      have hj492 := RJ_keep hrj (NS.tr ns480 ns488) NJ.rf
      have ht493 := RT_keep h hrt (NT.tr nt477 nt485)
      have ha494 := RA_keep hra (NA.tr na481 na489)
      exact ih Z I163 J rc rs (x3 + 6) h486 hr490 hs491 hj492 ht493 ha494 f1 f2 f3 f4
    · clear hwx e1 e2 e3 e4 e5 e6 s6 q1 q2 q3 q4 q5 q6 h0 hm h1 h2 h3 hc
      refine ⟨hv1, ?_⟩
      refine ⟨hv2, ?_⟩
      refine ⟨hv3, ?_⟩
      refine sfX11_sends h.1 h.2.1 h.2.2.1 (fun v169 I168 hW496 hF497 => ?_)
      have nt498 : NT Z I Z I168 := NT_fr h hF497 (by intro a k h; omega)
      have h499 := IV_x h hW496 hF497 (by intro a k h; omega)
      have nx500 : NX Z I Z I168 := NX_fr hF497 (by omega) (by omega) (by omega)
      have ns501 : NS Z I Z I168 := NS_fr hF497 (by intro a k h; omega)
      have na502 : NA Z I Z I168 := NA_fr hF497 (by intro a k h; omega)
      refine ⟨hv1, ?_⟩
      refine ⟨hv2, ?_⟩
      refine ⟨hv3, ?_⟩
      refine sfX12_sends h499.2.2.2.1 h499.2.2.2.2.1 (fun v174 I173 hW504 hF505 => ?_)
      have nt506 : NT Z I168 Z I173 := NT_fr h499 hF505 (by intro a k h; omega)
      have h507 := IV_m h499 hW504 hF505 (by intro a k h; omega)
      have nx508 : NX Z I168 Z I173 := NX_fr hF505 (by omega) (by omega) (by omega)
      have ns509 : NS Z I168 Z I173 := NS_fr hF505 (by intro a k h; omega)
      have na510 : NA Z I168 Z I173 := NA_fr hF505 (by intro a k h; omega)
      have hr511 := RV_keep hr (NX.tr nx500 nx508)
      have hs512 := RS_keep hrs (NS.tr ns501 ns509)
      have hj513 := RJ_keep hrj (NS.tr ns501 ns509) NJ.rf
      have ht514 := RT_keep h hrt (NT.tr nt498 nt506)
      have ha515 := RA_keep hra (NA.tr na502 na510)
      exact ih Z I173 J rc rs (x3 + 6) h507 hr511 hs512 hj513 ht514 ha515 f1 f2 f3 f4
    · clear hwx e1 e2 e3 e4 e5 e6 s6 q1 q2 q3 q4 q5 q6 h0 hm h1 h2 h3 hc
      refine ⟨hv1, ?_⟩
      refine sfX11_run h.1 h.2.1 h.2.2.1 (fun v177 I176 hW517 hF518 => ?_)
      have nt519 : NT Z I Z I176 := NT_fr h hF518 (by intro a k h; omega)
      have h520 := IV_x h hW517 hF518 (by intro a k h; omega)
      have nx521 : NX Z I Z I176 := NX_fr hF518 (by omega) (by omega) (by omega)
      have ns522 : NS Z I Z I176 := NS_fr hF518 (by intro a k h; omega)
      have na523 : NA Z I Z I176 := NA_fr hF518 (by intro a k h; omega)
      refine ⟨hv1, ?_⟩
      refine sfX12_run h520.2.2.2.1 h520.2.2.2.2.1 (fun v180 I179 hW525 hF526 => ?_)
      have nt527 : NT Z I176 Z I179 := NT_fr h520 hF526 (by intro a k h; omega)
      have h528 := IV_m h520 hW525 hF526 (by intro a k h; omega)
      have nx529 : NX Z I176 Z I179 := NX_fr hF526 (by omega) (by omega) (by omega)
      have ns530 : NS Z I176 Z I179 := NS_fr hF526 (by intro a k h; omega)
      have na531 : NA Z I176 Z I179 := NA_fr hF526 (by intro a k h; omega)
      have hr532 := RV_keep hr (NX.tr nx521 nx529)
      have hs533 := RS_keep hrs (NS.tr ns522 ns530)
      have hj534 := RJ_keep hrj (NS.tr ns522 ns530) NJ.rf
      have ht535 := RT_keep h hrt (NT.tr nt519 nt527)
      have ha536 := RA_keep hra (NA.tr na523 na531)
      exact ih Z I179 J rc rs (x3 + 6) h528 hr532 hs533 hj534 ht535 ha536 f1 f2 f3 f4
    · clear hwx e1 e2 e3 e4 e5 e6 s6 q1 q2 q3 q4 q5 q6 h0 hm h1 h2 h3 hc
      refine ⟨hv1, ?_⟩
      refine ⟨hv2, ?_⟩
      refine sfX11_coach h.1 h.2.1 h.2.2.1 (fun v184 I183 hW538 hF539 => ?_)
      have nt540 : NT Z I Z I183 := NT_fr h hF539 (by intro a k h; omega)
      have h541 := IV_x h hW538 hF539 (by intro a k h; omega)
      have nx542 : NX Z I Z I183 := NX_fr hF539 (by omega) (by omega) (by omega)
      have ns543 : NS Z I Z I183 := NS_fr hF539 (by intro a k h; omega)
      have na544 : NA Z I Z I183 := NA_fr hF539 (by intro a k h; omega)
      refine ⟨hv1, ?_⟩
      refine ⟨hv2, ?_⟩
      refine sfX12_coach h541.2.2.2.1 h541.2.2.2.2.1 (fun v188 I187 hW546 hF547 => ?_)
      have nt548 : NT Z I183 Z I187 := NT_fr h541 hF547 (by intro a k h; omega)
      have h549 := IV_m h541 hW546 hF547 (by intro a k h; omega)
      have nx550 : NX Z I183 Z I187 := NX_fr hF547 (by omega) (by omega) (by omega)
      have ns551 : NS Z I183 Z I187 := NS_fr hF547 (by intro a k h; omega)
      have na552 : NA Z I183 Z I187 := NA_fr hF547 (by intro a k h; omega)
      have hr553 := RV_keep hr (NX.tr nx542 nx550)
      have hs554 := RS_keep hrs (NS.tr ns543 ns551)
      have hj555 := RJ_keep hrj (NS.tr ns543 ns551) NJ.rf
      have ht556 := RT_keep h hrt (NT.tr nt540 nt548)
      have ha557 := RA_keep hra (NA.tr na544 na552)
      exact ih Z I187 J rc rs (x3 + 6) h549 hr553 hs554 hj555 ht556 ha557 f1 f2 f3 f4
    · clear hwx e1 e2 e3 e4 e5 e6 s6 q1 q2 q3 q4 q5 q6 h0 hm h1 h2 h3 hc
      refine ⟨hv1, ?_⟩
      refine sfX11_left h.1 h.2.1 h.2.2.1 (fun v191 I190 hW559 hF560 => ?_)
      have nt561 : NT Z I Z I190 := NT_fr h hF560 (by intro a k h; omega)
      have h562 := IV_x h hW559 hF560 (by intro a k h; omega)
      have nx563 : NX Z I Z I190 := NX_fr hF560 (by omega) (by omega) (by omega)
      have ns564 : NS Z I Z I190 := NS_fr hF560 (by intro a k h; omega)
      have na565 : NA Z I Z I190 := NA_fr hF560 (by intro a k h; omega)
      refine ⟨hv1, ?_⟩
      refine sfX12_left h562.2.2.2.1 h562.2.2.2.2.1 (fun v194 I193 hW567 hF568 => ?_)
      have nt569 : NT Z I190 Z I193 := NT_fr h562 hF568 (by intro a k h; omega)
      have h570 := IV_m h562 hW567 hF568 (by intro a k h; omega)
      have nx571 : NX Z I190 Z I193 := NX_fr hF568 (by omega) (by omega) (by omega)
      have ns572 : NS Z I190 Z I193 := NS_fr hF568 (by intro a k h; omega)
      have na573 : NA Z I190 Z I193 := NA_fr hF568 (by intro a k h; omega)
      have hr574 := RV_keep hr (NX.tr nx563 nx571)
      have hs575 := RS_keep hrs (NS.tr ns564 ns572)
      have hj576 := RJ_keep hrj (NS.tr ns564 ns572) NJ.rf
      have ht577 := RT_keep h hrt (NT.tr nt561 nt569)
      have ha578 := RA_keep hra (NA.tr na565 na573)
      exact ih Z I193 J rc rs (x3 + 6) h570 hr574 hs575 hj576 ht577 ha578 f1 f2 f3 f4
    · clear hwx e1 e2 e3 e4 e5 e6 s6 q1 q2 q3 q4 q5 q6 h0 hm h1 h2 h3 hc
      refine ⟨hv1, ?_⟩
      refine ⟨hv2, ?_⟩
      refine sfX11_waits h.1 h.2.1 h.2.2.1 (fun v198 I197 hW580 hF581 => ?_)
      have nt582 : NT Z I Z I197 := NT_fr h hF581 (by intro a k h; omega)
      have h583 := IV_x h hW580 hF581 (by intro a k h; omega)
      have nx584 : NX Z I Z I197 := NX_fr hF581 (by omega) (by omega) (by omega)
      have ns585 : NS Z I Z I197 := NS_fr hF581 (by intro a k h; omega)
      have na586 : NA Z I Z I197 := NA_fr hF581 (by intro a k h; omega)
      refine ⟨hv1, ?_⟩
      refine ⟨hv2, ?_⟩
      refine sfX12_waits h583.2.2.2.1 h583.2.2.2.2.1 (fun v202 I201 hW588 hF589 => ?_)
      have nt590 : NT Z I197 Z I201 := NT_fr h583 hF589 (by intro a k h; omega)
      have h591 := IV_m h583 hW588 hF589 (by intro a k h; omega)
      have nx592 : NX Z I197 Z I201 := NX_fr hF589 (by omega) (by omega) (by omega)
      have ns593 : NS Z I197 Z I201 := NS_fr hF589 (by intro a k h; omega)
      have na594 : NA Z I197 Z I201 := NA_fr hF589 (by intro a k h; omega)
      have hr595 := RV_keep hr (NX.tr nx584 nx592)
      have hs596 := RS_keep hrs (NS.tr ns585 ns593)
      have hj597 := RJ_keep hrj (NS.tr ns585 ns593) NJ.rf
      have ht598 := RT_keep h hrt (NT.tr nt582 nt590)
      have ha599 := RA_keep hra (NA.tr na586 na594)
      exact ih Z I201 J rc rs (x3 + 6) h591 hr595 hs596 hj597 ht598 ha599 f1 f2 f3 f4
    · clear hwx e1 e2 e3 e4 e5 e6 s6 q1 q2 q3 q4 q5 q6 h0 hm h1 h2 h3 hc
      refine ⟨hv1, ?_⟩
      refine sfX11_least h.1 h.2.2.1 (fun v205 I204 hW601 hF602 => ?_)
      have nt603 : NT Z I Z I204 := NT_fr h hF602 (by intro a k h; omega)
      have h604 := IV_x h hW601 hF602 (by intro a k h; omega)
      have nx605 : NX Z I Z I204 := NX_fr hF602 (by omega) (by omega) (by omega)
      have ns606 : NS Z I Z I204 := NS_fr hF602 (by intro a k h; omega)
      have na607 : NA Z I Z I204 := NA_fr hF602 (by intro a k h; omega)
      refine ⟨hv1, ?_⟩
      refine sfX12_least h604.2.2.2.1 h604.2.2.2.2.1 (fun v208 I207 hW609 hF610 => ?_)
      have nt611 : NT Z I204 Z I207 := NT_fr h604 hF610 (by intro a k h; omega)
      have h612 := IV_m h604 hW609 hF610 (by intro a k h; omega)
      have nx613 : NX Z I204 Z I207 := NX_fr hF610 (by omega) (by omega) (by omega)
      have ns614 : NS Z I204 Z I207 := NS_fr hF610 (by intro a k h; omega)
      have na615 : NA Z I204 Z I207 := NA_fr hF610 (by intro a k h; omega)
      have hr616 := RV_keep hr (NX.tr nx605 nx613)
      have hs617 := RS_keep hrs (NS.tr ns606 ns614)
      have hj618 := RJ_keep hrj (NS.tr ns606 ns614) NJ.rf
      have ht619 := RT_keep h hrt (NT.tr nt603 nt611)
      have ha620 := RA_keep hra (NA.tr na607 na615)
      exact ih Z I207 J rc rs (x3 + 6) h612 hr616 hs617 hj618 ht619 ha620 f1 f2 f3 f4
    · clear hwx e1 e2 e3 e4 e5 e6 s6 q1 q2 q3 q4 q5 q6 h0 hm h1 h2 h3 hc
      refine sfX11_head h.1 h.2.1 h.2.2.1 (fun v210 I209 hW622 hF623 => ?_)
      have nt624 : NT Z I Z I209 := NT_fr h hF623 (by intro a k h; omega)
      have h625 := IV_x h hW622 hF623 (by intro a k h; omega)
      have nx626 : NX Z I Z I209 := NX_fr hF623 (by omega) (by omega) (by omega)
      have ns627 : NS Z I Z I209 := NS_fr hF623 (by intro a k h; omega)
      have na628 : NA Z I Z I209 := NA_fr hF623 (by intro a k h; omega)
      refine sfX12_head h625.2.2.2.1 h625.2.2.2.2.1 (fun v212 I211 hW630 hF631 => ?_)
      have nt632 : NT Z I209 Z I211 := NT_fr h625 hF631 (by intro a k h; omega)
      have h633 := IV_m h625 hW630 hF631 (by intro a k h; omega)
      have nx634 : NX Z I209 Z I211 := NX_fr hF631 (by omega) (by omega) (by omega)
      have ns635 : NS Z I209 Z I211 := NS_fr hF631 (by intro a k h; omega)
      have na636 : NA Z I209 Z I211 := NA_fr hF631 (by intro a k h; omega)
      have hr637 := RV_keep hr (NX.tr nx626 nx634)
      have hs638 := RS_keep hrs (NS.tr ns627 ns635)
      have hj639 := RJ_keep hrj (NS.tr ns627 ns635) NJ.rf
      have ht640 := RT_keep h hrt (NT.tr nt624 nt632)
      have ha641 := RA_keep hra (NA.tr na628 na636)
      exact ih Z I211 J rc rs (x3 + 6) h633 hr637 hs638 hj639 ht640 ha641 f1 f2 f3 f4
    · clear hwx
      refine ⟨hv1, ?_⟩
      refine sfX11_days h.1 h.2.1 h.2.2.1 (fun v215 I214 hW643 hF644 => ?_)
      have nt645 : NT Z I Z I214 := NT_fr h hF644 (by intro a k h; omega)
      have h646 := IV_x h hW643 hF644 (by intro a k h; omega)
      have nx647 : NX Z I Z I214 := NX_fr hF644 (by omega) (by omega) (by omega)
      have ns648 : NS Z I Z I214 := NS_fr hF644 (by intro a k h; omega)
      have na649 : NA Z I Z I214 := NA_fr hF644 (by intro a k h; omega)
      refine ⟨hv1, ?_⟩
      have hfc := fC_le Z 45
      refine ⟨(fC Z 45), (fS Z 45), rc - 100, rs - 2100, by omega, by omega, ?_⟩
      refine qX12_days hG h646.2.2.2 (fun v652 Z217 I217 J217 hS650 => ⟨v652, rfl, (IV_s h646 hS650).1, hS650.1.1, ?_⟩)
      have h654 := IV_s h646 hS650
      have nx655 := NX_st h646 hS650 (by decide)
      have ns656 := NS_st h646 hS650
      have na657 := NA_st h646 hS650
      have nj658 := NJ_st h646 hS650
      have nt659 := NT_st h646 hS650 (by decide)
      have hr660 := RV_keep hr (NX.tr nx647 nx655)
      have hs661 := RS_keep hrs (NS.tr ns648 ns656)
      have hj662 := RJ_keep hrj (NS.tr ns648 ns656) nj658
      have ht663 := RT_keep h hrt (NT.tr nt645 nt659)
      have ha664 := RA_keep hra (NA.tr na649 na657)
      exact ih Z217 I217 J217 (rc - 100) (rs - 2100) (x3 + 6) h654 hr660 hs661 hj662 ht663 ha664 (by omega) (by omega) (by omega) (by omega)
    · clear hwx
      refine ⟨hv1, ?_⟩
      refine sfX11_ever h.1 h.2.2.1 (fun v220 I219 hW666 hF667 => ?_)
      have nt668 : NT Z I Z I219 := NT_fr h hF667 (by intro a k h; omega)
      have h669 := IV_x h hW666 hF667 (by intro a k h; omega)
      have nx670 : NX Z I Z I219 := NX_fr hF667 (by omega) (by omega) (by omega)
      have ns671 : NS Z I Z I219 := NS_fr hF667 (by intro a k h; omega)
      have na672 : NA Z I Z I219 := NA_fr hF667 (by intro a k h; omega)
      refine ⟨hv1, ?_⟩
      refine ⟨1, 40, rc - 100, rs - 2100, by omega, by omega, ?_⟩
      refine qX12_ever h669.2.2.2 (fun v675 Z222 I222 J222 hS673 => ⟨v675, rfl, (IV_s h669 hS673).1, hS673.1.1, ?_⟩)
      have h677 := IV_s h669 hS673
      have nx678 := NX_st h669 hS673 (by decide)
      have ns679 := NS_st h669 hS673
      have na680 := NA_st h669 hS673
      have nj681 := NJ_st h669 hS673
      have nt682 := NT_st h669 hS673 (by decide)
      have hr683 := RV_keep hr (NX.tr nx670 nx678)
      have hs684 := RS_keep hrs (NS.tr ns671 ns679)
      have hj685 := RJ_keep hrj (NS.tr ns671 ns679) nj681
      have ht686 := RT_keep h hrt (NT.tr nt668 nt682)
      have ha687 := RA_keep hra (NA.tr na672 na680)
      exact ih Z222 I222 J222 (rc - 100) (rs - 2100) (x3 + 6) h677 hr683 hs684 hj685 ht686 ha687 (by omega) (by omega) (by omega) (by omega)
    · clear hwx
      refine sfX11_hire h.1 h.2.2.1 (fun v224 I223 hW689 hF690 => ?_)
      have nt691 : NT Z I Z I223 := NT_fr h hF690 (by intro a k h; omega)
      have h692 := IV_x h hW689 hF690 (by intro a k h; omega)
      have nx693 : NX Z I Z I223 := NX_fr hF690 (by omega) (by omega) (by omega)
      have ns694 : NS Z I Z I223 := NS_fr hF690 (by intro a k h; omega)
      have na695 : NA Z I Z I223 := NA_fr hF690 (by intro a k h; omega)
      have hfc := fC_le Z 45
      refine ⟨(fC Z 45), (fS Z 45), rc - 100, rs - 2100, by omega, by omega, ?_⟩
      refine qX12_hire hG h692.2.2.2 (fun v698 Z225 I225 J225 hS696 => ⟨v698, rfl, (IV_s h692 hS696).1, hS696.1.1, ?_⟩)
      have h700 := IV_s h692 hS696
      have nx701 := NX_st h692 hS696 (by decide)
      have ns702 := NS_st h692 hS696
      have na703 := NA_st h692 hS696
      have nj704 := NJ_st h692 hS696
      have nt705 := NT_st h692 hS696 (by decide)
      have hr706 := RV_keep hr (NX.tr nx693 nx701)
      have hs707 := RS_keep hrs (NS.tr ns694 ns702)
      have hj708 := RJ_keep hrj (NS.tr ns694 ns702) nj704
      have ht709 := RT_keep h hrt (NT.tr nt691 nt705)
      have ha710 := RA_keep hra (NA.tr na695 na703)
      exact ih Z225 I225 J225 (rc - 100) (rs - 2100) (x3 + 6) h700 hr706 hs707 hj708 ht709 ha710 (by omega) (by omega) (by omega) (by omega)
    · clear hwx
      refine ⟨hv1, ?_⟩
      refine sfX11_feast h.1 h.2.2.1 (fun v228 I227 hW712 hF713 => ?_)
      have nt714 : NT Z I Z I227 := NT_fr h hF713 (by intro a k h; omega)
      have h715 := IV_x h hW712 hF713 (by intro a k h; omega)
      have nx716 : NX Z I Z I227 := NX_fr hF713 (by omega) (by omega) (by omega)
      have ns717 : NS Z I Z I227 := NS_fr hF713 (by intro a k h; omega)
      have na718 : NA Z I Z I227 := NA_fr hF713 (by intro a k h; omega)
      refine ⟨hv1, ?_⟩
      refine ⟨40, 2026, rc - 100, rs - 2100, by omega, by omega, ?_⟩
      refine qX12_feast hG h715.2.2.2 (fun v721 Z230 I230 J230 hS719 => ⟨v721, rfl, (IV_s h715 hS719).1, hS719.1.1, ?_⟩)
      have h723 := IV_s h715 hS719
      have nx724 := NX_st h715 hS719 (by decide)
      have ns725 := NS_st h715 hS719
      have na726 := NA_st h715 hS719
      have nj727 := NJ_st h715 hS719
      have nt728 := NT_st h715 hS719 (by decide)
      have hr729 := RV_keep hr (NX.tr nx716 nx724)
      have hs730 := RS_keep hrs (NS.tr ns717 ns725)
      have hj731 := RJ_keep hrj (NS.tr ns717 ns725) nj727
      have ht732 := RT_keep h hrt (NT.tr nt714 nt728)
      have ha733 := RA_keep hra (NA.tr na718 na726)
      exact ih Z230 I230 J230 (rc - 100) (rs - 2100) (x3 + 6) h723 hr729 hs730 hj731 ht732 ha733 (by omega) (by omega) (by omega) (by omega)
    · clear hwx
      refine ⟨hv1, ?_⟩
      refine ⟨hv2, ?_⟩
      refine sfX11_closes h.1 h.2.2.1 (fun v234 I233 hW735 hF736 => ?_)
      have nt737 : NT Z I Z I233 := NT_fr h hF736 (by intro a k h; omega)
      have h738 := IV_x h hW735 hF736 (by intro a k h; omega)
      have nx739 : NX Z I Z I233 := NX_fr hF736 (by omega) (by omega) (by omega)
      have ns740 : NS Z I Z I233 := NS_fr hF736 (by intro a k h; omega)
      have na741 : NA Z I Z I233 := NA_fr hF736 (by intro a k h; omega)
      refine ⟨hv1, ?_⟩
      refine ⟨hv2, ?_⟩
      have hfc := fC_le Z 45
      refine ⟨(fC Z 45), (fS Z 45), rc - 100, rs - 2100, by omega, by omega, ?_⟩
      refine qX12_closes hG h738.2.2.2 (fun v744 Z237 I237 J237 hS742 => ⟨v744, rfl, (IV_s h738 hS742).1, hS742.1.1, ?_⟩)
      have h746 := IV_s h738 hS742
      have nx747 := NX_st h738 hS742 (by decide)
      have ns748 := NS_st h738 hS742
      have na749 := NA_st h738 hS742
      have nj750 := NJ_st h738 hS742
      have nt751 := NT_st h738 hS742 (by decide)
      have hr752 := RV_keep hr (NX.tr nx739 nx747)
      have hs753 := RS_keep hrs (NS.tr ns740 ns748)
      have hj754 := RJ_keep hrj (NS.tr ns740 ns748) nj750
      have ht755 := RT_keep h hrt (NT.tr nt737 nt751)
      have ha756 := RA_keep hra (NA.tr na741 na749)
      exact ih Z237 I237 J237 (rc - 100) (rs - 2100) (x3 + 6) h746 hr752 hs753 hj754 ht755 ha756 (by omega) (by omega) (by omega) (by omega)
    · clear hwx
      refine sfX11_worst h.1 h.2.2.1 (fun v239 I238 hW758 hF759 => ?_)
      have nt760 : NT Z I Z I238 := NT_fr h hF759 (by intro a k h; omega)
      have h761 := IV_x h hW758 hF759 (by intro a k h; omega)
      have nx762 : NX Z I Z I238 := NX_fr hF759 (by omega) (by omega) (by omega)
      have ns763 : NS Z I Z I238 := NS_fr hF759 (by intro a k h; omega)
      have na764 : NA Z I Z I238 := NA_fr hF759 (by intro a k h; omega)
      have hfc := fC_le Z 45
      refine ⟨(fC Z 45), (fS Z 45), rc - 100, rs - 2100, by omega, by omega, ?_⟩
      refine qX12_worst hG h761.2.2.2 (fun v767 Z240 I240 J240 hS765 => ⟨v767, rfl, (IV_s h761 hS765).1, hS765.1.1, ?_⟩)
      have h769 := IV_s h761 hS765
      have nx770 := NX_st h761 hS765 (by decide)
      have ns771 := NS_st h761 hS765
      have na772 := NA_st h761 hS765
      have nj773 := NJ_st h761 hS765
      have nt774 := NT_st h761 hS765 (by decide)
      have hr775 := RV_keep hr (NX.tr nx762 nx770)
      have hs776 := RS_keep hrs (NS.tr ns763 ns771)
      have hj777 := RJ_keep hrj (NS.tr ns763 ns771) nj773
      have ht778 := RT_keep h hrt (NT.tr nt760 nt774)
      have ha779 := RA_keep hra (NA.tr na764 na772)
      exact ih Z240 I240 J240 (rc - 100) (rs - 2100) (x3 + 6) h769 hr775 hs776 hj777 ht778 ha779 (by omega) (by omega) (by omega) (by omega)
    · skip
      refine ⟨hv1, ?_⟩
      refine pX11_fits h.1 h.2.2.1 ht1 hok (fun v243 I242 hW781 hF782 hp780 => ?_)
      have nt783 : NT Z I Z I242 := NT_fr h hF782 (by intro a k h; omega)
      have tm784 := TM_fr ht2 (show s.1.1 ≤ 8 by omega) hF782 (by omega) (by omega) (by omega) (by omega) (by intro a k h1 h2 h3; omega)
      have h785 := IV_x h hW781 hF782 (by intro a k h; omega)
      have nx786 : NX Z I Z I242 := NX_fr hF782 (by omega) (by omega) (by omega)
      have ns787 : NS Z I Z I242 := NS_fr hF782 (by intro a k h; omega)
      have na788 : NA Z I Z I242 := NA_fr hF782 (by intro a k h; omega)
      refine ⟨hv1, ?_⟩
      have hfc := fC_le Z 45
      refine ⟨(fC Z 45), (fS Z 45), rc - 100, rs - 2100, by omega, by omega, ?_⟩
      refine pqX12_fits hG h785.2.2.2 tm784 (fun v791 Z245 I245 J245 hS789 hp790 => ⟨v791, rfl, (IV_s h785 hS789).1, hS789.1.1, ?_⟩)
      have h793 := IV_s h785 hS789
      have nx794 := NX_st h785 hS789 (by decide)
      have ns795 := NS_st h785 hS789
      have na796 := NA_st h785 hS789
      have nj797 := NJ_st h785 hS789
      have nt798 := NT_st h785 hS789 (by decide)
      refine ⟨fun hc799 => ?_, fun hc800 => ?_⟩
      · skip
        have hr801 := RV_keep hr (NX.tr nx786 nx794)
        have hs802 := RS_keep hrs (NS.tr ns787 ns795)
        have hj803 := RJ_keep hrj (NS.tr ns787 ns795) nj797
        have ht804 := RT_keep h hrt (NT.tr nt783 nt798)
        have ha805 := RA_keep hra (NA.tr na788 na796)
        exact ih Z245 I245 J245 (rc - 100) (rs - 2100) (x3 + 6) h793 hr801 hs802 hj803 ht804 ha805 (by omega) (by omega) (by omega) (by omega)
      · skip
        exact hc800 (Int32.toInt_inj.mp (hp780.trans hp790.symm))
    · clear hwx
      refine ⟨hv1, ?_⟩
      refine sfX11_sure h.1 h.2.2.1 (fun v248 I247 hW807 hF808 => ?_)
      have nt809 : NT Z I Z I247 := NT_fr h hF808 (by intro a k h; omega)
      have h810 := IV_x h hW807 hF808 (by intro a k h; omega)
      have nx811 : NX Z I Z I247 := NX_fr hF808 (by omega) (by omega) (by omega)
      have ns812 : NS Z I Z I247 := NS_fr hF808 (by intro a k h; omega)
      have na813 : NA Z I Z I247 := NA_fr hF808 (by intro a k h; omega)
      refine ⟨hv1, ?_⟩
      have hfc := fC_le Z 45
      refine ⟨(fC Z 45), (fS Z 45), rc - 100, rs - 2100, by omega, by omega, ?_⟩
      refine qX12_sure hG h810.2.2.2 (fun v816 Z250 I250 J250 hS814 => ⟨v816, rfl, (IV_s h810 hS814).1, hS814.1.1, ?_⟩)
      have h818 := IV_s h810 hS814
      have nx819 := NX_st h810 hS814 (by decide)
      have ns820 := NS_st h810 hS814
      have na821 := NA_st h810 hS814
      have nj822 := NJ_st h810 hS814
      have nt823 := NT_st h810 hS814 (by decide)
      have hr824 := RV_keep hr (NX.tr nx811 nx819)
      have hs825 := RS_keep hrs (NS.tr ns812 ns820)
      have hj826 := RJ_keep hrj (NS.tr ns812 ns820) nj822
      have ht827 := RT_keep h hrt (NT.tr nt809 nt823)
      have ha828 := RA_keep hra (NA.tr na813 na821)
      exact ih Z250 I250 J250 (rc - 100) (rs - 2100) (x3 + 6) h818 hr824 hs825 hj826 ht827 ha828 (by omega) (by omega) (by omega) (by omega)
    · clear hwx e1 e2 e3 e4 e5 e6 s6 q1 q2 q3 q4 q5 q6 h0 hm h1 h2 h3 hc
      refine ⟨hv1, ?_⟩
      refine ⟨hv2, ?_⟩
      refine sfX11_judge h.1 h.2.2.1 (fun v254 I253 hW830 hF831 => ?_)
      have nt832 : NT Z I Z I253 := NT_fr h hF831 (by intro a k h; omega)
      have h833 := IV_x h hW830 hF831 (by intro a k h; omega)
      have nx834 : NX Z I Z I253 := NX_fr hF831 (by omega) (by omega) (by omega)
      have ns835 : NS Z I Z I253 := NS_fr hF831 (by intro a k h; omega)
      have na836 : NA Z I Z I253 := NA_fr hF831 (by intro a k h; omega)
      refine ⟨hv1, ?_⟩
      refine ⟨hv2, ?_⟩
      refine sfX12_judge h833.2.2.2.1 h833.2.2.2.2.1 (fun v258 I257 hW838 hF839 => ?_)
      have nt840 : NT Z I253 Z I257 := NT_fr h833 hF839 (by intro a k h; omega)
      have h841 := IV_m h833 hW838 hF839 (by intro a k h; omega)
      have nx842 : NX Z I253 Z I257 := NX_fr hF839 (by omega) (by omega) (by omega)
      have ns843 : NS Z I253 Z I257 := NS_fr hF839 (by intro a k h; omega)
      have na844 : NA Z I253 Z I257 := NA_fr hF839 (by intro a k h; omega)
      have hr845 := RV_keep hr (NX.tr nx834 nx842)
      have hs846 := RS_keep hrs (NS.tr ns835 ns843)
      have hj847 := RJ_keep hrj (NS.tr ns835 ns843) NJ.rf
      have ht848 := RT_keep h hrt (NT.tr nt832 nt840)
      have ha849 := RA_keep hra (NA.tr na836 na844)
      exact ih Z I257 J rc rs (x3 + 6) h841 hr845 hs846 hj847 ht848 ha849 f1 f2 f3 f4
    · clear hwx
      refine ⟨hv1, ?_⟩
      refine ⟨hv2, ?_⟩
      refine ⟨hv3, ?_⟩
      refine sfX11_behind h.1 h.2.2.1 (fun v263 I262 hW851 hF852 => ?_)
      have nt853 : NT Z I Z I262 := NT_fr h hF852 (by intro a k h; omega)
      have h854 := IV_x h hW851 hF852 (by intro a k h; omega)
      have nx855 : NX Z I Z I262 := NX_fr hF852 (by omega) (by omega) (by omega)
      have ns856 : NS Z I Z I262 := NS_fr hF852 (by intro a k h; omega)
      have na857 : NA Z I Z I262 := NA_fr hF852 (by intro a k h; omega)
      refine ⟨hv1, ?_⟩
      refine ⟨hv2, ?_⟩
      refine ⟨hv3, ?_⟩
      have hfc := fC_le Z 45
      refine ⟨(fC Z 45), (fS Z 45), rc - 100, rs - 2100, by omega, by omega, ?_⟩
      refine qX12_behind hG h854.2.2.2 (fun v860 Z267 I267 J267 hS858 => ⟨v860, rfl, (IV_s h854 hS858).1, hS858.1.1, ?_⟩)
      have h862 := IV_s h854 hS858
      have nx863 := NX_st h854 hS858 (by decide)
      have ns864 := NS_st h854 hS858
      have na865 := NA_st h854 hS858
      have nj866 := NJ_st h854 hS858
      have nt867 := NT_st h854 hS858 (by decide)
      have hr868 := RV_keep hr (NX.tr nx855 nx863)
      have hs869 := RS_keep hrs (NS.tr ns856 ns864)
      have hj870 := RJ_keep hrj (NS.tr ns856 ns864) nj866
      have ht871 := RT_keep h hrt (NT.tr nt853 nt867)
      have ha872 := RA_keep hra (NA.tr na857 na865)
      exact ih Z267 I267 J267 (rc - 100) (rs - 2100) (x3 + 6) h862 hr868 hs869 hj870 ht871 ha872 (by omega) (by omega) (by omega) (by omega)
    · clear hwx e1 e2 e3 e4 e5 e6 s6 q1 q2 q3 q4 q5 q6 h0 hm h1 h2 h3 hc
      refine ⟨hv1, ?_⟩
      refine ⟨hv2, ?_⟩
      refine pX11_rides h.1 h.2.1 h.2.2.1 ht1 hok (fun v271 I270 hW874 hF875 hp873 => ?_)
      have tm876 := TM_fr ht2 (show s.1.1 ≤ 8 by omega) hF875 (by omega) (by omega) (by omega) (by omega) (by intro a k h1 h2 h3; omega)
      have rk877 := RK_fr h hrt.2.2 hF875 (by intro a k h; omega)
      have tp878 := TP_fr hrt.1 hF875 (by intro a k h; omega)
      have h879 := IV_x h hW874 hF875 (by intro a k h; omega)
      have nx880 : NX Z I Z I270 := NX_fr hF875 (by omega) (by omega) (by omega)
      have ns881 : NS Z I Z I270 := NS_fr hF875 (by intro a k h; omega)
      have na882 : NA Z I Z I270 := NA_fr hF875 (by intro a k h; omega)
      refine ⟨hv1, ?_⟩
      refine ⟨hv2, ?_⟩
      refine pX12_rides h879.2.2.2.1 h879.2.2.2.2.1 tm876 (fun v275 I274 hW884 hF885 hp883 => ?_)
      have rk886 := RK_fr h879 rk877 hF885 (by intro a k h; omega)
      have tp887 := TP_fr tp878 hF885 (by intro a k h; omega)
      have h888 := IV_m h879 hW884 hF885 (by intro a k h; omega)
      have nx889 : NX Z I270 Z I274 := NX_fr hF885 (by omega) (by omega) (by omega)
      have ns890 : NS Z I270 Z I274 := NS_fr hF885 (by intro a k h; omega)
      have na891 : NA Z I270 Z I274 := NA_fr hF885 (by intro a k h; omega)
      have hr892 := RV_keep hr (NX.tr nx880 nx889)
      have hs893 := RS_keep hrs (NS.tr ns881 ns890)
      have hj894 := RJ_keep hrj (NS.tr ns881 ns890) NJ.rf
      have hte := TOLD_eq (x1 := (xs (Int32.toNatClampNeg (x3 + 1)))) (x2 := (xs (Int32.toNatClampNeg (x3 + 2)))) hrs hrj (fun k => hF875 (45 + 1) k (by omega)) (fun k => hF875 (45 + 3) k (by omega))
      rw [hte.1, oRides_c (fun q j hj => hte.2 q j (by have := tX_0 q; omega))] at hp883
      have ht895 : RT Z I274 := ⟨tp887, ⟨_, oRides_ok hok, TX_fr hp873.2 hF885 (by intro a k h1 h2; omega), hp883.2⟩, rk886⟩
      have ha896 := RA_keep hra (NA.tr na882 na891)
      exact ih Z I274 J rc rs (x3 + 6) h888 hr892 hs893 hj894 ht895 ha896 f1 f2 f3 f4
    · clear hwx e1 e2 e3 e4 e5 e6 s6 q1 q2 q3 q4 q5 q6 h0 hm h1 h2 h3 hc
      refine ⟨hv1, ?_⟩
      refine pX11_day h.1 h.2.1 (RA_hi hra) h.2.2.1 ht1 hok (fun v278 I277 hW898 hF899 hp897 => ?_)
      have tm900 := TM_fr ht2 (show s.1.1 ≤ 8 by omega) hF899 (by omega) (by omega) (by omega) (by omega) (by intro a k h1 h2 h3; omega)
      have rk901 := RK_fr h hrt.2.2 hF899 (by intro a k h; omega)
      have tp902 := TP_fr hrt.1 hF899 (by intro a k h; omega)
      have h903 := IV_x h hW898 hF899 (by intro a k h; omega)
      have nx904 : NX Z I Z I277 := NX_fr hF899 (by omega) (by omega) (by omega)
      have ns905 : NS Z I Z I277 := NS_fr hF899 (by intro a k h; omega)
      have na906 : NA Z I Z I277 := NA_fr hF899 (by intro a k h; omega)
      refine ⟨hv1, ?_⟩
      refine pX12_day h903.2.2.2.1 h903.2.2.2.2.1 tm900 hok (fun v281 I280 hW908 hF909 hp907 => ?_)
      have rk910 := RK_fr h903 rk901 hF909 (by intro a k h; omega)
      have tp911 := TP_fr tp902 hF909 (by intro a k h; omega)
      have h912 := IV_m h903 hW908 hF909 (by intro a k h; omega)
      have nx913 : NX Z I277 Z I280 := NX_fr hF909 (by omega) (by omega) (by omega)
      have ns914 : NS Z I277 Z I280 := NS_fr hF909 (by intro a k h; omega)
      have na915 : NA Z I277 Z I280 := NA_fr hF909 (by intro a k h; omega)
      have hr916 := RV_keep hr (NX.tr nx904 nx913)
      have hs917 := RS_keep hrs (NS.tr ns905 ns914)
      have hj918 := RJ_keep hrj (NS.tr ns905 ns914) NJ.rf
      have hme := MAN_eq (x := (xs (Int32.toNatClampNeg (x3 + 1)))) hrs hra (fun k => hF899 (45 + 1) k (by omega)) (fun k => hF899 (45 + 14) k (by omega)) (fun k => hF899 (45 + 15) k (by omega))
      rw [hme.1, oDay_c hme.2] at hp907
      have ht919 : RT Z I280 := ⟨tp911, ⟨_, oDay_ok hok, TX_fr hp897.2 hF909 (by intro a k h1 h2; omega), hp907.2⟩, rk910⟩
      have ha920 := RA_keep hra (NA.tr na906 na915)
      exact ih Z I280 J rc rs (x3 + 6) h912 hr916 hs917 hj918 ht919 ha920 f1 f2 f3 f4
    · clear hwx e1 e2 e3 e4 e5 e6 s6 q1 q2 q3 q4 q5 q6 h0 hm h1 h2 h3 hc
      refine ⟨hv1, ?_⟩
      refine pX11_meet h.1 h.2.2.1 ht1 (fun v284 I283 hW922 hF923 hp921 => ?_)
      have tm924 := TM_fr ht2 (show s.1.1 ≤ 8 by omega) hF923 (by omega) (by omega) (by omega) (by omega) (by intro a k h1 h2 h3; omega)
      have rk925 := RK_fr h hrt.2.2 hF923 (by intro a k h; omega)
      have tp926 := TP_fr hrt.1 hF923 (by intro a k h; omega)
      have h927 := IV_x h hW922 hF923 (by intro a k h; omega)
      have nx928 : NX Z I Z I283 := NX_fr hF923 (by omega) (by omega) (by omega)
      have ns929 : NS Z I Z I283 := NS_fr hF923 (by intro a k h; omega)
      have na930 : NA Z I Z I283 := NA_fr hF923 (by intro a k h; omega)
      refine ⟨hv1, ?_⟩
      refine pX12_meet h927.2.2.2.1 h927.2.2.2.2.1 tm924 (fun v287 I286 hW932 hF933 hp931 => ?_)
      have rk934 := RK_fr h927 rk925 hF933 (by intro a k h; omega)
      have tp935 := TP_fr tp926 hF933 (by intro a k h; omega)
      have h936 := IV_m h927 hW932 hF933 (by intro a k h; omega)
      have nx937 : NX Z I283 Z I286 := NX_fr hF933 (by omega) (by omega) (by omega)
      have ns938 : NS Z I283 Z I286 := NS_fr hF933 (by intro a k h; omega)
      have na939 : NA Z I283 Z I286 := NA_fr hF933 (by intro a k h; omega)
      have hr940 := RV_keep hr (NX.tr nx928 nx937)
      have hs941 := RS_keep hrs (NS.tr ns929 ns938)
      have hj942 := RJ_keep hrj (NS.tr ns929 ns938) NJ.rf
      have ht943 : RT Z I286 := ⟨tp935, ⟨_, oMeet_ok hok, TX_fr hp921.2 hF933 (by intro a k h1 h2; omega), hp931.2⟩, rk934⟩
      have ha944 := RA_keep hra (NA.tr na930 na939)
      exact ih Z I286 J rc rs (x3 + 6) h936 hr940 hs941 hj942 ht943 ha944 f1 f2 f3 f4
    · clear hwx e1 e2 e3 e4 e5 e6 s6 q1 q2 q3 q4 q5 q6 h0 hm h1 h2 h3 hc
      refine pX11_year h.1 h.2.2.1 ht1 hok (fun v289 I288 hW946 hF947 hp945 => ?_)
      have tm948 := TM_fr ht2 (show s.1.1 ≤ 8 by omega) hF947 (by omega) (by omega) (by omega) (by omega) (by intro a k h1 h2 h3; omega)
      have rk949 := RK_fr h hrt.2.2 hF947 (by intro a k h; omega)
      have tp950 := TP_fr hrt.1 hF947 (by intro a k h; omega)
      have h951 := IV_x h hW946 hF947 (by intro a k h; omega)
      have nx952 : NX Z I Z I288 := NX_fr hF947 (by omega) (by omega) (by omega)
      have ns953 : NS Z I Z I288 := NS_fr hF947 (by intro a k h; omega)
      have na954 : NA Z I Z I288 := NA_fr hF947 (by intro a k h; omega)
      refine pX12_year h951.2.2.2.1 h951.2.2.2.2.1 tm948 hok (fun v291 I290 hW956 hF957 hp955 => ?_)
      have rk958 := RK_fr h951 rk949 hF957 (by intro a k h; omega)
      have tp959 := TP_fr tp950 hF957 (by intro a k h; omega)
      have h960 := IV_m h951 hW956 hF957 (by intro a k h; omega)
      have nx961 : NX Z I288 Z I290 := NX_fr hF957 (by omega) (by omega) (by omega)
      have ns962 : NS Z I288 Z I290 := NS_fr hF957 (by intro a k h; omega)
      have na963 : NA Z I288 Z I290 := NA_fr hF957 (by intro a k h; omega)
      have hr964 := RV_keep hr (NX.tr nx952 nx961)
      have hs965 := RS_keep hrs (NS.tr ns953 ns962)
      have hj966 := RJ_keep hrj (NS.tr ns953 ns962) NJ.rf
      have ht967 : RT Z I290 := ⟨tp959, ⟨_, oYear_ok hok, TX_fr hp945.2 hF957 (by intro a k h1 h2; omega), hp955.2⟩, rk958⟩
      have ha968 := RA_keep hra (NA.tr na954 na963)
      exact ih Z I290 J rc rs (x3 + 6) h960 hr964 hs965 hj966 ht967 ha968 f1 f2 f3 f4
    · clear hwx e1 e2 e3 e4 e5 e6 s6 q1 q2 q3 q4 q5 q6 h0 hm h1 h2 h3 hc
      refine ⟨hv1, ?_⟩
      refine pX11_come h.1 h.2.2.1 ht1 (fun v294 I293 hW970 hF971 hp969 => ?_)
      have tm972 := TM_fr ht2 (show s.1.1 ≤ 8 by omega) hF971 (by omega) (by omega) (by omega) (by omega) (by intro a k h1 h2 h3; omega)
      have rk973 := RK_fr h hrt.2.2 hF971 (by intro a k h; omega)
      have tp974 := TP_fr hrt.1 hF971 (by intro a k h; omega)
      have h975 := IV_x h hW970 hF971 (by intro a k h; omega)
      have nx976 : NX Z I Z I293 := NX_fr hF971 (by omega) (by omega) (by omega)
      have ns977 : NS Z I Z I293 := NS_fr hF971 (by intro a k h; omega)
      have na978 : NA Z I Z I293 := NA_fr hF971 (by intro a k h; omega)
      refine ⟨hv1, ?_⟩
      refine pX12_come h975.2.2.2.1 h975.2.2.2.2.1 tm972 (fun v297 I296 hW980 hF981 hp979 => ?_)
      have rk982 := RK_fr h975 rk973 hF981 (by intro a k h; omega)
      have tp983 := TP_fr tp974 hF981 (by intro a k h; omega)
      have h984 := IV_m h975 hW980 hF981 (by intro a k h; omega)
      have nx985 : NX Z I293 Z I296 := NX_fr hF981 (by omega) (by omega) (by omega)
      have ns986 : NS Z I293 Z I296 := NS_fr hF981 (by intro a k h; omega)
      have na987 : NA Z I293 Z I296 := NA_fr hF981 (by intro a k h; omega)
      have hr988 := RV_keep hr (NX.tr nx976 nx985)
      have hs989 := RS_keep hrs (NS.tr ns977 ns986)
      have hj990 := RJ_keep hrj (NS.tr ns977 ns986) NJ.rf
      have ht991 : RT Z I296 := ⟨tp983, ⟨_, oCome_ok hok, TX_fr hp969.2 hF981 (by intro a k h1 h2; omega), hp979.2⟩, rk982⟩
      have ha992 := RA_keep hra (NA.tr na978 na987)
      exact ih Z I296 J rc rs (x3 + 6) h984 hr988 hs989 hj990 ht991 ha992 f1 f2 f3 f4
    · clear hwx e1 e2 e3 e4 e5 e6 s6 q1 q2 q3 q4 q5 q6 h0 hm h1 h2 h3 hc
      refine ⟨hv1, ?_⟩
      refine fsfX11_seed h.1 h.2.2.1 ht1 (fun v300 I299 hW994 hF995 hp993 => ?_)
      have tm996 := TM_fr ht2 (show s.1.1 ≤ 8 by omega) hF995 (by omega) (by omega) (by omega) (by omega) (by intro a k h1 h2 h3; omega)
      have rk997 := RK_fr h hrt.2.2 hF995 (by intro a k h; omega)
      have tp998 := TP_fr hrt.1 hF995 (by intro a k h; omega)
      have h999 := IV_x h hW994 hF995 (by intro a k h; omega)
      have nx1000 : NX Z I Z I299 := NX_fr hF995 (by omega) (by omega) (by omega)
      have ns1001 : NS Z I Z I299 := NS_fr hF995 (by intro a k h; omega)
      have na1002 : NA Z I Z I299 := NA_fr hF995 (by intro a k h; omega)
      refine ⟨hv1, ?_⟩
      refine fsfX12_seed h999.2.2.2.1 h999.2.2.2.2.1 tm996 (fun v303 I302 hW1004 hF1005 hp1003 => ?_)
      have rk1006 := RK_fr h999 rk997 hF1005 (by intro a k h; omega)
      have tp1007 := TP_fr tp998 hF1005 (by intro a k h; omega)
      have h1008 := IV_m h999 hW1004 hF1005 (by intro a k h; omega)
      have nx1009 : NX Z I299 Z I302 := NX_fr hF1005 (by omega) (by omega) (by omega)
      have ns1010 : NS Z I299 Z I302 := NS_fr hF1005 (by intro a k h; omega)
      have na1011 : NA Z I299 Z I302 := NA_fr hF1005 (by intro a k h; omega)
      have hr1012 := RV_keep hr (NX.tr nx1000 nx1009)
      have hs1013 := RS_keep hrs (NS.tr ns1001 ns1010)
      have hj1014 := RJ_keep hrj (NS.tr ns1001 ns1010) NJ.rf
      have ht1015 : RT Z I302 := ⟨tp1007, ⟨_, oSeed_ok hok, TX_fr hp993.2 hF1005 (by intro a k h1 h2; omega), hp1003.2⟩, rk1006⟩
      have ha1016 := RA_keep hra (NA.tr na1002 na1011)
      exact ih Z I302 J rc rs (x3 + 6) h1008 hr1012 hs1013 hj1014 ht1015 ha1016 f1 f2 f3 f4
    · clear hwx
      refine pX11_image h.1 h.2.2.1 ht1 (fun v305 I304 hW1018 hF1019 hp1017 pI1020 => ?_)
      have tm1021 := TM_fr ht2 (show s.1.1 ≤ 8 by omega) hF1019 (by omega) (by omega) (by omega) (by omega) (by intro a k h1 h2 h3; omega)
      have tp1022 := TP_fr hrt.1 hF1019 (by intro a k h; omega)
      have h1023 := IV_x h hW1018 hF1019 (by intro a k h; omega)
      have e25 := congrArg Int32.toInt (hF1019 25 1 (by omega))
      have e458 := congrArg Int32.toInt (hF1019 45 8 (by omega))
      have ns1024 : NS Z I Z I304 := NS_fr hF1019 (by intro a k h; omega)
      have na1025 : NA Z I Z I304 := NA_fr hF1019 (by intro a k h; omega)
      refine ⟨38, 1946, rc - 100, rs - 2100, by omega, by omega, ?_⟩
      refine qX12_image hG h1023.2.2.2 (fun Z306 I306 J306 hS1026 hpi hFi => ⟨1, rfl, (IV_s h1023 hS1026).1, hS1026.1.1, ?_⟩)
      have h1030 := IV_s h1023 hS1026
      have m25 := congrArg Int32.toInt (hS1026.2.2.2.2.1 25 1 (by omega))
      have m458 := congrArg Int32.toInt (hS1026.2.2.2.2.1 45 8 (by omega))
      have m08 := congrArg Int32.toInt (hS1026.2.2.2.2.1 0 8 (by omega))
      have ns1031 := NS_st h1023 hS1026
      have na1032 := NA_st h1023 hS1026
      have nj1033 := NJ_st h1023 hS1026
      have hr1034 : RV Z306 I306 := ⟨by omega, ⟨fun q => absurd q (by omega), fun q => by obtain ⟨w9, hw9, _⟩ := hpi; rw [hw9] at q; cases q⟩⟩
      have hs1035 := RS_keep hrs (NS.tr ns1024 ns1031)
      have hj1036 := RJ_keep hrj (NS.tr ns1024 ns1031) nj1033
      obtain ⟨w9, hw9, c1, c2, c3⟩ := hpi
      have ht1037 : RT Z306 I306 := ⟨TP_fr tp1022 hFi (by intro a k h; omega), ⟨s, hok, TX_fr (TX_fr ht1 hF1019 (by intro a k h1 h2; omega)) hFi (by intro a k h1 h2; omega), TM_fr tm1021 (show s.1.1 ≤ 8 by omega) hFi (by omega) (by omega) (by omega) (by omega) (by intro a k h1 h2 h3; omega)⟩, fun u hu => by rw [hw9] at hu; cases hu; exact ⟨s, hok, TX_fr pI1020 hFi (by intro a k h1 h2; omega), RM_cm tm1021.1 (show s.1.1 ≤ 8 by omega) c3, by rw [c3.2.2.2 19 (by decide) (by decide)]; exact tm1021.2⟩⟩
      have ha1038 := RA_keep hra (NA.tr na1025 na1032)
      exact ih Z306 I306 J306 (rc - 100) (rs - 2100) (x3 + 6) h1030 hr1034 hs1035 hj1036 ht1037 ha1038 (by omega) (by omega) (by omega) (by omega)
    · clear hwx e1 e2 e3 e4 e5 e6 s6 q1 q2 q3 q4 q5 q6 h0 hm h1 h2 h3 hc
      refine pX11_back h.1 h.2.2.1 (fun v308 I307 hW1040 hF1041 hp1039 pB1042 pB1043 => ?_)
      have tm1044 := TM_fr ht2 (show s.1.1 ≤ 8 by omega) hF1041 (by omega) (by omega) (by omega) (by omega) (by intro a k h1 h2 h3; omega)
      have rk1045 := RK_fr h hrt.2.2 hF1041 (by intro a k h; omega)
      have tp1046 := TP_fr hrt.1 hF1041 (by intro a k h; omega)
      have h1047 := IV_x h hW1040 hF1041 (by intro a k h; omega)
      have nx1048 : NX Z I Z I307 := NX_fr hF1041 (by omega) (by omega) (by omega)
      have ns1049 : NS Z I Z I307 := NS_fr hF1041 (by intro a k h; omega)
      have na1050 : NA Z I Z I307 := NA_fr hF1041 (by intro a k h; omega)
      refine qX12_back h1047.2.2.2 (fun v310 I309 hS1051 hpb => ?_)
      have h1052 := IV_s h1047 hS1051
      have nx1053 := NX_st h1047 hS1051 (by decide)
      have ns1054 := NS_st h1047 hS1051
      have na1055 := NA_st h1047 hS1051
      have nj1056 := NJ_st h1047 hS1051
      have hr1057 := RV_keep hr (NX.tr nx1048 nx1053)
      have hs1058 := RS_keep hrs (NS.tr ns1049 ns1054)
      have hj1059 := RJ_keep hrj (NS.tr ns1049 ns1054) nj1056
      have hmain : ∃ s : Sd, OKT s.1 ∧ TX I309 1 s ∧ TM I309 45 s := by
        cases hz9 : Z.2.1 45 20 with
        | none =>
          have g := hr.2.mpr hz9
          obtain ⟨_, fB⟩ := hpb.1 hz9
          exact ⟨s, hok, TX_fr (pB1043 g s ht1) fB (by intro a k h1 h2; omega), TM_fr tm1044 (show s.1.1 ≤ 8 by omega) fB (by omega) (by omega) (by omega) (by omega) (by intro a k h1 h2 h3; omega)⟩
        | some w9 =>
          have hne : ¬ Z.2.1 45 20 = none := by rw [hz9]; exact fun e => by cases e
          have g := mt hr.2.mp hne
          obtain ⟨s9, k9, g1, g2⟩ := hrt.2.2 w9 hz9
          have l9 := g1.1.1
          have hwk := IV_kept h hz9
          have hw9 := WX_f h.2.2.1
          obtain ⟨_, c3⟩ := hpb.2 hne
          have c3 := c3 w9 hz9
          have g3 := TM_fr g2 (show s9.1.1 ≤ 8 by omega) hF1041 (by omega) (by omega) (by omega) (by omega) (by intro a k h1 h2 h3; omega)
          exact ⟨s9, k9, TX_fr (pB1042 g s9 g1) hS1051.2.2.2.2.1 (by intro a k h1 h2; omega), RM_cm g3.1 (show s9.1.1 ≤ 8 by omega) c3, by rw [c3.2.2.2 19 (by decide) (by decide)]; exact g3.2⟩
      have hbz := h.2.2.2.2.2.1
      have ht1060 : RT Z I309 := ⟨TP_fr tp1046 hS1051.2.2.2.2.1 (by intro a k h; omega), hmain, RK_eq rk1045 h1047.2.2.1 rfl (fun a k h1 h2 => hS1051.2.2.2.2.1 a k (by omega)) (fun u hu a k h1 h2 => hS1051.2.2.2.2.2.2.1 rfl (by omega) u hu a k h1 h2)⟩
      have ha1061 := RA_keep hra (NA.tr na1050 na1055)
      exact ih Z I309 J rc rs (x3 + 6) h1052 hr1057 hs1058 hj1059 ht1060 ha1061 f1 f2 f3 f4
    · clear hwx e1 e2 e3 e4 e5 e6 s6 q1 q2 q3 q4 q5 q6 h0 hm h1 h2 h3 hc
      refine ⟨hv1, ?_⟩
      refine sfX11_status h.1 h.2.2.1 (fun v313  => ?_)
      have nx1063 : NX Z I Z I := NX.rf
      have ns1064 : NS Z I Z I := NS.rf
      have nt1065 : NT Z I Z I := NT.rf
      have na1066 : NA Z I Z I := NA.rf
      refine ⟨hv1, ?_⟩
      refine sfX12_status h.2.2.2.1 h.2.2.2.2.1 (fun v316  => ?_)
      have nx1068 : NX Z I Z I := NX.rf
      have ns1069 : NS Z I Z I := NS.rf
      have nt1070 : NT Z I Z I := NT.rf
      have na1071 : NA Z I Z I := NA.rf
      have hr1072 := RV_keep hr (NX.tr nx1063 nx1068)
      have hs1073 := RS_keep hrs (NS.tr ns1064 ns1069)
      have hj1074 := RJ_keep hrj (NS.tr ns1064 ns1069) NJ.rf
      have ht1075 := RT_keep h hrt (NT.tr nt1065 nt1070)
      have ha1076 := RA_keep hra (NA.tr na1066 na1071)
      exact ih Z I J rc rs (x3 + 6) h hr1072 hs1073 hj1074 ht1075 ha1076 f1 f2 f3 f4
