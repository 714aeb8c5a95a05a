set_option maxRecDepth 20000 in
set_option maxHeartbeats 4000000 in
/-- the law's loop goes on well -/
theorem lL_law {G : jdG} {nm : String} {b L : Nat} {xs : Nat → Int32} {sA sV : Nat → Nat} (hG : gOK G sA sV) (hXs : ∀ U, G.2.2.2.2 U → va_X b L xs U G.2.2.1) (hL : L ≤ 100000) : ∀ m : Nat, ∀ (Z : jdL) (I : jdI) (J : jdJ) (rc rs : Nat) (x3 : Int32), IV Z I → RV Z I → RS Z I → RJ I J → 0 ≤ x3.toInt → (L : Int) - x3.toInt + 6 < (m : Int) → 20 * ((L : Int) - x3.toInt) ≤ (rc : Int) → 350 * ((L : Int) - x3.toInt) ≤ (rs : Int) → x3.toInt ≤ (L : Int) → Jd G (mLaw nm) (lawF G) (2046 + 1) rc rs 18 [(0, .ref b), (1, .ref (gb G + 0)), (2, .ref (gb G + 45)), (3, .int x3)] [] Z I J := by
  intro m
  induction m with
  | zero =>
    intro Z I J rc rs x3 h hr hrs hrj h0 hm h1 h2 h3
    have hr1 := hr.1
    omega
  | succ m ih0 =>
    have ih : ∀ (Z : jdL) (I : jdI) (J : jdJ) (rc rs : Nat) (x3 : Int32), IV Z I → RV Z I → RS Z I → RJ I J → 0 ≤ x3.toInt → (L : Int) - x3.toInt + 6 < (m : Int) → 20 * ((L : Int) - x3.toInt) ≤ (rc : Int) → 350 * ((L : Int) - x3.toInt) ≤ (rs : Int) ∧ x3.toInt ≤ (L : Int) → Jd G (mLaw nm) (lawF G) (2046 + 1) rc rs 18 [(0, .ref b), (1, .ref (gb G + 0)), (2, .ref (gb G + 45)), (3, .int x3)] [] Z I J := fun Z I J rc rs x3 h hr hrs hrj a1 a2 a3 a4 => ih0 Z I J rc rs x3 h hr hrs hrj a1 a2 a3 a4.1 a4.2
    intro Z I J rc rs x3 h hr hrs hrj h0 hm h1 h2 h3
    have hr1 := hr.1
    have qL : (Nat.toInt32 L).toInt = (L : Int) := nI_toInt (by omega)
    have q6 : (6 : Int32).toInt = 6 := rfl
    have q1 : (1 : Int32).toInt = 1 := rfl
    have q2 : (2 : Int32).toInt = 2 := rfl
    have q3 : (3 : Int32).toInt = 3 := rfl
    have q4 : (4 : Int32).toInt = 4 := rfl
    have q5 : (5 : Int32).toInt = 5 := rfl
    have s6 := i32_sub (Nat.toInt32 L) 6 (by omega) (by omega)
    refine rL_law hXs h.1 h.2.2.2.1 ⟨fun _ => trivial, fun hc => ?_⟩
    have hc := mt Int32.lt_iff_toInt_lt.mpr hc
    have e6 := i32_add x3 6 (by omega) (by omega)
    have hv0 : vp_in x3 L := vp_of (by omega) (by omega)
    have e1 := i32_add x3 1 (by omega) (by omega)
    have hv1 : vp_in (x3 + 1) L := vp_of (by omega) (by omega)
    have e2 := i32_add x3 2 (by omega) (by omega)
    have hv2 : vp_in (x3 + 2) L := vp_of (by omega) (by omega)
    have e3 := i32_add x3 3 (by omega) (by omega)
    have hv3 : vp_in (x3 + 3) L := vp_of (by omega) (by omega)
    have e4 := i32_add x3 4 (by omega) (by omega)
    have hv4 : vp_in (x3 + 4) L := vp_of (by omega) (by omega)
    have e5 := i32_add x3 5 (by omega) (by omega)
    have hv5 : vp_in (x3 + 5) L := vp_of (by omega) (by omega)
    refine ⟨hv0, ?_⟩
    refine ⟨fun hc1 => ?_, fun hc2 => ?_, fun hc3 => ?_, fun hc4 => ?_, fun hc5 => ?_, fun hc6 => ?_, fun hc7 => ?_, fun hc8 => ?_, fun hc9 => ?_, fun hc10 => ?_, fun hc11 => ?_, fun hc12 => ?_, fun hc13 => ?_, fun hc14 => ?_, fun hc15 => ?_, fun hc16 => ?_, fun hc17 => ?_, fun hc18 => ?_, fun hc19 => ?_, fun hc20 => ?_, fun hc21 => ?_, fun hc22 => ?_, fun hc23 => ?_, fun hc24 => ?_, fun hc25 => ?_, fun hc26 => ?_, fun hc27 => ?_, fun hc28 => ?_, fun hc29 => ?_, fun hc30 => ?_, fun hc31 => ?_, fun hc32 => ?_, fun hc33 => ?_, fun hc34 => ?_, fun hc35 => ?_, fun hc36 => ?_, fun hc37 => ?_, fun hc38 => ?_, fun hc39 => ?_, fun hc40 => ?_, fun hc41 => ?_, fun hc42 => ?_, fun hc43 => ?_, fun hc44 => ?_, fun hc45 => ?_, fun hc46 => ?_, fun hc47 => ?_, fun hc48 => ?_⟩
    · skip
      have hr49 := hr
      have hs50 := hrs
      have hj51 := hrj
      exact ih Z I J rc rs (x3 + 6) h hr49 hs50 hj51 (by omega) (by omega) (by omega) (by omega)
    · skip
      refine ⟨hv1, ?_⟩
      refine ⟨hv2, ?_⟩
      refine ⟨hv3, ?_⟩
      refine ⟨0, 0, rc - 100, rs - 2100, by omega, by omega, ?_⟩
      refine qX11_row h (fun v54 Z5 I5 J5 hS52 hp53 nx55 hx56 hj57 => ⟨v54, rfl, hS52.1, hS52.2.2.2.1, ?_⟩)
      refine ⟨hv1, ?_⟩
      refine ⟨hv2, ?_⟩
      refine ⟨hv3, ?_⟩
      refine sfX12_row hS52.2.2.2.1 hS52.2.2.2.2.1 (fun v10 I9 J9 hW59 hF60 hp58 => ?_)
      have h61 := IV_m hS52 hW59 hF60 (by intro a k h; omega)
      have nx62 : NX Z5 I5 Z5 I9 := NX_fr hF60 (by omega) (by omega) (by omega)
      have hr63 := RV_keep hr (NX.tr nx55 nx62)
      have hs64 := RS_row h hrs hx56 hF60 hp58
      have hj65 := RJ_row hrj (fun i hi => hx56.1 _ _ (by omega) (by have := h.2.2.2.2.2.1; omega)) hj57 hF60 hp58
      exact ih Z5 I9 J9 (rc - 100) (rs - 2100) (x3 + 6) h61 hr63 hs64 hj65 (by omega) (by omega) (by omega) (by omega)
    · skip
      refine ⟨hv1, ?_⟩
      refine ⟨hv2, ?_⟩
      refine ⟨hv3, ?_⟩
      refine ⟨hv4, ?_⟩
      refine sfX11_set h.1 h.2.2.1 (fun v16 I15 J15 hW67 hF68 hp66 => ?_)
      have h69 := IV_x h hW67 hF68 (by intro a k h; omega)
      have nx70 : NX Z I Z I15 := NX_fr hF68 (by omega) (by omega) (by omega)
      have ns71 : NS Z I Z I15 := NS_fr hF68 (by intro a k h; omega)
      refine ⟨hv1, ?_⟩
      refine ⟨hv2, ?_⟩
      refine ⟨hv3, ?_⟩
      refine ⟨hv4, ?_⟩
      refine sfX12_set h69.2.2.2.1 h69.2.2.2.2.1 (fun v22 I21 J21 hW73 hF74 hp72 => ?_)
      have h75 := IV_m h69 hW73 hF74 (by intro a k h; omega)
      have nx76 : NX Z I15 Z I21 := NX_fr hF74 (by omega) (by omega) (by omega)
      have ns77 : NS Z I15 Z I21 := NS_fr hF74 (by intro a k h; omega)
      have hr78 := RV_keep hr (NX.tr nx70 nx76)
      have hs79 := RS_keep hrs (NS.tr ns71 ns77)
      have hj80 := RJ_set hrs hrj ns71 (NS.tr ns71 ns77) hp66 hp72
      exact ih Z I21 J21 rc rs (x3 + 6) h75 hr78 hs79 hj80 (by omega) (by omega) (by omega) (by omega)
    · skip
      refine ⟨hv1, ?_⟩
      refine ⟨hv2, ?_⟩
      refine ⟨hv3, ?_⟩
      refine ⟨hv4, ?_⟩
      refine ⟨hv5, ?_⟩
      refine sfX11_copy h.1 h.2.2.1 (fun v29 I28 J28 hW82 hF83 hp81 => ?_)
      have h84 := IV_x h hW82 hF83 (by intro a k h; omega)
      have nx85 : NX Z I Z I28 := NX_fr hF83 (by omega) (by omega) (by omega)
      have ns86 : NS Z I Z I28 := NS_fr hF83 (by intro a k h; omega)
      refine ⟨hv1, ?_⟩
      refine ⟨hv2, ?_⟩
      refine ⟨hv3, ?_⟩
      refine ⟨hv4, ?_⟩
      refine ⟨hv5, ?_⟩
      refine sfX12_copy h84.2.2.2.1 h84.2.2.2.2.1 (fun v36 I35 J35 hW88 hF89 hp87 => ?_)
      have h90 := IV_m h84 hW88 hF89 (by intro a k h; omega)
      have nx91 : NX Z I28 Z I35 := NX_fr hF89 (by omega) (by omega) (by omega)
      have ns92 : NS Z I28 Z I35 := NS_fr hF89 (by intro a k h; omega)
      have hr93 := RV_keep hr (NX.tr nx85 nx91)
      have hs94 := RS_keep hrs (NS.tr ns86 ns92)
      have hj95 := RJ_copy h.2.2.2.2.1 hrs hrj ns86 (NS.tr ns86 ns92) hp81 hp87
      exact ih Z I35 J35 rc rs (x3 + 6) h90 hr93 hs94 hj95 (by omega) (by omega) (by omega) (by omega)
    · skip
      refine ⟨hv1, ?_⟩
      refine ⟨hv2, ?_⟩
      refine sfX11_element h.1 h.2.2.1 (fun v40  hp96 => ?_)
      have nx97 : NX Z I Z I := NX.rf
      have ns98 : NS Z I Z I := NS.rf
      refine ⟨hv1, ?_⟩
      refine ⟨hv2, ?_⟩
      refine sfX12_element h.2.2.2.1 h.2.2.2.2.1 (fun v44  hp99 => ?_)
      have nx100 : NX Z I Z I := NX.rf
      have ns101 : NS Z I Z I := NS.rf
      have hr102 := RV_keep hr (NX.tr nx97 nx100)
      have hs103 := RS_keep hrs (NS.tr ns98 ns101)
      have hj104 := RJ_keep hrj (NS.tr ns98 ns101) NJ.rf
      exact ih Z I J rc rs (x3 + 6) h hr102 hs103 hj104 (by omega) (by omega) (by omega) (by omega)
    · skip
      refine ⟨hv1, ?_⟩
      refine sfX11_holds hG h.1 h.2.1 h.2.2.1 (fun v47  hp105 => ?_)
      have nx106 : NX Z I Z I := NX.rf
      have ns107 : NS Z I Z I := NS.rf
      refine ⟨hv1, ?_⟩
      refine sfX12_holds h.2.2.2.1 h.2.2.2.2.1 (fun v50  hp108 => ?_)
      have nx109 : NX Z I Z I := NX.rf
      have ns110 : NS Z I Z I := NS.rf
      have hr111 := RV_keep hr (NX.tr nx106 nx109)
      have hs112 := RS_keep hrs (NS.tr ns107 ns110)
      have hj113 := RJ_keep hrj (NS.tr ns107 ns110) NJ.rf
      exact ih Z I J rc rs (x3 + 6) h hr111 hs112 hj113 (by omega) (by omega) (by omega) (by omega)
    · skip
      refine ⟨hv1, ?_⟩
      refine ⟨hv2, ?_⟩
      refine ⟨hv3, ?_⟩
      refine ⟨1, 1, rc - 100, rs - 2100, by omega, by omega, ?_⟩
      refine qX11_coachman h (fun v116 Z54 I54 J54 hS114 hp115 nx117 hx118 hj119 => ⟨v116, rfl, hS114.1, hS114.2.2.2.1, ?_⟩)
      refine ⟨hv1, ?_⟩
      refine ⟨hv2, ?_⟩
      refine ⟨hv3, ?_⟩
      refine sfX12_coachman hS114.2.2.2.1 hS114.2.2.2.2.1 (fun v59 I58 hW121 hF122 hp120 => ?_)
      have h123 := IV_m hS114 hW121 hF122 (by intro a k h; omega)
      have nx124 : NX Z54 I54 Z54 I58 := NX_fr hF122 (by omega) (by omega) (by omega)
      have hr125 := RV_keep hr (NX.tr nx117 nx124)
      have hs126 := RS_man h hrs hx118 hF122 hp120
      rw [hj119]
      have hj127 := RJ_man hrj (fun i hi => hx118.1 _ _ (by omega) (by have := h.2.2.2.2.2.1; omega)) hF122 hp120
      exact ih Z54 I58 J (rc - 100) (rs - 2100) (x3 + 6) h123 hr125 hs126 hj127 (by omega) (by omega) (by omega) (by omega)
    · skip
      refine ⟨hv1, ?_⟩
      refine ⟨hv2, ?_⟩
      refine sfX11_says hG h.1 h.2.1 h.2.2.1 (fun v63 I62 hW129 hF130 => ?_)
      have h131 := IV_x h hW129 hF130 (by intro a k h; omega)
      have nx132 : NX Z I Z I62 := NX_fr hF130 (by omega) (by omega) (by omega)
      have ns133 : NS Z I Z I62 := NS_fr hF130 (by intro a k h; omega)
      refine ⟨hv1, ?_⟩
      refine ⟨hv2, ?_⟩
      refine sfX12_says h131.2.2.2.1 h131.2.2.2.2.1 (fun v67 I66 hW135 hF136 => ?_)
      have h137 := IV_m h131 hW135 hF136 (by intro a k h; omega)
      have nx138 : NX Z I62 Z I66 := NX_fr hF136 (by omega) (by omega) (by omega)
      have ns139 : NS Z I62 Z I66 := NS_fr hF136 (by intro a k h; omega)
      have hr140 := RV_keep hr (NX.tr nx132 nx138)
      have hs141 := RS_keep hrs (NS.tr ns133 ns139)
      have hj142 := RJ_keep hrj (NS.tr ns133 ns139) NJ.rf
      exact ih Z I66 J rc rs (x3 + 6) h137 hr140 hs141 hj142 (by omega) (by omega) (by omega) (by omega)
    · skip
      refine ⟨hv1, ?_⟩
      refine ⟨hv2, ?_⟩
      refine sfX11_person h.1 h.2.2.1 (fun v71 I70 hW144 hF145 => ?_)
      have h146 := IV_x h hW144 hF145 (by intro a k h; omega)
      have nx147 : NX Z I Z I70 := NX_fr hF145 (by omega) (by omega) (by omega)
      have ns148 : NS Z I Z I70 := NS_fr hF145 (by intro a k h; omega)
      refine ⟨hv1, ?_⟩
      refine ⟨hv2, ?_⟩
      refine sfX12_person h146.2.2.2.1 h146.2.2.2.2.1 (fun v75 I74 hW150 hF151 => ?_)
      have h152 := IV_m h146 hW150 hF151 (by intro a k h; omega)
      have nx153 : NX Z I70 Z I74 := NX_fr hF151 (by omega) (by omega) (by omega)
      have ns154 : NS Z I70 Z I74 := NS_fr hF151 (by intro a k h; omega)
      have hr155 := RV_keep hr (NX.tr nx147 nx153)
      have hs156 := RS_keep hrs (NS.tr ns148 ns154)
      have hj157 := RJ_keep hrj (NS.tr ns148 ns154) NJ.rf
      exact ih Z I74 J rc rs (x3 + 6) h152 hr155 hs156 hj157 (by omega) (by omega) (by omega) (by omega)
    · skip
      refine ⟨hv1, ?_⟩
      refine ⟨hv2, ?_⟩
      refine ⟨hv3, ?_⟩
      refine sfX11_change h.1 h.2.2.1 (fun v80 I79 hW159 hF160 => ?_)
      have h161 := IV_x h hW159 hF160 (by intro a k h; omega)
      have nx162 : NX Z I Z I79 := NX_fr hF160 (by omega) (by omega) (by omega)
      have ns163 : NS Z I Z I79 := NS_fr hF160 (by intro a k h; omega)
      refine ⟨hv1, ?_⟩
      refine ⟨hv2, ?_⟩
      refine ⟨hv3, ?_⟩
      refine sfX12_change h161.2.2.2.1 h161.2.2.2.2.1 (fun v85 I84 hW165 hF166 => ?_)
      have h167 := IV_m h161 hW165 hF166 (by intro a k h; omega)
      have nx168 : NX Z I79 Z I84 := NX_fr hF166 (by omega) (by omega) (by omega)
      have ns169 : NS Z I79 Z I84 := NS_fr hF166 (by intro a k h; omega)
      have hr170 := RV_keep hr (NX.tr nx162 nx168)
      have hs171 := RS_keep hrs (NS.tr ns163 ns169)
      have hj172 := RJ_keep hrj (NS.tr ns163 ns169) NJ.rf
      exact ih Z I84 J rc rs (x3 + 6) h167 hr170 hs171 hj172 (by omega) (by omega) (by omega) (by omega)
    · skip
      refine ⟨hv1, ?_⟩
      refine ⟨hv2, ?_⟩
      refine ⟨hv3, ?_⟩
      refine sfX11_know h.1 h.2.2.1 (fun v90 I89 hW174 hF175 => ?_)
      have h176 := IV_x h hW174 hF175 (by intro a k h; omega)
      have nx177 : NX Z I Z I89 := NX_fr hF175 (by omega) (by omega) (by omega)
      have ns178 : NS Z I Z I89 := NS_fr hF175 (by intro a k h; omega)
      refine ⟨hv1, ?_⟩
      refine ⟨hv2, ?_⟩
      refine ⟨hv3, ?_⟩
      refine sfX12_know h176.2.2.2.1 h176.2.2.2.2.1 (fun v95 I94 hW180 hF181 => ?_)
      have h182 := IV_m h176 hW180 hF181 (by intro a k h; omega)
      have nx183 : NX Z I89 Z I94 := NX_fr hF181 (by omega) (by omega) (by omega)
      have ns184 : NS Z I89 Z I94 := NS_fr hF181 (by intro a k h; omega)
      have hr185 := RV_keep hr (NX.tr nx177 nx183)
      have hs186 := RS_keep hrs (NS.tr ns178 ns184)
      have hj187 := RJ_keep hrj (NS.tr ns178 ns184) NJ.rf
      exact ih Z I94 J rc rs (x3 + 6) h182 hr185 hs186 hj187 (by omega) (by omega) (by omega) (by omega)
    · skip
      refine ⟨hv1, ?_⟩
      refine ⟨hv2, ?_⟩
      refine sfX11_ask h.1 h.2.2.1 (fun v99 I98 hW189 hF190 => ?_)
      have h191 := IV_x h hW189 hF190 (by intro a k h; omega)
      have nx192 : NX Z I Z I98 := NX_fr hF190 (by omega) (by omega) (by omega)
      have ns193 : NS Z I Z I98 := NS_fr hF190 (by intro a k h; omega)
      refine ⟨hv1, ?_⟩
      refine ⟨hv2, ?_⟩
      refine sfX12_ask h191.2.2.2.1 h191.2.2.2.2.1 (fun v103 I102 hW195 hF196 => ?_)
      have h197 := IV_m h191 hW195 hF196 (by intro a k h; omega)
      have nx198 : NX Z I98 Z I102 := NX_fr hF196 (by omega) (by omega) (by omega)
      have ns199 : NS Z I98 Z I102 := NS_fr hF196 (by intro a k h; omega)
      have hr200 := RV_keep hr (NX.tr nx192 nx198)
      have hs201 := RS_keep hrs (NS.tr ns193 ns199)
      have hj202 := RJ_keep hrj (NS.tr ns193 ns199) NJ.rf
      exact ih Z I102 J rc rs (x3 + 6) h197 hr200 hs201 hj202 (by omega) (by omega) (by omega) (by omega)
    · skip
      refine ⟨hv1, ?_⟩
      refine sfX11_feed h.1 h.2.2.1 (fun v106 I105 hW204 hF205 hp203 => ?_)
      have h206 := IV_x h hW204 hF205 (by intro a k h; omega)
      have e08 := congrArg Int32.toInt (hF205 0 8 (by omega))
      have e458 := congrArg Int32.toInt (hF205 45 8 (by omega))
      have ns207 : NS Z I Z I105 := NS_fr hF205 (by intro a k h; omega)
      refine ⟨hv1, ?_⟩
      refine sfX12_feed h206.2.2.2.1 h206.2.2.2.2.1 (fun v109 I108 hW209 hF210 hp208 => ?_)
      have h211 := IV_m h206 hW209 hF210 (by intro a k h; omega)
      have m25 := congrArg Int32.toInt (hF210 25 1 (by omega))
      have m08 := congrArg Int32.toInt (hF210 0 8 (by omega))
      have ns212 : NS Z I105 Z I108 := NS_fr hF210 (by intro a k h; omega)
      have hr213 : RV Z I108 := ⟨by omega, by rw [show (I108 0 8).toInt = (I 0 8).toInt by omega]; exact hr.2⟩
      have hs214 := RS_keep hrs (NS.tr ns207 ns212)
      have hj215 := RJ_keep hrj (NS.tr ns207 ns212) NJ.rf
      exact ih Z I108 J rc rs (x3 + 6) h211 hr213 hs214 hj215 (by omega) (by omega) (by omega) (by omega)
    · skip
      refine sfX11_wipe h.1 h.2.2.1 (fun v111 I110 hW217 hF218 hp216 => ?_)
      have h219 := IV_x h hW217 hF218 (by intro a k h; omega)
      have e08 := congrArg Int32.toInt (hF218 0 8 (by omega))
      have e458 := congrArg Int32.toInt (hF218 45 8 (by omega))
      have ns220 : NS Z I Z I110 := NS_fr hF218 (by intro a k h; omega)
      refine sfX12_wipe h219.2.2.2.1 h219.2.2.2.2.1 (fun v113 I112 hW222 hF223 hp221 => ?_)
      have h224 := IV_m h219 hW222 hF223 (by intro a k h; omega)
      have m25 := congrArg Int32.toInt (hF223 25 1 (by omega))
      have m08 := congrArg Int32.toInt (hF223 0 8 (by omega))
      have ns225 : NS Z I110 Z I112 := NS_fr hF223 (by intro a k h; omega)
      have hr226 : RV Z I112 := ⟨by omega, by rw [show (I112 0 8).toInt = (I 0 8).toInt by omega]; exact hr.2⟩
      have hs227 := RS_keep hrs (NS.tr ns220 ns225)
      have hj228 := RJ_keep hrj (NS.tr ns220 ns225) NJ.rf
      exact ih Z I112 J rc rs (x3 + 6) h224 hr226 hs227 hj228 (by omega) (by omega) (by omega) (by omega)
    · skip
      refine sfX11_town hG h.1 h.2.2.1 (fun v115 I114 hW230 hF231 hp229 => ?_)
      have h232 := IV_x h hW230 hF231 (by intro a k h; omega)
      have e08 := congrArg Int32.toInt (hF231 0 8 (by omega))
      have e458 := congrArg Int32.toInt (hF231 45 8 (by omega))
      have ns233 : NS Z I Z I114 := NS_fr hF231 (by intro a k h; omega)
      have hfc := fC_le Z 45
      refine ⟨(fC Z 45), (fS Z 45), rc - 100, rs - 2100, by omega, by omega, ?_⟩
      refine qX12_town hG h232.2.2.2 (fun v236 Z116 I116 J116 hS234 hp235 => ⟨v236, rfl, (IV_s h232 hS234).1, hS234.1.1, ?_⟩)
      have h238 := IV_s h232 hS234
      have hbz := h232.2.2.2.2.2.1
      have m25 := congrArg Int32.toInt (hS234.2.2.2.2.1 25 1 (by omega))
      have m08 := congrArg Int32.toInt (hS234.2.2.2.2.1 0 8 (by omega))
      have eZ := hS234.2.2.2.1 45 20 (by omega) (by omega)
      have ns239 := NS_st h232 hS234
      have nj240 := NJ_st h232 hS234
      have hr241 : RV Z116 I116 := ⟨by omega, by rw [show (I116 0 8).toInt = (I 0 8).toInt by omega, eZ]; exact hr.2⟩
      have hs242 := RS_keep hrs (NS.tr ns233 ns239)
      have hj243 := RJ_keep hrj (NS.tr ns233 ns239) nj240
      exact ih Z116 I116 J116 (rc - 100) (rs - 2100) (x3 + 6) h238 hr241 hs242 hj243 (by omega) (by omega) (by omega) (by omega)
    · skip
      refine ⟨hv1, ?_⟩
      refine ⟨hv2, ?_⟩
      refine sfX11_personOf h.1 h.2.2.1 (fun v120 I119 hW245 hF246 => ?_)
      have h247 := IV_x h hW245 hF246 (by intro a k h; omega)
      have nx248 : NX Z I Z I119 := NX_fr hF246 (by omega) (by omega) (by omega)
      have ns249 : NS Z I Z I119 := NS_fr hF246 (by intro a k h; omega)
      refine ⟨hv1, ?_⟩
      refine ⟨hv2, ?_⟩
      refine sfX12_personOf h247.2.2.2.1 h247.2.2.2.2.1 (fun v124 I123 hW251 hF252 => ?_)
      have h253 := IV_m h247 hW251 hF252 (by intro a k h; omega)
      have nx254 : NX Z I119 Z I123 := NX_fr hF252 (by omega) (by omega) (by omega)
      have ns255 : NS Z I119 Z I123 := NS_fr hF252 (by intro a k h; omega)
      have hr256 := RV_keep hr (NX.tr nx248 nx254)
      have hs257 := RS_keep hrs (NS.tr ns249 ns255)
      have hj258 := RJ_keep hrj (NS.tr ns249 ns255) NJ.rf
      exact ih Z I123 J rc rs (x3 + 6) h253 hr256 hs257 hj258 (by omega) (by omega) (by omega) (by omega)
    · skip
      refine ⟨hv1, ?_⟩
      refine ⟨hv2, ?_⟩
      refine sfX11_knownOf h.1 h.2.2.1 (fun v128 I127 hW260 hF261 => ?_)
      have h262 := IV_x h hW260 hF261 (by intro a k h; omega)
      have nx263 : NX Z I Z I127 := NX_fr hF261 (by omega) (by omega) (by omega)
      have ns264 : NS Z I Z I127 := NS_fr hF261 (by intro a k h; omega)
      refine ⟨hv1, ?_⟩
      refine ⟨hv2, ?_⟩
      refine sfX12_knownOf h262.2.2.2.1 h262.2.2.2.2.1 (fun v132 I131 hW266 hF267 => ?_)
      have h268 := IV_m h262 hW266 hF267 (by intro a k h; omega)
      have nx269 : NX Z I127 Z I131 := NX_fr hF267 (by omega) (by omega) (by omega)
      have ns270 : NS Z I127 Z I131 := NS_fr hF267 (by intro a k h; omega)
      have hr271 := RV_keep hr (NX.tr nx263 nx269)
      have hs272 := RS_keep hrs (NS.tr ns264 ns270)
      have hj273 := RJ_keep hrj (NS.tr ns264 ns270) NJ.rf
      exact ih Z I131 J rc rs (x3 + 6) h268 hr271 hs272 hj273 (by omega) (by omega) (by omega) (by omega)
    · skip
      refine ⟨hv1, ?_⟩
      refine sfX11_isGroup h.1 h.2.2.1 (fun v135 I134 hW275 hF276 => ?_)
      have h277 := IV_x h hW275 hF276 (by intro a k h; omega)
      have nx278 : NX Z I Z I134 := NX_fr hF276 (by omega) (by omega) (by omega)
      have ns279 : NS Z I Z I134 := NS_fr hF276 (by intro a k h; omega)
      refine ⟨hv1, ?_⟩
      refine sfX12_isGroup h277.2.2.2.1 h277.2.2.2.2.1 (fun v138 I137 hW281 hF282 => ?_)
      have h283 := IV_m h277 hW281 hF282 (by intro a k h; omega)
      have nx284 : NX Z I134 Z I137 := NX_fr hF282 (by omega) (by omega) (by omega)
      have ns285 : NS Z I134 Z I137 := NS_fr hF282 (by intro a k h; omega)
      have hr286 := RV_keep hr (NX.tr nx278 nx284)
      have hs287 := RS_keep hrs (NS.tr ns279 ns285)
      have hj288 := RJ_keep hrj (NS.tr ns279 ns285) NJ.rf
      exact ih Z I137 J rc rs (x3 + 6) h283 hr286 hs287 hj288 (by omega) (by omega) (by omega) (by omega)
    · skip
      refine ⟨hv1, ?_⟩
      refine sfX11_groups h.1 h.2.2.1 (fun v141 I140 hW290 hF291 => ?_)
      have h292 := IV_x h hW290 hF291 (by intro a k h; omega)
      have nx293 : NX Z I Z I140 := NX_fr hF291 (by omega) (by omega) (by omega)
      have ns294 : NS Z I Z I140 := NS_fr hF291 (by intro a k h; omega)
      refine ⟨hv1, ?_⟩
      refine sfX12_groups h292.2.2.2.1 h292.2.2.2.2.1 (fun v144 I143 hW296 hF297 => ?_)
      have h298 := IV_m h292 hW296 hF297 (by intro a k h; omega)
      have nx299 : NX Z I140 Z I143 := NX_fr hF297 (by omega) (by omega) (by omega)
      have ns300 : NS Z I140 Z I143 := NS_fr hF297 (by intro a k h; omega)
      have hr301 := RV_keep hr (NX.tr nx293 nx299)
      have hs302 := RS_keep hrs (NS.tr ns294 ns300)
      have hj303 := RJ_keep hrj (NS.tr ns294 ns300) NJ.rf
      exact ih Z I143 J rc rs (x3 + 6) h298 hr301 hs302 hj303 (by omega) (by omega) (by omega) (by omega)
    · skip
      refine ⟨hv1, ?_⟩
      refine sfX11_firstOf h.1 h.2.2.1 (fun v147 I146 hW305 hF306 => ?_)
      have h307 := IV_x h hW305 hF306 (by intro a k h; omega)
      have nx308 : NX Z I Z I146 := NX_fr hF306 (by omega) (by omega) (by omega)
      have ns309 : NS Z I Z I146 := NS_fr hF306 (by intro a k h; omega)
      refine ⟨hv1, ?_⟩
      refine sfX12_firstOf h307.2.2.2.1 h307.2.2.2.2.1 (fun v150 I149 hW311 hF312 => ?_)
      have h313 := IV_m h307 hW311 hF312 (by intro a k h; omega)
      have nx314 : NX Z I146 Z I149 := NX_fr hF312 (by omega) (by omega) (by omega)
      have ns315 : NS Z I146 Z I149 := NS_fr hF312 (by intro a k h; omega)
      have hr316 := RV_keep hr (NX.tr nx308 nx314)
      have hs317 := RS_keep hrs (NS.tr ns309 ns315)
      have hj318 := RJ_keep hrj (NS.tr ns309 ns315) NJ.rf
      exact ih Z I149 J rc rs (x3 + 6) h313 hr316 hs317 hj318 (by omega) (by omega) (by omega) (by omega)
    · skip
      refine ⟨hv1, ?_⟩
      refine sfX11_most h.1 h.2.2.1 (fun v153 I152 hW320 hF321 => ?_)
      have h322 := IV_x h hW320 hF321 (by intro a k h; omega)
      have nx323 : NX Z I Z I152 := NX_fr hF321 (by omega) (by omega) (by omega)
      have ns324 : NS Z I Z I152 := NS_fr hF321 (by intro a k h; omega)
      refine ⟨hv1, ?_⟩
      refine sfX12_most h322.2.2.2.1 h322.2.2.2.2.1 (fun v156 I155 hW326 hF327 => ?_)
      have h328 := IV_m h322 hW326 hF327 (by intro a k h; omega)
      have nx329 : NX Z I152 Z I155 := NX_fr hF327 (by omega) (by omega) (by omega)
      have ns330 : NS Z I152 Z I155 := NS_fr hF327 (by intro a k h; omega)
      have hr331 := RV_keep hr (NX.tr nx323 nx329)
      have hs332 := RS_keep hrs (NS.tr ns324 ns330)
      have hj333 := RJ_keep hrj (NS.tr ns324 ns330) NJ.rf
      exact ih Z I155 J rc rs (x3 + 6) h328 hr331 hs332 hj333 (by omega) (by omega) (by omega) (by omega)
    · skip
      refine ⟨hv1, ?_⟩
      refine ⟨hv2, ?_⟩
      refine sfX11_mostOf h.1 h.2.2.1 (fun v160 I159 hW335 hF336 => ?_)
      have h337 := IV_x h hW335 hF336 (by intro a k h; omega)
      have nx338 : NX Z I Z I159 := NX_fr hF336 (by omega) (by omega) (by omega)
      have ns339 : NS Z I Z I159 := NS_fr hF336 (by intro a k h; omega)
      refine ⟨hv1, ?_⟩
      refine ⟨hv2, ?_⟩
      refine sfX12_mostOf h337.2.2.2.1 h337.2.2.2.2.1 (fun v164 I163 hW341 hF342 => ?_)
      have h343 := IV_m h337 hW341 hF342 (by intro a k h; omega)
      have nx344 : NX Z I159 Z I163 := NX_fr hF342 (by omega) (by omega) (by omega)
      have ns345 : NS Z I159 Z I163 := NS_fr hF342 (by intro a k h; omega)
      have hr346 := RV_keep hr (NX.tr nx338 nx344)
      have hs347 := RS_keep hrs (NS.tr ns339 ns345)
      have hj348 := RJ_keep hrj (NS.tr ns339 ns345) NJ.rf
      exact ih Z I163 J rc rs (x3 + 6) h343 hr346 hs347 hj348 (by omega) (by omega) (by omega) (by omega)
    · skip
      refine ⟨hv1, ?_⟩
      refine ⟨hv2, ?_⟩
      refine ⟨hv3, ?_⟩
      refine sfX11_sends h.1 h.2.1 h.2.2.1 (fun v169 I168 hW350 hF351 => ?_)
      have h352 := IV_x h hW350 hF351 (by intro a k h; omega)
      have nx353 : NX Z I Z I168 := NX_fr hF351 (by omega) (by omega) (by omega)
      have ns354 : NS Z I Z I168 := NS_fr hF351 (by intro a k h; omega)
      refine ⟨hv1, ?_⟩
      refine ⟨hv2, ?_⟩
      refine ⟨hv3, ?_⟩
      refine sfX12_sends h352.2.2.2.1 h352.2.2.2.2.1 (fun v174 I173 hW356 hF357 => ?_)
      have h358 := IV_m h352 hW356 hF357 (by intro a k h; omega)
      have nx359 : NX Z I168 Z I173 := NX_fr hF357 (by omega) (by omega) (by omega)
      have ns360 : NS Z I168 Z I173 := NS_fr hF357 (by intro a k h; omega)
      have hr361 := RV_keep hr (NX.tr nx353 nx359)
      have hs362 := RS_keep hrs (NS.tr ns354 ns360)
      have hj363 := RJ_keep hrj (NS.tr ns354 ns360) NJ.rf
      exact ih Z I173 J rc rs (x3 + 6) h358 hr361 hs362 hj363 (by omega) (by omega) (by omega) (by omega)
    · skip
      refine ⟨hv1, ?_⟩
      refine sfX11_run h.1 h.2.1 h.2.2.1 (fun v177 I176 hW365 hF366 => ?_)
      have h367 := IV_x h hW365 hF366 (by intro a k h; omega)
      have nx368 : NX Z I Z I176 := NX_fr hF366 (by omega) (by omega) (by omega)
      have ns369 : NS Z I Z I176 := NS_fr hF366 (by intro a k h; omega)
      refine ⟨hv1, ?_⟩
      refine sfX12_run h367.2.2.2.1 h367.2.2.2.2.1 (fun v180 I179 hW371 hF372 => ?_)
      have h373 := IV_m h367 hW371 hF372 (by intro a k h; omega)
      have nx374 : NX Z I176 Z I179 := NX_fr hF372 (by omega) (by omega) (by omega)
      have ns375 : NS Z I176 Z I179 := NS_fr hF372 (by intro a k h; omega)
      have hr376 := RV_keep hr (NX.tr nx368 nx374)
      have hs377 := RS_keep hrs (NS.tr ns369 ns375)
      have hj378 := RJ_keep hrj (NS.tr ns369 ns375) NJ.rf
      exact ih Z I179 J rc rs (x3 + 6) h373 hr376 hs377 hj378 (by omega) (by omega) (by omega) (by omega)
    · skip
      refine ⟨hv1, ?_⟩
      refine ⟨hv2, ?_⟩
      refine sfX11_coach h.1 h.2.1 h.2.2.1 (fun v184 I183 hW380 hF381 => ?_)
      have h382 := IV_x h hW380 hF381 (by intro a k h; omega)
      have nx383 : NX Z I Z I183 := NX_fr hF381 (by omega) (by omega) (by omega)
      have ns384 : NS Z I Z I183 := NS_fr hF381 (by intro a k h; omega)
      refine ⟨hv1, ?_⟩
      refine ⟨hv2, ?_⟩
      refine sfX12_coach h382.2.2.2.1 h382.2.2.2.2.1 (fun v188 I187 hW386 hF387 => ?_)
      have h388 := IV_m h382 hW386 hF387 (by intro a k h; omega)
      have nx389 : NX Z I183 Z I187 := NX_fr hF387 (by omega) (by omega) (by omega)
      have ns390 : NS Z I183 Z I187 := NS_fr hF387 (by intro a k h; omega)
      have hr391 := RV_keep hr (NX.tr nx383 nx389)
      have hs392 := RS_keep hrs (NS.tr ns384 ns390)
      have hj393 := RJ_keep hrj (NS.tr ns384 ns390) NJ.rf
      exact ih Z I187 J rc rs (x3 + 6) h388 hr391 hs392 hj393 (by omega) (by omega) (by omega) (by omega)
    · skip
      refine ⟨hv1, ?_⟩
      refine sfX11_left h.1 h.2.1 h.2.2.1 (fun v191 I190 hW395 hF396 => ?_)
      have h397 := IV_x h hW395 hF396 (by intro a k h; omega)
      have nx398 : NX Z I Z I190 := NX_fr hF396 (by omega) (by omega) (by omega)
      have ns399 : NS Z I Z I190 := NS_fr hF396 (by intro a k h; omega)
      refine ⟨hv1, ?_⟩
      refine sfX12_left h397.2.2.2.1 h397.2.2.2.2.1 (fun v194 I193 hW401 hF402 => ?_)
      have h403 := IV_m h397 hW401 hF402 (by intro a k h; omega)
      have nx404 : NX Z I190 Z I193 := NX_fr hF402 (by omega) (by omega) (by omega)
      have ns405 : NS Z I190 Z I193 := NS_fr hF402 (by intro a k h; omega)
      have hr406 := RV_keep hr (NX.tr nx398 nx404)
      have hs407 := RS_keep hrs (NS.tr ns399 ns405)
      have hj408 := RJ_keep hrj (NS.tr ns399 ns405) NJ.rf
      exact ih Z I193 J rc rs (x3 + 6) h403 hr406 hs407 hj408 (by omega) (by omega) (by omega) (by omega)
    · skip
      refine ⟨hv1, ?_⟩
      refine ⟨hv2, ?_⟩
      refine sfX11_waits h.1 h.2.1 h.2.2.1 (fun v198 I197 hW410 hF411 => ?_)
      have h412 := IV_x h hW410 hF411 (by intro a k h; omega)
      have nx413 : NX Z I Z I197 := NX_fr hF411 (by omega) (by omega) (by omega)
      have ns414 : NS Z I Z I197 := NS_fr hF411 (by intro a k h; omega)
      refine ⟨hv1, ?_⟩
      refine ⟨hv2, ?_⟩
      refine sfX12_waits h412.2.2.2.1 h412.2.2.2.2.1 (fun v202 I201 hW416 hF417 => ?_)
      have h418 := IV_m h412 hW416 hF417 (by intro a k h; omega)
      have nx419 : NX Z I197 Z I201 := NX_fr hF417 (by omega) (by omega) (by omega)
      have ns420 : NS Z I197 Z I201 := NS_fr hF417 (by intro a k h; omega)
      have hr421 := RV_keep hr (NX.tr nx413 nx419)
      have hs422 := RS_keep hrs (NS.tr ns414 ns420)
      have hj423 := RJ_keep hrj (NS.tr ns414 ns420) NJ.rf
      exact ih Z I201 J rc rs (x3 + 6) h418 hr421 hs422 hj423 (by omega) (by omega) (by omega) (by omega)
    · skip
      refine ⟨hv1, ?_⟩
      refine sfX11_least h.1 h.2.2.1 (fun v205 I204 hW425 hF426 => ?_)
      have h427 := IV_x h hW425 hF426 (by intro a k h; omega)
      have nx428 : NX Z I Z I204 := NX_fr hF426 (by omega) (by omega) (by omega)
      have ns429 : NS Z I Z I204 := NS_fr hF426 (by intro a k h; omega)
      refine ⟨hv1, ?_⟩
      refine sfX12_least h427.2.2.2.1 h427.2.2.2.2.1 (fun v208 I207 hW431 hF432 => ?_)
      have h433 := IV_m h427 hW431 hF432 (by intro a k h; omega)
      have nx434 : NX Z I204 Z I207 := NX_fr hF432 (by omega) (by omega) (by omega)
      have ns435 : NS Z I204 Z I207 := NS_fr hF432 (by intro a k h; omega)
      have hr436 := RV_keep hr (NX.tr nx428 nx434)
      have hs437 := RS_keep hrs (NS.tr ns429 ns435)
      have hj438 := RJ_keep hrj (NS.tr ns429 ns435) NJ.rf
      exact ih Z I207 J rc rs (x3 + 6) h433 hr436 hs437 hj438 (by omega) (by omega) (by omega) (by omega)
    · skip
      refine sfX11_head h.1 h.2.1 h.2.2.1 (fun v210 I209 hW440 hF441 => ?_)
      have h442 := IV_x h hW440 hF441 (by intro a k h; omega)
      have nx443 : NX Z I Z I209 := NX_fr hF441 (by omega) (by omega) (by omega)
      have ns444 : NS Z I Z I209 := NS_fr hF441 (by intro a k h; omega)
      refine sfX12_head h442.2.2.2.1 h442.2.2.2.2.1 (fun v212 I211 hW446 hF447 => ?_)
      have h448 := IV_m h442 hW446 hF447 (by intro a k h; omega)
      have nx449 : NX Z I209 Z I211 := NX_fr hF447 (by omega) (by omega) (by omega)
      have ns450 : NS Z I209 Z I211 := NS_fr hF447 (by intro a k h; omega)
      have hr451 := RV_keep hr (NX.tr nx443 nx449)
      have hs452 := RS_keep hrs (NS.tr ns444 ns450)
      have hj453 := RJ_keep hrj (NS.tr ns444 ns450) NJ.rf
      exact ih Z I211 J rc rs (x3 + 6) h448 hr451 hs452 hj453 (by omega) (by omega) (by omega) (by omega)
    · skip
      refine ⟨hv1, ?_⟩
      refine sfX11_days h.1 h.2.1 h.2.2.1 (fun v215 I214 hW455 hF456 => ?_)
      have h457 := IV_x h hW455 hF456 (by intro a k h; omega)
      have nx458 : NX Z I Z I214 := NX_fr hF456 (by omega) (by omega) (by omega)
      have ns459 : NS Z I Z I214 := NS_fr hF456 (by intro a k h; omega)
      refine ⟨hv1, ?_⟩
      have hfc := fC_le Z 45
      refine ⟨(fC Z 45), (fS Z 45), rc - 100, rs - 2100, by omega, by omega, ?_⟩
      refine qX12_days hG h457.2.2.2 (fun v462 Z217 I217 J217 hS460 => ⟨v462, rfl, (IV_s h457 hS460).1, hS460.1.1, ?_⟩)
      have h464 := IV_s h457 hS460
      have nx465 := NX_st h457 hS460
      have ns466 := NS_st h457 hS460
      have nj467 := NJ_st h457 hS460
      have hr468 := RV_keep hr (NX.tr nx458 nx465)
      have hs469 := RS_keep hrs (NS.tr ns459 ns466)
      have hj470 := RJ_keep hrj (NS.tr ns459 ns466) nj467
      exact ih Z217 I217 J217 (rc - 100) (rs - 2100) (x3 + 6) h464 hr468 hs469 hj470 (by omega) (by omega) (by omega) (by omega)
    · skip
      refine ⟨hv1, ?_⟩
      refine sfX11_ever h.1 h.2.2.1 (fun v220 I219 hW472 hF473 => ?_)
      have h474 := IV_x h hW472 hF473 (by intro a k h; omega)
      have nx475 : NX Z I Z I219 := NX_fr hF473 (by omega) (by omega) (by omega)
      have ns476 : NS Z I Z I219 := NS_fr hF473 (by intro a k h; omega)
      refine ⟨hv1, ?_⟩
      refine ⟨1, 40, rc - 100, rs - 2100, by omega, by omega, ?_⟩
      refine qX12_ever h474.2.2.2 (fun v479 Z222 I222 J222 hS477 => ⟨v479, rfl, (IV_s h474 hS477).1, hS477.1.1, ?_⟩)
      have h481 := IV_s h474 hS477
      have nx482 := NX_st h474 hS477
      have ns483 := NS_st h474 hS477
      have nj484 := NJ_st h474 hS477
      have hr485 := RV_keep hr (NX.tr nx475 nx482)
      have hs486 := RS_keep hrs (NS.tr ns476 ns483)
      have hj487 := RJ_keep hrj (NS.tr ns476 ns483) nj484
      exact ih Z222 I222 J222 (rc - 100) (rs - 2100) (x3 + 6) h481 hr485 hs486 hj487 (by omega) (by omega) (by omega) (by omega)
    · skip
      refine sfX11_hire h.1 h.2.2.1 (fun v224 I223 hW489 hF490 => ?_)
      have h491 := IV_x h hW489 hF490 (by intro a k h; omega)
      have nx492 : NX Z I Z I223 := NX_fr hF490 (by omega) (by omega) (by omega)
      have ns493 : NS Z I Z I223 := NS_fr hF490 (by intro a k h; omega)
      have hfc := fC_le Z 45
      refine ⟨(fC Z 45), (fS Z 45), rc - 100, rs - 2100, by omega, by omega, ?_⟩
      refine qX12_hire hG h491.2.2.2 (fun v496 Z225 I225 J225 hS494 => ⟨v496, rfl, (IV_s h491 hS494).1, hS494.1.1, ?_⟩)
      have h498 := IV_s h491 hS494
      have nx499 := NX_st h491 hS494
      have ns500 := NS_st h491 hS494
      have nj501 := NJ_st h491 hS494
      have hr502 := RV_keep hr (NX.tr nx492 nx499)
      have hs503 := RS_keep hrs (NS.tr ns493 ns500)
      have hj504 := RJ_keep hrj (NS.tr ns493 ns500) nj501
      exact ih Z225 I225 J225 (rc - 100) (rs - 2100) (x3 + 6) h498 hr502 hs503 hj504 (by omega) (by omega) (by omega) (by omega)
    · skip
      refine ⟨hv1, ?_⟩
      refine sfX11_feast h.1 h.2.2.1 (fun v228 I227 hW506 hF507 => ?_)
      have h508 := IV_x h hW506 hF507 (by intro a k h; omega)
      have nx509 : NX Z I Z I227 := NX_fr hF507 (by omega) (by omega) (by omega)
      have ns510 : NS Z I Z I227 := NS_fr hF507 (by intro a k h; omega)
      refine ⟨hv1, ?_⟩
      refine ⟨40, 2026, rc - 100, rs - 2100, by omega, by omega, ?_⟩
      refine qX12_feast hG h508.2.2.2 (fun v513 Z230 I230 J230 hS511 => ⟨v513, rfl, (IV_s h508 hS511).1, hS511.1.1, ?_⟩)
      have h515 := IV_s h508 hS511
      have nx516 := NX_st h508 hS511
      have ns517 := NS_st h508 hS511
      have nj518 := NJ_st h508 hS511
      have hr519 := RV_keep hr (NX.tr nx509 nx516)
      have hs520 := RS_keep hrs (NS.tr ns510 ns517)
      have hj521 := RJ_keep hrj (NS.tr ns510 ns517) nj518
      exact ih Z230 I230 J230 (rc - 100) (rs - 2100) (x3 + 6) h515 hr519 hs520 hj521 (by omega) (by omega) (by omega) (by omega)
    · skip
      refine ⟨hv1, ?_⟩
      refine ⟨hv2, ?_⟩
      refine sfX11_closes h.1 h.2.2.1 (fun v234 I233 hW523 hF524 => ?_)
      have h525 := IV_x h hW523 hF524 (by intro a k h; omega)
      have nx526 : NX Z I Z I233 := NX_fr hF524 (by omega) (by omega) (by omega)
      have ns527 : NS Z I Z I233 := NS_fr hF524 (by intro a k h; omega)
      refine ⟨hv1, ?_⟩
      refine ⟨hv2, ?_⟩
      have hfc := fC_le Z 45
      refine ⟨(fC Z 45), (fS Z 45), rc - 100, rs - 2100, by omega, by omega, ?_⟩
      refine qX12_closes hG h525.2.2.2 (fun v530 Z237 I237 J237 hS528 => ⟨v530, rfl, (IV_s h525 hS528).1, hS528.1.1, ?_⟩)
      have h532 := IV_s h525 hS528
      have nx533 := NX_st h525 hS528
      have ns534 := NS_st h525 hS528
      have nj535 := NJ_st h525 hS528
      have hr536 := RV_keep hr (NX.tr nx526 nx533)
      have hs537 := RS_keep hrs (NS.tr ns527 ns534)
      have hj538 := RJ_keep hrj (NS.tr ns527 ns534) nj535
      exact ih Z237 I237 J237 (rc - 100) (rs - 2100) (x3 + 6) h532 hr536 hs537 hj538 (by omega) (by omega) (by omega) (by omega)
    · skip
      refine sfX11_worst h.1 h.2.2.1 (fun v239 I238 hW540 hF541 => ?_)
      have h542 := IV_x h hW540 hF541 (by intro a k h; omega)
      have nx543 : NX Z I Z I238 := NX_fr hF541 (by omega) (by omega) (by omega)
      have ns544 : NS Z I Z I238 := NS_fr hF541 (by intro a k h; omega)
      have hfc := fC_le Z 45
      refine ⟨(fC Z 45), (fS Z 45), rc - 100, rs - 2100, by omega, by omega, ?_⟩
      refine qX12_worst hG h542.2.2.2 (fun v547 Z240 I240 J240 hS545 => ⟨v547, rfl, (IV_s h542 hS545).1, hS545.1.1, ?_⟩)
      have h549 := IV_s h542 hS545
      have nx550 := NX_st h542 hS545
      have ns551 := NS_st h542 hS545
      have nj552 := NJ_st h542 hS545
      have hr553 := RV_keep hr (NX.tr nx543 nx550)
      have hs554 := RS_keep hrs (NS.tr ns544 ns551)
      have hj555 := RJ_keep hrj (NS.tr ns544 ns551) nj552
      exact ih Z240 I240 J240 (rc - 100) (rs - 2100) (x3 + 6) h549 hr553 hs554 hj555 (by omega) (by omega) (by omega) (by omega)
    · skip
      refine ⟨hv1, ?_⟩
      refine sfX11_fits h.1 h.2.2.1 (fun v243 I242 hW557 hF558 => ?_)
      have h559 := IV_x h hW557 hF558 (by intro a k h; omega)
      have nx560 : NX Z I Z I242 := NX_fr hF558 (by omega) (by omega) (by omega)
      have ns561 : NS Z I Z I242 := NS_fr hF558 (by intro a k h; omega)
      refine ⟨hv1, ?_⟩
      have hfc := fC_le Z 45
      refine ⟨(fC Z 45), (fS Z 45), rc - 100, rs - 2100, by omega, by omega, ?_⟩
      refine qX12_fits hG h559.2.2.2 (fun v564 Z245 I245 J245 hS562 => ⟨v564, rfl, (IV_s h559 hS562).1, hS562.1.1, ?_⟩)
      have h566 := IV_s h559 hS562
      have nx567 := NX_st h559 hS562
      have ns568 := NS_st h559 hS562
      have nj569 := NJ_st h559 hS562
      have hr570 := RV_keep hr (NX.tr nx560 nx567)
      have hs571 := RS_keep hrs (NS.tr ns561 ns568)
      have hj572 := RJ_keep hrj (NS.tr ns561 ns568) nj569
      exact ih Z245 I245 J245 (rc - 100) (rs - 2100) (x3 + 6) h566 hr570 hs571 hj572 (by omega) (by omega) (by omega) (by omega)
    · skip
      refine ⟨hv1, ?_⟩
      refine sfX11_sure h.1 h.2.2.1 (fun v248 I247 hW574 hF575 => ?_)
      have h576 := IV_x h hW574 hF575 (by intro a k h; omega)
      have nx577 : NX Z I Z I247 := NX_fr hF575 (by omega) (by omega) (by omega)
      have ns578 : NS Z I Z I247 := NS_fr hF575 (by intro a k h; omega)
      refine ⟨hv1, ?_⟩
      have hfc := fC_le Z 45
      refine ⟨(fC Z 45), (fS Z 45), rc - 100, rs - 2100, by omega, by omega, ?_⟩
      refine qX12_sure hG h576.2.2.2 (fun v581 Z250 I250 J250 hS579 => ⟨v581, rfl, (IV_s h576 hS579).1, hS579.1.1, ?_⟩)
      have h583 := IV_s h576 hS579
      have nx584 := NX_st h576 hS579
      have ns585 := NS_st h576 hS579
      have nj586 := NJ_st h576 hS579
      have hr587 := RV_keep hr (NX.tr nx577 nx584)
      have hs588 := RS_keep hrs (NS.tr ns578 ns585)
      have hj589 := RJ_keep hrj (NS.tr ns578 ns585) nj586
      exact ih Z250 I250 J250 (rc - 100) (rs - 2100) (x3 + 6) h583 hr587 hs588 hj589 (by omega) (by omega) (by omega) (by omega)
    · skip
      refine ⟨hv1, ?_⟩
      refine ⟨hv2, ?_⟩
      refine sfX11_judge h.1 h.2.2.1 (fun v254 I253 hW591 hF592 => ?_)
      have h593 := IV_x h hW591 hF592 (by intro a k h; omega)
      have nx594 : NX Z I Z I253 := NX_fr hF592 (by omega) (by omega) (by omega)
      have ns595 : NS Z I Z I253 := NS_fr hF592 (by intro a k h; omega)
      refine ⟨hv1, ?_⟩
      refine ⟨hv2, ?_⟩
      refine sfX12_judge h593.2.2.2.1 h593.2.2.2.2.1 (fun v258 I257 hW597 hF598 => ?_)
      have h599 := IV_m h593 hW597 hF598 (by intro a k h; omega)
      have nx600 : NX Z I253 Z I257 := NX_fr hF598 (by omega) (by omega) (by omega)
      have ns601 : NS Z I253 Z I257 := NS_fr hF598 (by intro a k h; omega)
      have hr602 := RV_keep hr (NX.tr nx594 nx600)
      have hs603 := RS_keep hrs (NS.tr ns595 ns601)
      have hj604 := RJ_keep hrj (NS.tr ns595 ns601) NJ.rf
      exact ih Z I257 J rc rs (x3 + 6) h599 hr602 hs603 hj604 (by omega) (by omega) (by omega) (by omega)
    · skip
      refine ⟨hv1, ?_⟩
      refine ⟨hv2, ?_⟩
      refine ⟨hv3, ?_⟩
      refine sfX11_behind h.1 h.2.2.1 (fun v263 I262 hW606 hF607 => ?_)
      have h608 := IV_x h hW606 hF607 (by intro a k h; omega)
      have nx609 : NX Z I Z I262 := NX_fr hF607 (by omega) (by omega) (by omega)
      have ns610 : NS Z I Z I262 := NS_fr hF607 (by intro a k h; omega)
      refine ⟨hv1, ?_⟩
      refine ⟨hv2, ?_⟩
      refine ⟨hv3, ?_⟩
      have hfc := fC_le Z 45
      refine ⟨(fC Z 45), (fS Z 45), rc - 100, rs - 2100, by omega, by omega, ?_⟩
      refine qX12_behind hG h608.2.2.2 (fun v613 Z267 I267 J267 hS611 => ⟨v613, rfl, (IV_s h608 hS611).1, hS611.1.1, ?_⟩)
      have h615 := IV_s h608 hS611
      have nx616 := NX_st h608 hS611
      have ns617 := NS_st h608 hS611
      have nj618 := NJ_st h608 hS611
      have hr619 := RV_keep hr (NX.tr nx609 nx616)
      have hs620 := RS_keep hrs (NS.tr ns610 ns617)
      have hj621 := RJ_keep hrj (NS.tr ns610 ns617) nj618
      exact ih Z267 I267 J267 (rc - 100) (rs - 2100) (x3 + 6) h615 hr619 hs620 hj621 (by omega) (by omega) (by omega) (by omega)
    · skip
      refine ⟨hv1, ?_⟩
      refine ⟨hv2, ?_⟩
      refine sfX11_rides h.1 h.2.2.1 (fun v271 I270 hW623 hF624 => ?_)
      have h625 := IV_x h hW623 hF624 (by intro a k h; omega)
      have nx626 : NX Z I Z I270 := NX_fr hF624 (by omega) (by omega) (by omega)
      have ns627 : NS Z I Z I270 := NS_fr hF624 (by intro a k h; omega)
      refine ⟨hv1, ?_⟩
      refine ⟨hv2, ?_⟩
      refine sfX12_rides h625.2.2.2.1 h625.2.2.2.2.1 (fun v275 I274 hW629 hF630 => ?_)
      have h631 := IV_m h625 hW629 hF630 (by intro a k h; omega)
      have nx632 : NX Z I270 Z I274 := NX_fr hF630 (by omega) (by omega) (by omega)
      have ns633 : NS Z I270 Z I274 := NS_fr hF630 (by intro a k h; omega)
      have hr634 := RV_keep hr (NX.tr nx626 nx632)
      have hs635 := RS_keep hrs (NS.tr ns627 ns633)
      have hj636 := RJ_keep hrj (NS.tr ns627 ns633) NJ.rf
      exact ih Z I274 J rc rs (x3 + 6) h631 hr634 hs635 hj636 (by omega) (by omega) (by omega) (by omega)
    · skip
      refine ⟨hv1, ?_⟩
      refine sfX11_day h.1 h.2.1 h.2.2.1 (fun v278 I277 hW638 hF639 => ?_)
      have h640 := IV_x h hW638 hF639 (by intro a k h; omega)
      have nx641 : NX Z I Z I277 := NX_fr hF639 (by omega) (by omega) (by omega)
      have ns642 : NS Z I Z I277 := NS_fr hF639 (by intro a k h; omega)
      refine ⟨hv1, ?_⟩
      refine sfX12_day h640.2.2.2.1 h640.2.2.2.2.1 (fun v281 I280 hW644 hF645 => ?_)
      have h646 := IV_m h640 hW644 hF645 (by intro a k h; omega)
      have nx647 : NX Z I277 Z I280 := NX_fr hF645 (by omega) (by omega) (by omega)
      have ns648 : NS Z I277 Z I280 := NS_fr hF645 (by intro a k h; omega)
      have hr649 := RV_keep hr (NX.tr nx641 nx647)
      have hs650 := RS_keep hrs (NS.tr ns642 ns648)
      have hj651 := RJ_keep hrj (NS.tr ns642 ns648) NJ.rf
      exact ih Z I280 J rc rs (x3 + 6) h646 hr649 hs650 hj651 (by omega) (by omega) (by omega) (by omega)
    · skip
      refine ⟨hv1, ?_⟩
      refine sfX11_meet h.1 h.2.2.1 (fun v284 I283 hW653 hF654 => ?_)
      have h655 := IV_x h hW653 hF654 (by intro a k h; omega)
      have nx656 : NX Z I Z I283 := NX_fr hF654 (by omega) (by omega) (by omega)
      have ns657 : NS Z I Z I283 := NS_fr hF654 (by intro a k h; omega)
      refine ⟨hv1, ?_⟩
      refine sfX12_meet h655.2.2.2.1 h655.2.2.2.2.1 (fun v287 I286 hW659 hF660 => ?_)
      have h661 := IV_m h655 hW659 hF660 (by intro a k h; omega)
      have nx662 : NX Z I283 Z I286 := NX_fr hF660 (by omega) (by omega) (by omega)
      have ns663 : NS Z I283 Z I286 := NS_fr hF660 (by intro a k h; omega)
      have hr664 := RV_keep hr (NX.tr nx656 nx662)
      have hs665 := RS_keep hrs (NS.tr ns657 ns663)
      have hj666 := RJ_keep hrj (NS.tr ns657 ns663) NJ.rf
      exact ih Z I286 J rc rs (x3 + 6) h661 hr664 hs665 hj666 (by omega) (by omega) (by omega) (by omega)
    · skip
      refine sfX11_year h.1 h.2.2.1 (fun v289 I288 hW668 hF669 => ?_)
      have h670 := IV_x h hW668 hF669 (by intro a k h; omega)
      have nx671 : NX Z I Z I288 := NX_fr hF669 (by omega) (by omega) (by omega)
      have ns672 : NS Z I Z I288 := NS_fr hF669 (by intro a k h; omega)
      refine sfX12_year h670.2.2.2.1 h670.2.2.2.2.1 (fun v291 I290 hW674 hF675 => ?_)
      have h676 := IV_m h670 hW674 hF675 (by intro a k h; omega)
      have nx677 : NX Z I288 Z I290 := NX_fr hF675 (by omega) (by omega) (by omega)
      have ns678 : NS Z I288 Z I290 := NS_fr hF675 (by intro a k h; omega)
      have hr679 := RV_keep hr (NX.tr nx671 nx677)
      have hs680 := RS_keep hrs (NS.tr ns672 ns678)
      have hj681 := RJ_keep hrj (NS.tr ns672 ns678) NJ.rf
      exact ih Z I290 J rc rs (x3 + 6) h676 hr679 hs680 hj681 (by omega) (by omega) (by omega) (by omega)
    · skip
      refine ⟨hv1, ?_⟩
      refine sfX11_come h.1 h.2.2.1 (fun v294 I293 hW683 hF684 => ?_)
      have h685 := IV_x h hW683 hF684 (by intro a k h; omega)
      have nx686 : NX Z I Z I293 := NX_fr hF684 (by omega) (by omega) (by omega)
      have ns687 : NS Z I Z I293 := NS_fr hF684 (by intro a k h; omega)
      refine ⟨hv1, ?_⟩
      refine sfX12_come h685.2.2.2.1 h685.2.2.2.2.1 (fun v297 I296 hW689 hF690 => ?_)
      have h691 := IV_m h685 hW689 hF690 (by intro a k h; omega)
      have nx692 : NX Z I293 Z I296 := NX_fr hF690 (by omega) (by omega) (by omega)
      have ns693 : NS Z I293 Z I296 := NS_fr hF690 (by intro a k h; omega)
      have hr694 := RV_keep hr (NX.tr nx686 nx692)
      have hs695 := RS_keep hrs (NS.tr ns687 ns693)
      have hj696 := RJ_keep hrj (NS.tr ns687 ns693) NJ.rf
      exact ih Z I296 J rc rs (x3 + 6) h691 hr694 hs695 hj696 (by omega) (by omega) (by omega) (by omega)
    · skip
      refine ⟨hv1, ?_⟩
      refine sfX11_seed h.1 h.2.2.1 (fun v300 I299 hW698 hF699 => ?_)
      have h700 := IV_x h hW698 hF699 (by intro a k h; omega)
      have nx701 : NX Z I Z I299 := NX_fr hF699 (by omega) (by omega) (by omega)
      have ns702 : NS Z I Z I299 := NS_fr hF699 (by intro a k h; omega)
      refine ⟨hv1, ?_⟩
      refine sfX12_seed h700.2.2.2.1 h700.2.2.2.2.1 (fun v303 I302 hW704 hF705 => ?_)
      have h706 := IV_m h700 hW704 hF705 (by intro a k h; omega)
      have nx707 : NX Z I299 Z I302 := NX_fr hF705 (by omega) (by omega) (by omega)
      have ns708 : NS Z I299 Z I302 := NS_fr hF705 (by intro a k h; omega)
      have hr709 := RV_keep hr (NX.tr nx701 nx707)
      have hs710 := RS_keep hrs (NS.tr ns702 ns708)
      have hj711 := RJ_keep hrj (NS.tr ns702 ns708) NJ.rf
      exact ih Z I302 J rc rs (x3 + 6) h706 hr709 hs710 hj711 (by omega) (by omega) (by omega) (by omega)
    · skip
      refine sfX11_image h.1 h.2.2.1 (fun v305 I304 hW713 hF714 hp712 => ?_)
      have h715 := IV_x h hW713 hF714 (by intro a k h; omega)
      have e25 := congrArg Int32.toInt (hF714 25 1 (by omega))
      have e458 := congrArg Int32.toInt (hF714 45 8 (by omega))
      have ns716 : NS Z I Z I304 := NS_fr hF714 (by intro a k h; omega)
      refine ⟨38, 1946, rc - 100, rs - 2100, by omega, by omega, ?_⟩
      refine qX12_image hG h715.2.2.2 (fun Z306 I306 J306 hS717 hpi => ⟨1, rfl, (IV_s h715 hS717).1, hS717.1.1, ?_⟩)
      have h721 := IV_s h715 hS717
      have m25 := congrArg Int32.toInt (hS717.2.2.2.2.1 25 1 (by omega))
      have m458 := congrArg Int32.toInt (hS717.2.2.2.2.1 45 8 (by omega))
      have m08 := congrArg Int32.toInt (hS717.2.2.2.2.1 0 8 (by omega))
      have ns722 := NS_st h715 hS717
      have nj723 := NJ_st h715 hS717
      have hr724 : RV Z306 I306 := ⟨by omega, ⟨fun q => absurd q (by omega), fun q => by obtain ⟨w9, hw9⟩ := hpi; rw [hw9] at q; cases q⟩⟩
      have hs725 := RS_keep hrs (NS.tr ns716 ns722)
      have hj726 := RJ_keep hrj (NS.tr ns716 ns722) nj723
      exact ih Z306 I306 J306 (rc - 100) (rs - 2100) (x3 + 6) h721 hr724 hs725 hj726 (by omega) (by omega) (by omega) (by omega)
    · skip
      refine sfX11_back h.1 h.2.2.1 (fun v308 I307 hW728 hF729 hp727 => ?_)
      have h730 := IV_x h hW728 hF729 (by intro a k h; omega)
      have nx731 : NX Z I Z I307 := NX_fr hF729 (by omega) (by omega) (by omega)
      have ns732 : NS Z I Z I307 := NS_fr hF729 (by intro a k h; omega)
      refine qX12_back h730.2.2.2 (fun v310 I309 hS733 hpb => ?_)
      have h734 := IV_s h730 hS733
      have nx735 := NX_st h730 hS733
      have ns736 := NS_st h730 hS733
      have nj737 := NJ_st h730 hS733
      refine ⟨fun hc738 => ?_, fun hc739 => ?_⟩
      · skip
        have hr740 := RV_keep hr (NX.tr nx731 nx735)
        have hs741 := RS_keep hrs (NS.tr ns732 ns736)
        have hj742 := RJ_keep hrj (NS.tr ns732 ns736) nj737
        exact ih Z I309 J rc rs (x3 + 6) h734 hr740 hs741 hj742 (by omega) (by omega) (by omega) (by omega)
      · skip
        refine hc739 (Int32.toInt_inj.mp ?_)
        by_cases hP : Z.2.1 45 20 = none
        · have g1 := hr.2.mpr hP
          have g2 := hpb.1 hP
          omega
        · have g1 := mt hr.2.mp hP
          have g2 := hpb.2 hP
          omega
    · skip
      refine ⟨hv1, ?_⟩
      refine sfX11_status h.1 h.2.2.1 (fun v313  => ?_)
      have nx744 : NX Z I Z I := NX.rf
      have ns745 : NS Z I Z I := NS.rf
      refine ⟨hv1, ?_⟩
      refine sfX12_status h.2.2.2.1 h.2.2.2.2.1 (fun v316  => ?_)
      have nx747 : NX Z I Z I := NX.rf
      have ns748 : NS Z I Z I := NS.rf
      have hr749 := RV_keep hr (NX.tr nx744 nx747)
      have hs750 := RS_keep hrs (NS.tr ns745 ns748)
      have hj751 := RJ_keep hrj (NS.tr ns745 ns748) NJ.rf
      exact ih Z I J rc rs (x3 + 6) h hr749 hs750 hj751 (by omega) (by omega) (by omega) (by omega)
