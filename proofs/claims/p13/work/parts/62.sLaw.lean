set_option maxRecDepth 20000 in
set_option maxHeartbeats 4000000 in
/-- the law's loop goes on well -/
theorem lL_law {G : jdG} {nm : String} {b L : Nat} {xs : Nat → Int32} {sA sV : Nat → Nat} (hG : gOK G sA sV) (hXs : ∀ U, G.2.2.2.2 U → va_X b L xs U G.2.2.1) (hL : L ≤ 100000) : ∀ m : Nat, ∀ (Z : jdL) (I : jdI) (J : jdJ) (rc rs : Nat) (x3 : Int32), IV Z I → RV Z I → 0 ≤ x3.toInt → (L : Int) - x3.toInt + 6 < (m : Int) → 20 * ((L : Int) - x3.toInt) ≤ (rc : Int) → 350 * ((L : Int) - x3.toInt) ≤ (rs : Int) → x3.toInt ≤ (L : Int) → Jd G (mLaw nm) (lawF G) (2046 + 1) rc rs 18 [(0, .ref b), (1, .ref (gb G + 0)), (2, .ref (gb G + 45)), (3, .int x3)] [] Z I J := by
  intro m
  induction m with
  | zero =>
    intro Z I J rc rs x3 h hr h0 hm h1 h2 h3
    have hr1 := hr.1
    omega
  | succ m ih0 =>
    have ih : ∀ (Z : jdL) (I : jdI) (J : jdJ) (rc rs : Nat) (x3 : Int32), IV Z I → RV Z I → 0 ≤ x3.toInt → (L : Int) - x3.toInt + 6 < (m : Int) → 20 * ((L : Int) - x3.toInt) ≤ (rc : Int) → 350 * ((L : Int) - x3.toInt) ≤ (rs : Int) ∧ x3.toInt ≤ (L : Int) → Jd G (mLaw nm) (lawF G) (2046 + 1) rc rs 18 [(0, .ref b), (1, .ref (gb G + 0)), (2, .ref (gb G + 45)), (3, .int x3)] [] Z I J := fun Z I J rc rs x3 h hr a1 a2 a3 a4 => ih0 Z I J rc rs x3 h hr a1 a2 a3 a4.1 a4.2
    intro Z I J rc rs x3 h hr h0 hm h1 h2 h3
    have hr1 := hr.1
    have qL : (Nat.toInt32 L).toInt = (L : Int) := nI_toInt (by omega)
    have q6 : (6 : Int32).toInt = 6 := rfl
    have q1 : (1 : Int32).toInt = 1 := rfl
    have q2 : (2 : Int32).toInt = 2 := rfl
    have q3 : (3 : Int32).toInt = 3 := rfl
    have q4 : (4 : Int32).toInt = 4 := rfl
    have q5 : (5 : Int32).toInt = 5 := rfl
    have s6 := i32_sub (Nat.toInt32 L) 6 (by omega) (by omega)
    refine rL_law hXs h.1 h.2.2.2.1 ⟨fun _ => trivial, fun hc => ?_⟩
    have hc := mt Int32.lt_iff_toInt_lt.mpr hc
    have e6 := i32_add x3 6 (by omega) (by omega)
    have hv0 : vp_in x3 L := vp_of (by omega) (by omega)
    have e1 := i32_add x3 1 (by omega) (by omega)
    have hv1 : vp_in (x3 + 1) L := vp_of (by omega) (by omega)
    have e2 := i32_add x3 2 (by omega) (by omega)
    have hv2 : vp_in (x3 + 2) L := vp_of (by omega) (by omega)
    have e3 := i32_add x3 3 (by omega) (by omega)
    have hv3 : vp_in (x3 + 3) L := vp_of (by omega) (by omega)
    have e4 := i32_add x3 4 (by omega) (by omega)
    have hv4 : vp_in (x3 + 4) L := vp_of (by omega) (by omega)
    have e5 := i32_add x3 5 (by omega) (by omega)
    have hv5 : vp_in (x3 + 5) L := vp_of (by omega) (by omega)
    refine ⟨hv0, ?_⟩
    refine ⟨fun hc1 => ?_, fun hc2 => ?_, fun hc3 => ?_, fun hc4 => ?_, fun hc5 => ?_, fun hc6 => ?_, fun hc7 => ?_, fun hc8 => ?_, fun hc9 => ?_, fun hc10 => ?_, fun hc11 => ?_, fun hc12 => ?_, fun hc13 => ?_, fun hc14 => ?_, fun hc15 => ?_, fun hc16 => ?_, fun hc17 => ?_, fun hc18 => ?_, fun hc19 => ?_, fun hc20 => ?_, fun hc21 => ?_, fun hc22 => ?_, fun hc23 => ?_, fun hc24 => ?_, fun hc25 => ?_, fun hc26 => ?_, fun hc27 => ?_, fun hc28 => ?_, fun hc29 => ?_, fun hc30 => ?_, fun hc31 => ?_, fun hc32 => ?_, fun hc33 => ?_, fun hc34 => ?_, fun hc35 => ?_, fun hc36 => ?_, fun hc37 => ?_, fun hc38 => ?_, fun hc39 => ?_, fun hc40 => ?_, fun hc41 => ?_, fun hc42 => ?_, fun hc43 => ?_, fun hc44 => ?_, fun hc45 => ?_, fun hc46 => ?_, fun hc47 => ?_, fun hc48 => ?_⟩
    · skip
      have hr49 := hr
      exact ih Z I J rc rs (x3 + 6) h hr49 (by omega) (by omega) (by omega) (by omega)
    · skip
      refine ⟨hv1, ?_⟩
      refine ⟨hv2, ?_⟩
      refine ⟨hv3, ?_⟩
      refine ⟨0, 0, rc - 100, rs - 2100, by omega, by omega, ?_⟩
      refine qX11_row h (fun v52 Z5 I5 J5 hS50 hp51 nx53 => ⟨v52, rfl, hS50.1, hS50.2.2.2.1, ?_⟩)
      refine ⟨hv1, ?_⟩
      refine ⟨hv2, ?_⟩
      refine ⟨hv3, ?_⟩
      refine sfX12_row hS50.2.2.2.1 hS50.2.2.2.2.1 (fun v10 I9 J9 hW55 hF56 hp54 => ?_)
      have h57 := IV_m hS50 hW55 hF56 (by intro a k h; omega)
      have nx58 : NX Z5 I5 Z5 I9 := NX_fr hF56 (by omega) (by omega) (by omega)
      have hr59 := RV_keep hr (NX.tr nx53 nx58)
      exact ih Z5 I9 J9 (rc - 100) (rs - 2100) (x3 + 6) h57 hr59 (by omega) (by omega) (by omega) (by omega)
    · skip
      refine ⟨hv1, ?_⟩
      refine ⟨hv2, ?_⟩
      refine ⟨hv3, ?_⟩
      refine ⟨hv4, ?_⟩
      refine sfX11_set h.1 h.2.2.1 (fun v16 I15 J15 hW61 hF62 hp60 => ?_)
      have h63 := IV_x h hW61 hF62 (by intro a k h; omega)
      have nx64 : NX Z I Z I15 := NX_fr hF62 (by omega) (by omega) (by omega)
      refine ⟨hv1, ?_⟩
      refine ⟨hv2, ?_⟩
      refine ⟨hv3, ?_⟩
      refine ⟨hv4, ?_⟩
      refine sfX12_set h63.2.2.2.1 h63.2.2.2.2.1 (fun v22 I21 J21 hW66 hF67 hp65 => ?_)
      have h68 := IV_m h63 hW66 hF67 (by intro a k h; omega)
      have nx69 : NX Z I15 Z I21 := NX_fr hF67 (by omega) (by omega) (by omega)
      have hr70 := RV_keep hr (NX.tr nx64 nx69)
      exact ih Z I21 J21 rc rs (x3 + 6) h68 hr70 (by omega) (by omega) (by omega) (by omega)
    · skip
      refine ⟨hv1, ?_⟩
      refine ⟨hv2, ?_⟩
      refine ⟨hv3, ?_⟩
      refine ⟨hv4, ?_⟩
      refine ⟨hv5, ?_⟩
      refine sfX11_copy h.1 h.2.2.1 (fun v29 I28 J28 hW72 hF73 hp71 => ?_)
      have h74 := IV_x h hW72 hF73 (by intro a k h; omega)
      have nx75 : NX Z I Z I28 := NX_fr hF73 (by omega) (by omega) (by omega)
      refine ⟨hv1, ?_⟩
      refine ⟨hv2, ?_⟩
      refine ⟨hv3, ?_⟩
      refine ⟨hv4, ?_⟩
      refine ⟨hv5, ?_⟩
      refine sfX12_copy h74.2.2.2.1 h74.2.2.2.2.1 (fun v36 I35 J35 hW77 hF78 hp76 => ?_)
      have h79 := IV_m h74 hW77 hF78 (by intro a k h; omega)
      have nx80 : NX Z I28 Z I35 := NX_fr hF78 (by omega) (by omega) (by omega)
      have hr81 := RV_keep hr (NX.tr nx75 nx80)
      exact ih Z I35 J35 rc rs (x3 + 6) h79 hr81 (by omega) (by omega) (by omega) (by omega)
    · skip
      refine ⟨hv1, ?_⟩
      refine ⟨hv2, ?_⟩
      refine sfX11_element h.1 h.2.2.1 (fun v40  => ?_)
      have nx83 : NX Z I Z I := NX.rf
      refine ⟨hv1, ?_⟩
      refine ⟨hv2, ?_⟩
      refine sfX12_element h.2.2.2.1 h.2.2.2.2.1 (fun v44  => ?_)
      have nx85 : NX Z I Z I := NX.rf
      have hr86 := RV_keep hr (NX.tr nx83 nx85)
      exact ih Z I J rc rs (x3 + 6) h hr86 (by omega) (by omega) (by omega) (by omega)
    · skip
      refine ⟨hv1, ?_⟩
      refine sfX11_holds hG h.1 h.2.1 h.2.2.1 (fun v47  hp87 => ?_)
      have nx88 : NX Z I Z I := NX.rf
      refine ⟨hv1, ?_⟩
      refine sfX12_holds h.2.2.2.1 h.2.2.2.2.1 (fun v50  hp89 => ?_)
      have nx90 : NX Z I Z I := NX.rf
      have hr91 := RV_keep hr (NX.tr nx88 nx90)
      exact ih Z I J rc rs (x3 + 6) h hr91 (by omega) (by omega) (by omega) (by omega)
    · skip
      refine ⟨hv1, ?_⟩
      refine ⟨hv2, ?_⟩
      refine ⟨hv3, ?_⟩
      refine ⟨1, 1, rc - 100, rs - 2100, by omega, by omega, ?_⟩
      refine qX11_coachman h (fun v94 Z54 I54 J54 hS92 hp93 nx95 => ⟨v94, rfl, hS92.1, hS92.2.2.2.1, ?_⟩)
      refine ⟨hv1, ?_⟩
      refine ⟨hv2, ?_⟩
      refine ⟨hv3, ?_⟩
      refine sfX12_coachman hS92.2.2.2.1 hS92.2.2.2.2.1 (fun v59 I58 hW97 hF98 hp96 => ?_)
      have h99 := IV_m hS92 hW97 hF98 (by intro a k h; omega)
      have nx100 : NX Z54 I54 Z54 I58 := NX_fr hF98 (by omega) (by omega) (by omega)
      have hr101 := RV_keep hr (NX.tr nx95 nx100)
      exact ih Z54 I58 J54 (rc - 100) (rs - 2100) (x3 + 6) h99 hr101 (by omega) (by omega) (by omega) (by omega)
    · skip
      refine ⟨hv1, ?_⟩
      refine ⟨hv2, ?_⟩
      refine sfX11_says hG h.1 h.2.1 h.2.2.1 (fun v63 I62 hW103 hF104 => ?_)
      have h105 := IV_x h hW103 hF104 (by intro a k h; omega)
      have nx106 : NX Z I Z I62 := NX_fr hF104 (by omega) (by omega) (by omega)
      refine ⟨hv1, ?_⟩
      refine ⟨hv2, ?_⟩
      refine sfX12_says h105.2.2.2.1 h105.2.2.2.2.1 (fun v67 I66 hW108 hF109 => ?_)
      have h110 := IV_m h105 hW108 hF109 (by intro a k h; omega)
      have nx111 : NX Z I62 Z I66 := NX_fr hF109 (by omega) (by omega) (by omega)
      have hr112 := RV_keep hr (NX.tr nx106 nx111)
      exact ih Z I66 J rc rs (x3 + 6) h110 hr112 (by omega) (by omega) (by omega) (by omega)
    · skip
      refine ⟨hv1, ?_⟩
      refine ⟨hv2, ?_⟩
      refine sfX11_person h.1 h.2.2.1 (fun v71 I70 hW114 hF115 => ?_)
      have h116 := IV_x h hW114 hF115 (by intro a k h; omega)
      have nx117 : NX Z I Z I70 := NX_fr hF115 (by omega) (by omega) (by omega)
      refine ⟨hv1, ?_⟩
      refine ⟨hv2, ?_⟩
      refine sfX12_person h116.2.2.2.1 h116.2.2.2.2.1 (fun v75 I74 hW119 hF120 => ?_)
      have h121 := IV_m h116 hW119 hF120 (by intro a k h; omega)
      have nx122 : NX Z I70 Z I74 := NX_fr hF120 (by omega) (by omega) (by omega)
      have hr123 := RV_keep hr (NX.tr nx117 nx122)
      exact ih Z I74 J rc rs (x3 + 6) h121 hr123 (by omega) (by omega) (by omega) (by omega)
    · skip
      refine ⟨hv1, ?_⟩
      refine ⟨hv2, ?_⟩
      refine ⟨hv3, ?_⟩
      refine sfX11_change h.1 h.2.2.1 (fun v80 I79 hW125 hF126 => ?_)
      have h127 := IV_x h hW125 hF126 (by intro a k h; omega)
      have nx128 : NX Z I Z I79 := NX_fr hF126 (by omega) (by omega) (by omega)
      refine ⟨hv1, ?_⟩
      refine ⟨hv2, ?_⟩
      refine ⟨hv3, ?_⟩
      refine sfX12_change h127.2.2.2.1 h127.2.2.2.2.1 (fun v85 I84 hW130 hF131 => ?_)
      have h132 := IV_m h127 hW130 hF131 (by intro a k h; omega)
      have nx133 : NX Z I79 Z I84 := NX_fr hF131 (by omega) (by omega) (by omega)
      have hr134 := RV_keep hr (NX.tr nx128 nx133)
      exact ih Z I84 J rc rs (x3 + 6) h132 hr134 (by omega) (by omega) (by omega) (by omega)
    · skip
      refine ⟨hv1, ?_⟩
      refine ⟨hv2, ?_⟩
      refine ⟨hv3, ?_⟩
      refine sfX11_know h.1 h.2.2.1 (fun v90 I89 hW136 hF137 => ?_)
      have h138 := IV_x h hW136 hF137 (by intro a k h; omega)
      have nx139 : NX Z I Z I89 := NX_fr hF137 (by omega) (by omega) (by omega)
      refine ⟨hv1, ?_⟩
      refine ⟨hv2, ?_⟩
      refine ⟨hv3, ?_⟩
      refine sfX12_know h138.2.2.2.1 h138.2.2.2.2.1 (fun v95 I94 hW141 hF142 => ?_)
      have h143 := IV_m h138 hW141 hF142 (by intro a k h; omega)
      have nx144 : NX Z I89 Z I94 := NX_fr hF142 (by omega) (by omega) (by omega)
      have hr145 := RV_keep hr (NX.tr nx139 nx144)
      exact ih Z I94 J rc rs (x3 + 6) h143 hr145 (by omega) (by omega) (by omega) (by omega)
    · skip
      refine ⟨hv1, ?_⟩
      refine ⟨hv2, ?_⟩
      refine sfX11_ask h.1 h.2.2.1 (fun v99 I98 hW147 hF148 => ?_)
      have h149 := IV_x h hW147 hF148 (by intro a k h; omega)
      have nx150 : NX Z I Z I98 := NX_fr hF148 (by omega) (by omega) (by omega)
      refine ⟨hv1, ?_⟩
      refine ⟨hv2, ?_⟩
      refine sfX12_ask h149.2.2.2.1 h149.2.2.2.2.1 (fun v103 I102 hW152 hF153 => ?_)
      have h154 := IV_m h149 hW152 hF153 (by intro a k h; omega)
      have nx155 : NX Z I98 Z I102 := NX_fr hF153 (by omega) (by omega) (by omega)
      have hr156 := RV_keep hr (NX.tr nx150 nx155)
      exact ih Z I102 J rc rs (x3 + 6) h154 hr156 (by omega) (by omega) (by omega) (by omega)
    · skip
      refine ⟨hv1, ?_⟩
      refine sfX11_feed h.1 h.2.2.1 (fun v106 I105 hW158 hF159 hp157 => ?_)
      have h160 := IV_x h hW158 hF159 (by intro a k h; omega)
      have e08 := congrArg Int32.toInt (hF159 0 8 (by omega))
      have e458 := congrArg Int32.toInt (hF159 45 8 (by omega))
      refine ⟨hv1, ?_⟩
      refine sfX12_feed h160.2.2.2.1 h160.2.2.2.2.1 (fun v109 I108 hW162 hF163 hp161 => ?_)
      have h164 := IV_m h160 hW162 hF163 (by intro a k h; omega)
      have m25 := congrArg Int32.toInt (hF163 25 1 (by omega))
      have m08 := congrArg Int32.toInt (hF163 0 8 (by omega))
      refine ⟨fun hc165 => ?_, fun hc166 => ?_⟩
      · skip
        have hr167 : RV Z I108 := ⟨by omega, by rw [show (I108 0 8).toInt = (I 0 8).toInt by omega]; exact hr.2⟩
        exact ih Z I108 J rc rs (x3 + 6) h164 hr167 (by omega) (by omega) (by omega) (by omega)
      · skip
        exact hc166 (Int32.toInt_inj.mp (by omega))
    · skip
      refine sfX11_wipe h.1 h.2.2.1 (fun v111 I110 hW169 hF170 hp168 => ?_)
      have h171 := IV_x h hW169 hF170 (by intro a k h; omega)
      have e08 := congrArg Int32.toInt (hF170 0 8 (by omega))
      have e458 := congrArg Int32.toInt (hF170 45 8 (by omega))
      refine sfX12_wipe h171.2.2.2.1 h171.2.2.2.2.1 (fun v113 I112 hW173 hF174 hp172 => ?_)
      have h175 := IV_m h171 hW173 hF174 (by intro a k h; omega)
      have m25 := congrArg Int32.toInt (hF174 25 1 (by omega))
      have m08 := congrArg Int32.toInt (hF174 0 8 (by omega))
      have hr176 : RV Z I112 := ⟨by omega, by rw [show (I112 0 8).toInt = (I 0 8).toInt by omega]; exact hr.2⟩
      exact ih Z I112 J rc rs (x3 + 6) h175 hr176 (by omega) (by omega) (by omega) (by omega)
    · skip
      refine sfX11_town hG h.1 h.2.2.1 (fun v115 I114 hW178 hF179 hp177 => ?_)
      have h180 := IV_x h hW178 hF179 (by intro a k h; omega)
      have e08 := congrArg Int32.toInt (hF179 0 8 (by omega))
      have e458 := congrArg Int32.toInt (hF179 45 8 (by omega))
      have hfc := fC_le Z 45
      refine ⟨(fC Z 45), (fS Z 45), rc - 100, rs - 2100, by omega, by omega, ?_⟩
      refine qX12_town hG h180.2.2.2 (fun v183 Z116 I116 J116 hS181 hp182 => ⟨v183, rfl, (IV_s h180 hS181).1, hS181.1.1, ?_⟩)
      have h185 := IV_s h180 hS181
      have hbz := h180.2.2.2.2.2.1
      have m25 := congrArg Int32.toInt (hS181.2.2.2.2.1 25 1 (by omega))
      have m08 := congrArg Int32.toInt (hS181.2.2.2.2.1 0 8 (by omega))
      have eZ := hS181.2.2.2.1 45 20 (by omega) (by omega)
      have hr186 : RV Z116 I116 := ⟨by omega, by rw [show (I116 0 8).toInt = (I 0 8).toInt by omega, eZ]; exact hr.2⟩
      exact ih Z116 I116 J116 (rc - 100) (rs - 2100) (x3 + 6) h185 hr186 (by omega) (by omega) (by omega) (by omega)
    · skip
      refine ⟨hv1, ?_⟩
      refine ⟨hv2, ?_⟩
      refine sfX11_personOf h.1 h.2.2.1 (fun v120 I119 hW188 hF189 => ?_)
      have h190 := IV_x h hW188 hF189 (by intro a k h; omega)
      have nx191 : NX Z I Z I119 := NX_fr hF189 (by omega) (by omega) (by omega)
      refine ⟨hv1, ?_⟩
      refine ⟨hv2, ?_⟩
      refine sfX12_personOf h190.2.2.2.1 h190.2.2.2.2.1 (fun v124 I123 hW193 hF194 => ?_)
      have h195 := IV_m h190 hW193 hF194 (by intro a k h; omega)
      have nx196 : NX Z I119 Z I123 := NX_fr hF194 (by omega) (by omega) (by omega)
      have hr197 := RV_keep hr (NX.tr nx191 nx196)
      exact ih Z I123 J rc rs (x3 + 6) h195 hr197 (by omega) (by omega) (by omega) (by omega)
    · skip
      refine ⟨hv1, ?_⟩
      refine ⟨hv2, ?_⟩
      refine sfX11_knownOf h.1 h.2.2.1 (fun v128 I127 hW199 hF200 => ?_)
      have h201 := IV_x h hW199 hF200 (by intro a k h; omega)
      have nx202 : NX Z I Z I127 := NX_fr hF200 (by omega) (by omega) (by omega)
      refine ⟨hv1, ?_⟩
      refine ⟨hv2, ?_⟩
      refine sfX12_knownOf h201.2.2.2.1 h201.2.2.2.2.1 (fun v132 I131 hW204 hF205 => ?_)
      have h206 := IV_m h201 hW204 hF205 (by intro a k h; omega)
      have nx207 : NX Z I127 Z I131 := NX_fr hF205 (by omega) (by omega) (by omega)
      have hr208 := RV_keep hr (NX.tr nx202 nx207)
      exact ih Z I131 J rc rs (x3 + 6) h206 hr208 (by omega) (by omega) (by omega) (by omega)
    · skip
      refine ⟨hv1, ?_⟩
      refine sfX11_isGroup h.1 h.2.2.1 (fun v135 I134 hW210 hF211 => ?_)
      have h212 := IV_x h hW210 hF211 (by intro a k h; omega)
      have nx213 : NX Z I Z I134 := NX_fr hF211 (by omega) (by omega) (by omega)
      refine ⟨hv1, ?_⟩
      refine sfX12_isGroup h212.2.2.2.1 h212.2.2.2.2.1 (fun v138 I137 hW215 hF216 => ?_)
      have h217 := IV_m h212 hW215 hF216 (by intro a k h; omega)
      have nx218 : NX Z I134 Z I137 := NX_fr hF216 (by omega) (by omega) (by omega)
      have hr219 := RV_keep hr (NX.tr nx213 nx218)
      exact ih Z I137 J rc rs (x3 + 6) h217 hr219 (by omega) (by omega) (by omega) (by omega)
    · skip
      refine ⟨hv1, ?_⟩
      refine sfX11_groups h.1 h.2.2.1 (fun v141 I140 hW221 hF222 => ?_)
      have h223 := IV_x h hW221 hF222 (by intro a k h; omega)
      have nx224 : NX Z I Z I140 := NX_fr hF222 (by omega) (by omega) (by omega)
      refine ⟨hv1, ?_⟩
      refine sfX12_groups h223.2.2.2.1 h223.2.2.2.2.1 (fun v144 I143 hW226 hF227 => ?_)
      have h228 := IV_m h223 hW226 hF227 (by intro a k h; omega)
      have nx229 : NX Z I140 Z I143 := NX_fr hF227 (by omega) (by omega) (by omega)
      have hr230 := RV_keep hr (NX.tr nx224 nx229)
      exact ih Z I143 J rc rs (x3 + 6) h228 hr230 (by omega) (by omega) (by omega) (by omega)
    · skip
      refine ⟨hv1, ?_⟩
      refine sfX11_firstOf h.1 h.2.2.1 (fun v147 I146 hW232 hF233 => ?_)
      have h234 := IV_x h hW232 hF233 (by intro a k h; omega)
      have nx235 : NX Z I Z I146 := NX_fr hF233 (by omega) (by omega) (by omega)
      refine ⟨hv1, ?_⟩
      refine sfX12_firstOf h234.2.2.2.1 h234.2.2.2.2.1 (fun v150 I149 hW237 hF238 => ?_)
      have h239 := IV_m h234 hW237 hF238 (by intro a k h; omega)
      have nx240 : NX Z I146 Z I149 := NX_fr hF238 (by omega) (by omega) (by omega)
      have hr241 := RV_keep hr (NX.tr nx235 nx240)
      exact ih Z I149 J rc rs (x3 + 6) h239 hr241 (by omega) (by omega) (by omega) (by omega)
    · skip
      refine ⟨hv1, ?_⟩
      refine sfX11_most h.1 h.2.2.1 (fun v153 I152 hW243 hF244 => ?_)
      have h245 := IV_x h hW243 hF244 (by intro a k h; omega)
      have nx246 : NX Z I Z I152 := NX_fr hF244 (by omega) (by omega) (by omega)
      refine ⟨hv1, ?_⟩
      refine sfX12_most h245.2.2.2.1 h245.2.2.2.2.1 (fun v156 I155 hW248 hF249 => ?_)
      have h250 := IV_m h245 hW248 hF249 (by intro a k h; omega)
      have nx251 : NX Z I152 Z I155 := NX_fr hF249 (by omega) (by omega) (by omega)
      have hr252 := RV_keep hr (NX.tr nx246 nx251)
      exact ih Z I155 J rc rs (x3 + 6) h250 hr252 (by omega) (by omega) (by omega) (by omega)
    · skip
      refine ⟨hv1, ?_⟩
      refine ⟨hv2, ?_⟩
      refine sfX11_mostOf h.1 h.2.2.1 (fun v160 I159 hW254 hF255 => ?_)
      have h256 := IV_x h hW254 hF255 (by intro a k h; omega)
      have nx257 : NX Z I Z I159 := NX_fr hF255 (by omega) (by omega) (by omega)
      refine ⟨hv1, ?_⟩
      refine ⟨hv2, ?_⟩
      refine sfX12_mostOf h256.2.2.2.1 h256.2.2.2.2.1 (fun v164 I163 hW259 hF260 => ?_)
      have h261 := IV_m h256 hW259 hF260 (by intro a k h; omega)
      have nx262 : NX Z I159 Z I163 := NX_fr hF260 (by omega) (by omega) (by omega)
      have hr263 := RV_keep hr (NX.tr nx257 nx262)
      exact ih Z I163 J rc rs (x3 + 6) h261 hr263 (by omega) (by omega) (by omega) (by omega)
    · skip
      refine ⟨hv1, ?_⟩
      refine ⟨hv2, ?_⟩
      refine ⟨hv3, ?_⟩
      refine sfX11_sends h.1 h.2.1 h.2.2.1 (fun v169 I168 hW265 hF266 => ?_)
      have h267 := IV_x h hW265 hF266 (by intro a k h; omega)
      have nx268 : NX Z I Z I168 := NX_fr hF266 (by omega) (by omega) (by omega)
      refine ⟨hv1, ?_⟩
      refine ⟨hv2, ?_⟩
      refine ⟨hv3, ?_⟩
      refine sfX12_sends h267.2.2.2.1 h267.2.2.2.2.1 (fun v174 I173 hW270 hF271 => ?_)
      have h272 := IV_m h267 hW270 hF271 (by intro a k h; omega)
      have nx273 : NX Z I168 Z I173 := NX_fr hF271 (by omega) (by omega) (by omega)
      have hr274 := RV_keep hr (NX.tr nx268 nx273)
      exact ih Z I173 J rc rs (x3 + 6) h272 hr274 (by omega) (by omega) (by omega) (by omega)
    · skip
      refine ⟨hv1, ?_⟩
      refine sfX11_run h.1 h.2.1 h.2.2.1 (fun v177 I176 hW276 hF277 => ?_)
      have h278 := IV_x h hW276 hF277 (by intro a k h; omega)
      have nx279 : NX Z I Z I176 := NX_fr hF277 (by omega) (by omega) (by omega)
      refine ⟨hv1, ?_⟩
      refine sfX12_run h278.2.2.2.1 h278.2.2.2.2.1 (fun v180 I179 hW281 hF282 => ?_)
      have h283 := IV_m h278 hW281 hF282 (by intro a k h; omega)
      have nx284 : NX Z I176 Z I179 := NX_fr hF282 (by omega) (by omega) (by omega)
      have hr285 := RV_keep hr (NX.tr nx279 nx284)
      exact ih Z I179 J rc rs (x3 + 6) h283 hr285 (by omega) (by omega) (by omega) (by omega)
    · skip
      refine ⟨hv1, ?_⟩
      refine ⟨hv2, ?_⟩
      refine sfX11_coach h.1 h.2.1 h.2.2.1 (fun v184 I183 hW287 hF288 => ?_)
      have h289 := IV_x h hW287 hF288 (by intro a k h; omega)
      have nx290 : NX Z I Z I183 := NX_fr hF288 (by omega) (by omega) (by omega)
      refine ⟨hv1, ?_⟩
      refine ⟨hv2, ?_⟩
      refine sfX12_coach h289.2.2.2.1 h289.2.2.2.2.1 (fun v188 I187 hW292 hF293 => ?_)
      have h294 := IV_m h289 hW292 hF293 (by intro a k h; omega)
      have nx295 : NX Z I183 Z I187 := NX_fr hF293 (by omega) (by omega) (by omega)
      have hr296 := RV_keep hr (NX.tr nx290 nx295)
      exact ih Z I187 J rc rs (x3 + 6) h294 hr296 (by omega) (by omega) (by omega) (by omega)
    · skip
      refine ⟨hv1, ?_⟩
      refine sfX11_left h.1 h.2.1 h.2.2.1 (fun v191 I190 hW298 hF299 => ?_)
      have h300 := IV_x h hW298 hF299 (by intro a k h; omega)
      have nx301 : NX Z I Z I190 := NX_fr hF299 (by omega) (by omega) (by omega)
      refine ⟨hv1, ?_⟩
      refine sfX12_left h300.2.2.2.1 h300.2.2.2.2.1 (fun v194 I193 hW303 hF304 => ?_)
      have h305 := IV_m h300 hW303 hF304 (by intro a k h; omega)
      have nx306 : NX Z I190 Z I193 := NX_fr hF304 (by omega) (by omega) (by omega)
      have hr307 := RV_keep hr (NX.tr nx301 nx306)
      exact ih Z I193 J rc rs (x3 + 6) h305 hr307 (by omega) (by omega) (by omega) (by omega)
    · skip
      refine ⟨hv1, ?_⟩
      refine ⟨hv2, ?_⟩
      refine sfX11_waits h.1 h.2.1 h.2.2.1 (fun v198 I197 hW309 hF310 => ?_)
      have h311 := IV_x h hW309 hF310 (by intro a k h; omega)
      have nx312 : NX Z I Z I197 := NX_fr hF310 (by omega) (by omega) (by omega)
      refine ⟨hv1, ?_⟩
      refine ⟨hv2, ?_⟩
      refine sfX12_waits h311.2.2.2.1 h311.2.2.2.2.1 (fun v202 I201 hW314 hF315 => ?_)
      have h316 := IV_m h311 hW314 hF315 (by intro a k h; omega)
      have nx317 : NX Z I197 Z I201 := NX_fr hF315 (by omega) (by omega) (by omega)
      have hr318 := RV_keep hr (NX.tr nx312 nx317)
      exact ih Z I201 J rc rs (x3 + 6) h316 hr318 (by omega) (by omega) (by omega) (by omega)
    · skip
      refine ⟨hv1, ?_⟩
      refine sfX11_least h.1 h.2.2.1 (fun v205 I204 hW320 hF321 => ?_)
      have h322 := IV_x h hW320 hF321 (by intro a k h; omega)
      have nx323 : NX Z I Z I204 := NX_fr hF321 (by omega) (by omega) (by omega)
      refine ⟨hv1, ?_⟩
      refine sfX12_least h322.2.2.2.1 h322.2.2.2.2.1 (fun v208 I207 hW325 hF326 => ?_)
      have h327 := IV_m h322 hW325 hF326 (by intro a k h; omega)
      have nx328 : NX Z I204 Z I207 := NX_fr hF326 (by omega) (by omega) (by omega)
      have hr329 := RV_keep hr (NX.tr nx323 nx328)
      exact ih Z I207 J rc rs (x3 + 6) h327 hr329 (by omega) (by omega) (by omega) (by omega)
    · skip
      refine sfX11_head h.1 h.2.1 h.2.2.1 (fun v210 I209 hW331 hF332 => ?_)
      have h333 := IV_x h hW331 hF332 (by intro a k h; omega)
      have nx334 : NX Z I Z I209 := NX_fr hF332 (by omega) (by omega) (by omega)
      refine sfX12_head h333.2.2.2.1 h333.2.2.2.2.1 (fun v212 I211 hW336 hF337 => ?_)
      have h338 := IV_m h333 hW336 hF337 (by intro a k h; omega)
      have nx339 : NX Z I209 Z I211 := NX_fr hF337 (by omega) (by omega) (by omega)
      have hr340 := RV_keep hr (NX.tr nx334 nx339)
      exact ih Z I211 J rc rs (x3 + 6) h338 hr340 (by omega) (by omega) (by omega) (by omega)
    · skip
      refine ⟨hv1, ?_⟩
      refine sfX11_days h.1 h.2.1 h.2.2.1 (fun v215 I214 hW342 hF343 => ?_)
      have h344 := IV_x h hW342 hF343 (by intro a k h; omega)
      have nx345 : NX Z I Z I214 := NX_fr hF343 (by omega) (by omega) (by omega)
      refine ⟨hv1, ?_⟩
      have hfc := fC_le Z 45
      refine ⟨(fC Z 45), (fS Z 45), rc - 100, rs - 2100, by omega, by omega, ?_⟩
      refine qX12_days hG h344.2.2.2 (fun v348 Z217 I217 J217 hS346 => ⟨v348, rfl, (IV_s h344 hS346).1, hS346.1.1, ?_⟩)
      have h350 := IV_s h344 hS346
      have nx349 := NX_st h344 hS346
      have hr351 := RV_keep hr (NX.tr nx345 nx349)
      exact ih Z217 I217 J217 (rc - 100) (rs - 2100) (x3 + 6) h350 hr351 (by omega) (by omega) (by omega) (by omega)
    · skip
      refine ⟨hv1, ?_⟩
      refine sfX11_ever h.1 h.2.2.1 (fun v220 I219 hW353 hF354 => ?_)
      have h355 := IV_x h hW353 hF354 (by intro a k h; omega)
      have nx356 : NX Z I Z I219 := NX_fr hF354 (by omega) (by omega) (by omega)
      refine ⟨hv1, ?_⟩
      refine ⟨1, 40, rc - 100, rs - 2100, by omega, by omega, ?_⟩
      refine qX12_ever h355.2.2.2 (fun v359 Z222 I222 J222 hS357 => ⟨v359, rfl, (IV_s h355 hS357).1, hS357.1.1, ?_⟩)
      have h361 := IV_s h355 hS357
      have nx360 := NX_st h355 hS357
      have hr362 := RV_keep hr (NX.tr nx356 nx360)
      exact ih Z222 I222 J222 (rc - 100) (rs - 2100) (x3 + 6) h361 hr362 (by omega) (by omega) (by omega) (by omega)
    · skip
      refine sfX11_hire h.1 h.2.2.1 (fun v224 I223 hW364 hF365 => ?_)
      have h366 := IV_x h hW364 hF365 (by intro a k h; omega)
      have nx367 : NX Z I Z I223 := NX_fr hF365 (by omega) (by omega) (by omega)
      have hfc := fC_le Z 45
      refine ⟨(fC Z 45), (fS Z 45), rc - 100, rs - 2100, by omega, by omega, ?_⟩
      refine qX12_hire hG h366.2.2.2 (fun v370 Z225 I225 J225 hS368 => ⟨v370, rfl, (IV_s h366 hS368).1, hS368.1.1, ?_⟩)
      have h372 := IV_s h366 hS368
      have nx371 := NX_st h366 hS368
      have hr373 := RV_keep hr (NX.tr nx367 nx371)
      exact ih Z225 I225 J225 (rc - 100) (rs - 2100) (x3 + 6) h372 hr373 (by omega) (by omega) (by omega) (by omega)
    · skip
      refine ⟨hv1, ?_⟩
      refine sfX11_feast h.1 h.2.2.1 (fun v228 I227 hW375 hF376 => ?_)
      have h377 := IV_x h hW375 hF376 (by intro a k h; omega)
      have nx378 : NX Z I Z I227 := NX_fr hF376 (by omega) (by omega) (by omega)
      refine ⟨hv1, ?_⟩
      refine ⟨40, 2026, rc - 100, rs - 2100, by omega, by omega, ?_⟩
      refine qX12_feast hG h377.2.2.2 (fun v381 Z230 I230 J230 hS379 => ⟨v381, rfl, (IV_s h377 hS379).1, hS379.1.1, ?_⟩)
      have h383 := IV_s h377 hS379
      have nx382 := NX_st h377 hS379
      have hr384 := RV_keep hr (NX.tr nx378 nx382)
      exact ih Z230 I230 J230 (rc - 100) (rs - 2100) (x3 + 6) h383 hr384 (by omega) (by omega) (by omega) (by omega)
    · skip
      refine ⟨hv1, ?_⟩
      refine ⟨hv2, ?_⟩
      refine sfX11_closes h.1 h.2.2.1 (fun v234 I233 hW386 hF387 => ?_)
      have h388 := IV_x h hW386 hF387 (by intro a k h; omega)
      have nx389 : NX Z I Z I233 := NX_fr hF387 (by omega) (by omega) (by omega)
      refine ⟨hv1, ?_⟩
      refine ⟨hv2, ?_⟩
      have hfc := fC_le Z 45
      refine ⟨(fC Z 45), (fS Z 45), rc - 100, rs - 2100, by omega, by omega, ?_⟩
      refine qX12_closes hG h388.2.2.2 (fun v392 Z237 I237 J237 hS390 => ⟨v392, rfl, (IV_s h388 hS390).1, hS390.1.1, ?_⟩)
      have h394 := IV_s h388 hS390
      have nx393 := NX_st h388 hS390
      have hr395 := RV_keep hr (NX.tr nx389 nx393)
      exact ih Z237 I237 J237 (rc - 100) (rs - 2100) (x3 + 6) h394 hr395 (by omega) (by omega) (by omega) (by omega)
    · skip
      refine sfX11_worst h.1 h.2.2.1 (fun v239 I238 hW397 hF398 => ?_)
      have h399 := IV_x h hW397 hF398 (by intro a k h; omega)
      have nx400 : NX Z I Z I238 := NX_fr hF398 (by omega) (by omega) (by omega)
      have hfc := fC_le Z 45
      refine ⟨(fC Z 45), (fS Z 45), rc - 100, rs - 2100, by omega, by omega, ?_⟩
      refine qX12_worst hG h399.2.2.2 (fun v403 Z240 I240 J240 hS401 => ⟨v403, rfl, (IV_s h399 hS401).1, hS401.1.1, ?_⟩)
      have h405 := IV_s h399 hS401
      have nx404 := NX_st h399 hS401
      have hr406 := RV_keep hr (NX.tr nx400 nx404)
      exact ih Z240 I240 J240 (rc - 100) (rs - 2100) (x3 + 6) h405 hr406 (by omega) (by omega) (by omega) (by omega)
    · skip
      refine ⟨hv1, ?_⟩
      refine sfX11_fits h.1 h.2.2.1 (fun v243 I242 hW408 hF409 => ?_)
      have h410 := IV_x h hW408 hF409 (by intro a k h; omega)
      have nx411 : NX Z I Z I242 := NX_fr hF409 (by omega) (by omega) (by omega)
      refine ⟨hv1, ?_⟩
      have hfc := fC_le Z 45
      refine ⟨(fC Z 45), (fS Z 45), rc - 100, rs - 2100, by omega, by omega, ?_⟩
      refine qX12_fits hG h410.2.2.2 (fun v414 Z245 I245 J245 hS412 => ⟨v414, rfl, (IV_s h410 hS412).1, hS412.1.1, ?_⟩)
      have h416 := IV_s h410 hS412
      have nx415 := NX_st h410 hS412
      have hr417 := RV_keep hr (NX.tr nx411 nx415)
      exact ih Z245 I245 J245 (rc - 100) (rs - 2100) (x3 + 6) h416 hr417 (by omega) (by omega) (by omega) (by omega)
    · skip
      refine ⟨hv1, ?_⟩
      refine sfX11_sure h.1 h.2.2.1 (fun v248 I247 hW419 hF420 => ?_)
      have h421 := IV_x h hW419 hF420 (by intro a k h; omega)
      have nx422 : NX Z I Z I247 := NX_fr hF420 (by omega) (by omega) (by omega)
      refine ⟨hv1, ?_⟩
      have hfc := fC_le Z 45
      refine ⟨(fC Z 45), (fS Z 45), rc - 100, rs - 2100, by omega, by omega, ?_⟩
      refine qX12_sure hG h421.2.2.2 (fun v425 Z250 I250 J250 hS423 => ⟨v425, rfl, (IV_s h421 hS423).1, hS423.1.1, ?_⟩)
      have h427 := IV_s h421 hS423
      have nx426 := NX_st h421 hS423
      have hr428 := RV_keep hr (NX.tr nx422 nx426)
      exact ih Z250 I250 J250 (rc - 100) (rs - 2100) (x3 + 6) h427 hr428 (by omega) (by omega) (by omega) (by omega)
    · skip
      refine ⟨hv1, ?_⟩
      refine ⟨hv2, ?_⟩
      refine sfX11_judge h.1 h.2.2.1 (fun v254 I253 hW430 hF431 => ?_)
      have h432 := IV_x h hW430 hF431 (by intro a k h; omega)
      have nx433 : NX Z I Z I253 := NX_fr hF431 (by omega) (by omega) (by omega)
      refine ⟨hv1, ?_⟩
      refine ⟨hv2, ?_⟩
      refine sfX12_judge h432.2.2.2.1 h432.2.2.2.2.1 (fun v258 I257 hW435 hF436 => ?_)
      have h437 := IV_m h432 hW435 hF436 (by intro a k h; omega)
      have nx438 : NX Z I253 Z I257 := NX_fr hF436 (by omega) (by omega) (by omega)
      have hr439 := RV_keep hr (NX.tr nx433 nx438)
      exact ih Z I257 J rc rs (x3 + 6) h437 hr439 (by omega) (by omega) (by omega) (by omega)
    · skip
      refine ⟨hv1, ?_⟩
      refine ⟨hv2, ?_⟩
      refine ⟨hv3, ?_⟩
      refine sfX11_behind h.1 h.2.2.1 (fun v263 I262 hW441 hF442 => ?_)
      have h443 := IV_x h hW441 hF442 (by intro a k h; omega)
      have nx444 : NX Z I Z I262 := NX_fr hF442 (by omega) (by omega) (by omega)
      refine ⟨hv1, ?_⟩
      refine ⟨hv2, ?_⟩
      refine ⟨hv3, ?_⟩
      have hfc := fC_le Z 45
      refine ⟨(fC Z 45), (fS Z 45), rc - 100, rs - 2100, by omega, by omega, ?_⟩
      refine qX12_behind hG h443.2.2.2 (fun v447 Z267 I267 J267 hS445 => ⟨v447, rfl, (IV_s h443 hS445).1, hS445.1.1, ?_⟩)
      have h449 := IV_s h443 hS445
      have nx448 := NX_st h443 hS445
      have hr450 := RV_keep hr (NX.tr nx444 nx448)
      exact ih Z267 I267 J267 (rc - 100) (rs - 2100) (x3 + 6) h449 hr450 (by omega) (by omega) (by omega) (by omega)
    · skip
      refine ⟨hv1, ?_⟩
      refine ⟨hv2, ?_⟩
      refine sfX11_rides h.1 h.2.2.1 (fun v271 I270 hW452 hF453 => ?_)
      have h454 := IV_x h hW452 hF453 (by intro a k h; omega)
      have nx455 : NX Z I Z I270 := NX_fr hF453 (by omega) (by omega) (by omega)
      refine ⟨hv1, ?_⟩
      refine ⟨hv2, ?_⟩
      refine sfX12_rides h454.2.2.2.1 h454.2.2.2.2.1 (fun v275 I274 hW457 hF458 => ?_)
      have h459 := IV_m h454 hW457 hF458 (by intro a k h; omega)
      have nx460 : NX Z I270 Z I274 := NX_fr hF458 (by omega) (by omega) (by omega)
      have hr461 := RV_keep hr (NX.tr nx455 nx460)
      exact ih Z I274 J rc rs (x3 + 6) h459 hr461 (by omega) (by omega) (by omega) (by omega)
    · skip
      refine ⟨hv1, ?_⟩
      refine sfX11_day h.1 h.2.1 h.2.2.1 (fun v278 I277 hW463 hF464 => ?_)
      have h465 := IV_x h hW463 hF464 (by intro a k h; omega)
      have nx466 : NX Z I Z I277 := NX_fr hF464 (by omega) (by omega) (by omega)
      refine ⟨hv1, ?_⟩
      refine sfX12_day h465.2.2.2.1 h465.2.2.2.2.1 (fun v281 I280 hW468 hF469 => ?_)
      have h470 := IV_m h465 hW468 hF469 (by intro a k h; omega)
      have nx471 : NX Z I277 Z I280 := NX_fr hF469 (by omega) (by omega) (by omega)
      have hr472 := RV_keep hr (NX.tr nx466 nx471)
      exact ih Z I280 J rc rs (x3 + 6) h470 hr472 (by omega) (by omega) (by omega) (by omega)
    · skip
      refine ⟨hv1, ?_⟩
      refine sfX11_meet h.1 h.2.2.1 (fun v284 I283 hW474 hF475 => ?_)
      have h476 := IV_x h hW474 hF475 (by intro a k h; omega)
      have nx477 : NX Z I Z I283 := NX_fr hF475 (by omega) (by omega) (by omega)
      refine ⟨hv1, ?_⟩
      refine sfX12_meet h476.2.2.2.1 h476.2.2.2.2.1 (fun v287 I286 hW479 hF480 => ?_)
      have h481 := IV_m h476 hW479 hF480 (by intro a k h; omega)
      have nx482 : NX Z I283 Z I286 := NX_fr hF480 (by omega) (by omega) (by omega)
      have hr483 := RV_keep hr (NX.tr nx477 nx482)
      exact ih Z I286 J rc rs (x3 + 6) h481 hr483 (by omega) (by omega) (by omega) (by omega)
    · skip
      refine sfX11_year h.1 h.2.2.1 (fun v289 I288 hW485 hF486 => ?_)
      have h487 := IV_x h hW485 hF486 (by intro a k h; omega)
      have nx488 : NX Z I Z I288 := NX_fr hF486 (by omega) (by omega) (by omega)
      refine sfX12_year h487.2.2.2.1 h487.2.2.2.2.1 (fun v291 I290 hW490 hF491 => ?_)
      have h492 := IV_m h487 hW490 hF491 (by intro a k h; omega)
      have nx493 : NX Z I288 Z I290 := NX_fr hF491 (by omega) (by omega) (by omega)
      have hr494 := RV_keep hr (NX.tr nx488 nx493)
      exact ih Z I290 J rc rs (x3 + 6) h492 hr494 (by omega) (by omega) (by omega) (by omega)
    · skip
      refine ⟨hv1, ?_⟩
      refine sfX11_come h.1 h.2.2.1 (fun v294 I293 hW496 hF497 => ?_)
      have h498 := IV_x h hW496 hF497 (by intro a k h; omega)
      have nx499 : NX Z I Z I293 := NX_fr hF497 (by omega) (by omega) (by omega)
      refine ⟨hv1, ?_⟩
      refine sfX12_come h498.2.2.2.1 h498.2.2.2.2.1 (fun v297 I296 hW501 hF502 => ?_)
      have h503 := IV_m h498 hW501 hF502 (by intro a k h; omega)
      have nx504 : NX Z I293 Z I296 := NX_fr hF502 (by omega) (by omega) (by omega)
      have hr505 := RV_keep hr (NX.tr nx499 nx504)
      exact ih Z I296 J rc rs (x3 + 6) h503 hr505 (by omega) (by omega) (by omega) (by omega)
    · skip
      refine ⟨hv1, ?_⟩
      refine sfX11_seed h.1 h.2.2.1 (fun v300 I299 hW507 hF508 => ?_)
      have h509 := IV_x h hW507 hF508 (by intro a k h; omega)
      have nx510 : NX Z I Z I299 := NX_fr hF508 (by omega) (by omega) (by omega)
      refine ⟨hv1, ?_⟩
      refine sfX12_seed h509.2.2.2.1 h509.2.2.2.2.1 (fun v303 I302 hW512 hF513 => ?_)
      have h514 := IV_m h509 hW512 hF513 (by intro a k h; omega)
      have nx515 : NX Z I299 Z I302 := NX_fr hF513 (by omega) (by omega) (by omega)
      have hr516 := RV_keep hr (NX.tr nx510 nx515)
      exact ih Z I302 J rc rs (x3 + 6) h514 hr516 (by omega) (by omega) (by omega) (by omega)
    · skip
      refine sfX11_image h.1 h.2.2.1 (fun v305 I304 hW518 hF519 hp517 => ?_)
      have h520 := IV_x h hW518 hF519 (by intro a k h; omega)
      have e25 := congrArg Int32.toInt (hF519 25 1 (by omega))
      have e458 := congrArg Int32.toInt (hF519 45 8 (by omega))
      refine ⟨38, 1946, rc - 100, rs - 2100, by omega, by omega, ?_⟩
      refine qX12_image hG h520.2.2.2 (fun Z306 I306 J306 hS521 hpi => ⟨1, rfl, (IV_s h520 hS521).1, hS521.1.1, ?_⟩)
      have h525 := IV_s h520 hS521
      have m25 := congrArg Int32.toInt (hS521.2.2.2.2.1 25 1 (by omega))
      have m458 := congrArg Int32.toInt (hS521.2.2.2.2.1 45 8 (by omega))
      have m08 := congrArg Int32.toInt (hS521.2.2.2.2.1 0 8 (by omega))
      have hr526 : RV Z306 I306 := ⟨by omega, ⟨fun q => absurd q (by omega), fun q => by obtain ⟨w9, hw9⟩ := hpi; rw [hw9] at q; cases q⟩⟩
      exact ih Z306 I306 J306 (rc - 100) (rs - 2100) (x3 + 6) h525 hr526 (by omega) (by omega) (by omega) (by omega)
    · skip
      refine sfX11_back h.1 h.2.2.1 (fun v308 I307 hW528 hF529 hp527 => ?_)
      have h530 := IV_x h hW528 hF529 (by intro a k h; omega)
      have nx531 : NX Z I Z I307 := NX_fr hF529 (by omega) (by omega) (by omega)
      refine qX12_back h530.2.2.2 (fun v310 I309 hS532 hpb => ?_)
      have h533 := IV_s h530 hS532
      have nx534 := NX_st h530 hS532
      have hr535 := RV_keep hr (NX.tr nx531 nx534)
      exact ih Z I309 J rc rs (x3 + 6) h533 hr535 (by omega) (by omega) (by omega) (by omega)
    · skip
      refine ⟨hv1, ?_⟩
      refine sfX11_status h.1 h.2.2.1 (fun v313  => ?_)
      have nx537 : NX Z I Z I := NX.rf
      refine ⟨hv1, ?_⟩
      refine sfX12_status h.2.2.2.1 h.2.2.2.2.1 (fun v316  => ?_)
      have nx539 : NX Z I Z I := NX.rf
      have hr540 := RV_keep hr (NX.tr nx537 nx539)
      exact ih Z I J rc rs (x3 + 6) h hr540 (by omega) (by omega) (by omega) (by omega)
