set_option maxRecDepth 20000 in
set_option maxHeartbeats 4000000 in
/-- the law's loop goes on well -/
theorem lL_law {G : jdG} {nm : String} {b L : Nat} {xs : Nat → Int32} {sA sV : Nat → Nat} (hG : gOK G sA sV) (hXs : ∀ U, G.2.2.2.2 U → va_X b L xs U G.2.2.1) (hL : L ≤ 100000) : ∀ m : Nat, ∀ (Z : jdL) (I : jdI) (J : jdJ) (rc rs : Nat) (x3 : Int32), IV Z I → RV Z I → 0 ≤ x3.toInt → (L : Int) - x3.toInt + 6 < (m : Int) → 20 * ((L : Int) - x3.toInt) ≤ (rc : Int) → 350 * ((L : Int) - x3.toInt) ≤ (rs : Int) → x3.toInt ≤ (L : Int) → Jd G (mLaw nm) (lawF G) (2046 + 1) rc rs 18 [(0, .ref b), (1, .ref (gb G + 0)), (2, .ref (gb G + 45)), (3, .int x3)] [] Z I J := by
  intro m
  induction m with
  | zero =>
    intro Z I J rc rs x3 h hr h0 hm h1 h2 h3
    have hr1 := hr.1
    omega
  | succ m ih0 =>
    have ih : ∀ (Z : jdL) (I : jdI) (J : jdJ) (rc rs : Nat) (x3 : Int32), IV Z I → RV Z I → 0 ≤ x3.toInt → (L : Int) - x3.toInt + 6 < (m : Int) → 20 * ((L : Int) - x3.toInt) ≤ (rc : Int) → 350 * ((L : Int) - x3.toInt) ≤ (rs : Int) ∧ x3.toInt ≤ (L : Int) → Jd G (mLaw nm) (lawF G) (2046 + 1) rc rs 18 [(0, .ref b), (1, .ref (gb G + 0)), (2, .ref (gb G + 45)), (3, .int x3)] [] Z I J := fun Z I J rc rs x3 h hr a1 a2 a3 a4 => ih0 Z I J rc rs x3 h hr a1 a2 a3 a4.1 a4.2
    intro Z I J rc rs x3 h hr h0 hm h1 h2 h3
    have hr1 := hr.1
    have qL : (Nat.toInt32 L).toInt = (L : Int) := nI_toInt (by omega)
    have q6 : (6 : Int32).toInt = 6 := rfl
    have q1 : (1 : Int32).toInt = 1 := rfl
    have q2 : (2 : Int32).toInt = 2 := rfl
    have q3 : (3 : Int32).toInt = 3 := rfl
    have q4 : (4 : Int32).toInt = 4 := rfl
    have q5 : (5 : Int32).toInt = 5 := rfl
    have s6 := i32_sub (Nat.toInt32 L) 6 (by omega) (by omega)
    refine rL_law hXs h.1 h.2.2.2.1 ⟨fun _ => trivial, fun hc => ?_⟩
    have hc := mt Int32.lt_iff_toInt_lt.mpr hc
    have e6 := i32_add x3 6 (by omega) (by omega)
    have hv0 : vp_in x3 L := vp_of (by omega) (by omega)
    have e1 := i32_add x3 1 (by omega) (by omega)
    have hv1 : vp_in (x3 + 1) L := vp_of (by omega) (by omega)
    have e2 := i32_add x3 2 (by omega) (by omega)
    have hv2 : vp_in (x3 + 2) L := vp_of (by omega) (by omega)
    have e3 := i32_add x3 3 (by omega) (by omega)
    have hv3 : vp_in (x3 + 3) L := vp_of (by omega) (by omega)
    have e4 := i32_add x3 4 (by omega) (by omega)
    have hv4 : vp_in (x3 + 4) L := vp_of (by omega) (by omega)
    have e5 := i32_add x3 5 (by omega) (by omega)
    have hv5 : vp_in (x3 + 5) L := vp_of (by omega) (by omega)
    refine ⟨hv0, ?_⟩
    refine ⟨fun hc1 => ?_, fun hc2 => ?_, fun hc3 => ?_, fun hc4 => ?_, fun hc5 => ?_, fun hc6 => ?_, fun hc7 => ?_, fun hc8 => ?_, fun hc9 => ?_, fun hc10 => ?_, fun hc11 => ?_, fun hc12 => ?_, fun hc13 => ?_, fun hc14 => ?_, fun hc15 => ?_, fun hc16 => ?_, fun hc17 => ?_, fun hc18 => ?_, fun hc19 => ?_, fun hc20 => ?_, fun hc21 => ?_, fun hc22 => ?_, fun hc23 => ?_, fun hc24 => ?_, fun hc25 => ?_, fun hc26 => ?_, fun hc27 => ?_, fun hc28 => ?_, fun hc29 => ?_, fun hc30 => ?_, fun hc31 => ?_, fun hc32 => ?_, fun hc33 => ?_, fun hc34 => ?_, fun hc35 => ?_, fun hc36 => ?_, fun hc37 => ?_, fun hc38 => ?_, fun hc39 => ?_, fun hc40 => ?_, fun hc41 => ?_, fun hc42 => ?_, fun hc43 => ?_, fun hc44 => ?_, fun hc45 => ?_, fun hc46 => ?_, fun hc47 => ?_, fun hc48 => ?_⟩
    · skip
      have hr49 := hr
      exact ih Z I J rc rs (x3 + 6) h hr49 (by omega) (by omega) (by omega) (by omega)
    · skip
      refine ⟨hv1, ?_⟩
      refine ⟨hv2, ?_⟩
      refine ⟨hv3, ?_⟩
      refine ⟨0, 0, rc - 100, rs - 2100, by omega, by omega, ?_⟩
      refine qX11_row h (fun v52 Z5 I5 J5 hS50 hp51 nx53 => ⟨v52, rfl, hS50.1, hS50.2.2.2.1, ?_⟩)
      refine ⟨hv1, ?_⟩
      refine ⟨hv2, ?_⟩
      refine ⟨hv3, ?_⟩
      refine sfX12_row hS50.2.2.2.1 hS50.2.2.2.2.1 (fun v10 I9 J9 hW55 hF56 hp54 => ?_)
      have h57 := IV_m hS50 hW55 hF56 (by intro a k h; omega)
      have nx58 : NX Z5 I5 Z5 I9 := NX_fr hF56 (by omega) (by omega) (by omega)
      have hr59 := RV_keep hr (NX.tr nx53 nx58)
      exact ih Z5 I9 J9 (rc - 100) (rs - 2100) (x3 + 6) h57 hr59 (by omega) (by omega) (by omega) (by omega)
    · skip
      refine ⟨hv1, ?_⟩
      refine ⟨hv2, ?_⟩
      refine ⟨hv3, ?_⟩
      refine ⟨hv4, ?_⟩
      refine sfX11_set h.1 h.2.2.1 (fun v16 I15 J15 hW61 hF62 hp60 => ?_)
      have h63 := IV_x h hW61 hF62 (by intro a k h; omega)
      have nx64 : NX Z I Z I15 := NX_fr hF62 (by omega) (by omega) (by omega)
      refine ⟨hv1, ?_⟩
      refine ⟨hv2, ?_⟩
      refine ⟨hv3, ?_⟩
      refine ⟨hv4, ?_⟩
      refine sfX12_set h63.2.2.2.1 h63.2.2.2.2.1 (fun v22 I21 J21 hW66 hF67 hp65 => ?_)
      have h68 := IV_m h63 hW66 hF67 (by intro a k h; omega)
      have nx69 : NX Z I15 Z I21 := NX_fr hF67 (by omega) (by omega) (by omega)
      have hr70 := RV_keep hr (NX.tr nx64 nx69)
      exact ih Z I21 J21 rc rs (x3 + 6) h68 hr70 (by omega) (by omega) (by omega) (by omega)
    · skip
      refine ⟨hv1, ?_⟩
      refine ⟨hv2, ?_⟩
      refine ⟨hv3, ?_⟩
      refine ⟨hv4, ?_⟩
      refine ⟨hv5, ?_⟩
      refine sfX11_copy h.1 h.2.2.1 (fun v29 I28 J28 hW72 hF73 hp71 => ?_)
      have h74 := IV_x h hW72 hF73 (by intro a k h; omega)
      have nx75 : NX Z I Z I28 := NX_fr hF73 (by omega) (by omega) (by omega)
      refine ⟨hv1, ?_⟩
      refine ⟨hv2, ?_⟩
      refine ⟨hv3, ?_⟩
      refine ⟨hv4, ?_⟩
      refine ⟨hv5, ?_⟩
      refine sfX12_copy h74.2.2.2.1 h74.2.2.2.2.1 (fun v36 I35 J35 hW77 hF78 hp76 => ?_)
      have h79 := IV_m h74 hW77 hF78 (by intro a k h; omega)
      have nx80 : NX Z I28 Z I35 := NX_fr hF78 (by omega) (by omega) (by omega)
      have hr81 := RV_keep hr (NX.tr nx75 nx80)
      exact ih Z I35 J35 rc rs (x3 + 6) h79 hr81 (by omega) (by omega) (by omega) (by omega)
    · skip
      refine ⟨hv1, ?_⟩
      refine ⟨hv2, ?_⟩
      refine sfX11_element h.1 h.2.2.1 (fun v40  => ?_)
      have nx83 : NX Z I Z I := NX.rf
      refine ⟨hv1, ?_⟩
      refine ⟨hv2, ?_⟩
      refine sfX12_element h.2.2.2.1 h.2.2.2.2.1 (fun v44  => ?_)
      have nx85 : NX Z I Z I := NX.rf
      have hr86 := RV_keep hr (NX.tr nx83 nx85)
      exact ih Z I J rc rs (x3 + 6) h hr86 (by omega) (by omega) (by omega) (by omega)
    · skip
      refine ⟨hv1, ?_⟩
      refine sfX11_holds hG h.1 h.2.1 h.2.2.1 (fun v47  hp87 => ?_)
      have nx88 : NX Z I Z I := NX.rf
      refine ⟨hv1, ?_⟩
      refine sfX12_holds h.2.2.2.1 h.2.2.2.2.1 (fun v50  hp89 => ?_)
      have nx90 : NX Z I Z I := NX.rf
      have hr91 := RV_keep hr (NX.tr nx88 nx90)
      exact ih Z I J rc rs (x3 + 6) h hr91 (by omega) (by omega) (by omega) (by omega)
    · skip
      refine ⟨hv1, ?_⟩
      refine ⟨hv2, ?_⟩
      refine ⟨hv3, ?_⟩
      refine ⟨1, 1, rc - 100, rs - 2100, by omega, by omega, ?_⟩
      refine qX11_coachman h (fun v94 Z54 I54 J54 hS92 hp93 nx95 => ⟨v94, rfl, hS92.1, hS92.2.2.2.1, ?_⟩)
      refine ⟨hv1, ?_⟩
      refine ⟨hv2, ?_⟩
      refine ⟨hv3, ?_⟩
      refine sfX12_coachman hS92.2.2.2.1 hS92.2.2.2.2.1 (fun v59 I58 hW97 hF98 hp96 => ?_)
      have h99 := IV_m hS92 hW97 hF98 (by intro a k h; omega)
      have nx100 : NX Z54 I54 Z54 I58 := NX_fr hF98 (by omega) (by omega) (by omega)
      have hr101 := RV_keep hr (NX.tr nx95 nx100)
      exact ih Z54 I58 J54 (rc - 100) (rs - 2100) (x3 + 6) h99 hr101 (by omega) (by omega) (by omega) (by omega)
    · skip
      refine ⟨hv1, ?_⟩
      refine ⟨hv2, ?_⟩
      refine sfX11_says hG h.1 h.2.1 h.2.2.1 (fun v63 I62 hW103 hF104 => ?_)
      have h105 := IV_x h hW103 hF104 (by intro a k h; omega)
      have nx106 : NX Z I Z I62 := NX_fr hF104 (by omega) (by omega) (by omega)
      refine ⟨hv1, ?_⟩
      refine ⟨hv2, ?_⟩
      refine sfX12_says h105.2.2.2.1 h105.2.2.2.2.1 (fun v67 I66 hW108 hF109 => ?_)
      have h110 := IV_m h105 hW108 hF109 (by intro a k h; omega)
      have nx111 : NX Z I62 Z I66 := NX_fr hF109 (by omega) (by omega) (by omega)
      have hr112 := RV_keep hr (NX.tr nx106 nx111)
      exact ih Z I66 J rc rs (x3 + 6) h110 hr112 (by omega) (by omega) (by omega) (by omega)
    · skip
      refine ⟨hv1, ?_⟩
      refine ⟨hv2, ?_⟩
      refine sfX11_person h.1 h.2.2.1 (fun v71 I70 hW114 hF115 => ?_)
      have h116 := IV_x h hW114 hF115 (by intro a k h; omega)
      have nx117 : NX Z I Z I70 := NX_fr hF115 (by omega) (by omega) (by omega)
      refine ⟨hv1, ?_⟩
      refine ⟨hv2, ?_⟩
      refine sfX12_person h116.2.2.2.1 h116.2.2.2.2.1 (fun v75 I74 hW119 hF120 => ?_)
      have h121 := IV_m h116 hW119 hF120 (by intro a k h; omega)
      have nx122 : NX Z I70 Z I74 := NX_fr hF120 (by omega) (by omega) (by omega)
      have hr123 := RV_keep hr (NX.tr nx117 nx122)
      exact ih Z I74 J rc rs (x3 + 6) h121 hr123 (by omega) (by omega) (by omega) (by omega)
    · skip
      refine ⟨hv1, ?_⟩
      refine ⟨hv2, ?_⟩
      refine ⟨hv3, ?_⟩
      refine sfX11_change h.1 h.2.2.1 (fun v80 I79 hW125 hF126 => ?_)
      have h127 := IV_x h hW125 hF126 (by intro a k h; omega)
      have nx128 : NX Z I Z I79 := NX_fr hF126 (by omega) (by omega) (by omega)
      refine ⟨hv1, ?_⟩
      refine ⟨hv2, ?_⟩
      refine ⟨hv3, ?_⟩
      refine sfX12_change h127.2.2.2.1 h127.2.2.2.2.1 (fun v85 I84 hW130 hF131 => ?_)
      have h132 := IV_m h127 hW130 hF131 (by intro a k h; omega)
      have nx133 : NX Z I79 Z I84 := NX_fr hF131 (by omega) (by omega) (by omega)
      have hr134 := RV_keep hr (NX.tr nx128 nx133)
      exact ih Z I84 J rc rs (x3 + 6) h132 hr134 (by omega) (by omega) (by omega) (by omega)
    · skip
      refine ⟨hv1, ?_⟩
      refine ⟨hv2, ?_⟩
      refine ⟨hv3, ?_⟩
      refine sfX11_know h.1 h.2.2.1 (fun v90 I89 hW136 hF137 => ?_)
      have h138 := IV_x h hW136 hF137 (by intro a k h; omega)
      have nx139 : NX Z I Z I89 := NX_fr hF137 (by omega) (by omega) (by omega)
      refine ⟨hv1, ?_⟩
      refine ⟨hv2, ?_⟩
      refine ⟨hv3, ?_⟩
      refine sfX12_know h138.2.2.2.1 h138.2.2.2.2.1 (fun v95 I94 hW141 hF142 => ?_)
      have h143 := IV_m h138 hW141 hF142 (by intro a k h; omega)
      have nx144 : NX Z I89 Z I94 := NX_fr hF142 (by omega) (by omega) (by omega)
      have hr145 := RV_keep hr (NX.tr nx139 nx144)
      exact ih Z I94 J rc rs (x3 + 6) h143 hr145 (by omega) (by omega) (by omega) (by omega)
    · skip
      refine ⟨hv1, ?_⟩
      refine ⟨hv2, ?_⟩
      refine sfX11_ask h.1 h.2.2.1 (fun v99 I98 hW147 hF148 => ?_)
      have h149 := IV_x h hW147 hF148 (by intro a k h; omega)
      have nx150 : NX Z I Z I98 := NX_fr hF148 (by omega) (by omega) (by omega)
      refine ⟨hv1, ?_⟩
      refine ⟨hv2, ?_⟩
      refine sfX12_ask h149.2.2.2.1 h149.2.2.2.2.1 (fun v103 I102 hW152 hF153 => ?_)
      have h154 := IV_m h149 hW152 hF153 (by intro a k h; omega)
      have nx155 : NX Z I98 Z I102 := NX_fr hF153 (by omega) (by omega) (by omega)
      have hr156 := RV_keep hr (NX.tr nx150 nx155)
      exact ih Z I102 J rc rs (x3 + 6) h154 hr156 (by omega) (by omega) (by omega) (by omega)
    · skip
      refine ⟨hv1, ?_⟩
      refine sfX11_feed h.1 h.2.2.1 (fun v106 I105 hW158 hF159 hp157 => ?_)
      have h160 := IV_x h hW158 hF159 (by intro a k h; omega)
      have e08 := congrArg Int32.toInt (hF159 0 8 (by omega))
      have e458 := congrArg Int32.toInt (hF159 45 8 (by omega))
      refine ⟨hv1, ?_⟩
      refine sfX12_feed h160.2.2.2.1 h160.2.2.2.2.1 (fun v109 I108 hW162 hF163 hp161 => ?_)
      have h164 := IV_m h160 hW162 hF163 (by intro a k h; omega)
      have m25 := congrArg Int32.toInt (hF163 25 1 (by omega))
      have m08 := congrArg Int32.toInt (hF163 0 8 (by omega))
      have hr165 : RV Z I108 := ⟨by omega, by rw [show (I108 0 8).toInt = (I 0 8).toInt by omega]; exact hr.2⟩
      exact ih Z I108 J rc rs (x3 + 6) h164 hr165 (by omega) (by omega) (by omega) (by omega)
    · skip
      refine sfX11_wipe h.1 h.2.2.1 (fun v111 I110 hW167 hF168 hp166 => ?_)
      have h169 := IV_x h hW167 hF168 (by intro a k h; omega)
      have e08 := congrArg Int32.toInt (hF168 0 8 (by omega))
      have e458 := congrArg Int32.toInt (hF168 45 8 (by omega))
      refine sfX12_wipe h169.2.2.2.1 h169.2.2.2.2.1 (fun v113 I112 hW171 hF172 hp170 => ?_)
      have h173 := IV_m h169 hW171 hF172 (by intro a k h; omega)
      have m25 := congrArg Int32.toInt (hF172 25 1 (by omega))
      have m08 := congrArg Int32.toInt (hF172 0 8 (by omega))
      have hr174 : RV Z I112 := ⟨by omega, by rw [show (I112 0 8).toInt = (I 0 8).toInt by omega]; exact hr.2⟩
      exact ih Z I112 J rc rs (x3 + 6) h173 hr174 (by omega) (by omega) (by omega) (by omega)
    · skip
      refine sfX11_town hG h.1 h.2.2.1 (fun v115 I114 hW176 hF177 hp175 => ?_)
      have h178 := IV_x h hW176 hF177 (by intro a k h; omega)
      have e08 := congrArg Int32.toInt (hF177 0 8 (by omega))
      have e458 := congrArg Int32.toInt (hF177 45 8 (by omega))
      have hfc := fC_le Z 45
      refine ⟨(fC Z 45), (fS Z 45), rc - 100, rs - 2100, by omega, by omega, ?_⟩
      refine qX12_town hG h178.2.2.2 (fun v181 Z116 I116 J116 hS179 hp180 => ⟨v181, rfl, (IV_s h178 hS179).1, hS179.1.1, ?_⟩)
      have h183 := IV_s h178 hS179
      have hbz := h178.2.2.2.2.2.1
      have m25 := congrArg Int32.toInt (hS179.2.2.2.2.1 25 1 (by omega))
      have m08 := congrArg Int32.toInt (hS179.2.2.2.2.1 0 8 (by omega))
      have eZ := hS179.2.2.2.1 45 20 (by omega) (by omega)
      have hr184 : RV Z116 I116 := ⟨by omega, by rw [show (I116 0 8).toInt = (I 0 8).toInt by omega, eZ]; exact hr.2⟩
      exact ih Z116 I116 J116 (rc - 100) (rs - 2100) (x3 + 6) h183 hr184 (by omega) (by omega) (by omega) (by omega)
    · skip
      refine ⟨hv1, ?_⟩
      refine ⟨hv2, ?_⟩
      refine sfX11_personOf h.1 h.2.2.1 (fun v120 I119 hW186 hF187 => ?_)
      have h188 := IV_x h hW186 hF187 (by intro a k h; omega)
      have nx189 : NX Z I Z I119 := NX_fr hF187 (by omega) (by omega) (by omega)
      refine ⟨hv1, ?_⟩
      refine ⟨hv2, ?_⟩
      refine sfX12_personOf h188.2.2.2.1 h188.2.2.2.2.1 (fun v124 I123 hW191 hF192 => ?_)
      have h193 := IV_m h188 hW191 hF192 (by intro a k h; omega)
      have nx194 : NX Z I119 Z I123 := NX_fr hF192 (by omega) (by omega) (by omega)
      have hr195 := RV_keep hr (NX.tr nx189 nx194)
      exact ih Z I123 J rc rs (x3 + 6) h193 hr195 (by omega) (by omega) (by omega) (by omega)
    · skip
      refine ⟨hv1, ?_⟩
      refine ⟨hv2, ?_⟩
      refine sfX11_knownOf h.1 h.2.2.1 (fun v128 I127 hW197 hF198 => ?_)
      have h199 := IV_x h hW197 hF198 (by intro a k h; omega)
      have nx200 : NX Z I Z I127 := NX_fr hF198 (by omega) (by omega) (by omega)
      refine ⟨hv1, ?_⟩
      refine ⟨hv2, ?_⟩
      refine sfX12_knownOf h199.2.2.2.1 h199.2.2.2.2.1 (fun v132 I131 hW202 hF203 => ?_)
      have h204 := IV_m h199 hW202 hF203 (by intro a k h; omega)
      have nx205 : NX Z I127 Z I131 := NX_fr hF203 (by omega) (by omega) (by omega)
      have hr206 := RV_keep hr (NX.tr nx200 nx205)
      exact ih Z I131 J rc rs (x3 + 6) h204 hr206 (by omega) (by omega) (by omega) (by omega)
    · skip
      refine ⟨hv1, ?_⟩
      refine sfX11_isGroup h.1 h.2.2.1 (fun v135 I134 hW208 hF209 => ?_)
      have h210 := IV_x h hW208 hF209 (by intro a k h; omega)
      have nx211 : NX Z I Z I134 := NX_fr hF209 (by omega) (by omega) (by omega)
      refine ⟨hv1, ?_⟩
      refine sfX12_isGroup h210.2.2.2.1 h210.2.2.2.2.1 (fun v138 I137 hW213 hF214 => ?_)
      have h215 := IV_m h210 hW213 hF214 (by intro a k h; omega)
      have nx216 : NX Z I134 Z I137 := NX_fr hF214 (by omega) (by omega) (by omega)
      have hr217 := RV_keep hr (NX.tr nx211 nx216)
      exact ih Z I137 J rc rs (x3 + 6) h215 hr217 (by omega) (by omega) (by omega) (by omega)
    · skip
      refine ⟨hv1, ?_⟩
      refine sfX11_groups h.1 h.2.2.1 (fun v141 I140 hW219 hF220 => ?_)
      have h221 := IV_x h hW219 hF220 (by intro a k h; omega)
      have nx222 : NX Z I Z I140 := NX_fr hF220 (by omega) (by omega) (by omega)
      refine ⟨hv1, ?_⟩
      refine sfX12_groups h221.2.2.2.1 h221.2.2.2.2.1 (fun v144 I143 hW224 hF225 => ?_)
      have h226 := IV_m h221 hW224 hF225 (by intro a k h; omega)
      have nx227 : NX Z I140 Z I143 := NX_fr hF225 (by omega) (by omega) (by omega)
      have hr228 := RV_keep hr (NX.tr nx222 nx227)
      exact ih Z I143 J rc rs (x3 + 6) h226 hr228 (by omega) (by omega) (by omega) (by omega)
    · skip
      refine ⟨hv1, ?_⟩
      refine sfX11_firstOf h.1 h.2.2.1 (fun v147 I146 hW230 hF231 => ?_)
      have h232 := IV_x h hW230 hF231 (by intro a k h; omega)
      have nx233 : NX Z I Z I146 := NX_fr hF231 (by omega) (by omega) (by omega)
      refine ⟨hv1, ?_⟩
      refine sfX12_firstOf h232.2.2.2.1 h232.2.2.2.2.1 (fun v150 I149 hW235 hF236 => ?_)
      have h237 := IV_m h232 hW235 hF236 (by intro a k h; omega)
      have nx238 : NX Z I146 Z I149 := NX_fr hF236 (by omega) (by omega) (by omega)
      have hr239 := RV_keep hr (NX.tr nx233 nx238)
      exact ih Z I149 J rc rs (x3 + 6) h237 hr239 (by omega) (by omega) (by omega) (by omega)
    · skip
      refine ⟨hv1, ?_⟩
      refine sfX11_most h.1 h.2.2.1 (fun v153 I152 hW241 hF242 => ?_)
      have h243 := IV_x h hW241 hF242 (by intro a k h; omega)
      have nx244 : NX Z I Z I152 := NX_fr hF242 (by omega) (by omega) (by omega)
      refine ⟨hv1, ?_⟩
      refine sfX12_most h243.2.2.2.1 h243.2.2.2.2.1 (fun v156 I155 hW246 hF247 => ?_)
      have h248 := IV_m h243 hW246 hF247 (by intro a k h; omega)
      have nx249 : NX Z I152 Z I155 := NX_fr hF247 (by omega) (by omega) (by omega)
      have hr250 := RV_keep hr (NX.tr nx244 nx249)
      exact ih Z I155 J rc rs (x3 + 6) h248 hr250 (by omega) (by omega) (by omega) (by omega)
    · skip
      refine ⟨hv1, ?_⟩
      refine ⟨hv2, ?_⟩
      refine sfX11_mostOf h.1 h.2.2.1 (fun v160 I159 hW252 hF253 => ?_)
      have h254 := IV_x h hW252 hF253 (by intro a k h; omega)
      have nx255 : NX Z I Z I159 := NX_fr hF253 (by omega) (by omega) (by omega)
      refine ⟨hv1, ?_⟩
      refine ⟨hv2, ?_⟩
      refine sfX12_mostOf h254.2.2.2.1 h254.2.2.2.2.1 (fun v164 I163 hW257 hF258 => ?_)
      have h259 := IV_m h254 hW257 hF258 (by intro a k h; omega)
      have nx260 : NX Z I159 Z I163 := NX_fr hF258 (by omega) (by omega) (by omega)
      have hr261 := RV_keep hr (NX.tr nx255 nx260)
      exact ih Z I163 J rc rs (x3 + 6) h259 hr261 (by omega) (by omega) (by omega) (by omega)
    · skip
      refine ⟨hv1, ?_⟩
      refine ⟨hv2, ?_⟩
      refine ⟨hv3, ?_⟩
      refine sfX11_sends h.1 h.2.1 h.2.2.1 (fun v169 I168 hW263 hF264 => ?_)
      have h265 := IV_x h hW263 hF264 (by intro a k h; omega)
      have nx266 : NX Z I Z I168 := NX_fr hF264 (by omega) (by omega) (by omega)
      refine ⟨hv1, ?_⟩
      refine ⟨hv2, ?_⟩
      refine ⟨hv3, ?_⟩
      refine sfX12_sends h265.2.2.2.1 h265.2.2.2.2.1 (fun v174 I173 hW268 hF269 => ?_)
      have h270 := IV_m h265 hW268 hF269 (by intro a k h; omega)
      have nx271 : NX Z I168 Z I173 := NX_fr hF269 (by omega) (by omega) (by omega)
      have hr272 := RV_keep hr (NX.tr nx266 nx271)
      exact ih Z I173 J rc rs (x3 + 6) h270 hr272 (by omega) (by omega) (by omega) (by omega)
    · skip
      refine ⟨hv1, ?_⟩
      refine sfX11_run h.1 h.2.1 h.2.2.1 (fun v177 I176 hW274 hF275 => ?_)
      have h276 := IV_x h hW274 hF275 (by intro a k h; omega)
      have nx277 : NX Z I Z I176 := NX_fr hF275 (by omega) (by omega) (by omega)
      refine ⟨hv1, ?_⟩
      refine sfX12_run h276.2.2.2.1 h276.2.2.2.2.1 (fun v180 I179 hW279 hF280 => ?_)
      have h281 := IV_m h276 hW279 hF280 (by intro a k h; omega)
      have nx282 : NX Z I176 Z I179 := NX_fr hF280 (by omega) (by omega) (by omega)
      have hr283 := RV_keep hr (NX.tr nx277 nx282)
      exact ih Z I179 J rc rs (x3 + 6) h281 hr283 (by omega) (by omega) (by omega) (by omega)
    · skip
      refine ⟨hv1, ?_⟩
      refine ⟨hv2, ?_⟩
      refine sfX11_coach h.1 h.2.1 h.2.2.1 (fun v184 I183 hW285 hF286 => ?_)
      have h287 := IV_x h hW285 hF286 (by intro a k h; omega)
      have nx288 : NX Z I Z I183 := NX_fr hF286 (by omega) (by omega) (by omega)
      refine ⟨hv1, ?_⟩
      refine ⟨hv2, ?_⟩
      refine sfX12_coach h287.2.2.2.1 h287.2.2.2.2.1 (fun v188 I187 hW290 hF291 => ?_)
      have h292 := IV_m h287 hW290 hF291 (by intro a k h; omega)
      have nx293 : NX Z I183 Z I187 := NX_fr hF291 (by omega) (by omega) (by omega)
      have hr294 := RV_keep hr (NX.tr nx288 nx293)
      exact ih Z I187 J rc rs (x3 + 6) h292 hr294 (by omega) (by omega) (by omega) (by omega)
    · skip
      refine ⟨hv1, ?_⟩
      refine sfX11_left h.1 h.2.1 h.2.2.1 (fun v191 I190 hW296 hF297 => ?_)
      have h298 := IV_x h hW296 hF297 (by intro a k h; omega)
      have nx299 : NX Z I Z I190 := NX_fr hF297 (by omega) (by omega) (by omega)
      refine ⟨hv1, ?_⟩
      refine sfX12_left h298.2.2.2.1 h298.2.2.2.2.1 (fun v194 I193 hW301 hF302 => ?_)
      have h303 := IV_m h298 hW301 hF302 (by intro a k h; omega)
      have nx304 : NX Z I190 Z I193 := NX_fr hF302 (by omega) (by omega) (by omega)
      have hr305 := RV_keep hr (NX.tr nx299 nx304)
      exact ih Z I193 J rc rs (x3 + 6) h303 hr305 (by omega) (by omega) (by omega) (by omega)
    · skip
      refine ⟨hv1, ?_⟩
      refine ⟨hv2, ?_⟩
      refine sfX11_waits h.1 h.2.1 h.2.2.1 (fun v198 I197 hW307 hF308 => ?_)
      have h309 := IV_x h hW307 hF308 (by intro a k h; omega)
      have nx310 : NX Z I Z I197 := NX_fr hF308 (by omega) (by omega) (by omega)
      refine ⟨hv1, ?_⟩
      refine ⟨hv2, ?_⟩
      refine sfX12_waits h309.2.2.2.1 h309.2.2.2.2.1 (fun v202 I201 hW312 hF313 => ?_)
      have h314 := IV_m h309 hW312 hF313 (by intro a k h; omega)
      have nx315 : NX Z I197 Z I201 := NX_fr hF313 (by omega) (by omega) (by omega)
      have hr316 := RV_keep hr (NX.tr nx310 nx315)
      exact ih Z I201 J rc rs (x3 + 6) h314 hr316 (by omega) (by omega) (by omega) (by omega)
    · skip
      refine ⟨hv1, ?_⟩
      refine sfX11_least h.1 h.2.2.1 (fun v205 I204 hW318 hF319 => ?_)
      have h320 := IV_x h hW318 hF319 (by intro a k h; omega)
      have nx321 : NX Z I Z I204 := NX_fr hF319 (by omega) (by omega) (by omega)
      refine ⟨hv1, ?_⟩
      refine sfX12_least h320.2.2.2.1 h320.2.2.2.2.1 (fun v208 I207 hW323 hF324 => ?_)
      have h325 := IV_m h320 hW323 hF324 (by intro a k h; omega)
      have nx326 : NX Z I204 Z I207 := NX_fr hF324 (by omega) (by omega) (by omega)
      have hr327 := RV_keep hr (NX.tr nx321 nx326)
      exact ih Z I207 J rc rs (x3 + 6) h325 hr327 (by omega) (by omega) (by omega) (by omega)
    · skip
      refine sfX11_head h.1 h.2.1 h.2.2.1 (fun v210 I209 hW329 hF330 => ?_)
      have h331 := IV_x h hW329 hF330 (by intro a k h; omega)
      have nx332 : NX Z I Z I209 := NX_fr hF330 (by omega) (by omega) (by omega)
      refine sfX12_head h331.2.2.2.1 h331.2.2.2.2.1 (fun v212 I211 hW334 hF335 => ?_)
      have h336 := IV_m h331 hW334 hF335 (by intro a k h; omega)
      have nx337 : NX Z I209 Z I211 := NX_fr hF335 (by omega) (by omega) (by omega)
      have hr338 := RV_keep hr (NX.tr nx332 nx337)
      exact ih Z I211 J rc rs (x3 + 6) h336 hr338 (by omega) (by omega) (by omega) (by omega)
    · skip
      refine ⟨hv1, ?_⟩
      refine sfX11_days h.1 h.2.1 h.2.2.1 (fun v215 I214 hW340 hF341 => ?_)
      have h342 := IV_x h hW340 hF341 (by intro a k h; omega)
      have nx343 : NX Z I Z I214 := NX_fr hF341 (by omega) (by omega) (by omega)
      refine ⟨hv1, ?_⟩
      have hfc := fC_le Z 45
      refine ⟨(fC Z 45), (fS Z 45), rc - 100, rs - 2100, by omega, by omega, ?_⟩
      refine qX12_days hG h342.2.2.2 (fun v346 Z217 I217 J217 hS344 => ⟨v346, rfl, (IV_s h342 hS344).1, hS344.1.1, ?_⟩)
      have h348 := IV_s h342 hS344
      have nx347 := NX_st h342 hS344
      have hr349 := RV_keep hr (NX.tr nx343 nx347)
      exact ih Z217 I217 J217 (rc - 100) (rs - 2100) (x3 + 6) h348 hr349 (by omega) (by omega) (by omega) (by omega)
    · skip
      refine ⟨hv1, ?_⟩
      refine sfX11_ever h.1 h.2.2.1 (fun v220 I219 hW351 hF352 => ?_)
      have h353 := IV_x h hW351 hF352 (by intro a k h; omega)
      have nx354 : NX Z I Z I219 := NX_fr hF352 (by omega) (by omega) (by omega)
      refine ⟨hv1, ?_⟩
      refine ⟨1, 40, rc - 100, rs - 2100, by omega, by omega, ?_⟩
      refine qX12_ever h353.2.2.2 (fun v357 Z222 I222 J222 hS355 => ⟨v357, rfl, (IV_s h353 hS355).1, hS355.1.1, ?_⟩)
      have h359 := IV_s h353 hS355
      have nx358 := NX_st h353 hS355
      have hr360 := RV_keep hr (NX.tr nx354 nx358)
      exact ih Z222 I222 J222 (rc - 100) (rs - 2100) (x3 + 6) h359 hr360 (by omega) (by omega) (by omega) (by omega)
    · skip
      refine sfX11_hire h.1 h.2.2.1 (fun v224 I223 hW362 hF363 => ?_)
      have h364 := IV_x h hW362 hF363 (by intro a k h; omega)
      have nx365 : NX Z I Z I223 := NX_fr hF363 (by omega) (by omega) (by omega)
      have hfc := fC_le Z 45
      refine ⟨(fC Z 45), (fS Z 45), rc - 100, rs - 2100, by omega, by omega, ?_⟩
      refine qX12_hire hG h364.2.2.2 (fun v368 Z225 I225 J225 hS366 => ⟨v368, rfl, (IV_s h364 hS366).1, hS366.1.1, ?_⟩)
      have h370 := IV_s h364 hS366
      have nx369 := NX_st h364 hS366
      have hr371 := RV_keep hr (NX.tr nx365 nx369)
      exact ih Z225 I225 J225 (rc - 100) (rs - 2100) (x3 + 6) h370 hr371 (by omega) (by omega) (by omega) (by omega)
    · skip
      refine ⟨hv1, ?_⟩
      refine sfX11_feast h.1 h.2.2.1 (fun v228 I227 hW373 hF374 => ?_)
      have h375 := IV_x h hW373 hF374 (by intro a k h; omega)
      have nx376 : NX Z I Z I227 := NX_fr hF374 (by omega) (by omega) (by omega)
      refine ⟨hv1, ?_⟩
      refine ⟨40, 2026, rc - 100, rs - 2100, by omega, by omega, ?_⟩
      refine qX12_feast hG h375.2.2.2 (fun v379 Z230 I230 J230 hS377 => ⟨v379, rfl, (IV_s h375 hS377).1, hS377.1.1, ?_⟩)
      have h381 := IV_s h375 hS377
      have nx380 := NX_st h375 hS377
      have hr382 := RV_keep hr (NX.tr nx376 nx380)
      exact ih Z230 I230 J230 (rc - 100) (rs - 2100) (x3 + 6) h381 hr382 (by omega) (by omega) (by omega) (by omega)
    · skip
      refine ⟨hv1, ?_⟩
      refine ⟨hv2, ?_⟩
      refine sfX11_closes h.1 h.2.2.1 (fun v234 I233 hW384 hF385 => ?_)
      have h386 := IV_x h hW384 hF385 (by intro a k h; omega)
      have nx387 : NX Z I Z I233 := NX_fr hF385 (by omega) (by omega) (by omega)
      refine ⟨hv1, ?_⟩
      refine ⟨hv2, ?_⟩
      have hfc := fC_le Z 45
      refine ⟨(fC Z 45), (fS Z 45), rc - 100, rs - 2100, by omega, by omega, ?_⟩
      refine qX12_closes hG h386.2.2.2 (fun v390 Z237 I237 J237 hS388 => ⟨v390, rfl, (IV_s h386 hS388).1, hS388.1.1, ?_⟩)
      have h392 := IV_s h386 hS388
      have nx391 := NX_st h386 hS388
      have hr393 := RV_keep hr (NX.tr nx387 nx391)
      exact ih Z237 I237 J237 (rc - 100) (rs - 2100) (x3 + 6) h392 hr393 (by omega) (by omega) (by omega) (by omega)
    · skip
      refine sfX11_worst h.1 h.2.2.1 (fun v239 I238 hW395 hF396 => ?_)
      have h397 := IV_x h hW395 hF396 (by intro a k h; omega)
      have nx398 : NX Z I Z I238 := NX_fr hF396 (by omega) (by omega) (by omega)
      have hfc := fC_le Z 45
      refine ⟨(fC Z 45), (fS Z 45), rc - 100, rs - 2100, by omega, by omega, ?_⟩
      refine qX12_worst hG h397.2.2.2 (fun v401 Z240 I240 J240 hS399 => ⟨v401, rfl, (IV_s h397 hS399).1, hS399.1.1, ?_⟩)
      have h403 := IV_s h397 hS399
      have nx402 := NX_st h397 hS399
      have hr404 := RV_keep hr (NX.tr nx398 nx402)
      exact ih Z240 I240 J240 (rc - 100) (rs - 2100) (x3 + 6) h403 hr404 (by omega) (by omega) (by omega) (by omega)
    · skip
      refine ⟨hv1, ?_⟩
      refine sfX11_fits h.1 h.2.2.1 (fun v243 I242 hW406 hF407 => ?_)
      have h408 := IV_x h hW406 hF407 (by intro a k h; omega)
      have nx409 : NX Z I Z I242 := NX_fr hF407 (by omega) (by omega) (by omega)
      refine ⟨hv1, ?_⟩
      have hfc := fC_le Z 45
      refine ⟨(fC Z 45), (fS Z 45), rc - 100, rs - 2100, by omega, by omega, ?_⟩
      refine qX12_fits hG h408.2.2.2 (fun v412 Z245 I245 J245 hS410 => ⟨v412, rfl, (IV_s h408 hS410).1, hS410.1.1, ?_⟩)
      have h414 := IV_s h408 hS410
      have nx413 := NX_st h408 hS410
      have hr415 := RV_keep hr (NX.tr nx409 nx413)
      exact ih Z245 I245 J245 (rc - 100) (rs - 2100) (x3 + 6) h414 hr415 (by omega) (by omega) (by omega) (by omega)
    · skip
      refine ⟨hv1, ?_⟩
      refine sfX11_sure h.1 h.2.2.1 (fun v248 I247 hW417 hF418 => ?_)
      have h419 := IV_x h hW417 hF418 (by intro a k h; omega)
      have nx420 : NX Z I Z I247 := NX_fr hF418 (by omega) (by omega) (by omega)
      refine ⟨hv1, ?_⟩
      have hfc := fC_le Z 45
      refine ⟨(fC Z 45), (fS Z 45), rc - 100, rs - 2100, by omega, by omega, ?_⟩
      refine qX12_sure hG h419.2.2.2 (fun v423 Z250 I250 J250 hS421 => ⟨v423, rfl, (IV_s h419 hS421).1, hS421.1.1, ?_⟩)
      have h425 := IV_s h419 hS421
      have nx424 := NX_st h419 hS421
      have hr426 := RV_keep hr (NX.tr nx420 nx424)
      exact ih Z250 I250 J250 (rc - 100) (rs - 2100) (x3 + 6) h425 hr426 (by omega) (by omega) (by omega) (by omega)
    · skip
      refine ⟨hv1, ?_⟩
      refine ⟨hv2, ?_⟩
      refine sfX11_judge h.1 h.2.2.1 (fun v254 I253 hW428 hF429 => ?_)
      have h430 := IV_x h hW428 hF429 (by intro a k h; omega)
      have nx431 : NX Z I Z I253 := NX_fr hF429 (by omega) (by omega) (by omega)
      refine ⟨hv1, ?_⟩
      refine ⟨hv2, ?_⟩
      refine sfX12_judge h430.2.2.2.1 h430.2.2.2.2.1 (fun v258 I257 hW433 hF434 => ?_)
      have h435 := IV_m h430 hW433 hF434 (by intro a k h; omega)
      have nx436 : NX Z I253 Z I257 := NX_fr hF434 (by omega) (by omega) (by omega)
      have hr437 := RV_keep hr (NX.tr nx431 nx436)
      exact ih Z I257 J rc rs (x3 + 6) h435 hr437 (by omega) (by omega) (by omega) (by omega)
    · skip
      refine ⟨hv1, ?_⟩
      refine ⟨hv2, ?_⟩
      refine ⟨hv3, ?_⟩
      refine sfX11_behind h.1 h.2.2.1 (fun v263 I262 hW439 hF440 => ?_)
      have h441 := IV_x h hW439 hF440 (by intro a k h; omega)
      have nx442 : NX Z I Z I262 := NX_fr hF440 (by omega) (by omega) (by omega)
      refine ⟨hv1, ?_⟩
      refine ⟨hv2, ?_⟩
      refine ⟨hv3, ?_⟩
      have hfc := fC_le Z 45
      refine ⟨(fC Z 45), (fS Z 45), rc - 100, rs - 2100, by omega, by omega, ?_⟩
      refine qX12_behind hG h441.2.2.2 (fun v445 Z267 I267 J267 hS443 => ⟨v445, rfl, (IV_s h441 hS443).1, hS443.1.1, ?_⟩)
      have h447 := IV_s h441 hS443
      have nx446 := NX_st h441 hS443
      have hr448 := RV_keep hr (NX.tr nx442 nx446)
      exact ih Z267 I267 J267 (rc - 100) (rs - 2100) (x3 + 6) h447 hr448 (by omega) (by omega) (by omega) (by omega)
    · skip
      refine ⟨hv1, ?_⟩
      refine ⟨hv2, ?_⟩
      refine sfX11_rides h.1 h.2.2.1 (fun v271 I270 hW450 hF451 => ?_)
      have h452 := IV_x h hW450 hF451 (by intro a k h; omega)
      have nx453 : NX Z I Z I270 := NX_fr hF451 (by omega) (by omega) (by omega)
      refine ⟨hv1, ?_⟩
      refine ⟨hv2, ?_⟩
      refine sfX12_rides h452.2.2.2.1 h452.2.2.2.2.1 (fun v275 I274 hW455 hF456 => ?_)
      have h457 := IV_m h452 hW455 hF456 (by intro a k h; omega)
      have nx458 : NX Z I270 Z I274 := NX_fr hF456 (by omega) (by omega) (by omega)
      have hr459 := RV_keep hr (NX.tr nx453 nx458)
      exact ih Z I274 J rc rs (x3 + 6) h457 hr459 (by omega) (by omega) (by omega) (by omega)
    · skip
      refine ⟨hv1, ?_⟩
      refine sfX11_day h.1 h.2.1 h.2.2.1 (fun v278 I277 hW461 hF462 => ?_)
      have h463 := IV_x h hW461 hF462 (by intro a k h; omega)
      have nx464 : NX Z I Z I277 := NX_fr hF462 (by omega) (by omega) (by omega)
      refine ⟨hv1, ?_⟩
      refine sfX12_day h463.2.2.2.1 h463.2.2.2.2.1 (fun v281 I280 hW466 hF467 => ?_)
      have h468 := IV_m h463 hW466 hF467 (by intro a k h; omega)
      have nx469 : NX Z I277 Z I280 := NX_fr hF467 (by omega) (by omega) (by omega)
      have hr470 := RV_keep hr (NX.tr nx464 nx469)
      exact ih Z I280 J rc rs (x3 + 6) h468 hr470 (by omega) (by omega) (by omega) (by omega)
    · skip
      refine ⟨hv1, ?_⟩
      refine sfX11_meet h.1 h.2.2.1 (fun v284 I283 hW472 hF473 => ?_)
      have h474 := IV_x h hW472 hF473 (by intro a k h; omega)
      have nx475 : NX Z I Z I283 := NX_fr hF473 (by omega) (by omega) (by omega)
      refine ⟨hv1, ?_⟩
      refine sfX12_meet h474.2.2.2.1 h474.2.2.2.2.1 (fun v287 I286 hW477 hF478 => ?_)
      have h479 := IV_m h474 hW477 hF478 (by intro a k h; omega)
      have nx480 : NX Z I283 Z I286 := NX_fr hF478 (by omega) (by omega) (by omega)
      have hr481 := RV_keep hr (NX.tr nx475 nx480)
      exact ih Z I286 J rc rs (x3 + 6) h479 hr481 (by omega) (by omega) (by omega) (by omega)
    · skip
      refine sfX11_year h.1 h.2.2.1 (fun v289 I288 hW483 hF484 => ?_)
      have h485 := IV_x h hW483 hF484 (by intro a k h; omega)
      have nx486 : NX Z I Z I288 := NX_fr hF484 (by omega) (by omega) (by omega)
      refine sfX12_year h485.2.2.2.1 h485.2.2.2.2.1 (fun v291 I290 hW488 hF489 => ?_)
      have h490 := IV_m h485 hW488 hF489 (by intro a k h; omega)
      have nx491 : NX Z I288 Z I290 := NX_fr hF489 (by omega) (by omega) (by omega)
      have hr492 := RV_keep hr (NX.tr nx486 nx491)
      exact ih Z I290 J rc rs (x3 + 6) h490 hr492 (by omega) (by omega) (by omega) (by omega)
    · skip
      refine ⟨hv1, ?_⟩
      refine sfX11_come h.1 h.2.2.1 (fun v294 I293 hW494 hF495 => ?_)
      have h496 := IV_x h hW494 hF495 (by intro a k h; omega)
      have nx497 : NX Z I Z I293 := NX_fr hF495 (by omega) (by omega) (by omega)
      refine ⟨hv1, ?_⟩
      refine sfX12_come h496.2.2.2.1 h496.2.2.2.2.1 (fun v297 I296 hW499 hF500 => ?_)
      have h501 := IV_m h496 hW499 hF500 (by intro a k h; omega)
      have nx502 : NX Z I293 Z I296 := NX_fr hF500 (by omega) (by omega) (by omega)
      have hr503 := RV_keep hr (NX.tr nx497 nx502)
      exact ih Z I296 J rc rs (x3 + 6) h501 hr503 (by omega) (by omega) (by omega) (by omega)
    · skip
      refine ⟨hv1, ?_⟩
      refine sfX11_seed h.1 h.2.2.1 (fun v300 I299 hW505 hF506 => ?_)
      have h507 := IV_x h hW505 hF506 (by intro a k h; omega)
      have nx508 : NX Z I Z I299 := NX_fr hF506 (by omega) (by omega) (by omega)
      refine ⟨hv1, ?_⟩
      refine sfX12_seed h507.2.2.2.1 h507.2.2.2.2.1 (fun v303 I302 hW510 hF511 => ?_)
      have h512 := IV_m h507 hW510 hF511 (by intro a k h; omega)
      have nx513 : NX Z I299 Z I302 := NX_fr hF511 (by omega) (by omega) (by omega)
      have hr514 := RV_keep hr (NX.tr nx508 nx513)
      exact ih Z I302 J rc rs (x3 + 6) h512 hr514 (by omega) (by omega) (by omega) (by omega)
    · skip
      refine sfX11_image h.1 h.2.2.1 (fun v305 I304 hW516 hF517 hp515 => ?_)
      have h518 := IV_x h hW516 hF517 (by intro a k h; omega)
      have e25 := congrArg Int32.toInt (hF517 25 1 (by omega))
      have e458 := congrArg Int32.toInt (hF517 45 8 (by omega))
      refine ⟨38, 1946, rc - 100, rs - 2100, by omega, by omega, ?_⟩
      refine qX12_image hG h518.2.2.2 (fun Z306 I306 J306 hS519 hpi => ⟨1, rfl, (IV_s h518 hS519).1, hS519.1.1, ?_⟩)
      have h523 := IV_s h518 hS519
      have m25 := congrArg Int32.toInt (hS519.2.2.2.2.1 25 1 (by omega))
      have m458 := congrArg Int32.toInt (hS519.2.2.2.2.1 45 8 (by omega))
      have m08 := congrArg Int32.toInt (hS519.2.2.2.2.1 0 8 (by omega))
      have hr524 : RV Z306 I306 := ⟨by omega, ⟨fun q => absurd q (by omega), fun q => by obtain ⟨w9, hw9⟩ := hpi; rw [hw9] at q; cases q⟩⟩
      exact ih Z306 I306 J306 (rc - 100) (rs - 2100) (x3 + 6) h523 hr524 (by omega) (by omega) (by omega) (by omega)
    · skip
      refine sfX11_back h.1 h.2.2.1 (fun v308 I307 hW526 hF527 hp525 => ?_)
      have h528 := IV_x h hW526 hF527 (by intro a k h; omega)
      have nx529 : NX Z I Z I307 := NX_fr hF527 (by omega) (by omega) (by omega)
      refine qX12_back h528.2.2.2 (fun v310 I309 hS530 hpb => ?_)
      have h531 := IV_s h528 hS530
      have nx532 := NX_st h528 hS530
      refine ⟨fun hc533 => ?_, fun hc534 => ?_⟩
      · skip
        have hr535 := RV_keep hr (NX.tr nx529 nx532)
        exact ih Z I309 J rc rs (x3 + 6) h531 hr535 (by omega) (by omega) (by omega) (by omega)
      · skip
        refine hc534 (Int32.toInt_inj.mp ?_)
        by_cases hP : Z.2.1 45 20 = none
        · have g1 := hr.2.mpr hP
          have g2 := hpb.1 hP
          omega
        · have g1 := mt hr.2.mp hP
          have g2 := hpb.2 hP
          omega
    · skip
      refine ⟨hv1, ?_⟩
      refine sfX11_status h.1 h.2.2.1 (fun v313  => ?_)
      have nx537 : NX Z I Z I := NX.rf
      refine ⟨hv1, ?_⟩
      refine sfX12_status h.2.2.2.1 h.2.2.2.2.1 (fun v316  => ?_)
      have nx539 : NX Z I Z I := NX.rf
      have hr540 := RV_keep hr (NX.tr nx537 nx539)
      exact ih Z I J rc rs (x3 + 6) h hr540 (by omega) (by omega) (by omega) (by omega)
