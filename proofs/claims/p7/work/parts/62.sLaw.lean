set_option maxRecDepth 20000 in
set_option maxHeartbeats 4000000 in
/-- the law's loop goes on well -/
theorem lL_law {G : jdG} {nm : String} {b L : Nat} {xs : Nat → Int32} {sA sV : Nat → Nat} (hG : gOK G sA sV) (hXs : ∀ U, G.2.2.2.2 U → va_X b L xs U G.2.2.1) (hL : L ≤ 100000) : ∀ m : Nat, ∀ (Z : jdL) (I : jdI) (J : jdJ) (rc rs : Nat) (x3 : Int32), IV Z I → 0 ≤ x3.toInt → (L : Int) - x3.toInt + 6 < (m : Int) → 20 * ((L : Int) - x3.toInt) ≤ (rc : Int) → 350 * ((L : Int) - x3.toInt) ≤ (rs : Int) → x3.toInt ≤ (L : Int) → Jd G (mLaw nm) (lawF G) (2046 + 1) rc rs 18 [(0, .ref b), (1, .ref (gb G + 0)), (2, .ref (gb G + 45)), (3, .int x3)] [] Z I J := by
  intro m
  induction m with
  | zero =>
    intro Z I J rc rs x3 h h0 hm h1 h2 h3
    omega
  | succ m ih0 =>
    have ih : ∀ (Z : jdL) (I : jdI) (J : jdJ) (rc rs : Nat) (x3 : Int32), IV Z I → 0 ≤ x3.toInt → (L : Int) - x3.toInt + 6 < (m : Int) → 20 * ((L : Int) - x3.toInt) ≤ (rc : Int) → 350 * ((L : Int) - x3.toInt) ≤ (rs : Int) ∧ x3.toInt ≤ (L : Int) → Jd G (mLaw nm) (lawF G) (2046 + 1) rc rs 18 [(0, .ref b), (1, .ref (gb G + 0)), (2, .ref (gb G + 45)), (3, .int x3)] [] Z I J := fun Z I J rc rs x3 h a1 a2 a3 a4 => ih0 Z I J rc rs x3 h a1 a2 a3 a4.1 a4.2
    intro Z I J rc rs x3 h h0 hm h1 h2 h3
    have qL : (Nat.toInt32 L).toInt = (L : Int) := nI_toInt (by omega)
    have q6 : (6 : Int32).toInt = 6 := rfl
    have q1 : (1 : Int32).toInt = 1 := rfl
    have q2 : (2 : Int32).toInt = 2 := rfl
    have q3 : (3 : Int32).toInt = 3 := rfl
    have q4 : (4 : Int32).toInt = 4 := rfl
    have q5 : (5 : Int32).toInt = 5 := rfl
    have s6 := i32_sub (Nat.toInt32 L) 6 (by omega) (by omega)
    refine rL_law hXs h.1 h.2.2.2.1 ⟨fun _ => trivial, fun hc => ?_⟩
    have hc := mt Int32.lt_iff_toInt_lt.mpr hc
    have e6 := i32_add x3 6 (by omega) (by omega)
    have hv0 : vp_in x3 L := vp_of (by omega) (by omega)
    have e1 := i32_add x3 1 (by omega) (by omega)
    have hv1 : vp_in (x3 + 1) L := vp_of (by omega) (by omega)
    have e2 := i32_add x3 2 (by omega) (by omega)
    have hv2 : vp_in (x3 + 2) L := vp_of (by omega) (by omega)
    have e3 := i32_add x3 3 (by omega) (by omega)
    have hv3 : vp_in (x3 + 3) L := vp_of (by omega) (by omega)
    have e4 := i32_add x3 4 (by omega) (by omega)
    have hv4 : vp_in (x3 + 4) L := vp_of (by omega) (by omega)
    have e5 := i32_add x3 5 (by omega) (by omega)
    have hv5 : vp_in (x3 + 5) L := vp_of (by omega) (by omega)
    refine ⟨hv0, ?_⟩
    refine ⟨fun hc1 => ?_, fun hc2 => ?_, fun hc3 => ?_, fun hc4 => ?_, fun hc5 => ?_, fun hc6 => ?_, fun hc7 => ?_, fun hc8 => ?_, fun hc9 => ?_, fun hc10 => ?_, fun hc11 => ?_, fun hc12 => ?_, fun hc13 => ?_, fun hc14 => ?_, fun hc15 => ?_, fun hc16 => ?_, fun hc17 => ?_, fun hc18 => ?_, fun hc19 => ?_, fun hc20 => ?_, fun hc21 => ?_, fun hc22 => ?_, fun hc23 => ?_, fun hc24 => ?_, fun hc25 => ?_, fun hc26 => ?_, fun hc27 => ?_, fun hc28 => ?_, fun hc29 => ?_, fun hc30 => ?_, fun hc31 => ?_, fun hc32 => ?_, fun hc33 => ?_, fun hc34 => ?_, fun hc35 => ?_, fun hc36 => ?_, fun hc37 => ?_, fun hc38 => ?_, fun hc39 => ?_, fun hc40 => ?_, fun hc41 => ?_, fun hc42 => ?_, fun hc43 => ?_, fun hc44 => ?_, fun hc45 => ?_, fun hc46 => ?_, fun hc47 => ?_, fun hc48 => ?_⟩
    · skip
      exact ih Z I J rc rs (x3 + 6) h (by omega) (by omega) (by omega) (by omega)
    · skip
      refine ⟨hv1, ?_⟩
      refine ⟨hv2, ?_⟩
      refine ⟨hv3, ?_⟩
      refine ⟨0, 0, rc - 100, rs - 2100, by omega, by omega, ?_⟩
      refine qX11_row h (fun v51 Z5 I5 J5 hS49 hp50 => ⟨v51, rfl, hS49.1, hS49.2.2.2.1, ?_⟩)
      refine ⟨hv1, ?_⟩
      refine ⟨hv2, ?_⟩
      refine ⟨hv3, ?_⟩
      refine sfX12_row hS49.2.2.2.1 hS49.2.2.2.2.1 (fun v10 I9 J9 hW53 hF54 hp52 => ?_)
      have h55 := IV_m hS49 hW53 hF54 (by intro a k h; omega)
      exact ih Z5 I9 J9 (rc - 100) (rs - 2100) (x3 + 6) h55 (by omega) (by omega) (by omega) (by omega)
    · skip
      refine ⟨hv1, ?_⟩
      refine ⟨hv2, ?_⟩
      refine ⟨hv3, ?_⟩
      refine ⟨hv4, ?_⟩
      refine sfX11_set h.1 h.2.2.1 (fun v16 I15 J15 hW57 hF58 => ?_)
      have h59 := IV_x h hW57 hF58 (by intro a k h; omega)
      refine ⟨hv1, ?_⟩
      refine ⟨hv2, ?_⟩
      refine ⟨hv3, ?_⟩
      refine ⟨hv4, ?_⟩
      refine sfX12_set h59.2.2.2.1 h59.2.2.2.2.1 (fun v22 I21 J21 hW61 hF62 => ?_)
      have h63 := IV_m h59 hW61 hF62 (by intro a k h; omega)
      exact ih Z I21 J21 rc rs (x3 + 6) h63 (by omega) (by omega) (by omega) (by omega)
    · skip
      refine ⟨hv1, ?_⟩
      refine ⟨hv2, ?_⟩
      refine ⟨hv3, ?_⟩
      refine ⟨hv4, ?_⟩
      refine ⟨hv5, ?_⟩
      refine sfX11_copy h.1 h.2.2.1 (fun v29 I28 J28 hW65 hF66 => ?_)
      have h67 := IV_x h hW65 hF66 (by intro a k h; omega)
      refine ⟨hv1, ?_⟩
      refine ⟨hv2, ?_⟩
      refine ⟨hv3, ?_⟩
      refine ⟨hv4, ?_⟩
      refine ⟨hv5, ?_⟩
      refine sfX12_copy h67.2.2.2.1 h67.2.2.2.2.1 (fun v36 I35 J35 hW69 hF70 => ?_)
      have h71 := IV_m h67 hW69 hF70 (by intro a k h; omega)
      exact ih Z I35 J35 rc rs (x3 + 6) h71 (by omega) (by omega) (by omega) (by omega)
    · skip
      refine ⟨hv1, ?_⟩
      refine ⟨hv2, ?_⟩
      refine sfX11_element h.1 h.2.2.1 (fun v40  => ?_)
      refine ⟨hv1, ?_⟩
      refine ⟨hv2, ?_⟩
      refine sfX12_element h.2.2.2.1 h.2.2.2.2.1 (fun v44  => ?_)
      exact ih Z I J rc rs (x3 + 6) h (by omega) (by omega) (by omega) (by omega)
    · skip
      refine ⟨hv1, ?_⟩
      refine sfX11_holds hG h.1 h.2.1 h.2.2.1 (fun v47  => ?_)
      refine ⟨hv1, ?_⟩
      refine sfX12_holds h.2.2.2.1 h.2.2.2.2.1 (fun v50  => ?_)
      exact ih Z I J rc rs (x3 + 6) h (by omega) (by omega) (by omega) (by omega)
    · skip
      refine ⟨hv1, ?_⟩
      refine ⟨hv2, ?_⟩
      refine ⟨hv3, ?_⟩
      refine ⟨1, 1, rc - 100, rs - 2100, by omega, by omega, ?_⟩
      refine qX11_coachman h (fun v78 Z54 I54 J54 hS76 hp77 => ⟨v78, rfl, hS76.1, hS76.2.2.2.1, ?_⟩)
      refine ⟨hv1, ?_⟩
      refine ⟨hv2, ?_⟩
      refine ⟨hv3, ?_⟩
      refine sfX12_coachman hS76.2.2.2.1 hS76.2.2.2.2.1 (fun v59 I58 hW80 hF81 hp79 => ?_)
      have h82 := IV_m hS76 hW80 hF81 (by intro a k h; omega)
      refine ⟨fun hc83 => ?_, fun hc84 => ?_⟩
      · skip
        exact ih Z54 I58 J54 (rc - 100) (rs - 2100) (x3 + 6) h82 (by omega) (by omega) (by omega) (by omega)
      · skip
        exact hc84 (Int32.toInt_inj.mp (by omega))
    · skip
      refine ⟨hv1, ?_⟩
      refine ⟨hv2, ?_⟩
      refine sfX11_says hG h.1 h.2.1 h.2.2.1 (fun v63 I62 hW86 hF87 => ?_)
      have h88 := IV_x h hW86 hF87 (by intro a k h; omega)
      refine ⟨hv1, ?_⟩
      refine ⟨hv2, ?_⟩
      refine sfX12_says h88.2.2.2.1 h88.2.2.2.2.1 (fun v67 I66 hW90 hF91 => ?_)
      have h92 := IV_m h88 hW90 hF91 (by intro a k h; omega)
      exact ih Z I66 J rc rs (x3 + 6) h92 (by omega) (by omega) (by omega) (by omega)
    · skip
      refine ⟨hv1, ?_⟩
      refine ⟨hv2, ?_⟩
      refine sfX11_person h.1 h.2.2.1 (fun v71 I70 hW94 hF95 => ?_)
      have h96 := IV_x h hW94 hF95 (by intro a k h; omega)
      refine ⟨hv1, ?_⟩
      refine ⟨hv2, ?_⟩
      refine sfX12_person h96.2.2.2.1 h96.2.2.2.2.1 (fun v75 I74 hW98 hF99 => ?_)
      have h100 := IV_m h96 hW98 hF99 (by intro a k h; omega)
      exact ih Z I74 J rc rs (x3 + 6) h100 (by omega) (by omega) (by omega) (by omega)
    · skip
      refine ⟨hv1, ?_⟩
      refine ⟨hv2, ?_⟩
      refine ⟨hv3, ?_⟩
      refine sfX11_change h.1 h.2.2.1 (fun v80 I79 hW102 hF103 => ?_)
      have h104 := IV_x h hW102 hF103 (by intro a k h; omega)
      refine ⟨hv1, ?_⟩
      refine ⟨hv2, ?_⟩
      refine ⟨hv3, ?_⟩
      refine sfX12_change h104.2.2.2.1 h104.2.2.2.2.1 (fun v85 I84 hW106 hF107 => ?_)
      have h108 := IV_m h104 hW106 hF107 (by intro a k h; omega)
      exact ih Z I84 J rc rs (x3 + 6) h108 (by omega) (by omega) (by omega) (by omega)
    · skip
      refine ⟨hv1, ?_⟩
      refine ⟨hv2, ?_⟩
      refine ⟨hv3, ?_⟩
      refine sfX11_know h.1 h.2.2.1 (fun v90 I89 hW110 hF111 => ?_)
      have h112 := IV_x h hW110 hF111 (by intro a k h; omega)
      refine ⟨hv1, ?_⟩
      refine ⟨hv2, ?_⟩
      refine ⟨hv3, ?_⟩
      refine sfX12_know h112.2.2.2.1 h112.2.2.2.2.1 (fun v95 I94 hW114 hF115 => ?_)
      have h116 := IV_m h112 hW114 hF115 (by intro a k h; omega)
      exact ih Z I94 J rc rs (x3 + 6) h116 (by omega) (by omega) (by omega) (by omega)
    · skip
      refine ⟨hv1, ?_⟩
      refine ⟨hv2, ?_⟩
      refine sfX11_ask h.1 h.2.2.1 (fun v99 I98 hW118 hF119 => ?_)
      have h120 := IV_x h hW118 hF119 (by intro a k h; omega)
      refine ⟨hv1, ?_⟩
      refine ⟨hv2, ?_⟩
      refine sfX12_ask h120.2.2.2.1 h120.2.2.2.2.1 (fun v103 I102 hW122 hF123 => ?_)
      have h124 := IV_m h120 hW122 hF123 (by intro a k h; omega)
      exact ih Z I102 J rc rs (x3 + 6) h124 (by omega) (by omega) (by omega) (by omega)
    · skip
      refine ⟨hv1, ?_⟩
      refine sfX11_feed h.1 h.2.2.1 (fun v106 I105 hW126 hF127 => ?_)
      have h128 := IV_x h hW126 hF127 (by intro a k h; omega)
      refine ⟨hv1, ?_⟩
      refine sfX12_feed h128.2.2.2.1 h128.2.2.2.2.1 (fun v109 I108 hW130 hF131 => ?_)
      have h132 := IV_m h128 hW130 hF131 (by intro a k h; omega)
      exact ih Z I108 J rc rs (x3 + 6) h132 (by omega) (by omega) (by omega) (by omega)
    · skip
      refine sfX11_wipe h.1 h.2.2.1 (fun v111 I110 hW134 hF135 => ?_)
      have h136 := IV_x h hW134 hF135 (by intro a k h; omega)
      refine sfX12_wipe h136.2.2.2.1 h136.2.2.2.2.1 (fun v113 I112 hW138 hF139 => ?_)
      have h140 := IV_m h136 hW138 hF139 (by intro a k h; omega)
      exact ih Z I112 J rc rs (x3 + 6) h140 (by omega) (by omega) (by omega) (by omega)
    · skip
      refine sfX11_town hG h.1 h.2.2.1 (fun v115 I114 hW142 hF143 => ?_)
      have h144 := IV_x h hW142 hF143 (by intro a k h; omega)
      have hfc := fC_le Z 45
      refine ⟨(fC Z 45), (fS Z 45), rc - 100, rs - 2100, by omega, by omega, ?_⟩
      refine qX12_town hG h144.2.2.2 (fun v147 Z116 I116 J116 hS145 => ⟨v147, rfl, (IV_s h144 hS145).1, hS145.1.1, ?_⟩)
      have h148 := IV_s h144 hS145
      exact ih Z116 I116 J116 (rc - 100) (rs - 2100) (x3 + 6) h148 (by omega) (by omega) (by omega) (by omega)
    · skip
      refine ⟨hv1, ?_⟩
      refine ⟨hv2, ?_⟩
      refine sfX11_personOf h.1 h.2.2.1 (fun v120 I119 hW150 hF151 => ?_)
      have h152 := IV_x h hW150 hF151 (by intro a k h; omega)
      refine ⟨hv1, ?_⟩
      refine ⟨hv2, ?_⟩
      refine sfX12_personOf h152.2.2.2.1 h152.2.2.2.2.1 (fun v124 I123 hW154 hF155 => ?_)
      have h156 := IV_m h152 hW154 hF155 (by intro a k h; omega)
      exact ih Z I123 J rc rs (x3 + 6) h156 (by omega) (by omega) (by omega) (by omega)
    · skip
      refine ⟨hv1, ?_⟩
      refine ⟨hv2, ?_⟩
      refine sfX11_knownOf h.1 h.2.2.1 (fun v128 I127 hW158 hF159 => ?_)
      have h160 := IV_x h hW158 hF159 (by intro a k h; omega)
      refine ⟨hv1, ?_⟩
      refine ⟨hv2, ?_⟩
      refine sfX12_knownOf h160.2.2.2.1 h160.2.2.2.2.1 (fun v132 I131 hW162 hF163 => ?_)
      have h164 := IV_m h160 hW162 hF163 (by intro a k h; omega)
      exact ih Z I131 J rc rs (x3 + 6) h164 (by omega) (by omega) (by omega) (by omega)
    · skip
      refine ⟨hv1, ?_⟩
      refine sfX11_isGroup h.1 h.2.2.1 (fun v135 I134 hW166 hF167 => ?_)
      have h168 := IV_x h hW166 hF167 (by intro a k h; omega)
      refine ⟨hv1, ?_⟩
      refine sfX12_isGroup h168.2.2.2.1 h168.2.2.2.2.1 (fun v138 I137 hW170 hF171 => ?_)
      have h172 := IV_m h168 hW170 hF171 (by intro a k h; omega)
      exact ih Z I137 J rc rs (x3 + 6) h172 (by omega) (by omega) (by omega) (by omega)
    · skip
      refine ⟨hv1, ?_⟩
      refine sfX11_groups h.1 h.2.2.1 (fun v141 I140 hW174 hF175 => ?_)
      have h176 := IV_x h hW174 hF175 (by intro a k h; omega)
      refine ⟨hv1, ?_⟩
      refine sfX12_groups h176.2.2.2.1 h176.2.2.2.2.1 (fun v144 I143 hW178 hF179 => ?_)
      have h180 := IV_m h176 hW178 hF179 (by intro a k h; omega)
      exact ih Z I143 J rc rs (x3 + 6) h180 (by omega) (by omega) (by omega) (by omega)
    · skip
      refine ⟨hv1, ?_⟩
      refine sfX11_firstOf h.1 h.2.2.1 (fun v147 I146 hW182 hF183 => ?_)
      have h184 := IV_x h hW182 hF183 (by intro a k h; omega)
      refine ⟨hv1, ?_⟩
      refine sfX12_firstOf h184.2.2.2.1 h184.2.2.2.2.1 (fun v150 I149 hW186 hF187 => ?_)
      have h188 := IV_m h184 hW186 hF187 (by intro a k h; omega)
      exact ih Z I149 J rc rs (x3 + 6) h188 (by omega) (by omega) (by omega) (by omega)
    · skip
      refine ⟨hv1, ?_⟩
      refine sfX11_most h.1 h.2.2.1 (fun v153 I152 hW190 hF191 => ?_)
      have h192 := IV_x h hW190 hF191 (by intro a k h; omega)
      refine ⟨hv1, ?_⟩
      refine sfX12_most h192.2.2.2.1 h192.2.2.2.2.1 (fun v156 I155 hW194 hF195 => ?_)
      have h196 := IV_m h192 hW194 hF195 (by intro a k h; omega)
      exact ih Z I155 J rc rs (x3 + 6) h196 (by omega) (by omega) (by omega) (by omega)
    · skip
      refine ⟨hv1, ?_⟩
      refine ⟨hv2, ?_⟩
      refine sfX11_mostOf h.1 h.2.2.1 (fun v160 I159 hW198 hF199 => ?_)
      have h200 := IV_x h hW198 hF199 (by intro a k h; omega)
      refine ⟨hv1, ?_⟩
      refine ⟨hv2, ?_⟩
      refine sfX12_mostOf h200.2.2.2.1 h200.2.2.2.2.1 (fun v164 I163 hW202 hF203 => ?_)
      have h204 := IV_m h200 hW202 hF203 (by intro a k h; omega)
      exact ih Z I163 J rc rs (x3 + 6) h204 (by omega) (by omega) (by omega) (by omega)
    · skip
      refine ⟨hv1, ?_⟩
      refine ⟨hv2, ?_⟩
      refine ⟨hv3, ?_⟩
      refine sfX11_sends h.1 h.2.1 h.2.2.1 (fun v169 I168 hW206 hF207 => ?_)
      have h208 := IV_x h hW206 hF207 (by intro a k h; omega)
      refine ⟨hv1, ?_⟩
      refine ⟨hv2, ?_⟩
      refine ⟨hv3, ?_⟩
      refine sfX12_sends h208.2.2.2.1 h208.2.2.2.2.1 (fun v174 I173 hW210 hF211 => ?_)
      have h212 := IV_m h208 hW210 hF211 (by intro a k h; omega)
      exact ih Z I173 J rc rs (x3 + 6) h212 (by omega) (by omega) (by omega) (by omega)
    · skip
      refine ⟨hv1, ?_⟩
      refine sfX11_run h.1 h.2.1 h.2.2.1 (fun v177 I176 hW214 hF215 => ?_)
      have h216 := IV_x h hW214 hF215 (by intro a k h; omega)
      refine ⟨hv1, ?_⟩
      refine sfX12_run h216.2.2.2.1 h216.2.2.2.2.1 (fun v180 I179 hW218 hF219 => ?_)
      have h220 := IV_m h216 hW218 hF219 (by intro a k h; omega)
      exact ih Z I179 J rc rs (x3 + 6) h220 (by omega) (by omega) (by omega) (by omega)
    · skip
      refine ⟨hv1, ?_⟩
      refine ⟨hv2, ?_⟩
      refine sfX11_coach h.1 h.2.1 h.2.2.1 (fun v184 I183 hW222 hF223 => ?_)
      have h224 := IV_x h hW222 hF223 (by intro a k h; omega)
      refine ⟨hv1, ?_⟩
      refine ⟨hv2, ?_⟩
      refine sfX12_coach h224.2.2.2.1 h224.2.2.2.2.1 (fun v188 I187 hW226 hF227 => ?_)
      have h228 := IV_m h224 hW226 hF227 (by intro a k h; omega)
      exact ih Z I187 J rc rs (x3 + 6) h228 (by omega) (by omega) (by omega) (by omega)
    · skip
      refine ⟨hv1, ?_⟩
      refine sfX11_left h.1 h.2.1 h.2.2.1 (fun v191 I190 hW230 hF231 => ?_)
      have h232 := IV_x h hW230 hF231 (by intro a k h; omega)
      refine ⟨hv1, ?_⟩
      refine sfX12_left h232.2.2.2.1 h232.2.2.2.2.1 (fun v194 I193 hW234 hF235 => ?_)
      have h236 := IV_m h232 hW234 hF235 (by intro a k h; omega)
      exact ih Z I193 J rc rs (x3 + 6) h236 (by omega) (by omega) (by omega) (by omega)
    · skip
      refine ⟨hv1, ?_⟩
      refine ⟨hv2, ?_⟩
      refine sfX11_waits h.1 h.2.1 h.2.2.1 (fun v198 I197 hW238 hF239 => ?_)
      have h240 := IV_x h hW238 hF239 (by intro a k h; omega)
      refine ⟨hv1, ?_⟩
      refine ⟨hv2, ?_⟩
      refine sfX12_waits h240.2.2.2.1 h240.2.2.2.2.1 (fun v202 I201 hW242 hF243 => ?_)
      have h244 := IV_m h240 hW242 hF243 (by intro a k h; omega)
      exact ih Z I201 J rc rs (x3 + 6) h244 (by omega) (by omega) (by omega) (by omega)
    · skip
      refine ⟨hv1, ?_⟩
      refine sfX11_least h.1 h.2.2.1 (fun v205 I204 hW246 hF247 => ?_)
      have h248 := IV_x h hW246 hF247 (by intro a k h; omega)
      refine ⟨hv1, ?_⟩
      refine sfX12_least h248.2.2.2.1 h248.2.2.2.2.1 (fun v208 I207 hW250 hF251 => ?_)
      have h252 := IV_m h248 hW250 hF251 (by intro a k h; omega)
      exact ih Z I207 J rc rs (x3 + 6) h252 (by omega) (by omega) (by omega) (by omega)
    · skip
      refine sfX11_head h.1 h.2.1 h.2.2.1 (fun v210 I209 hW254 hF255 => ?_)
      have h256 := IV_x h hW254 hF255 (by intro a k h; omega)
      refine sfX12_head h256.2.2.2.1 h256.2.2.2.2.1 (fun v212 I211 hW258 hF259 => ?_)
      have h260 := IV_m h256 hW258 hF259 (by intro a k h; omega)
      exact ih Z I211 J rc rs (x3 + 6) h260 (by omega) (by omega) (by omega) (by omega)
    · skip
      refine ⟨hv1, ?_⟩
      refine sfX11_days h.1 h.2.1 h.2.2.1 (fun v215 I214 hW262 hF263 => ?_)
      have h264 := IV_x h hW262 hF263 (by intro a k h; omega)
      refine ⟨hv1, ?_⟩
      have hfc := fC_le Z 45
      refine ⟨(fC Z 45), (fS Z 45), rc - 100, rs - 2100, by omega, by omega, ?_⟩
      refine qX12_days hG h264.2.2.2 (fun v267 Z217 I217 J217 hS265 => ⟨v267, rfl, (IV_s h264 hS265).1, hS265.1.1, ?_⟩)
      have h268 := IV_s h264 hS265
      exact ih Z217 I217 J217 (rc - 100) (rs - 2100) (x3 + 6) h268 (by omega) (by omega) (by omega) (by omega)
    · skip
      refine ⟨hv1, ?_⟩
      refine sfX11_ever h.1 h.2.2.1 (fun v220 I219 hW270 hF271 => ?_)
      have h272 := IV_x h hW270 hF271 (by intro a k h; omega)
      refine ⟨hv1, ?_⟩
      refine ⟨1, 40, rc - 100, rs - 2100, by omega, by omega, ?_⟩
      refine qX12_ever h272.2.2.2 (fun v275 Z222 I222 J222 hS273 => ⟨v275, rfl, (IV_s h272 hS273).1, hS273.1.1, ?_⟩)
      have h276 := IV_s h272 hS273
      exact ih Z222 I222 J222 (rc - 100) (rs - 2100) (x3 + 6) h276 (by omega) (by omega) (by omega) (by omega)
    · skip
      refine sfX11_hire h.1 h.2.2.1 (fun v224 I223 hW278 hF279 => ?_)
      have h280 := IV_x h hW278 hF279 (by intro a k h; omega)
      have hfc := fC_le Z 45
      refine ⟨(fC Z 45), (fS Z 45), rc - 100, rs - 2100, by omega, by omega, ?_⟩
      refine qX12_hire hG h280.2.2.2 (fun v283 Z225 I225 J225 hS281 => ⟨v283, rfl, (IV_s h280 hS281).1, hS281.1.1, ?_⟩)
      have h284 := IV_s h280 hS281
      exact ih Z225 I225 J225 (rc - 100) (rs - 2100) (x3 + 6) h284 (by omega) (by omega) (by omega) (by omega)
    · skip
      refine ⟨hv1, ?_⟩
      refine sfX11_feast h.1 h.2.2.1 (fun v228 I227 hW286 hF287 => ?_)
      have h288 := IV_x h hW286 hF287 (by intro a k h; omega)
      refine ⟨hv1, ?_⟩
      refine ⟨40, 2026, rc - 100, rs - 2100, by omega, by omega, ?_⟩
      refine qX12_feast hG h288.2.2.2 (fun v291 Z230 I230 J230 hS289 => ⟨v291, rfl, (IV_s h288 hS289).1, hS289.1.1, ?_⟩)
      have h292 := IV_s h288 hS289
      exact ih Z230 I230 J230 (rc - 100) (rs - 2100) (x3 + 6) h292 (by omega) (by omega) (by omega) (by omega)
    · skip
      refine ⟨hv1, ?_⟩
      refine ⟨hv2, ?_⟩
      refine sfX11_closes h.1 h.2.2.1 (fun v234 I233 hW294 hF295 => ?_)
      have h296 := IV_x h hW294 hF295 (by intro a k h; omega)
      refine ⟨hv1, ?_⟩
      refine ⟨hv2, ?_⟩
      have hfc := fC_le Z 45
      refine ⟨(fC Z 45), (fS Z 45), rc - 100, rs - 2100, by omega, by omega, ?_⟩
      refine qX12_closes hG h296.2.2.2 (fun v299 Z237 I237 J237 hS297 => ⟨v299, rfl, (IV_s h296 hS297).1, hS297.1.1, ?_⟩)
      have h300 := IV_s h296 hS297
      exact ih Z237 I237 J237 (rc - 100) (rs - 2100) (x3 + 6) h300 (by omega) (by omega) (by omega) (by omega)
    · skip
      refine sfX11_worst h.1 h.2.2.1 (fun v239 I238 hW302 hF303 => ?_)
      have h304 := IV_x h hW302 hF303 (by intro a k h; omega)
      have hfc := fC_le Z 45
      refine ⟨(fC Z 45), (fS Z 45), rc - 100, rs - 2100, by omega, by omega, ?_⟩
      refine qX12_worst hG h304.2.2.2 (fun v307 Z240 I240 J240 hS305 => ⟨v307, rfl, (IV_s h304 hS305).1, hS305.1.1, ?_⟩)
      have h308 := IV_s h304 hS305
      exact ih Z240 I240 J240 (rc - 100) (rs - 2100) (x3 + 6) h308 (by omega) (by omega) (by omega) (by omega)
    · skip
      refine ⟨hv1, ?_⟩
      refine sfX11_fits h.1 h.2.2.1 (fun v243 I242 hW310 hF311 => ?_)
      have h312 := IV_x h hW310 hF311 (by intro a k h; omega)
      refine ⟨hv1, ?_⟩
      have hfc := fC_le Z 45
      refine ⟨(fC Z 45), (fS Z 45), rc - 100, rs - 2100, by omega, by omega, ?_⟩
      refine qX12_fits hG h312.2.2.2 (fun v315 Z245 I245 J245 hS313 => ⟨v315, rfl, (IV_s h312 hS313).1, hS313.1.1, ?_⟩)
      have h316 := IV_s h312 hS313
      exact ih Z245 I245 J245 (rc - 100) (rs - 2100) (x3 + 6) h316 (by omega) (by omega) (by omega) (by omega)
    · skip
      refine ⟨hv1, ?_⟩
      refine sfX11_sure h.1 h.2.2.1 (fun v248 I247 hW318 hF319 => ?_)
      have h320 := IV_x h hW318 hF319 (by intro a k h; omega)
      refine ⟨hv1, ?_⟩
      have hfc := fC_le Z 45
      refine ⟨(fC Z 45), (fS Z 45), rc - 100, rs - 2100, by omega, by omega, ?_⟩
      refine qX12_sure hG h320.2.2.2 (fun v323 Z250 I250 J250 hS321 => ⟨v323, rfl, (IV_s h320 hS321).1, hS321.1.1, ?_⟩)
      have h324 := IV_s h320 hS321
      exact ih Z250 I250 J250 (rc - 100) (rs - 2100) (x3 + 6) h324 (by omega) (by omega) (by omega) (by omega)
    · skip
      refine ⟨hv1, ?_⟩
      refine ⟨hv2, ?_⟩
      refine sfX11_judge h.1 h.2.2.1 (fun v254 I253 hW326 hF327 => ?_)
      have h328 := IV_x h hW326 hF327 (by intro a k h; omega)
      refine ⟨hv1, ?_⟩
      refine ⟨hv2, ?_⟩
      refine sfX12_judge h328.2.2.2.1 h328.2.2.2.2.1 (fun v258 I257 hW330 hF331 => ?_)
      have h332 := IV_m h328 hW330 hF331 (by intro a k h; omega)
      exact ih Z I257 J rc rs (x3 + 6) h332 (by omega) (by omega) (by omega) (by omega)
    · skip
      refine ⟨hv1, ?_⟩
      refine ⟨hv2, ?_⟩
      refine ⟨hv3, ?_⟩
      refine sfX11_behind h.1 h.2.2.1 (fun v263 I262 hW334 hF335 => ?_)
      have h336 := IV_x h hW334 hF335 (by intro a k h; omega)
      refine ⟨hv1, ?_⟩
      refine ⟨hv2, ?_⟩
      refine ⟨hv3, ?_⟩
      have hfc := fC_le Z 45
      refine ⟨(fC Z 45), (fS Z 45), rc - 100, rs - 2100, by omega, by omega, ?_⟩
      refine qX12_behind hG h336.2.2.2 (fun v339 Z267 I267 J267 hS337 => ⟨v339, rfl, (IV_s h336 hS337).1, hS337.1.1, ?_⟩)
      have h340 := IV_s h336 hS337
      exact ih Z267 I267 J267 (rc - 100) (rs - 2100) (x3 + 6) h340 (by omega) (by omega) (by omega) (by omega)
    · skip
      refine ⟨hv1, ?_⟩
      refine ⟨hv2, ?_⟩
      refine sfX11_rides h.1 h.2.2.1 (fun v271 I270 hW342 hF343 => ?_)
      have h344 := IV_x h hW342 hF343 (by intro a k h; omega)
      refine ⟨hv1, ?_⟩
      refine ⟨hv2, ?_⟩
      refine sfX12_rides h344.2.2.2.1 h344.2.2.2.2.1 (fun v275 I274 hW346 hF347 => ?_)
      have h348 := IV_m h344 hW346 hF347 (by intro a k h; omega)
      exact ih Z I274 J rc rs (x3 + 6) h348 (by omega) (by omega) (by omega) (by omega)
    · skip
      refine ⟨hv1, ?_⟩
      refine sfX11_day h.1 h.2.1 h.2.2.1 (fun v278 I277 hW350 hF351 => ?_)
      have h352 := IV_x h hW350 hF351 (by intro a k h; omega)
      refine ⟨hv1, ?_⟩
      refine sfX12_day h352.2.2.2.1 h352.2.2.2.2.1 (fun v281 I280 hW354 hF355 => ?_)
      have h356 := IV_m h352 hW354 hF355 (by intro a k h; omega)
      exact ih Z I280 J rc rs (x3 + 6) h356 (by omega) (by omega) (by omega) (by omega)
    · skip
      refine ⟨hv1, ?_⟩
      refine sfX11_meet h.1 h.2.2.1 (fun v284 I283 hW358 hF359 => ?_)
      have h360 := IV_x h hW358 hF359 (by intro a k h; omega)
      refine ⟨hv1, ?_⟩
      refine sfX12_meet h360.2.2.2.1 h360.2.2.2.2.1 (fun v287 I286 hW362 hF363 => ?_)
      have h364 := IV_m h360 hW362 hF363 (by intro a k h; omega)
      exact ih Z I286 J rc rs (x3 + 6) h364 (by omega) (by omega) (by omega) (by omega)
    · skip
      refine sfX11_year h.1 h.2.2.1 (fun v289 I288 hW366 hF367 => ?_)
      have h368 := IV_x h hW366 hF367 (by intro a k h; omega)
      refine sfX12_year h368.2.2.2.1 h368.2.2.2.2.1 (fun v291 I290 hW370 hF371 => ?_)
      have h372 := IV_m h368 hW370 hF371 (by intro a k h; omega)
      exact ih Z I290 J rc rs (x3 + 6) h372 (by omega) (by omega) (by omega) (by omega)
    · skip
      refine ⟨hv1, ?_⟩
      refine sfX11_come h.1 h.2.2.1 (fun v294 I293 hW374 hF375 => ?_)
      have h376 := IV_x h hW374 hF375 (by intro a k h; omega)
      refine ⟨hv1, ?_⟩
      refine sfX12_come h376.2.2.2.1 h376.2.2.2.2.1 (fun v297 I296 hW378 hF379 => ?_)
      have h380 := IV_m h376 hW378 hF379 (by intro a k h; omega)
      exact ih Z I296 J rc rs (x3 + 6) h380 (by omega) (by omega) (by omega) (by omega)
    · skip
      refine ⟨hv1, ?_⟩
      refine sfX11_seed h.1 h.2.2.1 (fun v300 I299 hW382 hF383 => ?_)
      have h384 := IV_x h hW382 hF383 (by intro a k h; omega)
      refine ⟨hv1, ?_⟩
      refine sfX12_seed h384.2.2.2.1 h384.2.2.2.2.1 (fun v303 I302 hW386 hF387 => ?_)
      have h388 := IV_m h384 hW386 hF387 (by intro a k h; omega)
      exact ih Z I302 J rc rs (x3 + 6) h388 (by omega) (by omega) (by omega) (by omega)
    · skip
      refine sfX11_image h.1 h.2.2.1 (fun v305 I304 hW390 hF391 hp389 => ?_)
      have h392 := IV_x h hW390 hF391 (by intro a k h; omega)
      refine ⟨38, 1946, rc - 100, rs - 2100, by omega, by omega, ?_⟩
      refine qX12_image hG h392.2.2.2 (fun Z306 I306 J306 hS393 hp394 => ⟨1, rfl, (IV_s h392 hS393).1, hS393.1.1, ?_⟩)
      have h396 := IV_s h392 hS393
      exact ih Z306 I306 J306 (rc - 100) (rs - 2100) (x3 + 6) h396 (by omega) (by omega) (by omega) (by omega)
    · skip
      refine sfX11_back h.1 h.2.2.1 (fun v308 I307 hW398 hF399 => ?_)
      have h400 := IV_x h hW398 hF399 (by intro a k h; omega)
      refine qX12_back h400.2.2.2 (fun v310 I309 hS401 hp402 => ?_)
      have h403 := IV_s h400 hS401
      exact ih Z I309 J rc rs (x3 + 6) h403 (by omega) (by omega) (by omega) (by omega)
    · skip
      refine ⟨hv1, ?_⟩
      refine sfX11_status h.1 h.2.2.1 (fun v313  => ?_)
      refine ⟨hv1, ?_⟩
      refine sfX12_status h.2.2.2.1 h.2.2.2.2.1 (fun v316  => ?_)
      exact ih Z I J rc rs (x3 + 6) h (by omega) (by omega) (by omega) (by omega)
