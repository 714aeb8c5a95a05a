set_option maxRecDepth 20000 in
set_option maxHeartbeats 4000000 in
/-- the law's loop goes on well -/
theorem lL_law {G : jdG} {nm : String} {b L : Nat} {xs : Nat → Int32} {sA sV : Nat → Nat} (hG : gOK G sA sV) (hXs : ∀ U, G.2.2.2.2 U → va_X b L xs U G.2.2.1) (hL : L ≤ 100000) : ∀ m : Nat, ∀ (Z : jdL) (I : jdI) (J : jdJ) (rc rs : Nat) (x3 : Int32), IV Z I → RV Z I → RS Z I → RJ I J → RT Z I → 0 ≤ x3.toInt → (L : Int) - x3.toInt + 6 < (m : Int) → 20 * ((L : Int) - x3.toInt) ≤ (rc : Int) → 350 * ((L : Int) - x3.toInt) ≤ (rs : Int) → x3.toInt ≤ (L : Int) → Jd G (mLaw nm) (lawF G) (2046 + 1) rc rs 18 [(0, .ref b), (1, .ref (gb G + 0)), (2, .ref (gb G + 45)), (3, .int x3)] [] Z I J := by
  intro m
  induction m with
  | zero =>
    intro Z I J rc rs x3 h hr hrs hrj hrt h0 hm h1 h2 h3
    have hr1 := hr.1
    omega
  | succ m ih0 =>
    have ih : ∀ (Z : jdL) (I : jdI) (J : jdJ) (rc rs : Nat) (x3 : Int32), IV Z I → RV Z I → RS Z I → RJ I J → RT Z I → 0 ≤ x3.toInt → (L : Int) - x3.toInt + 6 < (m : Int) → 20 * ((L : Int) - x3.toInt) ≤ (rc : Int) → 350 * ((L : Int) - x3.toInt) ≤ (rs : Int) ∧ x3.toInt ≤ (L : Int) → Jd G (mLaw nm) (lawF G) (2046 + 1) rc rs 18 [(0, .ref b), (1, .ref (gb G + 0)), (2, .ref (gb G + 45)), (3, .int x3)] [] Z I J := fun Z I J rc rs x3 h hr hrs hrj hrt a1 a2 a3 a4 => ih0 Z I J rc rs x3 h hr hrs hrj hrt a1 a2 a3 a4.1 a4.2
    intro Z I J rc rs x3 h hr hrs hrj hrt h0 hm h1 h2 h3
    have hr1 := hr.1
    obtain ⟨s, kk, ht1, ht2⟩ := hrt.2.1
    have hP7 := ht1.1.1
    have hwx := WX_f h.2.2.1
    have qL : (Nat.toInt32 L).toInt = (L : Int) := nI_toInt (by omega)
    have q6 : (6 : Int32).toInt = 6 := rfl
    have q1 : (1 : Int32).toInt = 1 := rfl
    have q2 : (2 : Int32).toInt = 2 := rfl
    have q3 : (3 : Int32).toInt = 3 := rfl
    have q4 : (4 : Int32).toInt = 4 := rfl
    have q5 : (5 : Int32).toInt = 5 := rfl
    have s6 := i32_sub (Nat.toInt32 L) 6 (by omega) (by omega)
    refine rL_law hXs h.1 h.2.2.2.1 ⟨fun _ => trivial, fun hc => ?_⟩
    have hc := mt Int32.lt_iff_toInt_lt.mpr hc
    have e6 := i32_add x3 6 (by omega) (by omega)
    have hv0 : vp_in x3 L := vp_of (by omega) (by omega)
    have e1 := i32_add x3 1 (by omega) (by omega)
    have hv1 : vp_in (x3 + 1) L := vp_of (by omega) (by omega)
    have e2 := i32_add x3 2 (by omega) (by omega)
    have hv2 : vp_in (x3 + 2) L := vp_of (by omega) (by omega)
    have e3 := i32_add x3 3 (by omega) (by omega)
    have hv3 : vp_in (x3 + 3) L := vp_of (by omega) (by omega)
    have e4 := i32_add x3 4 (by omega) (by omega)
    have hv4 : vp_in (x3 + 4) L := vp_of (by omega) (by omega)
    have e5 := i32_add x3 5 (by omega) (by omega)
    have hv5 : vp_in (x3 + 5) L := vp_of (by omega) (by omega)
    refine ⟨hv0, ?_⟩
    refine ⟨fun hc1 => ?_, fun hc2 => ?_, fun hc3 => ?_, fun hc4 => ?_, fun hc5 => ?_, fun hc6 => ?_, fun hc7 => ?_, fun hc8 => ?_, fun hc9 => ?_, fun hc10 => ?_, fun hc11 => ?_, fun hc12 => ?_, fun hc13 => ?_, fun hc14 => ?_, fun hc15 => ?_, fun hc16 => ?_, fun hc17 => ?_, fun hc18 => ?_, fun hc19 => ?_, fun hc20 => ?_, fun hc21 => ?_, fun hc22 => ?_, fun hc23 => ?_, fun hc24 => ?_, fun hc25 => ?_, fun hc26 => ?_, fun hc27 => ?_, fun hc28 => ?_, fun hc29 => ?_, fun hc30 => ?_, fun hc31 => ?_, fun hc32 => ?_, fun hc33 => ?_, fun hc34 => ?_, fun hc35 => ?_, fun hc36 => ?_, fun hc37 => ?_, fun hc38 => ?_, fun hc39 => ?_, fun hc40 => ?_, fun hc41 => ?_, fun hc42 => ?_, fun hc43 => ?_, fun hc44 => ?_, fun hc45 => ?_, fun hc46 => ?_, fun hc47 => ?_, fun hc48 => ?_⟩
    · skip
      have hr49 := hr
      have hs50 := hrs
      have hj51 := hrj
      exact ih Z I J rc rs (x3 + 6) h hr49 hs50 hj51 hrt (by omega) (by omega) (by omega) (by omega)
    · skip
      refine ⟨hv1, ?_⟩
      refine ⟨hv2, ?_⟩
      refine ⟨hv3, ?_⟩
      refine ⟨0, 0, rc - 100, rs - 2100, by omega, by omega, ?_⟩
      refine qX11_row h (fun v54 Z5 I5 J5 hS52 hp53 nx55 hx56 hj57 nt58 => ⟨v54, rfl, hS52.1, hS52.2.2.2.1, ?_⟩)
      refine ⟨hv1, ?_⟩
      refine ⟨hv2, ?_⟩
      refine ⟨hv3, ?_⟩
      refine sfX12_row hS52.2.2.2.1 hS52.2.2.2.2.1 (fun v10 I9 J9 hW60 hF61 hp59 => ?_)
      have nt62 : NT Z5 I5 Z5 I9 := NT_fr hS52 hF61 (by intro a k h; omega)
      have h63 := IV_m hS52 hW60 hF61 (by intro a k h; omega)
      have nx64 : NX Z5 I5 Z5 I9 := NX_fr hF61 (by omega) (by omega) (by omega)
      have hr65 := RV_keep hr (NX.tr nx55 nx64)
      have hs66 := RS_row h hrs hx56 hF61 hp59
      have hj67 := RJ_row hrj (fun i hi => hx56.1 _ _ (by omega) (by have := h.2.2.2.2.2.1; omega)) hj57 hF61 hp59
      have ht68 := RT_keep h hrt (NT.tr nt58 nt62)
      exact ih Z5 I9 J9 (rc - 100) (rs - 2100) (x3 + 6) h63 hr65 hs66 hj67 ht68 (by omega) (by omega) (by omega) (by omega)
    · skip
      refine ⟨hv1, ?_⟩
      refine ⟨hv2, ?_⟩
      refine ⟨hv3, ?_⟩
      refine ⟨hv4, ?_⟩
      refine sfX11_set h.1 h.2.2.1 (fun v16 I15 J15 hW70 hF71 hp69 => ?_)
      have nt72 : NT Z I Z I15 := NT_fr h hF71 (by intro a k h; omega)
      have h73 := IV_x h hW70 hF71 (by intro a k h; omega)
      have nx74 : NX Z I Z I15 := NX_fr hF71 (by omega) (by omega) (by omega)
      have ns75 : NS Z I Z I15 := NS_fr hF71 (by intro a k h; omega)
      refine ⟨hv1, ?_⟩
      refine ⟨hv2, ?_⟩
      refine ⟨hv3, ?_⟩
      refine ⟨hv4, ?_⟩
      refine sfX12_set h73.2.2.2.1 h73.2.2.2.2.1 (fun v22 I21 J21 hW77 hF78 hp76 => ?_)
      have nt79 : NT Z I15 Z I21 := NT_fr h73 hF78 (by intro a k h; omega)
      have h80 := IV_m h73 hW77 hF78 (by intro a k h; omega)
      have nx81 : NX Z I15 Z I21 := NX_fr hF78 (by omega) (by omega) (by omega)
      have ns82 : NS Z I15 Z I21 := NS_fr hF78 (by intro a k h; omega)
      have hr83 := RV_keep hr (NX.tr nx74 nx81)
      have hs84 := RS_keep hrs (NS.tr ns75 ns82)
      have hj85 := RJ_set hrs hrj ns75 (NS.tr ns75 ns82) hp69 hp76
      have ht86 := RT_keep h hrt (NT.tr nt72 nt79)
      exact ih Z I21 J21 rc rs (x3 + 6) h80 hr83 hs84 hj85 ht86 (by omega) (by omega) (by omega) (by omega)
    · skip
      refine ⟨hv1, ?_⟩
      refine ⟨hv2, ?_⟩
      refine ⟨hv3, ?_⟩
      refine ⟨hv4, ?_⟩
      refine ⟨hv5, ?_⟩
      refine sfX11_copy h.1 h.2.2.1 (fun v29 I28 J28 hW88 hF89 hp87 => ?_)
      have nt90 : NT Z I Z I28 := NT_fr h hF89 (by intro a k h; omega)
      have h91 := IV_x h hW88 hF89 (by intro a k h; omega)
      have nx92 : NX Z I Z I28 := NX_fr hF89 (by omega) (by omega) (by omega)
      have ns93 : NS Z I Z I28 := NS_fr hF89 (by intro a k h; omega)
      refine ⟨hv1, ?_⟩
      refine ⟨hv2, ?_⟩
      refine ⟨hv3, ?_⟩
      refine ⟨hv4, ?_⟩
      refine ⟨hv5, ?_⟩
      refine sfX12_copy h91.2.2.2.1 h91.2.2.2.2.1 (fun v36 I35 J35 hW95 hF96 hp94 => ?_)
      have nt97 : NT Z I28 Z I35 := NT_fr h91 hF96 (by intro a k h; omega)
      have h98 := IV_m h91 hW95 hF96 (by intro a k h; omega)
      have nx99 : NX Z I28 Z I35 := NX_fr hF96 (by omega) (by omega) (by omega)
      have ns100 : NS Z I28 Z I35 := NS_fr hF96 (by intro a k h; omega)
      have hr101 := RV_keep hr (NX.tr nx92 nx99)
      have hs102 := RS_keep hrs (NS.tr ns93 ns100)
      have hj103 := RJ_copy h.2.2.2.2.1 hrs hrj ns93 (NS.tr ns93 ns100) hp87 hp94
      have ht104 := RT_keep h hrt (NT.tr nt90 nt97)
      exact ih Z I35 J35 rc rs (x3 + 6) h98 hr101 hs102 hj103 ht104 (by omega) (by omega) (by omega) (by omega)
    · skip
      refine ⟨hv1, ?_⟩
      refine ⟨hv2, ?_⟩
      refine sfX11_element h.1 h.2.2.1 (fun v40  hp105 => ?_)
      have nx106 : NX Z I Z I := NX.rf
      have ns107 : NS Z I Z I := NS.rf
      have nt108 : NT Z I Z I := NT.rf
      refine ⟨hv1, ?_⟩
      refine ⟨hv2, ?_⟩
      refine sfX12_element h.2.2.2.1 h.2.2.2.2.1 (fun v44  hp109 => ?_)
      have nx110 : NX Z I Z I := NX.rf
      have ns111 : NS Z I Z I := NS.rf
      have nt112 : NT Z I Z I := NT.rf
      have hr113 := RV_keep hr (NX.tr nx106 nx110)
      have hs114 := RS_keep hrs (NS.tr ns107 ns111)
      have hj115 := RJ_keep hrj (NS.tr ns107 ns111) NJ.rf
      have ht116 := RT_keep h hrt (NT.tr nt108 nt112)
      exact ih Z I J rc rs (x3 + 6) h hr113 hs114 hj115 ht116 (by omega) (by omega) (by omega) (by omega)
    · skip
      refine ⟨hv1, ?_⟩
      refine sfX11_holds hG h.1 h.2.1 h.2.2.1 (fun v47  hp117 => ?_)
      have nx118 : NX Z I Z I := NX.rf
      have ns119 : NS Z I Z I := NS.rf
      have nt120 : NT Z I Z I := NT.rf
      refine ⟨hv1, ?_⟩
      refine sfX12_holds h.2.2.2.1 h.2.2.2.2.1 (fun v50  hp121 => ?_)
      have nx122 : NX Z I Z I := NX.rf
      have ns123 : NS Z I Z I := NS.rf
      have nt124 : NT Z I Z I := NT.rf
      have hr125 := RV_keep hr (NX.tr nx118 nx122)
      have hs126 := RS_keep hrs (NS.tr ns119 ns123)
      have hj127 := RJ_keep hrj (NS.tr ns119 ns123) NJ.rf
      have ht128 := RT_keep h hrt (NT.tr nt120 nt124)
      exact ih Z I J rc rs (x3 + 6) h hr125 hs126 hj127 ht128 (by omega) (by omega) (by omega) (by omega)
    · skip
      refine ⟨hv1, ?_⟩
      refine ⟨hv2, ?_⟩
      refine ⟨hv3, ?_⟩
      refine ⟨1, 1, rc - 100, rs - 2100, by omega, by omega, ?_⟩
      refine qX11_coachman h (fun v131 Z54 I54 J54 hS129 hp130 nx132 hx133 hj134 nt135 => ⟨v131, rfl, hS129.1, hS129.2.2.2.1, ?_⟩)
      refine ⟨hv1, ?_⟩
      refine ⟨hv2, ?_⟩
      refine ⟨hv3, ?_⟩
      refine sfX12_coachman hS129.2.2.2.1 hS129.2.2.2.2.1 (fun v59 I58 hW137 hF138 hp136 => ?_)
      have nt139 : NT Z54 I54 Z54 I58 := NT_fr hS129 hF138 (by intro a k h; omega)
      have h140 := IV_m hS129 hW137 hF138 (by intro a k h; omega)
      have nx141 : NX Z54 I54 Z54 I58 := NX_fr hF138 (by omega) (by omega) (by omega)
      have hr142 := RV_keep hr (NX.tr nx132 nx141)
      have hs143 := RS_man h hrs hx133 hF138 hp136
      rw [hj134]
      have hj144 := RJ_man hrj (fun i hi => hx133.1 _ _ (by omega) (by have := h.2.2.2.2.2.1; omega)) hF138 hp136
      have ht145 := RT_keep h hrt (NT.tr nt135 nt139)
      exact ih Z54 I58 J (rc - 100) (rs - 2100) (x3 + 6) h140 hr142 hs143 hj144 ht145 (by omega) (by omega) (by omega) (by omega)
    · skip
      refine ⟨hv1, ?_⟩
      refine ⟨hv2, ?_⟩
      refine sfX11_says hG h.1 h.2.1 h.2.2.1 (fun v63 I62 hW147 hF148 => ?_)
      have nt149 : NT Z I Z I62 := NT_fr h hF148 (by intro a k h; omega)
      have h150 := IV_x h hW147 hF148 (by intro a k h; omega)
      have nx151 : NX Z I Z I62 := NX_fr hF148 (by omega) (by omega) (by omega)
      have ns152 : NS Z I Z I62 := NS_fr hF148 (by intro a k h; omega)
      refine ⟨hv1, ?_⟩
      refine ⟨hv2, ?_⟩
      refine sfX12_says h150.2.2.2.1 h150.2.2.2.2.1 (fun v67 I66 hW154 hF155 => ?_)
      have nt156 : NT Z I62 Z I66 := NT_fr h150 hF155 (by intro a k h; omega)
      have h157 := IV_m h150 hW154 hF155 (by intro a k h; omega)
      have nx158 : NX Z I62 Z I66 := NX_fr hF155 (by omega) (by omega) (by omega)
      have ns159 : NS Z I62 Z I66 := NS_fr hF155 (by intro a k h; omega)
      have hr160 := RV_keep hr (NX.tr nx151 nx158)
      have hs161 := RS_keep hrs (NS.tr ns152 ns159)
      have hj162 := RJ_keep hrj (NS.tr ns152 ns159) NJ.rf
      have ht163 := RT_keep h hrt (NT.tr nt149 nt156)
      exact ih Z I66 J rc rs (x3 + 6) h157 hr160 hs161 hj162 ht163 (by omega) (by omega) (by omega) (by omega)
    · skip
      refine ⟨hv1, ?_⟩
      refine ⟨hv2, ?_⟩
      refine pX11_person h.1 h.2.2.1 ht1 (fun v71 I70 hW165 hF166 hp164 => ?_)
      have tm167 := TM_fr ht2 (show s.1.1 ≤ 8 by omega) hF166 (by omega) (by omega) (by omega) (by omega) (by intro a k h1 h2 h3; omega)
      have rk168 := RK_fr h hrt.2.2 hF166 (by intro a k h; omega)
      have tp169 := TP_fr hrt.1 hF166 (by intro a k h; omega)
      have h170 := IV_x h hW165 hF166 (by intro a k h; omega)
      have nx171 : NX Z I Z I70 := NX_fr hF166 (by omega) (by omega) (by omega)
      have ns172 : NS Z I Z I70 := NS_fr hF166 (by intro a k h; omega)
      refine ⟨hv1, ?_⟩
      refine ⟨hv2, ?_⟩
      refine pX12_personS h170.2.2.2.1 h170.2.2.2.2.1 tm167 (fun v75 I74 hW174 hF175 hp173 => ?_)
      have rk176 := RK_fr h170 rk168 hF175 (by intro a k h; omega)
      have tp177 := TP_fr tp169 hF175 (by intro a k h; omega)
      have h178 := IV_m h170 hW174 hF175 (by intro a k h; omega)
      have nx179 : NX Z I70 Z I74 := NX_fr hF175 (by omega) (by omega) (by omega)
      have ns180 : NS Z I70 Z I74 := NS_fr hF175 (by intro a k h; omega)
      have hr181 := RV_keep hr (NX.tr nx171 nx179)
      have hs182 := RS_keep hrs (NS.tr ns172 ns180)
      have hj183 := RJ_keep hrj (NS.tr ns172 ns180) NJ.rf
      obtain ⟨k185, ek186⟩ := oPerson_k s kk (xs (Int32.toNatClampNeg (x3 + 1))) (xs (Int32.toNatClampNeg (x3 + 2)))
      rw [ek186] at hp173
      have ht184 : RT Z I74 := ⟨tp177, ⟨_, k185, TX_fr hp164.2 hF175 (by intro a k h1 h2; omega), hp173.2⟩, rk176⟩
      exact ih Z I74 J rc rs (x3 + 6) h178 hr181 hs182 hj183 ht184 (by omega) (by omega) (by omega) (by omega)
    · skip
      refine ⟨hv1, ?_⟩
      refine ⟨hv2, ?_⟩
      refine ⟨hv3, ?_⟩
      refine fsfX11_change h.1 h.2.2.1 ht1 (fun v80 I79 hW188 hF189 hp187 => ?_)
      have tm190 := TM_fr ht2 (show s.1.1 ≤ 8 by omega) hF189 (by omega) (by omega) (by omega) (by omega) (by intro a k h1 h2 h3; omega)
      have rk191 := RK_fr h hrt.2.2 hF189 (by intro a k h; omega)
      have tp192 := TP_fr hrt.1 hF189 (by intro a k h; omega)
      have h193 := IV_x h hW188 hF189 (by intro a k h; omega)
      have nx194 : NX Z I Z I79 := NX_fr hF189 (by omega) (by omega) (by omega)
      have ns195 : NS Z I Z I79 := NS_fr hF189 (by intro a k h; omega)
      refine ⟨hv1, ?_⟩
      refine ⟨hv2, ?_⟩
      refine ⟨hv3, ?_⟩
      refine fsfX12_change h193.2.2.2.1 h193.2.2.2.2.1 tm190 (fun v85 I84 hW197 hF198 hp196 => ?_)
      have rk199 := RK_fr h193 rk191 hF198 (by intro a k h; omega)
      have tp200 := TP_fr tp192 hF198 (by intro a k h; omega)
      have h201 := IV_m h193 hW197 hF198 (by intro a k h; omega)
      have nx202 : NX Z I79 Z I84 := NX_fr hF198 (by omega) (by omega) (by omega)
      have ns203 : NS Z I79 Z I84 := NS_fr hF198 (by intro a k h; omega)
      have hr204 := RV_keep hr (NX.tr nx194 nx202)
      have hs205 := RS_keep hrs (NS.tr ns195 ns203)
      have hj206 := RJ_keep hrj (NS.tr ns195 ns203) NJ.rf
      obtain ⟨k208, ek209⟩ := oChange_k s kk (xs (Int32.toNatClampNeg (x3 + 1))) (xs (Int32.toNatClampNeg (x3 + 2))) (xs (Int32.toNatClampNeg (x3 + 3)))
      rw [ek209] at hp196
      have ht207 : RT Z I84 := ⟨tp200, ⟨_, k208, TX_fr hp187.2 hF198 (by intro a k h1 h2; omega), hp196.2⟩, rk199⟩
      exact ih Z I84 J rc rs (x3 + 6) h201 hr204 hs205 hj206 ht207 (by omega) (by omega) (by omega) (by omega)
    · skip
      refine ⟨hv1, ?_⟩
      refine ⟨hv2, ?_⟩
      refine ⟨hv3, ?_⟩
      refine sfX11_know h.1 h.2.2.1 (fun v90 I89 hW211 hF212 => ?_)
      have nt213 : NT Z I Z I89 := NT_fr h hF212 (by intro a k h; omega)
      have h214 := IV_x h hW211 hF212 (by intro a k h; omega)
      have nx215 : NX Z I Z I89 := NX_fr hF212 (by omega) (by omega) (by omega)
      have ns216 : NS Z I Z I89 := NS_fr hF212 (by intro a k h; omega)
      refine ⟨hv1, ?_⟩
      refine ⟨hv2, ?_⟩
      refine ⟨hv3, ?_⟩
      refine sfX12_know h214.2.2.2.1 h214.2.2.2.2.1 (fun v95 I94 hW218 hF219 => ?_)
      have nt220 : NT Z I89 Z I94 := NT_fr h214 hF219 (by intro a k h; omega)
      have h221 := IV_m h214 hW218 hF219 (by intro a k h; omega)
      have nx222 : NX Z I89 Z I94 := NX_fr hF219 (by omega) (by omega) (by omega)
      have ns223 : NS Z I89 Z I94 := NS_fr hF219 (by intro a k h; omega)
      have hr224 := RV_keep hr (NX.tr nx215 nx222)
      have hs225 := RS_keep hrs (NS.tr ns216 ns223)
      have hj226 := RJ_keep hrj (NS.tr ns216 ns223) NJ.rf
      have ht227 := RT_keep h hrt (NT.tr nt213 nt220)
      exact ih Z I94 J rc rs (x3 + 6) h221 hr224 hs225 hj226 ht227 (by omega) (by omega) (by omega) (by omega)
    · skip
      refine ⟨hv1, ?_⟩
      refine ⟨hv2, ?_⟩
      refine fsfX11_ask h.1 h.2.2.1 ht1 (fun v99 I98 hW229 hF230 hp228 => ?_)
      have tm231 := TM_fr ht2 (show s.1.1 ≤ 8 by omega) hF230 (by omega) (by omega) (by omega) (by omega) (by intro a k h1 h2 h3; omega)
      have rk232 := RK_fr h hrt.2.2 hF230 (by intro a k h; omega)
      have tp233 := TP_fr hrt.1 hF230 (by intro a k h; omega)
      have h234 := IV_x h hW229 hF230 (by intro a k h; omega)
      have nx235 : NX Z I Z I98 := NX_fr hF230 (by omega) (by omega) (by omega)
      have ns236 : NS Z I Z I98 := NS_fr hF230 (by intro a k h; omega)
      refine ⟨hv1, ?_⟩
      refine ⟨hv2, ?_⟩
      refine fsfX12_ask h234.2.2.2.1 h234.2.2.2.2.1 tm231 (fun v103 I102 hW238 hF239 hp237 => ?_)
      have rk240 := RK_fr h234 rk232 hF239 (by intro a k h; omega)
      have tp241 := TP_fr tp233 hF239 (by intro a k h; omega)
      have h242 := IV_m h234 hW238 hF239 (by intro a k h; omega)
      have nx243 : NX Z I98 Z I102 := NX_fr hF239 (by omega) (by omega) (by omega)
      have ns244 : NS Z I98 Z I102 := NS_fr hF239 (by intro a k h; omega)
      have hr245 := RV_keep hr (NX.tr nx235 nx243)
      have hs246 := RS_keep hrs (NS.tr ns236 ns244)
      have hj247 := RJ_keep hrj (NS.tr ns236 ns244) NJ.rf
      obtain ⟨k249, ek250⟩ := oAsk_k s kk (xs (Int32.toNatClampNeg (x3 + 1))) (xs (Int32.toNatClampNeg (x3 + 2)))
      rw [ek250] at hp237
      have ht248 : RT Z I102 := ⟨tp241, ⟨_, k249, TX_fr hp228.2 hF239 (by intro a k h1 h2; omega), hp237.2⟩, rk240⟩
      exact ih Z I102 J rc rs (x3 + 6) h242 hr245 hs246 hj247 ht248 (by omega) (by omega) (by omega) (by omega)
    · skip
      refine ⟨hv1, ?_⟩
      refine pX11_feed h.1 h.2.2.1 (fun v106 I105 hW252 hF253 hp251 pF254 => ?_)
      have tm255 := TM_fr ht2 (show s.1.1 ≤ 8 by omega) hF253 (by omega) (by omega) (by omega) (by omega) (by intro a k h1 h2 h3; omega)
      have rk256 := RK_fr h hrt.2.2 hF253 (by intro a k h; omega)
      have h257 := IV_x h hW252 hF253 (by intro a k h; omega)
      have e08 := congrArg Int32.toInt (hF253 0 8 (by omega))
      have e458 := congrArg Int32.toInt (hF253 45 8 (by omega))
      have ns258 : NS Z I Z I105 := NS_fr hF253 (by intro a k h; omega)
      refine ⟨hv1, ?_⟩
      refine pX12_feed h257.2.2.2.1 h257.2.2.2.2.1 (fun v109 I108 hW260 hF261 hp259 pF262 => ?_)
      have rk263 := RK_fr h257 rk256 hF261 (by intro a k h; omega)
      have h264 := IV_m h257 hW260 hF261 (by intro a k h; omega)
      have m25 := congrArg Int32.toInt (hF261 25 1 (by omega))
      have m08 := congrArg Int32.toInt (hF261 0 8 (by omega))
      have ns265 : NS Z I105 Z I108 := NS_fr hF261 (by intro a k h; omega)
      have hr266 : RV Z I108 := ⟨by omega, by rw [show (I108 0 8).toInt = (I 0 8).toInt by omega]; exact hr.2⟩
      have hs267 := RS_keep hrs (NS.tr ns258 ns265)
      have hj268 := RJ_keep hrj (NS.tr ns258 ns265) NJ.rf
      have ta : I108 (25 + 1) = I105 (25 + 1) := funext (fun k => hF261 (25 + 1) k (by omega))
      have tb : I105 (45 + 16) = I (45 + 16) := funext (fun k => hF253 (45 + 16) k (by omega))
      have tc : (I105 45 8).toInt = (I 25 1).toInt := by rw [hF253 45 8 (by omega)]; exact hr.1.symm
      have ht269 : RT Z I108 := ⟨by rw [ta, pF254, pF262, tb, tc, hrt.1], ⟨s, kk, TX_fr (TX_fr ht1 hF253 (by intro a k h1 h2; omega)) hF261 (by intro a k h1 h2; omega), TM_fr tm255 (show s.1.1 ≤ 8 by omega) hF261 (by omega) (by omega) (by omega) (by omega) (by intro a k h1 h2 h3; omega)⟩, rk263⟩
      exact ih Z I108 J rc rs (x3 + 6) h264 hr266 hs267 hj268 ht269 (by omega) (by omega) (by omega) (by omega)
    · skip
      refine sfX11_wipe h.1 h.2.2.1 (fun v111 I110 hW271 hF272 hp270 => ?_)
      have nt273 : NT Z I Z I110 := NT_fr h hF272 (by intro a k h; omega)
      have h274 := IV_x h hW271 hF272 (by intro a k h; omega)
      have e08 := congrArg Int32.toInt (hF272 0 8 (by omega))
      have e458 := congrArg Int32.toInt (hF272 45 8 (by omega))
      have ns275 : NS Z I Z I110 := NS_fr hF272 (by intro a k h; omega)
      refine sfX12_wipe h274.2.2.2.1 h274.2.2.2.2.1 (fun v113 I112 hW277 hF278 hp276 => ?_)
      have nt279 : NT Z I110 Z I112 := NT_fr h274 hF278 (by intro a k h; omega)
      have h280 := IV_m h274 hW277 hF278 (by intro a k h; omega)
      have m25 := congrArg Int32.toInt (hF278 25 1 (by omega))
      have m08 := congrArg Int32.toInt (hF278 0 8 (by omega))
      have ns281 : NS Z I110 Z I112 := NS_fr hF278 (by intro a k h; omega)
      have hr282 : RV Z I112 := ⟨by omega, by rw [show (I112 0 8).toInt = (I 0 8).toInt by omega]; exact hr.2⟩
      have hs283 := RS_keep hrs (NS.tr ns275 ns281)
      have hj284 := RJ_keep hrj (NS.tr ns275 ns281) NJ.rf
      have ht285 := RT_keep h hrt (NT.tr nt273 nt279)
      exact ih Z I112 J rc rs (x3 + 6) h280 hr282 hs283 hj284 ht285 (by omega) (by omega) (by omega) (by omega)
    · skip
      refine pX11_town hG h.1 h.2.2.1 ht1 (fun v115 I114 hW287 hF288 hp286 pT289 pS290 => ?_)
      have tm291 := TM_fr ht2 (show s.1.1 ≤ 8 by omega) hF288 (by omega) (by omega) (by omega) (by omega) (by intro a k h1 h2 h3; omega)
      have rk292 := RK_fr h hrt.2.2 hF288 (by intro a k h; omega)
      have tp293 := TP_fr hrt.1 hF288 (by intro a k h; omega)
      have h294 := IV_x h hW287 hF288 (by intro a k h; omega)
      have e08 := congrArg Int32.toInt (hF288 0 8 (by omega))
      have e458 := congrArg Int32.toInt (hF288 45 8 (by omega))
      have ns295 : NS Z I Z I114 := NS_fr hF288 (by intro a k h; omega)
      have hfc := fC_le Z 45
      refine ⟨(fC Z 45), (fS Z 45), rc - 100, rs - 2100, by omega, by omega, ?_⟩
      refine qX12_town hG h294.2.2.2 tm291.1 (fun v298 Z116 I116 J116 hS296 hp297 pT300 pS301 => ⟨v298, rfl, (IV_s h294 hS296).1, hS296.1.1, ?_⟩)
      have h302 := IV_s h294 hS296
      have hbz := h294.2.2.2.2.2.1
      have m25 := congrArg Int32.toInt (hS296.2.2.2.2.1 25 1 (by omega))
      have m08 := congrArg Int32.toInt (hS296.2.2.2.2.1 0 8 (by omega))
      have eZ := hS296.2.2.2.1 45 20 (by omega) (by omega)
      have ns303 := NS_st h294 hS296
      have nj304 := NJ_st h294 hS296
      refine ⟨fun hc305 => ?_, fun hc306 => ?_⟩
      · skip
        have hr307 : RV Z116 I116 := ⟨by omega, by rw [show (I116 0 8).toInt = (I 0 8).toInt by omega, eZ]; exact hr.2⟩
        have hs308 := RS_keep hrs (NS.tr ns295 ns303)
        have hj309 := RJ_keep hrj (NS.tr ns295 ns303) nj304
        have e16 : I114 (45 + 16) = I (25 + 1) := (funext (fun k => hF288 (45 + 16) k (by omega))).trans hrt.1.symm
        have e8 : (I114 45 8).toInt = (I 25 1).toInt := by rw [hF288 45 8 (by omega)]; exact hr.1.symm
        rw [e16, e8] at pT300
        obtain ⟨ev, w2, k2, r1, r2⟩ := tn_k pT289 pT300
        have ht310 : RT Z116 I116 := ⟨TP_fr tp293 hS296.2.2.2.2.1 (by intro a k h; omega), ⟨(w2, s.2), k2, ⟨RX_fr r1 hS296.2.2.2.2.1 (by intro a k h1 h2; omega), by rw [hS296.2.2.2.2.1 1 6 (by omega)]; exact pS290⟩, ⟨r2, pS301.trans tm291.2⟩⟩, RK_eq rk292 h294.2.2.1 eZ (fun a k h1 h2 => hS296.2.2.2.2.1 a k (by omega)) (fun u hu a k h1 h2 => hS296.2.2.2.2.2.2 rfl (by omega) u hu a k h1 h2)⟩
        exact ih Z116 I116 J116 (rc - 100) (rs - 2100) (x3 + 6) h302 hr307 hs308 hj309 ht310 (by omega) (by omega) (by omega) (by omega)
      · skip
        have e16 : I114 (45 + 16) = I (25 + 1) := (funext (fun k => hF288 (45 + 16) k (by omega))).trans hrt.1.symm
        have e8 : (I114 45 8).toInt = (I 25 1).toInt := by rw [hF288 45 8 (by omega)]; exact hr.1.symm
        rw [e16, e8] at pT300
        obtain ⟨ev, w2, k2, r1, r2⟩ := tn_k pT289 pT300
        exact hc306 ev
    · skip
      refine ⟨hv1, ?_⟩
      refine ⟨hv2, ?_⟩
      refine sfX11_personOf h.1 h.2.2.1 (fun v120 I119 hW312 hF313 => ?_)
      have nt314 : NT Z I Z I119 := NT_fr h hF313 (by intro a k h; omega)
      have h315 := IV_x h hW312 hF313 (by intro a k h; omega)
      have nx316 : NX Z I Z I119 := NX_fr hF313 (by omega) (by omega) (by omega)
      have ns317 : NS Z I Z I119 := NS_fr hF313 (by intro a k h; omega)
      refine ⟨hv1, ?_⟩
      refine ⟨hv2, ?_⟩
      refine sfX12_personOf h315.2.2.2.1 h315.2.2.2.2.1 (fun v124 I123 hW319 hF320 => ?_)
      have nt321 : NT Z I119 Z I123 := NT_fr h315 hF320 (by intro a k h; omega)
      have h322 := IV_m h315 hW319 hF320 (by intro a k h; omega)
      have nx323 : NX Z I119 Z I123 := NX_fr hF320 (by omega) (by omega) (by omega)
      have ns324 : NS Z I119 Z I123 := NS_fr hF320 (by intro a k h; omega)
      have hr325 := RV_keep hr (NX.tr nx316 nx323)
      have hs326 := RS_keep hrs (NS.tr ns317 ns324)
      have hj327 := RJ_keep hrj (NS.tr ns317 ns324) NJ.rf
      have ht328 := RT_keep h hrt (NT.tr nt314 nt321)
      exact ih Z I123 J rc rs (x3 + 6) h322 hr325 hs326 hj327 ht328 (by omega) (by omega) (by omega) (by omega)
    · skip
      refine ⟨hv1, ?_⟩
      refine ⟨hv2, ?_⟩
      refine sfX11_knownOf h.1 h.2.2.1 (fun v128 I127 hW330 hF331 => ?_)
      have nt332 : NT Z I Z I127 := NT_fr h hF331 (by intro a k h; omega)
      have h333 := IV_x h hW330 hF331 (by intro a k h; omega)
      have nx334 : NX Z I Z I127 := NX_fr hF331 (by omega) (by omega) (by omega)
      have ns335 : NS Z I Z I127 := NS_fr hF331 (by intro a k h; omega)
      refine ⟨hv1, ?_⟩
      refine ⟨hv2, ?_⟩
      refine sfX12_knownOf h333.2.2.2.1 h333.2.2.2.2.1 (fun v132 I131 hW337 hF338 => ?_)
      have nt339 : NT Z I127 Z I131 := NT_fr h333 hF338 (by intro a k h; omega)
      have h340 := IV_m h333 hW337 hF338 (by intro a k h; omega)
      have nx341 : NX Z I127 Z I131 := NX_fr hF338 (by omega) (by omega) (by omega)
      have ns342 : NS Z I127 Z I131 := NS_fr hF338 (by intro a k h; omega)
      have hr343 := RV_keep hr (NX.tr nx334 nx341)
      have hs344 := RS_keep hrs (NS.tr ns335 ns342)
      have hj345 := RJ_keep hrj (NS.tr ns335 ns342) NJ.rf
      have ht346 := RT_keep h hrt (NT.tr nt332 nt339)
      exact ih Z I131 J rc rs (x3 + 6) h340 hr343 hs344 hj345 ht346 (by omega) (by omega) (by omega) (by omega)
    · skip
      refine ⟨hv1, ?_⟩
      refine sfX11_isGroup h.1 h.2.2.1 (fun v135 I134 hW348 hF349 => ?_)
      have nt350 : NT Z I Z I134 := NT_fr h hF349 (by intro a k h; omega)
      have h351 := IV_x h hW348 hF349 (by intro a k h; omega)
      have nx352 : NX Z I Z I134 := NX_fr hF349 (by omega) (by omega) (by omega)
      have ns353 : NS Z I Z I134 := NS_fr hF349 (by intro a k h; omega)
      refine ⟨hv1, ?_⟩
      refine sfX12_isGroup h351.2.2.2.1 h351.2.2.2.2.1 (fun v138 I137 hW355 hF356 => ?_)
      have nt357 : NT Z I134 Z I137 := NT_fr h351 hF356 (by intro a k h; omega)
      have h358 := IV_m h351 hW355 hF356 (by intro a k h; omega)
      have nx359 : NX Z I134 Z I137 := NX_fr hF356 (by omega) (by omega) (by omega)
      have ns360 : NS Z I134 Z I137 := NS_fr hF356 (by intro a k h; omega)
      have hr361 := RV_keep hr (NX.tr nx352 nx359)
      have hs362 := RS_keep hrs (NS.tr ns353 ns360)
      have hj363 := RJ_keep hrj (NS.tr ns353 ns360) NJ.rf
      have ht364 := RT_keep h hrt (NT.tr nt350 nt357)
      exact ih Z I137 J rc rs (x3 + 6) h358 hr361 hs362 hj363 ht364 (by omega) (by omega) (by omega) (by omega)
    · skip
      refine ⟨hv1, ?_⟩
      refine sfX11_groups h.1 h.2.2.1 (fun v141 I140 hW366 hF367 => ?_)
      have nt368 : NT Z I Z I140 := NT_fr h hF367 (by intro a k h; omega)
      have h369 := IV_x h hW366 hF367 (by intro a k h; omega)
      have nx370 : NX Z I Z I140 := NX_fr hF367 (by omega) (by omega) (by omega)
      have ns371 : NS Z I Z I140 := NS_fr hF367 (by intro a k h; omega)
      refine ⟨hv1, ?_⟩
      refine sfX12_groups h369.2.2.2.1 h369.2.2.2.2.1 (fun v144 I143 hW373 hF374 => ?_)
      have nt375 : NT Z I140 Z I143 := NT_fr h369 hF374 (by intro a k h; omega)
      have h376 := IV_m h369 hW373 hF374 (by intro a k h; omega)
      have nx377 : NX Z I140 Z I143 := NX_fr hF374 (by omega) (by omega) (by omega)
      have ns378 : NS Z I140 Z I143 := NS_fr hF374 (by intro a k h; omega)
      have hr379 := RV_keep hr (NX.tr nx370 nx377)
      have hs380 := RS_keep hrs (NS.tr ns371 ns378)
      have hj381 := RJ_keep hrj (NS.tr ns371 ns378) NJ.rf
      have ht382 := RT_keep h hrt (NT.tr nt368 nt375)
      exact ih Z I143 J rc rs (x3 + 6) h376 hr379 hs380 hj381 ht382 (by omega) (by omega) (by omega) (by omega)
    · skip
      refine ⟨hv1, ?_⟩
      refine sfX11_firstOf h.1 h.2.2.1 (fun v147 I146 hW384 hF385 => ?_)
      have nt386 : NT Z I Z I146 := NT_fr h hF385 (by intro a k h; omega)
      have h387 := IV_x h hW384 hF385 (by intro a k h; omega)
      have nx388 : NX Z I Z I146 := NX_fr hF385 (by omega) (by omega) (by omega)
      have ns389 : NS Z I Z I146 := NS_fr hF385 (by intro a k h; omega)
      refine ⟨hv1, ?_⟩
      refine sfX12_firstOf h387.2.2.2.1 h387.2.2.2.2.1 (fun v150 I149 hW391 hF392 => ?_)
      have nt393 : NT Z I146 Z I149 := NT_fr h387 hF392 (by intro a k h; omega)
      have h394 := IV_m h387 hW391 hF392 (by intro a k h; omega)
      have nx395 : NX Z I146 Z I149 := NX_fr hF392 (by omega) (by omega) (by omega)
      have ns396 : NS Z I146 Z I149 := NS_fr hF392 (by intro a k h; omega)
      have hr397 := RV_keep hr (NX.tr nx388 nx395)
      have hs398 := RS_keep hrs (NS.tr ns389 ns396)
      have hj399 := RJ_keep hrj (NS.tr ns389 ns396) NJ.rf
      have ht400 := RT_keep h hrt (NT.tr nt386 nt393)
      exact ih Z I149 J rc rs (x3 + 6) h394 hr397 hs398 hj399 ht400 (by omega) (by omega) (by omega) (by omega)
    · skip
      refine ⟨hv1, ?_⟩
      refine sfX11_most h.1 h.2.2.1 (fun v153 I152 hW402 hF403 => ?_)
      have nt404 : NT Z I Z I152 := NT_fr h hF403 (by intro a k h; omega)
      have h405 := IV_x h hW402 hF403 (by intro a k h; omega)
      have nx406 : NX Z I Z I152 := NX_fr hF403 (by omega) (by omega) (by omega)
      have ns407 : NS Z I Z I152 := NS_fr hF403 (by intro a k h; omega)
      refine ⟨hv1, ?_⟩
      refine sfX12_most h405.2.2.2.1 h405.2.2.2.2.1 (fun v156 I155 hW409 hF410 => ?_)
      have nt411 : NT Z I152 Z I155 := NT_fr h405 hF410 (by intro a k h; omega)
      have h412 := IV_m h405 hW409 hF410 (by intro a k h; omega)
      have nx413 : NX Z I152 Z I155 := NX_fr hF410 (by omega) (by omega) (by omega)
      have ns414 : NS Z I152 Z I155 := NS_fr hF410 (by intro a k h; omega)
      have hr415 := RV_keep hr (NX.tr nx406 nx413)
      have hs416 := RS_keep hrs (NS.tr ns407 ns414)
      have hj417 := RJ_keep hrj (NS.tr ns407 ns414) NJ.rf
      have ht418 := RT_keep h hrt (NT.tr nt404 nt411)
      exact ih Z I155 J rc rs (x3 + 6) h412 hr415 hs416 hj417 ht418 (by omega) (by omega) (by omega) (by omega)
    · skip
      refine ⟨hv1, ?_⟩
      refine ⟨hv2, ?_⟩
      refine sfX11_mostOf h.1 h.2.2.1 (fun v160 I159 hW420 hF421 => ?_)
      have nt422 : NT Z I Z I159 := NT_fr h hF421 (by intro a k h; omega)
      have h423 := IV_x h hW420 hF421 (by intro a k h; omega)
      have nx424 : NX Z I Z I159 := NX_fr hF421 (by omega) (by omega) (by omega)
      have ns425 : NS Z I Z I159 := NS_fr hF421 (by intro a k h; omega)
      refine ⟨hv1, ?_⟩
      refine ⟨hv2, ?_⟩
      refine sfX12_mostOf h423.2.2.2.1 h423.2.2.2.2.1 (fun v164 I163 hW427 hF428 => ?_)
      have nt429 : NT Z I159 Z I163 := NT_fr h423 hF428 (by intro a k h; omega)
      have h430 := IV_m h423 hW427 hF428 (by intro a k h; omega)
      have nx431 : NX Z I159 Z I163 := NX_fr hF428 (by omega) (by omega) (by omega)
      have ns432 : NS Z I159 Z I163 := NS_fr hF428 (by intro a k h; omega)
      have hr433 := RV_keep hr (NX.tr nx424 nx431)
      have hs434 := RS_keep hrs (NS.tr ns425 ns432)
      have hj435 := RJ_keep hrj (NS.tr ns425 ns432) NJ.rf
      have ht436 := RT_keep h hrt (NT.tr nt422 nt429)
      exact ih Z I163 J rc rs (x3 + 6) h430 hr433 hs434 hj435 ht436 (by omega) (by omega) (by omega) (by omega)
    · skip
      refine ⟨hv1, ?_⟩
      refine ⟨hv2, ?_⟩
      refine ⟨hv3, ?_⟩
      refine sfX11_sends h.1 h.2.1 h.2.2.1 (fun v169 I168 hW438 hF439 => ?_)
      have nt440 : NT Z I Z I168 := NT_fr h hF439 (by intro a k h; omega)
      have h441 := IV_x h hW438 hF439 (by intro a k h; omega)
      have nx442 : NX Z I Z I168 := NX_fr hF439 (by omega) (by omega) (by omega)
      have ns443 : NS Z I Z I168 := NS_fr hF439 (by intro a k h; omega)
      refine ⟨hv1, ?_⟩
      refine ⟨hv2, ?_⟩
      refine ⟨hv3, ?_⟩
      refine sfX12_sends h441.2.2.2.1 h441.2.2.2.2.1 (fun v174 I173 hW445 hF446 => ?_)
      have nt447 : NT Z I168 Z I173 := NT_fr h441 hF446 (by intro a k h; omega)
      have h448 := IV_m h441 hW445 hF446 (by intro a k h; omega)
      have nx449 : NX Z I168 Z I173 := NX_fr hF446 (by omega) (by omega) (by omega)
      have ns450 : NS Z I168 Z I173 := NS_fr hF446 (by intro a k h; omega)
      have hr451 := RV_keep hr (NX.tr nx442 nx449)
      have hs452 := RS_keep hrs (NS.tr ns443 ns450)
      have hj453 := RJ_keep hrj (NS.tr ns443 ns450) NJ.rf
      have ht454 := RT_keep h hrt (NT.tr nt440 nt447)
      exact ih Z I173 J rc rs (x3 + 6) h448 hr451 hs452 hj453 ht454 (by omega) (by omega) (by omega) (by omega)
    · skip
      refine ⟨hv1, ?_⟩
      refine sfX11_run h.1 h.2.1 h.2.2.1 (fun v177 I176 hW456 hF457 => ?_)
      have nt458 : NT Z I Z I176 := NT_fr h hF457 (by intro a k h; omega)
      have h459 := IV_x h hW456 hF457 (by intro a k h; omega)
      have nx460 : NX Z I Z I176 := NX_fr hF457 (by omega) (by omega) (by omega)
      have ns461 : NS Z I Z I176 := NS_fr hF457 (by intro a k h; omega)
      refine ⟨hv1, ?_⟩
      refine sfX12_run h459.2.2.2.1 h459.2.2.2.2.1 (fun v180 I179 hW463 hF464 => ?_)
      have nt465 : NT Z I176 Z I179 := NT_fr h459 hF464 (by intro a k h; omega)
      have h466 := IV_m h459 hW463 hF464 (by intro a k h; omega)
      have nx467 : NX Z I176 Z I179 := NX_fr hF464 (by omega) (by omega) (by omega)
      have ns468 : NS Z I176 Z I179 := NS_fr hF464 (by intro a k h; omega)
      have hr469 := RV_keep hr (NX.tr nx460 nx467)
      have hs470 := RS_keep hrs (NS.tr ns461 ns468)
      have hj471 := RJ_keep hrj (NS.tr ns461 ns468) NJ.rf
      have ht472 := RT_keep h hrt (NT.tr nt458 nt465)
      exact ih Z I179 J rc rs (x3 + 6) h466 hr469 hs470 hj471 ht472 (by omega) (by omega) (by omega) (by omega)
    · skip
      refine ⟨hv1, ?_⟩
      refine ⟨hv2, ?_⟩
      refine sfX11_coach h.1 h.2.1 h.2.2.1 (fun v184 I183 hW474 hF475 => ?_)
      have nt476 : NT Z I Z I183 := NT_fr h hF475 (by intro a k h; omega)
      have h477 := IV_x h hW474 hF475 (by intro a k h; omega)
      have nx478 : NX Z I Z I183 := NX_fr hF475 (by omega) (by omega) (by omega)
      have ns479 : NS Z I Z I183 := NS_fr hF475 (by intro a k h; omega)
      refine ⟨hv1, ?_⟩
      refine ⟨hv2, ?_⟩
      refine sfX12_coach h477.2.2.2.1 h477.2.2.2.2.1 (fun v188 I187 hW481 hF482 => ?_)
      have nt483 : NT Z I183 Z I187 := NT_fr h477 hF482 (by intro a k h; omega)
      have h484 := IV_m h477 hW481 hF482 (by intro a k h; omega)
      have nx485 : NX Z I183 Z I187 := NX_fr hF482 (by omega) (by omega) (by omega)
      have ns486 : NS Z I183 Z I187 := NS_fr hF482 (by intro a k h; omega)
      have hr487 := RV_keep hr (NX.tr nx478 nx485)
      have hs488 := RS_keep hrs (NS.tr ns479 ns486)
      have hj489 := RJ_keep hrj (NS.tr ns479 ns486) NJ.rf
      have ht490 := RT_keep h hrt (NT.tr nt476 nt483)
      exact ih Z I187 J rc rs (x3 + 6) h484 hr487 hs488 hj489 ht490 (by omega) (by omega) (by omega) (by omega)
    · skip
      refine ⟨hv1, ?_⟩
      refine sfX11_left h.1 h.2.1 h.2.2.1 (fun v191 I190 hW492 hF493 => ?_)
      have nt494 : NT Z I Z I190 := NT_fr h hF493 (by intro a k h; omega)
      have h495 := IV_x h hW492 hF493 (by intro a k h; omega)
      have nx496 : NX Z I Z I190 := NX_fr hF493 (by omega) (by omega) (by omega)
      have ns497 : NS Z I Z I190 := NS_fr hF493 (by intro a k h; omega)
      refine ⟨hv1, ?_⟩
      refine sfX12_left h495.2.2.2.1 h495.2.2.2.2.1 (fun v194 I193 hW499 hF500 => ?_)
      have nt501 : NT Z I190 Z I193 := NT_fr h495 hF500 (by intro a k h; omega)
      have h502 := IV_m h495 hW499 hF500 (by intro a k h; omega)
      have nx503 : NX Z I190 Z I193 := NX_fr hF500 (by omega) (by omega) (by omega)
      have ns504 : NS Z I190 Z I193 := NS_fr hF500 (by intro a k h; omega)
      have hr505 := RV_keep hr (NX.tr nx496 nx503)
      have hs506 := RS_keep hrs (NS.tr ns497 ns504)
      have hj507 := RJ_keep hrj (NS.tr ns497 ns504) NJ.rf
      have ht508 := RT_keep h hrt (NT.tr nt494 nt501)
      exact ih Z I193 J rc rs (x3 + 6) h502 hr505 hs506 hj507 ht508 (by omega) (by omega) (by omega) (by omega)
    · skip
      refine ⟨hv1, ?_⟩
      refine ⟨hv2, ?_⟩
      refine sfX11_waits h.1 h.2.1 h.2.2.1 (fun v198 I197 hW510 hF511 => ?_)
      have nt512 : NT Z I Z I197 := NT_fr h hF511 (by intro a k h; omega)
      have h513 := IV_x h hW510 hF511 (by intro a k h; omega)
      have nx514 : NX Z I Z I197 := NX_fr hF511 (by omega) (by omega) (by omega)
      have ns515 : NS Z I Z I197 := NS_fr hF511 (by intro a k h; omega)
      refine ⟨hv1, ?_⟩
      refine ⟨hv2, ?_⟩
      refine sfX12_waits h513.2.2.2.1 h513.2.2.2.2.1 (fun v202 I201 hW517 hF518 => ?_)
      have nt519 : NT Z I197 Z I201 := NT_fr h513 hF518 (by intro a k h; omega)
      have h520 := IV_m h513 hW517 hF518 (by intro a k h; omega)
      have nx521 : NX Z I197 Z I201 := NX_fr hF518 (by omega) (by omega) (by omega)
      have ns522 : NS Z I197 Z I201 := NS_fr hF518 (by intro a k h; omega)
      have hr523 := RV_keep hr (NX.tr nx514 nx521)
      have hs524 := RS_keep hrs (NS.tr ns515 ns522)
      have hj525 := RJ_keep hrj (NS.tr ns515 ns522) NJ.rf
      have ht526 := RT_keep h hrt (NT.tr nt512 nt519)
      exact ih Z I201 J rc rs (x3 + 6) h520 hr523 hs524 hj525 ht526 (by omega) (by omega) (by omega) (by omega)
    · skip
      refine ⟨hv1, ?_⟩
      refine sfX11_least h.1 h.2.2.1 (fun v205 I204 hW528 hF529 => ?_)
      have nt530 : NT Z I Z I204 := NT_fr h hF529 (by intro a k h; omega)
      have h531 := IV_x h hW528 hF529 (by intro a k h; omega)
      have nx532 : NX Z I Z I204 := NX_fr hF529 (by omega) (by omega) (by omega)
      have ns533 : NS Z I Z I204 := NS_fr hF529 (by intro a k h; omega)
      refine ⟨hv1, ?_⟩
      refine sfX12_least h531.2.2.2.1 h531.2.2.2.2.1 (fun v208 I207 hW535 hF536 => ?_)
      have nt537 : NT Z I204 Z I207 := NT_fr h531 hF536 (by intro a k h; omega)
      have h538 := IV_m h531 hW535 hF536 (by intro a k h; omega)
      have nx539 : NX Z I204 Z I207 := NX_fr hF536 (by omega) (by omega) (by omega)
      have ns540 : NS Z I204 Z I207 := NS_fr hF536 (by intro a k h; omega)
      have hr541 := RV_keep hr (NX.tr nx532 nx539)
      have hs542 := RS_keep hrs (NS.tr ns533 ns540)
      have hj543 := RJ_keep hrj (NS.tr ns533 ns540) NJ.rf
      have ht544 := RT_keep h hrt (NT.tr nt530 nt537)
      exact ih Z I207 J rc rs (x3 + 6) h538 hr541 hs542 hj543 ht544 (by omega) (by omega) (by omega) (by omega)
    · skip
      refine sfX11_head h.1 h.2.1 h.2.2.1 (fun v210 I209 hW546 hF547 => ?_)
      have nt548 : NT Z I Z I209 := NT_fr h hF547 (by intro a k h; omega)
      have h549 := IV_x h hW546 hF547 (by intro a k h; omega)
      have nx550 : NX Z I Z I209 := NX_fr hF547 (by omega) (by omega) (by omega)
      have ns551 : NS Z I Z I209 := NS_fr hF547 (by intro a k h; omega)
      refine sfX12_head h549.2.2.2.1 h549.2.2.2.2.1 (fun v212 I211 hW553 hF554 => ?_)
      have nt555 : NT Z I209 Z I211 := NT_fr h549 hF554 (by intro a k h; omega)
      have h556 := IV_m h549 hW553 hF554 (by intro a k h; omega)
      have nx557 : NX Z I209 Z I211 := NX_fr hF554 (by omega) (by omega) (by omega)
      have ns558 : NS Z I209 Z I211 := NS_fr hF554 (by intro a k h; omega)
      have hr559 := RV_keep hr (NX.tr nx550 nx557)
      have hs560 := RS_keep hrs (NS.tr ns551 ns558)
      have hj561 := RJ_keep hrj (NS.tr ns551 ns558) NJ.rf
      have ht562 := RT_keep h hrt (NT.tr nt548 nt555)
      exact ih Z I211 J rc rs (x3 + 6) h556 hr559 hs560 hj561 ht562 (by omega) (by omega) (by omega) (by omega)
    · skip
      refine ⟨hv1, ?_⟩
      refine sfX11_days h.1 h.2.1 h.2.2.1 (fun v215 I214 hW564 hF565 => ?_)
      have nt566 : NT Z I Z I214 := NT_fr h hF565 (by intro a k h; omega)
      have h567 := IV_x h hW564 hF565 (by intro a k h; omega)
      have nx568 : NX Z I Z I214 := NX_fr hF565 (by omega) (by omega) (by omega)
      have ns569 : NS Z I Z I214 := NS_fr hF565 (by intro a k h; omega)
      refine ⟨hv1, ?_⟩
      have hfc := fC_le Z 45
      refine ⟨(fC Z 45), (fS Z 45), rc - 100, rs - 2100, by omega, by omega, ?_⟩
      refine qX12_days hG h567.2.2.2 (fun v572 Z217 I217 J217 hS570 => ⟨v572, rfl, (IV_s h567 hS570).1, hS570.1.1, ?_⟩)
      have h574 := IV_s h567 hS570
      have nx575 := NX_st h567 hS570 (by decide)
      have ns576 := NS_st h567 hS570
      have nj577 := NJ_st h567 hS570
      have nt578 := NT_st h567 hS570 (by decide)
      have hr579 := RV_keep hr (NX.tr nx568 nx575)
      have hs580 := RS_keep hrs (NS.tr ns569 ns576)
      have hj581 := RJ_keep hrj (NS.tr ns569 ns576) nj577
      have ht582 := RT_keep h hrt (NT.tr nt566 nt578)
      exact ih Z217 I217 J217 (rc - 100) (rs - 2100) (x3 + 6) h574 hr579 hs580 hj581 ht582 (by omega) (by omega) (by omega) (by omega)
    · skip
      refine ⟨hv1, ?_⟩
      refine sfX11_ever h.1 h.2.2.1 (fun v220 I219 hW584 hF585 => ?_)
      have nt586 : NT Z I Z I219 := NT_fr h hF585 (by intro a k h; omega)
      have h587 := IV_x h hW584 hF585 (by intro a k h; omega)
      have nx588 : NX Z I Z I219 := NX_fr hF585 (by omega) (by omega) (by omega)
      have ns589 : NS Z I Z I219 := NS_fr hF585 (by intro a k h; omega)
      refine ⟨hv1, ?_⟩
      refine ⟨1, 40, rc - 100, rs - 2100, by omega, by omega, ?_⟩
      refine qX12_ever h587.2.2.2 (fun v592 Z222 I222 J222 hS590 => ⟨v592, rfl, (IV_s h587 hS590).1, hS590.1.1, ?_⟩)
      have h594 := IV_s h587 hS590
      have nx595 := NX_st h587 hS590 (by decide)
      have ns596 := NS_st h587 hS590
      have nj597 := NJ_st h587 hS590
      have nt598 := NT_st h587 hS590 (by decide)
      have hr599 := RV_keep hr (NX.tr nx588 nx595)
      have hs600 := RS_keep hrs (NS.tr ns589 ns596)
      have hj601 := RJ_keep hrj (NS.tr ns589 ns596) nj597
      have ht602 := RT_keep h hrt (NT.tr nt586 nt598)
      exact ih Z222 I222 J222 (rc - 100) (rs - 2100) (x3 + 6) h594 hr599 hs600 hj601 ht602 (by omega) (by omega) (by omega) (by omega)
    · skip
      refine sfX11_hire h.1 h.2.2.1 (fun v224 I223 hW604 hF605 => ?_)
      have nt606 : NT Z I Z I223 := NT_fr h hF605 (by intro a k h; omega)
      have h607 := IV_x h hW604 hF605 (by intro a k h; omega)
      have nx608 : NX Z I Z I223 := NX_fr hF605 (by omega) (by omega) (by omega)
      have ns609 : NS Z I Z I223 := NS_fr hF605 (by intro a k h; omega)
      have hfc := fC_le Z 45
      refine ⟨(fC Z 45), (fS Z 45), rc - 100, rs - 2100, by omega, by omega, ?_⟩
      refine qX12_hire hG h607.2.2.2 (fun v612 Z225 I225 J225 hS610 => ⟨v612, rfl, (IV_s h607 hS610).1, hS610.1.1, ?_⟩)
      have h614 := IV_s h607 hS610
      have nx615 := NX_st h607 hS610 (by decide)
      have ns616 := NS_st h607 hS610
      have nj617 := NJ_st h607 hS610
      have nt618 := NT_st h607 hS610 (by decide)
      have hr619 := RV_keep hr (NX.tr nx608 nx615)
      have hs620 := RS_keep hrs (NS.tr ns609 ns616)
      have hj621 := RJ_keep hrj (NS.tr ns609 ns616) nj617
      have ht622 := RT_keep h hrt (NT.tr nt606 nt618)
      exact ih Z225 I225 J225 (rc - 100) (rs - 2100) (x3 + 6) h614 hr619 hs620 hj621 ht622 (by omega) (by omega) (by omega) (by omega)
    · skip
      refine ⟨hv1, ?_⟩
      refine sfX11_feast h.1 h.2.2.1 (fun v228 I227 hW624 hF625 => ?_)
      have nt626 : NT Z I Z I227 := NT_fr h hF625 (by intro a k h; omega)
      have h627 := IV_x h hW624 hF625 (by intro a k h; omega)
      have nx628 : NX Z I Z I227 := NX_fr hF625 (by omega) (by omega) (by omega)
      have ns629 : NS Z I Z I227 := NS_fr hF625 (by intro a k h; omega)
      refine ⟨hv1, ?_⟩
      refine ⟨40, 2026, rc - 100, rs - 2100, by omega, by omega, ?_⟩
      refine qX12_feast hG h627.2.2.2 (fun v632 Z230 I230 J230 hS630 => ⟨v632, rfl, (IV_s h627 hS630).1, hS630.1.1, ?_⟩)
      have h634 := IV_s h627 hS630
      have nx635 := NX_st h627 hS630 (by decide)
      have ns636 := NS_st h627 hS630
      have nj637 := NJ_st h627 hS630
      have nt638 := NT_st h627 hS630 (by decide)
      have hr639 := RV_keep hr (NX.tr nx628 nx635)
      have hs640 := RS_keep hrs (NS.tr ns629 ns636)
      have hj641 := RJ_keep hrj (NS.tr ns629 ns636) nj637
      have ht642 := RT_keep h hrt (NT.tr nt626 nt638)
      exact ih Z230 I230 J230 (rc - 100) (rs - 2100) (x3 + 6) h634 hr639 hs640 hj641 ht642 (by omega) (by omega) (by omega) (by omega)
    · skip
      refine ⟨hv1, ?_⟩
      refine ⟨hv2, ?_⟩
      refine sfX11_closes h.1 h.2.2.1 (fun v234 I233 hW644 hF645 => ?_)
      have nt646 : NT Z I Z I233 := NT_fr h hF645 (by intro a k h; omega)
      have h647 := IV_x h hW644 hF645 (by intro a k h; omega)
      have nx648 : NX Z I Z I233 := NX_fr hF645 (by omega) (by omega) (by omega)
      have ns649 : NS Z I Z I233 := NS_fr hF645 (by intro a k h; omega)
      refine ⟨hv1, ?_⟩
      refine ⟨hv2, ?_⟩
      have hfc := fC_le Z 45
      refine ⟨(fC Z 45), (fS Z 45), rc - 100, rs - 2100, by omega, by omega, ?_⟩
      refine qX12_closes hG h647.2.2.2 (fun v652 Z237 I237 J237 hS650 => ⟨v652, rfl, (IV_s h647 hS650).1, hS650.1.1, ?_⟩)
      have h654 := IV_s h647 hS650
      have nx655 := NX_st h647 hS650 (by decide)
      have ns656 := NS_st h647 hS650
      have nj657 := NJ_st h647 hS650
      have nt658 := NT_st h647 hS650 (by decide)
      have hr659 := RV_keep hr (NX.tr nx648 nx655)
      have hs660 := RS_keep hrs (NS.tr ns649 ns656)
      have hj661 := RJ_keep hrj (NS.tr ns649 ns656) nj657
      have ht662 := RT_keep h hrt (NT.tr nt646 nt658)
      exact ih Z237 I237 J237 (rc - 100) (rs - 2100) (x3 + 6) h654 hr659 hs660 hj661 ht662 (by omega) (by omega) (by omega) (by omega)
    · skip
      refine sfX11_worst h.1 h.2.2.1 (fun v239 I238 hW664 hF665 => ?_)
      have nt666 : NT Z I Z I238 := NT_fr h hF665 (by intro a k h; omega)
      have h667 := IV_x h hW664 hF665 (by intro a k h; omega)
      have nx668 : NX Z I Z I238 := NX_fr hF665 (by omega) (by omega) (by omega)
      have ns669 : NS Z I Z I238 := NS_fr hF665 (by intro a k h; omega)
      have hfc := fC_le Z 45
      refine ⟨(fC Z 45), (fS Z 45), rc - 100, rs - 2100, by omega, by omega, ?_⟩
      refine qX12_worst hG h667.2.2.2 (fun v672 Z240 I240 J240 hS670 => ⟨v672, rfl, (IV_s h667 hS670).1, hS670.1.1, ?_⟩)
      have h674 := IV_s h667 hS670
      have nx675 := NX_st h667 hS670 (by decide)
      have ns676 := NS_st h667 hS670
      have nj677 := NJ_st h667 hS670
      have nt678 := NT_st h667 hS670 (by decide)
      have hr679 := RV_keep hr (NX.tr nx668 nx675)
      have hs680 := RS_keep hrs (NS.tr ns669 ns676)
      have hj681 := RJ_keep hrj (NS.tr ns669 ns676) nj677
      have ht682 := RT_keep h hrt (NT.tr nt666 nt678)
      exact ih Z240 I240 J240 (rc - 100) (rs - 2100) (x3 + 6) h674 hr679 hs680 hj681 ht682 (by omega) (by omega) (by omega) (by omega)
    · skip
      refine ⟨hv1, ?_⟩
      refine sfX11_fits h.1 h.2.2.1 (fun v243 I242 hW684 hF685 => ?_)
      have nt686 : NT Z I Z I242 := NT_fr h hF685 (by intro a k h; omega)
      have h687 := IV_x h hW684 hF685 (by intro a k h; omega)
      have nx688 : NX Z I Z I242 := NX_fr hF685 (by omega) (by omega) (by omega)
      have ns689 : NS Z I Z I242 := NS_fr hF685 (by intro a k h; omega)
      refine ⟨hv1, ?_⟩
      have hfc := fC_le Z 45
      refine ⟨(fC Z 45), (fS Z 45), rc - 100, rs - 2100, by omega, by omega, ?_⟩
      refine qX12_fits hG h687.2.2.2 (fun v692 Z245 I245 J245 hS690 => ⟨v692, rfl, (IV_s h687 hS690).1, hS690.1.1, ?_⟩)
      have h694 := IV_s h687 hS690
      have nx695 := NX_st h687 hS690 (by decide)
      have ns696 := NS_st h687 hS690
      have nj697 := NJ_st h687 hS690
      have nt698 := NT_st h687 hS690 (by decide)
      have hr699 := RV_keep hr (NX.tr nx688 nx695)
      have hs700 := RS_keep hrs (NS.tr ns689 ns696)
      have hj701 := RJ_keep hrj (NS.tr ns689 ns696) nj697
      have ht702 := RT_keep h hrt (NT.tr nt686 nt698)
      exact ih Z245 I245 J245 (rc - 100) (rs - 2100) (x3 + 6) h694 hr699 hs700 hj701 ht702 (by omega) (by omega) (by omega) (by omega)
    · skip
      refine ⟨hv1, ?_⟩
      refine sfX11_sure h.1 h.2.2.1 (fun v248 I247 hW704 hF705 => ?_)
      have nt706 : NT Z I Z I247 := NT_fr h hF705 (by intro a k h; omega)
      have h707 := IV_x h hW704 hF705 (by intro a k h; omega)
      have nx708 : NX Z I Z I247 := NX_fr hF705 (by omega) (by omega) (by omega)
      have ns709 : NS Z I Z I247 := NS_fr hF705 (by intro a k h; omega)
      refine ⟨hv1, ?_⟩
      have hfc := fC_le Z 45
      refine ⟨(fC Z 45), (fS Z 45), rc - 100, rs - 2100, by omega, by omega, ?_⟩
      refine qX12_sure hG h707.2.2.2 (fun v712 Z250 I250 J250 hS710 => ⟨v712, rfl, (IV_s h707 hS710).1, hS710.1.1, ?_⟩)
      have h714 := IV_s h707 hS710
      have nx715 := NX_st h707 hS710 (by decide)
      have ns716 := NS_st h707 hS710
      have nj717 := NJ_st h707 hS710
      have nt718 := NT_st h707 hS710 (by decide)
      have hr719 := RV_keep hr (NX.tr nx708 nx715)
      have hs720 := RS_keep hrs (NS.tr ns709 ns716)
      have hj721 := RJ_keep hrj (NS.tr ns709 ns716) nj717
      have ht722 := RT_keep h hrt (NT.tr nt706 nt718)
      exact ih Z250 I250 J250 (rc - 100) (rs - 2100) (x3 + 6) h714 hr719 hs720 hj721 ht722 (by omega) (by omega) (by omega) (by omega)
    · skip
      refine ⟨hv1, ?_⟩
      refine ⟨hv2, ?_⟩
      refine sfX11_judge h.1 h.2.2.1 (fun v254 I253 hW724 hF725 => ?_)
      have nt726 : NT Z I Z I253 := NT_fr h hF725 (by intro a k h; omega)
      have h727 := IV_x h hW724 hF725 (by intro a k h; omega)
      have nx728 : NX Z I Z I253 := NX_fr hF725 (by omega) (by omega) (by omega)
      have ns729 : NS Z I Z I253 := NS_fr hF725 (by intro a k h; omega)
      refine ⟨hv1, ?_⟩
      refine ⟨hv2, ?_⟩
      refine sfX12_judge h727.2.2.2.1 h727.2.2.2.2.1 (fun v258 I257 hW731 hF732 => ?_)
      have nt733 : NT Z I253 Z I257 := NT_fr h727 hF732 (by intro a k h; omega)
      have h734 := IV_m h727 hW731 hF732 (by intro a k h; omega)
      have nx735 : NX Z I253 Z I257 := NX_fr hF732 (by omega) (by omega) (by omega)
      have ns736 : NS Z I253 Z I257 := NS_fr hF732 (by intro a k h; omega)
      have hr737 := RV_keep hr (NX.tr nx728 nx735)
      have hs738 := RS_keep hrs (NS.tr ns729 ns736)
      have hj739 := RJ_keep hrj (NS.tr ns729 ns736) NJ.rf
      have ht740 := RT_keep h hrt (NT.tr nt726 nt733)
      exact ih Z I257 J rc rs (x3 + 6) h734 hr737 hs738 hj739 ht740 (by omega) (by omega) (by omega) (by omega)
    · skip
      refine ⟨hv1, ?_⟩
      refine ⟨hv2, ?_⟩
      refine ⟨hv3, ?_⟩
      refine sfX11_behind h.1 h.2.2.1 (fun v263 I262 hW742 hF743 => ?_)
      have nt744 : NT Z I Z I262 := NT_fr h hF743 (by intro a k h; omega)
      have h745 := IV_x h hW742 hF743 (by intro a k h; omega)
      have nx746 : NX Z I Z I262 := NX_fr hF743 (by omega) (by omega) (by omega)
      have ns747 : NS Z I Z I262 := NS_fr hF743 (by intro a k h; omega)
      refine ⟨hv1, ?_⟩
      refine ⟨hv2, ?_⟩
      refine ⟨hv3, ?_⟩
      have hfc := fC_le Z 45
      refine ⟨(fC Z 45), (fS Z 45), rc - 100, rs - 2100, by omega, by omega, ?_⟩
      refine qX12_behind hG h745.2.2.2 (fun v750 Z267 I267 J267 hS748 => ⟨v750, rfl, (IV_s h745 hS748).1, hS748.1.1, ?_⟩)
      have h752 := IV_s h745 hS748
      have nx753 := NX_st h745 hS748 (by decide)
      have ns754 := NS_st h745 hS748
      have nj755 := NJ_st h745 hS748
      have nt756 := NT_st h745 hS748 (by decide)
      have hr757 := RV_keep hr (NX.tr nx746 nx753)
      have hs758 := RS_keep hrs (NS.tr ns747 ns754)
      have hj759 := RJ_keep hrj (NS.tr ns747 ns754) nj755
      have ht760 := RT_keep h hrt (NT.tr nt744 nt756)
      exact ih Z267 I267 J267 (rc - 100) (rs - 2100) (x3 + 6) h752 hr757 hs758 hj759 ht760 (by omega) (by omega) (by omega) (by omega)
    · skip
      refine ⟨hv1, ?_⟩
      refine ⟨hv2, ?_⟩
      refine sfX11_rides h.1 h.2.2.1 (fun v271 I270 hW762 hF763 => ?_)
      have nt764 : NT Z I Z I270 := NT_fr h hF763 (by intro a k h; omega)
      have h765 := IV_x h hW762 hF763 (by intro a k h; omega)
      have nx766 : NX Z I Z I270 := NX_fr hF763 (by omega) (by omega) (by omega)
      have ns767 : NS Z I Z I270 := NS_fr hF763 (by intro a k h; omega)
      refine ⟨hv1, ?_⟩
      refine ⟨hv2, ?_⟩
      refine sfX12_rides h765.2.2.2.1 h765.2.2.2.2.1 (fun v275 I274 hW769 hF770 => ?_)
      have nt771 : NT Z I270 Z I274 := NT_fr h765 hF770 (by intro a k h; omega)
      have h772 := IV_m h765 hW769 hF770 (by intro a k h; omega)
      have nx773 : NX Z I270 Z I274 := NX_fr hF770 (by omega) (by omega) (by omega)
      have ns774 : NS Z I270 Z I274 := NS_fr hF770 (by intro a k h; omega)
      have hr775 := RV_keep hr (NX.tr nx766 nx773)
      have hs776 := RS_keep hrs (NS.tr ns767 ns774)
      have hj777 := RJ_keep hrj (NS.tr ns767 ns774) NJ.rf
      have ht778 := RT_keep h hrt (NT.tr nt764 nt771)
      exact ih Z I274 J rc rs (x3 + 6) h772 hr775 hs776 hj777 ht778 (by omega) (by omega) (by omega) (by omega)
    · skip
      refine ⟨hv1, ?_⟩
      refine sfX11_day h.1 h.2.1 h.2.2.1 (fun v278 I277 hW780 hF781 => ?_)
      have nt782 : NT Z I Z I277 := NT_fr h hF781 (by intro a k h; omega)
      have h783 := IV_x h hW780 hF781 (by intro a k h; omega)
      have nx784 : NX Z I Z I277 := NX_fr hF781 (by omega) (by omega) (by omega)
      have ns785 : NS Z I Z I277 := NS_fr hF781 (by intro a k h; omega)
      refine ⟨hv1, ?_⟩
      refine sfX12_day h783.2.2.2.1 h783.2.2.2.2.1 (fun v281 I280 hW787 hF788 => ?_)
      have nt789 : NT Z I277 Z I280 := NT_fr h783 hF788 (by intro a k h; omega)
      have h790 := IV_m h783 hW787 hF788 (by intro a k h; omega)
      have nx791 : NX Z I277 Z I280 := NX_fr hF788 (by omega) (by omega) (by omega)
      have ns792 : NS Z I277 Z I280 := NS_fr hF788 (by intro a k h; omega)
      have hr793 := RV_keep hr (NX.tr nx784 nx791)
      have hs794 := RS_keep hrs (NS.tr ns785 ns792)
      have hj795 := RJ_keep hrj (NS.tr ns785 ns792) NJ.rf
      have ht796 := RT_keep h hrt (NT.tr nt782 nt789)
      exact ih Z I280 J rc rs (x3 + 6) h790 hr793 hs794 hj795 ht796 (by omega) (by omega) (by omega) (by omega)
    · skip
      refine ⟨hv1, ?_⟩
      refine sfX11_meet h.1 h.2.2.1 (fun v284 I283 hW798 hF799 => ?_)
      have nt800 : NT Z I Z I283 := NT_fr h hF799 (by intro a k h; omega)
      have h801 := IV_x h hW798 hF799 (by intro a k h; omega)
      have nx802 : NX Z I Z I283 := NX_fr hF799 (by omega) (by omega) (by omega)
      have ns803 : NS Z I Z I283 := NS_fr hF799 (by intro a k h; omega)
      refine ⟨hv1, ?_⟩
      refine sfX12_meet h801.2.2.2.1 h801.2.2.2.2.1 (fun v287 I286 hW805 hF806 => ?_)
      have nt807 : NT Z I283 Z I286 := NT_fr h801 hF806 (by intro a k h; omega)
      have h808 := IV_m h801 hW805 hF806 (by intro a k h; omega)
      have nx809 : NX Z I283 Z I286 := NX_fr hF806 (by omega) (by omega) (by omega)
      have ns810 : NS Z I283 Z I286 := NS_fr hF806 (by intro a k h; omega)
      have hr811 := RV_keep hr (NX.tr nx802 nx809)
      have hs812 := RS_keep hrs (NS.tr ns803 ns810)
      have hj813 := RJ_keep hrj (NS.tr ns803 ns810) NJ.rf
      have ht814 := RT_keep h hrt (NT.tr nt800 nt807)
      exact ih Z I286 J rc rs (x3 + 6) h808 hr811 hs812 hj813 ht814 (by omega) (by omega) (by omega) (by omega)
    · skip
      refine sfX11_year h.1 h.2.2.1 (fun v289 I288 hW816 hF817 => ?_)
      have nt818 : NT Z I Z I288 := NT_fr h hF817 (by intro a k h; omega)
      have h819 := IV_x h hW816 hF817 (by intro a k h; omega)
      have nx820 : NX Z I Z I288 := NX_fr hF817 (by omega) (by omega) (by omega)
      have ns821 : NS Z I Z I288 := NS_fr hF817 (by intro a k h; omega)
      refine sfX12_year h819.2.2.2.1 h819.2.2.2.2.1 (fun v291 I290 hW823 hF824 => ?_)
      have nt825 : NT Z I288 Z I290 := NT_fr h819 hF824 (by intro a k h; omega)
      have h826 := IV_m h819 hW823 hF824 (by intro a k h; omega)
      have nx827 : NX Z I288 Z I290 := NX_fr hF824 (by omega) (by omega) (by omega)
      have ns828 : NS Z I288 Z I290 := NS_fr hF824 (by intro a k h; omega)
      have hr829 := RV_keep hr (NX.tr nx820 nx827)
      have hs830 := RS_keep hrs (NS.tr ns821 ns828)
      have hj831 := RJ_keep hrj (NS.tr ns821 ns828) NJ.rf
      have ht832 := RT_keep h hrt (NT.tr nt818 nt825)
      exact ih Z I290 J rc rs (x3 + 6) h826 hr829 hs830 hj831 ht832 (by omega) (by omega) (by omega) (by omega)
    · skip
      refine ⟨hv1, ?_⟩
      refine pX11_come h.1 h.2.2.1 ht1 (fun v294 I293 hW834 hF835 hp833 => ?_)
      have tm836 := TM_fr ht2 (show s.1.1 ≤ 8 by omega) hF835 (by omega) (by omega) (by omega) (by omega) (by intro a k h1 h2 h3; omega)
      have rk837 := RK_fr h hrt.2.2 hF835 (by intro a k h; omega)
      have tp838 := TP_fr hrt.1 hF835 (by intro a k h; omega)
      have h839 := IV_x h hW834 hF835 (by intro a k h; omega)
      have nx840 : NX Z I Z I293 := NX_fr hF835 (by omega) (by omega) (by omega)
      have ns841 : NS Z I Z I293 := NS_fr hF835 (by intro a k h; omega)
      refine ⟨hv1, ?_⟩
      refine pX12_come h839.2.2.2.1 h839.2.2.2.2.1 tm836 (fun v297 I296 hW843 hF844 hp842 => ?_)
      have rk845 := RK_fr h839 rk837 hF844 (by intro a k h; omega)
      have tp846 := TP_fr tp838 hF844 (by intro a k h; omega)
      have h847 := IV_m h839 hW843 hF844 (by intro a k h; omega)
      have nx848 : NX Z I293 Z I296 := NX_fr hF844 (by omega) (by omega) (by omega)
      have ns849 : NS Z I293 Z I296 := NS_fr hF844 (by intro a k h; omega)
      have hr850 := RV_keep hr (NX.tr nx840 nx848)
      have hs851 := RS_keep hrs (NS.tr ns841 ns849)
      have hj852 := RJ_keep hrj (NS.tr ns841 ns849) NJ.rf
      obtain ⟨k854, ek855⟩ := oCome_k s kk (xs (Int32.toNatClampNeg (x3 + 1)))
      rw [ek855] at hp842
      have ht853 : RT Z I296 := ⟨tp846, ⟨_, k854, TX_fr hp833.2 hF844 (by intro a k h1 h2; omega), hp842.2⟩, rk845⟩
      exact ih Z I296 J rc rs (x3 + 6) h847 hr850 hs851 hj852 ht853 (by omega) (by omega) (by omega) (by omega)
    · skip
      refine ⟨hv1, ?_⟩
      refine fsfX11_seed h.1 h.2.2.1 ht1 (fun v300 I299 hW857 hF858 hp856 => ?_)
      have tm859 := TM_fr ht2 (show s.1.1 ≤ 8 by omega) hF858 (by omega) (by omega) (by omega) (by omega) (by intro a k h1 h2 h3; omega)
      have rk860 := RK_fr h hrt.2.2 hF858 (by intro a k h; omega)
      have tp861 := TP_fr hrt.1 hF858 (by intro a k h; omega)
      have h862 := IV_x h hW857 hF858 (by intro a k h; omega)
      have nx863 : NX Z I Z I299 := NX_fr hF858 (by omega) (by omega) (by omega)
      have ns864 : NS Z I Z I299 := NS_fr hF858 (by intro a k h; omega)
      refine ⟨hv1, ?_⟩
      refine fsfX12_seed h862.2.2.2.1 h862.2.2.2.2.1 tm859 (fun v303 I302 hW866 hF867 hp865 => ?_)
      have rk868 := RK_fr h862 rk860 hF867 (by intro a k h; omega)
      have tp869 := TP_fr tp861 hF867 (by intro a k h; omega)
      have h870 := IV_m h862 hW866 hF867 (by intro a k h; omega)
      have nx871 : NX Z I299 Z I302 := NX_fr hF867 (by omega) (by omega) (by omega)
      have ns872 : NS Z I299 Z I302 := NS_fr hF867 (by intro a k h; omega)
      have hr873 := RV_keep hr (NX.tr nx863 nx871)
      have hs874 := RS_keep hrs (NS.tr ns864 ns872)
      have hj875 := RJ_keep hrj (NS.tr ns864 ns872) NJ.rf
      obtain ⟨k877, ek878⟩ := oSeed_k s kk (xs (Int32.toNatClampNeg (x3 + 1)))
      rw [ek878] at hp865
      have ht876 : RT Z I302 := ⟨tp869, ⟨_, k877, TX_fr hp856.2 hF867 (by intro a k h1 h2; omega), hp865.2⟩, rk868⟩
      exact ih Z I302 J rc rs (x3 + 6) h870 hr873 hs874 hj875 ht876 (by omega) (by omega) (by omega) (by omega)
    · skip
      refine pX11_image h.1 h.2.2.1 ht1 (fun v305 I304 hW880 hF881 hp879 pI882 => ?_)
      have tm883 := TM_fr ht2 (show s.1.1 ≤ 8 by omega) hF881 (by omega) (by omega) (by omega) (by omega) (by intro a k h1 h2 h3; omega)
      have tp884 := TP_fr hrt.1 hF881 (by intro a k h; omega)
      have h885 := IV_x h hW880 hF881 (by intro a k h; omega)
      have e25 := congrArg Int32.toInt (hF881 25 1 (by omega))
      have e458 := congrArg Int32.toInt (hF881 45 8 (by omega))
      have ns886 : NS Z I Z I304 := NS_fr hF881 (by intro a k h; omega)
      refine ⟨38, 1946, rc - 100, rs - 2100, by omega, by omega, ?_⟩
      refine qX12_image hG h885.2.2.2 (fun Z306 I306 J306 hS887 hpi hFi => ⟨1, rfl, (IV_s h885 hS887).1, hS887.1.1, ?_⟩)
      have h891 := IV_s h885 hS887
      have m25 := congrArg Int32.toInt (hS887.2.2.2.2.1 25 1 (by omega))
      have m458 := congrArg Int32.toInt (hS887.2.2.2.2.1 45 8 (by omega))
      have m08 := congrArg Int32.toInt (hS887.2.2.2.2.1 0 8 (by omega))
      have ns892 := NS_st h885 hS887
      have nj893 := NJ_st h885 hS887
      have hr894 : RV Z306 I306 := ⟨by omega, ⟨fun q => absurd q (by omega), fun q => by obtain ⟨w9, hw9, _⟩ := hpi; rw [hw9] at q; cases q⟩⟩
      have hs895 := RS_keep hrs (NS.tr ns886 ns892)
      have hj896 := RJ_keep hrj (NS.tr ns886 ns892) nj893
      obtain ⟨w9, hw9, c1, c2, c3⟩ := hpi
      have ht897 : RT Z306 I306 := ⟨TP_fr tp884 hFi (by intro a k h; omega), ⟨s, kk, TX_fr (TX_fr ht1 hF881 (by intro a k h1 h2; omega)) hFi (by intro a k h1 h2; omega), TM_fr tm883 (show s.1.1 ≤ 8 by omega) hFi (by omega) (by omega) (by omega) (by omega) (by intro a k h1 h2 h3; omega)⟩, fun u hu => by rw [hw9] at hu; cases hu; exact ⟨s, kk, TX_fr pI882 hFi (by intro a k h1 h2; omega), RM_cm tm883.1 (show s.1.1 ≤ 8 by omega) c3, by rw [c3.2.2.2 19 (by decide) (by decide)]; exact tm883.2⟩⟩
      exact ih Z306 I306 J306 (rc - 100) (rs - 2100) (x3 + 6) h891 hr894 hs895 hj896 ht897 (by omega) (by omega) (by omega) (by omega)
    · skip
      refine pX11_back h.1 h.2.2.1 (fun v308 I307 hW899 hF900 hp898 pB901 pB902 => ?_)
      have tm903 := TM_fr ht2 (show s.1.1 ≤ 8 by omega) hF900 (by omega) (by omega) (by omega) (by omega) (by intro a k h1 h2 h3; omega)
      have rk904 := RK_fr h hrt.2.2 hF900 (by intro a k h; omega)
      have tp905 := TP_fr hrt.1 hF900 (by intro a k h; omega)
      have h906 := IV_x h hW899 hF900 (by intro a k h; omega)
      have nx907 : NX Z I Z I307 := NX_fr hF900 (by omega) (by omega) (by omega)
      have ns908 : NS Z I Z I307 := NS_fr hF900 (by intro a k h; omega)
      refine qX12_back h906.2.2.2 (fun v310 I309 hS909 hpb => ?_)
      have h910 := IV_s h906 hS909
      have nx911 := NX_st h906 hS909 (by decide)
      have ns912 := NS_st h906 hS909
      have nj913 := NJ_st h906 hS909
      have hr914 := RV_keep hr (NX.tr nx907 nx911)
      have hs915 := RS_keep hrs (NS.tr ns908 ns912)
      have hj916 := RJ_keep hrj (NS.tr ns908 ns912) nj913
      have hmain : ∃ s k, TX I309 1 s ∧ TM I309 45 (setK s.1 k, s.2) := by
        cases hz9 : Z.2.1 45 20 with
        | none =>
          have g := hr.2.mpr hz9
          obtain ⟨_, fB⟩ := hpb.1 hz9
          exact ⟨s, kk, TX_fr (pB902 g s ht1) fB (by intro a k h1 h2; omega), TM_fr tm903 (show s.1.1 ≤ 8 by omega) fB (by omega) (by omega) (by omega) (by omega) (by intro a k h1 h2 h3; omega)⟩
        | some w9 =>
          have hne : ¬ Z.2.1 45 20 = none := by rw [hz9]; exact fun e => by cases e
          have g := mt hr.2.mp hne
          obtain ⟨s9, k9, g1, g2⟩ := hrt.2.2 w9 hz9
          have l9 := g1.1.1
          have hwk := IV_kept h hz9
          have hw9 := WX_f h.2.2.1
          obtain ⟨_, c3⟩ := hpb.2 hne
          have c3 := c3 w9 hz9
          have g3 := TM_fr g2 (show s9.1.1 ≤ 8 by omega) hF900 (by omega) (by omega) (by omega) (by omega) (by intro a k h1 h2 h3; omega)
          exact ⟨s9, k9, TX_fr (pB901 g s9 g1) hS909.2.2.2.2.1 (by intro a k h1 h2; omega), RM_cm g3.1 (show s9.1.1 ≤ 8 by omega) c3, by rw [c3.2.2.2 19 (by decide) (by decide)]; exact g3.2⟩
      have hbz := h.2.2.2.2.2.1
      have ht917 : RT Z I309 := ⟨TP_fr tp905 hS909.2.2.2.2.1 (by intro a k h; omega), hmain, RK_eq rk904 h906.2.2.1 rfl (fun a k h1 h2 => hS909.2.2.2.2.1 a k (by omega)) (fun u hu a k h1 h2 => hS909.2.2.2.2.2.2 rfl (by omega) u hu a k h1 h2)⟩
      exact ih Z I309 J rc rs (x3 + 6) h910 hr914 hs915 hj916 ht917 (by omega) (by omega) (by omega) (by omega)
    · skip
      refine ⟨hv1, ?_⟩
      refine sfX11_status h.1 h.2.2.1 (fun v313  => ?_)
      have nx919 : NX Z I Z I := NX.rf
      have ns920 : NS Z I Z I := NS.rf
      have nt921 : NT Z I Z I := NT.rf
      refine ⟨hv1, ?_⟩
      refine sfX12_status h.2.2.2.1 h.2.2.2.2.1 (fun v316  => ?_)
      have nx923 : NX Z I Z I := NX.rf
      have ns924 : NS Z I Z I := NS.rf
      have nt925 : NT Z I Z I := NT.rf
      have hr926 := RV_keep hr (NX.tr nx919 nx923)
      have hs927 := RS_keep hrs (NS.tr ns920 ns924)
      have hj928 := RJ_keep hrj (NS.tr ns920 ns924) NJ.rf
      have ht929 := RT_keep h hrt (NT.tr nt921 nt925)
      exact ih Z I J rc rs (x3 + 6) h hr926 hs927 hj928 ht929 (by omega) (by omega) (by omega) (by omega)
