set_option maxRecDepth 20000 in
set_option maxHeartbeats 4000000 in
/-- the law's loop goes on well -/
theorem lL_law {G : jdG} {nm : String} {b L : Nat} {xs : Nat → Int32} {sA sV : Nat → Nat} (hG : gOK G sA sV) (hXs : ∀ U, G.2.2.2.2 U → va_X b L xs U G.2.2.1) (hL : L ≤ 100000) : ∀ m : Nat, ∀ (Z : jdL) (I : jdI) (J : jdJ) (rc rs : Nat) (x3 : Int32), IV Z I → RV Z I → RS Z I → RJ I J → RT Z I → 0 ≤ x3.toInt → (L : Int) - x3.toInt + 6 < (m : Int) → 20 * ((L : Int) - x3.toInt) ≤ (rc : Int) → 350 * ((L : Int) - x3.toInt) ≤ (rs : Int) → x3.toInt ≤ (L : Int) → Jd G (mLaw nm) (lawF G) (2046 + 1) rc rs 18 [(0, .ref b), (1, .ref (gb G + 0)), (2, .ref (gb G + 45)), (3, .int x3)] [] Z I J := by
  intro m
  induction m with
  | zero =>
    intro Z I J rc rs x3 h hr hrs hrj hrt h0 hm h1 h2 h3
    have hr1 := hr.1
    omega
  | succ m ih0 =>
    have ih : ∀ (Z : jdL) (I : jdI) (J : jdJ) (rc rs : Nat) (x3 : Int32), IV Z I → RV Z I → RS Z I → RJ I J → RT Z I → 0 ≤ x3.toInt → (L : Int) - x3.toInt + 6 < (m : Int) → 20 * ((L : Int) - x3.toInt) ≤ (rc : Int) → 350 * ((L : Int) - x3.toInt) ≤ (rs : Int) ∧ x3.toInt ≤ (L : Int) → Jd G (mLaw nm) (lawF G) (2046 + 1) rc rs 18 [(0, .ref b), (1, .ref (gb G + 0)), (2, .ref (gb G + 45)), (3, .int x3)] [] Z I J := fun Z I J rc rs x3 h hr hrs hrj hrt a1 a2 a3 a4 => ih0 Z I J rc rs x3 h hr hrs hrj hrt a1 a2 a3 a4.1 a4.2
    intro Z I J rc rs x3 h hr hrs hrj hrt h0 hm h1 h2 h3
    have hr1 := hr.1
    obtain ⟨s, kk, ht1, ht2⟩ := hrt.2.1
    have hP7 := ht1.1.1
    have hwx := WX_f h.2.2.1
    have qL : (Nat.toInt32 L).toInt = (L : Int) := nI_toInt (by omega)
    have q6 : (6 : Int32).toInt = 6 := rfl
    have q1 : (1 : Int32).toInt = 1 := rfl
    have q2 : (2 : Int32).toInt = 2 := rfl
    have q3 : (3 : Int32).toInt = 3 := rfl
    have q4 : (4 : Int32).toInt = 4 := rfl
    have q5 : (5 : Int32).toInt = 5 := rfl
    have s6 := i32_sub (Nat.toInt32 L) 6 (by omega) (by omega)
    refine rL_law hXs h.1 h.2.2.2.1 ⟨fun _ => trivial, fun hc => ?_⟩
    have hc := mt Int32.lt_iff_toInt_lt.mpr hc
    have e6 := i32_add x3 6 (by omega) (by omega)
    have hv0 : vp_in x3 L := vp_of (by omega) (by omega)
    have e1 := i32_add x3 1 (by omega) (by omega)
    have hv1 : vp_in (x3 + 1) L := vp_of (by omega) (by omega)
    have e2 := i32_add x3 2 (by omega) (by omega)
    have hv2 : vp_in (x3 + 2) L := vp_of (by omega) (by omega)
    have e3 := i32_add x3 3 (by omega) (by omega)
    have hv3 : vp_in (x3 + 3) L := vp_of (by omega) (by omega)
    have e4 := i32_add x3 4 (by omega) (by omega)
    have hv4 : vp_in (x3 + 4) L := vp_of (by omega) (by omega)
    have e5 := i32_add x3 5 (by omega) (by omega)
    have hv5 : vp_in (x3 + 5) L := vp_of (by omega) (by omega)
    refine ⟨hv0, ?_⟩
    refine ⟨fun hc1 => ?_, fun hc2 => ?_, fun hc3 => ?_, fun hc4 => ?_, fun hc5 => ?_, fun hc6 => ?_, fun hc7 => ?_, fun hc8 => ?_, fun hc9 => ?_, fun hc10 => ?_, fun hc11 => ?_, fun hc12 => ?_, fun hc13 => ?_, fun hc14 => ?_, fun hc15 => ?_, fun hc16 => ?_, fun hc17 => ?_, fun hc18 => ?_, fun hc19 => ?_, fun hc20 => ?_, fun hc21 => ?_, fun hc22 => ?_, fun hc23 => ?_, fun hc24 => ?_, fun hc25 => ?_, fun hc26 => ?_, fun hc27 => ?_, fun hc28 => ?_, fun hc29 => ?_, fun hc30 => ?_, fun hc31 => ?_, fun hc32 => ?_, fun hc33 => ?_, fun hc34 => ?_, fun hc35 => ?_, fun hc36 => ?_, fun hc37 => ?_, fun hc38 => ?_, fun hc39 => ?_, fun hc40 => ?_, fun hc41 => ?_, fun hc42 => ?_, fun hc43 => ?_, fun hc44 => ?_, fun hc45 => ?_, fun hc46 => ?_, fun hc47 => ?_, fun hc48 => ?_⟩
    · skip
      have hr49 := hr
      have hs50 := hrs
      have hj51 := hrj
      exact ih Z I J rc rs (x3 + 6) h hr49 hs50 hj51 hrt (by omega) (by omega) (by omega) (by omega)
    · skip
      refine ⟨hv1, ?_⟩
      refine ⟨hv2, ?_⟩
      refine ⟨hv3, ?_⟩
      refine ⟨0, 0, rc - 100, rs - 2100, by omega, by omega, ?_⟩
      refine qX11_row h (fun v54 Z5 I5 J5 hS52 hp53 nx55 hx56 hj57 nt58 => ⟨v54, rfl, hS52.1, hS52.2.2.2.1, ?_⟩)
      refine ⟨hv1, ?_⟩
      refine ⟨hv2, ?_⟩
      refine ⟨hv3, ?_⟩
      refine sfX12_row hS52.2.2.2.1 hS52.2.2.2.2.1 (fun v10 I9 J9 hW60 hF61 hp59 => ?_)
      have nt62 : NT Z5 I5 Z5 I9 := NT_fr hS52 hF61 (by intro a k h; omega)
      have h63 := IV_m hS52 hW60 hF61 (by intro a k h; omega)
      have nx64 : NX Z5 I5 Z5 I9 := NX_fr hF61 (by omega) (by omega) (by omega)
      have hr65 := RV_keep hr (NX.tr nx55 nx64)
      have hs66 := RS_row h hrs hx56 hF61 hp59
      have hj67 := RJ_row hrj (fun i hi => hx56.1 _ _ (by omega) (by have := h.2.2.2.2.2.1; omega)) hj57 hF61 hp59
      have ht68 := RT_keep h hrt (NT.tr nt58 nt62)
      exact ih Z5 I9 J9 (rc - 100) (rs - 2100) (x3 + 6) h63 hr65 hs66 hj67 ht68 (by omega) (by omega) (by omega) (by omega)
    · skip
      refine ⟨hv1, ?_⟩
      refine ⟨hv2, ?_⟩
      refine ⟨hv3, ?_⟩
      refine ⟨hv4, ?_⟩
      refine sfX11_set h.1 h.2.2.1 (fun v16 I15 J15 hW70 hF71 hp69 => ?_)
      have nt72 : NT Z I Z I15 := NT_fr h hF71 (by intro a k h; omega)
      have h73 := IV_x h hW70 hF71 (by intro a k h; omega)
      have nx74 : NX Z I Z I15 := NX_fr hF71 (by omega) (by omega) (by omega)
      have ns75 : NS Z I Z I15 := NS_fr hF71 (by intro a k h; omega)
      refine ⟨hv1, ?_⟩
      refine ⟨hv2, ?_⟩
      refine ⟨hv3, ?_⟩
      refine ⟨hv4, ?_⟩
      refine sfX12_set h73.2.2.2.1 h73.2.2.2.2.1 (fun v22 I21 J21 hW77 hF78 hp76 => ?_)
      have nt79 : NT Z I15 Z I21 := NT_fr h73 hF78 (by intro a k h; omega)
      have h80 := IV_m h73 hW77 hF78 (by intro a k h; omega)
      have nx81 : NX Z I15 Z I21 := NX_fr hF78 (by omega) (by omega) (by omega)
      have ns82 : NS Z I15 Z I21 := NS_fr hF78 (by intro a k h; omega)
      have hr83 := RV_keep hr (NX.tr nx74 nx81)
      have hs84 := RS_keep hrs (NS.tr ns75 ns82)
      have hj85 := RJ_set hrs hrj ns75 (NS.tr ns75 ns82) hp69 hp76
      have ht86 := RT_keep h hrt (NT.tr nt72 nt79)
      exact ih Z I21 J21 rc rs (x3 + 6) h80 hr83 hs84 hj85 ht86 (by omega) (by omega) (by omega) (by omega)
    · skip
      refine ⟨hv1, ?_⟩
      refine ⟨hv2, ?_⟩
      refine ⟨hv3, ?_⟩
      refine ⟨hv4, ?_⟩
      refine ⟨hv5, ?_⟩
      refine sfX11_copy h.1 h.2.2.1 (fun v29 I28 J28 hW88 hF89 hp87 => ?_)
      have nt90 : NT Z I Z I28 := NT_fr h hF89 (by intro a k h; omega)
      have h91 := IV_x h hW88 hF89 (by intro a k h; omega)
      have nx92 : NX Z I Z I28 := NX_fr hF89 (by omega) (by omega) (by omega)
      have ns93 : NS Z I Z I28 := NS_fr hF89 (by intro a k h; omega)
      refine ⟨hv1, ?_⟩
      refine ⟨hv2, ?_⟩
      refine ⟨hv3, ?_⟩
      refine ⟨hv4, ?_⟩
      refine ⟨hv5, ?_⟩
      refine sfX12_copy h91.2.2.2.1 h91.2.2.2.2.1 (fun v36 I35 J35 hW95 hF96 hp94 => ?_)
      have nt97 : NT Z I28 Z I35 := NT_fr h91 hF96 (by intro a k h; omega)
      have h98 := IV_m h91 hW95 hF96 (by intro a k h; omega)
      have nx99 : NX Z I28 Z I35 := NX_fr hF96 (by omega) (by omega) (by omega)
      have ns100 : NS Z I28 Z I35 := NS_fr hF96 (by intro a k h; omega)
      have hr101 := RV_keep hr (NX.tr nx92 nx99)
      have hs102 := RS_keep hrs (NS.tr ns93 ns100)
      have hj103 := RJ_copy h.2.2.2.2.1 hrs hrj ns93 (NS.tr ns93 ns100) hp87 hp94
      have ht104 := RT_keep h hrt (NT.tr nt90 nt97)
      exact ih Z I35 J35 rc rs (x3 + 6) h98 hr101 hs102 hj103 ht104 (by omega) (by omega) (by omega) (by omega)
    · skip
      refine ⟨hv1, ?_⟩
      refine ⟨hv2, ?_⟩
      refine sfX11_element h.1 h.2.2.1 (fun v40  hp105 => ?_)
      have nx106 : NX Z I Z I := NX.rf
      have ns107 : NS Z I Z I := NS.rf
      have nt108 : NT Z I Z I := NT.rf
      refine ⟨hv1, ?_⟩
      refine ⟨hv2, ?_⟩
      refine sfX12_element h.2.2.2.1 h.2.2.2.2.1 (fun v44  hp109 => ?_)
      have nx110 : NX Z I Z I := NX.rf
      have ns111 : NS Z I Z I := NS.rf
      have nt112 : NT Z I Z I := NT.rf
      have hr113 := RV_keep hr (NX.tr nx106 nx110)
      have hs114 := RS_keep hrs (NS.tr ns107 ns111)
      have hj115 := RJ_keep hrj (NS.tr ns107 ns111) NJ.rf
      have ht116 := RT_keep h hrt (NT.tr nt108 nt112)
      exact ih Z I J rc rs (x3 + 6) h hr113 hs114 hj115 ht116 (by omega) (by omega) (by omega) (by omega)
    · skip
      refine ⟨hv1, ?_⟩
      refine sfX11_holds hG h.1 h.2.1 h.2.2.1 (fun v47  hp117 => ?_)
      have nx118 : NX Z I Z I := NX.rf
      have ns119 : NS Z I Z I := NS.rf
      have nt120 : NT Z I Z I := NT.rf
      refine ⟨hv1, ?_⟩
      refine sfX12_holds h.2.2.2.1 h.2.2.2.2.1 (fun v50  hp121 => ?_)
      have nx122 : NX Z I Z I := NX.rf
      have ns123 : NS Z I Z I := NS.rf
      have nt124 : NT Z I Z I := NT.rf
      have hr125 := RV_keep hr (NX.tr nx118 nx122)
      have hs126 := RS_keep hrs (NS.tr ns119 ns123)
      have hj127 := RJ_keep hrj (NS.tr ns119 ns123) NJ.rf
      have ht128 := RT_keep h hrt (NT.tr nt120 nt124)
      exact ih Z I J rc rs (x3 + 6) h hr125 hs126 hj127 ht128 (by omega) (by omega) (by omega) (by omega)
    · skip
      refine ⟨hv1, ?_⟩
      refine ⟨hv2, ?_⟩
      refine ⟨hv3, ?_⟩
      refine ⟨1, 1, rc - 100, rs - 2100, by omega, by omega, ?_⟩
      refine qX11_coachman h (fun v131 Z54 I54 J54 hS129 hp130 nx132 hx133 hj134 nt135 => ⟨v131, rfl, hS129.1, hS129.2.2.2.1, ?_⟩)
      refine ⟨hv1, ?_⟩
      refine ⟨hv2, ?_⟩
      refine ⟨hv3, ?_⟩
      refine sfX12_coachman hS129.2.2.2.1 hS129.2.2.2.2.1 (fun v59 I58 hW137 hF138 hp136 => ?_)
      have nt139 : NT Z54 I54 Z54 I58 := NT_fr hS129 hF138 (by intro a k h; omega)
      have h140 := IV_m hS129 hW137 hF138 (by intro a k h; omega)
      have nx141 : NX Z54 I54 Z54 I58 := NX_fr hF138 (by omega) (by omega) (by omega)
      have hr142 := RV_keep hr (NX.tr nx132 nx141)
      have hs143 := RS_man h hrs hx133 hF138 hp136
      rw [hj134]
      have hj144 := RJ_man hrj (fun i hi => hx133.1 _ _ (by omega) (by have := h.2.2.2.2.2.1; omega)) hF138 hp136
      have ht145 := RT_keep h hrt (NT.tr nt135 nt139)
      exact ih Z54 I58 J (rc - 100) (rs - 2100) (x3 + 6) h140 hr142 hs143 hj144 ht145 (by omega) (by omega) (by omega) (by omega)
    · skip
      refine ⟨hv1, ?_⟩
      refine ⟨hv2, ?_⟩
      refine sfX11_says hG h.1 h.2.1 h.2.2.1 (fun v63 I62 hW147 hF148 => ?_)
      have nt149 : NT Z I Z I62 := NT_fr h hF148 (by intro a k h; omega)
      have h150 := IV_x h hW147 hF148 (by intro a k h; omega)
      have nx151 : NX Z I Z I62 := NX_fr hF148 (by omega) (by omega) (by omega)
      have ns152 : NS Z I Z I62 := NS_fr hF148 (by intro a k h; omega)
      refine ⟨hv1, ?_⟩
      refine ⟨hv2, ?_⟩
      refine sfX12_says h150.2.2.2.1 h150.2.2.2.2.1 (fun v67 I66 hW154 hF155 => ?_)
      have nt156 : NT Z I62 Z I66 := NT_fr h150 hF155 (by intro a k h; omega)
      have h157 := IV_m h150 hW154 hF155 (by intro a k h; omega)
      have nx158 : NX Z I62 Z I66 := NX_fr hF155 (by omega) (by omega) (by omega)
      have ns159 : NS Z I62 Z I66 := NS_fr hF155 (by intro a k h; omega)
      have hr160 := RV_keep hr (NX.tr nx151 nx158)
      have hs161 := RS_keep hrs (NS.tr ns152 ns159)
      have hj162 := RJ_keep hrj (NS.tr ns152 ns159) NJ.rf
      have ht163 := RT_keep h hrt (NT.tr nt149 nt156)
      exact ih Z I66 J rc rs (x3 + 6) h157 hr160 hs161 hj162 ht163 (by omega) (by omega) (by omega) (by omega)
    · skip
      refine ⟨hv1, ?_⟩
      refine ⟨hv2, ?_⟩
      refine pX11_person h.1 h.2.2.1 ht1 (fun v71 I70 hW165 hF166 hp164 => ?_)
      have tm167 := TM_fr ht2 (show s.1.1 ≤ 8 by omega) hF166 (by omega) (by omega) (by omega) (by omega) (by intro a k h1 h2 h3; omega)
      have rk168 := RK_fr h hrt.2.2 hF166 (by intro a k h; omega)
      have tp169 := TP_fr hrt.1 hF166 (by intro a k h; omega)
      have h170 := IV_x h hW165 hF166 (by intro a k h; omega)
      have nx171 : NX Z I Z I70 := NX_fr hF166 (by omega) (by omega) (by omega)
      have ns172 : NS Z I Z I70 := NS_fr hF166 (by intro a k h; omega)
      refine ⟨hv1, ?_⟩
      refine ⟨hv2, ?_⟩
      refine pX12_personS h170.2.2.2.1 h170.2.2.2.2.1 tm167 (fun v75 I74 hW174 hF175 hp173 => ?_)
      have rk176 := RK_fr h170 rk168 hF175 (by intro a k h; omega)
      have tp177 := TP_fr tp169 hF175 (by intro a k h; omega)
      have h178 := IV_m h170 hW174 hF175 (by intro a k h; omega)
      have nx179 : NX Z I70 Z I74 := NX_fr hF175 (by omega) (by omega) (by omega)
      have ns180 : NS Z I70 Z I74 := NS_fr hF175 (by intro a k h; omega)
      have hr181 := RV_keep hr (NX.tr nx171 nx179)
      have hs182 := RS_keep hrs (NS.tr ns172 ns180)
      have hj183 := RJ_keep hrj (NS.tr ns172 ns180) NJ.rf
      obtain ⟨k185, ek186⟩ := oPerson_k s kk (xs (Int32.toNatClampNeg (x3 + 1))) (xs (Int32.toNatClampNeg (x3 + 2)))
      rw [ek186] at hp173
      have ht184 : RT Z I74 := ⟨tp177, ⟨_, k185, TX_fr hp164.2 hF175 (by intro a k h1 h2; omega), hp173.2⟩, rk176⟩
      exact ih Z I74 J rc rs (x3 + 6) h178 hr181 hs182 hj183 ht184 (by omega) (by omega) (by omega) (by omega)
    · skip
      refine ⟨hv1, ?_⟩
      refine ⟨hv2, ?_⟩
      refine ⟨hv3, ?_⟩
      refine fsfX11_change h.1 h.2.2.1 ht1 (fun v80 I79 hW188 hF189 hp187 => ?_)
      have tm190 := TM_fr ht2 (show s.1.1 ≤ 8 by omega) hF189 (by omega) (by omega) (by omega) (by omega) (by intro a k h1 h2 h3; omega)
      have rk191 := RK_fr h hrt.2.2 hF189 (by intro a k h; omega)
      have tp192 := TP_fr hrt.1 hF189 (by intro a k h; omega)
      have h193 := IV_x h hW188 hF189 (by intro a k h; omega)
      have nx194 : NX Z I Z I79 := NX_fr hF189 (by omega) (by omega) (by omega)
      have ns195 : NS Z I Z I79 := NS_fr hF189 (by intro a k h; omega)
      refine ⟨hv1, ?_⟩
      refine ⟨hv2, ?_⟩
      refine ⟨hv3, ?_⟩
      refine fsfX12_change h193.2.2.2.1 h193.2.2.2.2.1 tm190 (fun v85 I84 hW197 hF198 hp196 => ?_)
      have rk199 := RK_fr h193 rk191 hF198 (by intro a k h; omega)
      have tp200 := TP_fr tp192 hF198 (by intro a k h; omega)
      have h201 := IV_m h193 hW197 hF198 (by intro a k h; omega)
      have nx202 : NX Z I79 Z I84 := NX_fr hF198 (by omega) (by omega) (by omega)
      have ns203 : NS Z I79 Z I84 := NS_fr hF198 (by intro a k h; omega)
      refine ⟨fun hc204 => ?_, fun hc205 => ?_⟩
      · skip
        have hr206 := RV_keep hr (NX.tr nx194 nx202)
        have hs207 := RS_keep hrs (NS.tr ns195 ns203)
        have hj208 := RJ_keep hrj (NS.tr ns195 ns203) NJ.rf
        obtain ⟨k210, ek211⟩ := oChange_k s kk (xs (Int32.toNatClampNeg (x3 + 1))) (xs (Int32.toNatClampNeg (x3 + 2))) (xs (Int32.toNatClampNeg (x3 + 3)))
        rw [ek211] at hp196
        have ht209 : RT Z I84 := ⟨tp200, ⟨_, k210, TX_fr hp187.2 hF198 (by intro a k h1 h2; omega), hp196.2⟩, rk199⟩
        exact ih Z I84 J rc rs (x3 + 6) h201 hr206 hs207 hj208 ht209 (by omega) (by omega) (by omega) (by omega)
      · skip
        obtain ⟨k212, ek213⟩ := oChange_k s kk (xs (Int32.toNatClampNeg (x3 + 1))) (xs (Int32.toNatClampNeg (x3 + 2))) (xs (Int32.toNatClampNeg (x3 + 3)))
        rw [ek213] at hp196
        exact hc205 (Int32.toInt_inj.mp (hp187.1.trans hp196.1.symm))
    · skip
      refine ⟨hv1, ?_⟩
      refine ⟨hv2, ?_⟩
      refine ⟨hv3, ?_⟩
      refine sfX11_know h.1 h.2.2.1 (fun v90 I89 hW215 hF216 => ?_)
      have nt217 : NT Z I Z I89 := NT_fr h hF216 (by intro a k h; omega)
      have h218 := IV_x h hW215 hF216 (by intro a k h; omega)
      have nx219 : NX Z I Z I89 := NX_fr hF216 (by omega) (by omega) (by omega)
      have ns220 : NS Z I Z I89 := NS_fr hF216 (by intro a k h; omega)
      refine ⟨hv1, ?_⟩
      refine ⟨hv2, ?_⟩
      refine ⟨hv3, ?_⟩
      refine sfX12_know h218.2.2.2.1 h218.2.2.2.2.1 (fun v95 I94 hW222 hF223 => ?_)
      have nt224 : NT Z I89 Z I94 := NT_fr h218 hF223 (by intro a k h; omega)
      have h225 := IV_m h218 hW222 hF223 (by intro a k h; omega)
      have nx226 : NX Z I89 Z I94 := NX_fr hF223 (by omega) (by omega) (by omega)
      have ns227 : NS Z I89 Z I94 := NS_fr hF223 (by intro a k h; omega)
      have hr228 := RV_keep hr (NX.tr nx219 nx226)
      have hs229 := RS_keep hrs (NS.tr ns220 ns227)
      have hj230 := RJ_keep hrj (NS.tr ns220 ns227) NJ.rf
      have ht231 := RT_keep h hrt (NT.tr nt217 nt224)
      exact ih Z I94 J rc rs (x3 + 6) h225 hr228 hs229 hj230 ht231 (by omega) (by omega) (by omega) (by omega)
    · skip
      refine ⟨hv1, ?_⟩
      refine ⟨hv2, ?_⟩
      refine fsfX11_ask h.1 h.2.2.1 ht1 (fun v99 I98 hW233 hF234 hp232 => ?_)
      have tm235 := TM_fr ht2 (show s.1.1 ≤ 8 by omega) hF234 (by omega) (by omega) (by omega) (by omega) (by intro a k h1 h2 h3; omega)
      have rk236 := RK_fr h hrt.2.2 hF234 (by intro a k h; omega)
      have tp237 := TP_fr hrt.1 hF234 (by intro a k h; omega)
      have h238 := IV_x h hW233 hF234 (by intro a k h; omega)
      have nx239 : NX Z I Z I98 := NX_fr hF234 (by omega) (by omega) (by omega)
      have ns240 : NS Z I Z I98 := NS_fr hF234 (by intro a k h; omega)
      refine ⟨hv1, ?_⟩
      refine ⟨hv2, ?_⟩
      refine fsfX12_ask h238.2.2.2.1 h238.2.2.2.2.1 tm235 (fun v103 I102 hW242 hF243 hp241 => ?_)
      have rk244 := RK_fr h238 rk236 hF243 (by intro a k h; omega)
      have tp245 := TP_fr tp237 hF243 (by intro a k h; omega)
      have h246 := IV_m h238 hW242 hF243 (by intro a k h; omega)
      have nx247 : NX Z I98 Z I102 := NX_fr hF243 (by omega) (by omega) (by omega)
      have ns248 : NS Z I98 Z I102 := NS_fr hF243 (by intro a k h; omega)
      have hr249 := RV_keep hr (NX.tr nx239 nx247)
      have hs250 := RS_keep hrs (NS.tr ns240 ns248)
      have hj251 := RJ_keep hrj (NS.tr ns240 ns248) NJ.rf
      obtain ⟨k253, ek254⟩ := oAsk_k s kk (xs (Int32.toNatClampNeg (x3 + 1))) (xs (Int32.toNatClampNeg (x3 + 2)))
      rw [ek254] at hp241
      have ht252 : RT Z I102 := ⟨tp245, ⟨_, k253, TX_fr hp232.2 hF243 (by intro a k h1 h2; omega), hp241.2⟩, rk244⟩
      exact ih Z I102 J rc rs (x3 + 6) h246 hr249 hs250 hj251 ht252 (by omega) (by omega) (by omega) (by omega)
    · skip
      refine ⟨hv1, ?_⟩
      refine pX11_feed h.1 h.2.2.1 (fun v106 I105 hW256 hF257 hp255 pF258 => ?_)
      have tm259 := TM_fr ht2 (show s.1.1 ≤ 8 by omega) hF257 (by omega) (by omega) (by omega) (by omega) (by intro a k h1 h2 h3; omega)
      have rk260 := RK_fr h hrt.2.2 hF257 (by intro a k h; omega)
      have h261 := IV_x h hW256 hF257 (by intro a k h; omega)
      have e08 := congrArg Int32.toInt (hF257 0 8 (by omega))
      have e458 := congrArg Int32.toInt (hF257 45 8 (by omega))
      have ns262 : NS Z I Z I105 := NS_fr hF257 (by intro a k h; omega)
      refine ⟨hv1, ?_⟩
      refine pX12_feed h261.2.2.2.1 h261.2.2.2.2.1 (fun v109 I108 hW264 hF265 hp263 pF266 => ?_)
      have rk267 := RK_fr h261 rk260 hF265 (by intro a k h; omega)
      have h268 := IV_m h261 hW264 hF265 (by intro a k h; omega)
      have m25 := congrArg Int32.toInt (hF265 25 1 (by omega))
      have m08 := congrArg Int32.toInt (hF265 0 8 (by omega))
      have ns269 : NS Z I105 Z I108 := NS_fr hF265 (by intro a k h; omega)
      have hr270 : RV Z I108 := ⟨by omega, by rw [show (I108 0 8).toInt = (I 0 8).toInt by omega]; exact hr.2⟩
      have hs271 := RS_keep hrs (NS.tr ns262 ns269)
      have hj272 := RJ_keep hrj (NS.tr ns262 ns269) NJ.rf
      have ta : I108 (25 + 1) = I105 (25 + 1) := funext (fun k => hF265 (25 + 1) k (by omega))
      have tb : I105 (45 + 16) = I (45 + 16) := funext (fun k => hF257 (45 + 16) k (by omega))
      have tc : (I105 45 8).toInt = (I 25 1).toInt := by rw [hF257 45 8 (by omega)]; exact hr.1.symm
      have ht273 : RT Z I108 := ⟨by rw [ta, pF258, pF266, tb, tc, hrt.1], ⟨s, kk, TX_fr (TX_fr ht1 hF257 (by intro a k h1 h2; omega)) hF265 (by intro a k h1 h2; omega), TM_fr tm259 (show s.1.1 ≤ 8 by omega) hF265 (by omega) (by omega) (by omega) (by omega) (by intro a k h1 h2 h3; omega)⟩, rk267⟩
      exact ih Z I108 J rc rs (x3 + 6) h268 hr270 hs271 hj272 ht273 (by omega) (by omega) (by omega) (by omega)
    · skip
      refine sfX11_wipe h.1 h.2.2.1 (fun v111 I110 hW275 hF276 hp274 => ?_)
      have nt277 : NT Z I Z I110 := NT_fr h hF276 (by intro a k h; omega)
      have h278 := IV_x h hW275 hF276 (by intro a k h; omega)
      have e08 := congrArg Int32.toInt (hF276 0 8 (by omega))
      have e458 := congrArg Int32.toInt (hF276 45 8 (by omega))
      have ns279 : NS Z I Z I110 := NS_fr hF276 (by intro a k h; omega)
      refine sfX12_wipe h278.2.2.2.1 h278.2.2.2.2.1 (fun v113 I112 hW281 hF282 hp280 => ?_)
      have nt283 : NT Z I110 Z I112 := NT_fr h278 hF282 (by intro a k h; omega)
      have h284 := IV_m h278 hW281 hF282 (by intro a k h; omega)
      have m25 := congrArg Int32.toInt (hF282 25 1 (by omega))
      have m08 := congrArg Int32.toInt (hF282 0 8 (by omega))
      have ns285 : NS Z I110 Z I112 := NS_fr hF282 (by intro a k h; omega)
      have hr286 : RV Z I112 := ⟨by omega, by rw [show (I112 0 8).toInt = (I 0 8).toInt by omega]; exact hr.2⟩
      have hs287 := RS_keep hrs (NS.tr ns279 ns285)
      have hj288 := RJ_keep hrj (NS.tr ns279 ns285) NJ.rf
      have ht289 := RT_keep h hrt (NT.tr nt277 nt283)
      exact ih Z I112 J rc rs (x3 + 6) h284 hr286 hs287 hj288 ht289 (by omega) (by omega) (by omega) (by omega)
    · skip
      refine pX11_town hG h.1 h.2.2.1 ht1 (fun v115 I114 hW291 hF292 hp290 pT293 pS294 => ?_)
      have tm295 := TM_fr ht2 (show s.1.1 ≤ 8 by omega) hF292 (by omega) (by omega) (by omega) (by omega) (by intro a k h1 h2 h3; omega)
      have rk296 := RK_fr h hrt.2.2 hF292 (by intro a k h; omega)
      have tp297 := TP_fr hrt.1 hF292 (by intro a k h; omega)
      have h298 := IV_x h hW291 hF292 (by intro a k h; omega)
      have e08 := congrArg Int32.toInt (hF292 0 8 (by omega))
      have e458 := congrArg Int32.toInt (hF292 45 8 (by omega))
      have ns299 : NS Z I Z I114 := NS_fr hF292 (by intro a k h; omega)
      have hfc := fC_le Z 45
      refine ⟨(fC Z 45), (fS Z 45), rc - 100, rs - 2100, by omega, by omega, ?_⟩
      refine qX12_town hG h298.2.2.2 tm295.1 (fun v302 Z116 I116 J116 hS300 hp301 pT304 pS305 => ⟨v302, rfl, (IV_s h298 hS300).1, hS300.1.1, ?_⟩)
      have h306 := IV_s h298 hS300
      have hbz := h298.2.2.2.2.2.1
      have m25 := congrArg Int32.toInt (hS300.2.2.2.2.1 25 1 (by omega))
      have m08 := congrArg Int32.toInt (hS300.2.2.2.2.1 0 8 (by omega))
      have eZ := hS300.2.2.2.1 45 20 (by omega) (by omega)
      have ns307 := NS_st h298 hS300
      have nj308 := NJ_st h298 hS300
      have hr309 : RV Z116 I116 := ⟨by omega, by rw [show (I116 0 8).toInt = (I 0 8).toInt by omega, eZ]; exact hr.2⟩
      have hs310 := RS_keep hrs (NS.tr ns299 ns307)
      have hj311 := RJ_keep hrj (NS.tr ns299 ns307) nj308
      have e16 : I114 (45 + 16) = I (25 + 1) := (funext (fun k => hF292 (45 + 16) k (by omega))).trans hrt.1.symm
      have e8 : (I114 45 8).toInt = (I 25 1).toInt := by rw [hF292 45 8 (by omega)]; exact hr.1.symm
      rw [e16, e8] at pT304
      obtain ⟨ev, w2, k2, r1, r2⟩ := tn_k pT293 pT304
      have ht312 : RT Z116 I116 := ⟨TP_fr tp297 hS300.2.2.2.2.1 (by intro a k h; omega), ⟨(w2, s.2), k2, ⟨RX_fr r1 hS300.2.2.2.2.1 (by intro a k h1 h2; omega), by rw [hS300.2.2.2.2.1 1 6 (by omega)]; exact pS294⟩, ⟨r2, pS305.trans tm295.2⟩⟩, RK_eq rk296 h298.2.2.1 eZ (fun a k h1 h2 => hS300.2.2.2.2.1 a k (by omega)) (fun u hu a k h1 h2 => hS300.2.2.2.2.2.2 rfl (by omega) u hu a k h1 h2)⟩
      exact ih Z116 I116 J116 (rc - 100) (rs - 2100) (x3 + 6) h306 hr309 hs310 hj311 ht312 (by omega) (by omega) (by omega) (by omega)
    · skip
      refine ⟨hv1, ?_⟩
      refine ⟨hv2, ?_⟩
      refine sfX11_personOf h.1 h.2.2.1 (fun v120 I119 hW314 hF315 => ?_)
      have nt316 : NT Z I Z I119 := NT_fr h hF315 (by intro a k h; omega)
      have h317 := IV_x h hW314 hF315 (by intro a k h; omega)
      have nx318 : NX Z I Z I119 := NX_fr hF315 (by omega) (by omega) (by omega)
      have ns319 : NS Z I Z I119 := NS_fr hF315 (by intro a k h; omega)
      refine ⟨hv1, ?_⟩
      refine ⟨hv2, ?_⟩
      refine sfX12_personOf h317.2.2.2.1 h317.2.2.2.2.1 (fun v124 I123 hW321 hF322 => ?_)
      have nt323 : NT Z I119 Z I123 := NT_fr h317 hF322 (by intro a k h; omega)
      have h324 := IV_m h317 hW321 hF322 (by intro a k h; omega)
      have nx325 : NX Z I119 Z I123 := NX_fr hF322 (by omega) (by omega) (by omega)
      have ns326 : NS Z I119 Z I123 := NS_fr hF322 (by intro a k h; omega)
      have hr327 := RV_keep hr (NX.tr nx318 nx325)
      have hs328 := RS_keep hrs (NS.tr ns319 ns326)
      have hj329 := RJ_keep hrj (NS.tr ns319 ns326) NJ.rf
      have ht330 := RT_keep h hrt (NT.tr nt316 nt323)
      exact ih Z I123 J rc rs (x3 + 6) h324 hr327 hs328 hj329 ht330 (by omega) (by omega) (by omega) (by omega)
    · skip
      refine ⟨hv1, ?_⟩
      refine ⟨hv2, ?_⟩
      refine sfX11_knownOf h.1 h.2.2.1 (fun v128 I127 hW332 hF333 => ?_)
      have nt334 : NT Z I Z I127 := NT_fr h hF333 (by intro a k h; omega)
      have h335 := IV_x h hW332 hF333 (by intro a k h; omega)
      have nx336 : NX Z I Z I127 := NX_fr hF333 (by omega) (by omega) (by omega)
      have ns337 : NS Z I Z I127 := NS_fr hF333 (by intro a k h; omega)
      refine ⟨hv1, ?_⟩
      refine ⟨hv2, ?_⟩
      refine sfX12_knownOf h335.2.2.2.1 h335.2.2.2.2.1 (fun v132 I131 hW339 hF340 => ?_)
      have nt341 : NT Z I127 Z I131 := NT_fr h335 hF340 (by intro a k h; omega)
      have h342 := IV_m h335 hW339 hF340 (by intro a k h; omega)
      have nx343 : NX Z I127 Z I131 := NX_fr hF340 (by omega) (by omega) (by omega)
      have ns344 : NS Z I127 Z I131 := NS_fr hF340 (by intro a k h; omega)
      have hr345 := RV_keep hr (NX.tr nx336 nx343)
      have hs346 := RS_keep hrs (NS.tr ns337 ns344)
      have hj347 := RJ_keep hrj (NS.tr ns337 ns344) NJ.rf
      have ht348 := RT_keep h hrt (NT.tr nt334 nt341)
      exact ih Z I131 J rc rs (x3 + 6) h342 hr345 hs346 hj347 ht348 (by omega) (by omega) (by omega) (by omega)
    · skip
      refine ⟨hv1, ?_⟩
      refine sfX11_isGroup h.1 h.2.2.1 (fun v135 I134 hW350 hF351 => ?_)
      have nt352 : NT Z I Z I134 := NT_fr h hF351 (by intro a k h; omega)
      have h353 := IV_x h hW350 hF351 (by intro a k h; omega)
      have nx354 : NX Z I Z I134 := NX_fr hF351 (by omega) (by omega) (by omega)
      have ns355 : NS Z I Z I134 := NS_fr hF351 (by intro a k h; omega)
      refine ⟨hv1, ?_⟩
      refine sfX12_isGroup h353.2.2.2.1 h353.2.2.2.2.1 (fun v138 I137 hW357 hF358 => ?_)
      have nt359 : NT Z I134 Z I137 := NT_fr h353 hF358 (by intro a k h; omega)
      have h360 := IV_m h353 hW357 hF358 (by intro a k h; omega)
      have nx361 : NX Z I134 Z I137 := NX_fr hF358 (by omega) (by omega) (by omega)
      have ns362 : NS Z I134 Z I137 := NS_fr hF358 (by intro a k h; omega)
      have hr363 := RV_keep hr (NX.tr nx354 nx361)
      have hs364 := RS_keep hrs (NS.tr ns355 ns362)
      have hj365 := RJ_keep hrj (NS.tr ns355 ns362) NJ.rf
      have ht366 := RT_keep h hrt (NT.tr nt352 nt359)
      exact ih Z I137 J rc rs (x3 + 6) h360 hr363 hs364 hj365 ht366 (by omega) (by omega) (by omega) (by omega)
    · skip
      refine ⟨hv1, ?_⟩
      refine sfX11_groups h.1 h.2.2.1 (fun v141 I140 hW368 hF369 => ?_)
      have nt370 : NT Z I Z I140 := NT_fr h hF369 (by intro a k h; omega)
      have h371 := IV_x h hW368 hF369 (by intro a k h; omega)
      have nx372 : NX Z I Z I140 := NX_fr hF369 (by omega) (by omega) (by omega)
      have ns373 : NS Z I Z I140 := NS_fr hF369 (by intro a k h; omega)
      refine ⟨hv1, ?_⟩
      refine sfX12_groups h371.2.2.2.1 h371.2.2.2.2.1 (fun v144 I143 hW375 hF376 => ?_)
      have nt377 : NT Z I140 Z I143 := NT_fr h371 hF376 (by intro a k h; omega)
      have h378 := IV_m h371 hW375 hF376 (by intro a k h; omega)
      have nx379 : NX Z I140 Z I143 := NX_fr hF376 (by omega) (by omega) (by omega)
      have ns380 : NS Z I140 Z I143 := NS_fr hF376 (by intro a k h; omega)
      have hr381 := RV_keep hr (NX.tr nx372 nx379)
      have hs382 := RS_keep hrs (NS.tr ns373 ns380)
      have hj383 := RJ_keep hrj (NS.tr ns373 ns380) NJ.rf
      have ht384 := RT_keep h hrt (NT.tr nt370 nt377)
      exact ih Z I143 J rc rs (x3 + 6) h378 hr381 hs382 hj383 ht384 (by omega) (by omega) (by omega) (by omega)
    · skip
      refine ⟨hv1, ?_⟩
      refine sfX11_firstOf h.1 h.2.2.1 (fun v147 I146 hW386 hF387 => ?_)
      have nt388 : NT Z I Z I146 := NT_fr h hF387 (by intro a k h; omega)
      have h389 := IV_x h hW386 hF387 (by intro a k h; omega)
      have nx390 : NX Z I Z I146 := NX_fr hF387 (by omega) (by omega) (by omega)
      have ns391 : NS Z I Z I146 := NS_fr hF387 (by intro a k h; omega)
      refine ⟨hv1, ?_⟩
      refine sfX12_firstOf h389.2.2.2.1 h389.2.2.2.2.1 (fun v150 I149 hW393 hF394 => ?_)
      have nt395 : NT Z I146 Z I149 := NT_fr h389 hF394 (by intro a k h; omega)
      have h396 := IV_m h389 hW393 hF394 (by intro a k h; omega)
      have nx397 : NX Z I146 Z I149 := NX_fr hF394 (by omega) (by omega) (by omega)
      have ns398 : NS Z I146 Z I149 := NS_fr hF394 (by intro a k h; omega)
      have hr399 := RV_keep hr (NX.tr nx390 nx397)
      have hs400 := RS_keep hrs (NS.tr ns391 ns398)
      have hj401 := RJ_keep hrj (NS.tr ns391 ns398) NJ.rf
      have ht402 := RT_keep h hrt (NT.tr nt388 nt395)
      exact ih Z I149 J rc rs (x3 + 6) h396 hr399 hs400 hj401 ht402 (by omega) (by omega) (by omega) (by omega)
    · skip
      refine ⟨hv1, ?_⟩
      refine sfX11_most h.1 h.2.2.1 (fun v153 I152 hW404 hF405 => ?_)
      have nt406 : NT Z I Z I152 := NT_fr h hF405 (by intro a k h; omega)
      have h407 := IV_x h hW404 hF405 (by intro a k h; omega)
      have nx408 : NX Z I Z I152 := NX_fr hF405 (by omega) (by omega) (by omega)
      have ns409 : NS Z I Z I152 := NS_fr hF405 (by intro a k h; omega)
      refine ⟨hv1, ?_⟩
      refine sfX12_most h407.2.2.2.1 h407.2.2.2.2.1 (fun v156 I155 hW411 hF412 => ?_)
      have nt413 : NT Z I152 Z I155 := NT_fr h407 hF412 (by intro a k h; omega)
      have h414 := IV_m h407 hW411 hF412 (by intro a k h; omega)
      have nx415 : NX Z I152 Z I155 := NX_fr hF412 (by omega) (by omega) (by omega)
      have ns416 : NS Z I152 Z I155 := NS_fr hF412 (by intro a k h; omega)
      have hr417 := RV_keep hr (NX.tr nx408 nx415)
      have hs418 := RS_keep hrs (NS.tr ns409 ns416)
      have hj419 := RJ_keep hrj (NS.tr ns409 ns416) NJ.rf
      have ht420 := RT_keep h hrt (NT.tr nt406 nt413)
      exact ih Z I155 J rc rs (x3 + 6) h414 hr417 hs418 hj419 ht420 (by omega) (by omega) (by omega) (by omega)
    · skip
      refine ⟨hv1, ?_⟩
      refine ⟨hv2, ?_⟩
      refine sfX11_mostOf h.1 h.2.2.1 (fun v160 I159 hW422 hF423 => ?_)
      have nt424 : NT Z I Z I159 := NT_fr h hF423 (by intro a k h; omega)
      have h425 := IV_x h hW422 hF423 (by intro a k h; omega)
      have nx426 : NX Z I Z I159 := NX_fr hF423 (by omega) (by omega) (by omega)
      have ns427 : NS Z I Z I159 := NS_fr hF423 (by intro a k h; omega)
      refine ⟨hv1, ?_⟩
      refine ⟨hv2, ?_⟩
      refine sfX12_mostOf h425.2.2.2.1 h425.2.2.2.2.1 (fun v164 I163 hW429 hF430 => ?_)
      have nt431 : NT Z I159 Z I163 := NT_fr h425 hF430 (by intro a k h; omega)
      have h432 := IV_m h425 hW429 hF430 (by intro a k h; omega)
      have nx433 : NX Z I159 Z I163 := NX_fr hF430 (by omega) (by omega) (by omega)
      have ns434 : NS Z I159 Z I163 := NS_fr hF430 (by intro a k h; omega)
      have hr435 := RV_keep hr (NX.tr nx426 nx433)
      have hs436 := RS_keep hrs (NS.tr ns427 ns434)
      have hj437 := RJ_keep hrj (NS.tr ns427 ns434) NJ.rf
      have ht438 := RT_keep h hrt (NT.tr nt424 nt431)
      exact ih Z I163 J rc rs (x3 + 6) h432 hr435 hs436 hj437 ht438 (by omega) (by omega) (by omega) (by omega)
    · skip
      refine ⟨hv1, ?_⟩
      refine ⟨hv2, ?_⟩
      refine ⟨hv3, ?_⟩
      refine sfX11_sends h.1 h.2.1 h.2.2.1 (fun v169 I168 hW440 hF441 => ?_)
      have nt442 : NT Z I Z I168 := NT_fr h hF441 (by intro a k h; omega)
      have h443 := IV_x h hW440 hF441 (by intro a k h; omega)
      have nx444 : NX Z I Z I168 := NX_fr hF441 (by omega) (by omega) (by omega)
      have ns445 : NS Z I Z I168 := NS_fr hF441 (by intro a k h; omega)
      refine ⟨hv1, ?_⟩
      refine ⟨hv2, ?_⟩
      refine ⟨hv3, ?_⟩
      refine sfX12_sends h443.2.2.2.1 h443.2.2.2.2.1 (fun v174 I173 hW447 hF448 => ?_)
      have nt449 : NT Z I168 Z I173 := NT_fr h443 hF448 (by intro a k h; omega)
      have h450 := IV_m h443 hW447 hF448 (by intro a k h; omega)
      have nx451 : NX Z I168 Z I173 := NX_fr hF448 (by omega) (by omega) (by omega)
      have ns452 : NS Z I168 Z I173 := NS_fr hF448 (by intro a k h; omega)
      have hr453 := RV_keep hr (NX.tr nx444 nx451)
      have hs454 := RS_keep hrs (NS.tr ns445 ns452)
      have hj455 := RJ_keep hrj (NS.tr ns445 ns452) NJ.rf
      have ht456 := RT_keep h hrt (NT.tr nt442 nt449)
      exact ih Z I173 J rc rs (x3 + 6) h450 hr453 hs454 hj455 ht456 (by omega) (by omega) (by omega) (by omega)
    · skip
      refine ⟨hv1, ?_⟩
      refine sfX11_run h.1 h.2.1 h.2.2.1 (fun v177 I176 hW458 hF459 => ?_)
      have nt460 : NT Z I Z I176 := NT_fr h hF459 (by intro a k h; omega)
      have h461 := IV_x h hW458 hF459 (by intro a k h; omega)
      have nx462 : NX Z I Z I176 := NX_fr hF459 (by omega) (by omega) (by omega)
      have ns463 : NS Z I Z I176 := NS_fr hF459 (by intro a k h; omega)
      refine ⟨hv1, ?_⟩
      refine sfX12_run h461.2.2.2.1 h461.2.2.2.2.1 (fun v180 I179 hW465 hF466 => ?_)
      have nt467 : NT Z I176 Z I179 := NT_fr h461 hF466 (by intro a k h; omega)
      have h468 := IV_m h461 hW465 hF466 (by intro a k h; omega)
      have nx469 : NX Z I176 Z I179 := NX_fr hF466 (by omega) (by omega) (by omega)
      have ns470 : NS Z I176 Z I179 := NS_fr hF466 (by intro a k h; omega)
      have hr471 := RV_keep hr (NX.tr nx462 nx469)
      have hs472 := RS_keep hrs (NS.tr ns463 ns470)
      have hj473 := RJ_keep hrj (NS.tr ns463 ns470) NJ.rf
      have ht474 := RT_keep h hrt (NT.tr nt460 nt467)
      exact ih Z I179 J rc rs (x3 + 6) h468 hr471 hs472 hj473 ht474 (by omega) (by omega) (by omega) (by omega)
    · skip
      refine ⟨hv1, ?_⟩
      refine ⟨hv2, ?_⟩
      refine sfX11_coach h.1 h.2.1 h.2.2.1 (fun v184 I183 hW476 hF477 => ?_)
      have nt478 : NT Z I Z I183 := NT_fr h hF477 (by intro a k h; omega)
      have h479 := IV_x h hW476 hF477 (by intro a k h; omega)
      have nx480 : NX Z I Z I183 := NX_fr hF477 (by omega) (by omega) (by omega)
      have ns481 : NS Z I Z I183 := NS_fr hF477 (by intro a k h; omega)
      refine ⟨hv1, ?_⟩
      refine ⟨hv2, ?_⟩
      refine sfX12_coach h479.2.2.2.1 h479.2.2.2.2.1 (fun v188 I187 hW483 hF484 => ?_)
      have nt485 : NT Z I183 Z I187 := NT_fr h479 hF484 (by intro a k h; omega)
      have h486 := IV_m h479 hW483 hF484 (by intro a k h; omega)
      have nx487 : NX Z I183 Z I187 := NX_fr hF484 (by omega) (by omega) (by omega)
      have ns488 : NS Z I183 Z I187 := NS_fr hF484 (by intro a k h; omega)
      have hr489 := RV_keep hr (NX.tr nx480 nx487)
      have hs490 := RS_keep hrs (NS.tr ns481 ns488)
      have hj491 := RJ_keep hrj (NS.tr ns481 ns488) NJ.rf
      have ht492 := RT_keep h hrt (NT.tr nt478 nt485)
      exact ih Z I187 J rc rs (x3 + 6) h486 hr489 hs490 hj491 ht492 (by omega) (by omega) (by omega) (by omega)
    · skip
      refine ⟨hv1, ?_⟩
      refine sfX11_left h.1 h.2.1 h.2.2.1 (fun v191 I190 hW494 hF495 => ?_)
      have nt496 : NT Z I Z I190 := NT_fr h hF495 (by intro a k h; omega)
      have h497 := IV_x h hW494 hF495 (by intro a k h; omega)
      have nx498 : NX Z I Z I190 := NX_fr hF495 (by omega) (by omega) (by omega)
      have ns499 : NS Z I Z I190 := NS_fr hF495 (by intro a k h; omega)
      refine ⟨hv1, ?_⟩
      refine sfX12_left h497.2.2.2.1 h497.2.2.2.2.1 (fun v194 I193 hW501 hF502 => ?_)
      have nt503 : NT Z I190 Z I193 := NT_fr h497 hF502 (by intro a k h; omega)
      have h504 := IV_m h497 hW501 hF502 (by intro a k h; omega)
      have nx505 : NX Z I190 Z I193 := NX_fr hF502 (by omega) (by omega) (by omega)
      have ns506 : NS Z I190 Z I193 := NS_fr hF502 (by intro a k h; omega)
      have hr507 := RV_keep hr (NX.tr nx498 nx505)
      have hs508 := RS_keep hrs (NS.tr ns499 ns506)
      have hj509 := RJ_keep hrj (NS.tr ns499 ns506) NJ.rf
      have ht510 := RT_keep h hrt (NT.tr nt496 nt503)
      exact ih Z I193 J rc rs (x3 + 6) h504 hr507 hs508 hj509 ht510 (by omega) (by omega) (by omega) (by omega)
    · skip
      refine ⟨hv1, ?_⟩
      refine ⟨hv2, ?_⟩
      refine sfX11_waits h.1 h.2.1 h.2.2.1 (fun v198 I197 hW512 hF513 => ?_)
      have nt514 : NT Z I Z I197 := NT_fr h hF513 (by intro a k h; omega)
      have h515 := IV_x h hW512 hF513 (by intro a k h; omega)
      have nx516 : NX Z I Z I197 := NX_fr hF513 (by omega) (by omega) (by omega)
      have ns517 : NS Z I Z I197 := NS_fr hF513 (by intro a k h; omega)
      refine ⟨hv1, ?_⟩
      refine ⟨hv2, ?_⟩
      refine sfX12_waits h515.2.2.2.1 h515.2.2.2.2.1 (fun v202 I201 hW519 hF520 => ?_)
      have nt521 : NT Z I197 Z I201 := NT_fr h515 hF520 (by intro a k h; omega)
      have h522 := IV_m h515 hW519 hF520 (by intro a k h; omega)
      have nx523 : NX Z I197 Z I201 := NX_fr hF520 (by omega) (by omega) (by omega)
      have ns524 : NS Z I197 Z I201 := NS_fr hF520 (by intro a k h; omega)
      have hr525 := RV_keep hr (NX.tr nx516 nx523)
      have hs526 := RS_keep hrs (NS.tr ns517 ns524)
      have hj527 := RJ_keep hrj (NS.tr ns517 ns524) NJ.rf
      have ht528 := RT_keep h hrt (NT.tr nt514 nt521)
      exact ih Z I201 J rc rs (x3 + 6) h522 hr525 hs526 hj527 ht528 (by omega) (by omega) (by omega) (by omega)
    · skip
      refine ⟨hv1, ?_⟩
      refine sfX11_least h.1 h.2.2.1 (fun v205 I204 hW530 hF531 => ?_)
      have nt532 : NT Z I Z I204 := NT_fr h hF531 (by intro a k h; omega)
      have h533 := IV_x h hW530 hF531 (by intro a k h; omega)
      have nx534 : NX Z I Z I204 := NX_fr hF531 (by omega) (by omega) (by omega)
      have ns535 : NS Z I Z I204 := NS_fr hF531 (by intro a k h; omega)
      refine ⟨hv1, ?_⟩
      refine sfX12_least h533.2.2.2.1 h533.2.2.2.2.1 (fun v208 I207 hW537 hF538 => ?_)
      have nt539 : NT Z I204 Z I207 := NT_fr h533 hF538 (by intro a k h; omega)
      have h540 := IV_m h533 hW537 hF538 (by intro a k h; omega)
      have nx541 : NX Z I204 Z I207 := NX_fr hF538 (by omega) (by omega) (by omega)
      have ns542 : NS Z I204 Z I207 := NS_fr hF538 (by intro a k h; omega)
      have hr543 := RV_keep hr (NX.tr nx534 nx541)
      have hs544 := RS_keep hrs (NS.tr ns535 ns542)
      have hj545 := RJ_keep hrj (NS.tr ns535 ns542) NJ.rf
      have ht546 := RT_keep h hrt (NT.tr nt532 nt539)
      exact ih Z I207 J rc rs (x3 + 6) h540 hr543 hs544 hj545 ht546 (by omega) (by omega) (by omega) (by omega)
    · skip
      refine sfX11_head h.1 h.2.1 h.2.2.1 (fun v210 I209 hW548 hF549 => ?_)
      have nt550 : NT Z I Z I209 := NT_fr h hF549 (by intro a k h; omega)
      have h551 := IV_x h hW548 hF549 (by intro a k h; omega)
      have nx552 : NX Z I Z I209 := NX_fr hF549 (by omega) (by omega) (by omega)
      have ns553 : NS Z I Z I209 := NS_fr hF549 (by intro a k h; omega)
      refine sfX12_head h551.2.2.2.1 h551.2.2.2.2.1 (fun v212 I211 hW555 hF556 => ?_)
      have nt557 : NT Z I209 Z I211 := NT_fr h551 hF556 (by intro a k h; omega)
      have h558 := IV_m h551 hW555 hF556 (by intro a k h; omega)
      have nx559 : NX Z I209 Z I211 := NX_fr hF556 (by omega) (by omega) (by omega)
      have ns560 : NS Z I209 Z I211 := NS_fr hF556 (by intro a k h; omega)
      have hr561 := RV_keep hr (NX.tr nx552 nx559)
      have hs562 := RS_keep hrs (NS.tr ns553 ns560)
      have hj563 := RJ_keep hrj (NS.tr ns553 ns560) NJ.rf
      have ht564 := RT_keep h hrt (NT.tr nt550 nt557)
      exact ih Z I211 J rc rs (x3 + 6) h558 hr561 hs562 hj563 ht564 (by omega) (by omega) (by omega) (by omega)
    · skip
      refine ⟨hv1, ?_⟩
      refine sfX11_days h.1 h.2.1 h.2.2.1 (fun v215 I214 hW566 hF567 => ?_)
      have nt568 : NT Z I Z I214 := NT_fr h hF567 (by intro a k h; omega)
      have h569 := IV_x h hW566 hF567 (by intro a k h; omega)
      have nx570 : NX Z I Z I214 := NX_fr hF567 (by omega) (by omega) (by omega)
      have ns571 : NS Z I Z I214 := NS_fr hF567 (by intro a k h; omega)
      refine ⟨hv1, ?_⟩
      have hfc := fC_le Z 45
      refine ⟨(fC Z 45), (fS Z 45), rc - 100, rs - 2100, by omega, by omega, ?_⟩
      refine qX12_days hG h569.2.2.2 (fun v574 Z217 I217 J217 hS572 => ⟨v574, rfl, (IV_s h569 hS572).1, hS572.1.1, ?_⟩)
      have h576 := IV_s h569 hS572
      have nx577 := NX_st h569 hS572 (by decide)
      have ns578 := NS_st h569 hS572
      have nj579 := NJ_st h569 hS572
      have nt580 := NT_st h569 hS572 (by decide)
      have hr581 := RV_keep hr (NX.tr nx570 nx577)
      have hs582 := RS_keep hrs (NS.tr ns571 ns578)
      have hj583 := RJ_keep hrj (NS.tr ns571 ns578) nj579
      have ht584 := RT_keep h hrt (NT.tr nt568 nt580)
      exact ih Z217 I217 J217 (rc - 100) (rs - 2100) (x3 + 6) h576 hr581 hs582 hj583 ht584 (by omega) (by omega) (by omega) (by omega)
    · skip
      refine ⟨hv1, ?_⟩
      refine sfX11_ever h.1 h.2.2.1 (fun v220 I219 hW586 hF587 => ?_)
      have nt588 : NT Z I Z I219 := NT_fr h hF587 (by intro a k h; omega)
      have h589 := IV_x h hW586 hF587 (by intro a k h; omega)
      have nx590 : NX Z I Z I219 := NX_fr hF587 (by omega) (by omega) (by omega)
      have ns591 : NS Z I Z I219 := NS_fr hF587 (by intro a k h; omega)
      refine ⟨hv1, ?_⟩
      refine ⟨1, 40, rc - 100, rs - 2100, by omega, by omega, ?_⟩
      refine qX12_ever h589.2.2.2 (fun v594 Z222 I222 J222 hS592 => ⟨v594, rfl, (IV_s h589 hS592).1, hS592.1.1, ?_⟩)
      have h596 := IV_s h589 hS592
      have nx597 := NX_st h589 hS592 (by decide)
      have ns598 := NS_st h589 hS592
      have nj599 := NJ_st h589 hS592
      have nt600 := NT_st h589 hS592 (by decide)
      have hr601 := RV_keep hr (NX.tr nx590 nx597)
      have hs602 := RS_keep hrs (NS.tr ns591 ns598)
      have hj603 := RJ_keep hrj (NS.tr ns591 ns598) nj599
      have ht604 := RT_keep h hrt (NT.tr nt588 nt600)
      exact ih Z222 I222 J222 (rc - 100) (rs - 2100) (x3 + 6) h596 hr601 hs602 hj603 ht604 (by omega) (by omega) (by omega) (by omega)
    · skip
      refine sfX11_hire h.1 h.2.2.1 (fun v224 I223 hW606 hF607 => ?_)
      have nt608 : NT Z I Z I223 := NT_fr h hF607 (by intro a k h; omega)
      have h609 := IV_x h hW606 hF607 (by intro a k h; omega)
      have nx610 : NX Z I Z I223 := NX_fr hF607 (by omega) (by omega) (by omega)
      have ns611 : NS Z I Z I223 := NS_fr hF607 (by intro a k h; omega)
      have hfc := fC_le Z 45
      refine ⟨(fC Z 45), (fS Z 45), rc - 100, rs - 2100, by omega, by omega, ?_⟩
      refine qX12_hire hG h609.2.2.2 (fun v614 Z225 I225 J225 hS612 => ⟨v614, rfl, (IV_s h609 hS612).1, hS612.1.1, ?_⟩)
      have h616 := IV_s h609 hS612
      have nx617 := NX_st h609 hS612 (by decide)
      have ns618 := NS_st h609 hS612
      have nj619 := NJ_st h609 hS612
      have nt620 := NT_st h609 hS612 (by decide)
      have hr621 := RV_keep hr (NX.tr nx610 nx617)
      have hs622 := RS_keep hrs (NS.tr ns611 ns618)
      have hj623 := RJ_keep hrj (NS.tr ns611 ns618) nj619
      have ht624 := RT_keep h hrt (NT.tr nt608 nt620)
      exact ih Z225 I225 J225 (rc - 100) (rs - 2100) (x3 + 6) h616 hr621 hs622 hj623 ht624 (by omega) (by omega) (by omega) (by omega)
    · skip
      refine ⟨hv1, ?_⟩
      refine sfX11_feast h.1 h.2.2.1 (fun v228 I227 hW626 hF627 => ?_)
      have nt628 : NT Z I Z I227 := NT_fr h hF627 (by intro a k h; omega)
      have h629 := IV_x h hW626 hF627 (by intro a k h; omega)
      have nx630 : NX Z I Z I227 := NX_fr hF627 (by omega) (by omega) (by omega)
      have ns631 : NS Z I Z I227 := NS_fr hF627 (by intro a k h; omega)
      refine ⟨hv1, ?_⟩
      refine ⟨40, 2026, rc - 100, rs - 2100, by omega, by omega, ?_⟩
      refine qX12_feast hG h629.2.2.2 (fun v634 Z230 I230 J230 hS632 => ⟨v634, rfl, (IV_s h629 hS632).1, hS632.1.1, ?_⟩)
      have h636 := IV_s h629 hS632
      have nx637 := NX_st h629 hS632 (by decide)
      have ns638 := NS_st h629 hS632
      have nj639 := NJ_st h629 hS632
      have nt640 := NT_st h629 hS632 (by decide)
      have hr641 := RV_keep hr (NX.tr nx630 nx637)
      have hs642 := RS_keep hrs (NS.tr ns631 ns638)
      have hj643 := RJ_keep hrj (NS.tr ns631 ns638) nj639
      have ht644 := RT_keep h hrt (NT.tr nt628 nt640)
      exact ih Z230 I230 J230 (rc - 100) (rs - 2100) (x3 + 6) h636 hr641 hs642 hj643 ht644 (by omega) (by omega) (by omega) (by omega)
    · skip
      refine ⟨hv1, ?_⟩
      refine ⟨hv2, ?_⟩
      refine sfX11_closes h.1 h.2.2.1 (fun v234 I233 hW646 hF647 => ?_)
      have nt648 : NT Z I Z I233 := NT_fr h hF647 (by intro a k h; omega)
      have h649 := IV_x h hW646 hF647 (by intro a k h; omega)
      have nx650 : NX Z I Z I233 := NX_fr hF647 (by omega) (by omega) (by omega)
      have ns651 : NS Z I Z I233 := NS_fr hF647 (by intro a k h; omega)
      refine ⟨hv1, ?_⟩
      refine ⟨hv2, ?_⟩
      have hfc := fC_le Z 45
      refine ⟨(fC Z 45), (fS Z 45), rc - 100, rs - 2100, by omega, by omega, ?_⟩
      refine qX12_closes hG h649.2.2.2 (fun v654 Z237 I237 J237 hS652 => ⟨v654, rfl, (IV_s h649 hS652).1, hS652.1.1, ?_⟩)
      have h656 := IV_s h649 hS652
      have nx657 := NX_st h649 hS652 (by decide)
      have ns658 := NS_st h649 hS652
      have nj659 := NJ_st h649 hS652
      have nt660 := NT_st h649 hS652 (by decide)
      have hr661 := RV_keep hr (NX.tr nx650 nx657)
      have hs662 := RS_keep hrs (NS.tr ns651 ns658)
      have hj663 := RJ_keep hrj (NS.tr ns651 ns658) nj659
      have ht664 := RT_keep h hrt (NT.tr nt648 nt660)
      exact ih Z237 I237 J237 (rc - 100) (rs - 2100) (x3 + 6) h656 hr661 hs662 hj663 ht664 (by omega) (by omega) (by omega) (by omega)
    · skip
      refine sfX11_worst h.1 h.2.2.1 (fun v239 I238 hW666 hF667 => ?_)
      have nt668 : NT Z I Z I238 := NT_fr h hF667 (by intro a k h; omega)
      have h669 := IV_x h hW666 hF667 (by intro a k h; omega)
      have nx670 : NX Z I Z I238 := NX_fr hF667 (by omega) (by omega) (by omega)
      have ns671 : NS Z I Z I238 := NS_fr hF667 (by intro a k h; omega)
      have hfc := fC_le Z 45
      refine ⟨(fC Z 45), (fS Z 45), rc - 100, rs - 2100, by omega, by omega, ?_⟩
      refine qX12_worst hG h669.2.2.2 (fun v674 Z240 I240 J240 hS672 => ⟨v674, rfl, (IV_s h669 hS672).1, hS672.1.1, ?_⟩)
      have h676 := IV_s h669 hS672
      have nx677 := NX_st h669 hS672 (by decide)
      have ns678 := NS_st h669 hS672
      have nj679 := NJ_st h669 hS672
      have nt680 := NT_st h669 hS672 (by decide)
      have hr681 := RV_keep hr (NX.tr nx670 nx677)
      have hs682 := RS_keep hrs (NS.tr ns671 ns678)
      have hj683 := RJ_keep hrj (NS.tr ns671 ns678) nj679
      have ht684 := RT_keep h hrt (NT.tr nt668 nt680)
      exact ih Z240 I240 J240 (rc - 100) (rs - 2100) (x3 + 6) h676 hr681 hs682 hj683 ht684 (by omega) (by omega) (by omega) (by omega)
    · skip
      refine ⟨hv1, ?_⟩
      refine sfX11_fits h.1 h.2.2.1 (fun v243 I242 hW686 hF687 => ?_)
      have nt688 : NT Z I Z I242 := NT_fr h hF687 (by intro a k h; omega)
      have h689 := IV_x h hW686 hF687 (by intro a k h; omega)
      have nx690 : NX Z I Z I242 := NX_fr hF687 (by omega) (by omega) (by omega)
      have ns691 : NS Z I Z I242 := NS_fr hF687 (by intro a k h; omega)
      refine ⟨hv1, ?_⟩
      have hfc := fC_le Z 45
      refine ⟨(fC Z 45), (fS Z 45), rc - 100, rs - 2100, by omega, by omega, ?_⟩
      refine qX12_fits hG h689.2.2.2 (fun v694 Z245 I245 J245 hS692 => ⟨v694, rfl, (IV_s h689 hS692).1, hS692.1.1, ?_⟩)
      have h696 := IV_s h689 hS692
      have nx697 := NX_st h689 hS692 (by decide)
      have ns698 := NS_st h689 hS692
      have nj699 := NJ_st h689 hS692
      have nt700 := NT_st h689 hS692 (by decide)
      have hr701 := RV_keep hr (NX.tr nx690 nx697)
      have hs702 := RS_keep hrs (NS.tr ns691 ns698)
      have hj703 := RJ_keep hrj (NS.tr ns691 ns698) nj699
      have ht704 := RT_keep h hrt (NT.tr nt688 nt700)
      exact ih Z245 I245 J245 (rc - 100) (rs - 2100) (x3 + 6) h696 hr701 hs702 hj703 ht704 (by omega) (by omega) (by omega) (by omega)
    · skip
      refine ⟨hv1, ?_⟩
      refine sfX11_sure h.1 h.2.2.1 (fun v248 I247 hW706 hF707 => ?_)
      have nt708 : NT Z I Z I247 := NT_fr h hF707 (by intro a k h; omega)
      have h709 := IV_x h hW706 hF707 (by intro a k h; omega)
      have nx710 : NX Z I Z I247 := NX_fr hF707 (by omega) (by omega) (by omega)
      have ns711 : NS Z I Z I247 := NS_fr hF707 (by intro a k h; omega)
      refine ⟨hv1, ?_⟩
      have hfc := fC_le Z 45
      refine ⟨(fC Z 45), (fS Z 45), rc - 100, rs - 2100, by omega, by omega, ?_⟩
      refine qX12_sure hG h709.2.2.2 (fun v714 Z250 I250 J250 hS712 => ⟨v714, rfl, (IV_s h709 hS712).1, hS712.1.1, ?_⟩)
      have h716 := IV_s h709 hS712
      have nx717 := NX_st h709 hS712 (by decide)
      have ns718 := NS_st h709 hS712
      have nj719 := NJ_st h709 hS712
      have nt720 := NT_st h709 hS712 (by decide)
      have hr721 := RV_keep hr (NX.tr nx710 nx717)
      have hs722 := RS_keep hrs (NS.tr ns711 ns718)
      have hj723 := RJ_keep hrj (NS.tr ns711 ns718) nj719
      have ht724 := RT_keep h hrt (NT.tr nt708 nt720)
      exact ih Z250 I250 J250 (rc - 100) (rs - 2100) (x3 + 6) h716 hr721 hs722 hj723 ht724 (by omega) (by omega) (by omega) (by omega)
    · skip
      refine ⟨hv1, ?_⟩
      refine ⟨hv2, ?_⟩
      refine sfX11_judge h.1 h.2.2.1 (fun v254 I253 hW726 hF727 => ?_)
      have nt728 : NT Z I Z I253 := NT_fr h hF727 (by intro a k h; omega)
      have h729 := IV_x h hW726 hF727 (by intro a k h; omega)
      have nx730 : NX Z I Z I253 := NX_fr hF727 (by omega) (by omega) (by omega)
      have ns731 : NS Z I Z I253 := NS_fr hF727 (by intro a k h; omega)
      refine ⟨hv1, ?_⟩
      refine ⟨hv2, ?_⟩
      refine sfX12_judge h729.2.2.2.1 h729.2.2.2.2.1 (fun v258 I257 hW733 hF734 => ?_)
      have nt735 : NT Z I253 Z I257 := NT_fr h729 hF734 (by intro a k h; omega)
      have h736 := IV_m h729 hW733 hF734 (by intro a k h; omega)
      have nx737 : NX Z I253 Z I257 := NX_fr hF734 (by omega) (by omega) (by omega)
      have ns738 : NS Z I253 Z I257 := NS_fr hF734 (by intro a k h; omega)
      have hr739 := RV_keep hr (NX.tr nx730 nx737)
      have hs740 := RS_keep hrs (NS.tr ns731 ns738)
      have hj741 := RJ_keep hrj (NS.tr ns731 ns738) NJ.rf
      have ht742 := RT_keep h hrt (NT.tr nt728 nt735)
      exact ih Z I257 J rc rs (x3 + 6) h736 hr739 hs740 hj741 ht742 (by omega) (by omega) (by omega) (by omega)
    · skip
      refine ⟨hv1, ?_⟩
      refine ⟨hv2, ?_⟩
      refine ⟨hv3, ?_⟩
      refine sfX11_behind h.1 h.2.2.1 (fun v263 I262 hW744 hF745 => ?_)
      have nt746 : NT Z I Z I262 := NT_fr h hF745 (by intro a k h; omega)
      have h747 := IV_x h hW744 hF745 (by intro a k h; omega)
      have nx748 : NX Z I Z I262 := NX_fr hF745 (by omega) (by omega) (by omega)
      have ns749 : NS Z I Z I262 := NS_fr hF745 (by intro a k h; omega)
      refine ⟨hv1, ?_⟩
      refine ⟨hv2, ?_⟩
      refine ⟨hv3, ?_⟩
      have hfc := fC_le Z 45
      refine ⟨(fC Z 45), (fS Z 45), rc - 100, rs - 2100, by omega, by omega, ?_⟩
      refine qX12_behind hG h747.2.2.2 (fun v752 Z267 I267 J267 hS750 => ⟨v752, rfl, (IV_s h747 hS750).1, hS750.1.1, ?_⟩)
      have h754 := IV_s h747 hS750
      have nx755 := NX_st h747 hS750 (by decide)
      have ns756 := NS_st h747 hS750
      have nj757 := NJ_st h747 hS750
      have nt758 := NT_st h747 hS750 (by decide)
      have hr759 := RV_keep hr (NX.tr nx748 nx755)
      have hs760 := RS_keep hrs (NS.tr ns749 ns756)
      have hj761 := RJ_keep hrj (NS.tr ns749 ns756) nj757
      have ht762 := RT_keep h hrt (NT.tr nt746 nt758)
      exact ih Z267 I267 J267 (rc - 100) (rs - 2100) (x3 + 6) h754 hr759 hs760 hj761 ht762 (by omega) (by omega) (by omega) (by omega)
    · skip
      refine ⟨hv1, ?_⟩
      refine ⟨hv2, ?_⟩
      refine sfX11_rides h.1 h.2.2.1 (fun v271 I270 hW764 hF765 => ?_)
      have nt766 : NT Z I Z I270 := NT_fr h hF765 (by intro a k h; omega)
      have h767 := IV_x h hW764 hF765 (by intro a k h; omega)
      have nx768 : NX Z I Z I270 := NX_fr hF765 (by omega) (by omega) (by omega)
      have ns769 : NS Z I Z I270 := NS_fr hF765 (by intro a k h; omega)
      refine ⟨hv1, ?_⟩
      refine ⟨hv2, ?_⟩
      refine sfX12_rides h767.2.2.2.1 h767.2.2.2.2.1 (fun v275 I274 hW771 hF772 => ?_)
      have nt773 : NT Z I270 Z I274 := NT_fr h767 hF772 (by intro a k h; omega)
      have h774 := IV_m h767 hW771 hF772 (by intro a k h; omega)
      have nx775 : NX Z I270 Z I274 := NX_fr hF772 (by omega) (by omega) (by omega)
      have ns776 : NS Z I270 Z I274 := NS_fr hF772 (by intro a k h; omega)
      have hr777 := RV_keep hr (NX.tr nx768 nx775)
      have hs778 := RS_keep hrs (NS.tr ns769 ns776)
      have hj779 := RJ_keep hrj (NS.tr ns769 ns776) NJ.rf
      have ht780 := RT_keep h hrt (NT.tr nt766 nt773)
      exact ih Z I274 J rc rs (x3 + 6) h774 hr777 hs778 hj779 ht780 (by omega) (by omega) (by omega) (by omega)
    · skip
      refine ⟨hv1, ?_⟩
      refine sfX11_day h.1 h.2.1 h.2.2.1 (fun v278 I277 hW782 hF783 => ?_)
      have nt784 : NT Z I Z I277 := NT_fr h hF783 (by intro a k h; omega)
      have h785 := IV_x h hW782 hF783 (by intro a k h; omega)
      have nx786 : NX Z I Z I277 := NX_fr hF783 (by omega) (by omega) (by omega)
      have ns787 : NS Z I Z I277 := NS_fr hF783 (by intro a k h; omega)
      refine ⟨hv1, ?_⟩
      refine sfX12_day h785.2.2.2.1 h785.2.2.2.2.1 (fun v281 I280 hW789 hF790 => ?_)
      have nt791 : NT Z I277 Z I280 := NT_fr h785 hF790 (by intro a k h; omega)
      have h792 := IV_m h785 hW789 hF790 (by intro a k h; omega)
      have nx793 : NX Z I277 Z I280 := NX_fr hF790 (by omega) (by omega) (by omega)
      have ns794 : NS Z I277 Z I280 := NS_fr hF790 (by intro a k h; omega)
      have hr795 := RV_keep hr (NX.tr nx786 nx793)
      have hs796 := RS_keep hrs (NS.tr ns787 ns794)
      have hj797 := RJ_keep hrj (NS.tr ns787 ns794) NJ.rf
      have ht798 := RT_keep h hrt (NT.tr nt784 nt791)
      exact ih Z I280 J rc rs (x3 + 6) h792 hr795 hs796 hj797 ht798 (by omega) (by omega) (by omega) (by omega)
    · skip
      refine ⟨hv1, ?_⟩
      refine sfX11_meet h.1 h.2.2.1 (fun v284 I283 hW800 hF801 => ?_)
      have nt802 : NT Z I Z I283 := NT_fr h hF801 (by intro a k h; omega)
      have h803 := IV_x h hW800 hF801 (by intro a k h; omega)
      have nx804 : NX Z I Z I283 := NX_fr hF801 (by omega) (by omega) (by omega)
      have ns805 : NS Z I Z I283 := NS_fr hF801 (by intro a k h; omega)
      refine ⟨hv1, ?_⟩
      refine sfX12_meet h803.2.2.2.1 h803.2.2.2.2.1 (fun v287 I286 hW807 hF808 => ?_)
      have nt809 : NT Z I283 Z I286 := NT_fr h803 hF808 (by intro a k h; omega)
      have h810 := IV_m h803 hW807 hF808 (by intro a k h; omega)
      have nx811 : NX Z I283 Z I286 := NX_fr hF808 (by omega) (by omega) (by omega)
      have ns812 : NS Z I283 Z I286 := NS_fr hF808 (by intro a k h; omega)
      have hr813 := RV_keep hr (NX.tr nx804 nx811)
      have hs814 := RS_keep hrs (NS.tr ns805 ns812)
      have hj815 := RJ_keep hrj (NS.tr ns805 ns812) NJ.rf
      have ht816 := RT_keep h hrt (NT.tr nt802 nt809)
      exact ih Z I286 J rc rs (x3 + 6) h810 hr813 hs814 hj815 ht816 (by omega) (by omega) (by omega) (by omega)
    · skip
      refine sfX11_year h.1 h.2.2.1 (fun v289 I288 hW818 hF819 => ?_)
      have nt820 : NT Z I Z I288 := NT_fr h hF819 (by intro a k h; omega)
      have h821 := IV_x h hW818 hF819 (by intro a k h; omega)
      have nx822 : NX Z I Z I288 := NX_fr hF819 (by omega) (by omega) (by omega)
      have ns823 : NS Z I Z I288 := NS_fr hF819 (by intro a k h; omega)
      refine sfX12_year h821.2.2.2.1 h821.2.2.2.2.1 (fun v291 I290 hW825 hF826 => ?_)
      have nt827 : NT Z I288 Z I290 := NT_fr h821 hF826 (by intro a k h; omega)
      have h828 := IV_m h821 hW825 hF826 (by intro a k h; omega)
      have nx829 : NX Z I288 Z I290 := NX_fr hF826 (by omega) (by omega) (by omega)
      have ns830 : NS Z I288 Z I290 := NS_fr hF826 (by intro a k h; omega)
      have hr831 := RV_keep hr (NX.tr nx822 nx829)
      have hs832 := RS_keep hrs (NS.tr ns823 ns830)
      have hj833 := RJ_keep hrj (NS.tr ns823 ns830) NJ.rf
      have ht834 := RT_keep h hrt (NT.tr nt820 nt827)
      exact ih Z I290 J rc rs (x3 + 6) h828 hr831 hs832 hj833 ht834 (by omega) (by omega) (by omega) (by omega)
    · skip
      refine ⟨hv1, ?_⟩
      refine pX11_come h.1 h.2.2.1 ht1 (fun v294 I293 hW836 hF837 hp835 => ?_)
      have tm838 := TM_fr ht2 (show s.1.1 ≤ 8 by omega) hF837 (by omega) (by omega) (by omega) (by omega) (by intro a k h1 h2 h3; omega)
      have rk839 := RK_fr h hrt.2.2 hF837 (by intro a k h; omega)
      have tp840 := TP_fr hrt.1 hF837 (by intro a k h; omega)
      have h841 := IV_x h hW836 hF837 (by intro a k h; omega)
      have nx842 : NX Z I Z I293 := NX_fr hF837 (by omega) (by omega) (by omega)
      have ns843 : NS Z I Z I293 := NS_fr hF837 (by intro a k h; omega)
      refine ⟨hv1, ?_⟩
      refine pX12_come h841.2.2.2.1 h841.2.2.2.2.1 tm838 (fun v297 I296 hW845 hF846 hp844 => ?_)
      have rk847 := RK_fr h841 rk839 hF846 (by intro a k h; omega)
      have tp848 := TP_fr tp840 hF846 (by intro a k h; omega)
      have h849 := IV_m h841 hW845 hF846 (by intro a k h; omega)
      have nx850 : NX Z I293 Z I296 := NX_fr hF846 (by omega) (by omega) (by omega)
      have ns851 : NS Z I293 Z I296 := NS_fr hF846 (by intro a k h; omega)
      have hr852 := RV_keep hr (NX.tr nx842 nx850)
      have hs853 := RS_keep hrs (NS.tr ns843 ns851)
      have hj854 := RJ_keep hrj (NS.tr ns843 ns851) NJ.rf
      obtain ⟨k856, ek857⟩ := oCome_k s kk (xs (Int32.toNatClampNeg (x3 + 1)))
      rw [ek857] at hp844
      have ht855 : RT Z I296 := ⟨tp848, ⟨_, k856, TX_fr hp835.2 hF846 (by intro a k h1 h2; omega), hp844.2⟩, rk847⟩
      exact ih Z I296 J rc rs (x3 + 6) h849 hr852 hs853 hj854 ht855 (by omega) (by omega) (by omega) (by omega)
    · skip
      refine ⟨hv1, ?_⟩
      refine fsfX11_seed h.1 h.2.2.1 ht1 (fun v300 I299 hW859 hF860 hp858 => ?_)
      have tm861 := TM_fr ht2 (show s.1.1 ≤ 8 by omega) hF860 (by omega) (by omega) (by omega) (by omega) (by intro a k h1 h2 h3; omega)
      have rk862 := RK_fr h hrt.2.2 hF860 (by intro a k h; omega)
      have tp863 := TP_fr hrt.1 hF860 (by intro a k h; omega)
      have h864 := IV_x h hW859 hF860 (by intro a k h; omega)
      have nx865 : NX Z I Z I299 := NX_fr hF860 (by omega) (by omega) (by omega)
      have ns866 : NS Z I Z I299 := NS_fr hF860 (by intro a k h; omega)
      refine ⟨hv1, ?_⟩
      refine fsfX12_seed h864.2.2.2.1 h864.2.2.2.2.1 tm861 (fun v303 I302 hW868 hF869 hp867 => ?_)
      have rk870 := RK_fr h864 rk862 hF869 (by intro a k h; omega)
      have tp871 := TP_fr tp863 hF869 (by intro a k h; omega)
      have h872 := IV_m h864 hW868 hF869 (by intro a k h; omega)
      have nx873 : NX Z I299 Z I302 := NX_fr hF869 (by omega) (by omega) (by omega)
      have ns874 : NS Z I299 Z I302 := NS_fr hF869 (by intro a k h; omega)
      have hr875 := RV_keep hr (NX.tr nx865 nx873)
      have hs876 := RS_keep hrs (NS.tr ns866 ns874)
      have hj877 := RJ_keep hrj (NS.tr ns866 ns874) NJ.rf
      obtain ⟨k879, ek880⟩ := oSeed_k s kk (xs (Int32.toNatClampNeg (x3 + 1)))
      rw [ek880] at hp867
      have ht878 : RT Z I302 := ⟨tp871, ⟨_, k879, TX_fr hp858.2 hF869 (by intro a k h1 h2; omega), hp867.2⟩, rk870⟩
      exact ih Z I302 J rc rs (x3 + 6) h872 hr875 hs876 hj877 ht878 (by omega) (by omega) (by omega) (by omega)
    · skip
      refine pX11_image h.1 h.2.2.1 ht1 (fun v305 I304 hW882 hF883 hp881 pI884 => ?_)
      have tm885 := TM_fr ht2 (show s.1.1 ≤ 8 by omega) hF883 (by omega) (by omega) (by omega) (by omega) (by intro a k h1 h2 h3; omega)
      have tp886 := TP_fr hrt.1 hF883 (by intro a k h; omega)
      have h887 := IV_x h hW882 hF883 (by intro a k h; omega)
      have e25 := congrArg Int32.toInt (hF883 25 1 (by omega))
      have e458 := congrArg Int32.toInt (hF883 45 8 (by omega))
      have ns888 : NS Z I Z I304 := NS_fr hF883 (by intro a k h; omega)
      refine ⟨38, 1946, rc - 100, rs - 2100, by omega, by omega, ?_⟩
      refine qX12_image hG h887.2.2.2 (fun Z306 I306 J306 hS889 hpi hFi => ⟨1, rfl, (IV_s h887 hS889).1, hS889.1.1, ?_⟩)
      have h893 := IV_s h887 hS889
      have m25 := congrArg Int32.toInt (hS889.2.2.2.2.1 25 1 (by omega))
      have m458 := congrArg Int32.toInt (hS889.2.2.2.2.1 45 8 (by omega))
      have m08 := congrArg Int32.toInt (hS889.2.2.2.2.1 0 8 (by omega))
      have ns894 := NS_st h887 hS889
      have nj895 := NJ_st h887 hS889
      have hr896 : RV Z306 I306 := ⟨by omega, ⟨fun q => absurd q (by omega), fun q => by obtain ⟨w9, hw9, _⟩ := hpi; rw [hw9] at q; cases q⟩⟩
      have hs897 := RS_keep hrs (NS.tr ns888 ns894)
      have hj898 := RJ_keep hrj (NS.tr ns888 ns894) nj895
      obtain ⟨w9, hw9, c1, c2, c3⟩ := hpi
      have ht899 : RT Z306 I306 := ⟨TP_fr tp886 hFi (by intro a k h; omega), ⟨s, kk, TX_fr (TX_fr ht1 hF883 (by intro a k h1 h2; omega)) hFi (by intro a k h1 h2; omega), TM_fr tm885 (show s.1.1 ≤ 8 by omega) hFi (by omega) (by omega) (by omega) (by omega) (by intro a k h1 h2 h3; omega)⟩, fun u hu => by rw [hw9] at hu; cases hu; exact ⟨s, kk, TX_fr pI884 hFi (by intro a k h1 h2; omega), RM_cm tm885.1 (show s.1.1 ≤ 8 by omega) c3, by rw [c3.2.2.2 19 (by decide) (by decide)]; exact tm885.2⟩⟩
      exact ih Z306 I306 J306 (rc - 100) (rs - 2100) (x3 + 6) h893 hr896 hs897 hj898 ht899 (by omega) (by omega) (by omega) (by omega)
    · skip
      refine pX11_back h.1 h.2.2.1 (fun v308 I307 hW901 hF902 hp900 pB903 pB904 => ?_)
      have tm905 := TM_fr ht2 (show s.1.1 ≤ 8 by omega) hF902 (by omega) (by omega) (by omega) (by omega) (by intro a k h1 h2 h3; omega)
      have rk906 := RK_fr h hrt.2.2 hF902 (by intro a k h; omega)
      have tp907 := TP_fr hrt.1 hF902 (by intro a k h; omega)
      have h908 := IV_x h hW901 hF902 (by intro a k h; omega)
      have nx909 : NX Z I Z I307 := NX_fr hF902 (by omega) (by omega) (by omega)
      have ns910 : NS Z I Z I307 := NS_fr hF902 (by intro a k h; omega)
      refine qX12_back h908.2.2.2 (fun v310 I309 hS911 hpb => ?_)
      have h912 := IV_s h908 hS911
      have nx913 := NX_st h908 hS911 (by decide)
      have ns914 := NS_st h908 hS911
      have nj915 := NJ_st h908 hS911
      have hr916 := RV_keep hr (NX.tr nx909 nx913)
      have hs917 := RS_keep hrs (NS.tr ns910 ns914)
      have hj918 := RJ_keep hrj (NS.tr ns910 ns914) nj915
      have hmain : ∃ s k, TX I309 1 s ∧ TM I309 45 (setK s.1 k, s.2) := by
        cases hz9 : Z.2.1 45 20 with
        | none =>
          have g := hr.2.mpr hz9
          obtain ⟨_, fB⟩ := hpb.1 hz9
          exact ⟨s, kk, TX_fr (pB904 g s ht1) fB (by intro a k h1 h2; omega), TM_fr tm905 (show s.1.1 ≤ 8 by omega) fB (by omega) (by omega) (by omega) (by omega) (by intro a k h1 h2 h3; omega)⟩
        | some w9 =>
          have hne : ¬ Z.2.1 45 20 = none := by rw [hz9]; exact fun e => by cases e
          have g := mt hr.2.mp hne
          obtain ⟨s9, k9, g1, g2⟩ := hrt.2.2 w9 hz9
          have l9 := g1.1.1
          have hwk := IV_kept h hz9
          have hw9 := WX_f h.2.2.1
          obtain ⟨_, c3⟩ := hpb.2 hne
          have c3 := c3 w9 hz9
          have g3 := TM_fr g2 (show s9.1.1 ≤ 8 by omega) hF902 (by omega) (by omega) (by omega) (by omega) (by intro a k h1 h2 h3; omega)
          exact ⟨s9, k9, TX_fr (pB903 g s9 g1) hS911.2.2.2.2.1 (by intro a k h1 h2; omega), RM_cm g3.1 (show s9.1.1 ≤ 8 by omega) c3, by rw [c3.2.2.2 19 (by decide) (by decide)]; exact g3.2⟩
      have hbz := h.2.2.2.2.2.1
      have ht919 : RT Z I309 := ⟨TP_fr tp907 hS911.2.2.2.2.1 (by intro a k h; omega), hmain, RK_eq rk906 h908.2.2.1 rfl (fun a k h1 h2 => hS911.2.2.2.2.1 a k (by omega)) (fun u hu a k h1 h2 => hS911.2.2.2.2.2.2 rfl (by omega) u hu a k h1 h2)⟩
      exact ih Z I309 J rc rs (x3 + 6) h912 hr916 hs917 hj918 ht919 (by omega) (by omega) (by omega) (by omega)
    · skip
      refine ⟨hv1, ?_⟩
      refine sfX11_status h.1 h.2.2.1 (fun v313  => ?_)
      have nx921 : NX Z I Z I := NX.rf
      have ns922 : NS Z I Z I := NS.rf
      have nt923 : NT Z I Z I := NT.rf
      refine ⟨hv1, ?_⟩
      refine sfX12_status h.2.2.2.1 h.2.2.2.2.1 (fun v316  => ?_)
      have nx925 : NX Z I Z I := NX.rf
      have ns926 : NS Z I Z I := NS.rf
      have nt927 : NT Z I Z I := NT.rf
      have hr928 := RV_keep hr (NX.tr nx921 nx925)
      have hs929 := RS_keep hrs (NS.tr ns922 ns926)
      have hj930 := RJ_keep hrj (NS.tr ns922 ns926) NJ.rf
      have ht931 := RT_keep h hrt (NT.tr nt923 nt927)
      exact ih Z I J rc rs (x3 + 6) h hr928 hs929 hj930 ht931 (by omega) (by omega) (by omega) (by omega)
