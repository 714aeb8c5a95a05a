theorem tb1 {w : Cond} (h : w ∈ tables_1_1) : w ∈ lw_tbl := by
  unfold lw_tbl tables_1
  exact List.mem_append_right _ (List.mem_append_left _ h)
theorem tb2 {w : Cond} (h : w ∈ tables_1_2) : w ∈ lw_tbl := by
  unfold lw_tbl tables_1
  exact List.mem_append_right _ (List.mem_append_right _ (List.mem_append_left _ h))
theorem tb3 {w : Cond} (h : w ∈ tables_1_3) : w ∈ lw_tbl := by
  unfold lw_tbl tables_1
  exact List.mem_append_right _ (List.mem_append_right _ (List.mem_append_right _ (List.mem_append_left _ h)))
theorem tb4 {w : Cond} (h : w ∈ tables_1_4) : w ∈ lw_tbl := by
  unfold lw_tbl tables_1
  exact List.mem_append_right _ (List.mem_append_right _ (List.mem_append_right _ (List.mem_append_right _ (List.mem_append_left _ h))))
theorem tb5 {w : Cond} (h : w ∈ tables_1_5) : w ∈ lw_tbl := by
  unfold lw_tbl tables_1
  exact List.mem_append_right _ (List.mem_append_right _ (List.mem_append_right _ (List.mem_append_right _ (List.mem_append_right _ (List.mem_append_left _ h)))))
theorem tb6 {w : Cond} (h : w ∈ tables_1_6) : w ∈ lw_tbl := by
  unfold lw_tbl tables_1
  exact List.mem_append_right _ (List.mem_append_right _ (List.mem_append_right _ (List.mem_append_right _ (List.mem_append_right _ (List.mem_append_right _ (List.mem_append_left _ h))))))
theorem tb7 {w : Cond} (h : w ∈ tables_1_7) : w ∈ lw_tbl := by
  unfold lw_tbl tables_1
  exact List.mem_append_right _ (List.mem_append_right _ (List.mem_append_right _ (List.mem_append_right _ (List.mem_append_right _ (List.mem_append_right _ (List.mem_append_right _ h))))))
abbrev mX0_init : jdM := (yX0_init, cX0_init, 2, none)
set_option maxRecDepth 100000 in
theorem kX0_init : jdMc mX0_init 1 := ⟨jdW_in (tb2 (List.mem_of_getElem? (i := 119) (by eq_refl))) (by decide +kernel), jdW_in (tb1 (List.mem_of_getElem? (i := 14) (by eq_refl))) (by decide +kernel), ⟨by decide +kernel, by decide +kernel, by decide +kernel⟩, by decide⟩
set_option maxRecDepth 100000 in
theorem sX0_init : mX0_init.1.name = "<init>" ∧ Cond.instanceMethod mX0_init.1 ∈ jdW ∧ mX0_init.2.2.2 = none := ⟨rfl, jdW_in (tb2 (List.mem_of_getElem? (i := 118) (by eq_refl))) (by decide +kernel), rfl⟩
abbrev mX0_kind : jdM := (yX0_kind, cX0_kind, 1, (some .int))
set_option maxRecDepth 100000 in
theorem kX0_kind : jdMc mX0_kind 0 := ⟨jdW_in (tb2 (List.mem_of_getElem? (i := 58) (by eq_refl))) (by decide +kernel), jdW_in (tb1 (List.mem_of_getElem? (i := 14) (by eq_refl))) (by decide +kernel), ⟨by decide +kernel, by decide +kernel, by decide +kernel⟩, by decide⟩
abbrev mX0_worth : jdM := (yX0_worth, cX0_worth, 4, (some .int))
set_option maxRecDepth 100000 in
theorem kX0_worth : jdMc mX0_worth 3 := ⟨jdW_in (tb2 (List.mem_of_getElem? (i := 200) (by eq_refl))) (by decide +kernel), jdW_in (tb1 (List.mem_of_getElem? (i := 14) (by eq_refl))) (by decide +kernel), ⟨by decide +kernel, by decide +kernel, by decide +kernel⟩, by decide⟩
abbrev mX1_init : jdM := (yX1_init, cX1_init, 2, none)
set_option maxRecDepth 100000 in
theorem kX1_init : jdMc mX1_init 1 := ⟨jdW_in (tb2 (List.mem_of_getElem? (i := 95) (by eq_refl))) (by decide +kernel), jdW_in (tb1 (List.mem_of_getElem? (i := 11) (by eq_refl))) (by decide +kernel), ⟨by decide +kernel, by decide +kernel, by decide +kernel⟩, by decide⟩
set_option maxRecDepth 100000 in
theorem sX1_init : mX1_init.1.name = "<init>" ∧ Cond.instanceMethod mX1_init.1 ∈ jdW ∧ mX1_init.2.2.2 = none := ⟨rfl, jdW_in (tb2 (List.mem_of_getElem? (i := 94) (by eq_refl))) (by decide +kernel), rfl⟩
abbrev mX1_kind : jdM := (yX1_kind, cX1_kind, 1, (some .int))
set_option maxRecDepth 100000 in
theorem kX1_kind : jdMc mX1_kind 0 := ⟨jdW_in (tb2 (List.mem_of_getElem? (i := 61) (by eq_refl))) (by decide +kernel), jdW_in (tb1 (List.mem_of_getElem? (i := 11) (by eq_refl))) (by decide +kernel), ⟨by decide +kernel, by decide +kernel, by decide +kernel⟩, by decide⟩
abbrev mX1_worth : jdM := (yX1_worth, cX1_worth, 4, (some .int))
set_option maxRecDepth 100000 in
theorem kX1_worth : jdMc mX1_worth 3 := ⟨jdW_in (tb2 (List.mem_of_getElem? (i := 222) (by eq_refl))) (by decide +kernel), jdW_in (tb1 (List.mem_of_getElem? (i := 11) (by eq_refl))) (by decide +kernel), ⟨by decide +kernel, by decide +kernel, by decide +kernel⟩, by decide⟩
set_option maxRecDepth 100000 in
theorem sX1_worth : Cond.instanceMethod mX1_worth.1 ∈ jdW ∧ Cond.selects mX1_worth.1.cls mX1_worth.1 mX1_worth.1 ∈ jdW := ⟨jdW_in (tb2 (List.mem_of_getElem? (i := 195) (by eq_refl))) (by decide +kernel), jdW_in (tb2 (List.mem_of_getElem? (i := 196) (by eq_refl))) (by decide +kernel)⟩
abbrev mX1_pick : jdM := (yX1_pick, cX1_pick, 9, (some .int))
set_option maxRecDepth 100000 in
theorem kX1_pick : jdMc mX1_pick 3 := ⟨jdW_in (tb2 (List.mem_of_getElem? (i := 193) (by eq_refl))) (by decide +kernel), jdW_in (tb1 (List.mem_of_getElem? (i := 11) (by eq_refl))) (by decide +kernel), ⟨by decide +kernel, by decide +kernel, by decide +kernel⟩, by decide⟩
abbrev mX2_init : jdM := (yX2_init, cX2_init, 2, none)
set_option maxRecDepth 100000 in
theorem kX2_init : jdMc mX2_init 1 := ⟨jdW_in (tb2 (List.mem_of_getElem? (i := 85) (by eq_refl))) (by decide +kernel), jdW_in (tb1 (List.mem_of_getElem? (i := 9) (by eq_refl))) (by decide +kernel), ⟨by decide +kernel, by decide +kernel, by decide +kernel⟩, by decide⟩
set_option maxRecDepth 100000 in
theorem sX2_init : mX2_init.1.name = "<init>" ∧ Cond.instanceMethod mX2_init.1 ∈ jdW ∧ mX2_init.2.2.2 = none := ⟨rfl, jdW_in (tb2 (List.mem_of_getElem? (i := 84) (by eq_refl))) (by decide +kernel), rfl⟩
abbrev mX2_pick : jdM := (yX2_pick, cX2_pick, 4, (some .int))
set_option maxRecDepth 100000 in
theorem kX2_pick : jdMc mX2_pick 3 := ⟨jdW_in (tb3 (List.mem_of_getElem? (i := 5) (by eq_refl))) (by decide +kernel), jdW_in (tb1 (List.mem_of_getElem? (i := 9) (by eq_refl))) (by decide +kernel), ⟨by decide +kernel, by decide +kernel, by decide +kernel⟩, by decide⟩
set_option maxRecDepth 100000 in
theorem sX2_pick : Cond.instanceMethod mX2_pick.1 ∈ jdW := jdW_in (tb2 (List.mem_of_getElem? (i := 189) (by eq_refl))) (by decide +kernel)
abbrev mX2_number : jdM := (yX2_number, cX2_number, 1, (some .int))
set_option maxRecDepth 100000 in
theorem kX2_number : jdMc mX2_number 0 := ⟨jdW_in (tb2 (List.mem_of_getElem? (i := 159) (by eq_refl))) (by decide +kernel), jdW_in (tb1 (List.mem_of_getElem? (i := 9) (by eq_refl))) (by decide +kernel), ⟨by decide +kernel, by decide +kernel, by decide +kernel⟩, by decide⟩
set_option maxRecDepth 100000 in
theorem sX2_number : Cond.instanceMethod mX2_number.1 ∈ jdW := jdW_in (tb2 (List.mem_of_getElem? (i := 152) (by eq_refl))) (by decide +kernel)
abbrev mX2_isOf : jdM := (yX2_isOf, cX2_isOf, 2, (some .boolean))
set_option maxRecDepth 100000 in
theorem kX2_isOf : jdMc mX2_isOf 1 := ⟨jdW_in (tb2 (List.mem_of_getElem? (i := 147) (by eq_refl))) (by decide +kernel), jdW_in (tb1 (List.mem_of_getElem? (i := 9) (by eq_refl))) (by decide +kernel), ⟨by decide +kernel, by decide +kernel, by decide +kernel⟩, by decide⟩
set_option maxRecDepth 100000 in
theorem sX2_isOf : Cond.instanceMethod mX2_isOf.1 ∈ jdW := jdW_in (tb2 (List.mem_of_getElem? (i := 140) (by eq_refl))) (by decide +kernel)
abbrev mX3_init : jdM := (yX3_init, cX3_init, 1, none)
set_option maxRecDepth 100000 in
theorem kX3_init : jdMc mX3_init 0 := ⟨jdW_in (tb1 (List.mem_of_getElem? (i := 133) (by eq_refl))) (by decide +kernel), jdW_in (tb1 (List.mem_of_getElem? (i := 4) (by eq_refl))) (by decide +kernel), ⟨by decide +kernel, by decide +kernel, by decide +kernel⟩, by decide⟩
set_option maxRecDepth 100000 in
theorem sX3_init : mX3_init.1.name = "<init>" ∧ Cond.instanceMethod mX3_init.1 ∈ jdW ∧ mX3_init.2.2.2 = none := ⟨rfl, jdW_in (tb1 (List.mem_of_getElem? (i := 132) (by eq_refl))) (by decide +kernel), rfl⟩
abbrev mX3_pass : jdM := (yX3_pass, cX3_pass, 7, none)
set_option maxRecDepth 100000 in
theorem kX3_pass : jdMc mX3_pass 3 := ⟨jdW_in (tb4 (List.mem_of_getElem? (i := 14) (by eq_refl))) (by decide +kernel), jdW_in (tb1 (List.mem_of_getElem? (i := 4) (by eq_refl))) (by decide +kernel), ⟨by decide +kernel, by decide +kernel, by decide +kernel⟩, by decide⟩
set_option maxRecDepth 100000 in
theorem sX3_pass : Cond.instanceMethod mX3_pass.1 ∈ jdW ∧ Cond.selects mX3_pass.1.cls mX3_pass.1 mX3_pass.1 ∈ jdW := ⟨jdW_in (tb4 (List.mem_of_getElem? (i := 12) (by eq_refl))) (by decide +kernel), jdW_in (tb4 (List.mem_of_getElem? (i := 13) (by eq_refl))) (by decide +kernel)⟩
abbrev mX3_sendAll : jdM := (yX3_sendAll, cX3_sendAll, 7, none)
set_option maxRecDepth 100000 in
theorem kX3_sendAll : jdMc mX3_sendAll 4 := ⟨jdW_in (tb4 (List.mem_of_getElem? (i := 18) (by eq_refl))) (by decide +kernel), jdW_in (tb1 (List.mem_of_getElem? (i := 4) (by eq_refl))) (by decide +kernel), ⟨by decide +kernel, by decide +kernel, by decide +kernel⟩, by decide⟩
set_option maxRecDepth 100000 in
theorem sX3_sendAll : Cond.instanceMethod mX3_sendAll.1 ∈ jdW ∧ Cond.selects mX3_sendAll.1.cls mX3_sendAll.1 mX3_sendAll.1 ∈ jdW := ⟨jdW_in (tb4 (List.mem_of_getElem? (i := 17) (by eq_refl))) (by decide +kernel), jdW_in (List.mem_of_getElem? (i := 21) (by eq_refl)) (by decide +kernel)⟩
abbrev mX3_coachAt : jdM := (yX3_coachAt, cX3_coachAt, 2, (some .int))
set_option maxRecDepth 100000 in
theorem kX3_coachAt : jdMc mX3_coachAt 1 := ⟨jdW_in (tb4 (List.mem_of_getElem? (i := 27) (by eq_refl))) (by decide +kernel), jdW_in (tb1 (List.mem_of_getElem? (i := 4) (by eq_refl))) (by decide +kernel), ⟨by decide +kernel, by decide +kernel, by decide +kernel⟩, by decide⟩
set_option maxRecDepth 100000 in
theorem sX3_coachAt : Cond.instanceMethod mX3_coachAt.1 ∈ jdW ∧ Cond.selects mX3_coachAt.1.cls mX3_coachAt.1 mX3_coachAt.1 ∈ jdW := ⟨jdW_in (tb4 (List.mem_of_getElem? (i := 25) (by eq_refl))) (by decide +kernel), jdW_in (tb4 (List.mem_of_getElem? (i := 26) (by eq_refl))) (by decide +kernel)⟩
abbrev mX3_waitingOf : jdM := (yX3_waitingOf, cX3_waitingOf, 5, (some .int))
set_option maxRecDepth 100000 in
theorem kX3_waitingOf : jdMc mX3_waitingOf 2 := ⟨jdW_in (tb4 (List.mem_of_getElem? (i := 43) (by eq_refl))) (by decide +kernel), jdW_in (tb1 (List.mem_of_getElem? (i := 4) (by eq_refl))) (by decide +kernel), ⟨by decide +kernel, by decide +kernel, by decide +kernel⟩, by decide⟩
set_option maxRecDepth 100000 in
theorem sX3_waitingOf : Cond.instanceMethod mX3_waitingOf.1 ∈ jdW ∧ Cond.selects mX3_waitingOf.1.cls mX3_waitingOf.1 mX3_waitingOf.1 ∈ jdW := ⟨jdW_in (tb4 (List.mem_of_getElem? (i := 41) (by eq_refl))) (by decide +kernel), jdW_in (tb4 (List.mem_of_getElem? (i := 42) (by eq_refl))) (by decide +kernel)⟩
abbrev mX3_waitingOfAll : jdM := (yX3_waitingOfAll, cX3_waitingOfAll, 4, (some .int))
set_option maxRecDepth 100000 in
theorem kX3_waitingOfAll : jdMc mX3_waitingOfAll 1 := ⟨jdW_in (tb4 (List.mem_of_getElem? (i := 39) (by eq_refl))) (by decide +kernel), jdW_in (tb1 (List.mem_of_getElem? (i := 4) (by eq_refl))) (by decide +kernel), ⟨by decide +kernel, by decide +kernel, by decide +kernel⟩, by decide⟩
set_option maxRecDepth 100000 in
theorem sX3_waitingOfAll : Cond.instanceMethod mX3_waitingOfAll.1 ∈ jdW ∧ Cond.selects mX3_waitingOfAll.1.cls mX3_waitingOfAll.1 mX3_waitingOfAll.1 ∈ jdW := ⟨jdW_in (tb4 (List.mem_of_getElem? (i := 37) (by eq_refl))) (by decide +kernel), jdW_in (tb4 (List.mem_of_getElem? (i := 38) (by eq_refl))) (by decide +kernel)⟩
abbrev mX3_findLeast : jdM := (yX3_findLeast, cX3_findLeast, 4, none)
set_option maxRecDepth 100000 in
theorem kX3_findLeast : jdMc mX3_findLeast 2 := ⟨jdW_in (tb4 (List.mem_of_getElem? (i := 52) (by eq_refl))) (by decide +kernel), jdW_in (tb1 (List.mem_of_getElem? (i := 4) (by eq_refl))) (by decide +kernel), ⟨by decide +kernel, by decide +kernel, by decide +kernel⟩, by decide⟩
set_option maxRecDepth 100000 in
theorem sX3_findLeast : Cond.instanceMethod mX3_findLeast.1 ∈ jdW ∧ Cond.selects mX3_findLeast.1.cls mX3_findLeast.1 mX3_findLeast.1 ∈ jdW := ⟨jdW_in (tb4 (List.mem_of_getElem? (i := 50) (by eq_refl))) (by decide +kernel), jdW_in (tb4 (List.mem_of_getElem? (i := 51) (by eq_refl))) (by decide +kernel)⟩
abbrev mX3_cheapest : jdM := (yX3_cheapest, cX3_cheapest, 9, (some .int))
set_option maxRecDepth 100000 in
theorem kX3_cheapest : jdMc mX3_cheapest 3 := ⟨jdW_in (tb4 (List.mem_of_getElem? (i := 63) (by eq_refl))) (by decide +kernel), jdW_in (tb1 (List.mem_of_getElem? (i := 4) (by eq_refl))) (by decide +kernel), ⟨by decide +kernel, by decide +kernel, by decide +kernel⟩, by decide⟩
set_option maxRecDepth 100000 in
theorem sX3_cheapest : Cond.instanceMethod mX3_cheapest.1 ∈ jdW ∧ Cond.selects mX3_cheapest.1.cls mX3_cheapest.1 mX3_cheapest.1 ∈ jdW := ⟨jdW_in (tb4 (List.mem_of_getElem? (i := 62) (by eq_refl))) (by decide +kernel), jdW_in (List.mem_of_getElem? (i := 22) (by eq_refl)) (by decide +kernel)⟩
abbrev mX3_waitingTogether : jdM := (yX3_waitingTogether, cX3_waitingTogether, 5, (some .int))
set_option maxRecDepth 100000 in
theorem kX3_waitingTogether : jdMc mX3_waitingTogether 2 := ⟨jdW_in (tb4 (List.mem_of_getElem? (i := 55) (by eq_refl))) (by decide +kernel), jdW_in (tb1 (List.mem_of_getElem? (i := 4) (by eq_refl))) (by decide +kernel), ⟨by decide +kernel, by decide +kernel, by decide +kernel⟩, by decide⟩
set_option maxRecDepth 100000 in
theorem sX3_waitingTogether : Cond.static mX3_waitingTogether.1 ∈ jdW := jdW_in (tb4 (List.mem_of_getElem? (i := 54) (by eq_refl))) (by decide +kernel)
abbrev mX3_leastWaiting : jdM := (yX3_leastWaiting, cX3_leastWaiting, 1, (some .int))
set_option maxRecDepth 100000 in
theorem kX3_leastWaiting : jdMc mX3_leastWaiting 0 := ⟨jdW_in (tb4 (List.mem_of_getElem? (i := 71) (by eq_refl))) (by decide +kernel), jdW_in (tb1 (List.mem_of_getElem? (i := 4) (by eq_refl))) (by decide +kernel), ⟨by decide +kernel, by decide +kernel, by decide +kernel⟩, by decide⟩
set_option maxRecDepth 100000 in
theorem sX3_leastWaiting : Cond.instanceMethod mX3_leastWaiting.1 ∈ jdW ∧ Cond.selects mX3_leastWaiting.1.cls mX3_leastWaiting.1 mX3_leastWaiting.1 ∈ jdW := ⟨jdW_in (tb4 (List.mem_of_getElem? (i := 69) (by eq_refl))) (by decide +kernel), jdW_in (tb4 (List.mem_of_getElem? (i := 70) (by eq_refl))) (by decide +kernel)⟩
abbrev mX3_leastCoaches : jdM := (yX3_leastCoaches, cX3_leastCoaches, 1, (some .int))
set_option maxRecDepth 100000 in
theorem kX3_leastCoaches : jdMc mX3_leastCoaches 0 := ⟨jdW_in (tb4 (List.mem_of_getElem? (i := 75) (by eq_refl))) (by decide +kernel), jdW_in (tb1 (List.mem_of_getElem? (i := 4) (by eq_refl))) (by decide +kernel), ⟨by decide +kernel, by decide +kernel, by decide +kernel⟩, by decide⟩
set_option maxRecDepth 100000 in
theorem sX3_leastCoaches : Cond.instanceMethod mX3_leastCoaches.1 ∈ jdW ∧ Cond.selects mX3_leastCoaches.1.cls mX3_leastCoaches.1 mX3_leastCoaches.1 ∈ jdW := ⟨jdW_in (tb4 (List.mem_of_getElem? (i := 73) (by eq_refl))) (by decide +kernel), jdW_in (tb4 (List.mem_of_getElem? (i := 74) (by eq_refl))) (by decide +kernel)⟩
abbrev mX4_init : jdM := (yX4_init, cX4_init, 2, none)
set_option maxRecDepth 100000 in
theorem kX4_init : jdMc mX4_init 1 := ⟨jdW_in (tb2 (List.mem_of_getElem? (i := 82) (by eq_refl))) (by decide +kernel), jdW_in (tb1 (List.mem_of_getElem? (i := 10) (by eq_refl))) (by decide +kernel), ⟨by decide +kernel, by decide +kernel, by decide +kernel⟩, by decide⟩
set_option maxRecDepth 100000 in
theorem sX4_init : mX4_init.1.name = "<init>" ∧ Cond.instanceMethod mX4_init.1 ∈ jdW ∧ mX4_init.2.2.2 = none := ⟨rfl, jdW_in (tb2 (List.mem_of_getElem? (i := 81) (by eq_refl))) (by decide +kernel), rfl⟩
abbrev mX4_kind : jdM := (yX4_kind, cX4_kind, 1, (some .int))
set_option maxRecDepth 100000 in
theorem kX4_kind : jdMc mX4_kind 0 := ⟨jdW_in (tb2 (List.mem_of_getElem? (i := 64) (by eq_refl))) (by decide +kernel), jdW_in (tb1 (List.mem_of_getElem? (i := 10) (by eq_refl))) (by decide +kernel), ⟨by decide +kernel, by decide +kernel, by decide +kernel⟩, by decide⟩
abbrev mX4_pick : jdM := (yX4_pick, cX4_pick, 4, (some .int))
set_option maxRecDepth 100000 in
theorem kX4_pick : jdMc mX4_pick 3 := ⟨jdW_in (tb2 (List.mem_of_getElem? (i := 230) (by eq_refl))) (by decide +kernel), jdW_in (tb1 (List.mem_of_getElem? (i := 10) (by eq_refl))) (by decide +kernel), ⟨by decide +kernel, by decide +kernel, by decide +kernel⟩, by decide⟩
abbrev mX5_init : jdM := (yX5_init, cX5_init, 1, none)
set_option maxRecDepth 100000 in
theorem kX5_init : jdMc mX5_init 0 := ⟨jdW_in (tb1 (List.mem_of_getElem? (i := 163) (by eq_refl))) (by decide +kernel), jdW_in (tb1 (List.mem_of_getElem? (i := 5) (by eq_refl))) (by decide +kernel), ⟨by decide +kernel, by decide +kernel, by decide +kernel⟩, by decide⟩
set_option maxRecDepth 100000 in
theorem sX5_init : mX5_init.1.name = "<init>" ∧ Cond.instanceMethod mX5_init.1 ∈ jdW ∧ mX5_init.2.2.2 = none := ⟨rfl, jdW_in (tb1 (List.mem_of_getElem? (i := 162) (by eq_refl))) (by decide +kernel), rfl⟩
abbrev mX5_isFull : jdM := (yX5_isFull, cX5_isFull, 1, (some .boolean))
set_option maxRecDepth 100000 in
theorem kX5_isFull : jdMc mX5_isFull 0 := ⟨jdW_in (tb3 (List.mem_of_getElem? (i := 54) (by eq_refl))) (by decide +kernel), jdW_in (tb1 (List.mem_of_getElem? (i := 5) (by eq_refl))) (by decide +kernel), ⟨by decide +kernel, by decide +kernel, by decide +kernel⟩, by decide⟩
set_option maxRecDepth 100000 in
theorem sX5_isFull : Cond.instanceMethod mX5_isFull.1 ∈ jdW ∧ Cond.selects mX5_isFull.1.cls mX5_isFull.1 mX5_isFull.1 ∈ jdW := ⟨jdW_in (tb3 (List.mem_of_getElem? (i := 52) (by eq_refl))) (by decide +kernel), jdW_in (tb3 (List.mem_of_getElem? (i := 53) (by eq_refl))) (by decide +kernel)⟩
abbrev mX5_append : jdM := (yX5_append, cX5_append, 2, none)
set_option maxRecDepth 100000 in
theorem kX5_append : jdMc mX5_append 1 := ⟨jdW_in (tb3 (List.mem_of_getElem? (i := 58) (by eq_refl))) (by decide +kernel), jdW_in (tb1 (List.mem_of_getElem? (i := 5) (by eq_refl))) (by decide +kernel), ⟨by decide +kernel, by decide +kernel, by decide +kernel⟩, by decide⟩
set_option maxRecDepth 100000 in
theorem sX5_append : Cond.instanceMethod mX5_append.1 ∈ jdW ∧ Cond.selects mX5_append.1.cls mX5_append.1 mX5_append.1 ∈ jdW := ⟨jdW_in (tb3 (List.mem_of_getElem? (i := 56) (by eq_refl))) (by decide +kernel), jdW_in (tb3 (List.mem_of_getElem? (i := 57) (by eq_refl))) (by decide +kernel)⟩
abbrev mX5_clear : jdM := (yX5_clear, cX5_clear, 1, none)
set_option maxRecDepth 100000 in
theorem kX5_clear : jdMc mX5_clear 0 := ⟨jdW_in (tb3 (List.mem_of_getElem? (i := 66) (by eq_refl))) (by decide +kernel), jdW_in (tb1 (List.mem_of_getElem? (i := 5) (by eq_refl))) (by decide +kernel), ⟨by decide +kernel, by decide +kernel, by decide +kernel⟩, by decide⟩
set_option maxRecDepth 100000 in
theorem sX5_clear : Cond.instanceMethod mX5_clear.1 ∈ jdW ∧ Cond.selects mX5_clear.1.cls mX5_clear.1 mX5_clear.1 ∈ jdW := ⟨jdW_in (tb3 (List.mem_of_getElem? (i := 64) (by eq_refl))) (by decide +kernel), jdW_in (tb3 (List.mem_of_getElem? (i := 65) (by eq_refl))) (by decide +kernel)⟩
abbrev mX5_read : jdM := (yX5_read, cX5_read, 3, (some .int))
set_option maxRecDepth 100000 in
theorem kX5_read : jdMc mX5_read 1 := ⟨jdW_in (tb3 (List.mem_of_getElem? (i := 79) (by eq_refl))) (by decide +kernel), jdW_in (tb1 (List.mem_of_getElem? (i := 5) (by eq_refl))) (by decide +kernel), ⟨by decide +kernel, by decide +kernel, by decide +kernel⟩, by decide⟩
set_option maxRecDepth 100000 in
theorem sX5_read : Cond.instanceMethod mX5_read.1 ∈ jdW ∧ Cond.selects mX5_read.1.cls mX5_read.1 mX5_read.1 ∈ jdW := ⟨jdW_in (tb3 (List.mem_of_getElem? (i := 77) (by eq_refl))) (by decide +kernel), jdW_in (tb3 (List.mem_of_getElem? (i := 78) (by eq_refl))) (by decide +kernel)⟩
abbrev mX5_fail : jdM := (yX5_fail, cX5_fail, 1, (some .boolean))
set_option maxRecDepth 100000 in
theorem kX5_fail : jdMc mX5_fail 0 := ⟨jdW_in (tb3 (List.mem_of_getElem? (i := 151) (by eq_refl))) (by decide +kernel), jdW_in (tb1 (List.mem_of_getElem? (i := 5) (by eq_refl))) (by decide +kernel), ⟨by decide +kernel, by decide +kernel, by decide +kernel⟩, by decide⟩
set_option maxRecDepth 100000 in
theorem sX5_fail : Cond.instanceMethod mX5_fail.1 ∈ jdW ∧ Cond.selects mX5_fail.1.cls mX5_fail.1 mX5_fail.1 ∈ jdW := ⟨jdW_in (tb3 (List.mem_of_getElem? (i := 150) (by eq_refl))) (by decide +kernel), jdW_in (List.mem_of_getElem? (i := 14) (by eq_refl)) (by decide +kernel)⟩
abbrev mX5_advance : jdM := (yX5_advance, cX5_advance, 1, none)
set_option maxRecDepth 100000 in
theorem kX5_advance : jdMc mX5_advance 0 := ⟨jdW_in (tb3 (List.mem_of_getElem? (i := 83) (by eq_refl))) (by decide +kernel), jdW_in (tb1 (List.mem_of_getElem? (i := 5) (by eq_refl))) (by decide +kernel), ⟨by decide +kernel, by decide +kernel, by decide +kernel⟩, by decide⟩
set_option maxRecDepth 100000 in
theorem sX5_advance : Cond.instanceMethod mX5_advance.1 ∈ jdW ∧ Cond.selects mX5_advance.1.cls mX5_advance.1 mX5_advance.1 ∈ jdW := ⟨jdW_in (tb3 (List.mem_of_getElem? (i := 82) (by eq_refl))) (by decide +kernel), jdW_in (List.mem_of_getElem? (i := 10) (by eq_refl)) (by decide +kernel)⟩
abbrev mX5_tokenOf : jdM := (yX5_tokenOf, cX5_tokenOf, 1, (some .int))
set_option maxRecDepth 100000 in
theorem kX5_tokenOf : jdMc mX5_tokenOf 1 := ⟨jdW_in (tb3 (List.mem_of_getElem? (i := 86) (by eq_refl))) (by decide +kernel), jdW_in (tb1 (List.mem_of_getElem? (i := 5) (by eq_refl))) (by decide +kernel), ⟨by decide +kernel, by decide +kernel, by decide +kernel⟩, by decide⟩
set_option maxRecDepth 100000 in
theorem sX5_tokenOf : Cond.static mX5_tokenOf.1 ∈ jdW := jdW_in (tb3 (List.mem_of_getElem? (i := 85) (by eq_refl))) (by decide +kernel)
abbrev mX5_isWord : jdM := (yX5_isWord, cX5_isWord, 3, (some .boolean))
set_option maxRecDepth 100000 in
theorem kX5_isWord : jdMc mX5_isWord 1 := ⟨jdW_in (tb3 (List.mem_of_getElem? (i := 95) (by eq_refl))) (by decide +kernel), jdW_in (tb1 (List.mem_of_getElem? (i := 5) (by eq_refl))) (by decide +kernel), ⟨by decide +kernel, by decide +kernel, by decide +kernel⟩, by decide⟩
set_option maxRecDepth 100000 in
theorem sX5_isWord : Cond.instanceMethod mX5_isWord.1 ∈ jdW ∧ Cond.selects mX5_isWord.1.cls mX5_isWord.1 mX5_isWord.1 ∈ jdW := ⟨jdW_in (tb3 (List.mem_of_getElem? (i := 94) (by eq_refl))) (by decide +kernel), jdW_in (List.mem_of_getElem? (i := 12) (by eq_refl)) (by decide +kernel)⟩
abbrev mX5_readNumber : jdM := (yX5_readNumber, cX5_readNumber, 6, (some .int))
set_option maxRecDepth 100000 in
theorem kX5_readNumber : jdMc mX5_readNumber 3 := ⟨jdW_in (tb3 (List.mem_of_getElem? (i := 155) (by eq_refl))) (by decide +kernel), jdW_in (tb1 (List.mem_of_getElem? (i := 5) (by eq_refl))) (by decide +kernel), ⟨by decide +kernel, by decide +kernel, by decide +kernel⟩, by decide⟩
set_option maxRecDepth 100000 in
theorem sX5_readNumber : Cond.instanceMethod mX5_readNumber.1 ∈ jdW ∧ Cond.selects mX5_readNumber.1.cls mX5_readNumber.1 mX5_readNumber.1 ∈ jdW := ⟨jdW_in (tb3 (List.mem_of_getElem? (i := 154) (by eq_refl))) (by decide +kernel), jdW_in (List.mem_of_getElem? (i := 15) (by eq_refl)) (by decide +kernel)⟩
abbrev mX5_readStatement : jdM := (yX5_readStatement, cX5_readStatement, 2, (some .boolean))
set_option maxRecDepth 100000 in
theorem kX5_readStatement : jdMc mX5_readStatement 1 := ⟨jdW_in (tb3 (List.mem_of_getElem? (i := 90) (by eq_refl))) (by decide +kernel), jdW_in (tb1 (List.mem_of_getElem? (i := 5) (by eq_refl))) (by decide +kernel), ⟨by decide +kernel, by decide +kernel, by decide +kernel⟩, by decide⟩
set_option maxRecDepth 100000 in
theorem sX5_readStatement : Cond.instanceMethod mX5_readStatement.1 ∈ jdW ∧ Cond.selects mX5_readStatement.1.cls mX5_readStatement.1 mX5_readStatement.1 ∈ jdW := ⟨jdW_in (tb3 (List.mem_of_getElem? (i := 89) (by eq_refl))) (by decide +kernel), jdW_in (List.mem_of_getElem? (i := 11) (by eq_refl)) (by decide +kernel)⟩
abbrev mX5_readPerson : jdM := (yX5_readPerson, cX5_readPerson, 4, (some .boolean))
set_option maxRecDepth 100000 in
theorem kX5_readPerson : jdMc mX5_readPerson 1 := ⟨jdW_in (tb3 (List.mem_of_getElem? (i := 147) (by eq_refl))) (by decide +kernel), jdW_in (tb1 (List.mem_of_getElem? (i := 5) (by eq_refl))) (by decide +kernel), ⟨by decide +kernel, by decide +kernel, by decide +kernel⟩, by decide⟩
set_option maxRecDepth 100000 in
theorem sX5_readPerson : Cond.instanceMethod mX5_readPerson.1 ∈ jdW ∧ Cond.selects mX5_readPerson.1.cls mX5_readPerson.1 mX5_readPerson.1 ∈ jdW := ⟨jdW_in (tb3 (List.mem_of_getElem? (i := 146) (by eq_refl))) (by decide +kernel), jdW_in (List.mem_of_getElem? (i := 13) (by eq_refl)) (by decide +kernel)⟩
abbrev mX5_readPair : jdM := (yX5_readPair, cX5_readPair, 6, (some .boolean))
set_option maxRecDepth 100000 in
theorem kX5_readPair : jdMc mX5_readPair 2 := ⟨jdW_in (tb3 (List.mem_of_getElem? (i := 161) (by eq_refl))) (by decide +kernel), jdW_in (tb1 (List.mem_of_getElem? (i := 5) (by eq_refl))) (by decide +kernel), ⟨by decide +kernel, by decide +kernel, by decide +kernel⟩, by decide⟩
set_option maxRecDepth 100000 in
theorem sX5_readPair : Cond.instanceMethod mX5_readPair.1 ∈ jdW ∧ Cond.selects mX5_readPair.1.cls mX5_readPair.1 mX5_readPair.1 ∈ jdW := ⟨jdW_in (tb3 (List.mem_of_getElem? (i := 160) (by eq_refl))) (by decide +kernel), jdW_in (List.mem_of_getElem? (i := 16) (by eq_refl)) (by decide +kernel)⟩
abbrev mX5_readSeats : jdM := (yX5_readSeats, cX5_readSeats, 3, (some .boolean))
set_option maxRecDepth 100000 in
theorem kX5_readSeats : jdMc mX5_readSeats 1 := ⟨jdW_in (tb3 (List.mem_of_getElem? (i := 169) (by eq_refl))) (by decide +kernel), jdW_in (tb1 (List.mem_of_getElem? (i := 5) (by eq_refl))) (by decide +kernel), ⟨by decide +kernel, by decide +kernel, by decide +kernel⟩, by decide⟩
set_option maxRecDepth 100000 in
theorem sX5_readSeats : Cond.instanceMethod mX5_readSeats.1 ∈ jdW ∧ Cond.selects mX5_readSeats.1.cls mX5_readSeats.1 mX5_readSeats.1 ∈ jdW := ⟨jdW_in (tb3 (List.mem_of_getElem? (i := 168) (by eq_refl))) (by decide +kernel), jdW_in (List.mem_of_getElem? (i := 17) (by eq_refl)) (by decide +kernel)⟩
abbrev mX5_readMemory : jdM := (yX5_readMemory, cX5_readMemory, 3, (some .boolean))
set_option maxRecDepth 100000 in
theorem kX5_readMemory : jdMc mX5_readMemory 1 := ⟨jdW_in (tb3 (List.mem_of_getElem? (i := 174) (by eq_refl))) (by decide +kernel), jdW_in (tb1 (List.mem_of_getElem? (i := 5) (by eq_refl))) (by decide +kernel), ⟨by decide +kernel, by decide +kernel, by decide +kernel⟩, by decide⟩
set_option maxRecDepth 100000 in
theorem sX5_readMemory : Cond.instanceMethod mX5_readMemory.1 ∈ jdW ∧ Cond.selects mX5_readMemory.1.cls mX5_readMemory.1 mX5_readMemory.1 ∈ jdW := ⟨jdW_in (tb3 (List.mem_of_getElem? (i := 173) (by eq_refl))) (by decide +kernel), jdW_in (List.mem_of_getElem? (i := 18) (by eq_refl)) (by decide +kernel)⟩
abbrev mX5_readMet : jdM := (yX5_readMet, cX5_readMet, 5, (some .boolean))
set_option maxRecDepth 100000 in
theorem kX5_readMet : jdMc mX5_readMet 1 := ⟨jdW_in (tb3 (List.mem_of_getElem? (i := 179) (by eq_refl))) (by decide +kernel), jdW_in (tb1 (List.mem_of_getElem? (i := 5) (by eq_refl))) (by decide +kernel), ⟨by decide +kernel, by decide +kernel, by decide +kernel⟩, by decide⟩
set_option maxRecDepth 100000 in
theorem sX5_readMet : Cond.instanceMethod mX5_readMet.1 ∈ jdW ∧ Cond.selects mX5_readMet.1.cls mX5_readMet.1 mX5_readMet.1 ∈ jdW := ⟨jdW_in (tb3 (List.mem_of_getElem? (i := 178) (by eq_refl))) (by decide +kernel), jdW_in (List.mem_of_getElem? (i := 19) (by eq_refl)) (by decide +kernel)⟩
abbrev mX6_init : jdM := (yX6_init, cX6_init, 1, none)
set_option maxRecDepth 100000 in
theorem kX6_init : jdMc mX6_init 0 := ⟨jdW_in (tb1 (List.mem_of_getElem? (i := 191) (by eq_refl))) (by decide +kernel), jdW_in (tb1 (List.mem_of_getElem? (i := 6) (by eq_refl))) (by decide +kernel), ⟨by decide +kernel, by decide +kernel, by decide +kernel⟩, by decide⟩
set_option maxRecDepth 100000 in
theorem sX6_init : mX6_init.1.name = "<init>" ∧ Cond.instanceMethod mX6_init.1 ∈ jdW ∧ mX6_init.2.2.2 = none := ⟨rfl, jdW_in (tb1 (List.mem_of_getElem? (i := 190) (by eq_refl))) (by decide +kernel), rfl⟩
abbrev mX6_isRow : jdM := (yX6_isRow, cX6_isRow, 1, (some .boolean))
set_option maxRecDepth 100000 in
theorem kX6_isRow : jdMc mX6_isRow 0 := ⟨jdW_in (tb2 (List.mem_of_getElem? (i := 25) (by eq_refl))) (by decide +kernel), jdW_in (tb1 (List.mem_of_getElem? (i := 6) (by eq_refl))) (by decide +kernel), ⟨by decide +kernel, by decide +kernel, by decide +kernel⟩, by decide⟩
set_option maxRecDepth 100000 in
theorem sX6_isRow : Cond.instanceMethod mX6_isRow.1 ∈ jdW ∧ Cond.selects mX6_isRow.1.cls mX6_isRow.1 mX6_isRow.1 ∈ jdW := ⟨jdW_in (tb2 (List.mem_of_getElem? (i := 23) (by eq_refl))) (by decide +kernel), jdW_in (tb2 (List.mem_of_getElem? (i := 24) (by eq_refl))) (by decide +kernel)⟩
abbrev mX6_takeRow : jdM := (yX6_takeRow, cX6_takeRow, 4, none)
set_option maxRecDepth 100000 in
theorem kX6_takeRow : jdMc mX6_takeRow 2 := ⟨jdW_in (tb2 (List.mem_of_getElem? (i := 13) (by eq_refl))) (by decide +kernel), jdW_in (tb1 (List.mem_of_getElem? (i := 6) (by eq_refl))) (by decide +kernel), ⟨by decide +kernel, by decide +kernel, by decide +kernel⟩, by decide⟩
set_option maxRecDepth 100000 in
theorem sX6_takeRow : Cond.instanceMethod mX6_takeRow.1 ∈ jdW ∧ Cond.selects mX6_takeRow.1.cls mX6_takeRow.1 mX6_takeRow.1 ∈ jdW := ⟨jdW_in (tb2 (List.mem_of_getElem? (i := 11) (by eq_refl))) (by decide +kernel), jdW_in (tb2 (List.mem_of_getElem? (i := 12) (by eq_refl))) (by decide +kernel)⟩
abbrev mX6_takeMan : jdM := (yX6_takeMan, cX6_takeMan, 2, none)
set_option maxRecDepth 100000 in
theorem kX6_takeMan : jdMc mX6_takeMan 1 := ⟨jdW_in (tb2 (List.mem_of_getElem? (i := 126) (by eq_refl))) (by decide +kernel), jdW_in (tb1 (List.mem_of_getElem? (i := 6) (by eq_refl))) (by decide +kernel), ⟨by decide +kernel, by decide +kernel, by decide +kernel⟩, by decide⟩
set_option maxRecDepth 100000 in
theorem sX6_takeMan : Cond.instanceMethod mX6_takeMan.1 ∈ jdW ∧ Cond.selects mX6_takeMan.1.cls mX6_takeMan.1 mX6_takeMan.1 ∈ jdW := ⟨jdW_in (tb2 (List.mem_of_getElem? (i := 124) (by eq_refl))) (by decide +kernel), jdW_in (tb2 (List.mem_of_getElem? (i := 125) (by eq_refl))) (by decide +kernel)⟩
abbrev mX6_put : jdM := (yX6_put, cX6_put, 4, none)
set_option maxRecDepth 100000 in
theorem kX6_put : jdMc mX6_put 2 := ⟨jdW_in (tb2 (List.mem_of_getElem? (i := 33) (by eq_refl))) (by decide +kernel), jdW_in (tb1 (List.mem_of_getElem? (i := 6) (by eq_refl))) (by decide +kernel), ⟨by decide +kernel, by decide +kernel, by decide +kernel⟩, by decide⟩
set_option maxRecDepth 100000 in
theorem sX6_put : Cond.instanceMethod mX6_put.1 ∈ jdW ∧ Cond.selects mX6_put.1.cls mX6_put.1 mX6_put.1 ∈ jdW := ⟨jdW_in (tb2 (List.mem_of_getElem? (i := 31) (by eq_refl))) (by decide +kernel), jdW_in (tb2 (List.mem_of_getElem? (i := 32) (by eq_refl))) (by decide +kernel)⟩
abbrev mX6_cut : jdM := (yX6_cut, cX6_cut, 3, (some .long))
set_option maxRecDepth 100000 in
theorem kX6_cut : jdMc mX6_cut 1 := ⟨jdW_in (tb2 (List.mem_of_getElem? (i := 37) (by eq_refl))) (by decide +kernel), jdW_in (tb1 (List.mem_of_getElem? (i := 6) (by eq_refl))) (by decide +kernel), ⟨by decide +kernel, by decide +kernel, by decide +kernel⟩, by decide⟩
set_option maxRecDepth 100000 in
theorem sX6_cut : Cond.instanceMethod mX6_cut.1 ∈ jdW ∧ Cond.selects mX6_cut.1.cls mX6_cut.1 mX6_cut.1 ∈ jdW := ⟨jdW_in (tb2 (List.mem_of_getElem? (i := 36) (by eq_refl))) (by decide +kernel), jdW_in (List.mem_of_getElem? (i := 3) (by eq_refl)) (by decide +kernel)⟩
abbrev mX7_init : jdM := (yX7_init, cX7_init, 2, none)
set_option maxRecDepth 100000 in
theorem kX7_init : jdMc mX7_init 1 := ⟨jdW_in (tb2 (List.mem_of_getElem? (i := 111) (by eq_refl))) (by decide +kernel), jdW_in (tb1 (List.mem_of_getElem? (i := 13) (by eq_refl))) (by decide +kernel), ⟨by decide +kernel, by decide +kernel, by decide +kernel⟩, by decide⟩
set_option maxRecDepth 100000 in
theorem sX7_init : mX7_init.1.name = "<init>" ∧ Cond.instanceMethod mX7_init.1 ∈ jdW ∧ mX7_init.2.2.2 = none := ⟨rfl, jdW_in (tb2 (List.mem_of_getElem? (i := 110) (by eq_refl))) (by decide +kernel), rfl⟩
abbrev mX7_kind : jdM := (yX7_kind, cX7_kind, 1, (some .int))
set_option maxRecDepth 100000 in
theorem kX7_kind : jdMc mX7_kind 0 := ⟨jdW_in (tb2 (List.mem_of_getElem? (i := 67) (by eq_refl))) (by decide +kernel), jdW_in (tb1 (List.mem_of_getElem? (i := 13) (by eq_refl))) (by decide +kernel), ⟨by decide +kernel, by decide +kernel, by decide +kernel⟩, by decide⟩
abbrev mX7_worth : jdM := (yX7_worth, cX7_worth, 4, (some .int))
set_option maxRecDepth 100000 in
theorem kX7_worth : jdMc mX7_worth 3 := ⟨jdW_in (tb2 (List.mem_of_getElem? (i := 211) (by eq_refl))) (by decide +kernel), jdW_in (tb1 (List.mem_of_getElem? (i := 13) (by eq_refl))) (by decide +kernel), ⟨by decide +kernel, by decide +kernel, by decide +kernel⟩, by decide⟩
abbrev mX8_init : jdM := (yX8_init, cX8_init, 1, none)
set_option maxRecDepth 100000 in
theorem kX8_init : jdMc mX8_init 0 := ⟨jdW_in (tb1 (List.mem_of_getElem? (i := 89) (by eq_refl))) (by decide +kernel), jdW_in (tb1 (List.mem_of_getElem? (i := 3) (by eq_refl))) (by decide +kernel), ⟨by decide +kernel, by decide +kernel, by decide +kernel⟩, by decide⟩
set_option maxRecDepth 100000 in
theorem sX8_init : mX8_init.1.name = "<init>" ∧ Cond.instanceMethod mX8_init.1 ∈ jdW ∧ mX8_init.2.2.2 = none := ⟨rfl, jdW_in (tb1 (List.mem_of_getElem? (i := 88) (by eq_refl))) (by decide +kernel), rfl⟩
abbrev mX8_load : jdM := (yX8_load, cX8_load, 3, none)
set_option maxRecDepth 100000 in
theorem kX8_load : jdMc mX8_load 1 := ⟨jdW_in (tb2 (List.mem_of_getElem? (i := 163) (by eq_refl))) (by decide +kernel), jdW_in (tb1 (List.mem_of_getElem? (i := 3) (by eq_refl))) (by decide +kernel), ⟨by decide +kernel, by decide +kernel, by decide +kernel⟩, by decide⟩
set_option maxRecDepth 100000 in
theorem sX8_load : Cond.instanceMethod mX8_load.1 ∈ jdW ∧ Cond.selects mX8_load.1.cls mX8_load.1 mX8_load.1 ∈ jdW := ⟨jdW_in (tb2 (List.mem_of_getElem? (i := 161) (by eq_refl))) (by decide +kernel), jdW_in (tb2 (List.mem_of_getElem? (i := 162) (by eq_refl))) (by decide +kernel)⟩
abbrev mX8_addStranger : jdM := (yX8_addStranger, cX8_addStranger, 2, none)
set_option maxRecDepth 100000 in
theorem kX8_addStranger : jdMc mX8_addStranger 0 := ⟨jdW_in (tb4 (List.mem_of_getElem? (i := 133) (by eq_refl))) (by decide +kernel), jdW_in (tb1 (List.mem_of_getElem? (i := 3) (by eq_refl))) (by decide +kernel), ⟨by decide +kernel, by decide +kernel, by decide +kernel⟩, by decide⟩
set_option maxRecDepth 100000 in
theorem sX8_addStranger : Cond.instanceMethod mX8_addStranger.1 ∈ jdW ∧ Cond.selects mX8_addStranger.1.cls mX8_addStranger.1 mX8_addStranger.1 ∈ jdW := ⟨jdW_in (tb4 (List.mem_of_getElem? (i := 131) (by eq_refl))) (by decide +kernel), jdW_in (tb4 (List.mem_of_getElem? (i := 132) (by eq_refl))) (by decide +kernel)⟩
abbrev mX8_acquaint : jdM := (yX8_acquaint, cX8_acquaint, 3, none)
set_option maxRecDepth 100000 in
theorem kX8_acquaint : jdMc mX8_acquaint 1 := ⟨jdW_in (tb4 (List.mem_of_getElem? (i := 88) (by eq_refl))) (by decide +kernel), jdW_in (tb1 (List.mem_of_getElem? (i := 3) (by eq_refl))) (by decide +kernel), ⟨by decide +kernel, by decide +kernel, by decide +kernel⟩, by decide⟩
set_option maxRecDepth 100000 in
theorem sX8_acquaint : Cond.instanceMethod mX8_acquaint.1 ∈ jdW ∧ Cond.selects mX8_acquaint.1.cls mX8_acquaint.1 mX8_acquaint.1 ∈ jdW := ⟨jdW_in (tb4 (List.mem_of_getElem? (i := 86) (by eq_refl))) (by decide +kernel), jdW_in (tb4 (List.mem_of_getElem? (i := 87) (by eq_refl))) (by decide +kernel)⟩
abbrev mX8_everybody : jdM := (yX8_everybody, cX8_everybody, 1, (some .int))
set_option maxRecDepth 100000 in
theorem kX8_everybody : jdMc mX8_everybody 0 := ⟨jdW_in (tb2 (List.mem_of_getElem? (i := 179) (by eq_refl))) (by decide +kernel), jdW_in (tb1 (List.mem_of_getElem? (i := 3) (by eq_refl))) (by decide +kernel), ⟨by decide +kernel, by decide +kernel, by decide +kernel⟩, by decide⟩
set_option maxRecDepth 100000 in
theorem sX8_everybody : Cond.instanceMethod mX8_everybody.1 ∈ jdW ∧ Cond.selects mX8_everybody.1.cls mX8_everybody.1 mX8_everybody.1 ∈ jdW := ⟨jdW_in (tb2 (List.mem_of_getElem? (i := 178) (by eq_refl))) (by decide +kernel), jdW_in (List.mem_of_getElem? (i := 7) (by eq_refl)) (by decide +kernel)⟩
abbrev mX8_list : jdM := (yX8_list, cX8_list, 1, none)
set_option maxRecDepth 100000 in
theorem kX8_list : jdMc mX8_list 0 := ⟨jdW_in (tb2 (List.mem_of_getElem? (i := 175) (by eq_refl))) (by decide +kernel), jdW_in (tb1 (List.mem_of_getElem? (i := 3) (by eq_refl))) (by decide +kernel), ⟨by decide +kernel, by decide +kernel, by decide +kernel⟩, by decide⟩
set_option maxRecDepth 100000 in
theorem sX8_list : Cond.instanceMethod mX8_list.1 ∈ jdW ∧ Cond.selects mX8_list.1.cls mX8_list.1 mX8_list.1 ∈ jdW := ⟨jdW_in (tb2 (List.mem_of_getElem? (i := 174) (by eq_refl))) (by decide +kernel), jdW_in (List.mem_of_getElem? (i := 6) (by eq_refl)) (by decide +kernel)⟩
abbrev mX8_gather : jdM := (yX8_gather, cX8_gather, 6, none)
set_option maxRecDepth 100000 in
theorem kX8_gather : jdMc mX8_gather 3 := ⟨jdW_in (tb2 (List.mem_of_getElem? (i := 183) (by eq_refl))) (by decide +kernel), jdW_in (tb1 (List.mem_of_getElem? (i := 3) (by eq_refl))) (by decide +kernel), ⟨by decide +kernel, by decide +kernel, by decide +kernel⟩, by decide⟩
set_option maxRecDepth 100000 in
theorem sX8_gather : Cond.instanceMethod mX8_gather.1 ∈ jdW ∧ Cond.selects mX8_gather.1.cls mX8_gather.1 mX8_gather.1 ∈ jdW := ⟨jdW_in (tb2 (List.mem_of_getElem? (i := 182) (by eq_refl))) (by decide +kernel), jdW_in (List.mem_of_getElem? (i := 8) (by eq_refl)) (by decide +kernel)⟩
abbrev mX8_isOne : jdM := (yX8_isOne, cX8_isOne, 3, (some .boolean))
set_option maxRecDepth 100000 in
theorem kX8_isOne : jdMc mX8_isOne 1 := ⟨jdW_in (tb3 (List.mem_of_getElem? (i := 207) (by eq_refl))) (by decide +kernel), jdW_in (tb1 (List.mem_of_getElem? (i := 3) (by eq_refl))) (by decide +kernel), ⟨by decide +kernel, by decide +kernel, by decide +kernel⟩, by decide⟩
set_option maxRecDepth 100000 in
theorem sX8_isOne : Cond.instanceMethod mX8_isOne.1 ∈ jdW ∧ Cond.selects mX8_isOne.1.cls mX8_isOne.1 mX8_isOne.1 ∈ jdW := ⟨jdW_in (tb3 (List.mem_of_getElem? (i := 205) (by eq_refl))) (by decide +kernel), jdW_in (tb3 (List.mem_of_getElem? (i := 206) (by eq_refl))) (by decide +kernel)⟩
abbrev mX8_countIn : jdM := (yX8_countIn, cX8_countIn, 4, (some .int))
set_option maxRecDepth 100000 in
theorem kX8_countIn : jdMc mX8_countIn 1 := ⟨jdW_in (tb3 (List.mem_of_getElem? (i := 215) (by eq_refl))) (by decide +kernel), jdW_in (tb1 (List.mem_of_getElem? (i := 3) (by eq_refl))) (by decide +kernel), ⟨by decide +kernel, by decide +kernel, by decide +kernel⟩, by decide⟩
set_option maxRecDepth 100000 in
theorem sX8_countIn : Cond.instanceMethod mX8_countIn.1 ∈ jdW ∧ Cond.selects mX8_countIn.1.cls mX8_countIn.1 mX8_countIn.1 ∈ jdW := ⟨jdW_in (tb3 (List.mem_of_getElem? (i := 213) (by eq_refl))) (by decide +kernel), jdW_in (tb3 (List.mem_of_getElem? (i := 214) (by eq_refl))) (by decide +kernel)⟩
abbrev mX8_countWith : jdM := (yX8_countWith, cX8_countWith, 4, (some .int))
set_option maxRecDepth 100000 in
theorem kX8_countWith : jdMc mX8_countWith 1 := ⟨jdW_in (tb4 (List.mem_of_getElem? (i := 145) (by eq_refl))) (by decide +kernel), jdW_in (tb1 (List.mem_of_getElem? (i := 3) (by eq_refl))) (by decide +kernel), ⟨by decide +kernel, by decide +kernel, by decide +kernel⟩, by decide⟩
set_option maxRecDepth 100000 in
theorem sX8_countWith : Cond.instanceMethod mX8_countWith.1 ∈ jdW ∧ Cond.selects mX8_countWith.1.cls mX8_countWith.1 mX8_countWith.1 ∈ jdW := ⟨jdW_in (tb4 (List.mem_of_getElem? (i := 143) (by eq_refl))) (by decide +kernel), jdW_in (tb4 (List.mem_of_getElem? (i := 144) (by eq_refl))) (by decide +kernel)⟩
abbrev mX8_firstIn : jdM := (yX8_firstIn, cX8_firstIn, 3, (some .int))
set_option maxRecDepth 100000 in
theorem kX8_firstIn : jdMc mX8_firstIn 1 := ⟨jdW_in (tb2 (List.mem_of_getElem? (i := 234) (by eq_refl))) (by decide +kernel), jdW_in (tb1 (List.mem_of_getElem? (i := 3) (by eq_refl))) (by decide +kernel), ⟨by decide +kernel, by decide +kernel, by decide +kernel⟩, by decide⟩
set_option maxRecDepth 100000 in
theorem sX8_firstIn : Cond.instanceMethod mX8_firstIn.1 ∈ jdW ∧ Cond.selects mX8_firstIn.1.cls mX8_firstIn.1 mX8_firstIn.1 ∈ jdW := ⟨jdW_in (tb2 (List.mem_of_getElem? (i := 232) (by eq_refl))) (by decide +kernel), jdW_in (tb2 (List.mem_of_getElem? (i := 233) (by eq_refl))) (by decide +kernel)⟩
abbrev mX8_mostFrom : jdM := (yX8_mostFrom, cX8_mostFrom, 2, (some .int))
set_option maxRecDepth 100000 in
theorem kX8_mostFrom : jdMc mX8_mostFrom 1 := ⟨jdW_in (tb2 (List.mem_of_getElem? (i := 204) (by eq_refl))) (by decide +kernel), jdW_in (tb1 (List.mem_of_getElem? (i := 3) (by eq_refl))) (by decide +kernel), ⟨by decide +kernel, by decide +kernel, by decide +kernel⟩, by decide⟩
set_option maxRecDepth 100000 in
theorem sX8_mostFrom : Cond.instanceMethod mX8_mostFrom.1 ∈ jdW ∧ Cond.selects mX8_mostFrom.1.cls mX8_mostFrom.1 mX8_mostFrom.1 ∈ jdW := ⟨jdW_in (tb2 (List.mem_of_getElem? (i := 202) (by eq_refl))) (by decide +kernel), jdW_in (tb2 (List.mem_of_getElem? (i := 203) (by eq_refl))) (by decide +kernel)⟩
abbrev mX8_countMost : jdM := (yX8_countMost, cX8_countMost, 6, none)
set_option maxRecDepth 100000 in
theorem kX8_countMost : jdMc mX8_countMost 0 := ⟨jdW_in (tb2 (List.mem_of_getElem? (i := 208) (by eq_refl))) (by decide +kernel), jdW_in (tb1 (List.mem_of_getElem? (i := 3) (by eq_refl))) (by decide +kernel), ⟨by decide +kernel, by decide +kernel, by decide +kernel⟩, by decide⟩
set_option maxRecDepth 100000 in
theorem sX8_countMost : Cond.instanceMethod mX8_countMost.1 ∈ jdW ∧ Cond.selects mX8_countMost.1.cls mX8_countMost.1 mX8_countMost.1 ∈ jdW := ⟨jdW_in (tb2 (List.mem_of_getElem? (i := 207) (by eq_refl))) (by decide +kernel), jdW_in (List.mem_of_getElem? (i := 9) (by eq_refl)) (by decide +kernel)⟩
abbrev mX8_firstOfMost : jdM := (yX8_firstOfMost, cX8_firstOfMost, 5, (some .int))
set_option maxRecDepth 100000 in
theorem kX8_firstOfMost : jdMc mX8_firstOfMost 1 := ⟨jdW_in (tb3 (List.mem_of_getElem? (i := 237) (by eq_refl))) (by decide +kernel), jdW_in (tb1 (List.mem_of_getElem? (i := 3) (by eq_refl))) (by decide +kernel), ⟨by decide +kernel, by decide +kernel, by decide +kernel⟩, by decide⟩
set_option maxRecDepth 100000 in
theorem sX8_firstOfMost : Cond.instanceMethod mX8_firstOfMost.1 ∈ jdW ∧ Cond.selects mX8_firstOfMost.1.cls mX8_firstOfMost.1 mX8_firstOfMost.1 ∈ jdW := ⟨jdW_in (tb3 (List.mem_of_getElem? (i := 235) (by eq_refl))) (by decide +kernel), jdW_in (tb3 (List.mem_of_getElem? (i := 236) (by eq_refl))) (by decide +kernel)⟩
abbrev mX8_mostRow : jdM := (yX8_mostRow, cX8_mostRow, 5, (some .int))
set_option maxRecDepth 100000 in
theorem kX8_mostRow : jdMc mX8_mostRow 2 := ⟨jdW_in (tb3 (List.mem_of_getElem? (i := 233) (by eq_refl))) (by decide +kernel), jdW_in (tb1 (List.mem_of_getElem? (i := 3) (by eq_refl))) (by decide +kernel), ⟨by decide +kernel, by decide +kernel, by decide +kernel⟩, by decide⟩
set_option maxRecDepth 100000 in
theorem sX8_mostRow : Cond.instanceMethod mX8_mostRow.1 ∈ jdW ∧ Cond.selects mX8_mostRow.1.cls mX8_mostRow.1 mX8_mostRow.1 ∈ jdW := ⟨jdW_in (tb3 (List.mem_of_getElem? (i := 231) (by eq_refl))) (by decide +kernel), jdW_in (tb3 (List.mem_of_getElem? (i := 232) (by eq_refl))) (by decide +kernel)⟩
abbrev mX8_costTogether : jdM := (yX8_costTogether, cX8_costTogether, 4, (some .int))
set_option maxRecDepth 100000 in
theorem kX8_costTogether : jdMc mX8_costTogether 1 := ⟨jdW_in (tb2 (List.mem_of_getElem? (i := 226) (by eq_refl))) (by decide +kernel), jdW_in (tb1 (List.mem_of_getElem? (i := 3) (by eq_refl))) (by decide +kernel), ⟨by decide +kernel, by decide +kernel, by decide +kernel⟩, by decide⟩
set_option maxRecDepth 100000 in
theorem sX8_costTogether : Cond.instanceMethod mX8_costTogether.1 ∈ jdW ∧ Cond.selects mX8_costTogether.1.cls mX8_costTogether.1 mX8_costTogether.1 ∈ jdW := ⟨jdW_in (tb2 (List.mem_of_getElem? (i := 224) (by eq_refl))) (by decide +kernel), jdW_in (tb2 (List.mem_of_getElem? (i := 225) (by eq_refl))) (by decide +kernel)⟩
abbrev mX8_strangersTogether : jdM := (yX8_strangersTogether, cX8_strangersTogether, 4, (some .int))
set_option maxRecDepth 100000 in
theorem kX8_strangersTogether : jdMc mX8_strangersTogether 1 := ⟨jdW_in (tb2 (List.mem_of_getElem? (i := 215) (by eq_refl))) (by decide +kernel), jdW_in (tb1 (List.mem_of_getElem? (i := 3) (by eq_refl))) (by decide +kernel), ⟨by decide +kernel, by decide +kernel, by decide +kernel⟩, by decide⟩
set_option maxRecDepth 100000 in
theorem sX8_strangersTogether : Cond.instanceMethod mX8_strangersTogether.1 ∈ jdW ∧ Cond.selects mX8_strangersTogether.1.cls mX8_strangersTogether.1 mX8_strangersTogether.1 ∈ jdW := ⟨jdW_in (tb2 (List.mem_of_getElem? (i := 213) (by eq_refl))) (by decide +kernel), jdW_in (tb2 (List.mem_of_getElem? (i := 214) (by eq_refl))) (by decide +kernel)⟩
abbrev mX8_closest : jdM := (yX8_closest, cX8_closest, 6, (some .int))
set_option maxRecDepth 100000 in
theorem kX8_closest : jdMc mX8_closest 0 := ⟨jdW_in (tb4 (List.mem_of_getElem? (i := 153) (by eq_refl))) (by decide +kernel), jdW_in (tb1 (List.mem_of_getElem? (i := 3) (by eq_refl))) (by decide +kernel), ⟨by decide +kernel, by decide +kernel, by decide +kernel⟩, by decide⟩
set_option maxRecDepth 100000 in
theorem sX8_closest : Cond.instanceMethod mX8_closest.1 ∈ jdW ∧ Cond.selects mX8_closest.1.cls mX8_closest.1 mX8_closest.1 ∈ jdW := ⟨jdW_in (tb4 (List.mem_of_getElem? (i := 151) (by eq_refl))) (by decide +kernel), jdW_in (tb4 (List.mem_of_getElem? (i := 152) (by eq_refl))) (by decide +kernel)⟩
abbrev mX8_pairBit : jdM := (yX8_pairBit, cX8_pairBit, 2, (some .int))
set_option maxRecDepth 100000 in
theorem kX8_pairBit : jdMc mX8_pairBit 2 := ⟨jdW_in (tb4 (List.mem_of_getElem? (i := 107) (by eq_refl))) (by decide +kernel), jdW_in (tb1 (List.mem_of_getElem? (i := 3) (by eq_refl))) (by decide +kernel), ⟨by decide +kernel, by decide +kernel, by decide +kernel⟩, by decide⟩
set_option maxRecDepth 100000 in
theorem sX8_pairBit : Cond.static mX8_pairBit.1 ∈ jdW := jdW_in (tb4 (List.mem_of_getElem? (i := 106) (by eq_refl))) (by decide +kernel)
abbrev mX8_pairsIn : jdM := (yX8_pairsIn, cX8_pairsIn, 5, (some .int))
set_option maxRecDepth 100000 in
theorem kX8_pairsIn : jdMc mX8_pairsIn 1 := ⟨jdW_in (tb4 (List.mem_of_getElem? (i := 104) (by eq_refl))) (by decide +kernel), jdW_in (tb1 (List.mem_of_getElem? (i := 3) (by eq_refl))) (by decide +kernel), ⟨by decide +kernel, by decide +kernel, by decide +kernel⟩, by decide⟩
set_option maxRecDepth 100000 in
theorem sX8_pairsIn : Cond.instanceMethod mX8_pairsIn.1 ∈ jdW ∧ Cond.selects mX8_pairsIn.1.cls mX8_pairsIn.1 mX8_pairsIn.1 ∈ jdW := ⟨jdW_in (tb4 (List.mem_of_getElem? (i := 103) (by eq_refl))) (by decide +kernel), jdW_in (List.mem_of_getElem? (i := 24) (by eq_refl)) (by decide +kernel)⟩
abbrev mX8_listPairs : jdM := (yX8_listPairs, cX8_listPairs, 4, (some .int))
set_option maxRecDepth 100000 in
theorem kX8_listPairs : jdMc mX8_listPairs 1 := ⟨jdW_in (tb4 (List.mem_of_getElem? (i := 100) (by eq_refl))) (by decide +kernel), jdW_in (tb1 (List.mem_of_getElem? (i := 3) (by eq_refl))) (by decide +kernel), ⟨by decide +kernel, by decide +kernel, by decide +kernel⟩, by decide⟩
set_option maxRecDepth 100000 in
theorem sX8_listPairs : Cond.instanceMethod mX8_listPairs.1 ∈ jdW ∧ Cond.selects mX8_listPairs.1.cls mX8_listPairs.1 mX8_listPairs.1 ∈ jdW := ⟨jdW_in (tb4 (List.mem_of_getElem? (i := 99) (by eq_refl))) (by decide +kernel), jdW_in (List.mem_of_getElem? (i := 23) (by eq_refl)) (by decide +kernel)⟩
abbrev mX8_longest : jdM := (yX8_longest, cX8_longest, 1, (some .int))
set_option maxRecDepth 100000 in
theorem kX8_longest : jdMc mX8_longest 0 := ⟨jdW_in (tb4 (List.mem_of_getElem? (i := 96) (by eq_refl))) (by decide +kernel), jdW_in (tb1 (List.mem_of_getElem? (i := 3) (by eq_refl))) (by decide +kernel), ⟨by decide +kernel, by decide +kernel, by decide +kernel⟩, by decide⟩
set_option maxRecDepth 100000 in
theorem sX8_longest : Cond.instanceMethod mX8_longest.1 ∈ jdW ∧ Cond.selects mX8_longest.1.cls mX8_longest.1 mX8_longest.1 ∈ jdW := ⟨jdW_in (tb4 (List.mem_of_getElem? (i := 94) (by eq_refl))) (by decide +kernel), jdW_in (tb4 (List.mem_of_getElem? (i := 95) (by eq_refl))) (by decide +kernel)⟩
abbrev mX8_lengthen : jdM := (yX8_lengthen, cX8_lengthen, 6, none)
set_option maxRecDepth 100000 in
theorem kX8_lengthen : jdMc mX8_lengthen 3 := ⟨jdW_in (tb4 (List.mem_of_getElem? (i := 111) (by eq_refl))) (by decide +kernel), jdW_in (tb1 (List.mem_of_getElem? (i := 3) (by eq_refl))) (by decide +kernel), ⟨by decide +kernel, by decide +kernel, by decide +kernel⟩, by decide⟩
set_option maxRecDepth 100000 in
theorem sX8_lengthen : Cond.instanceMethod mX8_lengthen.1 ∈ jdW ∧ Cond.selects mX8_lengthen.1.cls mX8_lengthen.1 mX8_lengthen.1 ∈ jdW := ⟨jdW_in (tb4 (List.mem_of_getElem? (i := 110) (by eq_refl))) (by decide +kernel), jdW_in (List.mem_of_getElem? (i := 25) (by eq_refl)) (by decide +kernel)⟩
abbrev mX8_soonest : jdM := (yX8_soonest, cX8_soonest, 1, (some .int))
set_option maxRecDepth 100000 in
theorem kX8_soonest : jdMc mX8_soonest 0 := ⟨jdW_in (tb4 (List.mem_of_getElem? (i := 116) (by eq_refl))) (by decide +kernel), jdW_in (tb1 (List.mem_of_getElem? (i := 3) (by eq_refl))) (by decide +kernel), ⟨by decide +kernel, by decide +kernel, by decide +kernel⟩, by decide⟩
set_option maxRecDepth 100000 in
theorem sX8_soonest : Cond.instanceMethod mX8_soonest.1 ∈ jdW ∧ Cond.selects mX8_soonest.1.cls mX8_soonest.1 mX8_soonest.1 ∈ jdW := ⟨jdW_in (tb4 (List.mem_of_getElem? (i := 114) (by eq_refl))) (by decide +kernel), jdW_in (tb4 (List.mem_of_getElem? (i := 115) (by eq_refl))) (by decide +kernel)⟩
abbrev mX8_finish : jdM := (yX8_finish, cX8_finish, 10, none)
set_option maxRecDepth 100000 in
theorem kX8_finish : jdMc mX8_finish 3 := ⟨jdW_in (tb4 (List.mem_of_getElem? (i := 120) (by eq_refl))) (by decide +kernel), jdW_in (tb1 (List.mem_of_getElem? (i := 3) (by eq_refl))) (by decide +kernel), ⟨by decide +kernel, by decide +kernel, by decide +kernel⟩, by decide⟩
set_option maxRecDepth 100000 in
theorem sX8_finish : Cond.instanceMethod mX8_finish.1 ∈ jdW ∧ Cond.selects mX8_finish.1.cls mX8_finish.1 mX8_finish.1 ∈ jdW := ⟨jdW_in (tb4 (List.mem_of_getElem? (i := 119) (by eq_refl))) (by decide +kernel), jdW_in (List.mem_of_getElem? (i := 26) (by eq_refl)) (by decide +kernel)⟩
abbrev mX8_firstPossible : jdM := (yX8_firstPossible, cX8_firstPossible, 3, (some .int))
set_option maxRecDepth 100000 in
theorem kX8_firstPossible : jdMc mX8_firstPossible 1 := ⟨jdW_in (tb4 (List.mem_of_getElem? (i := 124) (by eq_refl))) (by decide +kernel), jdW_in (tb1 (List.mem_of_getElem? (i := 3) (by eq_refl))) (by decide +kernel), ⟨by decide +kernel, by decide +kernel, by decide +kernel⟩, by decide⟩
set_option maxRecDepth 100000 in
theorem sX8_firstPossible : Cond.instanceMethod mX8_firstPossible.1 ∈ jdW ∧ Cond.selects mX8_firstPossible.1.cls mX8_firstPossible.1 mX8_firstPossible.1 ∈ jdW := ⟨jdW_in (tb4 (List.mem_of_getElem? (i := 123) (by eq_refl))) (by decide +kernel), jdW_in (List.mem_of_getElem? (i := 27) (by eq_refl)) (by decide +kernel)⟩
abbrev mX8_countWays : jdM := (yX8_countWays, cX8_countWays, 8, (some .int))
set_option maxRecDepth 100000 in
theorem kX8_countWays : jdMc mX8_countWays 1 := ⟨jdW_in (tb4 (List.mem_of_getElem? (i := 166) (by eq_refl))) (by decide +kernel), jdW_in (tb1 (List.mem_of_getElem? (i := 3) (by eq_refl))) (by decide +kernel), ⟨by decide +kernel, by decide +kernel, by decide +kernel⟩, by decide⟩
set_option maxRecDepth 100000 in
theorem sX8_countWays : Cond.instanceMethod mX8_countWays.1 ∈ jdW ∧ Cond.selects mX8_countWays.1.cls mX8_countWays.1 mX8_countWays.1 ∈ jdW := ⟨jdW_in (tb4 (List.mem_of_getElem? (i := 164) (by eq_refl))) (by decide +kernel), jdW_in (tb4 (List.mem_of_getElem? (i := 165) (by eq_refl))) (by decide +kernel)⟩
abbrev mX8_breaksAll : jdM := (yX8_breaksAll, cX8_breaksAll, 4, (some .boolean))
set_option maxRecDepth 100000 in
theorem kX8_breaksAll : jdMc mX8_breaksAll 2 := ⟨jdW_in (tb4 (List.mem_of_getElem? (i := 170) (by eq_refl))) (by decide +kernel), jdW_in (tb1 (List.mem_of_getElem? (i := 3) (by eq_refl))) (by decide +kernel), ⟨by decide +kernel, by decide +kernel, by decide +kernel⟩, by decide⟩
set_option maxRecDepth 100000 in
theorem sX8_breaksAll : Cond.instanceMethod mX8_breaksAll.1 ∈ jdW ∧ Cond.selects mX8_breaksAll.1.cls mX8_breaksAll.1 mX8_breaksAll.1 ∈ jdW := ⟨jdW_in (tb4 (List.mem_of_getElem? (i := 169) (by eq_refl))) (by decide +kernel), jdW_in (List.mem_of_getElem? (i := 29) (by eq_refl)) (by decide +kernel)⟩
abbrev mX8_tally : jdM := (yX8_tally, cX8_tally, 3, none)
set_option maxRecDepth 100000 in
theorem kX8_tally : jdMc mX8_tally 1 := ⟨jdW_in (tb4 (List.mem_of_getElem? (i := 174) (by eq_refl))) (by decide +kernel), jdW_in (tb1 (List.mem_of_getElem? (i := 3) (by eq_refl))) (by decide +kernel), ⟨by decide +kernel, by decide +kernel, by decide +kernel⟩, by decide⟩
set_option maxRecDepth 100000 in
theorem sX8_tally : Cond.instanceMethod mX8_tally.1 ∈ jdW ∧ Cond.selects mX8_tally.1.cls mX8_tally.1 mX8_tally.1 ∈ jdW := ⟨jdW_in (tb4 (List.mem_of_getElem? (i := 173) (by eq_refl))) (by decide +kernel), jdW_in (List.mem_of_getElem? (i := 30) (by eq_refl)) (by decide +kernel)⟩
abbrev mX8_surest : jdM := (yX8_surest, cX8_surest, 8, (some .int))
set_option maxRecDepth 100000 in
theorem kX8_surest : jdMc mX8_surest 1 := ⟨jdW_in (tb4 (List.mem_of_getElem? (i := 182) (by eq_refl))) (by decide +kernel), jdW_in (tb1 (List.mem_of_getElem? (i := 3) (by eq_refl))) (by decide +kernel), ⟨by decide +kernel, by decide +kernel, by decide +kernel⟩, by decide⟩
set_option maxRecDepth 100000 in
theorem sX8_surest : Cond.instanceMethod mX8_surest.1 ∈ jdW ∧ Cond.selects mX8_surest.1.cls mX8_surest.1 mX8_surest.1 ∈ jdW := ⟨jdW_in (tb4 (List.mem_of_getElem? (i := 180) (by eq_refl))) (by decide +kernel), jdW_in (tb4 (List.mem_of_getElem? (i := 181) (by eq_refl))) (by decide +kernel)⟩
abbrev mX9_init : jdM := (yX9_init, cX9_init, 1, none)
set_option maxRecDepth 100000 in
theorem kX9_init : jdMc mX9_init 0 := ⟨jdW_in (tb1 (List.mem_of_getElem? (i := 33) (by eq_refl))) (by decide +kernel), jdW_in (tb1 (List.mem_of_getElem? (i := 2) (by eq_refl))) (by decide +kernel), ⟨by decide +kernel, by decide +kernel, by decide +kernel⟩, by decide⟩
set_option maxRecDepth 100000 in
theorem sX9_init : mX9_init.1.name = "<init>" ∧ Cond.instanceMethod mX9_init.1 ∈ jdW ∧ mX9_init.2.2.2 = none := ⟨rfl, jdW_in (tb1 (List.mem_of_getElem? (i := 32) (by eq_refl))) (by decide +kernel), rfl⟩
abbrev mX9_has : jdM := (yX9_has, cX9_has, 2, (some .boolean))
set_option maxRecDepth 100000 in
theorem kX9_has : jdMc mX9_has 1 := ⟨jdW_in (tb3 (List.mem_of_getElem? (i := 31) (by eq_refl))) (by decide +kernel), jdW_in (tb1 (List.mem_of_getElem? (i := 2) (by eq_refl))) (by decide +kernel), ⟨by decide +kernel, by decide +kernel, by decide +kernel⟩, by decide⟩
set_option maxRecDepth 100000 in
theorem sX9_has : Cond.instanceMethod mX9_has.1 ∈ jdW ∧ Cond.selects mX9_has.1.cls mX9_has.1 mX9_has.1 ∈ jdW := ⟨jdW_in (tb3 (List.mem_of_getElem? (i := 29) (by eq_refl))) (by decide +kernel), jdW_in (tb3 (List.mem_of_getElem? (i := 30) (by eq_refl))) (by decide +kernel)⟩
abbrev mX9_hasTwo : jdM := (yX9_hasTwo, cX9_hasTwo, 3, (some .boolean))
set_option maxRecDepth 100000 in
theorem kX9_hasTwo : jdMc mX9_hasTwo 2 := ⟨jdW_in (tb3 (List.mem_of_getElem? (i := 39) (by eq_refl))) (by decide +kernel), jdW_in (tb1 (List.mem_of_getElem? (i := 2) (by eq_refl))) (by decide +kernel), ⟨by decide +kernel, by decide +kernel, by decide +kernel⟩, by decide⟩
set_option maxRecDepth 100000 in
theorem sX9_hasTwo : Cond.instanceMethod mX9_hasTwo.1 ∈ jdW ∧ Cond.selects mX9_hasTwo.1.cls mX9_hasTwo.1 mX9_hasTwo.1 ∈ jdW := ⟨jdW_in (tb3 (List.mem_of_getElem? (i := 37) (by eq_refl))) (by decide +kernel), jdW_in (tb3 (List.mem_of_getElem? (i := 38) (by eq_refl))) (by decide +kernel)⟩
abbrev mX9_hasAll : jdM := (yX9_hasAll, cX9_hasAll, 2, (some .boolean))
set_option maxRecDepth 100000 in
theorem kX9_hasAll : jdMc mX9_hasAll 1 := ⟨jdW_in (tb3 (List.mem_of_getElem? (i := 202) (by eq_refl))) (by decide +kernel), jdW_in (tb1 (List.mem_of_getElem? (i := 2) (by eq_refl))) (by decide +kernel), ⟨by decide +kernel, by decide +kernel, by decide +kernel⟩, by decide⟩
set_option maxRecDepth 100000 in
theorem sX9_hasAll : Cond.instanceMethod mX9_hasAll.1 ∈ jdW ∧ Cond.selects mX9_hasAll.1.cls mX9_hasAll.1 mX9_hasAll.1 ∈ jdW := ⟨jdW_in (tb3 (List.mem_of_getElem? (i := 200) (by eq_refl))) (by decide +kernel), jdW_in (tb3 (List.mem_of_getElem? (i := 201) (by eq_refl))) (by decide +kernel)⟩
abbrev mX9_everybody : jdM := (yX9_everybody, cX9_everybody, 1, (some .int))
set_option maxRecDepth 100000 in
theorem kX9_everybody : jdMc mX9_everybody 0 := ⟨jdW_in (tb2 (List.mem_of_getElem? (i := 187) (by eq_refl))) (by decide +kernel), jdW_in (tb1 (List.mem_of_getElem? (i := 2) (by eq_refl))) (by decide +kernel), ⟨by decide +kernel, by decide +kernel, by decide +kernel⟩, by decide⟩
set_option maxRecDepth 100000 in
theorem sX9_everybody : Cond.instanceMethod mX9_everybody.1 ∈ jdW ∧ Cond.selects mX9_everybody.1.cls mX9_everybody.1 mX9_everybody.1 ∈ jdW := ⟨jdW_in (tb2 (List.mem_of_getElem? (i := 185) (by eq_refl))) (by decide +kernel), jdW_in (tb2 (List.mem_of_getElem? (i := 186) (by eq_refl))) (by decide +kernel)⟩
abbrev mX9_since : jdM := (yX9_since, cX9_since, 3, (some .int))
set_option maxRecDepth 100000 in
theorem kX9_since : jdMc mX9_since 2 := ⟨jdW_in (tb2 (List.mem_of_getElem? (i := 171) (by eq_refl))) (by decide +kernel), jdW_in (tb1 (List.mem_of_getElem? (i := 2) (by eq_refl))) (by decide +kernel), ⟨by decide +kernel, by decide +kernel, by decide +kernel⟩, by decide⟩
set_option maxRecDepth 100000 in
theorem sX9_since : Cond.instanceMethod mX9_since.1 ∈ jdW ∧ Cond.selects mX9_since.1.cls mX9_since.1 mX9_since.1 ∈ jdW := ⟨jdW_in (tb2 (List.mem_of_getElem? (i := 169) (by eq_refl))) (by decide +kernel), jdW_in (tb2 (List.mem_of_getElem? (i := 170) (by eq_refl))) (by decide +kernel)⟩
abbrev mX9_tie : jdM := (yX9_tie, cX9_tie, 4, none)
set_option maxRecDepth 100000 in
theorem kX9_tie : jdMc mX9_tie 3 := ⟨jdW_in (tb3 (List.mem_of_getElem? (i := 23) (by eq_refl))) (by decide +kernel), jdW_in (tb1 (List.mem_of_getElem? (i := 2) (by eq_refl))) (by decide +kernel), ⟨by decide +kernel, by decide +kernel, by decide +kernel⟩, by decide⟩
set_option maxRecDepth 100000 in
theorem sX9_tie : Cond.instanceMethod mX9_tie.1 ∈ jdW ∧ Cond.selects mX9_tie.1.cls mX9_tie.1 mX9_tie.1 ∈ jdW := ⟨jdW_in (tb3 (List.mem_of_getElem? (i := 21) (by eq_refl))) (by decide +kernel), jdW_in (tb3 (List.mem_of_getElem? (i := 22) (by eq_refl))) (by decide +kernel)⟩
abbrev mX9_add : jdM := (yX9_add, cX9_add, 5, (some .int))
set_option maxRecDepth 100000 in
theorem kX9_add : jdMc mX9_add 2 := ⟨jdW_in (tb3 (List.mem_of_getElem? (i := 19) (by eq_refl))) (by decide +kernel), jdW_in (tb1 (List.mem_of_getElem? (i := 2) (by eq_refl))) (by decide +kernel), ⟨by decide +kernel, by decide +kernel, by decide +kernel⟩, by decide⟩
set_option maxRecDepth 100000 in
theorem sX9_add : Cond.instanceMethod mX9_add.1 ∈ jdW ∧ Cond.selects mX9_add.1.cls mX9_add.1 mX9_add.1 ∈ jdW := ⟨jdW_in (tb3 (List.mem_of_getElem? (i := 17) (by eq_refl))) (by decide +kernel), jdW_in (tb3 (List.mem_of_getElem? (i := 18) (by eq_refl))) (by decide +kernel)⟩
abbrev mX9_addByDraws : jdM := (yX9_addByDraws, cX9_addByDraws, 5, none)
set_option maxRecDepth 100000 in
theorem kX9_addByDraws : jdMc mX9_addByDraws 0 := ⟨jdW_in (tb4 (List.mem_of_getElem? (i := 238) (by eq_refl))) (by decide +kernel), jdW_in (tb1 (List.mem_of_getElem? (i := 2) (by eq_refl))) (by decide +kernel), ⟨by decide +kernel, by decide +kernel, by decide +kernel⟩, by decide⟩
set_option maxRecDepth 100000 in
theorem sX9_addByDraws : Cond.instanceMethod mX9_addByDraws.1 ∈ jdW ∧ Cond.selects mX9_addByDraws.1.cls mX9_addByDraws.1 mX9_addByDraws.1 ∈ jdW := ⟨jdW_in (tb4 (List.mem_of_getElem? (i := 236) (by eq_refl))) (by decide +kernel), jdW_in (tb4 (List.mem_of_getElem? (i := 237) (by eq_refl))) (by decide +kernel)⟩
abbrev mX9_draw : jdM := (yX9_draw, cX9_draw, 2, (some .int))
set_option maxRecDepth 100000 in
theorem kX9_draw : jdMc mX9_draw 1 := ⟨jdW_in (tb5 (List.mem_of_getElem? (i := 2) (by eq_refl))) (by decide +kernel), jdW_in (tb1 (List.mem_of_getElem? (i := 2) (by eq_refl))) (by decide +kernel), ⟨by decide +kernel, by decide +kernel, by decide +kernel⟩, by decide⟩
set_option maxRecDepth 100000 in
theorem sX9_draw : Cond.instanceMethod mX9_draw.1 ∈ jdW ∧ Cond.selects mX9_draw.1.cls mX9_draw.1 mX9_draw.1 ∈ jdW := ⟨jdW_in (tb5 (List.mem_of_getElem? (i := 1) (by eq_refl))) (by decide +kernel), jdW_in (List.mem_of_getElem? (i := 34) (by eq_refl)) (by decide +kernel)⟩
abbrev mX9_strangersTo : jdM := (yX9_strangersTo, cX9_strangersTo, 4, (some .int))
set_option maxRecDepth 100000 in
theorem kX9_strangersTo : jdMc mX9_strangersTo 1 := ⟨jdW_in (tb2 (List.mem_of_getElem? (i := 167) (by eq_refl))) (by decide +kernel), jdW_in (tb1 (List.mem_of_getElem? (i := 2) (by eq_refl))) (by decide +kernel), ⟨by decide +kernel, by decide +kernel, by decide +kernel⟩, by decide⟩
set_option maxRecDepth 100000 in
theorem sX9_strangersTo : Cond.instanceMethod mX9_strangersTo.1 ∈ jdW ∧ Cond.selects mX9_strangersTo.1.cls mX9_strangersTo.1 mX9_strangersTo.1 ∈ jdW := ⟨jdW_in (tb2 (List.mem_of_getElem? (i := 165) (by eq_refl))) (by decide +kernel), jdW_in (tb2 (List.mem_of_getElem? (i := 166) (by eq_refl))) (by decide +kernel)⟩
abbrev mX9_countStrangers : jdM := (yX9_countStrangers, cX9_countStrangers, 3, (some .int))
set_option maxRecDepth 100000 in
theorem kX9_countStrangers : jdMc mX9_countStrangers 0 := ⟨jdW_in (tb5 (List.mem_of_getElem? (i := 24) (by eq_refl))) (by decide +kernel), jdW_in (tb1 (List.mem_of_getElem? (i := 2) (by eq_refl))) (by decide +kernel), ⟨by decide +kernel, by decide +kernel, by decide +kernel⟩, by decide⟩
set_option maxRecDepth 100000 in
theorem sX9_countStrangers : Cond.instanceMethod mX9_countStrangers.1 ∈ jdW ∧ Cond.selects mX9_countStrangers.1.cls mX9_countStrangers.1 mX9_countStrangers.1 ∈ jdW := ⟨jdW_in (tb5 (List.mem_of_getElem? (i := 22) (by eq_refl))) (by decide +kernel), jdW_in (tb5 (List.mem_of_getElem? (i := 23) (by eq_refl))) (by decide +kernel)⟩
abbrev mX9_acquaint : jdM := (yX9_acquaint, cX9_acquaint, 5, (some .int))
set_option maxRecDepth 100000 in
theorem kX9_acquaint : jdMc mX9_acquaint 1 := ⟨jdW_in (tb3 (List.mem_of_getElem? (i := 183) (by eq_refl))) (by decide +kernel), jdW_in (tb1 (List.mem_of_getElem? (i := 2) (by eq_refl))) (by decide +kernel), ⟨by decide +kernel, by decide +kernel, by decide +kernel⟩, by decide⟩
set_option maxRecDepth 100000 in
theorem sX9_acquaint : Cond.instanceMethod mX9_acquaint.1 ∈ jdW ∧ Cond.selects mX9_acquaint.1.cls mX9_acquaint.1 mX9_acquaint.1 ∈ jdW := ⟨jdW_in (tb3 (List.mem_of_getElem? (i := 181) (by eq_refl))) (by decide +kernel), jdW_in (tb3 (List.mem_of_getElem? (i := 182) (by eq_refl))) (by decide +kernel)⟩
abbrev mX9_endDay : jdM := (yX9_endDay, cX9_endDay, 2, none)
set_option maxRecDepth 100000 in
theorem kX9_endDay : jdMc mX9_endDay 1 := ⟨jdW_in (tb4 (List.mem_of_getElem? (i := 212) (by eq_refl))) (by decide +kernel), jdW_in (tb1 (List.mem_of_getElem? (i := 2) (by eq_refl))) (by decide +kernel), ⟨by decide +kernel, by decide +kernel, by decide +kernel⟩, by decide⟩
set_option maxRecDepth 100000 in
theorem sX9_endDay : Cond.instanceMethod mX9_endDay.1 ∈ jdW ∧ Cond.selects mX9_endDay.1.cls mX9_endDay.1 mX9_endDay.1 ∈ jdW := ⟨jdW_in (tb4 (List.mem_of_getElem? (i := 210) (by eq_refl))) (by decide +kernel), jdW_in (tb4 (List.mem_of_getElem? (i := 211) (by eq_refl))) (by decide +kernel)⟩
abbrev mX9_age : jdM := (yX9_age, cX9_age, 7, (some .int))
set_option maxRecDepth 100000 in
theorem kX9_age : jdMc mX9_age 0 := ⟨jdW_in (tb4 (List.mem_of_getElem? (i := 228) (by eq_refl))) (by decide +kernel), jdW_in (tb1 (List.mem_of_getElem? (i := 2) (by eq_refl))) (by decide +kernel), ⟨by decide +kernel, by decide +kernel, by decide +kernel⟩, by decide⟩
set_option maxRecDepth 100000 in
theorem sX9_age : Cond.instanceMethod mX9_age.1 ∈ jdW ∧ Cond.selects mX9_age.1.cls mX9_age.1 mX9_age.1 ∈ jdW := ⟨jdW_in (tb4 (List.mem_of_getElem? (i := 226) (by eq_refl))) (by decide +kernel), jdW_in (tb4 (List.mem_of_getElem? (i := 227) (by eq_refl))) (by decide +kernel)⟩
abbrev mX9_become : jdM := (yX9_become, cX9_become, 2, none)
set_option maxRecDepth 100000 in
theorem kX9_become : jdMc mX9_become 1 := ⟨jdW_in (tb3 (List.mem_of_getElem? (i := 74) (by eq_refl))) (by decide +kernel), jdW_in (tb1 (List.mem_of_getElem? (i := 2) (by eq_refl))) (by decide +kernel), ⟨by decide +kernel, by decide +kernel, by decide +kernel⟩, by decide⟩
set_option maxRecDepth 100000 in
theorem sX9_become : Cond.instanceMethod mX9_become.1 ∈ jdW ∧ Cond.selects mX9_become.1.cls mX9_become.1 mX9_become.1 ∈ jdW := ⟨jdW_in (tb3 (List.mem_of_getElem? (i := 72) (by eq_refl))) (by decide +kernel), jdW_in (tb3 (List.mem_of_getElem? (i := 73) (by eq_refl))) (by decide +kernel)⟩
abbrev mX10_init : jdM := (yX10_init, cX10_init, 2, none)
set_option maxRecDepth 100000 in
theorem kX10_init : jdMc mX10_init 1 := ⟨jdW_in (tb2 (List.mem_of_getElem? (i := 103) (by eq_refl))) (by decide +kernel), jdW_in (tb1 (List.mem_of_getElem? (i := 12) (by eq_refl))) (by decide +kernel), ⟨by decide +kernel, by decide +kernel, by decide +kernel⟩, by decide⟩
set_option maxRecDepth 100000 in
theorem sX10_init : mX10_init.1.name = "<init>" ∧ Cond.instanceMethod mX10_init.1 ∈ jdW ∧ mX10_init.2.2.2 = none := ⟨rfl, jdW_in (tb2 (List.mem_of_getElem? (i := 102) (by eq_refl))) (by decide +kernel), rfl⟩
abbrev mX10_kind : jdM := (yX10_kind, cX10_kind, 1, (some .int))
set_option maxRecDepth 100000 in
theorem kX10_kind : jdMc mX10_kind 0 := ⟨jdW_in (tb2 (List.mem_of_getElem? (i := 70) (by eq_refl))) (by decide +kernel), jdW_in (tb1 (List.mem_of_getElem? (i := 12) (by eq_refl))) (by decide +kernel), ⟨by decide +kernel, by decide +kernel, by decide +kernel⟩, by decide⟩
abbrev mX10_pick : jdM := (yX10_pick, cX10_pick, 5, (some .int))
set_option maxRecDepth 100000 in
theorem kX10_pick : jdMc mX10_pick 3 := ⟨jdW_in (tb2 (List.mem_of_getElem? (i := 238) (by eq_refl))) (by decide +kernel), jdW_in (tb1 (List.mem_of_getElem? (i := 12) (by eq_refl))) (by decide +kernel), ⟨by decide +kernel, by decide +kernel, by decide +kernel⟩, by decide⟩
abbrev mX11_init : jdM := (yX11_init, cX11_init, 2, none)
set_option maxRecDepth 100000 in
theorem kX11_init : jdMc mX11_init 0 := ⟨jdW_in (tb1 (List.mem_of_getElem? (i := 25) (by eq_refl))) (by decide +kernel), jdW_in (tb1 (List.mem_of_getElem? (i := 1) (by eq_refl))) (by decide +kernel), ⟨by decide +kernel, by decide +kernel, by decide +kernel⟩, by decide⟩
set_option maxRecDepth 100000 in
theorem sX11_init : mX11_init.1.name = "<init>" ∧ Cond.instanceMethod mX11_init.1 ∈ jdW ∧ mX11_init.2.2.2 = none := ⟨rfl, jdW_in (tb1 (List.mem_of_getElem? (i := 24) (by eq_refl))) (by decide +kernel), rfl⟩
abbrev mX11_row : jdM := (yX11_row, cX11_row, 4, (some .int))
set_option maxRecDepth 100000 in
theorem kX11_row : jdMc mX11_row 3 := ⟨jdW_in (tb2 (List.mem_of_getElem? (i := 2) (by eq_refl))) (by decide +kernel), jdW_in (tb1 (List.mem_of_getElem? (i := 1) (by eq_refl))) (by decide +kernel), ⟨by decide +kernel, by decide +kernel, by decide +kernel⟩, by decide⟩
set_option maxRecDepth 100000 in
theorem sX11_row : Cond.instanceMethod mX11_row.1 ∈ jdW ∧ Cond.selects mX11_row.1.cls mX11_row.1 mX11_row.1 ∈ jdW := ⟨jdW_in (tb2 (List.mem_of_getElem? (i := 0) (by eq_refl))) (by decide +kernel), jdW_in (tb2 (List.mem_of_getElem? (i := 1) (by eq_refl))) (by decide +kernel)⟩
abbrev mX11_set : jdM := (yX11_set, cX11_set, 5, (some .int))
set_option maxRecDepth 100000 in
theorem kX11_set : jdMc mX11_set 3 := ⟨jdW_in (tb2 (List.mem_of_getElem? (i := 17) (by eq_refl))) (by decide +kernel), jdW_in (tb1 (List.mem_of_getElem? (i := 1) (by eq_refl))) (by decide +kernel), ⟨by decide +kernel, by decide +kernel, by decide +kernel⟩, by decide⟩
set_option maxRecDepth 100000 in
theorem sX11_set : Cond.instanceMethod mX11_set.1 ∈ jdW ∧ Cond.selects mX11_set.1.cls mX11_set.1 mX11_set.1 ∈ jdW := ⟨jdW_in (tb2 (List.mem_of_getElem? (i := 15) (by eq_refl))) (by decide +kernel), jdW_in (tb2 (List.mem_of_getElem? (i := 16) (by eq_refl))) (by decide +kernel)⟩
abbrev mX11_copy : jdM := (yX11_copy, cX11_copy, 9, (some .int))
set_option maxRecDepth 100000 in
theorem kX11_copy : jdMc mX11_copy 5 := ⟨jdW_in (tb2 (List.mem_of_getElem? (i := 41) (by eq_refl))) (by decide +kernel), jdW_in (tb1 (List.mem_of_getElem? (i := 1) (by eq_refl))) (by decide +kernel), ⟨by decide +kernel, by decide +kernel, by decide +kernel⟩, by decide⟩
set_option maxRecDepth 100000 in
theorem sX11_copy : Cond.instanceMethod mX11_copy.1 ∈ jdW ∧ Cond.selects mX11_copy.1.cls mX11_copy.1 mX11_copy.1 ∈ jdW := ⟨jdW_in (tb2 (List.mem_of_getElem? (i := 39) (by eq_refl))) (by decide +kernel), jdW_in (tb2 (List.mem_of_getElem? (i := 40) (by eq_refl))) (by decide +kernel)⟩
abbrev mX11_element : jdM := (yX11_element, cX11_element, 3, (some .long))
set_option maxRecDepth 100000 in
theorem kX11_element : jdMc mX11_element 2 := ⟨jdW_in (tb2 (List.mem_of_getElem? (i := 48) (by eq_refl))) (by decide +kernel), jdW_in (tb1 (List.mem_of_getElem? (i := 1) (by eq_refl))) (by decide +kernel), ⟨by decide +kernel, by decide +kernel, by decide +kernel⟩, by decide⟩
set_option maxRecDepth 100000 in
theorem sX11_element : Cond.instanceMethod mX11_element.1 ∈ jdW ∧ Cond.selects mX11_element.1.cls mX11_element.1 mX11_element.1 ∈ jdW := ⟨jdW_in (tb2 (List.mem_of_getElem? (i := 46) (by eq_refl))) (by decide +kernel), jdW_in (tb2 (List.mem_of_getElem? (i := 47) (by eq_refl))) (by decide +kernel)⟩
abbrev mX11_holds : jdM := (yX11_holds, cX11_holds, 3, (some .int))
set_option maxRecDepth 100000 in
theorem kX11_holds : jdMc mX11_holds 1 := ⟨jdW_in (tb2 (List.mem_of_getElem? (i := 52) (by eq_refl))) (by decide +kernel), jdW_in (tb1 (List.mem_of_getElem? (i := 1) (by eq_refl))) (by decide +kernel), ⟨by decide +kernel, by decide +kernel, by decide +kernel⟩, by decide⟩
set_option maxRecDepth 100000 in
theorem sX11_holds : Cond.instanceMethod mX11_holds.1 ∈ jdW ∧ Cond.selects mX11_holds.1.cls mX11_holds.1 mX11_holds.1 ∈ jdW := ⟨jdW_in (tb2 (List.mem_of_getElem? (i := 50) (by eq_refl))) (by decide +kernel), jdW_in (tb2 (List.mem_of_getElem? (i := 51) (by eq_refl))) (by decide +kernel)⟩
abbrev mX11_coachman : jdM := (yX11_coachman, cX11_coachman, 4, (some .int))
set_option maxRecDepth 100000 in
theorem kX11_coachman : jdMc mX11_coachman 3 := ⟨jdW_in (tb2 (List.mem_of_getElem? (i := 74) (by eq_refl))) (by decide +kernel), jdW_in (tb1 (List.mem_of_getElem? (i := 1) (by eq_refl))) (by decide +kernel), ⟨by decide +kernel, by decide +kernel, by decide +kernel⟩, by decide⟩
set_option maxRecDepth 100000 in
theorem sX11_coachman : Cond.instanceMethod mX11_coachman.1 ∈ jdW ∧ Cond.selects mX11_coachman.1.cls mX11_coachman.1 mX11_coachman.1 ∈ jdW := ⟨jdW_in (tb2 (List.mem_of_getElem? (i := 72) (by eq_refl))) (by decide +kernel), jdW_in (tb2 (List.mem_of_getElem? (i := 73) (by eq_refl))) (by decide +kernel)⟩
abbrev mX11_says : jdM := (yX11_says, cX11_says, 4, (some .int))
set_option maxRecDepth 100000 in
theorem kX11_says : jdMc mX11_says 2 := ⟨jdW_in (tb2 (List.mem_of_getElem? (i := 130) (by eq_refl))) (by decide +kernel), jdW_in (tb1 (List.mem_of_getElem? (i := 1) (by eq_refl))) (by decide +kernel), ⟨by decide +kernel, by decide +kernel, by decide +kernel⟩, by decide⟩
set_option maxRecDepth 100000 in
theorem sX11_says : Cond.instanceMethod mX11_says.1 ∈ jdW ∧ Cond.selects mX11_says.1.cls mX11_says.1 mX11_says.1 ∈ jdW := ⟨jdW_in (tb2 (List.mem_of_getElem? (i := 128) (by eq_refl))) (by decide +kernel), jdW_in (tb2 (List.mem_of_getElem? (i := 129) (by eq_refl))) (by decide +kernel)⟩
abbrev mX11_person : jdM := (yX11_person, cX11_person, 3, (some .int))
set_option maxRecDepth 100000 in
theorem kX11_person : jdMc mX11_person 2 := ⟨jdW_in (tb3 (List.mem_of_getElem? (i := 9) (by eq_refl))) (by decide +kernel), jdW_in (tb1 (List.mem_of_getElem? (i := 1) (by eq_refl))) (by decide +kernel), ⟨by decide +kernel, by decide +kernel, by decide +kernel⟩, by decide⟩
set_option maxRecDepth 100000 in
theorem sX11_person : Cond.instanceMethod mX11_person.1 ∈ jdW ∧ Cond.selects mX11_person.1.cls mX11_person.1 mX11_person.1 ∈ jdW := ⟨jdW_in (tb3 (List.mem_of_getElem? (i := 7) (by eq_refl))) (by decide +kernel), jdW_in (tb3 (List.mem_of_getElem? (i := 8) (by eq_refl))) (by decide +kernel)⟩
abbrev mX11_change : jdM := (yX11_change, cX11_change, 7, (some .int))
set_option maxRecDepth 100000 in
theorem kX11_change : jdMc mX11_change 3 := ⟨jdW_in (tb3 (List.mem_of_getElem? (i := 27) (by eq_refl))) (by decide +kernel), jdW_in (tb1 (List.mem_of_getElem? (i := 1) (by eq_refl))) (by decide +kernel), ⟨by decide +kernel, by decide +kernel, by decide +kernel⟩, by decide⟩
set_option maxRecDepth 100000 in
theorem sX11_change : Cond.instanceMethod mX11_change.1 ∈ jdW ∧ Cond.selects mX11_change.1.cls mX11_change.1 mX11_change.1 ∈ jdW := ⟨jdW_in (tb3 (List.mem_of_getElem? (i := 25) (by eq_refl))) (by decide +kernel), jdW_in (tb3 (List.mem_of_getElem? (i := 26) (by eq_refl))) (by decide +kernel)⟩
abbrev mX11_know : jdM := (yX11_know, cX11_know, 5, (some .int))
set_option maxRecDepth 100000 in
theorem kX11_know : jdMc mX11_know 3 := ⟨jdW_in (tb3 (List.mem_of_getElem? (i := 35) (by eq_refl))) (by decide +kernel), jdW_in (tb1 (List.mem_of_getElem? (i := 1) (by eq_refl))) (by decide +kernel), ⟨by decide +kernel, by decide +kernel, by decide +kernel⟩, by decide⟩
set_option maxRecDepth 100000 in
theorem sX11_know : Cond.instanceMethod mX11_know.1 ∈ jdW ∧ Cond.selects mX11_know.1.cls mX11_know.1 mX11_know.1 ∈ jdW := ⟨jdW_in (tb3 (List.mem_of_getElem? (i := 33) (by eq_refl))) (by decide +kernel), jdW_in (tb3 (List.mem_of_getElem? (i := 34) (by eq_refl))) (by decide +kernel)⟩
abbrev mX11_ask : jdM := (yX11_ask, cX11_ask, 4, (some .int))
set_option maxRecDepth 100000 in
theorem kX11_ask : jdMc mX11_ask 2 := ⟨jdW_in (tb3 (List.mem_of_getElem? (i := 46) (by eq_refl))) (by decide +kernel), jdW_in (tb1 (List.mem_of_getElem? (i := 1) (by eq_refl))) (by decide +kernel), ⟨by decide +kernel, by decide +kernel, by decide +kernel⟩, by decide⟩
set_option maxRecDepth 100000 in
theorem sX11_ask : Cond.instanceMethod mX11_ask.1 ∈ jdW ∧ Cond.selects mX11_ask.1.cls mX11_ask.1 mX11_ask.1 ∈ jdW := ⟨jdW_in (tb3 (List.mem_of_getElem? (i := 44) (by eq_refl))) (by decide +kernel), jdW_in (tb3 (List.mem_of_getElem? (i := 45) (by eq_refl))) (by decide +kernel)⟩
abbrev mX11_feed : jdM := (yX11_feed, cX11_feed, 2, (some .int))
set_option maxRecDepth 100000 in
theorem kX11_feed : jdMc mX11_feed 1 := ⟨jdW_in (tb3 (List.mem_of_getElem? (i := 50) (by eq_refl))) (by decide +kernel), jdW_in (tb1 (List.mem_of_getElem? (i := 1) (by eq_refl))) (by decide +kernel), ⟨by decide +kernel, by decide +kernel, by decide +kernel⟩, by decide⟩
set_option maxRecDepth 100000 in
theorem sX11_feed : Cond.instanceMethod mX11_feed.1 ∈ jdW ∧ Cond.selects mX11_feed.1.cls mX11_feed.1 mX11_feed.1 ∈ jdW := ⟨jdW_in (tb3 (List.mem_of_getElem? (i := 48) (by eq_refl))) (by decide +kernel), jdW_in (tb3 (List.mem_of_getElem? (i := 49) (by eq_refl))) (by decide +kernel)⟩
abbrev mX11_wipe : jdM := (yX11_wipe, cX11_wipe, 2, (some .int))
set_option maxRecDepth 100000 in
theorem kX11_wipe : jdMc mX11_wipe 0 := ⟨jdW_in (tb3 (List.mem_of_getElem? (i := 62) (by eq_refl))) (by decide +kernel), jdW_in (tb1 (List.mem_of_getElem? (i := 1) (by eq_refl))) (by decide +kernel), ⟨by decide +kernel, by decide +kernel, by decide +kernel⟩, by decide⟩
set_option maxRecDepth 100000 in
theorem sX11_wipe : Cond.instanceMethod mX11_wipe.1 ∈ jdW ∧ Cond.selects mX11_wipe.1.cls mX11_wipe.1 mX11_wipe.1 ∈ jdW := ⟨jdW_in (tb3 (List.mem_of_getElem? (i := 60) (by eq_refl))) (by decide +kernel), jdW_in (tb3 (List.mem_of_getElem? (i := 61) (by eq_refl))) (by decide +kernel)⟩
abbrev mX11_town : jdM := (yX11_town, cX11_town, 2, (some .int))
set_option maxRecDepth 100000 in
theorem kX11_town : jdMc mX11_town 0 := ⟨jdW_in (tb3 (List.mem_of_getElem? (i := 70) (by eq_refl))) (by decide +kernel), jdW_in (tb1 (List.mem_of_getElem? (i := 1) (by eq_refl))) (by decide +kernel), ⟨by decide +kernel, by decide +kernel, by decide +kernel⟩, by decide⟩
set_option maxRecDepth 100000 in
theorem sX11_town : Cond.instanceMethod mX11_town.1 ∈ jdW ∧ Cond.selects mX11_town.1.cls mX11_town.1 mX11_town.1 ∈ jdW := ⟨jdW_in (tb3 (List.mem_of_getElem? (i := 68) (by eq_refl))) (by decide +kernel), jdW_in (tb3 (List.mem_of_getElem? (i := 69) (by eq_refl))) (by decide +kernel)⟩
abbrev mX11_personOf : jdM := (yX11_personOf, cX11_personOf, 3, (some .int))
set_option maxRecDepth 100000 in
theorem kX11_personOf : jdMc mX11_personOf 2 := ⟨jdW_in (tb3 (List.mem_of_getElem? (i := 188) (by eq_refl))) (by decide +kernel), jdW_in (tb1 (List.mem_of_getElem? (i := 1) (by eq_refl))) (by decide +kernel), ⟨by decide +kernel, by decide +kernel, by decide +kernel⟩, by decide⟩
set_option maxRecDepth 100000 in
theorem sX11_personOf : Cond.instanceMethod mX11_personOf.1 ∈ jdW ∧ Cond.selects mX11_personOf.1.cls mX11_personOf.1 mX11_personOf.1 ∈ jdW := ⟨jdW_in (tb3 (List.mem_of_getElem? (i := 186) (by eq_refl))) (by decide +kernel), jdW_in (tb3 (List.mem_of_getElem? (i := 187) (by eq_refl))) (by decide +kernel)⟩
abbrev mX11_knownOf : jdM := (yX11_knownOf, cX11_knownOf, 3, (some .int))
set_option maxRecDepth 100000 in
theorem kX11_knownOf : jdMc mX11_knownOf 2 := ⟨jdW_in (tb3 (List.mem_of_getElem? (i := 194) (by eq_refl))) (by decide +kernel), jdW_in (tb1 (List.mem_of_getElem? (i := 1) (by eq_refl))) (by decide +kernel), ⟨by decide +kernel, by decide +kernel, by decide +kernel⟩, by decide⟩
set_option maxRecDepth 100000 in
theorem sX11_knownOf : Cond.instanceMethod mX11_knownOf.1 ∈ jdW ∧ Cond.selects mX11_knownOf.1.cls mX11_knownOf.1 mX11_knownOf.1 ∈ jdW := ⟨jdW_in (tb3 (List.mem_of_getElem? (i := 192) (by eq_refl))) (by decide +kernel), jdW_in (tb3 (List.mem_of_getElem? (i := 193) (by eq_refl))) (by decide +kernel)⟩
abbrev mX11_isGroup : jdM := (yX11_isGroup, cX11_isGroup, 2, (some .int))
set_option maxRecDepth 100000 in
theorem kX11_isGroup : jdMc mX11_isGroup 1 := ⟨jdW_in (tb3 (List.mem_of_getElem? (i := 198) (by eq_refl))) (by decide +kernel), jdW_in (tb1 (List.mem_of_getElem? (i := 1) (by eq_refl))) (by decide +kernel), ⟨by decide +kernel, by decide +kernel, by decide +kernel⟩, by decide⟩
set_option maxRecDepth 100000 in
theorem sX11_isGroup : Cond.instanceMethod mX11_isGroup.1 ∈ jdW ∧ Cond.selects mX11_isGroup.1.cls mX11_isGroup.1 mX11_isGroup.1 ∈ jdW := ⟨jdW_in (tb3 (List.mem_of_getElem? (i := 196) (by eq_refl))) (by decide +kernel), jdW_in (tb3 (List.mem_of_getElem? (i := 197) (by eq_refl))) (by decide +kernel)⟩
abbrev mX11_groups : jdM := (yX11_groups, cX11_groups, 2, (some .int))
set_option maxRecDepth 100000 in
theorem kX11_groups : jdMc mX11_groups 1 := ⟨jdW_in (tb3 (List.mem_of_getElem? (i := 211) (by eq_refl))) (by decide +kernel), jdW_in (tb1 (List.mem_of_getElem? (i := 1) (by eq_refl))) (by decide +kernel), ⟨by decide +kernel, by decide +kernel, by decide +kernel⟩, by decide⟩
set_option maxRecDepth 100000 in
theorem sX11_groups : Cond.instanceMethod mX11_groups.1 ∈ jdW ∧ Cond.selects mX11_groups.1.cls mX11_groups.1 mX11_groups.1 ∈ jdW := ⟨jdW_in (tb3 (List.mem_of_getElem? (i := 209) (by eq_refl))) (by decide +kernel), jdW_in (tb3 (List.mem_of_getElem? (i := 210) (by eq_refl))) (by decide +kernel)⟩
abbrev mX11_firstOf : jdM := (yX11_firstOf, cX11_firstOf, 2, (some .int))
set_option maxRecDepth 100000 in
theorem kX11_firstOf : jdMc mX11_firstOf 1 := ⟨jdW_in (tb3 (List.mem_of_getElem? (i := 219) (by eq_refl))) (by decide +kernel), jdW_in (tb1 (List.mem_of_getElem? (i := 1) (by eq_refl))) (by decide +kernel), ⟨by decide +kernel, by decide +kernel, by decide +kernel⟩, by decide⟩
set_option maxRecDepth 100000 in
theorem sX11_firstOf : Cond.instanceMethod mX11_firstOf.1 ∈ jdW ∧ Cond.selects mX11_firstOf.1.cls mX11_firstOf.1 mX11_firstOf.1 ∈ jdW := ⟨jdW_in (tb3 (List.mem_of_getElem? (i := 217) (by eq_refl))) (by decide +kernel), jdW_in (tb3 (List.mem_of_getElem? (i := 218) (by eq_refl))) (by decide +kernel)⟩
abbrev mX11_most : jdM := (yX11_most, cX11_most, 2, (some .int))
set_option maxRecDepth 100000 in
theorem kX11_most : jdMc mX11_most 1 := ⟨jdW_in (tb3 (List.mem_of_getElem? (i := 224) (by eq_refl))) (by decide +kernel), jdW_in (tb1 (List.mem_of_getElem? (i := 1) (by eq_refl))) (by decide +kernel), ⟨by decide +kernel, by decide +kernel, by decide +kernel⟩, by decide⟩
set_option maxRecDepth 100000 in
theorem sX11_most : Cond.instanceMethod mX11_most.1 ∈ jdW ∧ Cond.selects mX11_most.1.cls mX11_most.1 mX11_most.1 ∈ jdW := ⟨jdW_in (tb3 (List.mem_of_getElem? (i := 222) (by eq_refl))) (by decide +kernel), jdW_in (tb3 (List.mem_of_getElem? (i := 223) (by eq_refl))) (by decide +kernel)⟩
abbrev mX11_mostOf : jdM := (yX11_mostOf, cX11_mostOf, 3, (some .int))
set_option maxRecDepth 100000 in
theorem kX11_mostOf : jdMc mX11_mostOf 2 := ⟨jdW_in (tb3 (List.mem_of_getElem? (i := 229) (by eq_refl))) (by decide +kernel), jdW_in (tb1 (List.mem_of_getElem? (i := 1) (by eq_refl))) (by decide +kernel), ⟨by decide +kernel, by decide +kernel, by decide +kernel⟩, by decide⟩
set_option maxRecDepth 100000 in
theorem sX11_mostOf : Cond.instanceMethod mX11_mostOf.1 ∈ jdW ∧ Cond.selects mX11_mostOf.1.cls mX11_mostOf.1 mX11_mostOf.1 ∈ jdW := ⟨jdW_in (tb3 (List.mem_of_getElem? (i := 227) (by eq_refl))) (by decide +kernel), jdW_in (tb3 (List.mem_of_getElem? (i := 228) (by eq_refl))) (by decide +kernel)⟩
abbrev mX11_sends : jdM := (yX11_sends, cX11_sends, 5, (some .int))
set_option maxRecDepth 100000 in
theorem kX11_sends : jdMc mX11_sends 3 := ⟨jdW_in (tb4 (List.mem_of_getElem? (i := 2) (by eq_refl))) (by decide +kernel), jdW_in (tb1 (List.mem_of_getElem? (i := 1) (by eq_refl))) (by decide +kernel), ⟨by decide +kernel, by decide +kernel, by decide +kernel⟩, by decide⟩
set_option maxRecDepth 100000 in
theorem sX11_sends : Cond.instanceMethod mX11_sends.1 ∈ jdW ∧ Cond.selects mX11_sends.1.cls mX11_sends.1 mX11_sends.1 ∈ jdW := ⟨jdW_in (tb4 (List.mem_of_getElem? (i := 0) (by eq_refl))) (by decide +kernel), jdW_in (tb4 (List.mem_of_getElem? (i := 1) (by eq_refl))) (by decide +kernel)⟩
abbrev mX11_run : jdM := (yX11_run, cX11_run, 3, (some .int))
set_option maxRecDepth 100000 in
theorem kX11_run : jdMc mX11_run 1 := ⟨jdW_in (tb4 (List.mem_of_getElem? (i := 6) (by eq_refl))) (by decide +kernel), jdW_in (tb1 (List.mem_of_getElem? (i := 1) (by eq_refl))) (by decide +kernel), ⟨by decide +kernel, by decide +kernel, by decide +kernel⟩, by decide⟩
set_option maxRecDepth 100000 in
theorem sX11_run : Cond.instanceMethod mX11_run.1 ∈ jdW ∧ Cond.selects mX11_run.1.cls mX11_run.1 mX11_run.1 ∈ jdW := ⟨jdW_in (tb4 (List.mem_of_getElem? (i := 4) (by eq_refl))) (by decide +kernel), jdW_in (tb4 (List.mem_of_getElem? (i := 5) (by eq_refl))) (by decide +kernel)⟩
abbrev mX11_coach : jdM := (yX11_coach, cX11_coach, 4, (some .int))
set_option maxRecDepth 100000 in
theorem kX11_coach : jdMc mX11_coach 2 := ⟨jdW_in (tb4 (List.mem_of_getElem? (i := 23) (by eq_refl))) (by decide +kernel), jdW_in (tb1 (List.mem_of_getElem? (i := 1) (by eq_refl))) (by decide +kernel), ⟨by decide +kernel, by decide +kernel, by decide +kernel⟩, by decide⟩
set_option maxRecDepth 100000 in
theorem sX11_coach : Cond.instanceMethod mX11_coach.1 ∈ jdW ∧ Cond.selects mX11_coach.1.cls mX11_coach.1 mX11_coach.1 ∈ jdW := ⟨jdW_in (tb4 (List.mem_of_getElem? (i := 21) (by eq_refl))) (by decide +kernel), jdW_in (tb4 (List.mem_of_getElem? (i := 22) (by eq_refl))) (by decide +kernel)⟩
abbrev mX11_left : jdM := (yX11_left, cX11_left, 3, (some .int))
set_option maxRecDepth 100000 in
theorem kX11_left : jdMc mX11_left 1 := ⟨jdW_in (tb4 (List.mem_of_getElem? (i := 31) (by eq_refl))) (by decide +kernel), jdW_in (tb1 (List.mem_of_getElem? (i := 1) (by eq_refl))) (by decide +kernel), ⟨by decide +kernel, by decide +kernel, by decide +kernel⟩, by decide⟩
set_option maxRecDepth 100000 in
theorem sX11_left : Cond.instanceMethod mX11_left.1 ∈ jdW ∧ Cond.selects mX11_left.1.cls mX11_left.1 mX11_left.1 ∈ jdW := ⟨jdW_in (tb4 (List.mem_of_getElem? (i := 29) (by eq_refl))) (by decide +kernel), jdW_in (tb4 (List.mem_of_getElem? (i := 30) (by eq_refl))) (by decide +kernel)⟩
abbrev mX11_waits : jdM := (yX11_waits, cX11_waits, 4, (some .int))
set_option maxRecDepth 100000 in
theorem kX11_waits : jdMc mX11_waits 2 := ⟨jdW_in (tb4 (List.mem_of_getElem? (i := 35) (by eq_refl))) (by decide +kernel), jdW_in (tb1 (List.mem_of_getElem? (i := 1) (by eq_refl))) (by decide +kernel), ⟨by decide +kernel, by decide +kernel, by decide +kernel⟩, by decide⟩
set_option maxRecDepth 100000 in
theorem sX11_waits : Cond.instanceMethod mX11_waits.1 ∈ jdW ∧ Cond.selects mX11_waits.1.cls mX11_waits.1 mX11_waits.1 ∈ jdW := ⟨jdW_in (tb4 (List.mem_of_getElem? (i := 33) (by eq_refl))) (by decide +kernel), jdW_in (tb4 (List.mem_of_getElem? (i := 34) (by eq_refl))) (by decide +kernel)⟩
abbrev mX11_least : jdM := (yX11_least, cX11_least, 2, (some .int))
set_option maxRecDepth 100000 in
theorem kX11_least : jdMc mX11_least 1 := ⟨jdW_in (tb4 (List.mem_of_getElem? (i := 48) (by eq_refl))) (by decide +kernel), jdW_in (tb1 (List.mem_of_getElem? (i := 1) (by eq_refl))) (by decide +kernel), ⟨by decide +kernel, by decide +kernel, by decide +kernel⟩, by decide⟩
set_option maxRecDepth 100000 in
theorem sX11_least : Cond.instanceMethod mX11_least.1 ∈ jdW ∧ Cond.selects mX11_least.1.cls mX11_least.1 mX11_least.1 ∈ jdW := ⟨jdW_in (tb4 (List.mem_of_getElem? (i := 46) (by eq_refl))) (by decide +kernel), jdW_in (tb4 (List.mem_of_getElem? (i := 47) (by eq_refl))) (by decide +kernel)⟩
abbrev mX11_head : jdM := (yX11_head, cX11_head, 6, (some .int))
set_option maxRecDepth 100000 in
theorem kX11_head : jdMc mX11_head 0 := ⟨jdW_in (tb4 (List.mem_of_getElem? (i := 80) (by eq_refl))) (by decide +kernel), jdW_in (tb1 (List.mem_of_getElem? (i := 1) (by eq_refl))) (by decide +kernel), ⟨by decide +kernel, by decide +kernel, by decide +kernel⟩, by decide⟩
set_option maxRecDepth 100000 in
theorem sX11_head : Cond.instanceMethod mX11_head.1 ∈ jdW ∧ Cond.selects mX11_head.1.cls mX11_head.1 mX11_head.1 ∈ jdW := ⟨jdW_in (tb4 (List.mem_of_getElem? (i := 78) (by eq_refl))) (by decide +kernel), jdW_in (tb4 (List.mem_of_getElem? (i := 79) (by eq_refl))) (by decide +kernel)⟩
abbrev mX11_days : jdM := (yX11_days, cX11_days, 5, (some .int))
set_option maxRecDepth 100000 in
theorem kX11_days : jdMc mX11_days 1 := ⟨jdW_in (tb4 (List.mem_of_getElem? (i := 84) (by eq_refl))) (by decide +kernel), jdW_in (tb1 (List.mem_of_getElem? (i := 1) (by eq_refl))) (by decide +kernel), ⟨by decide +kernel, by decide +kernel, by decide +kernel⟩, by decide⟩
set_option maxRecDepth 100000 in
theorem sX11_days : Cond.instanceMethod mX11_days.1 ∈ jdW ∧ Cond.selects mX11_days.1.cls mX11_days.1 mX11_days.1 ∈ jdW := ⟨jdW_in (tb4 (List.mem_of_getElem? (i := 82) (by eq_refl))) (by decide +kernel), jdW_in (tb4 (List.mem_of_getElem? (i := 83) (by eq_refl))) (by decide +kernel)⟩
abbrev mX11_ever : jdM := (yX11_ever, cX11_ever, 2, (some .int))
set_option maxRecDepth 100000 in
theorem kX11_ever : jdMc mX11_ever 1 := ⟨jdW_in (tb4 (List.mem_of_getElem? (i := 92) (by eq_refl))) (by decide +kernel), jdW_in (tb1 (List.mem_of_getElem? (i := 1) (by eq_refl))) (by decide +kernel), ⟨by decide +kernel, by decide +kernel, by decide +kernel⟩, by decide⟩
set_option maxRecDepth 100000 in
theorem sX11_ever : Cond.instanceMethod mX11_ever.1 ∈ jdW ∧ Cond.selects mX11_ever.1.cls mX11_ever.1 mX11_ever.1 ∈ jdW := ⟨jdW_in (tb4 (List.mem_of_getElem? (i := 90) (by eq_refl))) (by decide +kernel), jdW_in (tb4 (List.mem_of_getElem? (i := 91) (by eq_refl))) (by decide +kernel)⟩
abbrev mX11_hire : jdM := (yX11_hire, cX11_hire, 2, (some .int))
set_option maxRecDepth 100000 in
theorem kX11_hire : jdMc mX11_hire 0 := ⟨jdW_in (tb4 (List.mem_of_getElem? (i := 129) (by eq_refl))) (by decide +kernel), jdW_in (tb1 (List.mem_of_getElem? (i := 1) (by eq_refl))) (by decide +kernel), ⟨by decide +kernel, by decide +kernel, by decide +kernel⟩, by decide⟩
set_option maxRecDepth 100000 in
theorem sX11_hire : Cond.instanceMethod mX11_hire.1 ∈ jdW ∧ Cond.selects mX11_hire.1.cls mX11_hire.1 mX11_hire.1 ∈ jdW := ⟨jdW_in (tb4 (List.mem_of_getElem? (i := 127) (by eq_refl))) (by decide +kernel), jdW_in (tb4 (List.mem_of_getElem? (i := 128) (by eq_refl))) (by decide +kernel)⟩
abbrev mX11_feast : jdM := (yX11_feast, cX11_feast, 3, (some .int))
set_option maxRecDepth 100000 in
theorem kX11_feast : jdMc mX11_feast 1 := ⟨jdW_in (tb4 (List.mem_of_getElem? (i := 137) (by eq_refl))) (by decide +kernel), jdW_in (tb1 (List.mem_of_getElem? (i := 1) (by eq_refl))) (by decide +kernel), ⟨by decide +kernel, by decide +kernel, by decide +kernel⟩, by decide⟩
set_option maxRecDepth 100000 in
theorem sX11_feast : Cond.instanceMethod mX11_feast.1 ∈ jdW ∧ Cond.selects mX11_feast.1.cls mX11_feast.1 mX11_feast.1 ∈ jdW := ⟨jdW_in (tb4 (List.mem_of_getElem? (i := 135) (by eq_refl))) (by decide +kernel), jdW_in (tb4 (List.mem_of_getElem? (i := 136) (by eq_refl))) (by decide +kernel)⟩
abbrev mX11_closes : jdM := (yX11_closes, cX11_closes, 3, (some .int))
set_option maxRecDepth 100000 in
theorem kX11_closes : jdMc mX11_closes 2 := ⟨jdW_in (tb4 (List.mem_of_getElem? (i := 141) (by eq_refl))) (by decide +kernel), jdW_in (tb1 (List.mem_of_getElem? (i := 1) (by eq_refl))) (by decide +kernel), ⟨by decide +kernel, by decide +kernel, by decide +kernel⟩, by decide⟩
set_option maxRecDepth 100000 in
theorem sX11_closes : Cond.instanceMethod mX11_closes.1 ∈ jdW ∧ Cond.selects mX11_closes.1.cls mX11_closes.1 mX11_closes.1 ∈ jdW := ⟨jdW_in (tb4 (List.mem_of_getElem? (i := 139) (by eq_refl))) (by decide +kernel), jdW_in (tb4 (List.mem_of_getElem? (i := 140) (by eq_refl))) (by decide +kernel)⟩
abbrev mX11_worst : jdM := (yX11_worst, cX11_worst, 2, (some .int))
set_option maxRecDepth 100000 in
theorem kX11_worst : jdMc mX11_worst 0 := ⟨jdW_in (tb4 (List.mem_of_getElem? (i := 149) (by eq_refl))) (by decide +kernel), jdW_in (tb1 (List.mem_of_getElem? (i := 1) (by eq_refl))) (by decide +kernel), ⟨by decide +kernel, by decide +kernel, by decide +kernel⟩, by decide⟩
set_option maxRecDepth 100000 in
theorem sX11_worst : Cond.instanceMethod mX11_worst.1 ∈ jdW ∧ Cond.selects mX11_worst.1.cls mX11_worst.1 mX11_worst.1 ∈ jdW := ⟨jdW_in (tb4 (List.mem_of_getElem? (i := 147) (by eq_refl))) (by decide +kernel), jdW_in (tb4 (List.mem_of_getElem? (i := 148) (by eq_refl))) (by decide +kernel)⟩
abbrev mX11_fits : jdM := (yX11_fits, cX11_fits, 2, (some .int))
set_option maxRecDepth 100000 in
theorem kX11_fits : jdMc mX11_fits 1 := ⟨jdW_in (tb4 (List.mem_of_getElem? (i := 158) (by eq_refl))) (by decide +kernel), jdW_in (tb1 (List.mem_of_getElem? (i := 1) (by eq_refl))) (by decide +kernel), ⟨by decide +kernel, by decide +kernel, by decide +kernel⟩, by decide⟩
set_option maxRecDepth 100000 in
theorem sX11_fits : Cond.instanceMethod mX11_fits.1 ∈ jdW ∧ Cond.selects mX11_fits.1.cls mX11_fits.1 mX11_fits.1 ∈ jdW := ⟨jdW_in (tb4 (List.mem_of_getElem? (i := 156) (by eq_refl))) (by decide +kernel), jdW_in (tb4 (List.mem_of_getElem? (i := 157) (by eq_refl))) (by decide +kernel)⟩
abbrev mX11_sure : jdM := (yX11_sure, cX11_sure, 3, (some .int))
set_option maxRecDepth 100000 in
theorem kX11_sure : jdMc mX11_sure 1 := ⟨jdW_in (tb4 (List.mem_of_getElem? (i := 178) (by eq_refl))) (by decide +kernel), jdW_in (tb1 (List.mem_of_getElem? (i := 1) (by eq_refl))) (by decide +kernel), ⟨by decide +kernel, by decide +kernel, by decide +kernel⟩, by decide⟩
set_option maxRecDepth 100000 in
theorem sX11_sure : Cond.instanceMethod mX11_sure.1 ∈ jdW ∧ Cond.selects mX11_sure.1.cls mX11_sure.1 mX11_sure.1 ∈ jdW := ⟨jdW_in (tb4 (List.mem_of_getElem? (i := 176) (by eq_refl))) (by decide +kernel), jdW_in (tb4 (List.mem_of_getElem? (i := 177) (by eq_refl))) (by decide +kernel)⟩
abbrev mX11_judge : jdM := (yX11_judge, cX11_judge, 4, (some .int))
set_option maxRecDepth 100000 in
theorem kX11_judge : jdMc mX11_judge 2 := ⟨jdW_in (tb4 (List.mem_of_getElem? (i := 187) (by eq_refl))) (by decide +kernel), jdW_in (tb1 (List.mem_of_getElem? (i := 1) (by eq_refl))) (by decide +kernel), ⟨by decide +kernel, by decide +kernel, by decide +kernel⟩, by decide⟩
set_option maxRecDepth 100000 in
theorem sX11_judge : Cond.instanceMethod mX11_judge.1 ∈ jdW ∧ Cond.selects mX11_judge.1.cls mX11_judge.1 mX11_judge.1 ∈ jdW := ⟨jdW_in (tb4 (List.mem_of_getElem? (i := 185) (by eq_refl))) (by decide +kernel), jdW_in (tb4 (List.mem_of_getElem? (i := 186) (by eq_refl))) (by decide +kernel)⟩
abbrev mX11_behind : jdM := (yX11_behind, cX11_behind, 8, (some .int))
set_option maxRecDepth 100000 in
theorem kX11_behind : jdMc mX11_behind 3 := ⟨jdW_in (tb4 (List.mem_of_getElem? (i := 199) (by eq_refl))) (by decide +kernel), jdW_in (tb1 (List.mem_of_getElem? (i := 1) (by eq_refl))) (by decide +kernel), ⟨by decide +kernel, by decide +kernel, by decide +kernel⟩, by decide⟩
set_option maxRecDepth 100000 in
theorem sX11_behind : Cond.instanceMethod mX11_behind.1 ∈ jdW ∧ Cond.selects mX11_behind.1.cls mX11_behind.1 mX11_behind.1 ∈ jdW := ⟨jdW_in (tb4 (List.mem_of_getElem? (i := 197) (by eq_refl))) (by decide +kernel), jdW_in (tb4 (List.mem_of_getElem? (i := 198) (by eq_refl))) (by decide +kernel)⟩
abbrev mX11_rides : jdM := (yX11_rides, cX11_rides, 5, (some .int))
set_option maxRecDepth 100000 in
theorem kX11_rides : jdMc mX11_rides 2 := ⟨jdW_in (tb4 (List.mem_of_getElem? (i := 207) (by eq_refl))) (by decide +kernel), jdW_in (tb1 (List.mem_of_getElem? (i := 1) (by eq_refl))) (by decide +kernel), ⟨by decide +kernel, by decide +kernel, by decide +kernel⟩, by decide⟩
set_option maxRecDepth 100000 in
theorem sX11_rides : Cond.instanceMethod mX11_rides.1 ∈ jdW ∧ Cond.selects mX11_rides.1.cls mX11_rides.1 mX11_rides.1 ∈ jdW := ⟨jdW_in (tb4 (List.mem_of_getElem? (i := 205) (by eq_refl))) (by decide +kernel), jdW_in (tb4 (List.mem_of_getElem? (i := 206) (by eq_refl))) (by decide +kernel)⟩
abbrev mX11_day : jdM := (yX11_day, cX11_day, 4, (some .int))
set_option maxRecDepth 100000 in
theorem kX11_day : jdMc mX11_day 1 := ⟨jdW_in (tb4 (List.mem_of_getElem? (i := 216) (by eq_refl))) (by decide +kernel), jdW_in (tb1 (List.mem_of_getElem? (i := 1) (by eq_refl))) (by decide +kernel), ⟨by decide +kernel, by decide +kernel, by decide +kernel⟩, by decide⟩
set_option maxRecDepth 100000 in
theorem sX11_day : Cond.instanceMethod mX11_day.1 ∈ jdW ∧ Cond.selects mX11_day.1.cls mX11_day.1 mX11_day.1 ∈ jdW := ⟨jdW_in (tb4 (List.mem_of_getElem? (i := 214) (by eq_refl))) (by decide +kernel), jdW_in (tb4 (List.mem_of_getElem? (i := 215) (by eq_refl))) (by decide +kernel)⟩
abbrev mX11_meet : jdM := (yX11_meet, cX11_meet, 2, (some .int))
set_option maxRecDepth 100000 in
theorem kX11_meet : jdMc mX11_meet 1 := ⟨jdW_in (tb4 (List.mem_of_getElem? (i := 220) (by eq_refl))) (by decide +kernel), jdW_in (tb1 (List.mem_of_getElem? (i := 1) (by eq_refl))) (by decide +kernel), ⟨by decide +kernel, by decide +kernel, by decide +kernel⟩, by decide⟩
set_option maxRecDepth 100000 in
theorem sX11_meet : Cond.instanceMethod mX11_meet.1 ∈ jdW ∧ Cond.selects mX11_meet.1.cls mX11_meet.1 mX11_meet.1 ∈ jdW := ⟨jdW_in (tb4 (List.mem_of_getElem? (i := 218) (by eq_refl))) (by decide +kernel), jdW_in (tb4 (List.mem_of_getElem? (i := 219) (by eq_refl))) (by decide +kernel)⟩
abbrev mX11_year : jdM := (yX11_year, cX11_year, 1, (some .int))
set_option maxRecDepth 100000 in
theorem kX11_year : jdMc mX11_year 0 := ⟨jdW_in (tb4 (List.mem_of_getElem? (i := 224) (by eq_refl))) (by decide +kernel), jdW_in (tb1 (List.mem_of_getElem? (i := 1) (by eq_refl))) (by decide +kernel), ⟨by decide +kernel, by decide +kernel, by decide +kernel⟩, by decide⟩
set_option maxRecDepth 100000 in
theorem sX11_year : Cond.instanceMethod mX11_year.1 ∈ jdW ∧ Cond.selects mX11_year.1.cls mX11_year.1 mX11_year.1 ∈ jdW := ⟨jdW_in (tb4 (List.mem_of_getElem? (i := 222) (by eq_refl))) (by decide +kernel), jdW_in (tb4 (List.mem_of_getElem? (i := 223) (by eq_refl))) (by decide +kernel)⟩
abbrev mX11_come : jdM := (yX11_come, cX11_come, 4, (some .int))
set_option maxRecDepth 100000 in
theorem kX11_come : jdMc mX11_come 1 := ⟨jdW_in (tb4 (List.mem_of_getElem? (i := 233) (by eq_refl))) (by decide +kernel), jdW_in (tb1 (List.mem_of_getElem? (i := 1) (by eq_refl))) (by decide +kernel), ⟨by decide +kernel, by decide +kernel, by decide +kernel⟩, by decide⟩
set_option maxRecDepth 100000 in
theorem sX11_come : Cond.instanceMethod mX11_come.1 ∈ jdW ∧ Cond.selects mX11_come.1.cls mX11_come.1 mX11_come.1 ∈ jdW := ⟨jdW_in (tb4 (List.mem_of_getElem? (i := 231) (by eq_refl))) (by decide +kernel), jdW_in (tb4 (List.mem_of_getElem? (i := 232) (by eq_refl))) (by decide +kernel)⟩
abbrev mX11_seed : jdM := (yX11_seed, cX11_seed, 3, (some .int))
set_option maxRecDepth 100000 in
theorem kX11_seed : jdMc mX11_seed 1 := ⟨jdW_in (tb5 (List.mem_of_getElem? (i := 8) (by eq_refl))) (by decide +kernel), jdW_in (tb1 (List.mem_of_getElem? (i := 1) (by eq_refl))) (by decide +kernel), ⟨by decide +kernel, by decide +kernel, by decide +kernel⟩, by decide⟩
set_option maxRecDepth 100000 in
theorem sX11_seed : Cond.instanceMethod mX11_seed.1 ∈ jdW ∧ Cond.selects mX11_seed.1.cls mX11_seed.1 mX11_seed.1 ∈ jdW := ⟨jdW_in (tb5 (List.mem_of_getElem? (i := 6) (by eq_refl))) (by decide +kernel), jdW_in (tb5 (List.mem_of_getElem? (i := 7) (by eq_refl))) (by decide +kernel)⟩
abbrev mX11_image : jdM := (yX11_image, cX11_image, 1, (some .int))
set_option maxRecDepth 100000 in
theorem kX11_image : jdMc mX11_image 0 := ⟨jdW_in (tb5 (List.mem_of_getElem? (i := 12) (by eq_refl))) (by decide +kernel), jdW_in (tb1 (List.mem_of_getElem? (i := 1) (by eq_refl))) (by decide +kernel), ⟨by decide +kernel, by decide +kernel, by decide +kernel⟩, by decide⟩
set_option maxRecDepth 100000 in
theorem sX11_image : Cond.instanceMethod mX11_image.1 ∈ jdW ∧ Cond.selects mX11_image.1.cls mX11_image.1 mX11_image.1 ∈ jdW := ⟨jdW_in (tb5 (List.mem_of_getElem? (i := 10) (by eq_refl))) (by decide +kernel), jdW_in (tb5 (List.mem_of_getElem? (i := 11) (by eq_refl))) (by decide +kernel)⟩
abbrev mX11_back : jdM := (yX11_back, cX11_back, 1, (some .int))
set_option maxRecDepth 100000 in
theorem kX11_back : jdMc mX11_back 0 := ⟨jdW_in (tb5 (List.mem_of_getElem? (i := 16) (by eq_refl))) (by decide +kernel), jdW_in (tb1 (List.mem_of_getElem? (i := 1) (by eq_refl))) (by decide +kernel), ⟨by decide +kernel, by decide +kernel, by decide +kernel⟩, by decide⟩
set_option maxRecDepth 100000 in
theorem sX11_back : Cond.instanceMethod mX11_back.1 ∈ jdW ∧ Cond.selects mX11_back.1.cls mX11_back.1 mX11_back.1 ∈ jdW := ⟨jdW_in (tb5 (List.mem_of_getElem? (i := 14) (by eq_refl))) (by decide +kernel), jdW_in (tb5 (List.mem_of_getElem? (i := 15) (by eq_refl))) (by decide +kernel)⟩
abbrev mX11_status : jdM := (yX11_status, cX11_status, 2, (some .int))
set_option maxRecDepth 100000 in
theorem kX11_status : jdMc mX11_status 1 := ⟨jdW_in (tb5 (List.mem_of_getElem? (i := 20) (by eq_refl))) (by decide +kernel), jdW_in (tb1 (List.mem_of_getElem? (i := 1) (by eq_refl))) (by decide +kernel), ⟨by decide +kernel, by decide +kernel, by decide +kernel⟩, by decide⟩
set_option maxRecDepth 100000 in
theorem sX11_status : Cond.instanceMethod mX11_status.1 ∈ jdW ∧ Cond.selects mX11_status.1.cls mX11_status.1 mX11_status.1 ∈ jdW := ⟨jdW_in (tb5 (List.mem_of_getElem? (i := 18) (by eq_refl))) (by decide +kernel), jdW_in (tb5 (List.mem_of_getElem? (i := 19) (by eq_refl))) (by decide +kernel)⟩
abbrev mX11_refuse : jdM := (yX11_refuse, cX11_refuse, 2, (some .int))
set_option maxRecDepth 100000 in
theorem kX11_refuse : jdMc mX11_refuse 1 := ⟨jdW_in (tb2 (List.mem_of_getElem? (i := 9) (by eq_refl))) (by decide +kernel), jdW_in (tb1 (List.mem_of_getElem? (i := 1) (by eq_refl))) (by decide +kernel), ⟨by decide +kernel, by decide +kernel, by decide +kernel⟩, by decide⟩
set_option maxRecDepth 100000 in
theorem sX11_refuse : Cond.instanceMethod mX11_refuse.1 ∈ jdW ∧ Cond.selects mX11_refuse.1.cls mX11_refuse.1 mX11_refuse.1 ∈ jdW := ⟨jdW_in (tb2 (List.mem_of_getElem? (i := 8) (by eq_refl))) (by decide +kernel), jdW_in (List.mem_of_getElem? (i := 0) (by eq_refl)) (by decide +kernel)⟩
abbrev mX11_isShelf : jdM := (yX11_isShelf, cX11_isShelf, 1, (some .boolean))
set_option maxRecDepth 100000 in
theorem kX11_isShelf : jdMc mX11_isShelf 1 := ⟨jdW_in (tb2 (List.mem_of_getElem? (i := 5) (by eq_refl))) (by decide +kernel), jdW_in (tb1 (List.mem_of_getElem? (i := 1) (by eq_refl))) (by decide +kernel), ⟨by decide +kernel, by decide +kernel, by decide +kernel⟩, by decide⟩
set_option maxRecDepth 100000 in
theorem sX11_isShelf : Cond.static mX11_isShelf.1 ∈ jdW := jdW_in (tb2 (List.mem_of_getElem? (i := 4) (by eq_refl))) (by decide +kernel)
abbrev mX11_isHour : jdM := (yX11_isHour, cX11_isHour, 1, (some .boolean))
set_option maxRecDepth 100000 in
theorem kX11_isHour : jdMc mX11_isHour 1 := ⟨jdW_in (tb3 (List.mem_of_getElem? (i := 12) (by eq_refl))) (by decide +kernel), jdW_in (tb1 (List.mem_of_getElem? (i := 1) (by eq_refl))) (by decide +kernel), ⟨by decide +kernel, by decide +kernel, by decide +kernel⟩, by decide⟩
set_option maxRecDepth 100000 in
theorem sX11_isHour : Cond.static mX11_isHour.1 ∈ jdW := jdW_in (tb3 (List.mem_of_getElem? (i := 11) (by eq_refl))) (by decide +kernel)
abbrev mX11_isCost : jdM := (yX11_isCost, cX11_isCost, 1, (some .boolean))
set_option maxRecDepth 100000 in
theorem kX11_isCost : jdMc mX11_isCost 1 := ⟨jdW_in (tb3 (List.mem_of_getElem? (i := 15) (by eq_refl))) (by decide +kernel), jdW_in (tb1 (List.mem_of_getElem? (i := 1) (by eq_refl))) (by decide +kernel), ⟨by decide +kernel, by decide +kernel, by decide +kernel⟩, by decide⟩
set_option maxRecDepth 100000 in
theorem sX11_isCost : Cond.static mX11_isCost.1 ∈ jdW := jdW_in (tb3 (List.mem_of_getElem? (i := 14) (by eq_refl))) (by decide +kernel)
abbrev mX11_canBeSecret : jdM := (yX11_canBeSecret, cX11_canBeSecret, 2, (some .boolean))
set_option maxRecDepth 100000 in
theorem kX11_canBeSecret : jdMc mX11_canBeSecret 1 := ⟨jdW_in (tb4 (List.mem_of_getElem? (i := 162) (by eq_refl))) (by decide +kernel), jdW_in (tb1 (List.mem_of_getElem? (i := 1) (by eq_refl))) (by decide +kernel), ⟨by decide +kernel, by decide +kernel, by decide +kernel⟩, by decide⟩
set_option maxRecDepth 100000 in
theorem sX11_canBeSecret : Cond.instanceMethod mX11_canBeSecret.1 ∈ jdW ∧ Cond.selects mX11_canBeSecret.1.cls mX11_canBeSecret.1 mX11_canBeSecret.1 ∈ jdW := ⟨jdW_in (tb4 (List.mem_of_getElem? (i := 161) (by eq_refl))) (by decide +kernel), jdW_in (List.mem_of_getElem? (i := 28) (by eq_refl)) (by decide +kernel)⟩
abbrev mX11_holdsRow : jdM := (yX11_holdsRow, cX11_holdsRow, 2, (some .boolean))
set_option maxRecDepth 100000 in
theorem kX11_holdsRow : jdMc mX11_holdsRow 1 := ⟨jdW_in (tb2 (List.mem_of_getElem? (i := 21) (by eq_refl))) (by decide +kernel), jdW_in (tb1 (List.mem_of_getElem? (i := 1) (by eq_refl))) (by decide +kernel), ⟨by decide +kernel, by decide +kernel, by decide +kernel⟩, by decide⟩
set_option maxRecDepth 100000 in
theorem sX11_holdsRow : Cond.instanceMethod mX11_holdsRow.1 ∈ jdW ∧ Cond.selects mX11_holdsRow.1.cls mX11_holdsRow.1 mX11_holdsRow.1 ∈ jdW := ⟨jdW_in (tb2 (List.mem_of_getElem? (i := 20) (by eq_refl))) (by decide +kernel), jdW_in (List.mem_of_getElem? (i := 1) (by eq_refl)) (by decide +kernel)⟩
abbrev mX11_whyNoRow : jdM := (yX11_whyNoRow, cX11_whyNoRow, 2, (some .int))
set_option maxRecDepth 100000 in
theorem kX11_whyNoRow : jdMc mX11_whyNoRow 1 := ⟨jdW_in (tb2 (List.mem_of_getElem? (i := 29) (by eq_refl))) (by decide +kernel), jdW_in (tb1 (List.mem_of_getElem? (i := 1) (by eq_refl))) (by decide +kernel), ⟨by decide +kernel, by decide +kernel, by decide +kernel⟩, by decide⟩
set_option maxRecDepth 100000 in
theorem sX11_whyNoRow : Cond.instanceMethod mX11_whyNoRow.1 ∈ jdW ∧ Cond.selects mX11_whyNoRow.1.cls mX11_whyNoRow.1 mX11_whyNoRow.1 ∈ jdW := ⟨jdW_in (tb2 (List.mem_of_getElem? (i := 28) (by eq_refl))) (by decide +kernel), jdW_in (List.mem_of_getElem? (i := 2) (by eq_refl)) (by decide +kernel)⟩
abbrev mX11_manIn : jdM := (yX11_manIn, cX11_manIn, 2, (some (.object "ThreeStrangers$Coachman")))
set_option maxRecDepth 100000 in
theorem kX11_manIn : jdMc mX11_manIn 1 := ⟨jdW_in (tb2 (List.mem_of_getElem? (i := 134) (by eq_refl))) (by decide +kernel), jdW_in (tb1 (List.mem_of_getElem? (i := 1) (by eq_refl))) (by decide +kernel), ⟨by decide +kernel, by decide +kernel, by decide +kernel⟩, by decide⟩
set_option maxRecDepth 100000 in
theorem sX11_manIn : Cond.instanceMethod mX11_manIn.1 ∈ jdW ∧ Cond.selects mX11_manIn.1.cls mX11_manIn.1 mX11_manIn.1 ∈ jdW := ⟨jdW_in (tb2 (List.mem_of_getElem? (i := 133) (by eq_refl))) (by decide +kernel), jdW_in (List.mem_of_getElem? (i := 4) (by eq_refl)) (by decide +kernel)⟩
abbrev mX11_whyNoMan : jdM := (yX11_whyNoMan, cX11_whyNoMan, 2, (some .int))
set_option maxRecDepth 100000 in
theorem kX11_whyNoMan : jdMc mX11_whyNoMan 1 := ⟨jdW_in (tb2 (List.mem_of_getElem? (i := 138) (by eq_refl))) (by decide +kernel), jdW_in (tb1 (List.mem_of_getElem? (i := 1) (by eq_refl))) (by decide +kernel), ⟨by decide +kernel, by decide +kernel, by decide +kernel⟩, by decide⟩
set_option maxRecDepth 100000 in
theorem sX11_whyNoMan : Cond.instanceMethod mX11_whyNoMan.1 ∈ jdW ∧ Cond.selects mX11_whyNoMan.1.cls mX11_whyNoMan.1 mX11_whyNoMan.1 ∈ jdW := ⟨jdW_in (tb2 (List.mem_of_getElem? (i := 137) (by eq_refl))) (by decide +kernel), jdW_in (List.mem_of_getElem? (i := 5) (by eq_refl)) (by decide +kernel)⟩
abbrev mX11_countHeld : jdM := (yX11_countHeld, cX11_countHeld, 3, (some .int))
set_option maxRecDepth 100000 in
theorem kX11_countHeld : jdMc mX11_countHeld 0 := ⟨jdW_in (tb5 (List.mem_of_getElem? (i := 30) (by eq_refl))) (by decide +kernel), jdW_in (tb1 (List.mem_of_getElem? (i := 1) (by eq_refl))) (by decide +kernel), ⟨by decide +kernel, by decide +kernel, by decide +kernel⟩, by decide⟩
set_option maxRecDepth 100000 in
theorem sX11_countHeld : Cond.instanceMethod mX11_countHeld.1 ∈ jdW ∧ Cond.selects mX11_countHeld.1.cls mX11_countHeld.1 mX11_countHeld.1 ∈ jdW := ⟨jdW_in (tb5 (List.mem_of_getElem? (i := 29) (by eq_refl))) (by decide +kernel), jdW_in (List.mem_of_getElem? (i := 35) (by eq_refl)) (by decide +kernel)⟩
abbrev mX11_newCoachman : jdM := (yX11_newCoachman, cX11_newCoachman, 2, (some (.object "ThreeStrangers$Coachman")))
set_option maxRecDepth 100000 in
theorem kX11_newCoachman : jdMc mX11_newCoachman 2 := ⟨jdW_in (tb2 (List.mem_of_getElem? (i := 77) (by eq_refl))) (by decide +kernel), jdW_in (tb1 (List.mem_of_getElem? (i := 1) (by eq_refl))) (by decide +kernel), ⟨by decide +kernel, by decide +kernel, by decide +kernel⟩, by decide⟩
set_option maxRecDepth 100000 in
theorem sX11_newCoachman : Cond.static mX11_newCoachman.1 ∈ jdW := jdW_in (tb2 (List.mem_of_getElem? (i := 76) (by eq_refl))) (by decide +kernel)
abbrev mX11_think : jdM := (yX11_think, cX11_think, 2, none)
set_option maxRecDepth 100000 in
theorem kX11_think : jdMc mX11_think 1 := ⟨jdW_in (tb4 (List.mem_of_getElem? (i := 10) (by eq_refl))) (by decide +kernel), jdW_in (tb1 (List.mem_of_getElem? (i := 1) (by eq_refl))) (by decide +kernel), ⟨by decide +kernel, by decide +kernel, by decide +kernel⟩, by decide⟩
set_option maxRecDepth 100000 in
theorem sX11_think : Cond.instanceMethod mX11_think.1 ∈ jdW ∧ Cond.selects mX11_think.1.cls mX11_think.1 mX11_think.1 ∈ jdW := ⟨jdW_in (tb4 (List.mem_of_getElem? (i := 9) (by eq_refl))) (by decide +kernel), jdW_in (List.mem_of_getElem? (i := 20) (by eq_refl)) (by decide +kernel)⟩
abbrev mX11_whyNotTold : jdM := (yX11_whyNotTold, cX11_whyNotTold, 3, (some .int))
set_option maxRecDepth 100000 in
theorem kX11_whyNotTold : jdMc mX11_whyNotTold 2 := ⟨jdW_in (tb4 (List.mem_of_getElem? (i := 191) (by eq_refl))) (by decide +kernel), jdW_in (tb1 (List.mem_of_getElem? (i := 1) (by eq_refl))) (by decide +kernel), ⟨by decide +kernel, by decide +kernel, by decide +kernel⟩, by decide⟩
set_option maxRecDepth 100000 in
theorem sX11_whyNotTold : Cond.instanceMethod mX11_whyNotTold.1 ∈ jdW ∧ Cond.selects mX11_whyNotTold.1.cls mX11_whyNotTold.1 mX11_whyNotTold.1 ∈ jdW := ⟨jdW_in (tb4 (List.mem_of_getElem? (i := 190) (by eq_refl))) (by decide +kernel), jdW_in (List.mem_of_getElem? (i := 31) (by eq_refl)) (by decide +kernel)⟩
abbrev mX11_whyNotRidden : jdM := (yX11_whyNotRidden, cX11_whyNotRidden, 4, (some .int))
set_option maxRecDepth 100000 in
theorem kX11_whyNotRidden : jdMc mX11_whyNotRidden 2 := ⟨jdW_in (tb4 (List.mem_of_getElem? (i := 203) (by eq_refl))) (by decide +kernel), jdW_in (tb1 (List.mem_of_getElem? (i := 1) (by eq_refl))) (by decide +kernel), ⟨by decide +kernel, by decide +kernel, by decide +kernel⟩, by decide⟩
set_option maxRecDepth 100000 in
theorem sX11_whyNotRidden : Cond.instanceMethod mX11_whyNotRidden.1 ∈ jdW ∧ Cond.selects mX11_whyNotRidden.1.cls mX11_whyNotRidden.1 mX11_whyNotRidden.1 ∈ jdW := ⟨jdW_in (tb4 (List.mem_of_getElem? (i := 202) (by eq_refl))) (by decide +kernel), jdW_in (List.mem_of_getElem? (i := 33) (by eq_refl)) (by decide +kernel)⟩
abbrev mX11_firstWrong : jdM := (yX11_firstWrong, cX11_firstWrong, 8, (some .int))
set_option maxRecDepth 100000 in
theorem kX11_firstWrong : jdMc mX11_firstWrong 2 := ⟨jdW_in (tb4 (List.mem_of_getElem? (i := 195) (by eq_refl))) (by decide +kernel), jdW_in (tb1 (List.mem_of_getElem? (i := 1) (by eq_refl))) (by decide +kernel), ⟨by decide +kernel, by decide +kernel, by decide +kernel⟩, by decide⟩
set_option maxRecDepth 100000 in
theorem sX11_firstWrong : Cond.instanceMethod mX11_firstWrong.1 ∈ jdW ∧ Cond.selects mX11_firstWrong.1.cls mX11_firstWrong.1 mX11_firstWrong.1 ∈ jdW := ⟨jdW_in (tb4 (List.mem_of_getElem? (i := 194) (by eq_refl))) (by decide +kernel), jdW_in (List.mem_of_getElem? (i := 32) (by eq_refl)) (by decide +kernel)⟩
abbrev mX12_init : jdM := (yX12_init, cX12_init, 1, none)
set_option maxRecDepth 100000 in
theorem kX12_init : jdMc mX12_init 0 := ⟨jdW_in (tb5 (List.mem_of_getElem? (i := 35) (by eq_refl))) (by decide +kernel), jdW_in (tb1 (List.mem_of_getElem? (i := 7) (by eq_refl))) (by decide +kernel), ⟨by decide +kernel, by decide +kernel, by decide +kernel⟩, by decide⟩
set_option maxRecDepth 100000 in
theorem sX12_init : mX12_init.1.name = "<init>" ∧ Cond.instanceMethod mX12_init.1 ∈ jdW ∧ mX12_init.2.2.2 = none := ⟨rfl, jdW_in (tb5 (List.mem_of_getElem? (i := 34) (by eq_refl))) (by decide +kernel), rfl⟩
abbrev mX12_refuse : jdM := (yX12_refuse, cX12_refuse, 2, (some .int))
set_option maxRecDepth 100000 in
theorem kX12_refuse : jdMc mX12_refuse 1 := ⟨jdW_in (tb5 (List.mem_of_getElem? (i := 190) (by eq_refl))) (by decide +kernel), jdW_in (tb1 (List.mem_of_getElem? (i := 7) (by eq_refl))) (by decide +kernel), ⟨by decide +kernel, by decide +kernel, by decide +kernel⟩, by decide⟩
set_option maxRecDepth 100000 in
theorem sX12_refuse : Cond.instanceMethod mX12_refuse.1 ∈ jdW ∧ Cond.selects mX12_refuse.1.cls mX12_refuse.1 mX12_refuse.1 ∈ jdW := ⟨jdW_in (tb5 (List.mem_of_getElem? (i := 189) (by eq_refl))) (by decide +kernel), jdW_in (List.mem_of_getElem? (i := 36) (by eq_refl)) (by decide +kernel)⟩
abbrev mX12_in : jdM := (yX12_in, cX12_in, 6, (some .boolean))
set_option maxRecDepth 100000 in
theorem kX12_in : jdMc mX12_in 3 := ⟨jdW_in (tb5 (List.mem_of_getElem? (i := 184) (by eq_refl))) (by decide +kernel), jdW_in (tb1 (List.mem_of_getElem? (i := 7) (by eq_refl))) (by decide +kernel), ⟨by decide +kernel, by decide +kernel, by decide +kernel⟩, by decide⟩
set_option maxRecDepth 100000 in
theorem sX12_in : Cond.static mX12_in.1 ∈ jdW := jdW_in (tb5 (List.mem_of_getElem? (i := 183) (by eq_refl))) (by decide +kernel)
abbrev mX12_isOne : jdM := (yX12_isOne, cX12_isOne, 2, (some .boolean))
set_option maxRecDepth 100000 in
theorem kX12_isOne : jdMc mX12_isOne 1 := ⟨jdW_in (tb6 (List.mem_of_getElem? (i := 49) (by eq_refl))) (by decide +kernel), jdW_in (tb1 (List.mem_of_getElem? (i := 7) (by eq_refl))) (by decide +kernel), ⟨by decide +kernel, by decide +kernel, by decide +kernel⟩, by decide⟩
set_option maxRecDepth 100000 in
theorem sX12_isOne : Cond.instanceMethod mX12_isOne.1 ∈ jdW ∧ Cond.selects mX12_isOne.1.cls mX12_isOne.1 mX12_isOne.1 ∈ jdW := ⟨jdW_in (tb6 (List.mem_of_getElem? (i := 48) (by eq_refl))) (by decide +kernel), jdW_in (List.mem_of_getElem? (i := 49) (by eq_refl)) (by decide +kernel)⟩
abbrev mX12_all : jdM := (yX12_all, cX12_all, 1, (some .int))
set_option maxRecDepth 100000 in
theorem kX12_all : jdMc mX12_all 0 := ⟨jdW_in (tb5 (List.mem_of_getElem? (i := 230) (by eq_refl))) (by decide +kernel), jdW_in (tb1 (List.mem_of_getElem? (i := 7) (by eq_refl))) (by decide +kernel), ⟨by decide +kernel, by decide +kernel, by decide +kernel⟩, by decide⟩
set_option maxRecDepth 100000 in
theorem sX12_all : Cond.instanceMethod mX12_all.1 ∈ jdW ∧ Cond.selects mX12_all.1.cls mX12_all.1 mX12_all.1 ∈ jdW := ⟨jdW_in (tb5 (List.mem_of_getElem? (i := 229) (by eq_refl))) (by decide +kernel), jdW_in (List.mem_of_getElem? (i := 38) (by eq_refl)) (by decide +kernel)⟩
abbrev mX12_isSet : jdM := (yX12_isSet, cX12_isSet, 2, (some .boolean))
set_option maxRecDepth 100000 in
theorem kX12_isSet : jdMc mX12_isSet 1 := ⟨jdW_in (tb6 (List.mem_of_getElem? (i := 171) (by eq_refl))) (by decide +kernel), jdW_in (tb1 (List.mem_of_getElem? (i := 7) (by eq_refl))) (by decide +kernel), ⟨by decide +kernel, by decide +kernel, by decide +kernel⟩, by decide⟩
set_option maxRecDepth 100000 in
theorem sX12_isSet : Cond.instanceMethod mX12_isSet.1 ∈ jdW ∧ Cond.selects mX12_isSet.1.cls mX12_isSet.1 mX12_isSet.1 ∈ jdW := ⟨jdW_in (tb6 (List.mem_of_getElem? (i := 170) (by eq_refl))) (by decide +kernel), jdW_in (List.mem_of_getElem? (i := 65) (by eq_refl)) (by decide +kernel)⟩
abbrev mX12_has : jdM := (yX12_has, cX12_has, 2, (some .boolean))
set_option maxRecDepth 100000 in
theorem kX12_has : jdMc mX12_has 2 := ⟨jdW_in (tb6 (List.mem_of_getElem? (i := 5) (by eq_refl))) (by decide +kernel), jdW_in (tb1 (List.mem_of_getElem? (i := 7) (by eq_refl))) (by decide +kernel), ⟨by decide +kernel, by decide +kernel, by decide +kernel⟩, by decide⟩
set_option maxRecDepth 100000 in
theorem sX12_has : Cond.static mX12_has.1 ∈ jdW := jdW_in (tb6 (List.mem_of_getElem? (i := 4) (by eq_refl))) (by decide +kernel)
abbrev mX12_bits : jdM := (yX12_bits, cX12_bits, 3, (some .int))
set_option maxRecDepth 100000 in
theorem kX12_bits : jdMc mX12_bits 1 := ⟨jdW_in (tb6 (List.mem_of_getElem? (i := 8) (by eq_refl))) (by decide +kernel), jdW_in (tb1 (List.mem_of_getElem? (i := 7) (by eq_refl))) (by decide +kernel), ⟨by decide +kernel, by decide +kernel, by decide +kernel⟩, by decide⟩
set_option maxRecDepth 100000 in
theorem sX12_bits : Cond.static mX12_bits.1 ∈ jdW := jdW_in (tb6 (List.mem_of_getElem? (i := 7) (by eq_refl))) (by decide +kernel)
abbrev mX12_row : jdM := (yX12_row, cX12_row, 5, (some .int))
set_option maxRecDepth 100000 in
theorem kX12_row : jdMc mX12_row 3 := ⟨jdW_in (tb5 (List.mem_of_getElem? (i := 180) (by eq_refl))) (by decide +kernel), jdW_in (tb1 (List.mem_of_getElem? (i := 7) (by eq_refl))) (by decide +kernel), ⟨by decide +kernel, by decide +kernel, by decide +kernel⟩, by decide⟩
set_option maxRecDepth 100000 in
theorem sX12_row : Cond.instanceMethod mX12_row.1 ∈ jdW ∧ Cond.selects mX12_row.1.cls mX12_row.1 mX12_row.1 ∈ jdW := ⟨jdW_in (tb5 (List.mem_of_getElem? (i := 178) (by eq_refl))) (by decide +kernel), jdW_in (tb5 (List.mem_of_getElem? (i := 179) (by eq_refl))) (by decide +kernel)⟩
abbrev mX12_fit : jdM := (yX12_fit, cX12_fit, 3, (some .long))
set_option maxRecDepth 100000 in
theorem kX12_fit : jdMc mX12_fit 2 := ⟨jdW_in (tb5 (List.mem_of_getElem? (i := 201) (by eq_refl))) (by decide +kernel), jdW_in (tb1 (List.mem_of_getElem? (i := 7) (by eq_refl))) (by decide +kernel), ⟨by decide +kernel, by decide +kernel, by decide +kernel⟩, by decide⟩
set_option maxRecDepth 100000 in
theorem sX12_fit : Cond.static mX12_fit.1 ∈ jdW := jdW_in (tb5 (List.mem_of_getElem? (i := 200) (by eq_refl))) (by decide +kernel)
abbrev mX12_noRow : jdM := (yX12_noRow, cX12_noRow, 2, (some .int))
set_option maxRecDepth 100000 in
theorem kX12_noRow : jdMc mX12_noRow 1 := ⟨jdW_in (tb5 (List.mem_of_getElem? (i := 198) (by eq_refl))) (by decide +kernel), jdW_in (tb1 (List.mem_of_getElem? (i := 7) (by eq_refl))) (by decide +kernel), ⟨by decide +kernel, by decide +kernel, by decide +kernel⟩, by decide⟩
set_option maxRecDepth 100000 in
theorem sX12_noRow : Cond.instanceMethod mX12_noRow.1 ∈ jdW ∧ Cond.selects mX12_noRow.1.cls mX12_noRow.1 mX12_noRow.1 ∈ jdW := ⟨jdW_in (tb5 (List.mem_of_getElem? (i := 197) (by eq_refl))) (by decide +kernel), jdW_in (List.mem_of_getElem? (i := 37) (by eq_refl)) (by decide +kernel)⟩
abbrev mX12_noMan : jdM := (yX12_noMan, cX12_noMan, 2, (some .int))
set_option maxRecDepth 100000 in
theorem kX12_noMan : jdMc mX12_noMan 1 := ⟨jdW_in (tb6 (List.mem_of_getElem? (i := 203) (by eq_refl))) (by decide +kernel), jdW_in (tb1 (List.mem_of_getElem? (i := 7) (by eq_refl))) (by decide +kernel), ⟨by decide +kernel, by decide +kernel, by decide +kernel⟩, by decide⟩
set_option maxRecDepth 100000 in
theorem sX12_noMan : Cond.instanceMethod mX12_noMan.1 ∈ jdW ∧ Cond.selects mX12_noMan.1.cls mX12_noMan.1 mX12_noMan.1 ∈ jdW := ⟨jdW_in (tb6 (List.mem_of_getElem? (i := 202) (by eq_refl))) (by decide +kernel), jdW_in (List.mem_of_getElem? (i := 68) (by eq_refl)) (by decide +kernel)⟩
abbrev mX12_set : jdM := (yX12_set, cX12_set, 6, (some .int))
set_option maxRecDepth 100000 in
theorem kX12_set : jdMc mX12_set 3 := ⟨jdW_in (tb5 (List.mem_of_getElem? (i := 194) (by eq_refl))) (by decide +kernel), jdW_in (tb1 (List.mem_of_getElem? (i := 7) (by eq_refl))) (by decide +kernel), ⟨by decide +kernel, by decide +kernel, by decide +kernel⟩, by decide⟩
set_option maxRecDepth 100000 in
theorem sX12_set : Cond.instanceMethod mX12_set.1 ∈ jdW ∧ Cond.selects mX12_set.1.cls mX12_set.1 mX12_set.1 ∈ jdW := ⟨jdW_in (tb5 (List.mem_of_getElem? (i := 192) (by eq_refl))) (by decide +kernel), jdW_in (tb5 (List.mem_of_getElem? (i := 193) (by eq_refl))) (by decide +kernel)⟩
abbrev mX12_copy : jdM := (yX12_copy, cX12_copy, 7, (some .int))
set_option maxRecDepth 100000 in
theorem kX12_copy : jdMc mX12_copy 5 := ⟨jdW_in (tb5 (List.mem_of_getElem? (i := 205) (by eq_refl))) (by decide +kernel), jdW_in (tb1 (List.mem_of_getElem? (i := 7) (by eq_refl))) (by decide +kernel), ⟨by decide +kernel, by decide +kernel, by decide +kernel⟩, by decide⟩
set_option maxRecDepth 100000 in
theorem sX12_copy : Cond.instanceMethod mX12_copy.1 ∈ jdW ∧ Cond.selects mX12_copy.1.cls mX12_copy.1 mX12_copy.1 ∈ jdW := ⟨jdW_in (tb5 (List.mem_of_getElem? (i := 203) (by eq_refl))) (by decide +kernel), jdW_in (tb5 (List.mem_of_getElem? (i := 204) (by eq_refl))) (by decide +kernel)⟩
abbrev mX12_element : jdM := (yX12_element, cX12_element, 3, (some .long))
set_option maxRecDepth 100000 in
theorem kX12_element : jdMc mX12_element 2 := ⟨jdW_in (tb5 (List.mem_of_getElem? (i := 209) (by eq_refl))) (by decide +kernel), jdW_in (tb1 (List.mem_of_getElem? (i := 7) (by eq_refl))) (by decide +kernel), ⟨by decide +kernel, by decide +kernel, by decide +kernel⟩, by decide⟩
set_option maxRecDepth 100000 in
theorem sX12_element : Cond.instanceMethod mX12_element.1 ∈ jdW ∧ Cond.selects mX12_element.1.cls mX12_element.1 mX12_element.1 ∈ jdW := ⟨jdW_in (tb5 (List.mem_of_getElem? (i := 207) (by eq_refl))) (by decide +kernel), jdW_in (tb5 (List.mem_of_getElem? (i := 208) (by eq_refl))) (by decide +kernel)⟩
abbrev mX12_holds : jdM := (yX12_holds, cX12_holds, 2, (some .int))
set_option maxRecDepth 100000 in
theorem kX12_holds : jdMc mX12_holds 1 := ⟨jdW_in (tb5 (List.mem_of_getElem? (i := 213) (by eq_refl))) (by decide +kernel), jdW_in (tb1 (List.mem_of_getElem? (i := 7) (by eq_refl))) (by decide +kernel), ⟨by decide +kernel, by decide +kernel, by decide +kernel⟩, by decide⟩
set_option maxRecDepth 100000 in
theorem sX12_holds : Cond.instanceMethod mX12_holds.1 ∈ jdW ∧ Cond.selects mX12_holds.1.cls mX12_holds.1 mX12_holds.1 ∈ jdW := ⟨jdW_in (tb5 (List.mem_of_getElem? (i := 211) (by eq_refl))) (by decide +kernel), jdW_in (tb5 (List.mem_of_getElem? (i := 212) (by eq_refl))) (by decide +kernel)⟩
abbrev mX12_coachman : jdM := (yX12_coachman, cX12_coachman, 4, (some .int))
set_option maxRecDepth 100000 in
theorem kX12_coachman : jdMc mX12_coachman 3 := ⟨jdW_in (tb5 (List.mem_of_getElem? (i := 217) (by eq_refl))) (by decide +kernel), jdW_in (tb1 (List.mem_of_getElem? (i := 7) (by eq_refl))) (by decide +kernel), ⟨by decide +kernel, by decide +kernel, by decide +kernel⟩, by decide⟩
set_option maxRecDepth 100000 in
theorem sX12_coachman : Cond.instanceMethod mX12_coachman.1 ∈ jdW ∧ Cond.selects mX12_coachman.1.cls mX12_coachman.1 mX12_coachman.1 ∈ jdW := ⟨jdW_in (tb5 (List.mem_of_getElem? (i := 215) (by eq_refl))) (by decide +kernel), jdW_in (tb5 (List.mem_of_getElem? (i := 216) (by eq_refl))) (by decide +kernel)⟩
abbrev mX12_isUnder : jdM := (yX12_isUnder, cX12_isUnder, 2, (some .boolean))
set_option maxRecDepth 100000 in
theorem kX12_isUnder : jdMc mX12_isUnder 2 := ⟨jdW_in (tb5 (List.mem_of_getElem? (i := 226) (by eq_refl))) (by decide +kernel), jdW_in (tb1 (List.mem_of_getElem? (i := 7) (by eq_refl))) (by decide +kernel), ⟨by decide +kernel, by decide +kernel, by decide +kernel⟩, by decide⟩
set_option maxRecDepth 100000 in
theorem sX12_isUnder : Cond.static mX12_isUnder.1 ∈ jdW := jdW_in (tb5 (List.mem_of_getElem? (i := 225) (by eq_refl))) (by decide +kernel)
abbrev mX12_says : jdM := (yX12_says, cX12_says, 3, (some .int))
set_option maxRecDepth 100000 in
theorem kX12_says : jdMc mX12_says 2 := ⟨jdW_in (tb5 (List.mem_of_getElem? (i := 223) (by eq_refl))) (by decide +kernel), jdW_in (tb1 (List.mem_of_getElem? (i := 7) (by eq_refl))) (by decide +kernel), ⟨by decide +kernel, by decide +kernel, by decide +kernel⟩, by decide⟩
set_option maxRecDepth 100000 in
theorem sX12_says : Cond.instanceMethod mX12_says.1 ∈ jdW ∧ Cond.selects mX12_says.1.cls mX12_says.1 mX12_says.1 ∈ jdW := ⟨jdW_in (tb5 (List.mem_of_getElem? (i := 221) (by eq_refl))) (by decide +kernel), jdW_in (tb5 (List.mem_of_getElem? (i := 222) (by eq_refl))) (by decide +kernel)⟩
abbrev mX12_addOne : jdM := (yX12_addOne, cX12_addOne, 4, none)
set_option maxRecDepth 100000 in
theorem kX12_addOne : jdMc mX12_addOne 2 := ⟨jdW_in (tb6 (List.mem_of_getElem? (i := 41) (by eq_refl))) (by decide +kernel), jdW_in (tb1 (List.mem_of_getElem? (i := 7) (by eq_refl))) (by decide +kernel), ⟨by decide +kernel, by decide +kernel, by decide +kernel⟩, by decide⟩
set_option maxRecDepth 100000 in
theorem sX12_addOne : Cond.instanceMethod mX12_addOne.1 ∈ jdW ∧ Cond.selects mX12_addOne.1.cls mX12_addOne.1 mX12_addOne.1 ∈ jdW := ⟨jdW_in (tb6 (List.mem_of_getElem? (i := 40) (by eq_refl))) (by decide +kernel), jdW_in (List.mem_of_getElem? (i := 48) (by eq_refl)) (by decide +kernel)⟩
abbrev mX12_person : jdM := (yX12_person, cX12_person, 3, (some .int))
set_option maxRecDepth 100000 in
theorem kX12_person : jdMc mX12_person 2 := ⟨jdW_in (tb6 (List.mem_of_getElem? (i := 36) (by eq_refl))) (by decide +kernel), jdW_in (tb1 (List.mem_of_getElem? (i := 7) (by eq_refl))) (by decide +kernel), ⟨by decide +kernel, by decide +kernel, by decide +kernel⟩, by decide⟩
set_option maxRecDepth 100000 in
theorem sX12_person : Cond.instanceMethod mX12_person.1 ∈ jdW ∧ Cond.selects mX12_person.1.cls mX12_person.1 mX12_person.1 ∈ jdW := ⟨jdW_in (tb6 (List.mem_of_getElem? (i := 34) (by eq_refl))) (by decide +kernel), jdW_in (tb6 (List.mem_of_getElem? (i := 35) (by eq_refl))) (by decide +kernel)⟩
abbrev mX12_change : jdM := (yX12_change, cX12_change, 5, (some .int))
set_option maxRecDepth 100000 in
theorem kX12_change : jdMc mX12_change 3 := ⟨jdW_in (tb6 (List.mem_of_getElem? (i := 45) (by eq_refl))) (by decide +kernel), jdW_in (tb1 (List.mem_of_getElem? (i := 7) (by eq_refl))) (by decide +kernel), ⟨by decide +kernel, by decide +kernel, by decide +kernel⟩, by decide⟩
set_option maxRecDepth 100000 in
theorem sX12_change : Cond.instanceMethod mX12_change.1 ∈ jdW ∧ Cond.selects mX12_change.1.cls mX12_change.1 mX12_change.1 ∈ jdW := ⟨jdW_in (tb6 (List.mem_of_getElem? (i := 43) (by eq_refl))) (by decide +kernel), jdW_in (tb6 (List.mem_of_getElem? (i := 44) (by eq_refl))) (by decide +kernel)⟩
abbrev mX12_knows : jdM := (yX12_knows, cX12_knows, 4, none)
set_option maxRecDepth 100000 in
theorem kX12_knows : jdMc mX12_knows 3 := ⟨jdW_in (tb6 (List.mem_of_getElem? (i := 63) (by eq_refl))) (by decide +kernel), jdW_in (tb1 (List.mem_of_getElem? (i := 7) (by eq_refl))) (by decide +kernel), ⟨by decide +kernel, by decide +kernel, by decide +kernel⟩, by decide⟩
set_option maxRecDepth 100000 in
theorem sX12_knows : Cond.instanceMethod mX12_knows.1 ∈ jdW ∧ Cond.selects mX12_knows.1.cls mX12_knows.1 mX12_knows.1 ∈ jdW := ⟨jdW_in (tb6 (List.mem_of_getElem? (i := 62) (by eq_refl))) (by decide +kernel), jdW_in (List.mem_of_getElem? (i := 51) (by eq_refl)) (by decide +kernel)⟩
abbrev mX12_areTwo : jdM := (yX12_areTwo, cX12_areTwo, 3, (some .boolean))
set_option maxRecDepth 100000 in
theorem kX12_areTwo : jdMc mX12_areTwo 2 := ⟨jdW_in (tb6 (List.mem_of_getElem? (i := 57) (by eq_refl))) (by decide +kernel), jdW_in (tb1 (List.mem_of_getElem? (i := 7) (by eq_refl))) (by decide +kernel), ⟨by decide +kernel, by decide +kernel, by decide +kernel⟩, by decide⟩
set_option maxRecDepth 100000 in
theorem sX12_areTwo : Cond.instanceMethod mX12_areTwo.1 ∈ jdW ∧ Cond.selects mX12_areTwo.1.cls mX12_areTwo.1 mX12_areTwo.1 ∈ jdW := ⟨jdW_in (tb6 (List.mem_of_getElem? (i := 56) (by eq_refl))) (by decide +kernel), jdW_in (List.mem_of_getElem? (i := 50) (by eq_refl)) (by decide +kernel)⟩
abbrev mX12_know : jdM := (yX12_know, cX12_know, 5, (some .int))
set_option maxRecDepth 100000 in
theorem kX12_know : jdMc mX12_know 3 := ⟨jdW_in (tb6 (List.mem_of_getElem? (i := 53) (by eq_refl))) (by decide +kernel), jdW_in (tb1 (List.mem_of_getElem? (i := 7) (by eq_refl))) (by decide +kernel), ⟨by decide +kernel, by decide +kernel, by decide +kernel⟩, by decide⟩
set_option maxRecDepth 100000 in
theorem sX12_know : Cond.instanceMethod mX12_know.1 ∈ jdW ∧ Cond.selects mX12_know.1.cls mX12_know.1 mX12_know.1 ∈ jdW := ⟨jdW_in (tb6 (List.mem_of_getElem? (i := 51) (by eq_refl))) (by decide +kernel), jdW_in (tb6 (List.mem_of_getElem? (i := 52) (by eq_refl))) (by decide +kernel)⟩
abbrev mX12_ask : jdM := (yX12_ask, cX12_ask, 4, (some .int))
set_option maxRecDepth 100000 in
theorem kX12_ask : jdMc mX12_ask 2 := ⟨jdW_in (tb6 (List.mem_of_getElem? (i := 67) (by eq_refl))) (by decide +kernel), jdW_in (tb1 (List.mem_of_getElem? (i := 7) (by eq_refl))) (by decide +kernel), ⟨by decide +kernel, by decide +kernel, by decide +kernel⟩, by decide⟩
set_option maxRecDepth 100000 in
theorem sX12_ask : Cond.instanceMethod mX12_ask.1 ∈ jdW ∧ Cond.selects mX12_ask.1.cls mX12_ask.1 mX12_ask.1 ∈ jdW := ⟨jdW_in (tb6 (List.mem_of_getElem? (i := 65) (by eq_refl))) (by decide +kernel), jdW_in (tb6 (List.mem_of_getElem? (i := 66) (by eq_refl))) (by decide +kernel)⟩
abbrev mX12_meets : jdM := (yX12_meets, cX12_meets, 5, (some .int))
set_option maxRecDepth 100000 in
theorem kX12_meets : jdMc mX12_meets 1 := ⟨jdW_in (tb6 (List.mem_of_getElem? (i := 154) (by eq_refl))) (by decide +kernel), jdW_in (tb1 (List.mem_of_getElem? (i := 7) (by eq_refl))) (by decide +kernel), ⟨by decide +kernel, by decide +kernel, by decide +kernel⟩, by decide⟩
set_option maxRecDepth 100000 in
theorem sX12_meets : Cond.instanceMethod mX12_meets.1 ∈ jdW ∧ Cond.selects mX12_meets.1.cls mX12_meets.1 mX12_meets.1 ∈ jdW := ⟨jdW_in (tb6 (List.mem_of_getElem? (i := 153) (by eq_refl))) (by decide +kernel), jdW_in (List.mem_of_getElem? (i := 64) (by eq_refl)) (by decide +kernel)⟩
abbrev mX12_feed : jdM := (yX12_feed, cX12_feed, 2, (some .int))
set_option maxRecDepth 100000 in
theorem kX12_feed : jdMc mX12_feed 1 := ⟨jdW_in (tb6 (List.mem_of_getElem? (i := 72) (by eq_refl))) (by decide +kernel), jdW_in (tb1 (List.mem_of_getElem? (i := 7) (by eq_refl))) (by decide +kernel), ⟨by decide +kernel, by decide +kernel, by decide +kernel⟩, by decide⟩
set_option maxRecDepth 100000 in
theorem sX12_feed : Cond.instanceMethod mX12_feed.1 ∈ jdW ∧ Cond.selects mX12_feed.1.cls mX12_feed.1 mX12_feed.1 ∈ jdW := ⟨jdW_in (tb6 (List.mem_of_getElem? (i := 70) (by eq_refl))) (by decide +kernel), jdW_in (tb6 (List.mem_of_getElem? (i := 71) (by eq_refl))) (by decide +kernel)⟩
abbrev mX12_wipe : jdM := (yX12_wipe, cX12_wipe, 2, (some .int))
set_option maxRecDepth 100000 in
theorem kX12_wipe : jdMc mX12_wipe 0 := ⟨jdW_in (tb6 (List.mem_of_getElem? (i := 77) (by eq_refl))) (by decide +kernel), jdW_in (tb1 (List.mem_of_getElem? (i := 7) (by eq_refl))) (by decide +kernel), ⟨by decide +kernel, by decide +kernel, by decide +kernel⟩, by decide⟩
set_option maxRecDepth 100000 in
theorem sX12_wipe : Cond.instanceMethod mX12_wipe.1 ∈ jdW ∧ Cond.selects mX12_wipe.1.cls mX12_wipe.1 mX12_wipe.1 ∈ jdW := ⟨jdW_in (tb6 (List.mem_of_getElem? (i := 75) (by eq_refl))) (by decide +kernel), jdW_in (tb6 (List.mem_of_getElem? (i := 76) (by eq_refl))) (by decide +kernel)⟩
abbrev mX12_isLetter : jdM := (yX12_isLetter, cX12_isLetter, 1, (some .boolean))
set_option maxRecDepth 100000 in
theorem kX12_isLetter : jdMc mX12_isLetter 1 := ⟨jdW_in (tb6 (List.mem_of_getElem? (i := 105) (by eq_refl))) (by decide +kernel), jdW_in (tb1 (List.mem_of_getElem? (i := 7) (by eq_refl))) (by decide +kernel), ⟨by decide +kernel, by decide +kernel, by decide +kernel⟩, by decide⟩
set_option maxRecDepth 100000 in
theorem sX12_isLetter : Cond.static mX12_isLetter.1 ∈ jdW := jdW_in (tb6 (List.mem_of_getElem? (i := 104) (by eq_refl))) (by decide +kernel)
abbrev mX12_isDigit : jdM := (yX12_isDigit, cX12_isDigit, 1, (some .boolean))
set_option maxRecDepth 100000 in
theorem kX12_isDigit : jdMc mX12_isDigit 1 := ⟨jdW_in (tb6 (List.mem_of_getElem? (i := 108) (by eq_refl))) (by decide +kernel), jdW_in (tb1 (List.mem_of_getElem? (i := 7) (by eq_refl))) (by decide +kernel), ⟨by decide +kernel, by decide +kernel, by decide +kernel⟩, by decide⟩
set_option maxRecDepth 100000 in
theorem sX12_isDigit : Cond.static mX12_isDigit.1 ∈ jdW := jdW_in (tb6 (List.mem_of_getElem? (i := 107) (by eq_refl))) (by decide +kernel)
abbrev mX12_look : jdM := (yX12_look, cX12_look, 1, none)
set_option maxRecDepth 100000 in
theorem kX12_look : jdMc mX12_look 0 := ⟨jdW_in (tb6 (List.mem_of_getElem? (i := 102) (by eq_refl))) (by decide +kernel), jdW_in (tb1 (List.mem_of_getElem? (i := 7) (by eq_refl))) (by decide +kernel), ⟨by decide +kernel, by decide +kernel, by decide +kernel⟩, by decide⟩
set_option maxRecDepth 100000 in
theorem sX12_look : Cond.instanceMethod mX12_look.1 ∈ jdW ∧ Cond.selects mX12_look.1.cls mX12_look.1 mX12_look.1 ∈ jdW := ⟨jdW_in (tb6 (List.mem_of_getElem? (i := 101) (by eq_refl))) (by decide +kernel), jdW_in (List.mem_of_getElem? (i := 55) (by eq_refl)) (by decide +kernel)⟩
abbrev mX12_wrong : jdM := (yX12_wrong, cX12_wrong, 1, (some .boolean))
set_option maxRecDepth 100000 in
theorem kX12_wrong : jdMc mX12_wrong 0 := ⟨jdW_in (tb6 (List.mem_of_getElem? (i := 132) (by eq_refl))) (by decide +kernel), jdW_in (tb1 (List.mem_of_getElem? (i := 7) (by eq_refl))) (by decide +kernel), ⟨by decide +kernel, by decide +kernel, by decide +kernel⟩, by decide⟩
set_option maxRecDepth 100000 in
theorem sX12_wrong : Cond.instanceMethod mX12_wrong.1 ∈ jdW ∧ Cond.selects mX12_wrong.1.cls mX12_wrong.1 mX12_wrong.1 ∈ jdW := ⟨jdW_in (tb6 (List.mem_of_getElem? (i := 131) (by eq_refl))) (by decide +kernel), jdW_in (List.mem_of_getElem? (i := 60) (by eq_refl)) (by decide +kernel)⟩
abbrev mX12_isWord : jdM := (yX12_isWord, cX12_isWord, 3, (some .boolean))
set_option maxRecDepth 100000 in
theorem kX12_isWord : jdMc mX12_isWord 1 := ⟨jdW_in (tb6 (List.mem_of_getElem? (i := 118) (by eq_refl))) (by decide +kernel), jdW_in (tb1 (List.mem_of_getElem? (i := 7) (by eq_refl))) (by decide +kernel), ⟨by decide +kernel, by decide +kernel, by decide +kernel⟩, by decide⟩
set_option maxRecDepth 100000 in
theorem sX12_isWord : Cond.instanceMethod mX12_isWord.1 ∈ jdW ∧ Cond.selects mX12_isWord.1.cls mX12_isWord.1 mX12_isWord.1 ∈ jdW := ⟨jdW_in (tb6 (List.mem_of_getElem? (i := 117) (by eq_refl))) (by decide +kernel), jdW_in (List.mem_of_getElem? (i := 57) (by eq_refl)) (by decide +kernel)⟩
abbrev mX12_number : jdM := (yX12_number, cX12_number, 4, (some .boolean))
set_option maxRecDepth 100000 in
theorem kX12_number : jdMc mX12_number 3 := ⟨jdW_in (tb6 (List.mem_of_getElem? (i := 128) (by eq_refl))) (by decide +kernel), jdW_in (tb1 (List.mem_of_getElem? (i := 7) (by eq_refl))) (by decide +kernel), ⟨by decide +kernel, by decide +kernel, by decide +kernel⟩, by decide⟩
set_option maxRecDepth 100000 in
theorem sX12_number : Cond.instanceMethod mX12_number.1 ∈ jdW ∧ Cond.selects mX12_number.1.cls mX12_number.1 mX12_number.1 ∈ jdW := ⟨jdW_in (tb6 (List.mem_of_getElem? (i := 127) (by eq_refl))) (by decide +kernel), jdW_in (List.mem_of_getElem? (i := 59) (by eq_refl)) (by decide +kernel)⟩
abbrev mX12_tells : jdM := (yX12_tells, cX12_tells, 3, (some .boolean))
set_option maxRecDepth 100000 in
theorem kX12_tells : jdMc mX12_tells 2 := ⟨jdW_in (tb6 (List.mem_of_getElem? (i := 124) (by eq_refl))) (by decide +kernel), jdW_in (tb1 (List.mem_of_getElem? (i := 7) (by eq_refl))) (by decide +kernel), ⟨by decide +kernel, by decide +kernel, by decide +kernel⟩, by decide⟩
set_option maxRecDepth 100000 in
theorem sX12_tells : Cond.instanceMethod mX12_tells.1 ∈ jdW ∧ Cond.selects mX12_tells.1.cls mX12_tells.1 mX12_tells.1 ∈ jdW := ⟨jdW_in (tb6 (List.mem_of_getElem? (i := 123) (by eq_refl))) (by decide +kernel), jdW_in (List.mem_of_getElem? (i := 58) (by eq_refl)) (by decide +kernel)⟩
abbrev mX12_twoTold : jdM := (yX12_twoTold, cX12_twoTold, 1, (some .boolean))
set_option maxRecDepth 100000 in
theorem kX12_twoTold : jdMc mX12_twoTold 0 := ⟨jdW_in (tb6 (List.mem_of_getElem? (i := 141) (by eq_refl))) (by decide +kernel), jdW_in (tb1 (List.mem_of_getElem? (i := 7) (by eq_refl))) (by decide +kernel), ⟨by decide +kernel, by decide +kernel, by decide +kernel⟩, by decide⟩
set_option maxRecDepth 100000 in
theorem sX12_twoTold : Cond.instanceMethod mX12_twoTold.1 ∈ jdW ∧ Cond.selects mX12_twoTold.1.cls mX12_twoTold.1 mX12_twoTold.1 ∈ jdW := ⟨jdW_in (tb6 (List.mem_of_getElem? (i := 140) (by eq_refl))) (by decide +kernel), jdW_in (List.mem_of_getElem? (i := 62) (by eq_refl)) (by decide +kernel)⟩
abbrev mX12_knowTold : jdM := (yX12_knowTold, cX12_knowTold, 4, (some .boolean))
set_option maxRecDepth 100000 in
theorem kX12_knowTold : jdMc mX12_knowTold 0 := ⟨jdW_in (tb6 (List.mem_of_getElem? (i := 137) (by eq_refl))) (by decide +kernel), jdW_in (tb1 (List.mem_of_getElem? (i := 7) (by eq_refl))) (by decide +kernel), ⟨by decide +kernel, by decide +kernel, by decide +kernel⟩, by decide⟩
set_option maxRecDepth 100000 in
theorem sX12_knowTold : Cond.instanceMethod mX12_knowTold.1 ∈ jdW ∧ Cond.selects mX12_knowTold.1.cls mX12_knowTold.1 mX12_knowTold.1 ∈ jdW := ⟨jdW_in (tb6 (List.mem_of_getElem? (i := 136) (by eq_refl))) (by decide +kernel), jdW_in (List.mem_of_getElem? (i := 61) (by eq_refl)) (by decide +kernel)⟩
abbrev mX12_metTold : jdM := (yX12_metTold, cX12_metTold, 2, (some .boolean))
set_option maxRecDepth 100000 in
theorem kX12_metTold : jdMc mX12_metTold 0 := ⟨jdW_in (tb6 (List.mem_of_getElem? (i := 150) (by eq_refl))) (by decide +kernel), jdW_in (tb1 (List.mem_of_getElem? (i := 7) (by eq_refl))) (by decide +kernel), ⟨by decide +kernel, by decide +kernel, by decide +kernel⟩, by decide⟩
set_option maxRecDepth 100000 in
theorem sX12_metTold : Cond.instanceMethod mX12_metTold.1 ∈ jdW ∧ Cond.selects mX12_metTold.1.cls mX12_metTold.1 mX12_metTold.1 ∈ jdW := ⟨jdW_in (tb6 (List.mem_of_getElem? (i := 149) (by eq_refl))) (by decide +kernel), jdW_in (List.mem_of_getElem? (i := 63) (by eq_refl)) (by decide +kernel)⟩
abbrev mX12_statement : jdM := (yX12_statement, cX12_statement, 2, (some .boolean))
set_option maxRecDepth 100000 in
theorem kX12_statement : jdMc mX12_statement 0 := ⟨jdW_in (tb6 (List.mem_of_getElem? (i := 113) (by eq_refl))) (by decide +kernel), jdW_in (tb1 (List.mem_of_getElem? (i := 7) (by eq_refl))) (by decide +kernel), ⟨by decide +kernel, by decide +kernel, by decide +kernel⟩, by decide⟩
set_option maxRecDepth 100000 in
theorem sX12_statement : Cond.instanceMethod mX12_statement.1 ∈ jdW ∧ Cond.selects mX12_statement.1.cls mX12_statement.1 mX12_statement.1 ∈ jdW := ⟨jdW_in (tb6 (List.mem_of_getElem? (i := 112) (by eq_refl))) (by decide +kernel), jdW_in (List.mem_of_getElem? (i := 56) (by eq_refl)) (by decide +kernel)⟩
abbrev mX12_readAll : jdM := (yX12_readAll, cX12_readAll, 1, (some .boolean))
set_option maxRecDepth 100000 in
theorem kX12_readAll : jdMc mX12_readAll 0 := ⟨jdW_in (tb6 (List.mem_of_getElem? (i := 98) (by eq_refl))) (by decide +kernel), jdW_in (tb1 (List.mem_of_getElem? (i := 7) (by eq_refl))) (by decide +kernel), ⟨by decide +kernel, by decide +kernel, by decide +kernel⟩, by decide⟩
set_option maxRecDepth 100000 in
theorem sX12_readAll : Cond.instanceMethod mX12_readAll.1 ∈ jdW ∧ Cond.selects mX12_readAll.1.cls mX12_readAll.1 mX12_readAll.1 ∈ jdW := ⟨jdW_in (tb6 (List.mem_of_getElem? (i := 97) (by eq_refl))) (by decide +kernel), jdW_in (List.mem_of_getElem? (i := 54) (by eq_refl)) (by decide +kernel)⟩
abbrev mX12_town : jdM := (yX12_town, cX12_town, 3, (some .int))
set_option maxRecDepth 100000 in
theorem kX12_town : jdMc mX12_town 0 := ⟨jdW_in (tb6 (List.mem_of_getElem? (i := 81) (by eq_refl))) (by decide +kernel), jdW_in (tb1 (List.mem_of_getElem? (i := 7) (by eq_refl))) (by decide +kernel), ⟨by decide +kernel, by decide +kernel, by decide +kernel⟩, by decide⟩
set_option maxRecDepth 100000 in
theorem sX12_town : Cond.instanceMethod mX12_town.1 ∈ jdW ∧ Cond.selects mX12_town.1.cls mX12_town.1 mX12_town.1 ∈ jdW := ⟨jdW_in (tb6 (List.mem_of_getElem? (i := 79) (by eq_refl))) (by decide +kernel), jdW_in (tb6 (List.mem_of_getElem? (i := 80) (by eq_refl))) (by decide +kernel)⟩
abbrev mX12_strangersOf : jdM := (yX12_strangersOf, cX12_strangersOf, 4, (some .int))
set_option maxRecDepth 100000 in
theorem kX12_strangersOf : jdMc mX12_strangersOf 1 := ⟨jdW_in (tb6 (List.mem_of_getElem? (i := 32) (by eq_refl))) (by decide +kernel), jdW_in (tb1 (List.mem_of_getElem? (i := 7) (by eq_refl))) (by decide +kernel), ⟨by decide +kernel, by decide +kernel, by decide +kernel⟩, by decide⟩
set_option maxRecDepth 100000 in
theorem sX12_strangersOf : Cond.instanceMethod mX12_strangersOf.1 ∈ jdW ∧ Cond.selects mX12_strangersOf.1.cls mX12_strangersOf.1 mX12_strangersOf.1 ∈ jdW := ⟨jdW_in (tb6 (List.mem_of_getElem? (i := 31) (by eq_refl))) (by decide +kernel), jdW_in (List.mem_of_getElem? (i := 47) (by eq_refl)) (by decide +kernel)⟩
abbrev mX12_personOf : jdM := (yX12_personOf, cX12_personOf, 3, (some .int))
set_option maxRecDepth 100000 in
theorem kX12_personOf : jdMc mX12_personOf 2 := ⟨jdW_in (tb6 (List.mem_of_getElem? (i := 158) (by eq_refl))) (by decide +kernel), jdW_in (tb1 (List.mem_of_getElem? (i := 7) (by eq_refl))) (by decide +kernel), ⟨by decide +kernel, by decide +kernel, by decide +kernel⟩, by decide⟩
set_option maxRecDepth 100000 in
theorem sX12_personOf : Cond.instanceMethod mX12_personOf.1 ∈ jdW ∧ Cond.selects mX12_personOf.1.cls mX12_personOf.1 mX12_personOf.1 ∈ jdW := ⟨jdW_in (tb6 (List.mem_of_getElem? (i := 156) (by eq_refl))) (by decide +kernel), jdW_in (tb6 (List.mem_of_getElem? (i := 157) (by eq_refl))) (by decide +kernel)⟩
abbrev mX12_knownOf : jdM := (yX12_knownOf, cX12_knownOf, 3, (some .int))
set_option maxRecDepth 100000 in
theorem kX12_knownOf : jdMc mX12_knownOf 2 := ⟨jdW_in (tb6 (List.mem_of_getElem? (i := 163) (by eq_refl))) (by decide +kernel), jdW_in (tb1 (List.mem_of_getElem? (i := 7) (by eq_refl))) (by decide +kernel), ⟨by decide +kernel, by decide +kernel, by decide +kernel⟩, by decide⟩
set_option maxRecDepth 100000 in
theorem sX12_knownOf : Cond.instanceMethod mX12_knownOf.1 ∈ jdW ∧ Cond.selects mX12_knownOf.1.cls mX12_knownOf.1 mX12_knownOf.1 ∈ jdW := ⟨jdW_in (tb6 (List.mem_of_getElem? (i := 161) (by eq_refl))) (by decide +kernel), jdW_in (tb6 (List.mem_of_getElem? (i := 162) (by eq_refl))) (by decide +kernel)⟩
abbrev mX12_isGroupNow : jdM := (yX12_isGroupNow, cX12_isGroupNow, 4, (some .boolean))
set_option maxRecDepth 100000 in
theorem kX12_isGroupNow : jdMc mX12_isGroupNow 1 := ⟨jdW_in (tb6 (List.mem_of_getElem? (i := 175) (by eq_refl))) (by decide +kernel), jdW_in (tb1 (List.mem_of_getElem? (i := 7) (by eq_refl))) (by decide +kernel), ⟨by decide +kernel, by decide +kernel, by decide +kernel⟩, by decide⟩
set_option maxRecDepth 100000 in
theorem sX12_isGroupNow : Cond.instanceMethod mX12_isGroupNow.1 ∈ jdW ∧ Cond.selects mX12_isGroupNow.1.cls mX12_isGroupNow.1 mX12_isGroupNow.1 ∈ jdW := ⟨jdW_in (tb6 (List.mem_of_getElem? (i := 174) (by eq_refl))) (by decide +kernel), jdW_in (List.mem_of_getElem? (i := 66) (by eq_refl)) (by decide +kernel)⟩
abbrev mX12_listFrom : jdM := (yX12_listFrom, cX12_listFrom, 7, none)
set_option maxRecDepth 100000 in
theorem kX12_listFrom : jdMc mX12_listFrom 3 := ⟨jdW_in (tb6 (List.mem_of_getElem? (i := 2) (by eq_refl))) (by decide +kernel), jdW_in (tb1 (List.mem_of_getElem? (i := 7) (by eq_refl))) (by decide +kernel), ⟨by decide +kernel, by decide +kernel, by decide +kernel⟩, by decide⟩
set_option maxRecDepth 100000 in
theorem sX12_listFrom : Cond.instanceMethod mX12_listFrom.1 ∈ jdW ∧ Cond.selects mX12_listFrom.1.cls mX12_listFrom.1 mX12_listFrom.1 ∈ jdW := ⟨jdW_in (tb6 (List.mem_of_getElem? (i := 1) (by eq_refl))) (by decide +kernel), jdW_in (List.mem_of_getElem? (i := 41) (by eq_refl)) (by decide +kernel)⟩
abbrev mX12_listAll : jdM := (yX12_listAll, cX12_listAll, 1, none)
set_option maxRecDepth 100000 in
theorem kX12_listAll : jdMc mX12_listAll 0 := ⟨jdW_in (tb5 (List.mem_of_getElem? (i := 238) (by eq_refl))) (by decide +kernel), jdW_in (tb1 (List.mem_of_getElem? (i := 7) (by eq_refl))) (by decide +kernel), ⟨by decide +kernel, by decide +kernel, by decide +kernel⟩, by decide⟩
set_option maxRecDepth 100000 in
theorem sX12_listAll : Cond.instanceMethod mX12_listAll.1 ∈ jdW ∧ Cond.selects mX12_listAll.1.cls mX12_listAll.1 mX12_listAll.1 ∈ jdW := ⟨jdW_in (tb5 (List.mem_of_getElem? (i := 237) (by eq_refl))) (by decide +kernel), jdW_in (List.mem_of_getElem? (i := 40) (by eq_refl)) (by decide +kernel)⟩
abbrev mX12_isGroup : jdM := (yX12_isGroup, cX12_isGroup, 2, (some .int))
set_option maxRecDepth 100000 in
theorem kX12_isGroup : jdMc mX12_isGroup 1 := ⟨jdW_in (tb6 (List.mem_of_getElem? (i := 167) (by eq_refl))) (by decide +kernel), jdW_in (tb1 (List.mem_of_getElem? (i := 7) (by eq_refl))) (by decide +kernel), ⟨by decide +kernel, by decide +kernel, by decide +kernel⟩, by decide⟩
set_option maxRecDepth 100000 in
theorem sX12_isGroup : Cond.instanceMethod mX12_isGroup.1 ∈ jdW ∧ Cond.selects mX12_isGroup.1.cls mX12_isGroup.1 mX12_isGroup.1 ∈ jdW := ⟨jdW_in (tb6 (List.mem_of_getElem? (i := 165) (by eq_refl))) (by decide +kernel), jdW_in (tb6 (List.mem_of_getElem? (i := 166) (by eq_refl))) (by decide +kernel)⟩
abbrev mX12_groupsOf : jdM := (yX12_groupsOf, cX12_groupsOf, 4, (some .int))
set_option maxRecDepth 100000 in
theorem kX12_groupsOf : jdMc mX12_groupsOf 1 := ⟨jdW_in (tb6 (List.mem_of_getElem? (i := 183) (by eq_refl))) (by decide +kernel), jdW_in (tb1 (List.mem_of_getElem? (i := 7) (by eq_refl))) (by decide +kernel), ⟨by decide +kernel, by decide +kernel, by decide +kernel⟩, by decide⟩
set_option maxRecDepth 100000 in
theorem sX12_groupsOf : Cond.instanceMethod mX12_groupsOf.1 ∈ jdW ∧ Cond.selects mX12_groupsOf.1.cls mX12_groupsOf.1 mX12_groupsOf.1 ∈ jdW := ⟨jdW_in (tb6 (List.mem_of_getElem? (i := 182) (by eq_refl))) (by decide +kernel), jdW_in (List.mem_of_getElem? (i := 67) (by eq_refl)) (by decide +kernel)⟩
abbrev mX12_groups : jdM := (yX12_groups, cX12_groups, 2, (some .int))
set_option maxRecDepth 100000 in
theorem kX12_groups : jdMc mX12_groups 1 := ⟨jdW_in (tb6 (List.mem_of_getElem? (i := 179) (by eq_refl))) (by decide +kernel), jdW_in (tb1 (List.mem_of_getElem? (i := 7) (by eq_refl))) (by decide +kernel), ⟨by decide +kernel, by decide +kernel, by decide +kernel⟩, by decide⟩
set_option maxRecDepth 100000 in
theorem sX12_groups : Cond.instanceMethod mX12_groups.1 ∈ jdW ∧ Cond.selects mX12_groups.1.cls mX12_groups.1 mX12_groups.1 ∈ jdW := ⟨jdW_in (tb6 (List.mem_of_getElem? (i := 177) (by eq_refl))) (by decide +kernel), jdW_in (tb6 (List.mem_of_getElem? (i := 178) (by eq_refl))) (by decide +kernel)⟩
abbrev mX12_firstIn : jdM := (yX12_firstIn, cX12_firstIn, 3, (some .int))
set_option maxRecDepth 100000 in
theorem kX12_firstIn : jdMc mX12_firstIn 1 := ⟨jdW_in (tb6 (List.mem_of_getElem? (i := 12) (by eq_refl))) (by decide +kernel), jdW_in (tb1 (List.mem_of_getElem? (i := 7) (by eq_refl))) (by decide +kernel), ⟨by decide +kernel, by decide +kernel, by decide +kernel⟩, by decide⟩
set_option maxRecDepth 100000 in
theorem sX12_firstIn : Cond.instanceMethod mX12_firstIn.1 ∈ jdW ∧ Cond.selects mX12_firstIn.1.cls mX12_firstIn.1 mX12_firstIn.1 ∈ jdW := ⟨jdW_in (tb6 (List.mem_of_getElem? (i := 11) (by eq_refl))) (by decide +kernel), jdW_in (List.mem_of_getElem? (i := 42) (by eq_refl)) (by decide +kernel)⟩
abbrev mX12_firstOf : jdM := (yX12_firstOf, cX12_firstOf, 2, (some .int))
set_option maxRecDepth 100000 in
theorem kX12_firstOf : jdMc mX12_firstOf 1 := ⟨jdW_in (tb6 (List.mem_of_getElem? (i := 187) (by eq_refl))) (by decide +kernel), jdW_in (tb1 (List.mem_of_getElem? (i := 7) (by eq_refl))) (by decide +kernel), ⟨by decide +kernel, by decide +kernel, by decide +kernel⟩, by decide⟩
set_option maxRecDepth 100000 in
theorem sX12_firstOf : Cond.instanceMethod mX12_firstOf.1 ∈ jdW ∧ Cond.selects mX12_firstOf.1.cls mX12_firstOf.1 mX12_firstOf.1 ∈ jdW := ⟨jdW_in (tb6 (List.mem_of_getElem? (i := 185) (by eq_refl))) (by decide +kernel), jdW_in (tb6 (List.mem_of_getElem? (i := 186) (by eq_refl))) (by decide +kernel)⟩
abbrev mX12_mostIn : jdM := (yX12_mostIn, cX12_mostIn, 5, (some .int))
set_option maxRecDepth 100000 in
theorem kX12_mostIn : jdMc mX12_mostIn 1 := ⟨jdW_in (tb6 (List.mem_of_getElem? (i := 20) (by eq_refl))) (by decide +kernel), jdW_in (tb1 (List.mem_of_getElem? (i := 7) (by eq_refl))) (by decide +kernel), ⟨by decide +kernel, by decide +kernel, by decide +kernel⟩, by decide⟩
set_option maxRecDepth 100000 in
theorem sX12_mostIn : Cond.instanceMethod mX12_mostIn.1 ∈ jdW ∧ Cond.selects mX12_mostIn.1.cls mX12_mostIn.1 mX12_mostIn.1 ∈ jdW := ⟨jdW_in (tb6 (List.mem_of_getElem? (i := 19) (by eq_refl))) (by decide +kernel), jdW_in (List.mem_of_getElem? (i := 44) (by eq_refl)) (by decide +kernel)⟩
abbrev mX12_most : jdM := (yX12_most, cX12_most, 2, (some .int))
set_option maxRecDepth 100000 in
theorem kX12_most : jdMc mX12_most 1 := ⟨jdW_in (tb6 (List.mem_of_getElem? (i := 191) (by eq_refl))) (by decide +kernel), jdW_in (tb1 (List.mem_of_getElem? (i := 7) (by eq_refl))) (by decide +kernel), ⟨by decide +kernel, by decide +kernel, by decide +kernel⟩, by decide⟩
set_option maxRecDepth 100000 in
theorem sX12_most : Cond.instanceMethod mX12_most.1 ∈ jdW ∧ Cond.selects mX12_most.1.cls mX12_most.1 mX12_most.1 ∈ jdW := ⟨jdW_in (tb6 (List.mem_of_getElem? (i := 189) (by eq_refl))) (by decide +kernel), jdW_in (tb6 (List.mem_of_getElem? (i := 190) (by eq_refl))) (by decide +kernel)⟩
abbrev mX12_bestIn : jdM := (yX12_bestIn, cX12_bestIn, 4, (some .int))
set_option maxRecDepth 100000 in
theorem kX12_bestIn : jdMc mX12_bestIn 1 := ⟨jdW_in (tb6 (List.mem_of_getElem? (i := 16) (by eq_refl))) (by decide +kernel), jdW_in (tb1 (List.mem_of_getElem? (i := 7) (by eq_refl))) (by decide +kernel), ⟨by decide +kernel, by decide +kernel, by decide +kernel⟩, by decide⟩
set_option maxRecDepth 100000 in
theorem sX12_bestIn : Cond.instanceMethod mX12_bestIn.1 ∈ jdW ∧ Cond.selects mX12_bestIn.1.cls mX12_bestIn.1 mX12_bestIn.1 ∈ jdW := ⟨jdW_in (tb6 (List.mem_of_getElem? (i := 15) (by eq_refl))) (by decide +kernel), jdW_in (List.mem_of_getElem? (i := 43) (by eq_refl)) (by decide +kernel)⟩
abbrev mX12_mostOf : jdM := (yX12_mostOf, cX12_mostOf, 5, (some .int))
set_option maxRecDepth 100000 in
theorem kX12_mostOf : jdMc mX12_mostOf 2 := ⟨jdW_in (tb6 (List.mem_of_getElem? (i := 195) (by eq_refl))) (by decide +kernel), jdW_in (tb1 (List.mem_of_getElem? (i := 7) (by eq_refl))) (by decide +kernel), ⟨by decide +kernel, by decide +kernel, by decide +kernel⟩, by decide⟩
set_option maxRecDepth 100000 in
theorem sX12_mostOf : Cond.instanceMethod mX12_mostOf.1 ∈ jdW ∧ Cond.selects mX12_mostOf.1.cls mX12_mostOf.1 mX12_mostOf.1 ∈ jdW := ⟨jdW_in (tb6 (List.mem_of_getElem? (i := 193) (by eq_refl))) (by decide +kernel), jdW_in (tb6 (List.mem_of_getElem? (i := 194) (by eq_refl))) (by decide +kernel)⟩
abbrev mX12_costOf : jdM := (yX12_costOf, cX12_costOf, 4, (some .int))
set_option maxRecDepth 100000 in
theorem kX12_costOf : jdMc mX12_costOf 1 := ⟨jdW_in (tb6 (List.mem_of_getElem? (i := 24) (by eq_refl))) (by decide +kernel), jdW_in (tb1 (List.mem_of_getElem? (i := 7) (by eq_refl))) (by decide +kernel), ⟨by decide +kernel, by decide +kernel, by decide +kernel⟩, by decide⟩
set_option maxRecDepth 100000 in
theorem sX12_costOf : Cond.instanceMethod mX12_costOf.1 ∈ jdW ∧ Cond.selects mX12_costOf.1.cls mX12_costOf.1 mX12_costOf.1 ∈ jdW := ⟨jdW_in (tb6 (List.mem_of_getElem? (i := 23) (by eq_refl))) (by decide +kernel), jdW_in (List.mem_of_getElem? (i := 45) (by eq_refl)) (by decide +kernel)⟩
abbrev mX12_meetsOf : jdM := (yX12_meetsOf, cX12_meetsOf, 4, (some .int))
set_option maxRecDepth 100000 in
theorem kX12_meetsOf : jdMc mX12_meetsOf 1 := ⟨jdW_in (tb6 (List.mem_of_getElem? (i := 28) (by eq_refl))) (by decide +kernel), jdW_in (tb1 (List.mem_of_getElem? (i := 7) (by eq_refl))) (by decide +kernel), ⟨by decide +kernel, by decide +kernel, by decide +kernel⟩, by decide⟩
set_option maxRecDepth 100000 in
theorem sX12_meetsOf : Cond.instanceMethod mX12_meetsOf.1 ∈ jdW ∧ Cond.selects mX12_meetsOf.1.cls mX12_meetsOf.1 mX12_meetsOf.1 ∈ jdW := ⟨jdW_in (tb6 (List.mem_of_getElem? (i := 27) (by eq_refl))) (by decide +kernel), jdW_in (List.mem_of_getElem? (i := 46) (by eq_refl)) (by decide +kernel)⟩
abbrev mX12_sentBy : jdM := (yX12_sentBy, cX12_sentBy, 8, (some .int))
set_option maxRecDepth 100000 in
theorem kX12_sentBy : jdMc mX12_sentBy 4 := ⟨jdW_in (tb5 (List.mem_of_getElem? (i := 234) (by eq_refl))) (by decide +kernel), jdW_in (tb1 (List.mem_of_getElem? (i := 7) (by eq_refl))) (by decide +kernel), ⟨by decide +kernel, by decide +kernel, by decide +kernel⟩, by decide⟩
set_option maxRecDepth 100000 in
theorem sX12_sentBy : Cond.instanceMethod mX12_sentBy.1 ∈ jdW ∧ Cond.selects mX12_sentBy.1.cls mX12_sentBy.1 mX12_sentBy.1 ∈ jdW := ⟨jdW_in (tb5 (List.mem_of_getElem? (i := 233) (by eq_refl))) (by decide +kernel), jdW_in (List.mem_of_getElem? (i := 39) (by eq_refl)) (by decide +kernel)⟩
abbrev mX12_sends : jdM := (yX12_sends, cX12_sends, 5, (some .int))
set_option maxRecDepth 100000 in
theorem kX12_sends : jdMc mX12_sends 3 := ⟨jdW_in (tb6 (List.mem_of_getElem? (i := 199) (by eq_refl))) (by decide +kernel), jdW_in (tb1 (List.mem_of_getElem? (i := 7) (by eq_refl))) (by decide +kernel), ⟨by decide +kernel, by decide +kernel, by decide +kernel⟩, by decide⟩
set_option maxRecDepth 100000 in
theorem sX12_sends : Cond.instanceMethod mX12_sends.1 ∈ jdW ∧ Cond.selects mX12_sends.1.cls mX12_sends.1 mX12_sends.1 ∈ jdW := ⟨jdW_in (tb6 (List.mem_of_getElem? (i := 197) (by eq_refl))) (by decide +kernel), jdW_in (tb6 (List.mem_of_getElem? (i := 198) (by eq_refl))) (by decide +kernel)⟩
abbrev mX12_findComing : jdM := (yX12_findComing, cX12_findComing, 4, none)
set_option maxRecDepth 100000 in
theorem kX12_findComing : jdMc mX12_findComing 0 := ⟨jdW_in (tb6 (List.mem_of_getElem? (i := 215) (by eq_refl))) (by decide +kernel), jdW_in (tb1 (List.mem_of_getElem? (i := 7) (by eq_refl))) (by decide +kernel), ⟨by decide +kernel, by decide +kernel, by decide +kernel⟩, by decide⟩
set_option maxRecDepth 100000 in
theorem sX12_findComing : Cond.instanceMethod mX12_findComing.1 ∈ jdW ∧ Cond.selects mX12_findComing.1.cls mX12_findComing.1 mX12_findComing.1 ∈ jdW := ⟨jdW_in (tb6 (List.mem_of_getElem? (i := 214) (by eq_refl))) (by decide +kernel), jdW_in (List.mem_of_getElem? (i := 70) (by eq_refl)) (by decide +kernel)⟩
abbrev mX12_goesBy : jdM := (yX12_goesBy, cX12_goesBy, 8, none)
set_option maxRecDepth 100000 in
theorem kX12_goesBy : jdMc mX12_goesBy 2 := ⟨jdW_in (tb6 (List.mem_of_getElem? (i := 211) (by eq_refl))) (by decide +kernel), jdW_in (tb1 (List.mem_of_getElem? (i := 7) (by eq_refl))) (by decide +kernel), ⟨by decide +kernel, by decide +kernel, by decide +kernel⟩, by decide⟩
set_option maxRecDepth 100000 in
theorem sX12_goesBy : Cond.instanceMethod mX12_goesBy.1 ∈ jdW ∧ Cond.selects mX12_goesBy.1.cls mX12_goesBy.1 mX12_goesBy.1 ∈ jdW := ⟨jdW_in (tb6 (List.mem_of_getElem? (i := 210) (by eq_refl))) (by decide +kernel), jdW_in (List.mem_of_getElem? (i := 69) (by eq_refl)) (by decide +kernel)⟩
abbrev mX12_waitedAll : jdM := (yX12_waitedAll, cX12_waitedAll, 3, (some .int))
set_option maxRecDepth 100000 in
theorem kX12_waitedAll : jdMc mX12_waitedAll 0 := ⟨jdW_in (tb6 (List.mem_of_getElem? (i := 231) (by eq_refl))) (by decide +kernel), jdW_in (tb1 (List.mem_of_getElem? (i := 7) (by eq_refl))) (by decide +kernel), ⟨by decide +kernel, by decide +kernel, by decide +kernel⟩, by decide⟩
set_option maxRecDepth 100000 in
theorem sX12_waitedAll : Cond.instanceMethod mX12_waitedAll.1 ∈ jdW ∧ Cond.selects mX12_waitedAll.1.cls mX12_waitedAll.1 mX12_waitedAll.1 ∈ jdW := ⟨jdW_in (tb6 (List.mem_of_getElem? (i := 230) (by eq_refl))) (by decide +kernel), jdW_in (List.mem_of_getElem? (i := 71) (by eq_refl)) (by decide +kernel)⟩
abbrev mX12_run : jdM := (yX12_run, cX12_run, 3, (some .int))
set_option maxRecDepth 100000 in
theorem kX12_run : jdMc mX12_run 1 := ⟨jdW_in (tb6 (List.mem_of_getElem? (i := 207) (by eq_refl))) (by decide +kernel), jdW_in (tb1 (List.mem_of_getElem? (i := 7) (by eq_refl))) (by decide +kernel), ⟨by decide +kernel, by decide +kernel, by decide +kernel⟩, by decide⟩
set_option maxRecDepth 100000 in
theorem sX12_run : Cond.instanceMethod mX12_run.1 ∈ jdW ∧ Cond.selects mX12_run.1.cls mX12_run.1 mX12_run.1 ∈ jdW := ⟨jdW_in (tb6 (List.mem_of_getElem? (i := 205) (by eq_refl))) (by decide +kernel), jdW_in (tb6 (List.mem_of_getElem? (i := 206) (by eq_refl))) (by decide +kernel)⟩
abbrev mX12_coach : jdM := (yX12_coach, cX12_coach, 4, (some .int))
set_option maxRecDepth 100000 in
theorem kX12_coach : jdMc mX12_coach 2 := ⟨jdW_in (tb6 (List.mem_of_getElem? (i := 219) (by eq_refl))) (by decide +kernel), jdW_in (tb1 (List.mem_of_getElem? (i := 7) (by eq_refl))) (by decide +kernel), ⟨by decide +kernel, by decide +kernel, by decide +kernel⟩, by decide⟩
set_option maxRecDepth 100000 in
theorem sX12_coach : Cond.instanceMethod mX12_coach.1 ∈ jdW ∧ Cond.selects mX12_coach.1.cls mX12_coach.1 mX12_coach.1 ∈ jdW := ⟨jdW_in (tb6 (List.mem_of_getElem? (i := 217) (by eq_refl))) (by decide +kernel), jdW_in (tb6 (List.mem_of_getElem? (i := 218) (by eq_refl))) (by decide +kernel)⟩
abbrev mX12_left : jdM := (yX12_left, cX12_left, 3, (some .int))
set_option maxRecDepth 100000 in
theorem kX12_left : jdMc mX12_left 1 := ⟨jdW_in (tb6 (List.mem_of_getElem? (i := 223) (by eq_refl))) (by decide +kernel), jdW_in (tb1 (List.mem_of_getElem? (i := 7) (by eq_refl))) (by decide +kernel), ⟨by decide +kernel, by decide +kernel, by decide +kernel⟩, by decide⟩
set_option maxRecDepth 100000 in
theorem sX12_left : Cond.instanceMethod mX12_left.1 ∈ jdW ∧ Cond.selects mX12_left.1.cls mX12_left.1 mX12_left.1 ∈ jdW := ⟨jdW_in (tb6 (List.mem_of_getElem? (i := 221) (by eq_refl))) (by decide +kernel), jdW_in (tb6 (List.mem_of_getElem? (i := 222) (by eq_refl))) (by decide +kernel)⟩
abbrev mX12_waits : jdM := (yX12_waits, cX12_waits, 4, (some .int))
set_option maxRecDepth 100000 in
theorem kX12_waits : jdMc mX12_waits 2 := ⟨jdW_in (tb6 (List.mem_of_getElem? (i := 227) (by eq_refl))) (by decide +kernel), jdW_in (tb1 (List.mem_of_getElem? (i := 7) (by eq_refl))) (by decide +kernel), ⟨by decide +kernel, by decide +kernel, by decide +kernel⟩, by decide⟩
set_option maxRecDepth 100000 in
theorem sX12_waits : Cond.instanceMethod mX12_waits.1 ∈ jdW ∧ Cond.selects mX12_waits.1.cls mX12_waits.1 mX12_waits.1 ∈ jdW := ⟨jdW_in (tb6 (List.mem_of_getElem? (i := 225) (by eq_refl))) (by decide +kernel), jdW_in (tb6 (List.mem_of_getElem? (i := 226) (by eq_refl))) (by decide +kernel)⟩
abbrev mX12_leastFrom : jdM := (yX12_leastFrom, cX12_leastFrom, 9, (some .int))
set_option maxRecDepth 100000 in
theorem kX12_leastFrom : jdMc mX12_leastFrom 2 := ⟨jdW_in (tb6 (List.mem_of_getElem? (i := 239) (by eq_refl))) (by decide +kernel), jdW_in (tb1 (List.mem_of_getElem? (i := 7) (by eq_refl))) (by decide +kernel), ⟨by decide +kernel, by decide +kernel, by decide +kernel⟩, by decide⟩
set_option maxRecDepth 100000 in
theorem sX12_leastFrom : Cond.instanceMethod mX12_leastFrom.1 ∈ jdW ∧ Cond.selects mX12_leastFrom.1.cls mX12_leastFrom.1 mX12_leastFrom.1 ∈ jdW := ⟨jdW_in (tb6 (List.mem_of_getElem? (i := 238) (by eq_refl))) (by decide +kernel), jdW_in (List.mem_of_getElem? (i := 72) (by eq_refl)) (by decide +kernel)⟩
abbrev mX12_least : jdM := (yX12_least, cX12_least, 3, (some .int))
set_option maxRecDepth 100000 in
theorem kX12_least : jdMc mX12_least 1 := ⟨jdW_in (tb6 (List.mem_of_getElem? (i := 235) (by eq_refl))) (by decide +kernel), jdW_in (tb1 (List.mem_of_getElem? (i := 7) (by eq_refl))) (by decide +kernel), ⟨by decide +kernel, by decide +kernel, by decide +kernel⟩, by decide⟩
set_option maxRecDepth 100000 in
theorem sX12_least : Cond.instanceMethod mX12_least.1 ∈ jdW ∧ Cond.selects mX12_least.1.cls mX12_least.1 mX12_least.1 ∈ jdW := ⟨jdW_in (tb6 (List.mem_of_getElem? (i := 233) (by eq_refl))) (by decide +kernel), jdW_in (tb6 (List.mem_of_getElem? (i := 234) (by eq_refl))) (by decide +kernel)⟩
abbrev mX12_head : jdM := (yX12_head, cX12_head, 5, (some .int))
set_option maxRecDepth 100000 in
theorem kX12_head : jdMc mX12_head 0 := ⟨jdW_in (tb7 (List.mem_of_getElem? (i := 3) (by eq_refl))) (by decide +kernel), jdW_in (tb1 (List.mem_of_getElem? (i := 7) (by eq_refl))) (by decide +kernel), ⟨by decide +kernel, by decide +kernel, by decide +kernel⟩, by decide⟩
set_option maxRecDepth 100000 in
theorem sX12_head : Cond.instanceMethod mX12_head.1 ∈ jdW ∧ Cond.selects mX12_head.1.cls mX12_head.1 mX12_head.1 ∈ jdW := ⟨jdW_in (tb7 (List.mem_of_getElem? (i := 1) (by eq_refl))) (by decide +kernel), jdW_in (tb7 (List.mem_of_getElem? (i := 2) (by eq_refl))) (by decide +kernel)⟩
abbrev mX12_dayOf : jdM := (yX12_dayOf, cX12_dayOf, 4, (some .int))
set_option maxRecDepth 100000 in
theorem kX12_dayOf : jdMc mX12_dayOf 2 := ⟨jdW_in (tb7 (List.mem_of_getElem? (i := 11) (by eq_refl))) (by decide +kernel), jdW_in (tb1 (List.mem_of_getElem? (i := 7) (by eq_refl))) (by decide +kernel), ⟨by decide +kernel, by decide +kernel, by decide +kernel⟩, by decide⟩
set_option maxRecDepth 100000 in
theorem sX12_dayOf : Cond.instanceMethod mX12_dayOf.1 ∈ jdW ∧ Cond.selects mX12_dayOf.1.cls mX12_dayOf.1 mX12_dayOf.1 ∈ jdW := ⟨jdW_in (tb7 (List.mem_of_getElem? (i := 10) (by eq_refl))) (by decide +kernel), jdW_in (List.mem_of_getElem? (i := 73) (by eq_refl)) (by decide +kernel)⟩
abbrev mX12_days : jdM := (yX12_days, cX12_days, 5, (some .int))
set_option maxRecDepth 100000 in
theorem kX12_days : jdMc mX12_days 1 := ⟨jdW_in (tb7 (List.mem_of_getElem? (i := 7) (by eq_refl))) (by decide +kernel), jdW_in (tb1 (List.mem_of_getElem? (i := 7) (by eq_refl))) (by decide +kernel), ⟨by decide +kernel, by decide +kernel, by decide +kernel⟩, by decide⟩
set_option maxRecDepth 100000 in
theorem sX12_days : Cond.instanceMethod mX12_days.1 ∈ jdW ∧ Cond.selects mX12_days.1.cls mX12_days.1 mX12_days.1 ∈ jdW := ⟨jdW_in (tb7 (List.mem_of_getElem? (i := 5) (by eq_refl))) (by decide +kernel), jdW_in (tb7 (List.mem_of_getElem? (i := 6) (by eq_refl))) (by decide +kernel)⟩
abbrev mX12_pairsOf : jdM := (yX12_pairsOf, cX12_pairsOf, 5, (some .int))
set_option maxRecDepth 100000 in
theorem kX12_pairsOf : jdMc mX12_pairsOf 1 := ⟨jdW_in (tb7 (List.mem_of_getElem? (i := 23) (by eq_refl))) (by decide +kernel), jdW_in (tb1 (List.mem_of_getElem? (i := 7) (by eq_refl))) (by decide +kernel), ⟨by decide +kernel, by decide +kernel, by decide +kernel⟩, by decide⟩
set_option maxRecDepth 100000 in
theorem sX12_pairsOf : Cond.instanceMethod mX12_pairsOf.1 ∈ jdW ∧ Cond.selects mX12_pairsOf.1.cls mX12_pairsOf.1 mX12_pairsOf.1 ∈ jdW := ⟨jdW_in (tb7 (List.mem_of_getElem? (i := 22) (by eq_refl))) (by decide +kernel), jdW_in (List.mem_of_getElem? (i := 75) (by eq_refl)) (by decide +kernel)⟩
abbrev mX12_seekEver : jdM := (yX12_seekEver, cX12_seekEver, 6, none)
set_option maxRecDepth 100000 in
theorem kX12_seekEver : jdMc mX12_seekEver 3 := ⟨jdW_in (tb7 (List.mem_of_getElem? (i := 27) (by eq_refl))) (by decide +kernel), jdW_in (tb1 (List.mem_of_getElem? (i := 7) (by eq_refl))) (by decide +kernel), ⟨by decide +kernel, by decide +kernel, by decide +kernel⟩, by decide⟩
set_option maxRecDepth 100000 in
theorem sX12_seekEver : Cond.instanceMethod mX12_seekEver.1 ∈ jdW ∧ Cond.selects mX12_seekEver.1.cls mX12_seekEver.1 mX12_seekEver.1 ∈ jdW := ⟨jdW_in (tb7 (List.mem_of_getElem? (i := 26) (by eq_refl))) (by decide +kernel), jdW_in (List.mem_of_getElem? (i := 76) (by eq_refl)) (by decide +kernel)⟩
abbrev mX12_isApart : jdM := (yX12_isApart, cX12_isApart, 4, (some .boolean))
set_option maxRecDepth 100000 in
theorem kX12_isApart : jdMc mX12_isApart 3 := ⟨jdW_in (tb7 (List.mem_of_getElem? (i := 30) (by eq_refl))) (by decide +kernel), jdW_in (tb1 (List.mem_of_getElem? (i := 7) (by eq_refl))) (by decide +kernel), ⟨by decide +kernel, by decide +kernel, by decide +kernel⟩, by decide⟩
set_option maxRecDepth 100000 in
theorem sX12_isApart : Cond.static mX12_isApart.1 ∈ jdW := jdW_in (tb7 (List.mem_of_getElem? (i := 29) (by eq_refl))) (by decide +kernel)
abbrev mX12_findEver : jdM := (yX12_findEver, cX12_findEver, 1, none)
set_option maxRecDepth 100000 in
theorem kX12_findEver : jdMc mX12_findEver 0 := ⟨jdW_in (tb7 (List.mem_of_getElem? (i := 19) (by eq_refl))) (by decide +kernel), jdW_in (tb1 (List.mem_of_getElem? (i := 7) (by eq_refl))) (by decide +kernel), ⟨by decide +kernel, by decide +kernel, by decide +kernel⟩, by decide⟩
set_option maxRecDepth 100000 in
theorem sX12_findEver : Cond.instanceMethod mX12_findEver.1 ∈ jdW ∧ Cond.selects mX12_findEver.1.cls mX12_findEver.1 mX12_findEver.1 ∈ jdW := ⟨jdW_in (tb7 (List.mem_of_getElem? (i := 18) (by eq_refl))) (by decide +kernel), jdW_in (List.mem_of_getElem? (i := 74) (by eq_refl)) (by decide +kernel)⟩
abbrev mX12_ever : jdM := (yX12_ever, cX12_ever, 2, (some .int))
set_option maxRecDepth 100000 in
theorem kX12_ever : jdMc mX12_ever 1 := ⟨jdW_in (tb7 (List.mem_of_getElem? (i := 15) (by eq_refl))) (by decide +kernel), jdW_in (tb1 (List.mem_of_getElem? (i := 7) (by eq_refl))) (by decide +kernel), ⟨by decide +kernel, by decide +kernel, by decide +kernel⟩, by decide⟩
set_option maxRecDepth 100000 in
theorem sX12_ever : Cond.instanceMethod mX12_ever.1 ∈ jdW ∧ Cond.selects mX12_ever.1.cls mX12_ever.1 mX12_ever.1 ∈ jdW := ⟨jdW_in (tb7 (List.mem_of_getElem? (i := 13) (by eq_refl))) (by decide +kernel), jdW_in (tb7 (List.mem_of_getElem? (i := 14) (by eq_refl))) (by decide +kernel)⟩
abbrev mX12_hire : jdM := (yX12_hire, cX12_hire, 3, (some .int))
set_option maxRecDepth 100000 in
theorem kX12_hire : jdMc mX12_hire 0 := ⟨jdW_in (tb7 (List.mem_of_getElem? (i := 34) (by eq_refl))) (by decide +kernel), jdW_in (tb1 (List.mem_of_getElem? (i := 7) (by eq_refl))) (by decide +kernel), ⟨by decide +kernel, by decide +kernel, by decide +kernel⟩, by decide⟩
set_option maxRecDepth 100000 in
theorem sX12_hire : Cond.instanceMethod mX12_hire.1 ∈ jdW ∧ Cond.selects mX12_hire.1.cls mX12_hire.1 mX12_hire.1 ∈ jdW := ⟨jdW_in (tb7 (List.mem_of_getElem? (i := 32) (by eq_refl))) (by decide +kernel), jdW_in (tb7 (List.mem_of_getElem? (i := 33) (by eq_refl))) (by decide +kernel)⟩
abbrev mX12_feast : jdM := (yX12_feast, cX12_feast, 3, (some .int))
set_option maxRecDepth 100000 in
theorem kX12_feast : jdMc mX12_feast 1 := ⟨jdW_in (tb7 (List.mem_of_getElem? (i := 38) (by eq_refl))) (by decide +kernel), jdW_in (tb1 (List.mem_of_getElem? (i := 7) (by eq_refl))) (by decide +kernel), ⟨by decide +kernel, by decide +kernel, by decide +kernel⟩, by decide⟩
set_option maxRecDepth 100000 in
theorem sX12_feast : Cond.instanceMethod mX12_feast.1 ∈ jdW ∧ Cond.selects mX12_feast.1.cls mX12_feast.1 mX12_feast.1 ∈ jdW := ⟨jdW_in (tb7 (List.mem_of_getElem? (i := 36) (by eq_refl))) (by decide +kernel), jdW_in (tb7 (List.mem_of_getElem? (i := 37) (by eq_refl))) (by decide +kernel)⟩
abbrev mX12_closesOf : jdM := (yX12_closesOf, cX12_closesOf, 4, (some .int))
set_option maxRecDepth 100000 in
theorem kX12_closesOf : jdMc mX12_closesOf 2 := ⟨jdW_in (tb7 (List.mem_of_getElem? (i := 46) (by eq_refl))) (by decide +kernel), jdW_in (tb1 (List.mem_of_getElem? (i := 7) (by eq_refl))) (by decide +kernel), ⟨by decide +kernel, by decide +kernel, by decide +kernel⟩, by decide⟩
set_option maxRecDepth 100000 in
theorem sX12_closesOf : Cond.instanceMethod mX12_closesOf.1 ∈ jdW ∧ Cond.selects mX12_closesOf.1.cls mX12_closesOf.1 mX12_closesOf.1 ∈ jdW := ⟨jdW_in (tb7 (List.mem_of_getElem? (i := 45) (by eq_refl))) (by decide +kernel), jdW_in (List.mem_of_getElem? (i := 77) (by eq_refl)) (by decide +kernel)⟩
abbrev mX12_closes : jdM := (yX12_closes, cX12_closes, 3, (some .int))
set_option maxRecDepth 100000 in
theorem kX12_closes : jdMc mX12_closes 2 := ⟨jdW_in (tb7 (List.mem_of_getElem? (i := 42) (by eq_refl))) (by decide +kernel), jdW_in (tb1 (List.mem_of_getElem? (i := 7) (by eq_refl))) (by decide +kernel), ⟨by decide +kernel, by decide +kernel, by decide +kernel⟩, by decide⟩
set_option maxRecDepth 100000 in
theorem sX12_closes : Cond.instanceMethod mX12_closes.1 ∈ jdW ∧ Cond.selects mX12_closes.1.cls mX12_closes.1 mX12_closes.1 ∈ jdW := ⟨jdW_in (tb7 (List.mem_of_getElem? (i := 40) (by eq_refl))) (by decide +kernel), jdW_in (tb7 (List.mem_of_getElem? (i := 41) (by eq_refl))) (by decide +kernel)⟩
abbrev mX12_worst : jdM := (yX12_worst, cX12_worst, 6, (some .int))
set_option maxRecDepth 100000 in
theorem kX12_worst : jdMc mX12_worst 0 := ⟨jdW_in (tb7 (List.mem_of_getElem? (i := 50) (by eq_refl))) (by decide +kernel), jdW_in (tb1 (List.mem_of_getElem? (i := 7) (by eq_refl))) (by decide +kernel), ⟨by decide +kernel, by decide +kernel, by decide +kernel⟩, by decide⟩
set_option maxRecDepth 100000 in
theorem sX12_worst : Cond.instanceMethod mX12_worst.1 ∈ jdW ∧ Cond.selects mX12_worst.1.cls mX12_worst.1 mX12_worst.1 ∈ jdW := ⟨jdW_in (tb7 (List.mem_of_getElem? (i := 48) (by eq_refl))) (by decide +kernel), jdW_in (tb7 (List.mem_of_getElem? (i := 49) (by eq_refl))) (by decide +kernel)⟩
abbrev mX12_findWays : jdM := (yX12_findWays, cX12_findWays, 5, none)
set_option maxRecDepth 100000 in
theorem kX12_findWays : jdMc mX12_findWays 1 := ⟨jdW_in (tb7 (List.mem_of_getElem? (i := 58) (by eq_refl))) (by decide +kernel), jdW_in (tb1 (List.mem_of_getElem? (i := 7) (by eq_refl))) (by decide +kernel), ⟨by decide +kernel, by decide +kernel, by decide +kernel⟩, by decide⟩
set_option maxRecDepth 100000 in
theorem sX12_findWays : Cond.instanceMethod mX12_findWays.1 ∈ jdW ∧ Cond.selects mX12_findWays.1.cls mX12_findWays.1 mX12_findWays.1 ∈ jdW := ⟨jdW_in (tb7 (List.mem_of_getElem? (i := 57) (by eq_refl))) (by decide +kernel), jdW_in (List.mem_of_getElem? (i := 78) (by eq_refl)) (by decide +kernel)⟩
abbrev mX12_fits : jdM := (yX12_fits, cX12_fits, 2, (some .int))
set_option maxRecDepth 100000 in
theorem kX12_fits : jdMc mX12_fits 1 := ⟨jdW_in (tb7 (List.mem_of_getElem? (i := 54) (by eq_refl))) (by decide +kernel), jdW_in (tb1 (List.mem_of_getElem? (i := 7) (by eq_refl))) (by decide +kernel), ⟨by decide +kernel, by decide +kernel, by decide +kernel⟩, by decide⟩
set_option maxRecDepth 100000 in
theorem sX12_fits : Cond.instanceMethod mX12_fits.1 ∈ jdW ∧ Cond.selects mX12_fits.1.cls mX12_fits.1 mX12_fits.1 ∈ jdW := ⟨jdW_in (tb7 (List.mem_of_getElem? (i := 52) (by eq_refl))) (by decide +kernel), jdW_in (tb7 (List.mem_of_getElem? (i := 53) (by eq_refl))) (by decide +kernel)⟩
abbrev mX12_sure : jdM := (yX12_sure, cX12_sure, 4, (some .int))
set_option maxRecDepth 100000 in
theorem kX12_sure : jdMc mX12_sure 1 := ⟨jdW_in (tb7 (List.mem_of_getElem? (i := 62) (by eq_refl))) (by decide +kernel), jdW_in (tb1 (List.mem_of_getElem? (i := 7) (by eq_refl))) (by decide +kernel), ⟨by decide +kernel, by decide +kernel, by decide +kernel⟩, by decide⟩
set_option maxRecDepth 100000 in
theorem sX12_sure : Cond.instanceMethod mX12_sure.1 ∈ jdW ∧ Cond.selects mX12_sure.1.cls mX12_sure.1 mX12_sure.1 ∈ jdW := ⟨jdW_in (tb7 (List.mem_of_getElem? (i := 60) (by eq_refl))) (by decide +kernel), jdW_in (tb7 (List.mem_of_getElem? (i := 61) (by eq_refl))) (by decide +kernel)⟩
abbrev mX12_noDay : jdM := (yX12_noDay, cX12_noDay, 4, (some .int))
set_option maxRecDepth 100000 in
theorem kX12_noDay : jdMc mX12_noDay 2 := ⟨jdW_in (tb7 (List.mem_of_getElem? (i := 70) (by eq_refl))) (by decide +kernel), jdW_in (tb1 (List.mem_of_getElem? (i := 7) (by eq_refl))) (by decide +kernel), ⟨by decide +kernel, by decide +kernel, by decide +kernel⟩, by decide⟩
set_option maxRecDepth 100000 in
theorem sX12_noDay : Cond.instanceMethod mX12_noDay.1 ∈ jdW ∧ Cond.selects mX12_noDay.1.cls mX12_noDay.1 mX12_noDay.1 ∈ jdW := ⟨jdW_in (tb7 (List.mem_of_getElem? (i := 69) (by eq_refl))) (by decide +kernel), jdW_in (List.mem_of_getElem? (i := 79) (by eq_refl)) (by decide +kernel)⟩
abbrev mX12_wrongCoach : jdM := (yX12_wrongCoach, cX12_wrongCoach, 4, (some .int))
set_option maxRecDepth 100000 in
theorem kX12_wrongCoach : jdMc mX12_wrongCoach 2 := ⟨jdW_in (tb7 (List.mem_of_getElem? (i := 74) (by eq_refl))) (by decide +kernel), jdW_in (tb1 (List.mem_of_getElem? (i := 7) (by eq_refl))) (by decide +kernel), ⟨by decide +kernel, by decide +kernel, by decide +kernel⟩, by decide⟩
set_option maxRecDepth 100000 in
theorem sX12_wrongCoach : Cond.instanceMethod mX12_wrongCoach.1 ∈ jdW ∧ Cond.selects mX12_wrongCoach.1.cls mX12_wrongCoach.1 mX12_wrongCoach.1 ∈ jdW := ⟨jdW_in (tb7 (List.mem_of_getElem? (i := 73) (by eq_refl))) (by decide +kernel), jdW_in (List.mem_of_getElem? (i := 80) (by eq_refl)) (by decide +kernel)⟩
abbrev mX12_judge : jdM := (yX12_judge, cX12_judge, 4, (some .int))
set_option maxRecDepth 100000 in
theorem kX12_judge : jdMc mX12_judge 2 := ⟨jdW_in (tb7 (List.mem_of_getElem? (i := 66) (by eq_refl))) (by decide +kernel), jdW_in (tb1 (List.mem_of_getElem? (i := 7) (by eq_refl))) (by decide +kernel), ⟨by decide +kernel, by decide +kernel, by decide +kernel⟩, by decide⟩
set_option maxRecDepth 100000 in
theorem sX12_judge : Cond.instanceMethod mX12_judge.1 ∈ jdW ∧ Cond.selects mX12_judge.1.cls mX12_judge.1 mX12_judge.1 ∈ jdW := ⟨jdW_in (tb7 (List.mem_of_getElem? (i := 64) (by eq_refl))) (by decide +kernel), jdW_in (tb7 (List.mem_of_getElem? (i := 65) (by eq_refl))) (by decide +kernel)⟩
abbrev mX12_behind : jdM := (yX12_behind, cX12_behind, 7, (some .int))
set_option maxRecDepth 100000 in
theorem kX12_behind : jdMc mX12_behind 3 := ⟨jdW_in (tb7 (List.mem_of_getElem? (i := 78) (by eq_refl))) (by decide +kernel), jdW_in (tb1 (List.mem_of_getElem? (i := 7) (by eq_refl))) (by decide +kernel), ⟨by decide +kernel, by decide +kernel, by decide +kernel⟩, by decide⟩
set_option maxRecDepth 100000 in
theorem sX12_behind : Cond.instanceMethod mX12_behind.1 ∈ jdW ∧ Cond.selects mX12_behind.1.cls mX12_behind.1 mX12_behind.1 ∈ jdW := ⟨jdW_in (tb7 (List.mem_of_getElem? (i := 76) (by eq_refl))) (by decide +kernel), jdW_in (tb7 (List.mem_of_getElem? (i := 77) (by eq_refl))) (by decide +kernel)⟩
abbrev mX12_rides : jdM := (yX12_rides, cX12_rides, 5, (some .int))
set_option maxRecDepth 100000 in
theorem kX12_rides : jdMc mX12_rides 2 := ⟨jdW_in (tb7 (List.mem_of_getElem? (i := 82) (by eq_refl))) (by decide +kernel), jdW_in (tb1 (List.mem_of_getElem? (i := 7) (by eq_refl))) (by decide +kernel), ⟨by decide +kernel, by decide +kernel, by decide +kernel⟩, by decide⟩
set_option maxRecDepth 100000 in
theorem sX12_rides : Cond.instanceMethod mX12_rides.1 ∈ jdW ∧ Cond.selects mX12_rides.1.cls mX12_rides.1 mX12_rides.1 ∈ jdW := ⟨jdW_in (tb7 (List.mem_of_getElem? (i := 80) (by eq_refl))) (by decide +kernel), jdW_in (tb7 (List.mem_of_getElem? (i := 81) (by eq_refl))) (by decide +kernel)⟩
abbrev mX12_day : jdM := (yX12_day, cX12_day, 4, (some .int))
set_option maxRecDepth 100000 in
theorem kX12_day : jdMc mX12_day 1 := ⟨jdW_in (tb7 (List.mem_of_getElem? (i := 86) (by eq_refl))) (by decide +kernel), jdW_in (tb1 (List.mem_of_getElem? (i := 7) (by eq_refl))) (by decide +kernel), ⟨by decide +kernel, by decide +kernel, by decide +kernel⟩, by decide⟩
set_option maxRecDepth 100000 in
theorem sX12_day : Cond.instanceMethod mX12_day.1 ∈ jdW ∧ Cond.selects mX12_day.1.cls mX12_day.1 mX12_day.1 ∈ jdW := ⟨jdW_in (tb7 (List.mem_of_getElem? (i := 84) (by eq_refl))) (by decide +kernel), jdW_in (tb7 (List.mem_of_getElem? (i := 85) (by eq_refl))) (by decide +kernel)⟩
abbrev mX12_meet : jdM := (yX12_meet, cX12_meet, 2, (some .int))
set_option maxRecDepth 100000 in
theorem kX12_meet : jdMc mX12_meet 1 := ⟨jdW_in (tb7 (List.mem_of_getElem? (i := 90) (by eq_refl))) (by decide +kernel), jdW_in (tb1 (List.mem_of_getElem? (i := 7) (by eq_refl))) (by decide +kernel), ⟨by decide +kernel, by decide +kernel, by decide +kernel⟩, by decide⟩
set_option maxRecDepth 100000 in
theorem sX12_meet : Cond.instanceMethod mX12_meet.1 ∈ jdW ∧ Cond.selects mX12_meet.1.cls mX12_meet.1 mX12_meet.1 ∈ jdW := ⟨jdW_in (tb7 (List.mem_of_getElem? (i := 88) (by eq_refl))) (by decide +kernel), jdW_in (tb7 (List.mem_of_getElem? (i := 89) (by eq_refl))) (by decide +kernel)⟩
abbrev mX12_year : jdM := (yX12_year, cX12_year, 6, (some .int))
set_option maxRecDepth 100000 in
theorem kX12_year : jdMc mX12_year 0 := ⟨jdW_in (tb7 (List.mem_of_getElem? (i := 94) (by eq_refl))) (by decide +kernel), jdW_in (tb1 (List.mem_of_getElem? (i := 7) (by eq_refl))) (by decide +kernel), ⟨by decide +kernel, by decide +kernel, by decide +kernel⟩, by decide⟩
set_option maxRecDepth 100000 in
theorem sX12_year : Cond.instanceMethod mX12_year.1 ∈ jdW ∧ Cond.selects mX12_year.1.cls mX12_year.1 mX12_year.1 ∈ jdW := ⟨jdW_in (tb7 (List.mem_of_getElem? (i := 92) (by eq_refl))) (by decide +kernel), jdW_in (tb7 (List.mem_of_getElem? (i := 93) (by eq_refl))) (by decide +kernel)⟩
abbrev mX12_below : jdM := (yX12_below, cX12_below, 2, (some .int))
set_option maxRecDepth 100000 in
theorem kX12_below : jdMc mX12_below 1 := ⟨jdW_in (tb7 (List.mem_of_getElem? (i := 102) (by eq_refl))) (by decide +kernel), jdW_in (tb1 (List.mem_of_getElem? (i := 7) (by eq_refl))) (by decide +kernel), ⟨by decide +kernel, by decide +kernel, by decide +kernel⟩, by decide⟩
set_option maxRecDepth 100000 in
theorem sX12_below : Cond.instanceMethod mX12_below.1 ∈ jdW ∧ Cond.selects mX12_below.1.cls mX12_below.1 mX12_below.1 ∈ jdW := ⟨jdW_in (tb7 (List.mem_of_getElem? (i := 101) (by eq_refl))) (by decide +kernel), jdW_in (List.mem_of_getElem? (i := 81) (by eq_refl)) (by decide +kernel)⟩
abbrev mX12_come : jdM := (yX12_come, cX12_come, 5, (some .int))
set_option maxRecDepth 100000 in
theorem kX12_come : jdMc mX12_come 1 := ⟨jdW_in (tb7 (List.mem_of_getElem? (i := 98) (by eq_refl))) (by decide +kernel), jdW_in (tb1 (List.mem_of_getElem? (i := 7) (by eq_refl))) (by decide +kernel), ⟨by decide +kernel, by decide +kernel, by decide +kernel⟩, by decide⟩
set_option maxRecDepth 100000 in
theorem sX12_come : Cond.instanceMethod mX12_come.1 ∈ jdW ∧ Cond.selects mX12_come.1.cls mX12_come.1 mX12_come.1 ∈ jdW := ⟨jdW_in (tb7 (List.mem_of_getElem? (i := 96) (by eq_refl))) (by decide +kernel), jdW_in (tb7 (List.mem_of_getElem? (i := 97) (by eq_refl))) (by decide +kernel)⟩
abbrev mX12_seed : jdM := (yX12_seed, cX12_seed, 3, (some .int))
set_option maxRecDepth 100000 in
theorem kX12_seed : jdMc mX12_seed 1 := ⟨jdW_in (tb7 (List.mem_of_getElem? (i := 107) (by eq_refl))) (by decide +kernel), jdW_in (tb1 (List.mem_of_getElem? (i := 7) (by eq_refl))) (by decide +kernel), ⟨by decide +kernel, by decide +kernel, by decide +kernel⟩, by decide⟩
set_option maxRecDepth 100000 in
theorem sX12_seed : Cond.instanceMethod mX12_seed.1 ∈ jdW ∧ Cond.selects mX12_seed.1.cls mX12_seed.1 mX12_seed.1 ∈ jdW := ⟨jdW_in (tb7 (List.mem_of_getElem? (i := 105) (by eq_refl))) (by decide +kernel), jdW_in (tb7 (List.mem_of_getElem? (i := 106) (by eq_refl))) (by decide +kernel)⟩
abbrev mX12_fresh : jdM := (yX12_fresh, cX12_fresh, 1, (some (.object "ThreeStrangersModel")))
set_option maxRecDepth 100000 in
theorem kX12_fresh : jdMc mX12_fresh 0 := ⟨jdW_in (tb6 (List.mem_of_getElem? (i := 85) (by eq_refl))) (by decide +kernel), jdW_in (tb1 (List.mem_of_getElem? (i := 7) (by eq_refl))) (by decide +kernel), ⟨by decide +kernel, by decide +kernel, by decide +kernel⟩, by decide⟩
set_option maxRecDepth 100000 in
theorem sX12_fresh : Cond.instanceMethod mX12_fresh.1 ∈ jdW ∧ Cond.selects mX12_fresh.1.cls mX12_fresh.1 mX12_fresh.1 ∈ jdW := ⟨jdW_in (tb6 (List.mem_of_getElem? (i := 84) (by eq_refl))) (by decide +kernel), jdW_in (List.mem_of_getElem? (i := 52) (by eq_refl)) (by decide +kernel)⟩
abbrev mX12_over : jdM := (yX12_over, cX12_over, 3, none)
set_option maxRecDepth 100000 in
theorem kX12_over : jdMc mX12_over 2 := ⟨jdW_in (tb6 (List.mem_of_getElem? (i := 94) (by eq_refl))) (by decide +kernel), jdW_in (tb1 (List.mem_of_getElem? (i := 7) (by eq_refl))) (by decide +kernel), ⟨by decide +kernel, by decide +kernel, by decide +kernel⟩, by decide⟩
set_option maxRecDepth 100000 in
theorem sX12_over : Cond.static mX12_over.1 ∈ jdW := jdW_in (tb6 (List.mem_of_getElem? (i := 93) (by eq_refl))) (by decide +kernel)
abbrev mX12_takeFrom : jdM := (yX12_takeFrom, cX12_takeFrom, 3, none)
set_option maxRecDepth 100000 in
theorem kX12_takeFrom : jdMc mX12_takeFrom 1 := ⟨jdW_in (tb6 (List.mem_of_getElem? (i := 91) (by eq_refl))) (by decide +kernel), jdW_in (tb1 (List.mem_of_getElem? (i := 7) (by eq_refl))) (by decide +kernel), ⟨by decide +kernel, by decide +kernel, by decide +kernel⟩, by decide⟩
set_option maxRecDepth 100000 in
theorem sX12_takeFrom : Cond.instanceMethod mX12_takeFrom.1 ∈ jdW ∧ Cond.selects mX12_takeFrom.1.cls mX12_takeFrom.1 mX12_takeFrom.1 ∈ jdW := ⟨jdW_in (tb6 (List.mem_of_getElem? (i := 90) (by eq_refl))) (by decide +kernel), jdW_in (List.mem_of_getElem? (i := 53) (by eq_refl)) (by decide +kernel)⟩
abbrev mX12_image : jdM := (yX12_image, cX12_image, 1, (some .int))
set_option maxRecDepth 100000 in
theorem kX12_image : jdMc mX12_image 0 := ⟨jdW_in (tb7 (List.mem_of_getElem? (i := 111) (by eq_refl))) (by decide +kernel), jdW_in (tb1 (List.mem_of_getElem? (i := 7) (by eq_refl))) (by decide +kernel), ⟨by decide +kernel, by decide +kernel, by decide +kernel⟩, by decide⟩
set_option maxRecDepth 100000 in
theorem sX12_image : Cond.instanceMethod mX12_image.1 ∈ jdW ∧ Cond.selects mX12_image.1.cls mX12_image.1 mX12_image.1 ∈ jdW := ⟨jdW_in (tb7 (List.mem_of_getElem? (i := 109) (by eq_refl))) (by decide +kernel), jdW_in (tb7 (List.mem_of_getElem? (i := 110) (by eq_refl))) (by decide +kernel)⟩
abbrev mX12_back : jdM := (yX12_back, cX12_back, 1, (some .int))
set_option maxRecDepth 100000 in
theorem kX12_back : jdMc mX12_back 0 := ⟨jdW_in (tb7 (List.mem_of_getElem? (i := 115) (by eq_refl))) (by decide +kernel), jdW_in (tb1 (List.mem_of_getElem? (i := 7) (by eq_refl))) (by decide +kernel), ⟨by decide +kernel, by decide +kernel, by decide +kernel⟩, by decide⟩
set_option maxRecDepth 100000 in
theorem sX12_back : Cond.instanceMethod mX12_back.1 ∈ jdW ∧ Cond.selects mX12_back.1.cls mX12_back.1 mX12_back.1 ∈ jdW := ⟨jdW_in (tb7 (List.mem_of_getElem? (i := 113) (by eq_refl))) (by decide +kernel), jdW_in (tb7 (List.mem_of_getElem? (i := 114) (by eq_refl))) (by decide +kernel)⟩
abbrev mX12_status : jdM := (yX12_status, cX12_status, 4, (some .int))
set_option maxRecDepth 100000 in
theorem kX12_status : jdMc mX12_status 1 := ⟨jdW_in (tb7 (List.mem_of_getElem? (i := 119) (by eq_refl))) (by decide +kernel), jdW_in (tb1 (List.mem_of_getElem? (i := 7) (by eq_refl))) (by decide +kernel), ⟨by decide +kernel, by decide +kernel, by decide +kernel⟩, by decide⟩
set_option maxRecDepth 100000 in
theorem sX12_status : Cond.instanceMethod mX12_status.1 ∈ jdW ∧ Cond.selects mX12_status.1.cls mX12_status.1 mX12_status.1 ∈ jdW := ⟨jdW_in (tb7 (List.mem_of_getElem? (i := 117) (by eq_refl))) (by decide +kernel), jdW_in (tb7 (List.mem_of_getElem? (i := 118) (by eq_refl))) (by decide +kernel)⟩
abbrev mJ6_bitCount_0f7a4 : jdM := (yJ6_bitCount_0f7a4, cJ6_bitCount_0f7a4, 1, (some .int))
set_option maxRecDepth 100000 in
theorem kJ6_bitCount_0f7a4 : jdMc mJ6_bitCount_0f7a4 1 := ⟨jdW_in (tb2 (List.mem_of_getElem? (i := 218) (by eq_refl))) (by decide +kernel), jdW_in (tb1 (List.mem_of_getElem? (i := 15) (by eq_refl))) (by decide +kernel), ⟨by decide +kernel, by decide +kernel, by decide +kernel⟩, by decide⟩
set_option maxRecDepth 100000 in
theorem sJ6_bitCount_0f7a4 : Cond.static mJ6_bitCount_0f7a4.1 ∈ jdW := jdW_in (tb2 (List.mem_of_getElem? (i := 217) (by eq_refl))) (by decide +kernel)
abbrev mJ9_max_7cf53 : jdM := (yJ9_max_7cf53, cJ9_max_7cf53, 2, (some .int))
set_option maxRecDepth 100000 in
theorem kJ9_max_7cf53 : jdMc mJ9_max_7cf53 2 := ⟨jdW_in (tb4 (List.mem_of_getElem? (i := 58) (by eq_refl))) (by decide +kernel), jdW_in (tb1 (List.mem_of_getElem? (i := 20) (by eq_refl))) (by decide +kernel), ⟨by decide +kernel, by decide +kernel, by decide +kernel⟩, by decide⟩
set_option maxRecDepth 100000 in
theorem sJ9_max_7cf53 : Cond.static mJ9_max_7cf53.1 ∈ jdW := jdW_in (tb4 (List.mem_of_getElem? (i := 57) (by eq_refl))) (by decide +kernel)
abbrev mJ9_min_7cf53 : jdM := (yJ9_min_7cf53, cJ9_min_7cf53, 2, (some .int))
set_option maxRecDepth 100000 in
theorem kJ9_min_7cf53 : jdMc mJ9_min_7cf53 2 := ⟨jdW_in (tb4 (List.mem_of_getElem? (i := 67) (by eq_refl))) (by decide +kernel), jdW_in (tb1 (List.mem_of_getElem? (i := 20) (by eq_refl))) (by decide +kernel), ⟨by decide +kernel, by decide +kernel, by decide +kernel⟩, by decide⟩
set_option maxRecDepth 100000 in
theorem sJ9_min_7cf53 : Cond.static mJ9_min_7cf53.1 ∈ jdW := jdW_in (tb4 (List.mem_of_getElem? (i := 66) (by eq_refl))) (by decide +kernel)
abbrev mJ0_length_8abf5 : jdM := (yJ0_length_8abf5, cJ0_length_8abf5, 1, (some .int))
set_option maxRecDepth 100000 in
theorem kJ0_length_8abf5 : jdMc mJ0_length_8abf5 0 := ⟨jdW_in (tb3 (List.mem_of_getElem? (i := 99) (by eq_refl))) (by decide +kernel), jdW_in (tb1 (List.mem_of_getElem? (i := 16) (by eq_refl))) (by decide +kernel), ⟨by decide +kernel, by decide +kernel, by decide +kernel⟩, by decide⟩
set_option maxRecDepth 100000 in
theorem sJ0_length_8abf5 : Cond.instanceMethod mJ0_length_8abf5.1 ∈ jdW ∧ Cond.selects mJ0_length_8abf5.1.cls mJ0_length_8abf5.1 mJ0_length_8abf5.1 ∈ jdW := ⟨jdW_in (tb3 (List.mem_of_getElem? (i := 97) (by eq_refl))) (by decide +kernel), jdW_in (tb3 (List.mem_of_getElem? (i := 98) (by eq_refl))) (by decide +kernel)⟩
abbrev mJ0_charAt_5068e : jdM := (yJ0_charAt_5068e, cJ0_charAt_5068e, 2, (some .char))
set_option maxRecDepth 100000 in
theorem kJ0_charAt_5068e : jdMc mJ0_charAt_5068e 1 := ⟨jdW_in (tb3 (List.mem_of_getElem? (i := 109) (by eq_refl))) (by decide +kernel), jdW_in (tb1 (List.mem_of_getElem? (i := 16) (by eq_refl))) (by decide +kernel), ⟨by decide +kernel, by decide +kernel, by decide +kernel⟩, by decide⟩
set_option maxRecDepth 100000 in
theorem sJ0_charAt_5068e : Cond.instanceMethod mJ0_charAt_5068e.1 ∈ jdW ∧ Cond.selects mJ0_charAt_5068e.1.cls mJ0_charAt_5068e.1 mJ0_charAt_5068e.1 ∈ jdW := ⟨jdW_in (tb3 (List.mem_of_getElem? (i := 107) (by eq_refl))) (by decide +kernel), jdW_in (tb3 (List.mem_of_getElem? (i := 108) (by eq_refl))) (by decide +kernel)⟩
abbrev mJ0_coder_7d493 : jdM := (yJ0_coder_7d493, cJ0_coder_7d493, 1, (some .byte))
set_option maxRecDepth 100000 in
theorem kJ0_coder_7d493 : jdMc mJ0_coder_7d493 0 := ⟨jdW_in (tb3 (List.mem_of_getElem? (i := 103) (by eq_refl))) (by decide +kernel), jdW_in (tb1 (List.mem_of_getElem? (i := 16) (by eq_refl))) (by decide +kernel), ⟨by decide +kernel, by decide +kernel, by decide +kernel⟩, by decide⟩
set_option maxRecDepth 100000 in
theorem sJ0_coder_7d493 : Cond.instanceMethod mJ0_coder_7d493.1 ∈ jdW ∧ Cond.selects mJ0_coder_7d493.1.cls mJ0_coder_7d493.1 mJ0_coder_7d493.1 ∈ jdW := ⟨jdW_in (tb3 (List.mem_of_getElem? (i := 101) (by eq_refl))) (by decide +kernel), jdW_in (tb3 (List.mem_of_getElem? (i := 102) (by eq_refl))) (by decide +kernel)⟩
abbrev mJ0_isLatin1_aae02 : jdM := (yJ0_isLatin1_aae02, cJ0_isLatin1_aae02, 1, (some .boolean))
set_option maxRecDepth 100000 in
theorem kJ0_isLatin1_aae02 : jdMc mJ0_isLatin1_aae02 0 := ⟨jdW_in (tb3 (List.mem_of_getElem? (i := 113) (by eq_refl))) (by decide +kernel), jdW_in (tb1 (List.mem_of_getElem? (i := 16) (by eq_refl))) (by decide +kernel), ⟨by decide +kernel, by decide +kernel, by decide +kernel⟩, by decide⟩
set_option maxRecDepth 100000 in
theorem sJ0_isLatin1_aae02 : Cond.instanceMethod mJ0_isLatin1_aae02.1 ∈ jdW ∧ Cond.selects mJ0_isLatin1_aae02.1.cls mJ0_isLatin1_aae02.1 mJ0_isLatin1_aae02.1 ∈ jdW := ⟨jdW_in (tb3 (List.mem_of_getElem? (i := 111) (by eq_refl))) (by decide +kernel), jdW_in (tb3 (List.mem_of_getElem? (i := 112) (by eq_refl))) (by decide +kernel)⟩
abbrev mJ0_checkIndex_df160 : jdM := (yJ0_checkIndex_df160, cJ0_checkIndex_df160, 2, none)
set_option maxRecDepth 100000 in
theorem kJ0_checkIndex_df160 : jdMc mJ0_checkIndex_df160 2 := ⟨jdW_in (tb3 (List.mem_of_getElem? (i := 119) (by eq_refl))) (by decide +kernel), jdW_in (tb1 (List.mem_of_getElem? (i := 16) (by eq_refl))) (by decide +kernel), ⟨by decide +kernel, by decide +kernel, by decide +kernel⟩, by decide⟩
set_option maxRecDepth 100000 in
theorem sJ0_checkIndex_df160 : Cond.static mJ0_checkIndex_df160.1 ∈ jdW := jdW_in (tb3 (List.mem_of_getElem? (i := 118) (by eq_refl))) (by decide +kernel)
abbrev mJ1_charAt_3b067 : jdM := (yJ1_charAt_3b067, cJ1_charAt_3b067, 2, (some .char))
set_option maxRecDepth 100000 in
theorem kJ1_charAt_3b067 : jdMc mJ1_charAt_3b067 2 := ⟨jdW_in (tb3 (List.mem_of_getElem? (i := 116) (by eq_refl))) (by decide +kernel), jdW_in (tb1 (List.mem_of_getElem? (i := 17) (by eq_refl))) (by decide +kernel), ⟨by decide +kernel, by decide +kernel, by decide +kernel⟩, by decide⟩
set_option maxRecDepth 100000 in
theorem sJ1_charAt_3b067 : Cond.static mJ1_charAt_3b067.1 ∈ jdW := jdW_in (tb3 (List.mem_of_getElem? (i := 115) (by eq_refl))) (by decide +kernel)
abbrev mJ3_checkIndex_8e157 : jdM := (yJ3_checkIndex_8e157, cJ3_checkIndex_8e157, 3, (some .int))
set_option maxRecDepth 100000 in
theorem kJ3_checkIndex_8e157 : jdMc mJ3_checkIndex_8e157 3 := ⟨jdW_in (tb3 (List.mem_of_getElem? (i := 124) (by eq_refl))) (by decide +kernel), jdW_in (tb1 (List.mem_of_getElem? (i := 18) (by eq_refl))) (by decide +kernel), ⟨by decide +kernel, by decide +kernel, by decide +kernel⟩, by decide⟩
set_option maxRecDepth 100000 in
theorem sJ3_checkIndex_8e157 : Cond.static mJ3_checkIndex_8e157.1 ∈ jdW := jdW_in (tb3 (List.mem_of_getElem? (i := 123) (by eq_refl))) (by decide +kernel)
set_option maxRecDepth 100000 in
theorem lL_9 : Cond.methodLink RL 9 mX11_init.1 ∈ jdW := jdW_in (tb1 (List.mem_of_getElem? (i := 23) (by eq_refl))) (by decide +kernel)
set_option maxRecDepth 100000 in
theorem oX11_1 : Cond.methodLink RX11 1 objectInit ∈ jdW ∧ Cond.instanceMethod objectInit ∈ jdW ∧ Cond.code objectInit ⟨#[0xb1]⟩ 1 none ∈ jdW := ⟨jdW_in (tb1 (List.mem_of_getElem? (i := 26) (by eq_refl))) (by decide +kernel), jdW_in (tb1 (List.mem_of_getElem? (i := 27) (by eq_refl))) (by decide +kernel), jdW_in (tb1 (List.mem_of_getElem? (i := 28) (by eq_refl))) (by decide +kernel)⟩
set_option maxRecDepth 100000 in
theorem oX9_3 : Cond.methodLink RX9 3 objectInit ∈ jdW ∧ Cond.instanceMethod objectInit ∈ jdW ∧ Cond.code objectInit ⟨#[0xb1]⟩ 1 none ∈ jdW := ⟨jdW_in (tb1 (List.mem_of_getElem? (i := 34) (by eq_refl))) (by decide +kernel), jdW_in (tb1 (List.mem_of_getElem? (i := 27) (by eq_refl))) (by decide +kernel), jdW_in (tb1 (List.mem_of_getElem? (i := 28) (by eq_refl))) (by decide +kernel)⟩
set_option maxRecDepth 100000 in
theorem oX8_5 : Cond.methodLink RX8 5 objectInit ∈ jdW ∧ Cond.instanceMethod objectInit ∈ jdW ∧ Cond.code objectInit ⟨#[0xb1]⟩ 1 none ∈ jdW := ⟨jdW_in (tb1 (List.mem_of_getElem? (i := 90) (by eq_refl))) (by decide +kernel), jdW_in (tb1 (List.mem_of_getElem? (i := 27) (by eq_refl))) (by decide +kernel), jdW_in (tb1 (List.mem_of_getElem? (i := 28) (by eq_refl))) (by decide +kernel)⟩
set_option maxRecDepth 100000 in
theorem oX3_3 : Cond.methodLink RX3 3 objectInit ∈ jdW ∧ Cond.instanceMethod objectInit ∈ jdW ∧ Cond.code objectInit ⟨#[0xb1]⟩ 1 none ∈ jdW := ⟨jdW_in (tb1 (List.mem_of_getElem? (i := 134) (by eq_refl))) (by decide +kernel), jdW_in (tb1 (List.mem_of_getElem? (i := 27) (by eq_refl))) (by decide +kernel), jdW_in (tb1 (List.mem_of_getElem? (i := 28) (by eq_refl))) (by decide +kernel)⟩
set_option maxRecDepth 100000 in
theorem oX5_3 : Cond.methodLink RX5 3 objectInit ∈ jdW ∧ Cond.instanceMethod objectInit ∈ jdW ∧ Cond.code objectInit ⟨#[0xb1]⟩ 1 none ∈ jdW := ⟨jdW_in (tb1 (List.mem_of_getElem? (i := 164) (by eq_refl))) (by decide +kernel), jdW_in (tb1 (List.mem_of_getElem? (i := 27) (by eq_refl))) (by decide +kernel), jdW_in (tb1 (List.mem_of_getElem? (i := 28) (by eq_refl))) (by decide +kernel)⟩
set_option maxRecDepth 100000 in
theorem oX6_3 : Cond.methodLink RX6 3 objectInit ∈ jdW ∧ Cond.instanceMethod objectInit ∈ jdW ∧ Cond.code objectInit ⟨#[0xb1]⟩ 1 none ∈ jdW := ⟨jdW_in (tb1 (List.mem_of_getElem? (i := 192) (by eq_refl))) (by decide +kernel), jdW_in (tb1 (List.mem_of_getElem? (i := 27) (by eq_refl))) (by decide +kernel), jdW_in (tb1 (List.mem_of_getElem? (i := 28) (by eq_refl))) (by decide +kernel)⟩
set_option maxRecDepth 100000 in
theorem lL_13 : Cond.methodLink RL 13 mX11_row.1 ∈ jdW := jdW_in (tb1 (List.mem_of_getElem? (i := 239) (by eq_refl))) (by decide +kernel)
set_option maxRecDepth 100000 in
theorem lX11_54 : Cond.methodLink RX11 54 mX11_isShelf.1 ∈ jdW := jdW_in (tb2 (List.mem_of_getElem? (i := 3) (by eq_refl))) (by decide +kernel)
set_option maxRecDepth 100000 in
theorem lX11_58 : Cond.methodLink RX11 58 mX11_refuse.1 ∈ jdW := jdW_in (tb2 (List.mem_of_getElem? (i := 6) (by eq_refl))) (by decide +kernel)
set_option maxRecDepth 100000 in
theorem lX11_62 : Cond.methodLink RX11 62 mX6_takeRow.1 ∈ jdW := jdW_in (tb2 (List.mem_of_getElem? (i := 10) (by eq_refl))) (by decide +kernel)
set_option maxRecDepth 100000 in
theorem lL_20 : Cond.methodLink RL 20 mX11_set.1 ∈ jdW := jdW_in (tb2 (List.mem_of_getElem? (i := 14) (by eq_refl))) (by decide +kernel)
set_option maxRecDepth 100000 in
theorem lX11_66 : Cond.methodLink RX11 66 mX11_holdsRow.1 ∈ jdW := jdW_in (tb2 (List.mem_of_getElem? (i := 18) (by eq_refl))) (by decide +kernel)
set_option maxRecDepth 100000 in
theorem lX11_80 : Cond.methodLink RX11 80 mX6_isRow.1 ∈ jdW := jdW_in (tb2 (List.mem_of_getElem? (i := 22) (by eq_refl))) (by decide +kernel)
set_option maxRecDepth 100000 in
theorem lX11_69 : Cond.methodLink RX11 69 mX11_whyNoRow.1 ∈ jdW := jdW_in (tb2 (List.mem_of_getElem? (i := 26) (by eq_refl))) (by decide +kernel)
set_option maxRecDepth 100000 in
theorem lX11_76 : Cond.methodLink RX11 76 mX6_put.1 ∈ jdW := jdW_in (tb2 (List.mem_of_getElem? (i := 30) (by eq_refl))) (by decide +kernel)
set_option maxRecDepth 100000 in
theorem lX6_26 : Cond.methodLink RX6 26 mX6_cut.1 ∈ jdW := jdW_in (tb2 (List.mem_of_getElem? (i := 34) (by eq_refl))) (by decide +kernel)
set_option maxRecDepth 100000 in
theorem lL_25 : Cond.methodLink RL 25 mX11_copy.1 ∈ jdW := jdW_in (tb2 (List.mem_of_getElem? (i := 38) (by eq_refl))) (by decide +kernel)
set_option maxRecDepth 100000 in
theorem cX11_95 : jdWc RX11 95 := ⟨jdW_in (tb2 (List.mem_of_getElem? (i := 42) (by eq_refl))) (by decide +kernel), jdW_in (tb2 (List.mem_of_getElem? (i := 44) (by eq_refl))) (by decide +kernel), jdW_in (tb2 (List.mem_of_getElem? (i := 43) (by eq_refl))) (by decide +kernel), jdW_in (tb1 (List.mem_of_getElem? (i := 8) (by eq_refl))) (by decide +kernel)⟩
set_option maxRecDepth 100000 in
theorem lL_30 : Cond.methodLink RL 30 mX11_element.1 ∈ jdW := jdW_in (tb2 (List.mem_of_getElem? (i := 45) (by eq_refl))) (by decide +kernel)
set_option maxRecDepth 100000 in
theorem lL_35 : Cond.methodLink RL 35 mX11_holds.1 ∈ jdW := jdW_in (tb2 (List.mem_of_getElem? (i := 49) (by eq_refl))) (by decide +kernel)
set_option maxRecDepth 100000 in
theorem lX11_101 : Cond.methodLink RX11 101 ⟨"ThreeStrangers$Coachman", "kind", "()I"⟩ ∈ jdW := jdW_in (tb2 (List.mem_of_getElem? (i := 53) (by eq_refl))) (by decide +kernel)
set_option maxRecDepth 100000 in
theorem lL_40 : Cond.methodLink RL 40 mX11_coachman.1 ∈ jdW := jdW_in (tb2 (List.mem_of_getElem? (i := 71) (by eq_refl))) (by decide +kernel)
set_option maxRecDepth 100000 in
theorem lX11_107 : Cond.methodLink RX11 107 mX11_newCoachman.1 ∈ jdW := jdW_in (tb2 (List.mem_of_getElem? (i := 75) (by eq_refl))) (by decide +kernel)
set_option maxRecDepth 100000 in
theorem lX11_334 : Cond.methodLink RX11 334 mX4_init.1 ∈ jdW := jdW_in (tb2 (List.mem_of_getElem? (i := 80) (by eq_refl))) (by decide +kernel)
set_option maxRecDepth 100000 in
theorem lX4_1 : Cond.methodLink RX4 1 mX2_init.1 ∈ jdW := jdW_in (tb2 (List.mem_of_getElem? (i := 83) (by eq_refl))) (by decide +kernel)
set_option maxRecDepth 100000 in
theorem oX2_1 : Cond.methodLink RX2 1 objectInit ∈ jdW ∧ Cond.instanceMethod objectInit ∈ jdW ∧ Cond.code objectInit ⟨#[0xb1]⟩ 1 none ∈ jdW := ⟨jdW_in (tb2 (List.mem_of_getElem? (i := 86) (by eq_refl))) (by decide +kernel), jdW_in (tb1 (List.mem_of_getElem? (i := 27) (by eq_refl))) (by decide +kernel), jdW_in (tb1 (List.mem_of_getElem? (i := 28) (by eq_refl))) (by decide +kernel)⟩
set_option maxRecDepth 100000 in
theorem lX11_338 : Cond.methodLink RX11 338 mX1_init.1 ∈ jdW := jdW_in (tb2 (List.mem_of_getElem? (i := 93) (by eq_refl))) (by decide +kernel)
set_option maxRecDepth 100000 in
theorem lX1_1 : Cond.methodLink RX1 1 mX2_init.1 ∈ jdW := jdW_in (tb2 (List.mem_of_getElem? (i := 96) (by eq_refl))) (by decide +kernel)
set_option maxRecDepth 100000 in
theorem lX11_341 : Cond.methodLink RX11 341 mX10_init.1 ∈ jdW := jdW_in (tb2 (List.mem_of_getElem? (i := 101) (by eq_refl))) (by decide +kernel)
set_option maxRecDepth 100000 in
theorem lX10_1 : Cond.methodLink RX10 1 mX4_init.1 ∈ jdW := jdW_in (tb2 (List.mem_of_getElem? (i := 104) (by eq_refl))) (by decide +kernel)
set_option maxRecDepth 100000 in
theorem lX11_344 : Cond.methodLink RX11 344 mX7_init.1 ∈ jdW := jdW_in (tb2 (List.mem_of_getElem? (i := 109) (by eq_refl))) (by decide +kernel)
set_option maxRecDepth 100000 in
theorem lX7_1 : Cond.methodLink RX7 1 mX1_init.1 ∈ jdW := jdW_in (tb2 (List.mem_of_getElem? (i := 112) (by eq_refl))) (by decide +kernel)
set_option maxRecDepth 100000 in
theorem lX11_347 : Cond.methodLink RX11 347 mX0_init.1 ∈ jdW := jdW_in (tb2 (List.mem_of_getElem? (i := 117) (by eq_refl))) (by decide +kernel)
set_option maxRecDepth 100000 in
theorem lX0_1 : Cond.methodLink RX0 1 mX1_init.1 ∈ jdW := jdW_in (tb2 (List.mem_of_getElem? (i := 120) (by eq_refl))) (by decide +kernel)
set_option maxRecDepth 100000 in
theorem lX11_111 : Cond.methodLink RX11 111 mX6_takeMan.1 ∈ jdW := jdW_in (tb2 (List.mem_of_getElem? (i := 123) (by eq_refl))) (by decide +kernel)
set_option maxRecDepth 100000 in
theorem lL_44 : Cond.methodLink RL 44 mX11_says.1 ∈ jdW := jdW_in (tb2 (List.mem_of_getElem? (i := 127) (by eq_refl))) (by decide +kernel)
set_option maxRecDepth 100000 in
theorem lX11_115 : Cond.methodLink RX11 115 mX11_manIn.1 ∈ jdW := jdW_in (tb2 (List.mem_of_getElem? (i := 131) (by eq_refl))) (by decide +kernel)
set_option maxRecDepth 100000 in
theorem lX11_119 : Cond.methodLink RX11 119 mX11_whyNoMan.1 ∈ jdW := jdW_in (tb2 (List.mem_of_getElem? (i := 135) (by eq_refl))) (by decide +kernel)
set_option maxRecDepth 100000 in
theorem lX11_122 : Cond.methodLink RX11 122 mX2_isOf.1 ∈ jdW := jdW_in (tb2 (List.mem_of_getElem? (i := 139) (by eq_refl))) (by decide +kernel)
set_option maxRecDepth 100000 in
theorem lX2_17 : Cond.methodLink RX2 17 ⟨"ThreeStrangers$Coachman", "kind", "()I"⟩ ∈ jdW := jdW_in (tb2 (List.mem_of_getElem? (i := 150) (by eq_refl))) (by decide +kernel)
set_option maxRecDepth 100000 in
theorem lX11_125 : Cond.methodLink RX11 125 mX2_number.1 ∈ jdW := jdW_in (tb2 (List.mem_of_getElem? (i := 151) (by eq_refl))) (by decide +kernel)
set_option maxRecDepth 100000 in
theorem lX11_128 : Cond.methodLink RX11 128 mX8_load.1 ∈ jdW := jdW_in (tb2 (List.mem_of_getElem? (i := 160) (by eq_refl))) (by decide +kernel)
set_option maxRecDepth 100000 in
theorem lX8_41 : Cond.methodLink RX8 41 mX9_strangersTo.1 ∈ jdW := jdW_in (tb2 (List.mem_of_getElem? (i := 164) (by eq_refl))) (by decide +kernel)
set_option maxRecDepth 100000 in
theorem lX9_52 : Cond.methodLink RX9 52 mX9_since.1 ∈ jdW := jdW_in (tb2 (List.mem_of_getElem? (i := 168) (by eq_refl))) (by decide +kernel)
set_option maxRecDepth 100000 in
theorem lX8_46 : Cond.methodLink RX8 46 mX8_list.1 ∈ jdW := jdW_in (tb2 (List.mem_of_getElem? (i := 172) (by eq_refl))) (by decide +kernel)
set_option maxRecDepth 100000 in
theorem lX8_49 : Cond.methodLink RX8 49 mX8_everybody.1 ∈ jdW := jdW_in (tb2 (List.mem_of_getElem? (i := 176) (by eq_refl))) (by decide +kernel)
set_option maxRecDepth 100000 in
theorem lX8_60 : Cond.methodLink RX8 60 mX8_gather.1 ∈ jdW := jdW_in (tb2 (List.mem_of_getElem? (i := 180) (by eq_refl))) (by decide +kernel)
set_option maxRecDepth 100000 in
theorem lX11_132 : Cond.methodLink RX11 132 mX9_everybody.1 ∈ jdW := jdW_in (tb2 (List.mem_of_getElem? (i := 184) (by eq_refl))) (by decide +kernel)
set_option maxRecDepth 100000 in
theorem lX11_135 : Cond.methodLink RX11 135 mX2_pick.1 ∈ jdW := jdW_in (tb2 (List.mem_of_getElem? (i := 188) (by eq_refl))) (by decide +kernel)
set_option maxRecDepth 100000 in
theorem lX1_21 : Cond.methodLink RX1 21 mX1_worth.1 ∈ jdW := jdW_in (tb2 (List.mem_of_getElem? (i := 194) (by eq_refl))) (by decide +kernel)
set_option maxRecDepth 100000 in
theorem lX0_7 : Cond.methodLink RX0 7 mX8_mostFrom.1 ∈ jdW := jdW_in (tb2 (List.mem_of_getElem? (i := 201) (by eq_refl))) (by decide +kernel)
set_option maxRecDepth 100000 in
theorem lX8_64 : Cond.methodLink RX8 64 mX8_countMost.1 ∈ jdW := jdW_in (tb2 (List.mem_of_getElem? (i := 205) (by eq_refl))) (by decide +kernel)
set_option maxRecDepth 100000 in
theorem lX7_7 : Cond.methodLink RX7 7 mX8_strangersTogether.1 ∈ jdW := jdW_in (tb2 (List.mem_of_getElem? (i := 212) (by eq_refl))) (by decide +kernel)
set_option maxRecDepth 100000 in
theorem lX8_73 : Cond.methodLink RX8 73 mJ6_bitCount_0f7a4.1 ∈ jdW := jdW_in (tb2 (List.mem_of_getElem? (i := 216) (by eq_refl))) (by decide +kernel)
set_option maxRecDepth 100000 in
theorem qJ6_265 : Cond.constant RJ6 265 (1431655765) ∈ jdW := jdW_in (tb2 (List.mem_of_getElem? (i := 219) (by eq_refl))) (by decide +kernel)
set_option maxRecDepth 100000 in
theorem qJ6_266 : Cond.constant RJ6 266 (858993459) ∈ jdW := jdW_in (tb2 (List.mem_of_getElem? (i := 220) (by eq_refl))) (by decide +kernel)
set_option maxRecDepth 100000 in
theorem qJ6_267 : Cond.constant RJ6 267 (252645135) ∈ jdW := jdW_in (tb2 (List.mem_of_getElem? (i := 221) (by eq_refl))) (by decide +kernel)
set_option maxRecDepth 100000 in
theorem lX1_7 : Cond.methodLink RX1 7 mX8_costTogether.1 ∈ jdW := jdW_in (tb2 (List.mem_of_getElem? (i := 223) (by eq_refl))) (by decide +kernel)
set_option maxRecDepth 100000 in
theorem lX4_7 : Cond.methodLink RX4 7 mX8_firstIn.1 ∈ jdW := jdW_in (tb2 (List.mem_of_getElem? (i := 231) (by eq_refl))) (by decide +kernel)
set_option maxRecDepth 100000 in
theorem lX10_7 : Cond.methodLink RX10 7 mJ6_bitCount_0f7a4.1 ∈ jdW := jdW_in (tb2 (List.mem_of_getElem? (i := 239) (by eq_refl))) (by decide +kernel)
set_option maxRecDepth 100000 in
theorem lX10_13 : Cond.methodLink RX10 13 ⟨"ThreeStrangers$Waits", "number", "()I"⟩ ∈ jdW := jdW_in (tb3 (List.mem_of_getElem? (i := 0) (by eq_refl))) (by decide +kernel)
set_option maxRecDepth 100000 in
theorem lX10_19 : Cond.methodLink RX10 19 mX8_firstIn.1 ∈ jdW := jdW_in (tb3 (List.mem_of_getElem? (i := 4) (by eq_refl))) (by decide +kernel)
set_option maxRecDepth 100000 in
theorem lL_49 : Cond.methodLink RL 49 mX11_person.1 ∈ jdW := jdW_in (tb3 (List.mem_of_getElem? (i := 6) (by eq_refl))) (by decide +kernel)
set_option maxRecDepth 100000 in
theorem lX11_139 : Cond.methodLink RX11 139 mX11_isHour.1 ∈ jdW := jdW_in (tb3 (List.mem_of_getElem? (i := 10) (by eq_refl))) (by decide +kernel)
set_option maxRecDepth 100000 in
theorem lX11_142 : Cond.methodLink RX11 142 mX11_isCost.1 ∈ jdW := jdW_in (tb3 (List.mem_of_getElem? (i := 13) (by eq_refl))) (by decide +kernel)
set_option maxRecDepth 100000 in
theorem lX11_148 : Cond.methodLink RX11 148 mX9_add.1 ∈ jdW := jdW_in (tb3 (List.mem_of_getElem? (i := 16) (by eq_refl))) (by decide +kernel)
set_option maxRecDepth 100000 in
theorem lX9_39 : Cond.methodLink RX9 39 mX9_tie.1 ∈ jdW := jdW_in (tb3 (List.mem_of_getElem? (i := 20) (by eq_refl))) (by decide +kernel)
set_option maxRecDepth 100000 in
theorem lL_53 : Cond.methodLink RL 53 mX11_change.1 ∈ jdW := jdW_in (tb3 (List.mem_of_getElem? (i := 24) (by eq_refl))) (by decide +kernel)
set_option maxRecDepth 100000 in
theorem lX11_152 : Cond.methodLink RX11 152 mX9_has.1 ∈ jdW := jdW_in (tb3 (List.mem_of_getElem? (i := 28) (by eq_refl))) (by decide +kernel)
set_option maxRecDepth 100000 in
theorem lL_57 : Cond.methodLink RL 57 mX11_know.1 ∈ jdW := jdW_in (tb3 (List.mem_of_getElem? (i := 32) (by eq_refl))) (by decide +kernel)
set_option maxRecDepth 100000 in
theorem lX11_161 : Cond.methodLink RX11 161 mX9_hasTwo.1 ∈ jdW := jdW_in (tb3 (List.mem_of_getElem? (i := 36) (by eq_refl))) (by decide +kernel)
set_option maxRecDepth 100000 in
theorem lX9_31 : Cond.methodLink RX9 31 mX9_has.1 ∈ jdW := jdW_in (tb3 (List.mem_of_getElem? (i := 40) (by eq_refl))) (by decide +kernel)
set_option maxRecDepth 100000 in
theorem lX11_165 : Cond.methodLink RX11 165 mX9_since.1 ∈ jdW := jdW_in (tb3 (List.mem_of_getElem? (i := 41) (by eq_refl))) (by decide +kernel)
set_option maxRecDepth 100000 in
theorem lX11_168 : Cond.methodLink RX11 168 mX9_tie.1 ∈ jdW := jdW_in (tb3 (List.mem_of_getElem? (i := 42) (by eq_refl))) (by decide +kernel)
set_option maxRecDepth 100000 in
theorem lL_61 : Cond.methodLink RL 61 mX11_ask.1 ∈ jdW := jdW_in (tb3 (List.mem_of_getElem? (i := 43) (by eq_refl))) (by decide +kernel)
set_option maxRecDepth 100000 in
theorem lL_65 : Cond.methodLink RL 65 mX11_feed.1 ∈ jdW := jdW_in (tb3 (List.mem_of_getElem? (i := 47) (by eq_refl))) (by decide +kernel)
set_option maxRecDepth 100000 in
theorem lX11_178 : Cond.methodLink RX11 178 mX5_isFull.1 ∈ jdW := jdW_in (tb3 (List.mem_of_getElem? (i := 51) (by eq_refl))) (by decide +kernel)
set_option maxRecDepth 100000 in
theorem lX11_181 : Cond.methodLink RX11 181 mX5_append.1 ∈ jdW := jdW_in (tb3 (List.mem_of_getElem? (i := 55) (by eq_refl))) (by decide +kernel)
set_option maxRecDepth 100000 in
theorem lL_69 : Cond.methodLink RL 69 mX11_wipe.1 ∈ jdW := jdW_in (tb3 (List.mem_of_getElem? (i := 59) (by eq_refl))) (by decide +kernel)
set_option maxRecDepth 100000 in
theorem lX11_186 : Cond.methodLink RX11 186 mX5_clear.1 ∈ jdW := jdW_in (tb3 (List.mem_of_getElem? (i := 63) (by eq_refl))) (by decide +kernel)
set_option maxRecDepth 100000 in
theorem lL_74 : Cond.methodLink RL 74 mX11_town.1 ∈ jdW := jdW_in (tb3 (List.mem_of_getElem? (i := 67) (by eq_refl))) (by decide +kernel)
set_option maxRecDepth 100000 in
theorem lX11_189 : Cond.methodLink RX11 189 mX9_become.1 ∈ jdW := jdW_in (tb3 (List.mem_of_getElem? (i := 71) (by eq_refl))) (by decide +kernel)
set_option maxRecDepth 100000 in
theorem cX9_79 : jdWc RX9 79 := ⟨jdW_in (tb3 (List.mem_of_getElem? (i := 75) (by eq_refl))) (by decide +kernel), jdW_in (tb2 (List.mem_of_getElem? (i := 44) (by eq_refl))) (by decide +kernel), jdW_in (tb2 (List.mem_of_getElem? (i := 43) (by eq_refl))) (by decide +kernel), jdW_in (tb1 (List.mem_of_getElem? (i := 8) (by eq_refl))) (by decide +kernel)⟩
set_option maxRecDepth 100000 in
theorem lX11_192 : Cond.methodLink RX11 192 mX5_read.1 ∈ jdW := jdW_in (tb3 (List.mem_of_getElem? (i := 76) (by eq_refl))) (by decide +kernel)
set_option maxRecDepth 100000 in
theorem lX5_22 : Cond.methodLink RX5 22 mX5_advance.1 ∈ jdW := jdW_in (tb3 (List.mem_of_getElem? (i := 80) (by eq_refl))) (by decide +kernel)
set_option maxRecDepth 100000 in
theorem lX5_42 : Cond.methodLink RX5 42 mX5_tokenOf.1 ∈ jdW := jdW_in (tb3 (List.mem_of_getElem? (i := 84) (by eq_refl))) (by decide +kernel)
set_option maxRecDepth 100000 in
theorem lX5_25 : Cond.methodLink RX5 25 mX5_readStatement.1 ∈ jdW := jdW_in (tb3 (List.mem_of_getElem? (i := 87) (by eq_refl))) (by decide +kernel)
set_option maxRecDepth 100000 in
theorem lX5_58 : Cond.methodLink RX5 58 mX5_isWord.1 ∈ jdW := jdW_in (tb3 (List.mem_of_getElem? (i := 92) (by eq_refl))) (by decide +kernel)
set_option maxRecDepth 100000 in
theorem lX5_46 : Cond.methodLink RX5 46 mJ0_length_8abf5.1 ∈ jdW := jdW_in (tb3 (List.mem_of_getElem? (i := 96) (by eq_refl))) (by decide +kernel)
set_option maxRecDepth 100000 in
theorem lJ0_335 : Cond.methodLink RJ0 335 mJ0_coder_7d493.1 ∈ jdW := jdW_in (tb3 (List.mem_of_getElem? (i := 100) (by eq_refl))) (by decide +kernel)
set_option maxRecDepth 100000 in
theorem lX5_52 : Cond.methodLink RX5 52 mJ0_charAt_5068e.1 ∈ jdW := jdW_in (tb3 (List.mem_of_getElem? (i := 106) (by eq_refl))) (by decide +kernel)
set_option maxRecDepth 100000 in
theorem lJ0_492 : Cond.methodLink RJ0 492 mJ0_isLatin1_aae02.1 ∈ jdW := jdW_in (tb3 (List.mem_of_getElem? (i := 110) (by eq_refl))) (by decide +kernel)
set_option maxRecDepth 100000 in
theorem lJ0_495 : Cond.methodLink RJ0 495 mJ1_charAt_3b067.1 ∈ jdW := jdW_in (tb3 (List.mem_of_getElem? (i := 114) (by eq_refl))) (by decide +kernel)
set_option maxRecDepth 100000 in
theorem lJ1_9 : Cond.methodLink RJ1 9 mJ0_checkIndex_df160.1 ∈ jdW := jdW_in (tb3 (List.mem_of_getElem? (i := 117) (by eq_refl))) (by decide +kernel)
set_option maxRecDepth 100000 in
theorem lJ0_1059 : Cond.methodLink RJ0 1059 mJ3_checkIndex_8e157.1 ∈ jdW := jdW_in (tb3 (List.mem_of_getElem? (i := 122) (by eq_refl))) (by decide +kernel)
set_option maxRecDepth 100000 in
theorem lX5_62 : Cond.methodLink RX5 62 mX5_readPerson.1 ∈ jdW := jdW_in (tb3 (List.mem_of_getElem? (i := 144) (by eq_refl))) (by decide +kernel)
set_option maxRecDepth 100000 in
theorem lX5_32 : Cond.methodLink RX5 32 mX5_fail.1 ∈ jdW := jdW_in (tb3 (List.mem_of_getElem? (i := 148) (by eq_refl))) (by decide +kernel)
set_option maxRecDepth 100000 in
theorem lX5_93 : Cond.methodLink RX5 93 mX5_readNumber.1 ∈ jdW := jdW_in (tb3 (List.mem_of_getElem? (i := 152) (by eq_refl))) (by decide +kernel)
set_option maxRecDepth 100000 in
theorem lX5_97 : Cond.methodLink RX5 97 mX9_add.1 ∈ jdW := jdW_in (tb3 (List.mem_of_getElem? (i := 156) (by eq_refl))) (by decide +kernel)
set_option maxRecDepth 100000 in
theorem lX5_67 : Cond.methodLink RX5 67 mX5_readPair.1 ∈ jdW := jdW_in (tb3 (List.mem_of_getElem? (i := 158) (by eq_refl))) (by decide +kernel)
set_option maxRecDepth 100000 in
theorem lX5_103 : Cond.methodLink RX5 103 mX9_tie.1 ∈ jdW := jdW_in (tb3 (List.mem_of_getElem? (i := 163) (by eq_refl))) (by decide +kernel)
set_option maxRecDepth 100000 in
theorem lX5_75 : Cond.methodLink RX5 75 mX5_readSeats.1 ∈ jdW := jdW_in (tb3 (List.mem_of_getElem? (i := 166) (by eq_refl))) (by decide +kernel)
set_option maxRecDepth 100000 in
theorem lX5_80 : Cond.methodLink RX5 80 mX5_readMemory.1 ∈ jdW := jdW_in (tb3 (List.mem_of_getElem? (i := 171) (by eq_refl))) (by decide +kernel)
set_option maxRecDepth 100000 in
theorem lX5_85 : Cond.methodLink RX5 85 mX5_readMet.1 ∈ jdW := jdW_in (tb3 (List.mem_of_getElem? (i := 176) (by eq_refl))) (by decide +kernel)
set_option maxRecDepth 100000 in
theorem lX5_111 : Cond.methodLink RX5 111 mX9_acquaint.1 ∈ jdW := jdW_in (tb3 (List.mem_of_getElem? (i := 180) (by eq_refl))) (by decide +kernel)
set_option maxRecDepth 100000 in
theorem lL_78 : Cond.methodLink RL 78 mX11_personOf.1 ∈ jdW := jdW_in (tb3 (List.mem_of_getElem? (i := 185) (by eq_refl))) (by decide +kernel)
set_option maxRecDepth 100000 in
theorem lX11_199 : Cond.methodLink RX11 199 mX9_strangersTo.1 ∈ jdW := jdW_in (tb3 (List.mem_of_getElem? (i := 189) (by eq_refl))) (by decide +kernel)
set_option maxRecDepth 100000 in
theorem lX11_202 : Cond.methodLink RX11 202 mJ6_bitCount_0f7a4.1 ∈ jdW := jdW_in (tb3 (List.mem_of_getElem? (i := 190) (by eq_refl))) (by decide +kernel)
set_option maxRecDepth 100000 in
theorem lL_82 : Cond.methodLink RL 82 mX11_knownOf.1 ∈ jdW := jdW_in (tb3 (List.mem_of_getElem? (i := 191) (by eq_refl))) (by decide +kernel)
set_option maxRecDepth 100000 in
theorem lL_86 : Cond.methodLink RL 86 mX11_isGroup.1 ∈ jdW := jdW_in (tb3 (List.mem_of_getElem? (i := 195) (by eq_refl))) (by decide +kernel)
set_option maxRecDepth 100000 in
theorem lX11_207 : Cond.methodLink RX11 207 mX9_hasAll.1 ∈ jdW := jdW_in (tb3 (List.mem_of_getElem? (i := 199) (by eq_refl))) (by decide +kernel)
set_option maxRecDepth 100000 in
theorem lX9_35 : Cond.methodLink RX9 35 mX9_everybody.1 ∈ jdW := jdW_in (tb3 (List.mem_of_getElem? (i := 203) (by eq_refl))) (by decide +kernel)
set_option maxRecDepth 100000 in
theorem lX11_210 : Cond.methodLink RX11 210 mX8_isOne.1 ∈ jdW := jdW_in (tb3 (List.mem_of_getElem? (i := 204) (by eq_refl))) (by decide +kernel)
set_option maxRecDepth 100000 in
theorem lL_90 : Cond.methodLink RL 90 mX11_groups.1 ∈ jdW := jdW_in (tb3 (List.mem_of_getElem? (i := 208) (by eq_refl))) (by decide +kernel)
set_option maxRecDepth 100000 in
theorem lX11_213 : Cond.methodLink RX11 213 mX8_countIn.1 ∈ jdW := jdW_in (tb3 (List.mem_of_getElem? (i := 212) (by eq_refl))) (by decide +kernel)
set_option maxRecDepth 100000 in
theorem lL_94 : Cond.methodLink RL 94 mX11_firstOf.1 ∈ jdW := jdW_in (tb3 (List.mem_of_getElem? (i := 216) (by eq_refl))) (by decide +kernel)
set_option maxRecDepth 100000 in
theorem lX11_216 : Cond.methodLink RX11 216 mX8_firstIn.1 ∈ jdW := jdW_in (tb3 (List.mem_of_getElem? (i := 220) (by eq_refl))) (by decide +kernel)
set_option maxRecDepth 100000 in
theorem lL_98 : Cond.methodLink RL 98 mX11_most.1 ∈ jdW := jdW_in (tb3 (List.mem_of_getElem? (i := 221) (by eq_refl))) (by decide +kernel)
set_option maxRecDepth 100000 in
theorem lX11_219 : Cond.methodLink RX11 219 mX8_mostFrom.1 ∈ jdW := jdW_in (tb3 (List.mem_of_getElem? (i := 225) (by eq_refl))) (by decide +kernel)
set_option maxRecDepth 100000 in
theorem lL_102 : Cond.methodLink RL 102 mX11_mostOf.1 ∈ jdW := jdW_in (tb3 (List.mem_of_getElem? (i := 226) (by eq_refl))) (by decide +kernel)
set_option maxRecDepth 100000 in
theorem lX11_222 : Cond.methodLink RX11 222 mX8_mostRow.1 ∈ jdW := jdW_in (tb3 (List.mem_of_getElem? (i := 230) (by eq_refl))) (by decide +kernel)
set_option maxRecDepth 100000 in
theorem lX8_70 : Cond.methodLink RX8 70 mX8_firstOfMost.1 ∈ jdW := jdW_in (tb3 (List.mem_of_getElem? (i := 234) (by eq_refl))) (by decide +kernel)
set_option maxRecDepth 100000 in
theorem lX8_67 : Cond.methodLink RX8 67 mX8_mostFrom.1 ∈ jdW := jdW_in (tb3 (List.mem_of_getElem? (i := 238) (by eq_refl))) (by decide +kernel)
set_option maxRecDepth 100000 in
theorem lL_106 : Cond.methodLink RL 106 mX11_sends.1 ∈ jdW := jdW_in (tb3 (List.mem_of_getElem? (i := 239) (by eq_refl))) (by decide +kernel)
set_option maxRecDepth 100000 in
theorem lL_110 : Cond.methodLink RL 110 mX11_run.1 ∈ jdW := jdW_in (tb4 (List.mem_of_getElem? (i := 3) (by eq_refl))) (by decide +kernel)
set_option maxRecDepth 100000 in
theorem lX11_225 : Cond.methodLink RX11 225 mX11_think.1 ∈ jdW := jdW_in (tb4 (List.mem_of_getElem? (i := 7) (by eq_refl))) (by decide +kernel)
set_option maxRecDepth 100000 in
theorem lX11_254 : Cond.methodLink RX11 254 mX3_pass.1 ∈ jdW := jdW_in (tb4 (List.mem_of_getElem? (i := 11) (by eq_refl))) (by decide +kernel)
set_option maxRecDepth 100000 in
theorem lX3_41 : Cond.methodLink RX3 41 mX3_sendAll.1 ∈ jdW := jdW_in (tb4 (List.mem_of_getElem? (i := 15) (by eq_refl))) (by decide +kernel)
set_option maxRecDepth 100000 in
theorem lX3_45 : Cond.methodLink RX3 45 mX2_pick.1 ∈ jdW := jdW_in (tb4 (List.mem_of_getElem? (i := 19) (by eq_refl))) (by decide +kernel)
set_option maxRecDepth 100000 in
theorem lL_114 : Cond.methodLink RL 114 mX11_coach.1 ∈ jdW := jdW_in (tb4 (List.mem_of_getElem? (i := 20) (by eq_refl))) (by decide +kernel)
set_option maxRecDepth 100000 in
theorem lX11_231 : Cond.methodLink RX11 231 mX3_coachAt.1 ∈ jdW := jdW_in (tb4 (List.mem_of_getElem? (i := 24) (by eq_refl))) (by decide +kernel)
set_option maxRecDepth 100000 in
theorem lL_118 : Cond.methodLink RL 118 mX11_left.1 ∈ jdW := jdW_in (tb4 (List.mem_of_getElem? (i := 28) (by eq_refl))) (by decide +kernel)
set_option maxRecDepth 100000 in
theorem lL_122 : Cond.methodLink RL 122 mX11_waits.1 ∈ jdW := jdW_in (tb4 (List.mem_of_getElem? (i := 32) (by eq_refl))) (by decide +kernel)
set_option maxRecDepth 100000 in
theorem lX11_237 : Cond.methodLink RX11 237 mX3_waitingOfAll.1 ∈ jdW := jdW_in (tb4 (List.mem_of_getElem? (i := 36) (by eq_refl))) (by decide +kernel)
set_option maxRecDepth 100000 in
theorem lX3_54 : Cond.methodLink RX3 54 mX3_waitingOf.1 ∈ jdW := jdW_in (tb4 (List.mem_of_getElem? (i := 40) (by eq_refl))) (by decide +kernel)
set_option maxRecDepth 100000 in
theorem lX11_240 : Cond.methodLink RX11 240 mX3_waitingOf.1 ∈ jdW := jdW_in (tb4 (List.mem_of_getElem? (i := 44) (by eq_refl))) (by decide +kernel)
set_option maxRecDepth 100000 in
theorem lL_126 : Cond.methodLink RL 126 mX11_least.1 ∈ jdW := jdW_in (tb4 (List.mem_of_getElem? (i := 45) (by eq_refl))) (by decide +kernel)
set_option maxRecDepth 100000 in
theorem lX11_244 : Cond.methodLink RX11 244 mX3_findLeast.1 ∈ jdW := jdW_in (tb4 (List.mem_of_getElem? (i := 49) (by eq_refl))) (by decide +kernel)
set_option maxRecDepth 100000 in
theorem lX3_64 : Cond.methodLink RX3 64 mX3_waitingTogether.1 ∈ jdW := jdW_in (tb4 (List.mem_of_getElem? (i := 53) (by eq_refl))) (by decide +kernel)
set_option maxRecDepth 100000 in
theorem lX3_90 : Cond.methodLink RX3 90 mJ9_max_7cf53.1 ∈ jdW := jdW_in (tb4 (List.mem_of_getElem? (i := 56) (by eq_refl))) (by decide +kernel)
set_option maxRecDepth 100000 in
theorem lX3_67 : Cond.methodLink RX3 67 mX9_everybody.1 ∈ jdW := jdW_in (tb4 (List.mem_of_getElem? (i := 59) (by eq_refl))) (by decide +kernel)
set_option maxRecDepth 100000 in
theorem lX3_71 : Cond.methodLink RX3 71 mX3_cheapest.1 ∈ jdW := jdW_in (tb4 (List.mem_of_getElem? (i := 60) (by eq_refl))) (by decide +kernel)
set_option maxRecDepth 100000 in
theorem lX3_78 : Cond.methodLink RX3 78 mJ6_bitCount_0f7a4.1 ∈ jdW := jdW_in (tb4 (List.mem_of_getElem? (i := 64) (by eq_refl))) (by decide +kernel)
set_option maxRecDepth 100000 in
theorem lX3_84 : Cond.methodLink RX3 84 mJ9_min_7cf53.1 ∈ jdW := jdW_in (tb4 (List.mem_of_getElem? (i := 65) (by eq_refl))) (by decide +kernel)
set_option maxRecDepth 100000 in
theorem lX11_248 : Cond.methodLink RX11 248 mX3_leastWaiting.1 ∈ jdW := jdW_in (tb4 (List.mem_of_getElem? (i := 68) (by eq_refl))) (by decide +kernel)
set_option maxRecDepth 100000 in
theorem lX11_251 : Cond.methodLink RX11 251 mX3_leastCoaches.1 ∈ jdW := jdW_in (tb4 (List.mem_of_getElem? (i := 72) (by eq_refl))) (by decide +kernel)
set_option maxRecDepth 100000 in
theorem lX3_93 : Cond.methodLink RX3 93 mX3_leastWaiting.1 ∈ jdW := jdW_in (tb4 (List.mem_of_getElem? (i := 76) (by eq_refl))) (by decide +kernel)
set_option maxRecDepth 100000 in
theorem lL_130 : Cond.methodLink RL 130 mX11_head.1 ∈ jdW := jdW_in (tb4 (List.mem_of_getElem? (i := 77) (by eq_refl))) (by decide +kernel)
set_option maxRecDepth 100000 in
theorem lL_134 : Cond.methodLink RL 134 mX11_days.1 ∈ jdW := jdW_in (tb4 (List.mem_of_getElem? (i := 81) (by eq_refl))) (by decide +kernel)
set_option maxRecDepth 100000 in
theorem lX11_258 : Cond.methodLink RX11 258 mX8_acquaint.1 ∈ jdW := jdW_in (tb4 (List.mem_of_getElem? (i := 85) (by eq_refl))) (by decide +kernel)
set_option maxRecDepth 100000 in
theorem lL_138 : Cond.methodLink RL 138 mX11_ever.1 ∈ jdW := jdW_in (tb4 (List.mem_of_getElem? (i := 89) (by eq_refl))) (by decide +kernel)
set_option maxRecDepth 100000 in
theorem lX11_261 : Cond.methodLink RX11 261 mX8_longest.1 ∈ jdW := jdW_in (tb4 (List.mem_of_getElem? (i := 93) (by eq_refl))) (by decide +kernel)
set_option maxRecDepth 100000 in
theorem lX8_88 : Cond.methodLink RX8 88 mX8_listPairs.1 ∈ jdW := jdW_in (tb4 (List.mem_of_getElem? (i := 97) (by eq_refl))) (by decide +kernel)
set_option maxRecDepth 100000 in
theorem lX8_85 : Cond.methodLink RX8 85 mX8_pairsIn.1 ∈ jdW := jdW_in (tb4 (List.mem_of_getElem? (i := 101) (by eq_refl))) (by decide +kernel)
set_option maxRecDepth 100000 in
theorem lX8_81 : Cond.methodLink RX8 81 mX8_pairBit.1 ∈ jdW := jdW_in (tb4 (List.mem_of_getElem? (i := 105) (by eq_refl))) (by decide +kernel)
set_option maxRecDepth 100000 in
theorem lX8_94 : Cond.methodLink RX8 94 mX8_lengthen.1 ∈ jdW := jdW_in (tb4 (List.mem_of_getElem? (i := 108) (by eq_refl))) (by decide +kernel)
set_option maxRecDepth 100000 in
theorem lX8_97 : Cond.methodLink RX8 97 mJ9_max_7cf53.1 ∈ jdW := jdW_in (tb4 (List.mem_of_getElem? (i := 112) (by eq_refl))) (by decide +kernel)
set_option maxRecDepth 100000 in
theorem lX11_264 : Cond.methodLink RX11 264 mX8_soonest.1 ∈ jdW := jdW_in (tb4 (List.mem_of_getElem? (i := 113) (by eq_refl))) (by decide +kernel)
set_option maxRecDepth 100000 in
theorem lX8_102 : Cond.methodLink RX8 102 mX8_finish.1 ∈ jdW := jdW_in (tb4 (List.mem_of_getElem? (i := 117) (by eq_refl))) (by decide +kernel)
set_option maxRecDepth 100000 in
theorem lX8_106 : Cond.methodLink RX8 106 mX8_firstPossible.1 ∈ jdW := jdW_in (tb4 (List.mem_of_getElem? (i := 121) (by eq_refl))) (by decide +kernel)
set_option maxRecDepth 100000 in
theorem lX8_109 : Cond.methodLink RX8 109 mJ9_min_7cf53.1 ∈ jdW := jdW_in (tb4 (List.mem_of_getElem? (i := 125) (by eq_refl))) (by decide +kernel)
set_option maxRecDepth 100000 in
theorem lL_142 : Cond.methodLink RL 142 mX11_hire.1 ∈ jdW := jdW_in (tb4 (List.mem_of_getElem? (i := 126) (by eq_refl))) (by decide +kernel)
set_option maxRecDepth 100000 in
theorem lX11_267 : Cond.methodLink RX11 267 mX8_addStranger.1 ∈ jdW := jdW_in (tb4 (List.mem_of_getElem? (i := 130) (by eq_refl))) (by decide +kernel)
set_option maxRecDepth 100000 in
theorem lL_146 : Cond.methodLink RL 146 mX11_feast.1 ∈ jdW := jdW_in (tb4 (List.mem_of_getElem? (i := 134) (by eq_refl))) (by decide +kernel)
set_option maxRecDepth 100000 in
theorem lL_150 : Cond.methodLink RL 150 mX11_closes.1 ∈ jdW := jdW_in (tb4 (List.mem_of_getElem? (i := 138) (by eq_refl))) (by decide +kernel)
set_option maxRecDepth 100000 in
theorem lX11_270 : Cond.methodLink RX11 270 mX8_countWith.1 ∈ jdW := jdW_in (tb4 (List.mem_of_getElem? (i := 142) (by eq_refl))) (by decide +kernel)
set_option maxRecDepth 100000 in
theorem lL_154 : Cond.methodLink RL 154 mX11_worst.1 ∈ jdW := jdW_in (tb4 (List.mem_of_getElem? (i := 146) (by eq_refl))) (by decide +kernel)
set_option maxRecDepth 100000 in
theorem lX11_273 : Cond.methodLink RX11 273 mX8_closest.1 ∈ jdW := jdW_in (tb4 (List.mem_of_getElem? (i := 150) (by eq_refl))) (by decide +kernel)
set_option maxRecDepth 100000 in
theorem lX8_78 : Cond.methodLink RX8 78 mX8_countWith.1 ∈ jdW := jdW_in (tb4 (List.mem_of_getElem? (i := 154) (by eq_refl))) (by decide +kernel)
set_option maxRecDepth 100000 in
theorem lL_158 : Cond.methodLink RL 158 mX11_fits.1 ∈ jdW := jdW_in (tb4 (List.mem_of_getElem? (i := 155) (by eq_refl))) (by decide +kernel)
set_option maxRecDepth 100000 in
theorem lX11_276 : Cond.methodLink RX11 276 mX11_canBeSecret.1 ∈ jdW := jdW_in (tb4 (List.mem_of_getElem? (i := 159) (by eq_refl))) (by decide +kernel)
set_option maxRecDepth 100000 in
theorem lX11_279 : Cond.methodLink RX11 279 mX8_countWays.1 ∈ jdW := jdW_in (tb4 (List.mem_of_getElem? (i := 163) (by eq_refl))) (by decide +kernel)
set_option maxRecDepth 100000 in
theorem lX8_112 : Cond.methodLink RX8 112 mX8_breaksAll.1 ∈ jdW := jdW_in (tb4 (List.mem_of_getElem? (i := 167) (by eq_refl))) (by decide +kernel)
set_option maxRecDepth 100000 in
theorem lX8_116 : Cond.methodLink RX8 116 mX8_tally.1 ∈ jdW := jdW_in (tb4 (List.mem_of_getElem? (i := 171) (by eq_refl))) (by decide +kernel)
set_option maxRecDepth 100000 in
theorem lL_162 : Cond.methodLink RL 162 mX11_sure.1 ∈ jdW := jdW_in (tb4 (List.mem_of_getElem? (i := 175) (by eq_refl))) (by decide +kernel)
set_option maxRecDepth 100000 in
theorem lX11_282 : Cond.methodLink RX11 282 mX8_surest.1 ∈ jdW := jdW_in (tb4 (List.mem_of_getElem? (i := 179) (by eq_refl))) (by decide +kernel)
set_option maxRecDepth 100000 in
theorem lX8_120 : Cond.methodLink RX8 120 mX8_countWays.1 ∈ jdW := jdW_in (tb4 (List.mem_of_getElem? (i := 183) (by eq_refl))) (by decide +kernel)
set_option maxRecDepth 100000 in
theorem lL_166 : Cond.methodLink RL 166 mX11_judge.1 ∈ jdW := jdW_in (tb4 (List.mem_of_getElem? (i := 184) (by eq_refl))) (by decide +kernel)
set_option maxRecDepth 100000 in
theorem lX11_285 : Cond.methodLink RX11 285 mX11_whyNotTold.1 ∈ jdW := jdW_in (tb4 (List.mem_of_getElem? (i := 188) (by eq_refl))) (by decide +kernel)
set_option maxRecDepth 100000 in
theorem lX11_288 : Cond.methodLink RX11 288 mX11_firstWrong.1 ∈ jdW := jdW_in (tb4 (List.mem_of_getElem? (i := 192) (by eq_refl))) (by decide +kernel)
set_option maxRecDepth 100000 in
theorem lL_170 : Cond.methodLink RL 170 mX11_behind.1 ∈ jdW := jdW_in (tb4 (List.mem_of_getElem? (i := 196) (by eq_refl))) (by decide +kernel)
set_option maxRecDepth 100000 in
theorem lX11_291 : Cond.methodLink RX11 291 mX11_whyNotRidden.1 ∈ jdW := jdW_in (tb4 (List.mem_of_getElem? (i := 200) (by eq_refl))) (by decide +kernel)
set_option maxRecDepth 100000 in
theorem lL_174 : Cond.methodLink RL 174 mX11_rides.1 ∈ jdW := jdW_in (tb4 (List.mem_of_getElem? (i := 204) (by eq_refl))) (by decide +kernel)
set_option maxRecDepth 100000 in
theorem lX11_294 : Cond.methodLink RX11 294 mX9_acquaint.1 ∈ jdW := jdW_in (tb4 (List.mem_of_getElem? (i := 208) (by eq_refl))) (by decide +kernel)
set_option maxRecDepth 100000 in
theorem lX11_296 : Cond.methodLink RX11 296 mX9_endDay.1 ∈ jdW := jdW_in (tb4 (List.mem_of_getElem? (i := 209) (by eq_refl))) (by decide +kernel)
set_option maxRecDepth 100000 in
theorem lL_178 : Cond.methodLink RL 178 mX11_day.1 ∈ jdW := jdW_in (tb4 (List.mem_of_getElem? (i := 213) (by eq_refl))) (by decide +kernel)
set_option maxRecDepth 100000 in
theorem lL_182 : Cond.methodLink RL 182 mX11_meet.1 ∈ jdW := jdW_in (tb4 (List.mem_of_getElem? (i := 217) (by eq_refl))) (by decide +kernel)
set_option maxRecDepth 100000 in
theorem lL_186 : Cond.methodLink RL 186 mX11_year.1 ∈ jdW := jdW_in (tb4 (List.mem_of_getElem? (i := 221) (by eq_refl))) (by decide +kernel)
set_option maxRecDepth 100000 in
theorem lX11_299 : Cond.methodLink RX11 299 mX9_age.1 ∈ jdW := jdW_in (tb4 (List.mem_of_getElem? (i := 225) (by eq_refl))) (by decide +kernel)
set_option maxRecDepth 100000 in
theorem lX9_71 : Cond.methodLink RX9 71 mJ9_min_7cf53.1 ∈ jdW := jdW_in (tb4 (List.mem_of_getElem? (i := 229) (by eq_refl))) (by decide +kernel)
set_option maxRecDepth 100000 in
theorem lL_190 : Cond.methodLink RL 190 mX11_come.1 ∈ jdW := jdW_in (tb4 (List.mem_of_getElem? (i := 230) (by eq_refl))) (by decide +kernel)
set_option maxRecDepth 100000 in
theorem lX11_302 : Cond.methodLink RX11 302 mJ9_min_7cf53.1 ∈ jdW := jdW_in (tb4 (List.mem_of_getElem? (i := 234) (by eq_refl))) (by decide +kernel)
set_option maxRecDepth 100000 in
theorem lX11_307 : Cond.methodLink RX11 307 mX9_addByDraws.1 ∈ jdW := jdW_in (tb4 (List.mem_of_getElem? (i := 235) (by eq_refl))) (by decide +kernel)
set_option maxRecDepth 100000 in
theorem lX9_43 : Cond.methodLink RX9 43 mX9_draw.1 ∈ jdW := jdW_in (tb4 (List.mem_of_getElem? (i := 239) (by eq_refl))) (by decide +kernel)
set_option maxRecDepth 100000 in
theorem qX9_51 : Cond.constant RX9 51 (1103515245) ∈ jdW := jdW_in (tb5 (List.mem_of_getElem? (i := 3) (by eq_refl))) (by decide +kernel)
set_option maxRecDepth 100000 in
theorem lX9_47 : Cond.methodLink RX9 47 mX9_add.1 ∈ jdW := jdW_in (tb5 (List.mem_of_getElem? (i := 4) (by eq_refl))) (by decide +kernel)
set_option maxRecDepth 100000 in
theorem lL_194 : Cond.methodLink RL 194 mX11_seed.1 ∈ jdW := jdW_in (tb5 (List.mem_of_getElem? (i := 5) (by eq_refl))) (by decide +kernel)
set_option maxRecDepth 100000 in
theorem lL_198 : Cond.methodLink RL 198 mX11_image.1 ∈ jdW := jdW_in (tb5 (List.mem_of_getElem? (i := 9) (by eq_refl))) (by decide +kernel)
set_option maxRecDepth 100000 in
theorem lL_202 : Cond.methodLink RL 202 mX11_back.1 ∈ jdW := jdW_in (tb5 (List.mem_of_getElem? (i := 13) (by eq_refl))) (by decide +kernel)
set_option maxRecDepth 100000 in
theorem lL_206 : Cond.methodLink RL 206 mX11_status.1 ∈ jdW := jdW_in (tb5 (List.mem_of_getElem? (i := 17) (by eq_refl))) (by decide +kernel)
set_option maxRecDepth 100000 in
theorem lX11_317 : Cond.methodLink RX11 317 mX9_countStrangers.1 ∈ jdW := jdW_in (tb5 (List.mem_of_getElem? (i := 21) (by eq_refl))) (by decide +kernel)
set_option maxRecDepth 100000 in
theorem lX9_54 : Cond.methodLink RX9 54 mX9_strangersTo.1 ∈ jdW := jdW_in (tb5 (List.mem_of_getElem? (i := 25) (by eq_refl))) (by decide +kernel)
set_option maxRecDepth 100000 in
theorem lX9_57 : Cond.methodLink RX9 57 mJ6_bitCount_0f7a4.1 ∈ jdW := jdW_in (tb5 (List.mem_of_getElem? (i := 26) (by eq_refl))) (by decide +kernel)
set_option maxRecDepth 100000 in
theorem lX11_329 : Cond.methodLink RX11 329 mX11_countHeld.1 ∈ jdW := jdW_in (tb5 (List.mem_of_getElem? (i := 27) (by eq_refl))) (by decide +kernel)
set_option maxRecDepth 100000 in
theorem lL_12 : Cond.methodLink RL 12 mX12_init.1 ∈ jdW := jdW_in (tb5 (List.mem_of_getElem? (i := 33) (by eq_refl))) (by decide +kernel)
set_option maxRecDepth 100000 in
theorem oX12_1 : Cond.methodLink RX12 1 objectInit ∈ jdW ∧ Cond.instanceMethod objectInit ∈ jdW ∧ Cond.code objectInit ⟨#[0xb1]⟩ 1 none ∈ jdW := ⟨jdW_in (tb5 (List.mem_of_getElem? (i := 36) (by eq_refl))) (by decide +kernel), jdW_in (tb1 (List.mem_of_getElem? (i := 27) (by eq_refl))) (by decide +kernel), jdW_in (tb1 (List.mem_of_getElem? (i := 28) (by eq_refl))) (by decide +kernel)⟩
set_option maxRecDepth 100000 in
theorem lL_17 : Cond.methodLink RL 17 mX12_row.1 ∈ jdW := jdW_in (tb5 (List.mem_of_getElem? (i := 177) (by eq_refl))) (by decide +kernel)
set_option maxRecDepth 100000 in
theorem qX12_96 : Cond.constantLong RX12 96 (7) ∈ jdW := jdW_in (tb5 (List.mem_of_getElem? (i := 181) (by eq_refl))) (by decide +kernel)
set_option maxRecDepth 100000 in
theorem lX12_88 : Cond.methodLink RX12 88 mX12_in.1 ∈ jdW := jdW_in (tb5 (List.mem_of_getElem? (i := 182) (by eq_refl))) (by decide +kernel)
set_option maxRecDepth 100000 in
theorem qX12_98 : Cond.constantLong RX12 98 (4) ∈ jdW := jdW_in (tb5 (List.mem_of_getElem? (i := 185) (by eq_refl))) (by decide +kernel)
set_option maxRecDepth 100000 in
theorem qX12_100 : Cond.constantLong RX12 100 (40) ∈ jdW := jdW_in (tb5 (List.mem_of_getElem? (i := 186) (by eq_refl))) (by decide +kernel)
set_option maxRecDepth 100000 in
theorem lX12_102 : Cond.methodLink RX12 102 mX12_refuse.1 ∈ jdW := jdW_in (tb5 (List.mem_of_getElem? (i := 187) (by eq_refl))) (by decide +kernel)
set_option maxRecDepth 100000 in
theorem lL_24 : Cond.methodLink RL 24 mX12_set.1 ∈ jdW := jdW_in (tb5 (List.mem_of_getElem? (i := 191) (by eq_refl))) (by decide +kernel)
set_option maxRecDepth 100000 in
theorem lX12_106 : Cond.methodLink RX12 106 mX12_noRow.1 ∈ jdW := jdW_in (tb5 (List.mem_of_getElem? (i := 195) (by eq_refl))) (by decide +kernel)
set_option maxRecDepth 100000 in
theorem lX12_109 : Cond.methodLink RX12 109 mX12_fit.1 ∈ jdW := jdW_in (tb5 (List.mem_of_getElem? (i := 199) (by eq_refl))) (by decide +kernel)
set_option maxRecDepth 100000 in
theorem lL_29 : Cond.methodLink RL 29 mX12_copy.1 ∈ jdW := jdW_in (tb5 (List.mem_of_getElem? (i := 202) (by eq_refl))) (by decide +kernel)
set_option maxRecDepth 100000 in
theorem lL_34 : Cond.methodLink RL 34 mX12_element.1 ∈ jdW := jdW_in (tb5 (List.mem_of_getElem? (i := 206) (by eq_refl))) (by decide +kernel)
set_option maxRecDepth 100000 in
theorem lL_39 : Cond.methodLink RL 39 mX12_holds.1 ∈ jdW := jdW_in (tb5 (List.mem_of_getElem? (i := 210) (by eq_refl))) (by decide +kernel)
set_option maxRecDepth 100000 in
theorem lL_43 : Cond.methodLink RL 43 mX12_coachman.1 ∈ jdW := jdW_in (tb5 (List.mem_of_getElem? (i := 214) (by eq_refl))) (by decide +kernel)
set_option maxRecDepth 100000 in
theorem qX12_113 : Cond.constantLong RX12 113 (5) ∈ jdW := jdW_in (tb5 (List.mem_of_getElem? (i := 218) (by eq_refl))) (by decide +kernel)
set_option maxRecDepth 100000 in
theorem qX12_115 : Cond.constantLong RX12 115 (9) ∈ jdW := jdW_in (tb5 (List.mem_of_getElem? (i := 219) (by eq_refl))) (by decide +kernel)
set_option maxRecDepth 100000 in
theorem lL_48 : Cond.methodLink RL 48 mX12_says.1 ∈ jdW := jdW_in (tb5 (List.mem_of_getElem? (i := 220) (by eq_refl))) (by decide +kernel)
set_option maxRecDepth 100000 in
theorem lX12_117 : Cond.methodLink RX12 117 mX12_isUnder.1 ∈ jdW := jdW_in (tb5 (List.mem_of_getElem? (i := 224) (by eq_refl))) (by decide +kernel)
set_option maxRecDepth 100000 in
theorem lX12_92 : Cond.methodLink RX12 92 mX12_all.1 ∈ jdW := jdW_in (tb5 (List.mem_of_getElem? (i := 227) (by eq_refl))) (by decide +kernel)
set_option maxRecDepth 100000 in
theorem lX12_121 : Cond.methodLink RX12 121 mX12_sentBy.1 ∈ jdW := jdW_in (tb5 (List.mem_of_getElem? (i := 231) (by eq_refl))) (by decide +kernel)
set_option maxRecDepth 100000 in
theorem lX12_269 : Cond.methodLink RX12 269 mX12_listAll.1 ∈ jdW := jdW_in (tb5 (List.mem_of_getElem? (i := 235) (by eq_refl))) (by decide +kernel)
set_option maxRecDepth 100000 in
theorem lX12_260 : Cond.methodLink RX12 260 mX12_listFrom.1 ∈ jdW := jdW_in (tb5 (List.mem_of_getElem? (i := 239) (by eq_refl))) (by decide +kernel)
set_option maxRecDepth 100000 in
theorem lX12_151 : Cond.methodLink RX12 151 mX12_has.1 ∈ jdW := jdW_in (tb6 (List.mem_of_getElem? (i := 3) (by eq_refl))) (by decide +kernel)
set_option maxRecDepth 100000 in
theorem lX12_254 : Cond.methodLink RX12 254 mX12_bits.1 ∈ jdW := jdW_in (tb6 (List.mem_of_getElem? (i := 6) (by eq_refl))) (by decide +kernel)
set_option maxRecDepth 100000 in
theorem lX12_275 : Cond.methodLink RX12 275 mX12_firstIn.1 ∈ jdW := jdW_in (tb6 (List.mem_of_getElem? (i := 9) (by eq_refl))) (by decide +kernel)
set_option maxRecDepth 100000 in
theorem lX12_281 : Cond.methodLink RX12 281 mX12_bestIn.1 ∈ jdW := jdW_in (tb6 (List.mem_of_getElem? (i := 13) (by eq_refl))) (by decide +kernel)
set_option maxRecDepth 100000 in
theorem lX12_278 : Cond.methodLink RX12 278 mX12_mostIn.1 ∈ jdW := jdW_in (tb6 (List.mem_of_getElem? (i := 17) (by eq_refl))) (by decide +kernel)
set_option maxRecDepth 100000 in
theorem lX12_284 : Cond.methodLink RX12 284 mX12_costOf.1 ∈ jdW := jdW_in (tb6 (List.mem_of_getElem? (i := 21) (by eq_refl))) (by decide +kernel)
set_option maxRecDepth 100000 in
theorem lX12_287 : Cond.methodLink RX12 287 mX12_meetsOf.1 ∈ jdW := jdW_in (tb6 (List.mem_of_getElem? (i := 25) (by eq_refl))) (by decide +kernel)
set_option maxRecDepth 100000 in
theorem lX12_251 : Cond.methodLink RX12 251 mX12_strangersOf.1 ∈ jdW := jdW_in (tb6 (List.mem_of_getElem? (i := 29) (by eq_refl))) (by decide +kernel)
set_option maxRecDepth 100000 in
theorem lL_52 : Cond.methodLink RL 52 mX12_person.1 ∈ jdW := jdW_in (tb6 (List.mem_of_getElem? (i := 33) (by eq_refl))) (by decide +kernel)
set_option maxRecDepth 100000 in
theorem qX12_125 : Cond.constantLong RX12 125 (23) ∈ jdW := jdW_in (tb6 (List.mem_of_getElem? (i := 37) (by eq_refl))) (by decide +kernel)
set_option maxRecDepth 100000 in
theorem lX12_127 : Cond.methodLink RX12 127 mX12_addOne.1 ∈ jdW := jdW_in (tb6 (List.mem_of_getElem? (i := 38) (by eq_refl))) (by decide +kernel)
set_option maxRecDepth 100000 in
theorem lL_56 : Cond.methodLink RL 56 mX12_change.1 ∈ jdW := jdW_in (tb6 (List.mem_of_getElem? (i := 42) (by eq_refl))) (by decide +kernel)
set_option maxRecDepth 100000 in
theorem lX12_131 : Cond.methodLink RX12 131 mX12_isOne.1 ∈ jdW := jdW_in (tb6 (List.mem_of_getElem? (i := 46) (by eq_refl))) (by decide +kernel)
set_option maxRecDepth 100000 in
theorem lL_60 : Cond.methodLink RL 60 mX12_know.1 ∈ jdW := jdW_in (tb6 (List.mem_of_getElem? (i := 50) (by eq_refl))) (by decide +kernel)
set_option maxRecDepth 100000 in
theorem lX12_135 : Cond.methodLink RX12 135 mX12_areTwo.1 ∈ jdW := jdW_in (tb6 (List.mem_of_getElem? (i := 54) (by eq_refl))) (by decide +kernel)
set_option maxRecDepth 100000 in
theorem qX12_138 : Cond.constantLong RX12 138 (-1) ∈ jdW := jdW_in (tb6 (List.mem_of_getElem? (i := 58) (by eq_refl))) (by decide +kernel)
set_option maxRecDepth 100000 in
theorem qX12_140 : Cond.constantLong RX12 140 (99) ∈ jdW := jdW_in (tb6 (List.mem_of_getElem? (i := 59) (by eq_refl))) (by decide +kernel)
set_option maxRecDepth 100000 in
theorem lX12_142 : Cond.methodLink RX12 142 mX12_knows.1 ∈ jdW := jdW_in (tb6 (List.mem_of_getElem? (i := 60) (by eq_refl))) (by decide +kernel)
set_option maxRecDepth 100000 in
theorem lL_64 : Cond.methodLink RL 64 mX12_ask.1 ∈ jdW := jdW_in (tb6 (List.mem_of_getElem? (i := 64) (by eq_refl))) (by decide +kernel)
set_option maxRecDepth 100000 in
theorem qX12_146 : Cond.constantLong RX12 146 (2) ∈ jdW := jdW_in (tb6 (List.mem_of_getElem? (i := 68) (by eq_refl))) (by decide +kernel)
set_option maxRecDepth 100000 in
theorem lL_68 : Cond.methodLink RL 68 mX12_feed.1 ∈ jdW := jdW_in (tb6 (List.mem_of_getElem? (i := 69) (by eq_refl))) (by decide +kernel)
set_option maxRecDepth 100000 in
theorem qX12_154 : Cond.constantLong RX12 154 (255) ∈ jdW := jdW_in (tb6 (List.mem_of_getElem? (i := 73) (by eq_refl))) (by decide +kernel)
set_option maxRecDepth 100000 in
theorem lL_73 : Cond.methodLink RL 73 mX12_wipe.1 ∈ jdW := jdW_in (tb6 (List.mem_of_getElem? (i := 74) (by eq_refl))) (by decide +kernel)
set_option maxRecDepth 100000 in
theorem lL_77 : Cond.methodLink RL 77 mX12_town.1 ∈ jdW := jdW_in (tb6 (List.mem_of_getElem? (i := 78) (by eq_refl))) (by decide +kernel)
set_option maxRecDepth 100000 in
theorem lX12_238 : Cond.methodLink RX12 238 mX12_fresh.1 ∈ jdW := jdW_in (tb6 (List.mem_of_getElem? (i := 82) (by eq_refl))) (by decide +kernel)
set_option maxRecDepth 100000 in
theorem lX12_375 : Cond.methodLink RX12 375 mX12_init.1 ∈ jdW := jdW_in (tb6 (List.mem_of_getElem? (i := 87) (by eq_refl))) (by decide +kernel)
set_option maxRecDepth 100000 in
theorem lX12_245 : Cond.methodLink RX12 245 mX12_takeFrom.1 ∈ jdW := jdW_in (tb6 (List.mem_of_getElem? (i := 88) (by eq_refl))) (by decide +kernel)
set_option maxRecDepth 100000 in
theorem lX12_376 : Cond.methodLink RX12 376 mX12_over.1 ∈ jdW := jdW_in (tb6 (List.mem_of_getElem? (i := 92) (by eq_refl))) (by decide +kernel)
set_option maxRecDepth 100000 in
theorem lX12_242 : Cond.methodLink RX12 242 mX12_readAll.1 ∈ jdW := jdW_in (tb6 (List.mem_of_getElem? (i := 95) (by eq_refl))) (by decide +kernel)
set_option maxRecDepth 100000 in
theorem lX12_194 : Cond.methodLink RX12 194 mX12_look.1 ∈ jdW := jdW_in (tb6 (List.mem_of_getElem? (i := 99) (by eq_refl))) (by decide +kernel)
set_option maxRecDepth 100000 in
theorem lX12_171 : Cond.methodLink RX12 171 mX12_isLetter.1 ∈ jdW := jdW_in (tb6 (List.mem_of_getElem? (i := 103) (by eq_refl))) (by decide +kernel)
set_option maxRecDepth 100000 in
theorem lX12_174 : Cond.methodLink RX12 174 mX12_isDigit.1 ∈ jdW := jdW_in (tb6 (List.mem_of_getElem? (i := 106) (by eq_refl))) (by decide +kernel)
set_option maxRecDepth 100000 in
theorem qX12_177 : Cond.constant RX12 177 (100000) ∈ jdW := jdW_in (tb6 (List.mem_of_getElem? (i := 109) (by eq_refl))) (by decide +kernel)
set_option maxRecDepth 100000 in
theorem lX12_235 : Cond.methodLink RX12 235 mX12_statement.1 ∈ jdW := jdW_in (tb6 (List.mem_of_getElem? (i := 110) (by eq_refl))) (by decide +kernel)
set_option maxRecDepth 100000 in
theorem lX12_209 : Cond.methodLink RX12 209 mX12_isWord.1 ∈ jdW := jdW_in (tb6 (List.mem_of_getElem? (i := 115) (by eq_refl))) (by decide +kernel)
set_option maxRecDepth 100000 in
theorem lX12_181 : Cond.methodLink RX12 181 mJ0_length_8abf5.1 ∈ jdW := jdW_in (tb6 (List.mem_of_getElem? (i := 119) (by eq_refl))) (by decide +kernel)
set_option maxRecDepth 100000 in
theorem lX12_186 : Cond.methodLink RX12 186 mJ0_charAt_5068e.1 ∈ jdW := jdW_in (tb6 (List.mem_of_getElem? (i := 120) (by eq_refl))) (by decide +kernel)
set_option maxRecDepth 100000 in
theorem lX12_201 : Cond.methodLink RX12 201 mX12_tells.1 ∈ jdW := jdW_in (tb6 (List.mem_of_getElem? (i := 121) (by eq_refl))) (by decide +kernel)
set_option maxRecDepth 100000 in
theorem lX12_197 : Cond.methodLink RX12 197 mX12_number.1 ∈ jdW := jdW_in (tb6 (List.mem_of_getElem? (i := 125) (by eq_refl))) (by decide +kernel)
set_option maxRecDepth 100000 in
theorem lX12_190 : Cond.methodLink RX12 190 mX12_wrong.1 ∈ jdW := jdW_in (tb6 (List.mem_of_getElem? (i := 129) (by eq_refl))) (by decide +kernel)
set_option maxRecDepth 100000 in
theorem lX12_220 : Cond.methodLink RX12 220 mX12_knowTold.1 ∈ jdW := jdW_in (tb6 (List.mem_of_getElem? (i := 134) (by eq_refl))) (by decide +kernel)
set_option maxRecDepth 100000 in
theorem lX12_204 : Cond.methodLink RX12 204 mX12_twoTold.1 ∈ jdW := jdW_in (tb6 (List.mem_of_getElem? (i := 138) (by eq_refl))) (by decide +kernel)
set_option maxRecDepth 100000 in
theorem lX12_229 : Cond.methodLink RX12 229 mX12_metTold.1 ∈ jdW := jdW_in (tb6 (List.mem_of_getElem? (i := 147) (by eq_refl))) (by decide +kernel)
set_option maxRecDepth 100000 in
theorem lX12_213 : Cond.methodLink RX12 213 mX12_meets.1 ∈ jdW := jdW_in (tb6 (List.mem_of_getElem? (i := 151) (by eq_refl))) (by decide +kernel)
set_option maxRecDepth 100000 in
theorem lL_81 : Cond.methodLink RL 81 mX12_personOf.1 ∈ jdW := jdW_in (tb6 (List.mem_of_getElem? (i := 155) (by eq_refl))) (by decide +kernel)
set_option maxRecDepth 100000 in
theorem qX12_249 : Cond.constantLong RX12 249 (3) ∈ jdW := jdW_in (tb6 (List.mem_of_getElem? (i := 159) (by eq_refl))) (by decide +kernel)
set_option maxRecDepth 100000 in
theorem lL_85 : Cond.methodLink RL 85 mX12_knownOf.1 ∈ jdW := jdW_in (tb6 (List.mem_of_getElem? (i := 160) (by eq_refl))) (by decide +kernel)
set_option maxRecDepth 100000 in
theorem lL_89 : Cond.methodLink RL 89 mX12_isGroup.1 ∈ jdW := jdW_in (tb6 (List.mem_of_getElem? (i := 164) (by eq_refl))) (by decide +kernel)
set_option maxRecDepth 100000 in
theorem lX12_263 : Cond.methodLink RX12 263 mX12_isSet.1 ∈ jdW := jdW_in (tb6 (List.mem_of_getElem? (i := 168) (by eq_refl))) (by decide +kernel)
set_option maxRecDepth 100000 in
theorem lX12_266 : Cond.methodLink RX12 266 mX12_isGroupNow.1 ∈ jdW := jdW_in (tb6 (List.mem_of_getElem? (i := 172) (by eq_refl))) (by decide +kernel)
set_option maxRecDepth 100000 in
theorem lL_93 : Cond.methodLink RL 93 mX12_groups.1 ∈ jdW := jdW_in (tb6 (List.mem_of_getElem? (i := 176) (by eq_refl))) (by decide +kernel)
set_option maxRecDepth 100000 in
theorem lX12_272 : Cond.methodLink RX12 272 mX12_groupsOf.1 ∈ jdW := jdW_in (tb6 (List.mem_of_getElem? (i := 180) (by eq_refl))) (by decide +kernel)
set_option maxRecDepth 100000 in
theorem lL_97 : Cond.methodLink RL 97 mX12_firstOf.1 ∈ jdW := jdW_in (tb6 (List.mem_of_getElem? (i := 184) (by eq_refl))) (by decide +kernel)
set_option maxRecDepth 100000 in
theorem lL_101 : Cond.methodLink RL 101 mX12_most.1 ∈ jdW := jdW_in (tb6 (List.mem_of_getElem? (i := 188) (by eq_refl))) (by decide +kernel)
set_option maxRecDepth 100000 in
theorem lL_105 : Cond.methodLink RL 105 mX12_mostOf.1 ∈ jdW := jdW_in (tb6 (List.mem_of_getElem? (i := 192) (by eq_refl))) (by decide +kernel)
set_option maxRecDepth 100000 in
theorem lL_109 : Cond.methodLink RL 109 mX12_sends.1 ∈ jdW := jdW_in (tb6 (List.mem_of_getElem? (i := 196) (by eq_refl))) (by decide +kernel)
set_option maxRecDepth 100000 in
theorem lX12_290 : Cond.methodLink RX12 290 mX12_noMan.1 ∈ jdW := jdW_in (tb6 (List.mem_of_getElem? (i := 200) (by eq_refl))) (by decide +kernel)
set_option maxRecDepth 100000 in
theorem lL_113 : Cond.methodLink RL 113 mX12_run.1 ∈ jdW := jdW_in (tb6 (List.mem_of_getElem? (i := 204) (by eq_refl))) (by decide +kernel)
set_option maxRecDepth 100000 in
theorem lX12_302 : Cond.methodLink RX12 302 mX12_goesBy.1 ∈ jdW := jdW_in (tb6 (List.mem_of_getElem? (i := 208) (by eq_refl))) (by decide +kernel)
set_option maxRecDepth 100000 in
theorem lX12_293 : Cond.methodLink RX12 293 mX12_findComing.1 ∈ jdW := jdW_in (tb6 (List.mem_of_getElem? (i := 212) (by eq_refl))) (by decide +kernel)
set_option maxRecDepth 100000 in
theorem lL_117 : Cond.methodLink RL 117 mX12_coach.1 ∈ jdW := jdW_in (tb6 (List.mem_of_getElem? (i := 216) (by eq_refl))) (by decide +kernel)
set_option maxRecDepth 100000 in
theorem lL_121 : Cond.methodLink RL 121 mX12_left.1 ∈ jdW := jdW_in (tb6 (List.mem_of_getElem? (i := 220) (by eq_refl))) (by decide +kernel)
set_option maxRecDepth 100000 in
theorem lL_125 : Cond.methodLink RL 125 mX12_waits.1 ∈ jdW := jdW_in (tb6 (List.mem_of_getElem? (i := 224) (by eq_refl))) (by decide +kernel)
set_option maxRecDepth 100000 in
theorem lX12_305 : Cond.methodLink RX12 305 mX12_waitedAll.1 ∈ jdW := jdW_in (tb6 (List.mem_of_getElem? (i := 228) (by eq_refl))) (by decide +kernel)
set_option maxRecDepth 100000 in
theorem lL_129 : Cond.methodLink RL 129 mX12_least.1 ∈ jdW := jdW_in (tb6 (List.mem_of_getElem? (i := 232) (by eq_refl))) (by decide +kernel)
set_option maxRecDepth 100000 in
theorem lX12_308 : Cond.methodLink RX12 308 mX12_leastFrom.1 ∈ jdW := jdW_in (tb6 (List.mem_of_getElem? (i := 236) (by eq_refl))) (by decide +kernel)
set_option maxRecDepth 100000 in
theorem lL_133 : Cond.methodLink RL 133 mX12_head.1 ∈ jdW := jdW_in (tb7 (List.mem_of_getElem? (i := 0) (by eq_refl))) (by decide +kernel)
set_option maxRecDepth 100000 in
theorem lL_137 : Cond.methodLink RL 137 mX12_days.1 ∈ jdW := jdW_in (tb7 (List.mem_of_getElem? (i := 4) (by eq_refl))) (by decide +kernel)
set_option maxRecDepth 100000 in
theorem lX12_312 : Cond.methodLink RX12 312 mX12_dayOf.1 ∈ jdW := jdW_in (tb7 (List.mem_of_getElem? (i := 8) (by eq_refl))) (by decide +kernel)
set_option maxRecDepth 100000 in
theorem lL_141 : Cond.methodLink RL 141 mX12_ever.1 ∈ jdW := jdW_in (tb7 (List.mem_of_getElem? (i := 12) (by eq_refl))) (by decide +kernel)
set_option maxRecDepth 100000 in
theorem lX12_332 : Cond.methodLink RX12 332 mX12_findEver.1 ∈ jdW := jdW_in (tb7 (List.mem_of_getElem? (i := 16) (by eq_refl))) (by decide +kernel)
set_option maxRecDepth 100000 in
theorem lX12_329 : Cond.methodLink RX12 329 mX12_pairsOf.1 ∈ jdW := jdW_in (tb7 (List.mem_of_getElem? (i := 20) (by eq_refl))) (by decide +kernel)
set_option maxRecDepth 100000 in
theorem lX12_325 : Cond.methodLink RX12 325 mX12_seekEver.1 ∈ jdW := jdW_in (tb7 (List.mem_of_getElem? (i := 24) (by eq_refl))) (by decide +kernel)
set_option maxRecDepth 100000 in
theorem lX12_315 : Cond.methodLink RX12 315 mX12_isApart.1 ∈ jdW := jdW_in (tb7 (List.mem_of_getElem? (i := 28) (by eq_refl))) (by decide +kernel)
set_option maxRecDepth 100000 in
theorem lL_145 : Cond.methodLink RL 145 mX12_hire.1 ∈ jdW := jdW_in (tb7 (List.mem_of_getElem? (i := 31) (by eq_refl))) (by decide +kernel)
set_option maxRecDepth 100000 in
theorem lL_149 : Cond.methodLink RL 149 mX12_feast.1 ∈ jdW := jdW_in (tb7 (List.mem_of_getElem? (i := 35) (by eq_refl))) (by decide +kernel)
set_option maxRecDepth 100000 in
theorem lL_153 : Cond.methodLink RL 153 mX12_closes.1 ∈ jdW := jdW_in (tb7 (List.mem_of_getElem? (i := 39) (by eq_refl))) (by decide +kernel)
set_option maxRecDepth 100000 in
theorem lX12_335 : Cond.methodLink RX12 335 mX12_closesOf.1 ∈ jdW := jdW_in (tb7 (List.mem_of_getElem? (i := 43) (by eq_refl))) (by decide +kernel)
set_option maxRecDepth 100000 in
theorem lL_157 : Cond.methodLink RL 157 mX12_worst.1 ∈ jdW := jdW_in (tb7 (List.mem_of_getElem? (i := 47) (by eq_refl))) (by decide +kernel)
set_option maxRecDepth 100000 in
theorem lL_161 : Cond.methodLink RL 161 mX12_fits.1 ∈ jdW := jdW_in (tb7 (List.mem_of_getElem? (i := 51) (by eq_refl))) (by decide +kernel)
set_option maxRecDepth 100000 in
theorem lX12_344 : Cond.methodLink RX12 344 mX12_findWays.1 ∈ jdW := jdW_in (tb7 (List.mem_of_getElem? (i := 55) (by eq_refl))) (by decide +kernel)
set_option maxRecDepth 100000 in
theorem lL_165 : Cond.methodLink RL 165 mX12_sure.1 ∈ jdW := jdW_in (tb7 (List.mem_of_getElem? (i := 59) (by eq_refl))) (by decide +kernel)
set_option maxRecDepth 100000 in
theorem lL_169 : Cond.methodLink RL 169 mX12_judge.1 ∈ jdW := jdW_in (tb7 (List.mem_of_getElem? (i := 63) (by eq_refl))) (by decide +kernel)
set_option maxRecDepth 100000 in
theorem lX12_351 : Cond.methodLink RX12 351 mX12_noDay.1 ∈ jdW := jdW_in (tb7 (List.mem_of_getElem? (i := 67) (by eq_refl))) (by decide +kernel)
set_option maxRecDepth 100000 in
theorem lX12_354 : Cond.methodLink RX12 354 mX12_wrongCoach.1 ∈ jdW := jdW_in (tb7 (List.mem_of_getElem? (i := 71) (by eq_refl))) (by decide +kernel)
set_option maxRecDepth 100000 in
theorem lL_173 : Cond.methodLink RL 173 mX12_behind.1 ∈ jdW := jdW_in (tb7 (List.mem_of_getElem? (i := 75) (by eq_refl))) (by decide +kernel)
set_option maxRecDepth 100000 in
theorem lL_177 : Cond.methodLink RL 177 mX12_rides.1 ∈ jdW := jdW_in (tb7 (List.mem_of_getElem? (i := 79) (by eq_refl))) (by decide +kernel)
set_option maxRecDepth 100000 in
theorem lL_181 : Cond.methodLink RL 181 mX12_day.1 ∈ jdW := jdW_in (tb7 (List.mem_of_getElem? (i := 83) (by eq_refl))) (by decide +kernel)
set_option maxRecDepth 100000 in
theorem lL_185 : Cond.methodLink RL 185 mX12_meet.1 ∈ jdW := jdW_in (tb7 (List.mem_of_getElem? (i := 87) (by eq_refl))) (by decide +kernel)
set_option maxRecDepth 100000 in
theorem lL_189 : Cond.methodLink RL 189 mX12_year.1 ∈ jdW := jdW_in (tb7 (List.mem_of_getElem? (i := 91) (by eq_refl))) (by decide +kernel)
set_option maxRecDepth 100000 in
theorem lL_193 : Cond.methodLink RL 193 mX12_come.1 ∈ jdW := jdW_in (tb7 (List.mem_of_getElem? (i := 95) (by eq_refl))) (by decide +kernel)
set_option maxRecDepth 100000 in
theorem lX12_368 : Cond.methodLink RX12 368 mX12_below.1 ∈ jdW := jdW_in (tb7 (List.mem_of_getElem? (i := 99) (by eq_refl))) (by decide +kernel)
set_option maxRecDepth 100000 in
theorem qX12_367 : Cond.constant RX12 367 (1103515245) ∈ jdW := jdW_in (tb7 (List.mem_of_getElem? (i := 103) (by eq_refl))) (by decide +kernel)
set_option maxRecDepth 100000 in
theorem lL_197 : Cond.methodLink RL 197 mX12_seed.1 ∈ jdW := jdW_in (tb7 (List.mem_of_getElem? (i := 104) (by eq_refl))) (by decide +kernel)
set_option maxRecDepth 100000 in
theorem lL_201 : Cond.methodLink RL 201 mX12_image.1 ∈ jdW := jdW_in (tb7 (List.mem_of_getElem? (i := 108) (by eq_refl))) (by decide +kernel)
set_option maxRecDepth 100000 in
theorem lL_205 : Cond.methodLink RL 205 mX12_back.1 ∈ jdW := jdW_in (tb7 (List.mem_of_getElem? (i := 112) (by eq_refl))) (by decide +kernel)
set_option maxRecDepth 100000 in
theorem lL_209 : Cond.methodLink RL 209 mX12_status.1 ∈ jdW := jdW_in (tb7 (List.mem_of_getElem? (i := 116) (by eq_refl))) (by decide +kernel)
set_option maxRecDepth 100000 in
theorem qX12_383 : Cond.constantLong RX12 383 (12) ∈ jdW := jdW_in (tb7 (List.mem_of_getElem? (i := 120) (by eq_refl))) (by decide +kernel)
set_option maxRecDepth 100000 in
theorem qX12_385 : Cond.constantLong RX12 385 (16) ∈ jdW := jdW_in (tb7 (List.mem_of_getElem? (i := 121) (by eq_refl))) (by decide +kernel)
set_option maxRecDepth 100000 in
theorem qL_18 : Cond.constantLong RL 18 (4294967295) ∈ jdW := jdW_in (tb7 (List.mem_of_getElem? (i := 122) (by eq_refl))) (by decide +kernel)
theorem iX0 : ∀ w ∈ u_ws RX0 TX0 1, w ∈ jdW := by decide +kernel
theorem iX1 : ∀ w ∈ u_ws RX1 TX1 1, w ∈ jdW := by decide +kernel
theorem iX3 : ∀ w ∈ u_ws RX3 TX3 7, w ∈ jdW := by decide +kernel
theorem iX4 : ∀ w ∈ u_ws RX4 TX4 1, w ∈ jdW := by decide +kernel
theorem iX5 : ∀ w ∈ u_ws RX5 TX5 6, w ∈ jdW := by decide +kernel
theorem iX6 : ∀ w ∈ u_ws RX6 TX6 4, w ∈ jdW := by decide +kernel
theorem iX7 : ∀ w ∈ u_ws RX7 TX7 1, w ∈ jdW := by decide +kernel
theorem iX8 : ∀ w ∈ u_ws RX8 TX8 11, w ∈ jdW := by decide +kernel
theorem iX9 : ∀ w ∈ u_ws RX9 TX9 10, w ∈ jdW := by decide +kernel
theorem iX10 : ∀ w ∈ u_ws RX10 TX10 1, w ∈ jdW := by decide +kernel
theorem iX11 : ∀ w ∈ u_ws RX11 TX11 9, w ∈ jdW := by decide +kernel
theorem iX12 : ∀ w ∈ u_ws RX12 TX12 45, w ∈ jdW := by decide +kernel
set_option maxRecDepth 100000 in
theorem gX9_9 : jdFg 8 0 RX9 9 := ⟨RX9, TX9, 10, rfl, by decide, iX9, jdW_in (tb1 (List.mem_of_getElem? (i := 35) (by eq_refl))) (by decide +kernel)⟩
set_option maxRecDepth 100000 in
theorem pX9_9 : jdFp 8 0 RX9 9 true (.array .int) := ⟨RX9, TX9, 10, tyX9, rfl, by decide, iX9, jdW_in (tb1 (List.mem_of_getElem? (i := 35) (by eq_refl))) (by decide +kernel), tyX9_ok, nmX9, rfl, by decide +kernel, fun _ => rfl⟩
set_option maxRecDepth 100000 in
theorem gX3_38 : jdFg 8 0 RX3 38 := ⟨RX9, TX9, 10, rfl, by decide, iX9, jdW_in (tb1 (List.mem_of_getElem? (i := 36) (by eq_refl))) (by decide +kernel)⟩
set_option maxRecDepth 100000 in
theorem gX11_155 : jdFg 8 0 RX11 155 := ⟨RX9, TX9, 10, rfl, by decide, iX9, jdW_in (tb1 (List.mem_of_getElem? (i := 37) (by eq_refl))) (by decide +kernel)⟩
set_option maxRecDepth 100000 in
theorem gX9_15 : jdFg 8 1 RX9 15 := ⟨RX9, TX9, 10, rfl, by decide, iX9, jdW_in (tb1 (List.mem_of_getElem? (i := 38) (by eq_refl))) (by decide +kernel)⟩
set_option maxRecDepth 100000 in
theorem pX9_15 : jdFp 8 1 RX9 15 true (.array .int) := ⟨RX9, TX9, 10, tyX9, rfl, by decide, iX9, jdW_in (tb1 (List.mem_of_getElem? (i := 38) (by eq_refl))) (by decide +kernel), tyX9_ok, nmX9, rfl, by decide +kernel, fun _ => rfl⟩
set_option maxRecDepth 100000 in
theorem gX8_45 : jdFg 8 1 RX8 45 := ⟨RX9, TX9, 10, rfl, by decide, iX9, jdW_in (tb1 (List.mem_of_getElem? (i := 39) (by eq_refl))) (by decide +kernel)⟩
set_option maxRecDepth 100000 in
theorem gX3_51 : jdFg 8 1 RX3 51 := ⟨RX9, TX9, 10, rfl, by decide, iX9, jdW_in (tb1 (List.mem_of_getElem? (i := 40) (by eq_refl))) (by decide +kernel)⟩
set_option maxRecDepth 100000 in
theorem gX11_158 : jdFg 8 1 RX11 158 := ⟨RX9, TX9, 10, rfl, by decide, iX9, jdW_in (tb1 (List.mem_of_getElem? (i := 41) (by eq_refl))) (by decide +kernel)⟩
set_option maxRecDepth 100000 in
theorem gX9_18 : jdFg 8 2 RX9 18 := ⟨RX9, TX9, 10, rfl, by decide, iX9, jdW_in (tb1 (List.mem_of_getElem? (i := 42) (by eq_refl))) (by decide +kernel)⟩
set_option maxRecDepth 100000 in
theorem pX9_18 : jdFp 8 2 RX9 18 true (.array .int) := ⟨RX9, TX9, 10, tyX9, rfl, by decide, iX9, jdW_in (tb1 (List.mem_of_getElem? (i := 42) (by eq_refl))) (by decide +kernel), tyX9_ok, nmX9, rfl, by decide +kernel, fun _ => rfl⟩
set_option maxRecDepth 100000 in
theorem gX8_30 : jdFg 8 3 RX8 30 := ⟨RX9, TX9, 10, rfl, by decide, iX9, jdW_in (tb1 (List.mem_of_getElem? (i := 43) (by eq_refl))) (by decide +kernel)⟩
set_option maxRecDepth 100000 in
theorem gX9_28 : jdFg 8 3 RX9 28 := ⟨RX9, TX9, 10, rfl, by decide, iX9, jdW_in (tb1 (List.mem_of_getElem? (i := 44) (by eq_refl))) (by decide +kernel)⟩
set_option maxRecDepth 100000 in
theorem pX9_28 : jdFp 8 3 RX9 28 false .int := ⟨RX9, TX9, 10, tyX9, rfl, by decide, iX9, jdW_in (tb1 (List.mem_of_getElem? (i := 44) (by eq_refl))) (by decide +kernel), tyX9_ok, nmX9, rfl, by decide +kernel, fun h => absurd h (by decide)⟩
set_option maxRecDepth 100000 in
theorem gX3_33 : jdFg 8 3 RX3 33 := ⟨RX9, TX9, 10, rfl, by decide, iX9, jdW_in (tb1 (List.mem_of_getElem? (i := 45) (by eq_refl))) (by decide +kernel)⟩
set_option maxRecDepth 100000 in
theorem gX11_145 : jdFg 8 3 RX11 145 := ⟨RX9, TX9, 10, rfl, by decide, iX9, jdW_in (tb1 (List.mem_of_getElem? (i := 46) (by eq_refl))) (by decide +kernel)⟩
set_option maxRecDepth 100000 in
theorem gX5_88 : jdFg 8 3 RX5 88 := ⟨RX9, TX9, 10, rfl, by decide, iX9, jdW_in (tb1 (List.mem_of_getElem? (i := 47) (by eq_refl))) (by decide +kernel)⟩
set_option maxRecDepth 100000 in
theorem gX9_21 : jdFg 8 4 RX9 21 := ⟨RX9, TX9, 10, rfl, by decide, iX9, jdW_in (tb1 (List.mem_of_getElem? (i := 48) (by eq_refl))) (by decide +kernel)⟩
set_option maxRecDepth 100000 in
theorem pX9_21 : jdFp 8 4 RX9 21 false .int := ⟨RX9, TX9, 10, tyX9, rfl, by decide, iX9, jdW_in (tb1 (List.mem_of_getElem? (i := 48) (by eq_refl))) (by decide +kernel), tyX9_ok, nmX9, rfl, by decide +kernel, fun h => absurd h (by decide)⟩
set_option maxRecDepth 100000 in
theorem gX8_37 : jdFg 8 4 RX8 37 := ⟨RX9, TX9, 10, rfl, by decide, iX9, jdW_in (tb1 (List.mem_of_getElem? (i := 49) (by eq_refl))) (by decide +kernel)⟩
set_option maxRecDepth 100000 in
theorem gX11_172 : jdFg 8 4 RX11 172 := ⟨RX9, TX9, 10, rfl, by decide, iX9, jdW_in (tb1 (List.mem_of_getElem? (i := 50) (by eq_refl))) (by decide +kernel)⟩
set_option maxRecDepth 100000 in
theorem pX11_172 : jdFp 8 4 RX11 172 false .int := ⟨RX9, TX9, 10, tyX9, rfl, by decide, iX9, jdW_in (tb1 (List.mem_of_getElem? (i := 50) (by eq_refl))) (by decide +kernel), tyX9_ok, nmX9, rfl, by decide +kernel, fun h => absurd h (by decide)⟩
set_option maxRecDepth 100000 in
theorem pX5_107 : jdFp 8 4 RX5 107 false .int := ⟨RX9, TX9, 10, tyX9, rfl, by decide, iX9, jdW_in (tb1 (List.mem_of_getElem? (i := 51) (by eq_refl))) (by decide +kernel), tyX9_ok, nmX9, rfl, by decide +kernel, fun h => absurd h (by decide)⟩
set_option maxRecDepth 100000 in
theorem gX11_175 : jdFg 8 5 RX11 175 := ⟨RX9, TX9, 10, rfl, by decide, iX9, jdW_in (tb1 (List.mem_of_getElem? (i := 52) (by eq_refl))) (by decide +kernel)⟩
set_option maxRecDepth 100000 in
theorem pX11_175 : jdFp 8 5 RX11 175 false .int := ⟨RX9, TX9, 10, tyX9, rfl, by decide, iX9, jdW_in (tb1 (List.mem_of_getElem? (i := 52) (by eq_refl))) (by decide +kernel), tyX9_ok, nmX9, rfl, by decide +kernel, fun h => absurd h (by decide)⟩
set_option maxRecDepth 100000 in
theorem pX5_109 : jdFp 8 5 RX5 109 false .int := ⟨RX9, TX9, 10, tyX9, rfl, by decide, iX9, jdW_in (tb1 (List.mem_of_getElem? (i := 53) (by eq_refl))) (by decide +kernel), tyX9_ok, nmX9, rfl, by decide +kernel, fun h => absurd h (by decide)⟩
set_option maxRecDepth 100000 in
theorem gX9_76 : jdFg 8 5 RX9 76 := ⟨RX9, TX9, 10, rfl, by decide, iX9, jdW_in (tb1 (List.mem_of_getElem? (i := 54) (by eq_refl))) (by decide +kernel)⟩
set_option maxRecDepth 100000 in
theorem pX9_76 : jdFp 8 5 RX9 76 false .int := ⟨RX9, TX9, 10, tyX9, rfl, by decide, iX9, jdW_in (tb1 (List.mem_of_getElem? (i := 54) (by eq_refl))) (by decide +kernel), tyX9_ok, nmX9, rfl, by decide +kernel, fun h => absurd h (by decide)⟩
set_option maxRecDepth 100000 in
theorem gX9_25 : jdFg 8 6 RX9 25 := ⟨RX9, TX9, 10, rfl, by decide, iX9, jdW_in (tb1 (List.mem_of_getElem? (i := 55) (by eq_refl))) (by decide +kernel)⟩
set_option maxRecDepth 100000 in
theorem pX9_25 : jdFp 8 6 RX9 25 false .int := ⟨RX9, TX9, 10, tyX9, rfl, by decide, iX9, jdW_in (tb1 (List.mem_of_getElem? (i := 55) (by eq_refl))) (by decide +kernel), tyX9_ok, nmX9, rfl, by decide +kernel, fun h => absurd h (by decide)⟩
set_option maxRecDepth 100000 in
theorem gX11_310 : jdFg 8 6 RX11 310 := ⟨RX9, TX9, 10, rfl, by decide, iX9, jdW_in (tb1 (List.mem_of_getElem? (i := 56) (by eq_refl))) (by decide +kernel)⟩
set_option maxRecDepth 100000 in
theorem pX11_310 : jdFp 8 6 RX11 310 false .int := ⟨RX9, TX9, 10, tyX9, rfl, by decide, iX9, jdW_in (tb1 (List.mem_of_getElem? (i := 56) (by eq_refl))) (by decide +kernel), tyX9_ok, nmX9, rfl, by decide +kernel, fun h => absurd h (by decide)⟩
set_option maxRecDepth 100000 in
theorem gX9_62 : jdFg 8 7 RX9 62 := ⟨RX9, TX9, 10, rfl, by decide, iX9, jdW_in (tb1 (List.mem_of_getElem? (i := 57) (by eq_refl))) (by decide +kernel)⟩
set_option maxRecDepth 100000 in
theorem pX9_62 : jdFp 8 7 RX9 62 false .int := ⟨RX9, TX9, 10, tyX9, rfl, by decide, iX9, jdW_in (tb1 (List.mem_of_getElem? (i := 57) (by eq_refl))) (by decide +kernel), tyX9_ok, nmX9, rfl, by decide +kernel, fun h => absurd h (by decide)⟩
set_option maxRecDepth 100000 in
theorem gX11_320 : jdFg 8 7 RX11 320 := ⟨RX9, TX9, 10, rfl, by decide, iX9, jdW_in (tb1 (List.mem_of_getElem? (i := 58) (by eq_refl))) (by decide +kernel)⟩
set_option maxRecDepth 100000 in
theorem gX9_65 : jdFg 8 8 RX9 65 := ⟨RX9, TX9, 10, rfl, by decide, iX9, jdW_in (tb1 (List.mem_of_getElem? (i := 59) (by eq_refl))) (by decide +kernel)⟩
set_option maxRecDepth 100000 in
theorem pX9_65 : jdFp 8 8 RX9 65 false .int := ⟨RX9, TX9, 10, tyX9, rfl, by decide, iX9, jdW_in (tb1 (List.mem_of_getElem? (i := 59) (by eq_refl))) (by decide +kernel), tyX9_ok, nmX9, rfl, by decide +kernel, fun h => absurd h (by decide)⟩
set_option maxRecDepth 100000 in
theorem gX11_323 : jdFg 8 8 RX11 323 := ⟨RX9, TX9, 10, rfl, by decide, iX9, jdW_in (tb1 (List.mem_of_getElem? (i := 60) (by eq_refl))) (by decide +kernel)⟩
set_option maxRecDepth 100000 in
theorem gX9_68 : jdFg 8 9 RX9 68 := ⟨RX9, TX9, 10, rfl, by decide, iX9, jdW_in (tb1 (List.mem_of_getElem? (i := 61) (by eq_refl))) (by decide +kernel)⟩
set_option maxRecDepth 100000 in
theorem pX9_68 : jdFp 8 9 RX9 68 false .int := ⟨RX9, TX9, 10, tyX9, rfl, by decide, iX9, jdW_in (tb1 (List.mem_of_getElem? (i := 61) (by eq_refl))) (by decide +kernel), tyX9_ok, nmX9, rfl, by decide +kernel, fun h => absurd h (by decide)⟩
set_option maxRecDepth 100000 in
theorem gX11_326 : jdFg 8 9 RX11 326 := ⟨RX9, TX9, 10, rfl, by decide, iX9, jdW_in (tb1 (List.mem_of_getElem? (i := 62) (by eq_refl))) (by decide +kernel)⟩
set_option maxRecDepth 100000 in
theorem gX8_11 : jdFg 7 0 RX8 11 := ⟨RX8, TX8, 11, rfl, by decide, iX8, jdW_in (tb1 (List.mem_of_getElem? (i := 91) (by eq_refl))) (by decide +kernel)⟩
set_option maxRecDepth 100000 in
theorem pX8_11 : jdFp 7 0 RX8 11 true (.array .int) := ⟨RX8, TX8, 11, tyX8, rfl, by decide, iX8, jdW_in (tb1 (List.mem_of_getElem? (i := 91) (by eq_refl))) (by decide +kernel), tyX8_ok, nmX8, rfl, by decide +kernel, fun _ => rfl⟩
set_option maxRecDepth 100000 in
theorem gX8_15 : jdFg 7 1 RX8 15 := ⟨RX8, TX8, 11, rfl, by decide, iX8, jdW_in (tb1 (List.mem_of_getElem? (i := 92) (by eq_refl))) (by decide +kernel)⟩
set_option maxRecDepth 100000 in
theorem pX8_15 : jdFp 7 1 RX8 15 true (.array .int) := ⟨RX8, TX8, 11, tyX8, rfl, by decide, iX8, jdW_in (tb1 (List.mem_of_getElem? (i := 92) (by eq_refl))) (by decide +kernel), tyX8_ok, nmX8, rfl, by decide +kernel, fun _ => rfl⟩
set_option maxRecDepth 100000 in
theorem gX8_18 : jdFg 7 2 RX8 18 := ⟨RX8, TX8, 11, rfl, by decide, iX8, jdW_in (tb1 (List.mem_of_getElem? (i := 93) (by eq_refl))) (by decide +kernel)⟩
set_option maxRecDepth 100000 in
theorem pX8_18 : jdFp 7 2 RX8 18 true (.array .int) := ⟨RX8, TX8, 11, tyX8, rfl, by decide, iX8, jdW_in (tb1 (List.mem_of_getElem? (i := 93) (by eq_refl))) (by decide +kernel), tyX8_ok, nmX8, rfl, by decide +kernel, fun _ => rfl⟩
set_option maxRecDepth 100000 in
theorem gX1_17 : jdFg 7 2 RX1 17 := ⟨RX8, TX8, 11, rfl, by decide, iX8, jdW_in (tb1 (List.mem_of_getElem? (i := 94) (by eq_refl))) (by decide +kernel)⟩
set_option maxRecDepth 100000 in
theorem gX3_61 : jdFg 7 2 RX3 61 := ⟨RX8, TX8, 11, rfl, by decide, iX8, jdW_in (tb1 (List.mem_of_getElem? (i := 95) (by eq_refl))) (by decide +kernel)⟩
set_option maxRecDepth 100000 in
theorem gX8_21 : jdFg 7 3 RX8 21 := ⟨RX8, TX8, 11, rfl, by decide, iX8, jdW_in (tb1 (List.mem_of_getElem? (i := 96) (by eq_refl))) (by decide +kernel)⟩
set_option maxRecDepth 100000 in
theorem pX8_21 : jdFp 7 3 RX8 21 true (.array .int) := ⟨RX8, TX8, 11, tyX8, rfl, by decide, iX8, jdW_in (tb1 (List.mem_of_getElem? (i := 96) (by eq_refl))) (by decide +kernel), tyX8_ok, nmX8, rfl, by decide +kernel, fun _ => rfl⟩
set_option maxRecDepth 100000 in
theorem gX8_24 : jdFg 7 4 RX8 24 := ⟨RX8, TX8, 11, rfl, by decide, iX8, jdW_in (tb1 (List.mem_of_getElem? (i := 97) (by eq_refl))) (by decide +kernel)⟩
set_option maxRecDepth 100000 in
theorem pX8_24 : jdFp 7 4 RX8 24 true (.array .int) := ⟨RX8, TX8, 11, tyX8, rfl, by decide, iX8, jdW_in (tb1 (List.mem_of_getElem? (i := 97) (by eq_refl))) (by decide +kernel), tyX8_ok, nmX8, rfl, by decide +kernel, fun _ => rfl⟩
set_option maxRecDepth 100000 in
theorem gX8_27 : jdFg 7 5 RX8 27 := ⟨RX8, TX8, 11, rfl, by decide, iX8, jdW_in (tb1 (List.mem_of_getElem? (i := 98) (by eq_refl))) (by decide +kernel)⟩
set_option maxRecDepth 100000 in
theorem pX8_27 : jdFp 7 5 RX8 27 true (.array .int) := ⟨RX8, TX8, 11, tyX8, rfl, by decide, iX8, jdW_in (tb1 (List.mem_of_getElem? (i := 98) (by eq_refl))) (by decide +kernel), tyX8_ok, nmX8, rfl, by decide +kernel, fun _ => rfl⟩
set_option maxRecDepth 100000 in
theorem gX8_36 : jdFg 7 6 RX8 36 := ⟨RX8, TX8, 11, rfl, by decide, iX8, jdW_in (tb1 (List.mem_of_getElem? (i := 99) (by eq_refl))) (by decide +kernel)⟩
set_option maxRecDepth 100000 in
theorem pX8_36 : jdFp 7 6 RX8 36 false .int := ⟨RX8, TX8, 11, tyX8, rfl, by decide, iX8, jdW_in (tb1 (List.mem_of_getElem? (i := 99) (by eq_refl))) (by decide +kernel), tyX8_ok, nmX8, rfl, by decide +kernel, fun h => absurd h (by decide)⟩
set_option maxRecDepth 100000 in
theorem gX8_40 : jdFg 7 7 RX8 40 := ⟨RX8, TX8, 11, rfl, by decide, iX8, jdW_in (tb1 (List.mem_of_getElem? (i := 100) (by eq_refl))) (by decide +kernel)⟩
set_option maxRecDepth 100000 in
theorem pX8_40 : jdFp 7 7 RX8 40 false .int := ⟨RX8, TX8, 11, tyX8, rfl, by decide, iX8, jdW_in (tb1 (List.mem_of_getElem? (i := 100) (by eq_refl))) (by decide +kernel), tyX8_ok, nmX8, rfl, by decide +kernel, fun h => absurd h (by decide)⟩
set_option maxRecDepth 100000 in
theorem gX1_13 : jdFg 7 8 RX1 13 := ⟨RX8, TX8, 11, rfl, by decide, iX8, jdW_in (tb1 (List.mem_of_getElem? (i := 101) (by eq_refl))) (by decide +kernel)⟩
set_option maxRecDepth 100000 in
theorem gX8_53 : jdFg 7 8 RX8 53 := ⟨RX8, TX8, 11, rfl, by decide, iX8, jdW_in (tb1 (List.mem_of_getElem? (i := 102) (by eq_refl))) (by decide +kernel)⟩
set_option maxRecDepth 100000 in
theorem pX8_53 : jdFp 7 8 RX8 53 false .int := ⟨RX8, TX8, 11, tyX8, rfl, by decide, iX8, jdW_in (tb1 (List.mem_of_getElem? (i := 102) (by eq_refl))) (by decide +kernel), tyX8_ok, nmX8, rfl, by decide +kernel, fun h => absurd h (by decide)⟩
set_option maxRecDepth 100000 in
theorem gX3_58 : jdFg 7 8 RX3 58 := ⟨RX8, TX8, 11, rfl, by decide, iX8, jdW_in (tb1 (List.mem_of_getElem? (i := 103) (by eq_refl))) (by decide +kernel)⟩
set_option maxRecDepth 100000 in
theorem gX8_91 : jdFg 7 9 RX8 91 := ⟨RX8, TX8, 11, rfl, by decide, iX8, jdW_in (tb1 (List.mem_of_getElem? (i := 104) (by eq_refl))) (by decide +kernel)⟩
set_option maxRecDepth 100000 in
theorem pX8_91 : jdFp 7 9 RX8 91 false .int := ⟨RX8, TX8, 11, tyX8, rfl, by decide, iX8, jdW_in (tb1 (List.mem_of_getElem? (i := 104) (by eq_refl))) (by decide +kernel), tyX8_ok, nmX8, rfl, by decide +kernel, fun h => absurd h (by decide)⟩
set_option maxRecDepth 100000 in
theorem gX8_56 : jdFg 7 10 RX8 56 := ⟨RX8, TX8, 11, rfl, by decide, iX8, jdW_in (tb1 (List.mem_of_getElem? (i := 105) (by eq_refl))) (by decide +kernel)⟩
set_option maxRecDepth 100000 in
theorem pX8_56 : jdFp 7 10 RX8 56 false .boolean := ⟨RX8, TX8, 11, tyX8, rfl, by decide, iX8, jdW_in (tb1 (List.mem_of_getElem? (i := 105) (by eq_refl))) (by decide +kernel), tyX8_ok, nmX8, rfl, by decide +kernel, fun h => absurd h (by decide)⟩
set_option maxRecDepth 100000 in
theorem gX3_9 : jdFg 2 0 RX3 9 := ⟨RX3, TX3, 7, rfl, by decide, iX3, jdW_in (tb1 (List.mem_of_getElem? (i := 135) (by eq_refl))) (by decide +kernel)⟩
set_option maxRecDepth 100000 in
theorem pX3_9 : jdFp 2 0 RX3 9 true (.array .int) := ⟨RX3, TX3, 7, tyX3, rfl, by decide, iX3, jdW_in (tb1 (List.mem_of_getElem? (i := 135) (by eq_refl))) (by decide +kernel), tyX3_ok, nmX3, rfl, by decide +kernel, fun _ => rfl⟩
set_option maxRecDepth 100000 in
theorem gX3_15 : jdFg 2 1 RX3 15 := ⟨RX3, TX3, 7, rfl, by decide, iX3, jdW_in (tb1 (List.mem_of_getElem? (i := 136) (by eq_refl))) (by decide +kernel)⟩
set_option maxRecDepth 100000 in
theorem pX3_15 : jdFp 2 1 RX3 15 true (.array .int) := ⟨RX3, TX3, 7, tyX3, rfl, by decide, iX3, jdW_in (tb1 (List.mem_of_getElem? (i := 136) (by eq_refl))) (by decide +kernel), tyX3_ok, nmX3, rfl, by decide +kernel, fun _ => rfl⟩
set_option maxRecDepth 100000 in
theorem gX3_18 : jdFg 2 2 RX3 18 := ⟨RX3, TX3, 7, rfl, by decide, iX3, jdW_in (tb1 (List.mem_of_getElem? (i := 137) (by eq_refl))) (by decide +kernel)⟩
set_option maxRecDepth 100000 in
theorem pX3_18 : jdFp 2 2 RX3 18 true (.array .int) := ⟨RX3, TX3, 7, tyX3, rfl, by decide, iX3, jdW_in (tb1 (List.mem_of_getElem? (i := 137) (by eq_refl))) (by decide +kernel), tyX3_ok, nmX3, rfl, by decide +kernel, fun _ => rfl⟩
set_option maxRecDepth 100000 in
theorem gX3_23 : jdFg 2 3 RX3 23 := ⟨RX3, TX3, 7, rfl, by decide, iX3, jdW_in (tb1 (List.mem_of_getElem? (i := 138) (by eq_refl))) (by decide +kernel)⟩
set_option maxRecDepth 100000 in
theorem pX3_23 : jdFp 2 3 RX3 23 true (.array .int) := ⟨RX3, TX3, 7, tyX3, rfl, by decide, iX3, jdW_in (tb1 (List.mem_of_getElem? (i := 138) (by eq_refl))) (by decide +kernel), tyX3_ok, nmX3, rfl, by decide +kernel, fun _ => rfl⟩
set_option maxRecDepth 100000 in
theorem gX3_26 : jdFg 2 4 RX3 26 := ⟨RX3, TX3, 7, rfl, by decide, iX3, jdW_in (tb1 (List.mem_of_getElem? (i := 139) (by eq_refl))) (by decide +kernel)⟩
set_option maxRecDepth 100000 in
theorem pX3_26 : jdFp 2 4 RX3 26 false .int := ⟨RX3, TX3, 7, tyX3, rfl, by decide, iX3, jdW_in (tb1 (List.mem_of_getElem? (i := 139) (by eq_refl))) (by decide +kernel), tyX3_ok, nmX3, rfl, by decide +kernel, fun h => absurd h (by decide)⟩
set_option maxRecDepth 100000 in
theorem gX11_228 : jdFg 2 4 RX11 228 := ⟨RX3, TX3, 7, rfl, by decide, iX3, jdW_in (tb1 (List.mem_of_getElem? (i := 140) (by eq_refl))) (by decide +kernel)⟩
set_option maxRecDepth 100000 in
theorem gX3_30 : jdFg 2 5 RX3 30 := ⟨RX3, TX3, 7, rfl, by decide, iX3, jdW_in (tb1 (List.mem_of_getElem? (i := 141) (by eq_refl))) (by decide +kernel)⟩
set_option maxRecDepth 100000 in
theorem pX3_30 : jdFp 2 5 RX3 30 false .int := ⟨RX3, TX3, 7, tyX3, rfl, by decide, iX3, jdW_in (tb1 (List.mem_of_getElem? (i := 141) (by eq_refl))) (by decide +kernel), tyX3_ok, nmX3, rfl, by decide +kernel, fun h => absurd h (by decide)⟩
set_option maxRecDepth 100000 in
theorem gX11_234 : jdFg 2 5 RX11 234 := ⟨RX3, TX3, 7, rfl, by decide, iX3, jdW_in (tb1 (List.mem_of_getElem? (i := 142) (by eq_refl))) (by decide +kernel)⟩
set_option maxRecDepth 100000 in
theorem gX3_75 : jdFg 2 6 RX3 75 := ⟨RX3, TX3, 7, rfl, by decide, iX3, jdW_in (tb1 (List.mem_of_getElem? (i := 143) (by eq_refl))) (by decide +kernel)⟩
set_option maxRecDepth 100000 in
theorem pX3_75 : jdFp 2 6 RX3 75 false .int := ⟨RX3, TX3, 7, tyX3, rfl, by decide, iX3, jdW_in (tb1 (List.mem_of_getElem? (i := 143) (by eq_refl))) (by decide +kernel), tyX3_ok, nmX3, rfl, by decide +kernel, fun h => absurd h (by decide)⟩
set_option maxRecDepth 100000 in
theorem gX5_11 : jdFg 4 0 RX5 11 := ⟨RX5, TX5, 6, rfl, by decide, iX5, jdW_in (tb1 (List.mem_of_getElem? (i := 165) (by eq_refl))) (by decide +kernel)⟩
set_option maxRecDepth 100000 in
theorem pX5_11 : jdFp 4 0 RX5 11 true (.array .int) := ⟨RX5, TX5, 6, tyX5, rfl, by decide, iX5, jdW_in (tb1 (List.mem_of_getElem? (i := 165) (by eq_refl))) (by decide +kernel), tyX5_ok, nmX5, rfl, by decide +kernel, fun _ => rfl⟩
set_option maxRecDepth 100000 in
theorem gX5_15 : jdFg 4 1 RX5 15 := ⟨RX5, TX5, 6, rfl, by decide, iX5, jdW_in (tb1 (List.mem_of_getElem? (i := 166) (by eq_refl))) (by decide +kernel)⟩
set_option maxRecDepth 100000 in
theorem pX5_15 : jdFp 4 1 RX5 15 false .int := ⟨RX5, TX5, 6, tyX5, rfl, by decide, iX5, jdW_in (tb1 (List.mem_of_getElem? (i := 166) (by eq_refl))) (by decide +kernel), tyX5_ok, nmX5, rfl, by decide +kernel, fun h => absurd h (by decide)⟩
set_option maxRecDepth 100000 in
theorem gX11_185 : jdFg 4 1 RX11 185 := ⟨RX5, TX5, 6, rfl, by decide, iX5, jdW_in (tb1 (List.mem_of_getElem? (i := 167) (by eq_refl))) (by decide +kernel)⟩
set_option maxRecDepth 100000 in
theorem gX5_29 : jdFg 4 2 RX5 29 := ⟨RX5, TX5, 6, rfl, by decide, iX5, jdW_in (tb1 (List.mem_of_getElem? (i := 168) (by eq_refl))) (by decide +kernel)⟩
set_option maxRecDepth 100000 in
theorem pX5_29 : jdFp 4 2 RX5 29 false .int := ⟨RX5, TX5, 6, tyX5, rfl, by decide, iX5, jdW_in (tb1 (List.mem_of_getElem? (i := 168) (by eq_refl))) (by decide +kernel), tyX5_ok, nmX5, rfl, by decide +kernel, fun h => absurd h (by decide)⟩
set_option maxRecDepth 100000 in
theorem gX5_36 : jdFg 4 3 RX5 36 := ⟨RX5, TX5, 6, rfl, by decide, iX5, jdW_in (tb1 (List.mem_of_getElem? (i := 169) (by eq_refl))) (by decide +kernel)⟩
set_option maxRecDepth 100000 in
theorem pX5_36 : jdFp 4 3 RX5 36 false .int := ⟨RX5, TX5, 6, tyX5, rfl, by decide, iX5, jdW_in (tb1 (List.mem_of_getElem? (i := 169) (by eq_refl))) (by decide +kernel), tyX5_ok, nmX5, rfl, by decide +kernel, fun h => absurd h (by decide)⟩
set_option maxRecDepth 100000 in
theorem gX5_19 : jdFg 4 4 RX5 19 := ⟨RX5, TX5, 6, rfl, by decide, iX5, jdW_in (tb1 (List.mem_of_getElem? (i := 170) (by eq_refl))) (by decide +kernel)⟩
set_option maxRecDepth 100000 in
theorem pX5_19 : jdFp 4 4 RX5 19 false .int := ⟨RX5, TX5, 6, tyX5, rfl, by decide, iX5, jdW_in (tb1 (List.mem_of_getElem? (i := 170) (by eq_refl))) (by decide +kernel), tyX5_ok, nmX5, rfl, by decide +kernel, fun h => absurd h (by decide)⟩
set_option maxRecDepth 100000 in
theorem pX5_39 : jdFp 4 5 RX5 39 false .int := ⟨RX5, TX5, 6, tyX5, rfl, by decide, iX5, jdW_in (tb1 (List.mem_of_getElem? (i := 171) (by eq_refl))) (by decide +kernel), tyX5_ok, nmX5, rfl, by decide +kernel, fun h => absurd h (by decide)⟩
set_option maxRecDepth 100000 in
theorem gX11_196 : jdFg 4 5 RX11 196 := ⟨RX5, TX5, 6, rfl, by decide, iX5, jdW_in (tb1 (List.mem_of_getElem? (i := 172) (by eq_refl))) (by decide +kernel)⟩
set_option maxRecDepth 100000 in
theorem gX6_9 : jdFg 5 0 RX6 9 := ⟨RX6, TX6, 4, rfl, by decide, iX6, jdW_in (tb1 (List.mem_of_getElem? (i := 193) (by eq_refl))) (by decide +kernel)⟩
set_option maxRecDepth 100000 in
theorem pX6_9 : jdFp 5 0 RX6 9 true (.array .long) := ⟨RX6, TX6, 4, tyX6, rfl, by decide, iX6, jdW_in (tb1 (List.mem_of_getElem? (i := 193) (by eq_refl))) (by decide +kernel), tyX6_ok, nmX6, rfl, by decide +kernel, fun _ => rfl⟩
set_option maxRecDepth 100000 in
theorem gX11_91 : jdFg 5 0 RX11 91 := ⟨RX6, TX6, 4, rfl, by decide, iX6, jdW_in (tb1 (List.mem_of_getElem? (i := 194) (by eq_refl))) (by decide +kernel)⟩
set_option maxRecDepth 100000 in
theorem gX6_15 : jdFg 5 1 RX6 15 := ⟨RX6, TX6, 4, rfl, by decide, iX6, jdW_in (tb1 (List.mem_of_getElem? (i := 195) (by eq_refl))) (by decide +kernel)⟩
set_option maxRecDepth 100000 in
theorem pX6_15 : jdFp 5 1 RX6 15 false .int := ⟨RX6, TX6, 4, tyX6, rfl, by decide, iX6, jdW_in (tb1 (List.mem_of_getElem? (i := 195) (by eq_refl))) (by decide +kernel), tyX6_ok, nmX6, rfl, by decide +kernel, fun h => absurd h (by decide)⟩
set_option maxRecDepth 100000 in
theorem gX11_88 : jdFg 5 1 RX11 88 := ⟨RX6, TX6, 4, rfl, by decide, iX6, jdW_in (tb1 (List.mem_of_getElem? (i := 196) (by eq_refl))) (by decide +kernel)⟩
set_option maxRecDepth 100000 in
theorem gX6_23 : jdFg 5 2 RX6 23 := ⟨RX6, TX6, 4, rfl, by decide, iX6, jdW_in (tb1 (List.mem_of_getElem? (i := 197) (by eq_refl))) (by decide +kernel)⟩
set_option maxRecDepth 100000 in
theorem pX6_23 : jdFp 5 2 RX6 23 false .int := ⟨RX6, TX6, 4, tyX6, rfl, by decide, iX6, jdW_in (tb1 (List.mem_of_getElem? (i := 197) (by eq_refl))) (by decide +kernel), tyX6_ok, nmX6, rfl, by decide +kernel, fun h => absurd h (by decide)⟩
set_option maxRecDepth 100000 in
theorem gX11_72 : jdFg 5 2 RX11 72 := ⟨RX6, TX6, 4, rfl, by decide, iX6, jdW_in (tb1 (List.mem_of_getElem? (i := 198) (by eq_refl))) (by decide +kernel)⟩
set_option maxRecDepth 100000 in
theorem pX6_19 : jdFp 5 3 RX6 19 false (.object "ThreeStrangers$Coachman") := ⟨RX6, TX6, 4, tyX6, rfl, by decide, iX6, jdW_in (tb1 (List.mem_of_getElem? (i := 199) (by eq_refl))) (by decide +kernel), tyX6_ok, nmX6, rfl, by decide +kernel, fun h => absurd h (by decide)⟩
set_option maxRecDepth 100000 in
theorem gX11_84 : jdFg 5 3 RX11 84 := ⟨RX6, TX6, 4, rfl, by decide, iX6, jdW_in (tb1 (List.mem_of_getElem? (i := 200) (by eq_refl))) (by decide +kernel)⟩
set_option maxRecDepth 100000 in
theorem gX11_10 : jdFg 10 0 RX11 10 := ⟨RX11, TX11, 9, rfl, by decide, iX11, jdW_in (tb1 (List.mem_of_getElem? (i := 211) (by eq_refl))) (by decide +kernel)⟩
set_option maxRecDepth 100000 in
theorem pX11_10 : jdFp 10 0 RX11 10 true (.object "ThreeStrangers$Town") := ⟨RX11, TX11, 9, tyX11, rfl, by decide, iX11, jdW_in (tb1 (List.mem_of_getElem? (i := 211) (by eq_refl))) (by decide +kernel), tyX11_ok, nmX11, rfl, by decide +kernel, fun _ => rfl⟩
set_option maxRecDepth 100000 in
theorem gX11_16 : jdFg 10 1 RX11 16 := ⟨RX11, TX11, 9, rfl, by decide, iX11, jdW_in (tb1 (List.mem_of_getElem? (i := 212) (by eq_refl))) (by decide +kernel)⟩
set_option maxRecDepth 100000 in
theorem pX11_16 : jdFp 10 1 RX11 16 true (.object "ThreeStrangers$Town") := ⟨RX11, TX11, 9, tyX11, rfl, by decide, iX11, jdW_in (tb1 (List.mem_of_getElem? (i := 212) (by eq_refl))) (by decide +kernel), tyX11_ok, nmX11, rfl, by decide +kernel, fun _ => rfl⟩
set_option maxRecDepth 100000 in
theorem gX11_19 : jdFg 10 2 RX11 19 := ⟨RX11, TX11, 9, rfl, by decide, iX11, jdW_in (tb1 (List.mem_of_getElem? (i := 213) (by eq_refl))) (by decide +kernel)⟩
set_option maxRecDepth 100000 in
theorem pX11_19 : jdFp 10 2 RX11 19 true (.object "ThreeStrangers$Town") := ⟨RX11, TX11, 9, tyX11, rfl, by decide, iX11, jdW_in (tb1 (List.mem_of_getElem? (i := 213) (by eq_refl))) (by decide +kernel), tyX11_ok, nmX11, rfl, by decide +kernel, fun _ => rfl⟩
set_option maxRecDepth 100000 in
theorem gX11_25 : jdFg 10 3 RX11 25 := ⟨RX11, TX11, 9, rfl, by decide, iX11, jdW_in (tb1 (List.mem_of_getElem? (i := 214) (by eq_refl))) (by decide +kernel)⟩
set_option maxRecDepth 100000 in
theorem pX11_25 : jdFp 10 3 RX11 25 true (.object "ThreeStrangers$Ties") := ⟨RX11, TX11, 9, tyX11, rfl, by decide, iX11, jdW_in (tb1 (List.mem_of_getElem? (i := 214) (by eq_refl))) (by decide +kernel), tyX11_ok, nmX11, rfl, by decide +kernel, fun _ => rfl⟩
set_option maxRecDepth 100000 in
theorem gX11_32 : jdFg 10 4 RX11 32 := ⟨RX11, TX11, 9, rfl, by decide, iX11, jdW_in (tb1 (List.mem_of_getElem? (i := 215) (by eq_refl))) (by decide +kernel)⟩
set_option maxRecDepth 100000 in
theorem pX11_32 : jdFp 10 4 RX11 32 true (.object "ThreeStrangers$Day") := ⟨RX11, TX11, 9, tyX11, rfl, by decide, iX11, jdW_in (tb1 (List.mem_of_getElem? (i := 215) (by eq_refl))) (by decide +kernel), tyX11_ok, nmX11, rfl, by decide +kernel, fun _ => rfl⟩
set_option maxRecDepth 100000 in
theorem gX11_39 : jdFg 10 5 RX11 39 := ⟨RX11, TX11, 9, rfl, by decide, iX11, jdW_in (tb1 (List.mem_of_getElem? (i := 216) (by eq_refl))) (by decide +kernel)⟩
set_option maxRecDepth 100000 in
theorem pX11_39 : jdFp 10 5 RX11 39 true (.object "ThreeStrangers$Scribe") := ⟨RX11, TX11, 9, tyX11, rfl, by decide, iX11, jdW_in (tb1 (List.mem_of_getElem? (i := 216) (by eq_refl))) (by decide +kernel), tyX11_ok, nmX11, rfl, by decide +kernel, fun _ => rfl⟩
set_option maxRecDepth 100000 in
theorem gX11_45 : jdFg 10 6 RX11 45 := ⟨RX11, TX11, 9, rfl, by decide, iX11, jdW_in (tb1 (List.mem_of_getElem? (i := 217) (by eq_refl))) (by decide +kernel)⟩
set_option maxRecDepth 100000 in
theorem pX11_45 : jdFp 10 6 RX11 45 true (.array (.object "ThreeStrangers$Shelf")) := ⟨RX11, TX11, 9, tyX11, rfl, by decide, iX11, jdW_in (tb1 (List.mem_of_getElem? (i := 217) (by eq_refl))) (by decide +kernel), tyX11_ok, nmX11, rfl, by decide +kernel, fun _ => rfl⟩
set_option maxRecDepth 100000 in
theorem gX11_49 : jdFg 10 7 RX11 49 := ⟨RX11, TX11, 9, rfl, by decide, iX11, jdW_in (tb1 (List.mem_of_getElem? (i := 218) (by eq_refl))) (by decide +kernel)⟩
set_option maxRecDepth 100000 in
theorem pX11_49 : jdFp 10 7 RX11 49 true (.array .int) := ⟨RX11, TX11, 9, tyX11, rfl, by decide, iX11, jdW_in (tb1 (List.mem_of_getElem? (i := 218) (by eq_refl))) (by decide +kernel), tyX11_ok, nmX11, rfl, by decide +kernel, fun _ => rfl⟩
set_option maxRecDepth 100000 in
theorem gX11_313 : jdFg 10 8 RX11 313 := ⟨RX11, TX11, 9, rfl, by decide, iX11, jdW_in (tb1 (List.mem_of_getElem? (i := 219) (by eq_refl))) (by decide +kernel)⟩
set_option maxRecDepth 100000 in
theorem pX11_313 : jdFp 10 8 RX11 313 false .boolean := ⟨RX11, TX11, 9, tyX11, rfl, by decide, iX11, jdW_in (tb1 (List.mem_of_getElem? (i := 219) (by eq_refl))) (by decide +kernel), tyX11_ok, nmX11, rfl, by decide +kernel, fun h => absurd h (by decide)⟩
set_option maxRecDepth 100000 in
theorem gX2_7_0 : jdFg 0 0 RX2 7 := ⟨RX0, TX0, 1, rfl, by decide, iX0, jdW_in (tb2 (List.mem_of_getElem? (i := 87) (by eq_refl))) (by decide +kernel)⟩
set_option maxRecDepth 100000 in
theorem pX2_7_0 : jdFp 0 0 RX2 7 true .int := ⟨RX0, TX0, 1, tyX0, rfl, by decide, iX0, jdW_in (tb2 (List.mem_of_getElem? (i := 87) (by eq_refl))) (by decide +kernel), tyX0_ok, nmX0, rfl, by decide +kernel, fun _ => rfl⟩
set_option maxRecDepth 100000 in
theorem gX2_7_1 : jdFg 1 0 RX2 7 := ⟨RX1, TX1, 1, rfl, by decide, iX1, jdW_in (tb2 (List.mem_of_getElem? (i := 87) (by eq_refl))) (by decide +kernel)⟩
set_option maxRecDepth 100000 in
theorem pX2_7_1 : jdFp 1 0 RX2 7 true .int := ⟨RX1, TX1, 1, tyX1, rfl, by decide, iX1, jdW_in (tb2 (List.mem_of_getElem? (i := 87) (by eq_refl))) (by decide +kernel), tyX1_ok, nmX1, rfl, by decide +kernel, fun _ => rfl⟩
set_option maxRecDepth 100000 in
theorem gX2_7_3 : jdFg 3 0 RX2 7 := ⟨RX4, TX4, 1, rfl, by decide, iX4, jdW_in (tb2 (List.mem_of_getElem? (i := 87) (by eq_refl))) (by decide +kernel)⟩
set_option maxRecDepth 100000 in
theorem pX2_7_3 : jdFp 3 0 RX2 7 true .int := ⟨RX4, TX4, 1, tyX4, rfl, by decide, iX4, jdW_in (tb2 (List.mem_of_getElem? (i := 87) (by eq_refl))) (by decide +kernel), tyX4_ok, nmX4, rfl, by decide +kernel, fun _ => rfl⟩
set_option maxRecDepth 100000 in
theorem gX2_7_6 : jdFg 6 0 RX2 7 := ⟨RX7, TX7, 1, rfl, by decide, iX7, jdW_in (tb2 (List.mem_of_getElem? (i := 87) (by eq_refl))) (by decide +kernel)⟩
set_option maxRecDepth 100000 in
theorem pX2_7_6 : jdFp 6 0 RX2 7 true .int := ⟨RX7, TX7, 1, tyX7, rfl, by decide, iX7, jdW_in (tb2 (List.mem_of_getElem? (i := 87) (by eq_refl))) (by decide +kernel), tyX7_ok, nmX7, rfl, by decide +kernel, fun _ => rfl⟩
set_option maxRecDepth 100000 in
theorem gX2_7_9 : jdFg 9 0 RX2 7 := ⟨RX10, TX10, 1, rfl, by decide, iX10, jdW_in (tb2 (List.mem_of_getElem? (i := 87) (by eq_refl))) (by decide +kernel)⟩
set_option maxRecDepth 100000 in
theorem pX2_7_9 : jdFp 9 0 RX2 7 true .int := ⟨RX10, TX10, 1, tyX10, rfl, by decide, iX10, jdW_in (tb2 (List.mem_of_getElem? (i := 87) (by eq_refl))) (by decide +kernel), tyX10_ok, nmX10, rfl, by decide +kernel, fun _ => rfl⟩
set_option maxRecDepth 100000 in
theorem gX12_7 : jdFg 11 0 RX12 7 := ⟨RX12, TX12, 45, rfl, by decide, iX12, jdW_in (tb5 (List.mem_of_getElem? (i := 41) (by eq_refl))) (by decide +kernel)⟩
set_option maxRecDepth 100000 in
theorem pX12_7 : jdFp 11 0 RX12 7 true (.array .int) := ⟨RX12, TX12, 45, tyX12, rfl, by decide, iX12, jdW_in (tb5 (List.mem_of_getElem? (i := 41) (by eq_refl))) (by decide +kernel), tyX12_ok, nmX12, rfl, by decide +kernel, fun _ => rfl⟩
set_option maxRecDepth 100000 in
theorem gX12_13 : jdFg 11 1 RX12 13 := ⟨RX12, TX12, 45, rfl, by decide, iX12, jdW_in (tb5 (List.mem_of_getElem? (i := 42) (by eq_refl))) (by decide +kernel)⟩
set_option maxRecDepth 100000 in
theorem pX12_13 : jdFp 11 1 RX12 13 true (.array .int) := ⟨RX12, TX12, 45, tyX12, rfl, by decide, iX12, jdW_in (tb5 (List.mem_of_getElem? (i := 42) (by eq_refl))) (by decide +kernel), tyX12_ok, nmX12, rfl, by decide +kernel, fun _ => rfl⟩
set_option maxRecDepth 100000 in
theorem gX12_16 : jdFg 11 2 RX12 16 := ⟨RX12, TX12, 45, rfl, by decide, iX12, jdW_in (tb5 (List.mem_of_getElem? (i := 43) (by eq_refl))) (by decide +kernel)⟩
set_option maxRecDepth 100000 in
theorem pX12_16 : jdFp 11 2 RX12 16 true (.array .int) := ⟨RX12, TX12, 45, tyX12, rfl, by decide, iX12, jdW_in (tb5 (List.mem_of_getElem? (i := 43) (by eq_refl))) (by decide +kernel), tyX12_ok, nmX12, rfl, by decide +kernel, fun _ => rfl⟩
set_option maxRecDepth 100000 in
theorem gX12_21 : jdFg 11 3 RX12 21 := ⟨RX12, TX12, 45, rfl, by decide, iX12, jdW_in (tb5 (List.mem_of_getElem? (i := 44) (by eq_refl))) (by decide +kernel)⟩
set_option maxRecDepth 100000 in
theorem pX12_21 : jdFp 11 3 RX12 21 true (.array (.array .long)) := ⟨RX12, TX12, 45, tyX12, rfl, by decide, iX12, jdW_in (tb5 (List.mem_of_getElem? (i := 44) (by eq_refl))) (by decide +kernel), tyX12_ok, nmX12, rfl, by decide +kernel, fun _ => rfl⟩
set_option maxRecDepth 100000 in
theorem gX12_24 : jdFg 11 4 RX12 24 := ⟨RX12, TX12, 45, rfl, by decide, iX12, jdW_in (tb5 (List.mem_of_getElem? (i := 45) (by eq_refl))) (by decide +kernel)⟩
set_option maxRecDepth 100000 in
theorem pX12_24 : jdFp 11 4 RX12 24 true (.array .long) := ⟨RX12, TX12, 45, tyX12, rfl, by decide, iX12, jdW_in (tb5 (List.mem_of_getElem? (i := 45) (by eq_refl))) (by decide +kernel), tyX12_ok, nmX12, rfl, by decide +kernel, fun _ => rfl⟩
set_option maxRecDepth 100000 in
theorem gX12_28 : jdFg 11 5 RX12 28 := ⟨RX12, TX12, 45, rfl, by decide, iX12, jdW_in (tb5 (List.mem_of_getElem? (i := 46) (by eq_refl))) (by decide +kernel)⟩
set_option maxRecDepth 100000 in
theorem pX12_28 : jdFp 11 5 RX12 28 true (.array .int) := ⟨RX12, TX12, 45, tyX12, rfl, by decide, iX12, jdW_in (tb5 (List.mem_of_getElem? (i := 46) (by eq_refl))) (by decide +kernel), tyX12_ok, nmX12, rfl, by decide +kernel, fun _ => rfl⟩
set_option maxRecDepth 100000 in
theorem gX12_31 : jdFg 11 6 RX12 31 := ⟨RX12, TX12, 45, rfl, by decide, iX12, jdW_in (tb5 (List.mem_of_getElem? (i := 47) (by eq_refl))) (by decide +kernel)⟩
set_option maxRecDepth 100000 in
theorem pX12_31 : jdFp 11 6 RX12 31 true (.array .int) := ⟨RX12, TX12, 45, tyX12, rfl, by decide, iX12, jdW_in (tb5 (List.mem_of_getElem? (i := 47) (by eq_refl))) (by decide +kernel), tyX12_ok, nmX12, rfl, by decide +kernel, fun _ => rfl⟩
set_option maxRecDepth 100000 in
theorem gX12_34 : jdFg 11 7 RX12 34 := ⟨RX12, TX12, 45, rfl, by decide, iX12, jdW_in (tb5 (List.mem_of_getElem? (i := 48) (by eq_refl))) (by decide +kernel)⟩
set_option maxRecDepth 100000 in
theorem pX12_34 : jdFp 11 7 RX12 34 true (.array .int) := ⟨RX12, TX12, 45, tyX12, rfl, by decide, iX12, jdW_in (tb5 (List.mem_of_getElem? (i := 48) (by eq_refl))) (by decide +kernel), tyX12_ok, nmX12, rfl, by decide +kernel, fun _ => rfl⟩
set_option maxRecDepth 100000 in
theorem gX12_156 : jdFg 11 8 RX12 156 := ⟨RX12, TX12, 45, rfl, by decide, iX12, jdW_in (tb5 (List.mem_of_getElem? (i := 49) (by eq_refl))) (by decide +kernel)⟩
set_option maxRecDepth 100000 in
theorem pX12_156 : jdFp 11 8 RX12 156 false .int := ⟨RX12, TX12, 45, tyX12, rfl, by decide, iX12, jdW_in (tb5 (List.mem_of_getElem? (i := 49) (by eq_refl))) (by decide +kernel), tyX12_ok, nmX12, rfl, by decide +kernel, fun h => absurd h (by decide)⟩
set_option maxRecDepth 100000 in
theorem gX12_37 : jdFg 11 9 RX12 37 := ⟨RX12, TX12, 45, rfl, by decide, iX12, jdW_in (tb5 (List.mem_of_getElem? (i := 50) (by eq_refl))) (by decide +kernel)⟩
set_option maxRecDepth 100000 in
theorem pX12_37 : jdFp 11 9 RX12 37 true (.array .int) := ⟨RX12, TX12, 45, tyX12, rfl, by decide, iX12, jdW_in (tb5 (List.mem_of_getElem? (i := 50) (by eq_refl))) (by decide +kernel), tyX12_ok, nmX12, rfl, by decide +kernel, fun _ => rfl⟩
set_option maxRecDepth 100000 in
theorem gX12_85 : jdFg 11 10 RX12 85 := ⟨RX12, TX12, 45, rfl, by decide, iX12, jdW_in (tb5 (List.mem_of_getElem? (i := 51) (by eq_refl))) (by decide +kernel)⟩
set_option maxRecDepth 100000 in
theorem pX12_85 : jdFp 11 10 RX12 85 false .int := ⟨RX12, TX12, 45, tyX12, rfl, by decide, iX12, jdW_in (tb5 (List.mem_of_getElem? (i := 51) (by eq_refl))) (by decide +kernel), tyX12_ok, nmX12, rfl, by decide +kernel, fun h => absurd h (by decide)⟩
set_option maxRecDepth 100000 in
theorem gX12_40 : jdFg 11 11 RX12 40 := ⟨RX12, TX12, 45, rfl, by decide, iX12, jdW_in (tb5 (List.mem_of_getElem? (i := 52) (by eq_refl))) (by decide +kernel)⟩
set_option maxRecDepth 100000 in
theorem pX12_40 : jdFp 11 11 RX12 40 true (.array .int) := ⟨RX12, TX12, 45, tyX12, rfl, by decide, iX12, jdW_in (tb5 (List.mem_of_getElem? (i := 52) (by eq_refl))) (by decide +kernel), tyX12_ok, nmX12, rfl, by decide +kernel, fun _ => rfl⟩
set_option maxRecDepth 100000 in
theorem gX12_43 : jdFg 11 12 RX12 43 := ⟨RX12, TX12, 45, rfl, by decide, iX12, jdW_in (tb5 (List.mem_of_getElem? (i := 53) (by eq_refl))) (by decide +kernel)⟩
set_option maxRecDepth 100000 in
theorem pX12_43 : jdFp 11 12 RX12 43 true (.array .int) := ⟨RX12, TX12, 45, tyX12, rfl, by decide, iX12, jdW_in (tb5 (List.mem_of_getElem? (i := 53) (by eq_refl))) (by decide +kernel), tyX12_ok, nmX12, rfl, by decide +kernel, fun _ => rfl⟩
set_option maxRecDepth 100000 in
theorem gX12_48 : jdFg 11 13 RX12 48 := ⟨RX12, TX12, 45, rfl, by decide, iX12, jdW_in (tb5 (List.mem_of_getElem? (i := 54) (by eq_refl))) (by decide +kernel)⟩
set_option maxRecDepth 100000 in
theorem pX12_48 : jdFp 11 13 RX12 48 true (.array (.array .int)) := ⟨RX12, TX12, 45, tyX12, rfl, by decide, iX12, jdW_in (tb5 (List.mem_of_getElem? (i := 54) (by eq_refl))) (by decide +kernel), tyX12_ok, nmX12, rfl, by decide +kernel, fun _ => rfl⟩
set_option maxRecDepth 100000 in
theorem gX12_51 : jdFg 11 14 RX12 51 := ⟨RX12, TX12, 45, rfl, by decide, iX12, jdW_in (tb5 (List.mem_of_getElem? (i := 55) (by eq_refl))) (by decide +kernel)⟩
set_option maxRecDepth 100000 in
theorem pX12_51 : jdFp 11 14 RX12 51 false .int := ⟨RX12, TX12, 45, tyX12, rfl, by decide, iX12, jdW_in (tb5 (List.mem_of_getElem? (i := 55) (by eq_refl))) (by decide +kernel), tyX12_ok, nmX12, rfl, by decide +kernel, fun h => absurd h (by decide)⟩
set_option maxRecDepth 100000 in
theorem gX12_148 : jdFg 11 15 RX12 148 := ⟨RX12, TX12, 45, rfl, by decide, iX12, jdW_in (tb5 (List.mem_of_getElem? (i := 56) (by eq_refl))) (by decide +kernel)⟩
set_option maxRecDepth 100000 in
theorem pX12_148 : jdFp 11 15 RX12 148 false .int := ⟨RX12, TX12, 45, tyX12, rfl, by decide, iX12, jdW_in (tb5 (List.mem_of_getElem? (i := 56) (by eq_refl))) (by decide +kernel), tyX12_ok, nmX12, rfl, by decide +kernel, fun h => absurd h (by decide)⟩
set_option maxRecDepth 100000 in
theorem gX12_358 : jdFg 11 16 RX12 358 := ⟨RX12, TX12, 45, rfl, by decide, iX12, jdW_in (tb5 (List.mem_of_getElem? (i := 57) (by eq_refl))) (by decide +kernel)⟩
set_option maxRecDepth 100000 in
theorem pX12_358 : jdFp 11 16 RX12 358 false .int := ⟨RX12, TX12, 45, tyX12, rfl, by decide, iX12, jdW_in (tb5 (List.mem_of_getElem? (i := 57) (by eq_refl))) (by decide +kernel), tyX12_ok, nmX12, rfl, by decide +kernel, fun h => absurd h (by decide)⟩
set_option maxRecDepth 100000 in
theorem gX12_361 : jdFg 11 17 RX12 361 := ⟨RX12, TX12, 45, rfl, by decide, iX12, jdW_in (tb5 (List.mem_of_getElem? (i := 58) (by eq_refl))) (by decide +kernel)⟩
set_option maxRecDepth 100000 in
theorem pX12_361 : jdFp 11 17 RX12 361 false .int := ⟨RX12, TX12, 45, tyX12, rfl, by decide, iX12, jdW_in (tb5 (List.mem_of_getElem? (i := 58) (by eq_refl))) (by decide +kernel), tyX12_ok, nmX12, rfl, by decide +kernel, fun h => absurd h (by decide)⟩
set_option maxRecDepth 100000 in
theorem gX12_364 : jdFg 11 18 RX12 364 := ⟨RX12, TX12, 45, rfl, by decide, iX12, jdW_in (tb5 (List.mem_of_getElem? (i := 59) (by eq_refl))) (by decide +kernel)⟩
set_option maxRecDepth 100000 in
theorem pX12_364 : jdFp 11 18 RX12 364 false .int := ⟨RX12, TX12, 45, tyX12, rfl, by decide, iX12, jdW_in (tb5 (List.mem_of_getElem? (i := 59) (by eq_refl))) (by decide +kernel), tyX12_ok, nmX12, rfl, by decide +kernel, fun h => absurd h (by decide)⟩
set_option maxRecDepth 100000 in
theorem gX12_55 : jdFg 11 19 RX12 55 := ⟨RX12, TX12, 45, rfl, by decide, iX12, jdW_in (tb5 (List.mem_of_getElem? (i := 60) (by eq_refl))) (by decide +kernel)⟩
set_option maxRecDepth 100000 in
theorem pX12_55 : jdFp 11 19 RX12 55 false .int := ⟨RX12, TX12, 45, tyX12, rfl, by decide, iX12, jdW_in (tb5 (List.mem_of_getElem? (i := 60) (by eq_refl))) (by decide +kernel), tyX12_ok, nmX12, rfl, by decide +kernel, fun h => absurd h (by decide)⟩
set_option maxRecDepth 100000 in
theorem gX12_380 : jdFg 11 20 RX12 380 := ⟨RX12, TX12, 45, rfl, by decide, iX12, jdW_in (tb5 (List.mem_of_getElem? (i := 61) (by eq_refl))) (by decide +kernel)⟩
set_option maxRecDepth 100000 in
theorem pX12_380 : jdFp 11 20 RX12 380 false (.object "ThreeStrangersModel") := ⟨RX12, TX12, 45, tyX12, rfl, by decide, iX12, jdW_in (tb5 (List.mem_of_getElem? (i := 61) (by eq_refl))) (by decide +kernel), tyX12_ok, nmX12, rfl, by decide +kernel, fun h => absurd h (by decide)⟩
set_option maxRecDepth 100000 in
theorem gX12_371 : jdFg 11 21 RX12 371 := ⟨RX12, TX12, 45, rfl, by decide, iX12, jdW_in (tb5 (List.mem_of_getElem? (i := 62) (by eq_refl))) (by decide +kernel)⟩
set_option maxRecDepth 100000 in
theorem pX12_371 : jdFp 11 21 RX12 371 false (.object "ThreeStrangersModel") := ⟨RX12, TX12, 45, tyX12, rfl, by decide, iX12, jdW_in (tb5 (List.mem_of_getElem? (i := 62) (by eq_refl))) (by decide +kernel), tyX12_ok, nmX12, rfl, by decide +kernel, fun h => absurd h (by decide)⟩
set_option maxRecDepth 100000 in
theorem gX12_159 : jdFg 11 22 RX12 159 := ⟨RX12, TX12, 45, rfl, by decide, iX12, jdW_in (tb5 (List.mem_of_getElem? (i := 63) (by eq_refl))) (by decide +kernel)⟩
set_option maxRecDepth 100000 in
theorem pX12_159 : jdFp 11 22 RX12 159 false .int := ⟨RX12, TX12, 45, tyX12, rfl, by decide, iX12, jdW_in (tb5 (List.mem_of_getElem? (i := 63) (by eq_refl))) (by decide +kernel), tyX12_ok, nmX12, rfl, by decide +kernel, fun h => absurd h (by decide)⟩
set_option maxRecDepth 100000 in
theorem gX12_168 : jdFg 11 23 RX12 168 := ⟨RX12, TX12, 45, rfl, by decide, iX12, jdW_in (tb5 (List.mem_of_getElem? (i := 64) (by eq_refl))) (by decide +kernel)⟩
set_option maxRecDepth 100000 in
theorem pX12_168 : jdFp 11 23 RX12 168 false .int := ⟨RX12, TX12, 45, tyX12, rfl, by decide, iX12, jdW_in (tb5 (List.mem_of_getElem? (i := 64) (by eq_refl))) (by decide +kernel), tyX12_ok, nmX12, rfl, by decide +kernel, fun h => absurd h (by decide)⟩
set_option maxRecDepth 100000 in
theorem gX12_162 : jdFg 11 24 RX12 162 := ⟨RX12, TX12, 45, rfl, by decide, iX12, jdW_in (tb5 (List.mem_of_getElem? (i := 65) (by eq_refl))) (by decide +kernel)⟩
set_option maxRecDepth 100000 in
theorem pX12_162 : jdFp 11 24 RX12 162 false .int := ⟨RX12, TX12, 45, tyX12, rfl, by decide, iX12, jdW_in (tb5 (List.mem_of_getElem? (i := 65) (by eq_refl))) (by decide +kernel), tyX12_ok, nmX12, rfl, by decide +kernel, fun h => absurd h (by decide)⟩
set_option maxRecDepth 100000 in
theorem gX12_165 : jdFg 11 25 RX12 165 := ⟨RX12, TX12, 45, rfl, by decide, iX12, jdW_in (tb5 (List.mem_of_getElem? (i := 66) (by eq_refl))) (by decide +kernel)⟩
set_option maxRecDepth 100000 in
theorem pX12_165 : jdFp 11 25 RX12 165 false .int := ⟨RX12, TX12, 45, tyX12, rfl, by decide, iX12, jdW_in (tb5 (List.mem_of_getElem? (i := 66) (by eq_refl))) (by decide +kernel), tyX12_ok, nmX12, rfl, by decide +kernel, fun h => absurd h (by decide)⟩
set_option maxRecDepth 100000 in
theorem gX12_178 : jdFg 11 26 RX12 178 := ⟨RX12, TX12, 45, rfl, by decide, iX12, jdW_in (tb5 (List.mem_of_getElem? (i := 67) (by eq_refl))) (by decide +kernel)⟩
set_option maxRecDepth 100000 in
theorem pX12_178 : jdFp 11 26 RX12 178 false .int := ⟨RX12, TX12, 45, tyX12, rfl, by decide, iX12, jdW_in (tb5 (List.mem_of_getElem? (i := 67) (by eq_refl))) (by decide +kernel), tyX12_ok, nmX12, rfl, by decide +kernel, fun h => absurd h (by decide)⟩
set_option maxRecDepth 100000 in
theorem gX12_58 : jdFg 11 27 RX12 58 := ⟨RX12, TX12, 45, rfl, by decide, iX12, jdW_in (tb5 (List.mem_of_getElem? (i := 68) (by eq_refl))) (by decide +kernel)⟩
set_option maxRecDepth 100000 in
theorem pX12_58 : jdFp 11 27 RX12 58 true (.array .int) := ⟨RX12, TX12, 45, tyX12, rfl, by decide, iX12, jdW_in (tb5 (List.mem_of_getElem? (i := 68) (by eq_refl))) (by decide +kernel), tyX12_ok, nmX12, rfl, by decide +kernel, fun _ => rfl⟩
set_option maxRecDepth 100000 in
theorem gX12_232 : jdFg 11 28 RX12 232 := ⟨RX12, TX12, 45, rfl, by decide, iX12, jdW_in (tb5 (List.mem_of_getElem? (i := 69) (by eq_refl))) (by decide +kernel)⟩
set_option maxRecDepth 100000 in
theorem pX12_232 : jdFp 11 28 RX12 232 false .int := ⟨RX12, TX12, 45, tyX12, rfl, by decide, iX12, jdW_in (tb5 (List.mem_of_getElem? (i := 69) (by eq_refl))) (by decide +kernel), tyX12_ok, nmX12, rfl, by decide +kernel, fun h => absurd h (by decide)⟩
set_option maxRecDepth 100000 in
theorem gX12_61 : jdFg 11 29 RX12 61 := ⟨RX12, TX12, 45, rfl, by decide, iX12, jdW_in (tb5 (List.mem_of_getElem? (i := 70) (by eq_refl))) (by decide +kernel)⟩
set_option maxRecDepth 100000 in
theorem pX12_61 : jdFp 11 29 RX12 61 true (.array .int) := ⟨RX12, TX12, 45, tyX12, rfl, by decide, iX12, jdW_in (tb5 (List.mem_of_getElem? (i := 70) (by eq_refl))) (by decide +kernel), tyX12_ok, nmX12, rfl, by decide +kernel, fun _ => rfl⟩
set_option maxRecDepth 100000 in
theorem gX12_257 : jdFg 11 30 RX12 257 := ⟨RX12, TX12, 45, rfl, by decide, iX12, jdW_in (tb5 (List.mem_of_getElem? (i := 71) (by eq_refl))) (by decide +kernel)⟩
set_option maxRecDepth 100000 in
theorem pX12_257 : jdFp 11 30 RX12 257 false .int := ⟨RX12, TX12, 45, tyX12, rfl, by decide, iX12, jdW_in (tb5 (List.mem_of_getElem? (i := 71) (by eq_refl))) (by decide +kernel), tyX12_ok, nmX12, rfl, by decide +kernel, fun h => absurd h (by decide)⟩
set_option maxRecDepth 100000 in
theorem gX12_64 : jdFg 11 31 RX12 64 := ⟨RX12, TX12, 45, rfl, by decide, iX12, jdW_in (tb5 (List.mem_of_getElem? (i := 72) (by eq_refl))) (by decide +kernel)⟩
set_option maxRecDepth 100000 in
theorem pX12_64 : jdFp 11 31 RX12 64 true (.array .int) := ⟨RX12, TX12, 45, tyX12, rfl, by decide, iX12, jdW_in (tb5 (List.mem_of_getElem? (i := 72) (by eq_refl))) (by decide +kernel), tyX12_ok, nmX12, rfl, by decide +kernel, fun _ => rfl⟩
set_option maxRecDepth 100000 in
theorem gX12_67 : jdFg 11 32 RX12 67 := ⟨RX12, TX12, 45, rfl, by decide, iX12, jdW_in (tb5 (List.mem_of_getElem? (i := 73) (by eq_refl))) (by decide +kernel)⟩
set_option maxRecDepth 100000 in
theorem pX12_67 : jdFp 11 32 RX12 67 true (.array .int) := ⟨RX12, TX12, 45, tyX12, rfl, by decide, iX12, jdW_in (tb5 (List.mem_of_getElem? (i := 73) (by eq_refl))) (by decide +kernel), tyX12_ok, nmX12, rfl, by decide +kernel, fun _ => rfl⟩
set_option maxRecDepth 100000 in
theorem gX12_296 : jdFg 11 33 RX12 296 := ⟨RX12, TX12, 45, rfl, by decide, iX12, jdW_in (tb5 (List.mem_of_getElem? (i := 74) (by eq_refl))) (by decide +kernel)⟩
set_option maxRecDepth 100000 in
theorem pX12_296 : jdFp 11 33 RX12 296 false .int := ⟨RX12, TX12, 45, tyX12, rfl, by decide, iX12, jdW_in (tb5 (List.mem_of_getElem? (i := 74) (by eq_refl))) (by decide +kernel), tyX12_ok, nmX12, rfl, by decide +kernel, fun h => absurd h (by decide)⟩
set_option maxRecDepth 100000 in
theorem gX12_299 : jdFg 11 34 RX12 299 := ⟨RX12, TX12, 45, rfl, by decide, iX12, jdW_in (tb5 (List.mem_of_getElem? (i := 75) (by eq_refl))) (by decide +kernel)⟩
set_option maxRecDepth 100000 in
theorem pX12_299 : jdFp 11 34 RX12 299 false .int := ⟨RX12, TX12, 45, tyX12, rfl, by decide, iX12, jdW_in (tb5 (List.mem_of_getElem? (i := 75) (by eq_refl))) (by decide +kernel), tyX12_ok, nmX12, rfl, by decide +kernel, fun h => absurd h (by decide)⟩
set_option maxRecDepth 100000 in
theorem gX12_70 : jdFg 11 35 RX12 70 := ⟨RX12, TX12, 45, rfl, by decide, iX12, jdW_in (tb5 (List.mem_of_getElem? (i := 76) (by eq_refl))) (by decide +kernel)⟩
set_option maxRecDepth 100000 in
theorem pX12_70 : jdFp 11 35 RX12 70 true (.array .int) := ⟨RX12, TX12, 45, tyX12, rfl, by decide, iX12, jdW_in (tb5 (List.mem_of_getElem? (i := 76) (by eq_refl))) (by decide +kernel), tyX12_ok, nmX12, rfl, by decide +kernel, fun _ => rfl⟩
set_option maxRecDepth 100000 in
theorem gX12_73 : jdFg 11 36 RX12 73 := ⟨RX12, TX12, 45, rfl, by decide, iX12, jdW_in (tb5 (List.mem_of_getElem? (i := 77) (by eq_refl))) (by decide +kernel)⟩
set_option maxRecDepth 100000 in
theorem pX12_73 : jdFp 11 36 RX12 73 true (.array .int) := ⟨RX12, TX12, 45, tyX12, rfl, by decide, iX12, jdW_in (tb5 (List.mem_of_getElem? (i := 77) (by eq_refl))) (by decide +kernel), tyX12_ok, nmX12, rfl, by decide +kernel, fun _ => rfl⟩
set_option maxRecDepth 100000 in
theorem gX12_319 : jdFg 11 37 RX12 319 := ⟨RX12, TX12, 45, rfl, by decide, iX12, jdW_in (tb5 (List.mem_of_getElem? (i := 78) (by eq_refl))) (by decide +kernel)⟩
set_option maxRecDepth 100000 in
theorem pX12_319 : jdFp 11 37 RX12 319 false .int := ⟨RX12, TX12, 45, tyX12, rfl, by decide, iX12, jdW_in (tb5 (List.mem_of_getElem? (i := 78) (by eq_refl))) (by decide +kernel), tyX12_ok, nmX12, rfl, by decide +kernel, fun h => absurd h (by decide)⟩
set_option maxRecDepth 100000 in
theorem gX12_322 : jdFg 11 38 RX12 322 := ⟨RX12, TX12, 45, rfl, by decide, iX12, jdW_in (tb5 (List.mem_of_getElem? (i := 79) (by eq_refl))) (by decide +kernel)⟩
set_option maxRecDepth 100000 in
theorem pX12_322 : jdFp 11 38 RX12 322 false .int := ⟨RX12, TX12, 45, tyX12, rfl, by decide, iX12, jdW_in (tb5 (List.mem_of_getElem? (i := 79) (by eq_refl))) (by decide +kernel), tyX12_ok, nmX12, rfl, by decide +kernel, fun h => absurd h (by decide)⟩
set_option maxRecDepth 100000 in
theorem gX12_76 : jdFg 11 39 RX12 76 := ⟨RX12, TX12, 45, rfl, by decide, iX12, jdW_in (tb5 (List.mem_of_getElem? (i := 80) (by eq_refl))) (by decide +kernel)⟩
set_option maxRecDepth 100000 in
theorem pX12_76 : jdFp 11 39 RX12 76 true (.array .int) := ⟨RX12, TX12, 45, tyX12, rfl, by decide, iX12, jdW_in (tb5 (List.mem_of_getElem? (i := 80) (by eq_refl))) (by decide +kernel), tyX12_ok, nmX12, rfl, by decide +kernel, fun _ => rfl⟩
set_option maxRecDepth 100000 in
theorem gX12_79 : jdFg 11 40 RX12 79 := ⟨RX12, TX12, 45, rfl, by decide, iX12, jdW_in (tb5 (List.mem_of_getElem? (i := 81) (by eq_refl))) (by decide +kernel)⟩
set_option maxRecDepth 100000 in
theorem pX12_79 : jdFp 11 40 RX12 79 true (.array .int) := ⟨RX12, TX12, 45, tyX12, rfl, by decide, iX12, jdW_in (tb5 (List.mem_of_getElem? (i := 81) (by eq_refl))) (by decide +kernel), tyX12_ok, nmX12, rfl, by decide +kernel, fun _ => rfl⟩
set_option maxRecDepth 100000 in
theorem gX12_82 : jdFg 11 41 RX12 82 := ⟨RX12, TX12, 45, rfl, by decide, iX12, jdW_in (tb5 (List.mem_of_getElem? (i := 82) (by eq_refl))) (by decide +kernel)⟩
set_option maxRecDepth 100000 in
theorem pX12_82 : jdFp 11 41 RX12 82 true (.array .int) := ⟨RX12, TX12, 45, tyX12, rfl, by decide, iX12, jdW_in (tb5 (List.mem_of_getElem? (i := 82) (by eq_refl))) (by decide +kernel), tyX12_ok, nmX12, rfl, by decide +kernel, fun _ => rfl⟩
set_option maxRecDepth 100000 in
theorem gX12_338 : jdFg 11 42 RX12 338 := ⟨RX12, TX12, 45, rfl, by decide, iX12, jdW_in (tb5 (List.mem_of_getElem? (i := 83) (by eq_refl))) (by decide +kernel)⟩
set_option maxRecDepth 100000 in
theorem pX12_338 : jdFp 11 42 RX12 338 false .int := ⟨RX12, TX12, 45, tyX12, rfl, by decide, iX12, jdW_in (tb5 (List.mem_of_getElem? (i := 83) (by eq_refl))) (by decide +kernel), tyX12_ok, nmX12, rfl, by decide +kernel, fun h => absurd h (by decide)⟩
set_option maxRecDepth 100000 in
theorem gX12_341 : jdFg 11 43 RX12 341 := ⟨RX12, TX12, 45, rfl, by decide, iX12, jdW_in (tb5 (List.mem_of_getElem? (i := 84) (by eq_refl))) (by decide +kernel)⟩
set_option maxRecDepth 100000 in
theorem pX12_341 : jdFp 11 43 RX12 341 false .int := ⟨RX12, TX12, 45, tyX12, rfl, by decide, iX12, jdW_in (tb5 (List.mem_of_getElem? (i := 84) (by eq_refl))) (by decide +kernel), tyX12_ok, nmX12, rfl, by decide +kernel, fun h => absurd h (by decide)⟩
set_option maxRecDepth 100000 in
theorem gX12_348 : jdFg 11 44 RX12 348 := ⟨RX12, TX12, 45, rfl, by decide, iX12, jdW_in (tb5 (List.mem_of_getElem? (i := 85) (by eq_refl))) (by decide +kernel)⟩
set_option maxRecDepth 100000 in
theorem pX12_348 : jdFp 11 44 RX12 348 false .int := ⟨RX12, TX12, 45, tyX12, rfl, by decide, iX12, jdW_in (tb5 (List.mem_of_getElem? (i := 85) (by eq_refl))) (by decide +kernel), tyX12_ok, nmX12, rfl, by decide +kernel, fun h => absurd h (by decide)⟩
set_option maxRecDepth 100000 in
theorem nL_7 : jdNw 10 RL 7 9 := ⟨RX11, TX11, tyX11, rfl, iX11, tyX11_ok, jdW_in (tb1 (List.mem_of_getElem? (i := 21) (by eq_refl))) (by decide +kernel), jdW_in (tb1 (List.mem_of_getElem? (i := 22) (by eq_refl))) (by decide +kernel), jdW_in (tb1 (List.mem_of_getElem? (i := 1) (by eq_refl))) (by decide +kernel), by decide +kernel⟩
set_option maxRecDepth 100000 in
theorem nX11_7 : jdNw 8 RX11 7 10 := ⟨RX9, TX9, tyX9, rfl, iX9, tyX9_ok, jdW_in (tb1 (List.mem_of_getElem? (i := 29) (by eq_refl))) (by decide +kernel), jdW_in (tb1 (List.mem_of_getElem? (i := 30) (by eq_refl))) (by decide +kernel), jdW_in (tb1 (List.mem_of_getElem? (i := 2) (by eq_refl))) (by decide +kernel), by decide +kernel⟩
set_option maxRecDepth 100000 in
theorem nX11_22 : jdNw 7 RX11 22 11 := ⟨RX8, TX8, tyX8, rfl, iX8, tyX8_ok, jdW_in (tb1 (List.mem_of_getElem? (i := 85) (by eq_refl))) (by decide +kernel), jdW_in (tb1 (List.mem_of_getElem? (i := 86) (by eq_refl))) (by decide +kernel), jdW_in (tb1 (List.mem_of_getElem? (i := 3) (by eq_refl))) (by decide +kernel), by decide +kernel⟩
set_option maxRecDepth 100000 in
theorem nX11_29 : jdNw 2 RX11 29 7 := ⟨RX3, TX3, tyX3, rfl, iX3, tyX3_ok, jdW_in (tb1 (List.mem_of_getElem? (i := 129) (by eq_refl))) (by decide +kernel), jdW_in (tb1 (List.mem_of_getElem? (i := 130) (by eq_refl))) (by decide +kernel), jdW_in (tb1 (List.mem_of_getElem? (i := 4) (by eq_refl))) (by decide +kernel), by decide +kernel⟩
set_option maxRecDepth 100000 in
theorem nX11_36 : jdNw 4 RX11 36 6 := ⟨RX5, TX5, tyX5, rfl, iX5, tyX5_ok, jdW_in (tb1 (List.mem_of_getElem? (i := 159) (by eq_refl))) (by decide +kernel), jdW_in (tb1 (List.mem_of_getElem? (i := 160) (by eq_refl))) (by decide +kernel), jdW_in (tb1 (List.mem_of_getElem? (i := 5) (by eq_refl))) (by decide +kernel), by decide +kernel⟩
set_option maxRecDepth 100000 in
theorem hX11_43 : Cond.classLink RX11 43 RX6 ∈ jdW := jdW_in (tb1 (List.mem_of_getElem? (i := 186) (by eq_refl))) (by decide +kernel)
set_option maxRecDepth 100000 in
theorem nX11_43 : jdNw 5 RX11 43 4 := ⟨RX6, TX6, tyX6, rfl, iX6, tyX6_ok, jdW_in (tb1 (List.mem_of_getElem? (i := 186) (by eq_refl))) (by decide +kernel), jdW_in (tb1 (List.mem_of_getElem? (i := 188) (by eq_refl))) (by decide +kernel), jdW_in (tb1 (List.mem_of_getElem? (i := 6) (by eq_refl))) (by decide +kernel), by decide +kernel⟩
set_option maxRecDepth 100000 in
theorem nX11_332 : jdNw 3 RX11 332 1 := ⟨RX4, TX4, tyX4, rfl, iX4, tyX4_ok, jdW_in (tb2 (List.mem_of_getElem? (i := 78) (by eq_refl))) (by decide +kernel), jdW_in (tb2 (List.mem_of_getElem? (i := 79) (by eq_refl))) (by decide +kernel), jdW_in (tb1 (List.mem_of_getElem? (i := 10) (by eq_refl))) (by decide +kernel), by decide +kernel⟩
set_option maxRecDepth 100000 in
theorem nX11_336 : jdNw 1 RX11 336 1 := ⟨RX1, TX1, tyX1, rfl, iX1, tyX1_ok, jdW_in (tb2 (List.mem_of_getElem? (i := 91) (by eq_refl))) (by decide +kernel), jdW_in (tb2 (List.mem_of_getElem? (i := 92) (by eq_refl))) (by decide +kernel), jdW_in (tb1 (List.mem_of_getElem? (i := 11) (by eq_refl))) (by decide +kernel), by decide +kernel⟩
set_option maxRecDepth 100000 in
theorem nX11_339 : jdNw 9 RX11 339 1 := ⟨RX10, TX10, tyX10, rfl, iX10, tyX10_ok, jdW_in (tb2 (List.mem_of_getElem? (i := 99) (by eq_refl))) (by decide +kernel), jdW_in (tb2 (List.mem_of_getElem? (i := 100) (by eq_refl))) (by decide +kernel), jdW_in (tb1 (List.mem_of_getElem? (i := 12) (by eq_refl))) (by decide +kernel), by decide +kernel⟩
set_option maxRecDepth 100000 in
theorem nX11_342 : jdNw 6 RX11 342 1 := ⟨RX7, TX7, tyX7, rfl, iX7, tyX7_ok, jdW_in (tb2 (List.mem_of_getElem? (i := 107) (by eq_refl))) (by decide +kernel), jdW_in (tb2 (List.mem_of_getElem? (i := 108) (by eq_refl))) (by decide +kernel), jdW_in (tb1 (List.mem_of_getElem? (i := 13) (by eq_refl))) (by decide +kernel), by decide +kernel⟩
set_option maxRecDepth 100000 in
theorem nX11_345 : jdNw 0 RX11 345 1 := ⟨RX0, TX0, tyX0, rfl, iX0, tyX0_ok, jdW_in (tb2 (List.mem_of_getElem? (i := 115) (by eq_refl))) (by decide +kernel), jdW_in (tb2 (List.mem_of_getElem? (i := 116) (by eq_refl))) (by decide +kernel), jdW_in (tb1 (List.mem_of_getElem? (i := 14) (by eq_refl))) (by decide +kernel), by decide +kernel⟩
set_option maxRecDepth 100000 in
theorem hX2_13 : Cond.classLink RX2 13 RX4 ∈ jdW := jdW_in (tb2 (List.mem_of_getElem? (i := 148) (by eq_refl))) (by decide +kernel)
set_option maxRecDepth 100000 in
theorem hX2_15 : Cond.classLink RX2 15 RX1 ∈ jdW := jdW_in (tb2 (List.mem_of_getElem? (i := 149) (by eq_refl))) (by decide +kernel)
set_option maxRecDepth 100000 in
theorem nL_10 : jdNw 11 RL 10 45 := ⟨RX12, TX12, tyX12, rfl, iX12, tyX12_ok, jdW_in (tb5 (List.mem_of_getElem? (i := 31) (by eq_refl))) (by decide +kernel), jdW_in (tb5 (List.mem_of_getElem? (i := 32) (by eq_refl))) (by decide +kernel), jdW_in (tb1 (List.mem_of_getElem? (i := 7) (by eq_refl))) (by decide +kernel), by decide +kernel⟩
set_option maxRecDepth 100000 in
theorem hX12_19 : Cond.classLink RX12 19 "[[J" ∈ jdW := jdW_in (tb5 (List.mem_of_getElem? (i := 37) (by eq_refl))) (by decide +kernel)
set_option maxRecDepth 100000 in
theorem hX12_46 : Cond.classLink RX12 46 "[[I" ∈ jdW := jdW_in (tb5 (List.mem_of_getElem? (i := 39) (by eq_refl))) (by decide +kernel)
set_option maxRecDepth 100000 in
theorem nX12_8 : jdNw 11 RX12 8 45 := ⟨RX12, TX12, tyX12, rfl, iX12, tyX12_ok, jdW_in (tb6 (List.mem_of_getElem? (i := 86) (by eq_refl))) (by decide +kernel), jdW_in (tb5 (List.mem_of_getElem? (i := 32) (by eq_refl))) (by decide +kernel), jdW_in (tb1 (List.mem_of_getElem? (i := 7) (by eq_refl))) (by decide +kernel), by decide +kernel⟩
set_option maxRecDepth 100000 in
theorem w_aI : Cond.arrayClass .int ∈ jdW := jdW_in (tb1 (List.mem_of_getElem? (i := 84) (by eq_refl))) (by decide +kernel)
set_option maxRecDepth 100000 in
theorem w_aJ : Cond.arrayClass .long ∈ jdW := jdW_in (tb1 (List.mem_of_getElem? (i := 210) (by eq_refl))) (by decide +kernel)
