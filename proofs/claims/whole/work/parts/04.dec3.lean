set_option maxRecDepth 20000 in
theorem dtX7_get_0 : ∀ e ∈ tX7_get_0, decode cX7_get e.1 = .ok e.2 := by decide +kernel
set_option maxRecDepth 20000 in
theorem dtX7_becomes_0 : ∀ e ∈ tX7_becomes_0, decode cX7_becomes e.1 = .ok e.2 := by decide +kernel
set_option maxRecDepth 20000 in
theorem dtX7_mend_0 : ∀ e ∈ tX7_mend_0, decode cX7_mend e.1 = .ok e.2 := by decide +kernel
set_option maxRecDepth 20000 in
theorem dtX7_mend_1 : ∀ e ∈ tX7_mend_1, decode cX7_mend e.1 = .ok e.2 := by decide +kernel
set_option maxRecDepth 20000 in
theorem dtX7_mend_2 : ∀ e ∈ tX7_mend_2, decode cX7_mend e.1 = .ok e.2 := by decide +kernel
set_option maxRecDepth 20000 in
theorem dtX7_of_0 : ∀ e ∈ tX7_of_0, decode cX7_of e.1 = .ok e.2 := by decide +kernel
set_option maxRecDepth 20000 in
theorem dtX7_undo_0 : ∀ e ∈ tX7_undo_0, decode cX7_undo e.1 = .ok e.2 := by decide +kernel
set_option maxRecDepth 20000 in
theorem dtX7_undo_1 : ∀ e ∈ tX7_undo_1, decode cX7_undo e.1 = .ok e.2 := by decide +kernel
set_option maxRecDepth 20000 in
theorem dtX7_redo_0 : ∀ e ∈ tX7_redo_0, decode cX7_redo e.1 = .ok e.2 := by decide +kernel
set_option maxRecDepth 20000 in
theorem dtX7_redo_1 : ∀ e ∈ tX7_redo_1, decode cX7_redo e.1 = .ok e.2 := by decide +kernel
set_option maxRecDepth 20000 in
theorem dtX7_feed_0 : ∀ e ∈ tX7_feed_0, decode cX7_feed e.1 = .ok e.2 := by decide +kernel
set_option maxRecDepth 20000 in
theorem dtX7_sign_0 : ∀ e ∈ tX7_sign_0, decode cX7_sign e.1 = .ok e.2 := by decide +kernel
set_option maxRecDepth 20000 in
theorem dtX7_is_0 : ∀ e ∈ tX7_is_0, decode cX7_is e.1 = .ok e.2 := by decide +kernel
set_option maxRecDepth 20000 in
theorem dtX7_codes_0 : ∀ e ∈ tX7_codes_0, decode cX7_codes e.1 = .ok e.2 := by decide +kernel
set_option maxRecDepth 20000 in
theorem dtX7_isDigit_0 : ∀ e ∈ tX7_isDigit_0, decode cX7_isDigit e.1 = .ok e.2 := by decide +kernel
set_option maxRecDepth 20000 in
theorem dtX7_nameOf_0 : ∀ e ∈ tX7_nameOf_0, decode cX7_nameOf e.1 = .ok e.2 := by decide +kernel
set_option maxRecDepth 20000 in
theorem dtX7_isO_0 : ∀ e ∈ tX7_isO_0, decode cX7_isO e.1 = .ok e.2 := by decide +kernel
set_option maxRecDepth 20000 in
theorem dtX7_isO_1 : ∀ e ∈ tX7_isO_1, decode cX7_isO e.1 = .ok e.2 := by decide +kernel
set_option maxRecDepth 20000 in
theorem dtX7_isO_2 : ∀ e ∈ tX7_isO_2, decode cX7_isO e.1 = .ok e.2 := by decide +kernel
set_option maxRecDepth 20000 in
theorem dtX7_isO_3 : ∀ e ∈ tX7_isO_3, decode cX7_isO e.1 = .ok e.2 := by decide +kernel
set_option maxRecDepth 20000 in
theorem dtX7_isP_0 : ∀ e ∈ tX7_isP_0, decode cX7_isP e.1 = .ok e.2 := by decide +kernel
set_option maxRecDepth 20000 in
theorem dtX7_isP_1 : ∀ e ∈ tX7_isP_1, decode cX7_isP e.1 = .ok e.2 := by decide +kernel
set_option maxRecDepth 20000 in
theorem dtX7_isS_0 : ∀ e ∈ tX7_isS_0, decode cX7_isS e.1 = .ok e.2 := by decide +kernel
set_option maxRecDepth 20000 in
theorem dtX7_isB_0 : ∀ e ∈ tX7_isB_0, decode cX7_isB e.1 = .ok e.2 := by decide +kernel
set_option maxRecDepth 20000 in
theorem dtX7_isB_1 : ∀ e ∈ tX7_isB_1, decode cX7_isB e.1 = .ok e.2 := by decide +kernel
set_option maxRecDepth 20000 in
theorem dtX7_isA_0 : ∀ e ∈ tX7_isA_0, decode cX7_isA e.1 = .ok e.2 := by decide +kernel
set_option maxRecDepth 20000 in
theorem dtX7_isE_0 : ∀ e ∈ tX7_isE_0, decode cX7_isE e.1 = .ok e.2 := by decide +kernel
set_option maxRecDepth 20000 in
theorem dtX7_isLine_0 : ∀ e ∈ tX7_isLine_0, decode cX7_isLine e.1 = .ok e.2 := by decide +kernel
set_option maxRecDepth 20000 in
theorem dtX7_isLine_1 : ∀ e ∈ tX7_isLine_1, decode cX7_isLine e.1 = .ok e.2 := by decide +kernel
set_option maxRecDepth 20000 in
theorem dtX7_law_0 : ∀ e ∈ tX7_law_0, decode cX7_law e.1 = .ok e.2 := by decide +kernel
set_option maxRecDepth 20000 in
theorem dtX7_law_1 : ∀ e ∈ tX7_law_1, decode cX7_law e.1 = .ok e.2 := by decide +kernel
set_option maxRecDepth 20000 in
theorem dtX7_law_2 : ∀ e ∈ tX7_law_2, decode cX7_law e.1 = .ok e.2 := by decide +kernel
set_option maxRecDepth 20000 in
theorem dtX7_both_0 : ∀ e ∈ tX7_both_0, decode cX7_both e.1 = .ok e.2 := by decide +kernel
set_option maxRecDepth 20000 in
theorem dtX7_both_1 : ∀ e ∈ tX7_both_1, decode cX7_both e.1 = .ok e.2 := by decide +kernel
set_option maxRecDepth 20000 in
theorem dtX7_worked_0 : ∀ e ∈ tX7_worked_0, decode cX7_worked e.1 = .ok e.2 := by decide +kernel
set_option maxRecDepth 20000 in
theorem dtX7_worked_1 : ∀ e ∈ tX7_worked_1, decode cX7_worked e.1 = .ok e.2 := by decide +kernel
set_option maxRecDepth 20000 in
theorem dtX7_worked_2 : ∀ e ∈ tX7_worked_2, decode cX7_worked e.1 = .ok e.2 := by decide +kernel
set_option maxRecDepth 20000 in
theorem dtX7_byLaw_0 : ∀ e ∈ tX7_byLaw_0, decode cX7_byLaw e.1 = .ok e.2 := by decide +kernel
set_option maxRecDepth 20000 in
theorem dtX7_byLaw_1 : ∀ e ∈ tX7_byLaw_1, decode cX7_byLaw e.1 = .ok e.2 := by decide +kernel
set_option maxRecDepth 20000 in
theorem dtX7_byLaw_2 : ∀ e ∈ tX7_byLaw_2, decode cX7_byLaw e.1 = .ok e.2 := by decide +kernel
set_option maxRecDepth 20000 in
theorem dtX7_goesFrom_0 : ∀ e ∈ tX7_goesFrom_0, decode cX7_goesFrom e.1 = .ok e.2 := by decide +kernel
set_option maxRecDepth 20000 in
theorem dtX7_goesFrom_1 : ∀ e ∈ tX7_goesFrom_1, decode cX7_goesFrom e.1 = .ok e.2 := by decide +kernel
set_option maxRecDepth 20000 in
theorem dtX7_goes_0 : ∀ e ∈ tX7_goes_0, decode cX7_goes e.1 = .ok e.2 := by decide +kernel
set_option maxRecDepth 20000 in
theorem dtX7_passes_0 : ∀ e ∈ tX7_passes_0, decode cX7_passes e.1 = .ok e.2 := by decide +kernel
set_option maxRecDepth 20000 in
theorem dtX7_passes_1 : ∀ e ∈ tX7_passes_1, decode cX7_passes e.1 = .ok e.2 := by decide +kernel
set_option maxRecDepth 20000 in
theorem dtX7_goesOn_0 : ∀ e ∈ tX7_goesOn_0, decode cX7_goesOn e.1 = .ok e.2 := by decide +kernel
set_option maxRecDepth 20000 in
theorem dtX7_keeps_0 : ∀ e ∈ tX7_keeps_0, decode cX7_keeps e.1 = .ok e.2 := by decide +kernel
set_option maxRecDepth 20000 in
theorem dtX7_keeps_1 : ∀ e ∈ tX7_keeps_1, decode cX7_keeps e.1 = .ok e.2 := by decide +kernel
set_option maxRecDepth 20000 in
theorem dtX7_laysBack_0 : ∀ e ∈ tX7_laysBack_0, decode cX7_laysBack e.1 = .ok e.2 := by decide +kernel
set_option maxRecDepth 20000 in
theorem dtX7_laysBack_1 : ∀ e ∈ tX7_laysBack_1, decode cX7_laysBack e.1 = .ok e.2 := by decide +kernel
set_option maxRecDepth 20000 in
theorem dtX7_isOver_0 : ∀ e ∈ tX7_isOver_0, decode cX7_isOver e.1 = .ok e.2 := by decide +kernel
set_option maxRecDepth 20000 in
theorem dtX7_over_0 : ∀ e ∈ tX7_over_0, decode cX7_over e.1 = .ok e.2 := by decide +kernel
set_option maxRecDepth 20000 in
theorem dtX7_allLevel_0 : ∀ e ∈ tX7_allLevel_0, decode cX7_allLevel e.1 = .ok e.2 := by decide +kernel
set_option maxRecDepth 20000 in
theorem dtX7_signOf_0 : ∀ e ∈ tX7_signOf_0, decode cX7_signOf e.1 = .ok e.2 := by decide +kernel
set_option maxRecDepth 20000 in
theorem dtX7_later_0 : ∀ e ∈ tX7_later_0, decode cX7_later e.1 = .ok e.2 := by decide +kernel
set_option maxRecDepth 20000 in
theorem dtX7_later_1 : ∀ e ∈ tX7_later_1, decode cX7_later e.1 = .ok e.2 := by decide +kernel
set_option maxRecDepth 20000 in
theorem dtX7_river_0 : ∀ e ∈ tX7_river_0, decode cX7_river e.1 = .ok e.2 := by decide +kernel
set_option maxRecDepth 20000 in
theorem dtX7_over__0 : ∀ e ∈ tX7_over__0, decode cX7_over_ e.1 = .ok e.2 := by decide +kernel
set_option maxRecDepth 20000 in
theorem dtX7_over__1 : ∀ e ∈ tX7_over__1, decode cX7_over_ e.1 = .ok e.2 := by decide +kernel
set_option maxRecDepth 20000 in
theorem dtX7_signs_0 : ∀ e ∈ tX7_signs_0, decode cX7_signs e.1 = .ok e.2 := by decide +kernel
set_option maxRecDepth 20000 in
theorem dtX7_signs_1 : ∀ e ∈ tX7_signs_1, decode cX7_signs e.1 = .ok e.2 := by decide +kernel
set_option maxRecDepth 20000 in
theorem dtX7_isAsThen_0 : ∀ e ∈ tX7_isAsThen_0, decode cX7_isAsThen e.1 = .ok e.2 := by decide +kernel
set_option maxRecDepth 20000 in
theorem dtX7_isAsThen_1 : ∀ e ∈ tX7_isAsThen_1, decode cX7_isAsThen e.1 = .ok e.2 := by decide +kernel
set_option maxRecDepth 20000 in
theorem dtX7_still_0 : ∀ e ∈ tX7_still_0, decode cX7_still e.1 = .ok e.2 := by decide +kernel
set_option maxRecDepth 20000 in
theorem dtX7_isThrown_0 : ∀ e ∈ tX7_isThrown_0, decode cX7_isThrown e.1 = .ok e.2 := by decide +kernel
set_option maxRecDepth 20000 in
theorem dtX7_throwIn_0 : ∀ e ∈ tX7_throwIn_0, decode cX7_throwIn e.1 = .ok e.2 := by decide +kernel
set_option maxRecDepth 20000 in
theorem dtX7_throwIn_1 : ∀ e ∈ tX7_throwIn_1, decode cX7_throwIn e.1 = .ok e.2 := by decide +kernel
set_option maxRecDepth 20000 in
theorem dtX7_bridges_0 : ∀ e ∈ tX7_bridges_0, decode cX7_bridges e.1 = .ok e.2 := by decide +kernel
set_option maxRecDepth 20000 in
theorem dtX7_bridges_1 : ∀ e ∈ tX7_bridges_1, decode cX7_bridges e.1 = .ok e.2 := by decide +kernel
set_option maxRecDepth 20000 in
theorem dtX7_bridges_2 : ∀ e ∈ tX7_bridges_2, decode cX7_bridges e.1 = .ok e.2 := by decide +kernel
set_option maxRecDepth 20000 in
theorem dtX7_ring_0 : ∀ e ∈ tX7_ring_0, decode cX7_ring e.1 = .ok e.2 := by decide +kernel
set_option maxRecDepth 20000 in
theorem dtX7_ring_1 : ∀ e ∈ tX7_ring_1, decode cX7_ring e.1 = .ok e.2 := by decide +kernel
set_option maxRecDepth 20000 in
theorem dtX7_noBytes_0 : ∀ e ∈ tX7_noBytes_0, decode cX7_noBytes e.1 = .ok e.2 := by decide +kernel
set_option maxRecDepth 20000 in
theorem dtX7_unlike_0 : ∀ e ∈ tX7_unlike_0, decode cX7_unlike e.1 = .ok e.2 := by decide +kernel
set_option maxRecDepth 20000 in
theorem dtX7_unlike_1 : ∀ e ∈ tX7_unlike_1, decode cX7_unlike e.1 = .ok e.2 := by decide +kernel
set_option maxRecDepth 20000 in
theorem dtX7_judge_0 : ∀ e ∈ tX7_judge_0, decode cX7_judge e.1 = .ok e.2 := by decide +kernel
set_option maxRecDepth 20000 in
theorem dtX7_fits_0 : ∀ e ∈ tX7_fits_0, decode cX7_fits e.1 = .ok e.2 := by decide +kernel
set_option maxRecDepth 20000 in
theorem dtX7_fits_1 : ∀ e ∈ tX7_fits_1, decode cX7_fits e.1 = .ok e.2 := by decide +kernel
set_option maxRecDepth 20000 in
theorem dtX7_fits_2 : ∀ e ∈ tX7_fits_2, decode cX7_fits e.1 = .ok e.2 := by decide +kernel
set_option maxRecDepth 20000 in
theorem dtX7_hear_0 : ∀ e ∈ tX7_hear_0, decode cX7_hear e.1 = .ok e.2 := by decide +kernel
set_option maxRecDepth 20000 in
theorem dtX7_hear_1 : ∀ e ∈ tX7_hear_1, decode cX7_hear e.1 = .ok e.2 := by decide +kernel
set_option maxRecDepth 20000 in
theorem dtX7_hear_2 : ∀ e ∈ tX7_hear_2, decode cX7_hear e.1 = .ok e.2 := by decide +kernel
set_option maxRecDepth 20000 in
theorem dtX7_hears_0 : ∀ e ∈ tX7_hears_0, decode cX7_hears e.1 = .ok e.2 := by decide +kernel
set_option maxRecDepth 20000 in
theorem dtX7_hears_1 : ∀ e ∈ tX7_hears_1, decode cX7_hears e.1 = .ok e.2 := by decide +kernel
set_option maxRecDepth 20000 in
theorem dtX7_odd_0 : ∀ e ∈ tX7_odd_0, decode cX7_odd e.1 = .ok e.2 := by decide +kernel
set_option maxRecDepth 20000 in
theorem dtX7_turnFrom_0 : ∀ e ∈ tX7_turnFrom_0, decode cX7_turnFrom e.1 = .ok e.2 := by decide +kernel
set_option maxRecDepth 20000 in
theorem dtX7_turnFrom_1 : ∀ e ∈ tX7_turnFrom_1, decode cX7_turnFrom e.1 = .ok e.2 := by decide +kernel
set_option maxRecDepth 20000 in
theorem dtX7_turnBy_0 : ∀ e ∈ tX7_turnBy_0, decode cX7_turnBy e.1 = .ok e.2 := by decide +kernel
set_option maxRecDepth 20000 in
theorem dtX7_turnBy_1 : ∀ e ∈ tX7_turnBy_1, decode cX7_turnBy e.1 = .ok e.2 := by decide +kernel
set_option maxRecDepth 20000 in
theorem dtX7_byTurns_0 : ∀ e ∈ tX7_byTurns_0, decode cX7_byTurns e.1 = .ok e.2 := by decide +kernel
