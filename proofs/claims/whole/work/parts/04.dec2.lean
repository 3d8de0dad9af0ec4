set_option maxRecDepth 20000 in
theorem dtX6_mend_0 : ∀ e ∈ tX6_mend_0, decode cX6_mend e.1 = .ok e.2 := by decide +kernel
set_option maxRecDepth 20000 in
theorem dtX6_of_0 : ∀ e ∈ tX6_of_0, decode cX6_of e.1 = .ok e.2 := by decide +kernel
set_option maxRecDepth 20000 in
theorem dtX6_feed_0 : ∀ e ∈ tX6_feed_0, decode cX6_feed e.1 = .ok e.2 := by decide +kernel
set_option maxRecDepth 20000 in
theorem dtX6_law_0 : ∀ e ∈ tX6_law_0, decode cX6_law e.1 = .ok e.2 := by decide +kernel
set_option maxRecDepth 20000 in
theorem dtX6_goes_0 : ∀ e ∈ tX6_goes_0, decode cX6_goes e.1 = .ok e.2 := by decide +kernel
set_option maxRecDepth 20000 in
theorem dtX6_later_0 : ∀ e ∈ tX6_later_0, decode cX6_later e.1 = .ok e.2 := by decide +kernel
set_option maxRecDepth 20000 in
theorem dtX6_later_1 : ∀ e ∈ tX6_later_1, decode cX6_later e.1 = .ok e.2 := by decide +kernel
set_option maxRecDepth 20000 in
theorem dtX6_river_0 : ∀ e ∈ tX6_river_0, decode cX6_river e.1 = .ok e.2 := by decide +kernel
set_option maxRecDepth 20000 in
theorem dtX6_over_0 : ∀ e ∈ tX6_over_0, decode cX6_over e.1 = .ok e.2 := by decide +kernel
set_option maxRecDepth 20000 in
theorem dtX6_over_1 : ∀ e ∈ tX6_over_1, decode cX6_over e.1 = .ok e.2 := by decide +kernel
set_option maxRecDepth 20000 in
theorem dtX6_signs_0 : ∀ e ∈ tX6_signs_0, decode cX6_signs e.1 = .ok e.2 := by decide +kernel
set_option maxRecDepth 20000 in
theorem dtX6_signs_1 : ∀ e ∈ tX6_signs_1, decode cX6_signs e.1 = .ok e.2 := by decide +kernel
set_option maxRecDepth 20000 in
theorem dtX6_signs_2 : ∀ e ∈ tX6_signs_2, decode cX6_signs e.1 = .ok e.2 := by decide +kernel
set_option maxRecDepth 20000 in
theorem dtX6_still_0 : ∀ e ∈ tX6_still_0, decode cX6_still e.1 = .ok e.2 := by decide +kernel
set_option maxRecDepth 20000 in
theorem dtX6_still_1 : ∀ e ∈ tX6_still_1, decode cX6_still e.1 = .ok e.2 := by decide +kernel
set_option maxRecDepth 20000 in
theorem dtX6_throwIn_0 : ∀ e ∈ tX6_throwIn_0, decode cX6_throwIn e.1 = .ok e.2 := by decide +kernel
set_option maxRecDepth 20000 in
theorem dtX6_throwIn_1 : ∀ e ∈ tX6_throwIn_1, decode cX6_throwIn e.1 = .ok e.2 := by decide +kernel
set_option maxRecDepth 20000 in
theorem dtX6_comesSafelyTo_0 : ∀ e ∈ tX6_comesSafelyTo_0, decode cX6_comesSafelyTo e.1 = .ok e.2 := by decide +kernel
set_option maxRecDepth 20000 in
theorem dtX6_bridges_0 : ∀ e ∈ tX6_bridges_0, decode cX6_bridges e.1 = .ok e.2 := by decide +kernel
set_option maxRecDepth 20000 in
theorem dtX6_bridges_1 : ∀ e ∈ tX6_bridges_1, decode cX6_bridges e.1 = .ok e.2 := by decide +kernel
set_option maxRecDepth 20000 in
theorem dtX6_bridges_2 : ∀ e ∈ tX6_bridges_2, decode cX6_bridges e.1 = .ok e.2 := by decide +kernel
set_option maxRecDepth 20000 in
theorem dtX6_thinkBridged_0 : ∀ e ∈ tX6_thinkBridged_0, decode cX6_thinkBridged e.1 = .ok e.2 := by decide +kernel
set_option maxRecDepth 20000 in
theorem dtX6_ring_0 : ∀ e ∈ tX6_ring_0, decode cX6_ring e.1 = .ok e.2 := by decide +kernel
set_option maxRecDepth 20000 in
theorem dtX6_ring_1 : ∀ e ∈ tX6_ring_1, decode cX6_ring e.1 = .ok e.2 := by decide +kernel
set_option maxRecDepth 20000 in
theorem dtX6_judge_0 : ∀ e ∈ tX6_judge_0, decode cX6_judge e.1 = .ok e.2 := by decide +kernel
set_option maxRecDepth 20000 in
theorem dtX6_firstUnlike_0 : ∀ e ∈ tX6_firstUnlike_0, decode cX6_firstUnlike e.1 = .ok e.2 := by decide +kernel
set_option maxRecDepth 20000 in
theorem dtX6_fits_0 : ∀ e ∈ tX6_fits_0, decode cX6_fits e.1 = .ok e.2 := by decide +kernel
set_option maxRecDepth 20000 in
theorem dtX6_fits_1 : ∀ e ∈ tX6_fits_1, decode cX6_fits e.1 = .ok e.2 := by decide +kernel
set_option maxRecDepth 20000 in
theorem dtX6_fits_2 : ∀ e ∈ tX6_fits_2, decode cX6_fits e.1 = .ok e.2 := by decide +kernel
set_option maxRecDepth 20000 in
theorem dtX6_hears_0 : ∀ e ∈ tX6_hears_0, decode cX6_hears e.1 = .ok e.2 := by decide +kernel
set_option maxRecDepth 20000 in
theorem dtX6_hears_1 : ∀ e ∈ tX6_hears_1, decode cX6_hears e.1 = .ok e.2 := by decide +kernel
set_option maxRecDepth 20000 in
theorem dtX6_odd_0 : ∀ e ∈ tX6_odd_0, decode cX6_odd e.1 = .ok e.2 := by decide +kernel
set_option maxRecDepth 20000 in
theorem dtX6_doublings_0 : ∀ e ∈ tX6_doublings_0, decode cX6_doublings e.1 = .ok e.2 := by decide +kernel
set_option maxRecDepth 20000 in
theorem dtX6_answersOf_0 : ∀ e ∈ tX6_answersOf_0, decode cX6_answersOf e.1 = .ok e.2 := by decide +kernel
set_option maxRecDepth 20000 in
theorem dtX6_answersOf_1 : ∀ e ∈ tX6_answersOf_1, decode cX6_answersOf e.1 = .ok e.2 := by decide +kernel
set_option maxRecDepth 20000 in
theorem dtX6_byTurns_0 : ∀ e ∈ tX6_byTurns_0, decode cX6_byTurns e.1 = .ok e.2 := by decide +kernel
set_option maxRecDepth 20000 in
theorem dtX6_byTurns_1 : ∀ e ∈ tX6_byTurns_1, decode cX6_byTurns e.1 = .ok e.2 := by decide +kernel
set_option maxRecDepth 20000 in
theorem dtX6_byTurns_2 : ∀ e ∈ tX6_byTurns_2, decode cX6_byTurns e.1 = .ok e.2 := by decide +kernel
set_option maxRecDepth 20000 in
theorem dtX6_played_0 : ∀ e ∈ tX6_played_0, decode cX6_played e.1 = .ok e.2 := by decide +kernel
set_option maxRecDepth 20000 in
theorem dtX6_played_1 : ∀ e ∈ tX6_played_1, decode cX6_played e.1 = .ok e.2 := by decide +kernel
set_option maxRecDepth 20000 in
theorem dtX6_differenceBehind_0 : ∀ e ∈ tX6_differenceBehind_0, decode cX6_differenceBehind e.1 = .ok e.2 := by decide +kernel
set_option maxRecDepth 20000 in
theorem dtX6_differenceBehind_1 : ∀ e ∈ tX6_differenceBehind_1, decode cX6_differenceBehind e.1 = .ok e.2 := by decide +kernel
set_option maxRecDepth 20000 in
theorem dtX6_handled_0 : ∀ e ∈ tX6_handled_0, decode cX6_handled e.1 = .ok e.2 := by decide +kernel
set_option maxRecDepth 20000 in
theorem dtX6_drawn_0 : ∀ e ∈ tX6_drawn_0, decode cX6_drawn e.1 = .ok e.2 := by decide +kernel
set_option maxRecDepth 20000 in
theorem dtX6_drawn_1 : ∀ e ∈ tX6_drawn_1, decode cX6_drawn e.1 = .ok e.2 := by decide +kernel
set_option maxRecDepth 20000 in
theorem dtX6_drawn_2 : ∀ e ∈ tX6_drawn_2, decode cX6_drawn e.1 = .ok e.2 := by decide +kernel
set_option maxRecDepth 20000 in
theorem dtX6_day_0 : ∀ e ∈ tX6_day_0, decode cX6_day e.1 = .ok e.2 := by decide +kernel
set_option maxRecDepth 20000 in
theorem dtX6_day_1 : ∀ e ∈ tX6_day_1, decode cX6_day e.1 = .ok e.2 := by decide +kernel
set_option maxRecDepth 20000 in
theorem dtX6_day_2 : ∀ e ∈ tX6_day_2, decode cX6_day e.1 = .ok e.2 := by decide +kernel
set_option maxRecDepth 20000 in
theorem dtX6_gift_0 : ∀ e ∈ tX6_gift_0, decode cX6_gift e.1 = .ok e.2 := by decide +kernel
set_option maxRecDepth 20000 in
theorem dtX6_gift_1 : ∀ e ∈ tX6_gift_1, decode cX6_gift e.1 = .ok e.2 := by decide +kernel
set_option maxRecDepth 20000 in
theorem dtX6_build_0 : ∀ e ∈ tX6_build_0, decode cX6_build e.1 = .ok e.2 := by decide +kernel
set_option maxRecDepth 20000 in
theorem dtX6_led_0 : ∀ e ∈ tX6_led_0, decode cX6_led e.1 = .ok e.2 := by decide +kernel
set_option maxRecDepth 20000 in
theorem dtX6_image_0 : ∀ e ∈ tX6_image_0, decode cX6_image e.1 = .ok e.2 := by decide +kernel
set_option maxRecDepth 20000 in
theorem dtX6_back_0 : ∀ e ∈ tX6_back_0, decode cX6_back e.1 = .ok e.2 := by decide +kernel
set_option maxRecDepth 20000 in
theorem dtX6_undo_0 : ∀ e ∈ tX6_undo_0, decode cX6_undo e.1 = .ok e.2 := by decide +kernel
set_option maxRecDepth 20000 in
theorem dtX6_redo_0 : ∀ e ∈ tX6_redo_0, decode cX6_redo e.1 = .ok e.2 := by decide +kernel
set_option maxRecDepth 20000 in
theorem dtX6_body_0 : ∀ e ∈ tX6_body_0, decode cX6_body e.1 = .ok e.2 := by decide +kernel
set_option maxRecDepth 20000 in
theorem dtX6_act_0 : ∀ e ∈ tX6_act_0, decode cX6_act e.1 = .ok e.2 := by decide +kernel
set_option maxRecDepth 20000 in
theorem dtX6_trace_0 : ∀ e ∈ tX6_trace_0, decode cX6_trace e.1 = .ok e.2 := by decide +kernel
set_option maxRecDepth 20000 in
theorem dtX6_keep_0 : ∀ e ∈ tX6_keep_0, decode cX6_keep e.1 = .ok e.2 := by decide +kernel
set_option maxRecDepth 20000 in
theorem dtX6_row_0 : ∀ e ∈ tX6_row_0, decode cX6_row e.1 = .ok e.2 := by decide +kernel
set_option maxRecDepth 20000 in
theorem dtX6_put_0 : ∀ e ∈ tX6_put_0, decode cX6_put e.1 = .ok e.2 := by decide +kernel
set_option maxRecDepth 20000 in
theorem dtX6_element_0 : ∀ e ∈ tX6_element_0, decode cX6_element e.1 = .ok e.2 := by decide +kernel
set_option maxRecDepth 20000 in
theorem dtX6_shift_0 : ∀ e ∈ tX6_shift_0, decode cX6_shift e.1 = .ok e.2 := by decide +kernel
set_option maxRecDepth 20000 in
theorem dtX6_shift_1 : ∀ e ∈ tX6_shift_1, decode cX6_shift e.1 = .ok e.2 := by decide +kernel
set_option maxRecDepth 20000 in
theorem dtX6_taken_0 : ∀ e ∈ tX6_taken_0, decode cX6_taken e.1 = .ok e.2 := by decide +kernel
set_option maxRecDepth 20000 in
theorem dtX6_taken_1 : ∀ e ∈ tX6_taken_1, decode cX6_taken e.1 = .ok e.2 := by decide +kernel
set_option maxRecDepth 20000 in
theorem dtX6_count_0 : ∀ e ∈ tX6_count_0, decode cX6_count e.1 = .ok e.2 := by decide +kernel
set_option maxRecDepth 20000 in
theorem dtX6_isReach_0 : ∀ e ∈ tX6_isReach_0, decode cX6_isReach e.1 = .ok e.2 := by decide +kernel
set_option maxRecDepth 20000 in
theorem dtX6_isShelf_0 : ∀ e ∈ tX6_isShelf_0, decode cX6_isShelf e.1 = .ok e.2 := by decide +kernel
set_option maxRecDepth 20000 in
theorem dtX6_think_0 : ∀ e ∈ tX6_think_0, decode cX6_think e.1 = .ok e.2 := by decide +kernel
set_option maxRecDepth 20000 in
theorem dtX6_signOf_0 : ∀ e ∈ tX6_signOf_0, decode cX6_signOf e.1 = .ok e.2 := by decide +kernel
set_option maxRecDepth 20000 in
theorem dtX6_within_0 : ∀ e ∈ tX6_within_0, decode cX6_within e.1 = .ok e.2 := by decide +kernel
set_option maxRecDepth 20000 in
theorem dtX7_init_0 : ∀ e ∈ tX7_init_0, decode cX7_init e.1 = .ok e.2 := by decide +kernel
set_option maxRecDepth 20000 in
theorem dtX7_init_1 : ∀ e ∈ tX7_init_1, decode cX7_init e.1 = .ok e.2 := by decide +kernel
set_option maxRecDepth 20000 in
theorem dtX7_init_2 : ∀ e ∈ tX7_init_2, decode cX7_init e.1 = .ok e.2 := by decide +kernel
set_option maxRecDepth 20000 in
theorem dtX7_init_3 : ∀ e ∈ tX7_init_3, decode cX7_init e.1 = .ok e.2 := by decide +kernel
set_option maxRecDepth 20000 in
theorem dtX7_within_0 : ∀ e ∈ tX7_within_0, decode cX7_within e.1 = .ok e.2 := by decide +kernel
set_option maxRecDepth 20000 in
theorem dtX7_isOne_0 : ∀ e ∈ tX7_isOne_0, decode cX7_isOne e.1 = .ok e.2 := by decide +kernel
set_option maxRecDepth 20000 in
theorem dtX7_isTime_0 : ∀ e ∈ tX7_isTime_0, decode cX7_isTime e.1 = .ok e.2 := by decide +kernel
set_option maxRecDepth 20000 in
theorem dtX7_isShelf_0 : ∀ e ∈ tX7_isShelf_0, decode cX7_isShelf e.1 = .ok e.2 := by decide +kernel
set_option maxRecDepth 20000 in
theorem dtX7_newOne_0 : ∀ e ∈ tX7_newOne_0, decode cX7_newOne e.1 = .ok e.2 := by decide +kernel
set_option maxRecDepth 20000 in
theorem dtX7_reach_0 : ∀ e ∈ tX7_reach_0, decode cX7_reach e.1 = .ok e.2 := by decide +kernel
set_option maxRecDepth 20000 in
theorem dtX7_reaches_0 : ∀ e ∈ tX7_reaches_0, decode cX7_reaches e.1 = .ok e.2 := by decide +kernel
set_option maxRecDepth 20000 in
theorem dtX7_reaches_1 : ∀ e ∈ tX7_reaches_1, decode cX7_reaches e.1 = .ok e.2 := by decide +kernel
set_option maxRecDepth 20000 in
theorem dtX7_reaches_2 : ∀ e ∈ tX7_reaches_2, decode cX7_reaches e.1 = .ok e.2 := by decide +kernel
set_option maxRecDepth 20000 in
theorem dtX7_toldAt_0 : ∀ e ∈ tX7_toldAt_0, decode cX7_toldAt e.1 = .ok e.2 := by decide +kernel
set_option maxRecDepth 20000 in
theorem dtX7_isOf_0 : ∀ e ∈ tX7_isOf_0, decode cX7_isOf e.1 = .ok e.2 := by decide +kernel
set_option maxRecDepth 20000 in
theorem dtX7_isFit_0 : ∀ e ∈ tX7_isFit_0, decode cX7_isFit e.1 = .ok e.2 := by decide +kernel
