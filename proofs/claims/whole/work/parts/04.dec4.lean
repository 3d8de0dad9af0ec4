set_option maxRecDepth 20000 in
theorem dtX7_byTurns_1 : ∀ e ∈ tX7_byTurns_1, decode cX7_byTurns e.1 = .ok e.2 := by decide +kernel
set_option maxRecDepth 20000 in
theorem dtX7_byTurns_2 : ∀ e ∈ tX7_byTurns_2, decode cX7_byTurns e.1 = .ok e.2 := by decide +kernel
set_option maxRecDepth 20000 in
theorem dtX7_drawn_0 : ∀ e ∈ tX7_drawn_0, decode cX7_drawn e.1 = .ok e.2 := by decide +kernel
set_option maxRecDepth 20000 in
theorem dtX7_drawn_1 : ∀ e ∈ tX7_drawn_1, decode cX7_drawn e.1 = .ok e.2 := by decide +kernel
set_option maxRecDepth 20000 in
theorem dtX7_drawn_2 : ∀ e ∈ tX7_drawn_2, decode cX7_drawn e.1 = .ok e.2 := by decide +kernel
set_option maxRecDepth 20000 in
theorem dtX7_drawn_3 : ∀ e ∈ tX7_drawn_3, decode cX7_drawn e.1 = .ok e.2 := by decide +kernel
set_option maxRecDepth 20000 in
theorem dtX7_day_0 : ∀ e ∈ tX7_day_0, decode cX7_day e.1 = .ok e.2 := by decide +kernel
set_option maxRecDepth 20000 in
theorem dtX7_day_1 : ∀ e ∈ tX7_day_1, decode cX7_day e.1 = .ok e.2 := by decide +kernel
set_option maxRecDepth 20000 in
theorem dtX7_gift_0 : ∀ e ∈ tX7_gift_0, decode cX7_gift e.1 = .ok e.2 := by decide +kernel
set_option maxRecDepth 20000 in
theorem dtX7_gift_1 : ∀ e ∈ tX7_gift_1, decode cX7_gift e.1 = .ok e.2 := by decide +kernel
set_option maxRecDepth 20000 in
theorem dtX7_build_0 : ∀ e ∈ tX7_build_0, decode cX7_build e.1 = .ok e.2 := by decide +kernel
set_option maxRecDepth 20000 in
theorem dtX7_led_0 : ∀ e ∈ tX7_led_0, decode cX7_led e.1 = .ok e.2 := by decide +kernel
set_option maxRecDepth 20000 in
theorem dtX7_image_0 : ∀ e ∈ tX7_image_0, decode cX7_image e.1 = .ok e.2 := by decide +kernel
set_option maxRecDepth 20000 in
theorem dtX7_back_0 : ∀ e ∈ tX7_back_0, decode cX7_back e.1 = .ok e.2 := by decide +kernel
set_option maxRecDepth 20000 in
theorem dtX7_above_0 : ∀ e ∈ tX7_above_0, decode cX7_above e.1 = .ok e.2 := by decide +kernel
set_option maxRecDepth 20000 in
theorem dtX7_ran_0 : ∀ e ∈ tX7_ran_0, decode cX7_ran e.1 = .ok e.2 := by decide +kernel
set_option maxRecDepth 20000 in
theorem dtX7_flowsBy_0 : ∀ e ∈ tX7_flowsBy_0, decode cX7_flowsBy e.1 = .ok e.2 := by decide +kernel
set_option maxRecDepth 20000 in
theorem dtX7_saysBy_0 : ∀ e ∈ tX7_saysBy_0, decode cX7_saysBy e.1 = .ok e.2 := by decide +kernel
set_option maxRecDepth 20000 in
theorem dtX7_saysBy_1 : ∀ e ∈ tX7_saysBy_1, decode cX7_saysBy e.1 = .ok e.2 := by decide +kernel
set_option maxRecDepth 20000 in
theorem dtX7_floodsBy_0 : ∀ e ∈ tX7_floodsBy_0, decode cX7_floodsBy e.1 = .ok e.2 := by decide +kernel
set_option maxRecDepth 20000 in
theorem dtX7_floodsBy_1 : ∀ e ∈ tX7_floodsBy_1, decode cX7_floodsBy e.1 = .ok e.2 := by decide +kernel
set_option maxRecDepth 20000 in
theorem dtX7_tells_0 : ∀ e ∈ tX7_tells_0, decode cX7_tells e.1 = .ok e.2 := by decide +kernel
set_option maxRecDepth 20000 in
theorem dtX7_tells_1 : ∀ e ∈ tX7_tells_1, decode cX7_tells e.1 = .ok e.2 := by decide +kernel
set_option maxRecDepth 20000 in
theorem dtX7_body_0 : ∀ e ∈ tX7_body_0, decode cX7_body e.1 = .ok e.2 := by decide +kernel
set_option maxRecDepth 20000 in
theorem dtX7_act_0 : ∀ e ∈ tX7_act_0, decode cX7_act e.1 = .ok e.2 := by decide +kernel
set_option maxRecDepth 20000 in
theorem dtX7_act_1 : ∀ e ∈ tX7_act_1, decode cX7_act e.1 = .ok e.2 := by decide +kernel
set_option maxRecDepth 20000 in
theorem dtX7_trace_0 : ∀ e ∈ tX7_trace_0, decode cX7_trace e.1 = .ok e.2 := by decide +kernel
set_option maxRecDepth 20000 in
theorem dtX7_keep_0 : ∀ e ∈ tX7_keep_0, decode cX7_keep e.1 = .ok e.2 := by decide +kernel
set_option maxRecDepth 20000 in
theorem dtX7_row_0 : ∀ e ∈ tX7_row_0, decode cX7_row e.1 = .ok e.2 := by decide +kernel
set_option maxRecDepth 20000 in
theorem dtX7_row_1 : ∀ e ∈ tX7_row_1, decode cX7_row e.1 = .ok e.2 := by decide +kernel
set_option maxRecDepth 20000 in
theorem dtX7_isRow_0 : ∀ e ∈ tX7_isRow_0, decode cX7_isRow e.1 = .ok e.2 := by decide +kernel
set_option maxRecDepth 20000 in
theorem dtX7_kept_0 : ∀ e ∈ tX7_kept_0, decode cX7_kept e.1 = .ok e.2 := by decide +kernel
set_option maxRecDepth 20000 in
theorem dtX7_put_0 : ∀ e ∈ tX7_put_0, decode cX7_put e.1 = .ok e.2 := by decide +kernel
set_option maxRecDepth 20000 in
theorem dtX7_put_1 : ∀ e ∈ tX7_put_1, decode cX7_put e.1 = .ok e.2 := by decide +kernel
set_option maxRecDepth 20000 in
theorem dtX7_element_0 : ∀ e ∈ tX7_element_0, decode cX7_element e.1 = .ok e.2 := by decide +kernel
set_option maxRecDepth 20000 in
theorem dtX7_shift_0 : ∀ e ∈ tX7_shift_0, decode cX7_shift e.1 = .ok e.2 := by decide +kernel
set_option maxRecDepth 20000 in
theorem dtX7_shift_1 : ∀ e ∈ tX7_shift_1, decode cX7_shift e.1 = .ok e.2 := by decide +kernel
set_option maxRecDepth 20000 in
theorem dtX7_shift_2 : ∀ e ∈ tX7_shift_2, decode cX7_shift e.1 = .ok e.2 := by decide +kernel
set_option maxRecDepth 20000 in
theorem dtX7_shift_3 : ∀ e ∈ tX7_shift_3, decode cX7_shift e.1 = .ok e.2 := by decide +kernel
set_option maxRecDepth 20000 in
theorem dtX7_taken_0 : ∀ e ∈ tX7_taken_0, decode cX7_taken e.1 = .ok e.2 := by decide +kernel
set_option maxRecDepth 20000 in
theorem dtX7_taken_1 : ∀ e ∈ tX7_taken_1, decode cX7_taken e.1 = .ok e.2 := by decide +kernel
set_option maxRecDepth 20000 in
theorem dtX7_count_0 : ∀ e ∈ tX7_count_0, decode cX7_count e.1 = .ok e.2 := by decide +kernel
set_option maxRecDepth 20000 in
theorem dtJ6_numberOfTrailingZeros_0f7a4_0 : ∀ e ∈ tJ6_numberOfTrailingZeros_0f7a4_0, decode cJ6_numberOfTrailingZeros_0f7a4 e.1 = .ok e.2 := by decide +kernel
set_option maxRecDepth 20000 in
theorem dtJ6_numberOfTrailingZeros_0f7a4_1 : ∀ e ∈ tJ6_numberOfTrailingZeros_0f7a4_1, decode cJ6_numberOfTrailingZeros_0f7a4 e.1 = .ok e.2 := by decide +kernel
set_option maxRecDepth 20000 in
theorem dtJ6_bitCount_0f7a4_0 : ∀ e ∈ tJ6_bitCount_0f7a4_0, decode cJ6_bitCount_0f7a4 e.1 = .ok e.2 := by decide +kernel
set_option maxRecDepth 20000 in
theorem dtJ6_bitCount_0f7a4_1 : ∀ e ∈ tJ6_bitCount_0f7a4_1, decode cJ6_bitCount_0f7a4 e.1 = .ok e.2 := by decide +kernel
set_option maxRecDepth 20000 in
theorem dtL_law_0 : ∀ e ∈ tL_law_0, decode cL_law e.1 = .ok e.2 := by decide +kernel
set_option maxRecDepth 20000 in
theorem dtL_law_1 : ∀ e ∈ tL_law_1, decode cL_law e.1 = .ok e.2 := by decide +kernel
set_option maxRecDepth 20000 in
theorem dtL_law_2 : ∀ e ∈ tL_law_2, decode cL_law e.1 = .ok e.2 := by decide +kernel
set_option maxRecDepth 20000 in
theorem dtL_law_3 : ∀ e ∈ tL_law_3, decode cL_law e.1 = .ok e.2 := by decide +kernel
set_option maxRecDepth 20000 in
theorem dtL_law_4 : ∀ e ∈ tL_law_4, decode cL_law e.1 = .ok e.2 := by decide +kernel
set_option maxRecDepth 20000 in
theorem dtL_law_5 : ∀ e ∈ tL_law_5, decode cL_law e.1 = .ok e.2 := by decide +kernel
set_option maxRecDepth 20000 in
theorem dtL_law_6 : ∀ e ∈ tL_law_6, decode cL_law e.1 = .ok e.2 := by decide +kernel
set_option maxRecDepth 20000 in
theorem dtL_law_7 : ∀ e ∈ tL_law_7, decode cL_law e.1 = .ok e.2 := by decide +kernel
set_option maxRecDepth 20000 in
theorem dtL_law_8 : ∀ e ∈ tL_law_8, decode cL_law e.1 = .ok e.2 := by decide +kernel
set_option maxRecDepth 20000 in
theorem dtL_law_9 : ∀ e ∈ tL_law_9, decode cL_law e.1 = .ok e.2 := by decide +kernel
set_option maxRecDepth 20000 in
theorem dtL_law_10 : ∀ e ∈ tL_law_10, decode cL_law e.1 = .ok e.2 := by decide +kernel
set_option maxRecDepth 20000 in
theorem dtL_law_11 : ∀ e ∈ tL_law_11, decode cL_law e.1 = .ok e.2 := by decide +kernel
set_option maxRecDepth 20000 in
theorem dtL_law_12 : ∀ e ∈ tL_law_12, decode cL_law e.1 = .ok e.2 := by decide +kernel
set_option maxRecDepth 20000 in
theorem dtL_law_13 : ∀ e ∈ tL_law_13, decode cL_law e.1 = .ok e.2 := by decide +kernel
set_option maxRecDepth 20000 in
theorem dtL_law_14 : ∀ e ∈ tL_law_14, decode cL_law e.1 = .ok e.2 := by decide +kernel
set_option maxRecDepth 20000 in
theorem dtL_law_15 : ∀ e ∈ tL_law_15, decode cL_law e.1 = .ok e.2 := by decide +kernel
set_option maxRecDepth 20000 in
theorem dtL_law_16 : ∀ e ∈ tL_law_16, decode cL_law e.1 = .ok e.2 := by decide +kernel
set_option maxRecDepth 20000 in
theorem dtL_law_17 : ∀ e ∈ tL_law_17, decode cL_law e.1 = .ok e.2 := by decide +kernel
set_option maxRecDepth 20000 in
theorem dtL_law_18 : ∀ e ∈ tL_law_18, decode cL_law e.1 = .ok e.2 := by decide +kernel
set_option maxRecDepth 20000 in
theorem dtL_law_19 : ∀ e ∈ tL_law_19, decode cL_law e.1 = .ok e.2 := by decide +kernel
set_option maxRecDepth 20000 in
theorem dtL_law_20 : ∀ e ∈ tL_law_20, decode cL_law e.1 = .ok e.2 := by decide +kernel
set_option maxRecDepth 20000 in
theorem dtL_law_21 : ∀ e ∈ tL_law_21, decode cL_law e.1 = .ok e.2 := by decide +kernel
set_option maxRecDepth 20000 in
theorem dtL_law_22 : ∀ e ∈ tL_law_22, decode cL_law e.1 = .ok e.2 := by decide +kernel
set_option maxRecDepth 20000 in
theorem dtL_law_23 : ∀ e ∈ tL_law_23, decode cL_law e.1 = .ok e.2 := by decide +kernel
set_option maxRecDepth 20000 in
theorem dtL_law_24 : ∀ e ∈ tL_law_24, decode cL_law e.1 = .ok e.2 := by decide +kernel
set_option maxRecDepth 20000 in
theorem dtL_law_25 : ∀ e ∈ tL_law_25, decode cL_law e.1 = .ok e.2 := by decide +kernel
