set_option maxRecDepth 20000 in
theorem dtX0_init_0 : ∀ e ∈ tX0_init_0, decode cX0_init e.1 = .ok e.2 := by decide +kernel
set_option maxRecDepth 20000 in
theorem dtX0_add_0 : ∀ e ∈ tX0_add_0, decode cX0_add e.1 = .ok e.2 := by decide +kernel
set_option maxRecDepth 20000 in
theorem dtX0_add_1 : ∀ e ∈ tX0_add_1, decode cX0_add e.1 = .ok e.2 := by decide +kernel
set_option maxRecDepth 20000 in
theorem dtX0_forgetOldest_0 : ∀ e ∈ tX0_forgetOldest_0, decode cX0_forgetOldest e.1 = .ok e.2 := by decide +kernel
set_option maxRecDepth 20000 in
theorem dtX0_unmake_0 : ∀ e ∈ tX0_unmake_0, decode cX0_unmake e.1 = .ok e.2 := by decide +kernel
set_option maxRecDepth 20000 in
theorem dtX0_makeAgain_0 : ∀ e ∈ tX0_makeAgain_0, decode cX0_makeAgain e.1 = .ok e.2 := by decide +kernel
set_option maxRecDepth 20000 in
theorem dtX1_init_0 : ∀ e ∈ tX1_init_0, decode cX1_init e.1 = .ok e.2 := by decide +kernel
set_option maxRecDepth 20000 in
theorem dtX1_clear_0 : ∀ e ∈ tX1_clear_0, decode cX1_clear e.1 = .ok e.2 := by decide +kernel
set_option maxRecDepth 20000 in
theorem dtX1_add_0 : ∀ e ∈ tX1_add_0, decode cX1_add e.1 = .ok e.2 := by decide +kernel
set_option maxRecDepth 20000 in
theorem dtX1_outOf_0 : ∀ e ∈ tX1_outOf_0, decode cX1_outOf e.1 = .ok e.2 := by decide +kernel
set_option maxRecDepth 20000 in
theorem dtX1_withoutText_0 : ∀ e ∈ tX1_withoutText_0, decode cX1_withoutText e.1 = .ok e.2 := by decide +kernel
set_option maxRecDepth 20000 in
theorem dtX1_workedOut_0 : ∀ e ∈ tX1_workedOut_0, decode cX1_workedOut e.1 = .ok e.2 := by decide +kernel
set_option maxRecDepth 20000 in
theorem dtX1_workedOut_1 : ∀ e ∈ tX1_workedOut_1, decode cX1_workedOut e.1 = .ok e.2 := by decide +kernel
set_option maxRecDepth 20000 in
theorem dtX1_workedOut_2 : ∀ e ∈ tX1_workedOut_2, decode cX1_workedOut e.1 = .ok e.2 := by decide +kernel
set_option maxRecDepth 20000 in
theorem dtX1_workedOut_3 : ∀ e ∈ tX1_workedOut_3, decode cX1_workedOut e.1 = .ok e.2 := by decide +kernel
set_option maxRecDepth 20000 in
theorem dtX1_isName_0 : ∀ e ∈ tX1_isName_0, decode cX1_isName e.1 = .ok e.2 := by decide +kernel
set_option maxRecDepth 20000 in
theorem dtX1_named_0 : ∀ e ∈ tX1_named_0, decode cX1_named e.1 = .ok e.2 := by decide +kernel
set_option maxRecDepth 20000 in
theorem dtX1_named_1 : ∀ e ∈ tX1_named_1, decode cX1_named e.1 = .ok e.2 := by decide +kernel
set_option maxRecDepth 20000 in
theorem dtX1_joined_0 : ∀ e ∈ tX1_joined_0, decode cX1_joined e.1 = .ok e.2 := by decide +kernel
set_option maxRecDepth 20000 in
theorem dtX1_joined_1 : ∀ e ∈ tX1_joined_1, decode cX1_joined e.1 = .ok e.2 := by decide +kernel
set_option maxRecDepth 20000 in
theorem dtX2_init_0 : ∀ e ∈ tX2_init_0, decode cX2_init e.1 = .ok e.2 := by decide +kernel
set_option maxRecDepth 20000 in
theorem dtX2_takes_0 : ∀ e ∈ tX2_takes_0, decode cX2_takes e.1 = .ok e.2 := by decide +kernel
set_option maxRecDepth 20000 in
theorem dtX2_clear_0 : ∀ e ∈ tX2_clear_0, decode cX2_clear e.1 = .ok e.2 := by decide +kernel
set_option maxRecDepth 20000 in
theorem dtX2_read_0 : ∀ e ∈ tX2_read_0, decode cX2_read e.1 = .ok e.2 := by decide +kernel
set_option maxRecDepth 20000 in
theorem dtX2_handOver_0 : ∀ e ∈ tX2_handOver_0, decode cX2_handOver e.1 = .ok e.2 := by decide +kernel
set_option maxRecDepth 20000 in
theorem dtX2_next_0 : ∀ e ∈ tX2_next_0, decode cX2_next e.1 = .ok e.2 := by decide +kernel
set_option maxRecDepth 20000 in
theorem dtX2_passes_0 : ∀ e ∈ tX2_passes_0, decode cX2_passes e.1 = .ok e.2 := by decide +kernel
set_option maxRecDepth 20000 in
theorem dtX2_lines_0 : ∀ e ∈ tX2_lines_0, decode cX2_lines e.1 = .ok e.2 := by decide +kernel
set_option maxRecDepth 20000 in
theorem dtX2_line_0 : ∀ e ∈ tX2_line_0, decode cX2_line e.1 = .ok e.2 := by decide +kernel
set_option maxRecDepth 20000 in
theorem dtX2_either_0 : ∀ e ∈ tX2_either_0, decode cX2_either e.1 = .ok e.2 := by decide +kernel
set_option maxRecDepth 20000 in
theorem dtX2_both_0 : ∀ e ∈ tX2_both_0, decode cX2_both e.1 = .ok e.2 := by decide +kernel
set_option maxRecDepth 20000 in
theorem dtX2_compared_0 : ∀ e ∈ tX2_compared_0, decode cX2_compared e.1 = .ok e.2 := by decide +kernel
set_option maxRecDepth 20000 in
theorem dtX2_sum_0 : ∀ e ∈ tX2_sum_0, decode cX2_sum e.1 = .ok e.2 := by decide +kernel
set_option maxRecDepth 20000 in
theorem dtX2_sum_1 : ∀ e ∈ tX2_sum_1, decode cX2_sum e.1 = .ok e.2 := by decide +kernel
set_option maxRecDepth 20000 in
theorem dtX2_product_0 : ∀ e ∈ tX2_product_0, decode cX2_product e.1 = .ok e.2 := by decide +kernel
set_option maxRecDepth 20000 in
theorem dtX2_product_1 : ∀ e ∈ tX2_product_1, decode cX2_product e.1 = .ok e.2 := by decide +kernel
set_option maxRecDepth 20000 in
theorem dtX2_operand_0 : ∀ e ∈ tX2_operand_0, decode cX2_operand e.1 = .ok e.2 := by decide +kernel
set_option maxRecDepth 20000 in
theorem dtX2_operand_1 : ∀ e ∈ tX2_operand_1, decode cX2_operand e.1 = .ok e.2 := by decide +kernel
set_option maxRecDepth 20000 in
theorem dtX2_number_0 : ∀ e ∈ tX2_number_0, decode cX2_number e.1 = .ok e.2 := by decide +kernel
set_option maxRecDepth 20000 in
theorem dtX2_isDigit_0 : ∀ e ∈ tX2_isDigit_0, decode cX2_isDigit e.1 = .ok e.2 := by decide +kernel
set_option maxRecDepth 20000 in
theorem dtX3_init_0 : ∀ e ∈ tX3_init_0, decode cX3_init e.1 = .ok e.2 := by decide +kernel
set_option maxRecDepth 20000 in
theorem dtX3_fitsIn_0 : ∀ e ∈ tX3_fitsIn_0, decode cX3_fitsIn e.1 = .ok e.2 := by decide +kernel
set_option maxRecDepth 20000 in
theorem dtX3_most_0 : ∀ e ∈ tX3_most_0, decode cX3_most e.1 = .ok e.2 := by decide +kernel
set_option maxRecDepth 20000 in
theorem dtX3_isFull_0 : ∀ e ∈ tX3_isFull_0, decode cX3_isFull e.1 = .ok e.2 := by decide +kernel
set_option maxRecDepth 20000 in
theorem dtX3_lengthen_0 : ∀ e ∈ tX3_lengthen_0, decode cX3_lengthen e.1 = .ok e.2 := by decide +kernel
set_option maxRecDepth 20000 in
theorem dtX3_has_0 : ∀ e ∈ tX3_has_0, decode cX3_has e.1 = .ok e.2 := by decide +kernel
set_option maxRecDepth 20000 in
theorem dtX3_numberOf_0 : ∀ e ∈ tX3_numberOf_0, decode cX3_numberOf e.1 = .ok e.2 := by decide +kernel
set_option maxRecDepth 20000 in
theorem dtX3_become_0 : ∀ e ∈ tX3_become_0, decode cX3_become e.1 = .ok e.2 := by decide +kernel
set_option maxRecDepth 20000 in
theorem dtX3_numbers_0 : ∀ e ∈ tX3_numbers_0, decode cX3_numbers e.1 = .ok e.2 := by decide +kernel
set_option maxRecDepth 20000 in
theorem dtX3_take_0 : ∀ e ∈ tX3_take_0, decode cX3_take e.1 = .ok e.2 := by decide +kernel
set_option maxRecDepth 20000 in
theorem dtX3_takeWhatDeedsChange_0 : ∀ e ∈ tX3_takeWhatDeedsChange_0, decode cX3_takeWhatDeedsChange e.1 = .ok e.2 := by decide +kernel
set_option maxRecDepth 20000 in
theorem dtX3_pass_0 : ∀ e ∈ tX3_pass_0, decode cX3_pass e.1 = .ok e.2 := by decide +kernel
set_option maxRecDepth 20000 in
theorem dtX3_pass_1 : ∀ e ∈ tX3_pass_1, decode cX3_pass e.1 = .ok e.2 := by decide +kernel
set_option maxRecDepth 20000 in
theorem dtX3_overBits_0 : ∀ e ∈ tX3_overBits_0, decode cX3_overBits e.1 = .ok e.2 := by decide +kernel
set_option maxRecDepth 20000 in
theorem dtX3_levelOfAll_0 : ∀ e ∈ tX3_levelOfAll_0, decode cX3_levelOfAll e.1 = .ok e.2 := by decide +kernel
set_option maxRecDepth 20000 in
theorem dtX3_levelsTogether_0 : ∀ e ∈ tX3_levelsTogether_0, decode cX3_levelsTogether e.1 = .ok e.2 := by decide +kernel
set_option maxRecDepth 20000 in
theorem dtX4_init_0 : ∀ e ∈ tX4_init_0, decode cX4_init e.1 = .ok e.2 := by decide +kernel
set_option maxRecDepth 20000 in
theorem dtX4_isBare_0 : ∀ e ∈ tX4_isBare_0, decode cX4_isBare e.1 = .ok e.2 := by decide +kernel
set_option maxRecDepth 20000 in
theorem dtX4_isRow_0 : ∀ e ∈ tX4_isRow_0, decode cX4_isRow e.1 = .ok e.2 := by decide +kernel
set_option maxRecDepth 20000 in
theorem dtX4_isBytes_0 : ∀ e ∈ tX4_isBytes_0, decode cX4_isBytes e.1 = .ok e.2 := by decide +kernel
set_option maxRecDepth 20000 in
theorem dtX4_holdNothing_0 : ∀ e ∈ tX4_holdNothing_0, decode cX4_holdNothing e.1 = .ok e.2 := by decide +kernel
set_option maxRecDepth 20000 in
theorem dtX4_holdStep_0 : ∀ e ∈ tX4_holdStep_0, decode cX4_holdStep e.1 = .ok e.2 := by decide +kernel
set_option maxRecDepth 20000 in
theorem dtX4_holdRow_0 : ∀ e ∈ tX4_holdRow_0, decode cX4_holdRow e.1 = .ok e.2 := by decide +kernel
set_option maxRecDepth 20000 in
theorem dtX4_hasPlaces_0 : ∀ e ∈ tX4_hasPlaces_0, decode cX4_hasPlaces e.1 = .ok e.2 := by decide +kernel
set_option maxRecDepth 20000 in
theorem dtX4_small_0 : ∀ e ∈ tX4_small_0, decode cX4_small e.1 = .ok e.2 := by decide +kernel
set_option maxRecDepth 20000 in
theorem dtX4_cut_0 : ∀ e ∈ tX4_cut_0, decode cX4_cut e.1 = .ok e.2 := by decide +kernel
set_option maxRecDepth 20000 in
theorem dtX5_init_0 : ∀ e ∈ tX5_init_0, decode cX5_init e.1 = .ok e.2 := by decide +kernel
set_option maxRecDepth 20000 in
theorem dtX5_isKind_0 : ∀ e ∈ tX5_isKind_0, decode cX5_isKind e.1 = .ok e.2 := by decide +kernel
set_option maxRecDepth 20000 in
theorem dtX5_isAct_0 : ∀ e ∈ tX5_isAct_0, decode cX5_isAct e.1 = .ok e.2 := by decide +kernel
set_option maxRecDepth 20000 in
theorem dtX5_isUnder_0 : ∀ e ∈ tX5_isUnder_0, decode cX5_isUnder e.1 = .ok e.2 := by decide +kernel
set_option maxRecDepth 20000 in
theorem dtX5_isFull_0 : ∀ e ∈ tX5_isFull_0, decode cX5_isFull e.1 = .ok e.2 := by decide +kernel
set_option maxRecDepth 20000 in
theorem dtX5_has_0 : ∀ e ∈ tX5_has_0, decode cX5_has e.1 = .ok e.2 := by decide +kernel
set_option maxRecDepth 20000 in
theorem dtX5_add_0 : ∀ e ∈ tX5_add_0, decode cX5_add e.1 = .ok e.2 := by decide +kernel
set_option maxRecDepth 20000 in
theorem dtX5_kindOf_0 : ∀ e ∈ tX5_kindOf_0, decode cX5_kindOf e.1 = .ok e.2 := by decide +kernel
set_option maxRecDepth 20000 in
theorem dtX5_traced_0 : ∀ e ∈ tX5_traced_0, decode cX5_traced e.1 = .ok e.2 := by decide +kernel
set_option maxRecDepth 20000 in
theorem dtX5_begin_0 : ∀ e ∈ tX5_begin_0, decode cX5_begin e.1 = .ok e.2 := by decide +kernel
set_option maxRecDepth 20000 in
theorem dtX5_perform_0 : ∀ e ∈ tX5_perform_0, decode cX5_perform e.1 = .ok e.2 := by decide +kernel
set_option maxRecDepth 20000 in
theorem dtX5_perform_1 : ∀ e ∈ tX5_perform_1, decode cX5_perform e.1 = .ok e.2 := by decide +kernel
set_option maxRecDepth 20000 in
theorem dtX5_note_0 : ∀ e ∈ tX5_note_0, decode cX5_note e.1 = .ok e.2 := by decide +kernel
set_option maxRecDepth 20000 in
theorem dtX5_run_0 : ∀ e ∈ tX5_run_0, decode cX5_run e.1 = .ok e.2 := by decide +kernel
set_option maxRecDepth 20000 in
theorem dtX5_run_1 : ∀ e ∈ tX5_run_1, decode cX5_run e.1 = .ok e.2 := by decide +kernel
set_option maxRecDepth 20000 in
theorem dtX5_run_2 : ∀ e ∈ tX5_run_2, decode cX5_run e.1 = .ok e.2 := by decide +kernel
set_option maxRecDepth 20000 in
theorem dtX5_run_3 : ∀ e ∈ tX5_run_3, decode cX5_run e.1 = .ok e.2 := by decide +kernel
set_option maxRecDepth 20000 in
theorem dtX6_init_0 : ∀ e ∈ tX6_init_0, decode cX6_init e.1 = .ok e.2 := by decide +kernel
set_option maxRecDepth 20000 in
theorem dtX6_init_1 : ∀ e ∈ tX6_init_1, decode cX6_init e.1 = .ok e.2 := by decide +kernel
set_option maxRecDepth 20000 in
theorem dtX6_reach_0 : ∀ e ∈ tX6_reach_0, decode cX6_reach e.1 = .ok e.2 := by decide +kernel
set_option maxRecDepth 20000 in
theorem dtX6_reaches_0 : ∀ e ∈ tX6_reaches_0, decode cX6_reaches e.1 = .ok e.2 := by decide +kernel
set_option maxRecDepth 20000 in
theorem dtX6_reaches_1 : ∀ e ∈ tX6_reaches_1, decode cX6_reaches e.1 = .ok e.2 := by decide +kernel
set_option maxRecDepth 20000 in
theorem dtX6_reachComesFrom_0 : ∀ e ∈ tX6_reachComesFrom_0, decode cX6_reachComesFrom e.1 = .ok e.2 := by decide +kernel
set_option maxRecDepth 20000 in
theorem dtX6_reachComesFrom_1 : ∀ e ∈ tX6_reachComesFrom_1, decode cX6_reachComesFrom e.1 = .ok e.2 := by decide +kernel
