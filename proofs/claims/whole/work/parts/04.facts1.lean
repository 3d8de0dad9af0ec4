/-! FACTS: every entry of the tables has its words -/
def okF (own : String) (e : Nat × Nat × Nat) : Prop := ∃ r : vw_C, vwCl[e.2.1]? = some r ∧ e.2.2 < r.2.2 ∧ Cond.fieldLink own e.1 (r.2.1 e.2.2).1 (r.2.1 e.2.2).2.1 (r.2.1 e.2.2).2.2.1 ∈ lw_tbl
def stC (j : Nat) : String := match j with
  | 0 => RX3
  | 1 => RX3
  | _ => RX5
def stN (j : Nat) : String := match j with
  | 0 => "LEAST_OF"
  | 1 => "MOST_OF"
  | 2 => "ABOVE"
  | _ => "OWN"
def okS (own : String) (e : Nat × Nat) : Prop := e.2 < 4 ∧ Cond.fieldLink own e.1 (stC e.2) (stN e.2) "[I" ∈ lw_tbl
def okKI (own : String) (e : Nat × Int32) : Prop := Cond.constant own e.1 e.2 ∈ lw_tbl
def okKL (own : String) (e : Nat × Int64) : Prop := Cond.constantLong own e.1 e.2 ∈ lw_tbl
def okN (own : String) (e : Nat × Nat) : Prop := ∃ r : vw_C, vwCl[e.2]? = some r ∧ Cond.classLink own e.1 r.1 ∈ lw_tbl ∧ Cond.instantiable r.1 r.2.2 ∈ lw_tbl ∧ Cond.initialized r.1 ∈ lw_tbl
def okO (own : String) (e : Nat) : Prop := Cond.methodLink own e Lib.objectInit ∈ lw_tbl
def okY (own : String) (e : Nat) : Prop := Cond.methodLink own e arraycopyName ∈ lw_tbl
def okX (own : String) (e : Nat) : Prop := Cond.methodLink own e Lib.Math.max.name ∈ lw_tbl
def okI (own : String) (e : Nat) : Prop := Cond.methodLink own e Lib.Math.min.name ∈ lw_tbl
def okM (M : rM) : Prop := plainName M.2.1.cls = true ∧ M.2.1.cls = rNm M.1 ∧ (∀ e ∈ M.2.2.2.2.2.2, decode M.2.2.1 e.1 = .ok e.2) ∧ (∀ e ∈ M.2.2.2.2.2.2, rLq e.2.1 e.2.2 = true) ∧ M.2.2.2.1 ≤ 12
def okMc (M : rM) : Prop := okM M ∧ Cond.code M.2.1 M.2.2.1 M.2.2.2.1 M.2.2.2.2.1 ∈ lw_tbl ∧ Cond.initialized M.2.1.cls ∈ lw_tbl ∧ (M.2.1.cls ≠ "java/lang/invoke/MethodHandle" ∧ M.2.1.cls ≠ "java/lang/invoke/VarHandle")
def okC (own : String) (e : Nat × Nat × rM) : Prop := okMc e.2.2 ∧
  (e.2.1 = 0 → Cond.methodLink own e.1 e.2.2.2.1 ∈ lw_tbl ∧ Cond.instanceMethod e.2.2.2.1 ∈ lw_tbl ∧ Cond.selects e.2.2.2.1.cls e.2.2.2.1 e.2.2.2.1 ∈ lw_tbl ∧ (parseMethodDescriptor e.2.2.2.1.desc).map (fun d => d.parameters.length + 1) = some e.2.2.2.2.2.2.2.1 ∧ ∃ r : vw_C, vwCl[e.2.2.1]? = some r ∧ r.1 = e.2.2.2.1.cls) ∧
  (e.2.1 = 1 → Cond.methodLink own e.1 e.2.2.2.1 ∈ lw_tbl ∧ Cond.static e.2.2.2.1 ∈ lw_tbl ∧ (parseMethodDescriptor e.2.2.2.1.desc).map (fun d => d.parameters.length) = some e.2.2.2.2.2.2.2.1) ∧
  (e.2.1 = 2 → Cond.methodLinkNest own e.1 e.2.2.2.1 RX6 ∈ lw_tbl ∧ Cond.static e.2.2.2.1 ∈ lw_tbl ∧ (parseMethodDescriptor e.2.2.2.1.desc).map (fun d => d.parameters.length) = some e.2.2.2.2.2.2.2.1) ∧
  (e.2.1 = 3 → Cond.methodLink own e.1 e.2.2.2.1 ∈ lw_tbl ∧ Cond.instanceMethod e.2.2.2.1 ∈ lw_tbl ∧ e.2.2.2.1.name = "<init>" ∧ e.2.2.2.2.2.2.1 = none ∧ (parseMethodDescriptor e.2.2.2.1.desc).map (fun d => d.parameters.length + 1) = some e.2.2.2.2.2.2.2.1)
theorem dqX0_init_0 : ∀ e ∈ tX0_init_0, rLq e.2.1 e.2.2 = true := by decide +kernel
theorem okmX0_init : okM mX0_init := ⟨by decide +kernel, rfl, dtX0_init_0, dqX0_init_0, Nat.le_of_ble_eq_true rfl⟩
theorem okpX0_init : okMc mX0_init := ⟨okmX0_init, List.mem_of_getElem? (i := 177) (by decide +kernel), List.mem_of_getElem? (i := 71) (by decide +kernel), by decide +kernel, by decide +kernel⟩
theorem dqX0_add_0 : ∀ e ∈ tX0_add_0, rLq e.2.1 e.2.2 = true := by decide +kernel
theorem dqX0_add_1 : ∀ e ∈ tX0_add_1, rLq e.2.1 e.2.2 = true := by decide +kernel
theorem okmX0_add : okM mX0_add := ⟨by decide +kernel, rfl, List.forall_mem_append.mpr ⟨dtX0_add_0, dtX0_add_1⟩, List.forall_mem_append.mpr ⟨dqX0_add_0, dqX0_add_1⟩, Nat.le_of_ble_eq_true rfl⟩
theorem okpX0_add : okMc mX0_add := ⟨okmX0_add, List.mem_of_getElem? (i := 358) (by decide +kernel), List.mem_of_getElem? (i := 71) (by decide +kernel), by decide +kernel, by decide +kernel⟩
theorem dqX0_forgetOldest_0 : ∀ e ∈ tX0_forgetOldest_0, rLq e.2.1 e.2.2 = true := by decide +kernel
theorem okmX0_forgetOldest : okM mX0_forgetOldest := ⟨by decide +kernel, rfl, dtX0_forgetOldest_0, dqX0_forgetOldest_0, Nat.le_of_ble_eq_true rfl⟩
theorem okpX0_forgetOldest : okMc mX0_forgetOldest := ⟨okmX0_forgetOldest, List.mem_of_getElem? (i := 362) (by decide +kernel), List.mem_of_getElem? (i := 71) (by decide +kernel), by decide +kernel, by decide +kernel⟩
theorem dqX0_unmake_0 : ∀ e ∈ tX0_unmake_0, rLq e.2.1 e.2.2 = true := by decide +kernel
theorem okmX0_unmake : okM mX0_unmake := ⟨by decide +kernel, rfl, dtX0_unmake_0, dqX0_unmake_0, Nat.le_of_ble_eq_true rfl⟩
theorem okpX0_unmake : okMc mX0_unmake := ⟨okmX0_unmake, List.mem_of_getElem? (i := 657) (by decide +kernel), List.mem_of_getElem? (i := 71) (by decide +kernel), by decide +kernel, by decide +kernel⟩
theorem dqX0_makeAgain_0 : ∀ e ∈ tX0_makeAgain_0, rLq e.2.1 e.2.2 = true := by decide +kernel
theorem okmX0_makeAgain : okM mX0_makeAgain := ⟨by decide +kernel, rfl, dtX0_makeAgain_0, dqX0_makeAgain_0, Nat.le_of_ble_eq_true rfl⟩
theorem okpX0_makeAgain : okMc mX0_makeAgain := ⟨okmX0_makeAgain, List.mem_of_getElem? (i := 666) (by decide +kernel), List.mem_of_getElem? (i := 71) (by decide +kernel), by decide +kernel, by decide +kernel⟩
theorem dqX1_init_0 : ∀ e ∈ tX1_init_0, rLq e.2.1 e.2.2 = true := by decide +kernel
theorem okmX1_init : okM mX1_init := ⟨by decide +kernel, rfl, dtX1_init_0, dqX1_init_0, Nat.le_of_ble_eq_true rfl⟩
theorem okpX1_init : okMc mX1_init := ⟨okmX1_init, List.mem_of_getElem? (i := 144) (by decide +kernel), List.mem_of_getElem? (i := 70) (by decide +kernel), by decide +kernel, by decide +kernel⟩
theorem dqX1_clear_0 : ∀ e ∈ tX1_clear_0, rLq e.2.1 e.2.2 = true := by decide +kernel
theorem okmX1_clear : okM mX1_clear := ⟨by decide +kernel, rfl, dtX1_clear_0, dqX1_clear_0, Nat.le_of_ble_eq_true rfl⟩
theorem okpX1_clear : okMc mX1_clear := ⟨okmX1_clear, List.mem_of_getElem? (i := 389) (by decide +kernel), List.mem_of_getElem? (i := 70) (by decide +kernel), by decide +kernel, by decide +kernel⟩
theorem dqX1_add_0 : ∀ e ∈ tX1_add_0, rLq e.2.1 e.2.2 = true := by decide +kernel
theorem okmX1_add : okM mX1_add := ⟨by decide +kernel, rfl, dtX1_add_0, dqX1_add_0, Nat.le_of_ble_eq_true rfl⟩
theorem okpX1_add : okMc mX1_add := ⟨okmX1_add, List.mem_of_getElem? (i := 436) (by decide +kernel), List.mem_of_getElem? (i := 70) (by decide +kernel), by decide +kernel, by decide +kernel⟩
theorem dqX1_outOf_0 : ∀ e ∈ tX1_outOf_0, rLq e.2.1 e.2.2 = true := by decide +kernel
theorem okmX1_outOf : okM mX1_outOf := ⟨by decide +kernel, rfl, dtX1_outOf_0, dqX1_outOf_0, Nat.le_of_ble_eq_true rfl⟩
theorem okpX1_outOf : okMc mX1_outOf := ⟨okmX1_outOf, List.mem_of_getElem? (i := 463) (by decide +kernel), List.mem_of_getElem? (i := 70) (by decide +kernel), by decide +kernel, by decide +kernel⟩
theorem dqX1_withoutText_0 : ∀ e ∈ tX1_withoutText_0, rLq e.2.1 e.2.2 = true := by decide +kernel
theorem okmX1_withoutText : okM mX1_withoutText := ⟨by decide +kernel, rfl, dtX1_withoutText_0, dqX1_withoutText_0, Nat.le_of_ble_eq_true rfl⟩
theorem okpX1_withoutText : okMc mX1_withoutText := ⟨okmX1_withoutText, List.mem_of_getElem? (i := 466) (by decide +kernel), List.mem_of_getElem? (i := 70) (by decide +kernel), by decide +kernel, by decide +kernel⟩
theorem dqX1_workedOut_0 : ∀ e ∈ tX1_workedOut_0, rLq e.2.1 e.2.2 = true := by decide +kernel
theorem dqX1_workedOut_1 : ∀ e ∈ tX1_workedOut_1, rLq e.2.1 e.2.2 = true := by decide +kernel
theorem dqX1_workedOut_2 : ∀ e ∈ tX1_workedOut_2, rLq e.2.1 e.2.2 = true := by decide +kernel
theorem dqX1_workedOut_3 : ∀ e ∈ tX1_workedOut_3, rLq e.2.1 e.2.2 = true := by decide +kernel
theorem okmX1_workedOut : okM mX1_workedOut := ⟨by decide +kernel, rfl, List.forall_mem_append.mpr ⟨dtX1_workedOut_0, List.forall_mem_append.mpr ⟨dtX1_workedOut_1, List.forall_mem_append.mpr ⟨dtX1_workedOut_2, dtX1_workedOut_3⟩⟩⟩, List.forall_mem_append.mpr ⟨dqX1_workedOut_0, List.forall_mem_append.mpr ⟨dqX1_workedOut_1, List.forall_mem_append.mpr ⟨dqX1_workedOut_2, dqX1_workedOut_3⟩⟩⟩, Nat.le_of_ble_eq_true rfl⟩
theorem okpX1_workedOut : okMc mX1_workedOut := ⟨okmX1_workedOut, List.mem_of_getElem? (i := 470) (by decide +kernel), List.mem_of_getElem? (i := 70) (by decide +kernel), by decide +kernel, by decide +kernel⟩
theorem dqX1_isName_0 : ∀ e ∈ tX1_isName_0, rLq e.2.1 e.2.2 = true := by decide +kernel
theorem okmX1_isName : okM mX1_isName := ⟨by decide +kernel, rfl, dtX1_isName_0, dqX1_isName_0, Nat.le_of_ble_eq_true rfl⟩
theorem okpX1_isName : okMc mX1_isName := ⟨okmX1_isName, List.mem_of_getElem? (i := 439) (by decide +kernel), List.mem_of_getElem? (i := 70) (by decide +kernel), by decide +kernel, by decide +kernel⟩
theorem dqX1_named_0 : ∀ e ∈ tX1_named_0, rLq e.2.1 e.2.2 = true := by decide +kernel
theorem dqX1_named_1 : ∀ e ∈ tX1_named_1, rLq e.2.1 e.2.2 = true := by decide +kernel
theorem okmX1_named : okM mX1_named := ⟨by decide +kernel, rfl, List.forall_mem_append.mpr ⟨dtX1_named_0, dtX1_named_1⟩, List.forall_mem_append.mpr ⟨dqX1_named_0, dqX1_named_1⟩, Nat.le_of_ble_eq_true rfl⟩
theorem okpX1_named : okMc mX1_named := ⟨okmX1_named, List.mem_of_getElem? (i := 474) (by decide +kernel), List.mem_of_getElem? (i := 70) (by decide +kernel), by decide +kernel, by decide +kernel⟩
theorem dqX1_joined_0 : ∀ e ∈ tX1_joined_0, rLq e.2.1 e.2.2 = true := by decide +kernel
theorem dqX1_joined_1 : ∀ e ∈ tX1_joined_1, rLq e.2.1 e.2.2 = true := by decide +kernel
theorem okmX1_joined : okM mX1_joined := ⟨by decide +kernel, rfl, List.forall_mem_append.mpr ⟨dtX1_joined_0, dtX1_joined_1⟩, List.forall_mem_append.mpr ⟨dqX1_joined_0, dqX1_joined_1⟩, Nat.le_of_ble_eq_true rfl⟩
theorem okpX1_joined : okMc mX1_joined := ⟨okmX1_joined, List.mem_of_getElem? (i := 477) (by decide +kernel), List.mem_of_getElem? (i := 70) (by decide +kernel), by decide +kernel, by decide +kernel⟩
theorem dqX2_init_0 : ∀ e ∈ tX2_init_0, rLq e.2.1 e.2.2 = true := by decide +kernel
theorem okmX2_init : okM mX2_init := ⟨by decide +kernel, rfl, dtX2_init_0, dqX2_init_0, Nat.le_of_ble_eq_true rfl⟩
theorem okpX2_init : okMc mX2_init := ⟨okmX2_init, List.mem_of_getElem? (i := 138) (by decide +kernel), List.mem_of_getElem? (i := 69) (by decide +kernel), by decide +kernel, by decide +kernel⟩
theorem dqX2_takes_0 : ∀ e ∈ tX2_takes_0, rLq e.2.1 e.2.2 = true := by decide +kernel
theorem okmX2_takes : okM mX2_takes := ⟨by decide +kernel, rfl, dtX2_takes_0, dqX2_takes_0, Nat.le_of_ble_eq_true rfl⟩
theorem okpX2_takes : okMc mX2_takes := ⟨okmX2_takes, List.mem_of_getElem? (i := 377) (by decide +kernel), List.mem_of_getElem? (i := 69) (by decide +kernel), by decide +kernel, by decide +kernel⟩
theorem dqX2_clear_0 : ∀ e ∈ tX2_clear_0, rLq e.2.1 e.2.2 = true := by decide +kernel
theorem okmX2_clear : okM mX2_clear := ⟨by decide +kernel, rfl, dtX2_clear_0, dqX2_clear_0, Nat.le_of_ble_eq_true rfl⟩
theorem okpX2_clear : okMc mX2_clear := ⟨okmX2_clear, List.mem_of_getElem? (i := 447) (by decide +kernel), List.mem_of_getElem? (i := 69) (by decide +kernel), by decide +kernel, by decide +kernel⟩
theorem dqX2_read_0 : ∀ e ∈ tX2_read_0, rLq e.2.1 e.2.2 = true := by decide +kernel
theorem okmX2_read : okM mX2_read := ⟨by decide +kernel, rfl, dtX2_read_0, dqX2_read_0, Nat.le_of_ble_eq_true rfl⟩
theorem okpX2_read : okMc mX2_read := ⟨okmX2_read, List.mem_of_getElem? (i := 385) (by decide +kernel), List.mem_of_getElem? (i := 69) (by decide +kernel), by decide +kernel, by decide +kernel⟩
theorem dqX2_handOver_0 : ∀ e ∈ tX2_handOver_0, rLq e.2.1 e.2.2 = true := by decide +kernel
theorem okmX2_handOver : okM mX2_handOver := ⟨by decide +kernel, rfl, dtX2_handOver_0, dqX2_handOver_0, Nat.le_of_ble_eq_true rfl⟩
theorem okpX2_handOver : okMc mX2_handOver := ⟨okmX2_handOver, List.mem_of_getElem? (i := 451) (by decide +kernel), List.mem_of_getElem? (i := 69) (by decide +kernel), by decide +kernel, by decide +kernel⟩
theorem dqX2_next_0 : ∀ e ∈ tX2_next_0, rLq e.2.1 e.2.2 = true := by decide +kernel
theorem okmX2_next : okM mX2_next := ⟨by decide +kernel, rfl, dtX2_next_0, dqX2_next_0, Nat.le_of_ble_eq_true rfl⟩
theorem okpX2_next : okMc mX2_next := ⟨okmX2_next, List.mem_of_getElem? (i := 425) (by decide +kernel), List.mem_of_getElem? (i := 69) (by decide +kernel), by decide +kernel, by decide +kernel⟩
theorem dqX2_passes_0 : ∀ e ∈ tX2_passes_0, rLq e.2.1 e.2.2 = true := by decide +kernel
theorem okmX2_passes : okM mX2_passes := ⟨by decide +kernel, rfl, dtX2_passes_0, dqX2_passes_0, Nat.le_of_ble_eq_true rfl⟩
theorem okpX2_passes : okMc mX2_passes := ⟨okmX2_passes, List.mem_of_getElem? (i := 443) (by decide +kernel), List.mem_of_getElem? (i := 69) (by decide +kernel), by decide +kernel, by decide +kernel⟩
theorem dqX2_lines_0 : ∀ e ∈ tX2_lines_0, rLq e.2.1 e.2.2 = true := by decide +kernel
theorem okmX2_lines : okM mX2_lines := ⟨by decide +kernel, rfl, dtX2_lines_0, dqX2_lines_0, Nat.le_of_ble_eq_true rfl⟩
theorem okpX2_lines : okMc mX2_lines := ⟨okmX2_lines, List.mem_of_getElem? (i := 393) (by decide +kernel), List.mem_of_getElem? (i := 69) (by decide +kernel), by decide +kernel, by decide +kernel⟩
theorem dqX2_line_0 : ∀ e ∈ tX2_line_0, rLq e.2.1 e.2.2 = true := by decide +kernel
theorem okmX2_line : okM mX2_line := ⟨by decide +kernel, rfl, dtX2_line_0, dqX2_line_0, Nat.le_of_ble_eq_true rfl⟩
theorem okpX2_line : okMc mX2_line := ⟨okmX2_line, List.mem_of_getElem? (i := 397) (by decide +kernel), List.mem_of_getElem? (i := 69) (by decide +kernel), by decide +kernel, by decide +kernel⟩
theorem dqX2_either_0 : ∀ e ∈ tX2_either_0, rLq e.2.1 e.2.2 = true := by decide +kernel
theorem okmX2_either : okM mX2_either := ⟨by decide +kernel, rfl, dtX2_either_0, dqX2_either_0, Nat.le_of_ble_eq_true rfl⟩
theorem okpX2_either : okMc mX2_either := ⟨okmX2_either, List.mem_of_getElem? (i := 401) (by decide +kernel), List.mem_of_getElem? (i := 69) (by decide +kernel), by decide +kernel, by decide +kernel⟩
theorem dqX2_both_0 : ∀ e ∈ tX2_both_0, rLq e.2.1 e.2.2 = true := by decide +kernel
theorem okmX2_both : okM mX2_both := ⟨by decide +kernel, rfl, dtX2_both_0, dqX2_both_0, Nat.le_of_ble_eq_true rfl⟩
theorem okpX2_both : okMc mX2_both := ⟨okmX2_both, List.mem_of_getElem? (i := 405) (by decide +kernel), List.mem_of_getElem? (i := 69) (by decide +kernel), by decide +kernel, by decide +kernel⟩
theorem dqX2_compared_0 : ∀ e ∈ tX2_compared_0, rLq e.2.1 e.2.2 = true := by decide +kernel
theorem okmX2_compared : okM mX2_compared := ⟨by decide +kernel, rfl, dtX2_compared_0, dqX2_compared_0, Nat.le_of_ble_eq_true rfl⟩
theorem okpX2_compared : okMc mX2_compared := ⟨okmX2_compared, List.mem_of_getElem? (i := 409) (by decide +kernel), List.mem_of_getElem? (i := 69) (by decide +kernel), by decide +kernel, by decide +kernel⟩
theorem dqX2_sum_0 : ∀ e ∈ tX2_sum_0, rLq e.2.1 e.2.2 = true := by decide +kernel
theorem dqX2_sum_1 : ∀ e ∈ tX2_sum_1, rLq e.2.1 e.2.2 = true := by decide +kernel
theorem okmX2_sum : okM mX2_sum := ⟨by decide +kernel, rfl, List.forall_mem_append.mpr ⟨dtX2_sum_0, dtX2_sum_1⟩, List.forall_mem_append.mpr ⟨dqX2_sum_0, dqX2_sum_1⟩, Nat.le_of_ble_eq_true rfl⟩
theorem okpX2_sum : okMc mX2_sum := ⟨okmX2_sum, List.mem_of_getElem? (i := 413) (by decide +kernel), List.mem_of_getElem? (i := 69) (by decide +kernel), by decide +kernel, by decide +kernel⟩
theorem dqX2_product_0 : ∀ e ∈ tX2_product_0, rLq e.2.1 e.2.2 = true := by decide +kernel
theorem dqX2_product_1 : ∀ e ∈ tX2_product_1, rLq e.2.1 e.2.2 = true := by decide +kernel
theorem okmX2_product : okM mX2_product := ⟨by decide +kernel, rfl, List.forall_mem_append.mpr ⟨dtX2_product_0, dtX2_product_1⟩, List.forall_mem_append.mpr ⟨dqX2_product_0, dqX2_product_1⟩, Nat.le_of_ble_eq_true rfl⟩
theorem okpX2_product : okMc mX2_product := ⟨okmX2_product, List.mem_of_getElem? (i := 417) (by decide +kernel), List.mem_of_getElem? (i := 69) (by decide +kernel), by decide +kernel, by decide +kernel⟩
theorem dqX2_operand_0 : ∀ e ∈ tX2_operand_0, rLq e.2.1 e.2.2 = true := by decide +kernel
theorem dqX2_operand_1 : ∀ e ∈ tX2_operand_1, rLq e.2.1 e.2.2 = true := by decide +kernel
theorem okmX2_operand : okM mX2_operand := ⟨by decide +kernel, rfl, List.forall_mem_append.mpr ⟨dtX2_operand_0, dtX2_operand_1⟩, List.forall_mem_append.mpr ⟨dqX2_operand_0, dqX2_operand_1⟩, Nat.le_of_ble_eq_true rfl⟩
theorem okpX2_operand : okMc mX2_operand := ⟨okmX2_operand, List.mem_of_getElem? (i := 421) (by decide +kernel), List.mem_of_getElem? (i := 69) (by decide +kernel), by decide +kernel, by decide +kernel⟩
theorem dqX2_number_0 : ∀ e ∈ tX2_number_0, rLq e.2.1 e.2.2 = true := by decide +kernel
theorem okmX2_number : okM mX2_number := ⟨by decide +kernel, rfl, dtX2_number_0, dqX2_number_0, Nat.le_of_ble_eq_true rfl⟩
theorem okpX2_number : okMc mX2_number := ⟨okmX2_number, List.mem_of_getElem? (i := 432) (by decide +kernel), List.mem_of_getElem? (i := 69) (by decide +kernel), by decide +kernel, by decide +kernel⟩
theorem dqX2_isDigit_0 : ∀ e ∈ tX2_isDigit_0, rLq e.2.1 e.2.2 = true := by decide +kernel
theorem okmX2_isDigit : okM mX2_isDigit := ⟨by decide +kernel, rfl, dtX2_isDigit_0, dqX2_isDigit_0, Nat.le_of_ble_eq_true rfl⟩
theorem okpX2_isDigit : okMc mX2_isDigit := ⟨okmX2_isDigit, List.mem_of_getElem? (i := 428) (by decide +kernel), List.mem_of_getElem? (i := 69) (by decide +kernel), by decide +kernel, by decide +kernel⟩
theorem dqX3_init_0 : ∀ e ∈ tX3_init_0, rLq e.2.1 e.2.2 = true := by decide +kernel
theorem okmX3_init : okM mX3_init := ⟨by decide +kernel, rfl, dtX3_init_0, dqX3_init_0, Nat.le_of_ble_eq_true rfl⟩
theorem okpX3_init : okMc mX3_init := ⟨okmX3_init, List.mem_of_getElem? (i := 90) (by decide +kernel), List.mem_of_getElem? (i := 68) (by decide +kernel), by decide +kernel, by decide +kernel⟩
theorem dqX3_fitsIn_0 : ∀ e ∈ tX3_fitsIn_0, rLq e.2.1 e.2.2 = true := by decide +kernel
theorem okmX3_fitsIn : okM mX3_fitsIn := ⟨by decide +kernel, rfl, dtX3_fitsIn_0, dqX3_fitsIn_0, Nat.le_of_ble_eq_true rfl⟩
theorem okpX3_fitsIn : okMc mX3_fitsIn := ⟨okmX3_fitsIn, List.mem_of_getElem? (i := 292) (by decide +kernel), List.mem_of_getElem? (i := 68) (by decide +kernel), by decide +kernel, by decide +kernel⟩
theorem dqX3_most_0 : ∀ e ∈ tX3_most_0, rLq e.2.1 e.2.2 = true := by decide +kernel
theorem okmX3_most : okM mX3_most := ⟨by decide +kernel, rfl, dtX3_most_0, dqX3_most_0, Nat.le_of_ble_eq_true rfl⟩
theorem okpX3_most : okMc mX3_most := ⟨okmX3_most, List.mem_of_getElem? (i := 586) (by decide +kernel), List.mem_of_getElem? (i := 68) (by decide +kernel), by decide +kernel, by decide +kernel⟩
theorem dqX3_isFull_0 : ∀ e ∈ tX3_isFull_0, rLq e.2.1 e.2.2 = true := by decide +kernel
theorem okmX3_isFull : okM mX3_isFull := ⟨by decide +kernel, rfl, dtX3_isFull_0, dqX3_isFull_0, Nat.le_of_ble_eq_true rfl⟩
theorem okpX3_isFull : okMc mX3_isFull := ⟨okmX3_isFull, List.mem_of_getElem? (i := 300) (by decide +kernel), List.mem_of_getElem? (i := 68) (by decide +kernel), by decide +kernel, by decide +kernel⟩
theorem dqX3_lengthen_0 : ∀ e ∈ tX3_lengthen_0, rLq e.2.1 e.2.2 = true := by decide +kernel
theorem okmX3_lengthen : okM mX3_lengthen := ⟨by decide +kernel, rfl, dtX3_lengthen_0, dqX3_lengthen_0, Nat.le_of_ble_eq_true rfl⟩
theorem okpX3_lengthen : okMc mX3_lengthen := ⟨okmX3_lengthen, List.mem_of_getElem? (i := 304) (by decide +kernel), List.mem_of_getElem? (i := 68) (by decide +kernel), by decide +kernel, by decide +kernel⟩
theorem dqX3_has_0 : ∀ e ∈ tX3_has_0, rLq e.2.1 e.2.2 = true := by decide +kernel
theorem okmX3_has : okM mX3_has := ⟨by decide +kernel, rfl, dtX3_has_0, dqX3_has_0, Nat.le_of_ble_eq_true rfl⟩
theorem okpX3_has : okMc mX3_has := ⟨okmX3_has, List.mem_of_getElem? (i := 340) (by decide +kernel), List.mem_of_getElem? (i := 68) (by decide +kernel), by decide +kernel, by decide +kernel⟩
theorem dqX3_numberOf_0 : ∀ e ∈ tX3_numberOf_0, rLq e.2.1 e.2.2 = true := by decide +kernel
theorem okmX3_numberOf : okM mX3_numberOf := ⟨by decide +kernel, rfl, dtX3_numberOf_0, dqX3_numberOf_0, Nat.le_of_ble_eq_true rfl⟩
theorem okpX3_numberOf : okMc mX3_numberOf := ⟨okmX3_numberOf, List.mem_of_getElem? (i := 344) (by decide +kernel), List.mem_of_getElem? (i := 68) (by decide +kernel), by decide +kernel, by decide +kernel⟩
theorem dqX3_become_0 : ∀ e ∈ tX3_become_0, rLq e.2.1 e.2.2 = true := by decide +kernel
theorem okmX3_become : okM mX3_become := ⟨by decide +kernel, rfl, dtX3_become_0, dqX3_become_0, Nat.le_of_ble_eq_true rfl⟩
theorem okpX3_become : okMc mX3_become := ⟨okmX3_become, List.mem_of_getElem? (i := 353) (by decide +kernel), List.mem_of_getElem? (i := 68) (by decide +kernel), by decide +kernel, by decide +kernel⟩
theorem dqX3_numbers_0 : ∀ e ∈ tX3_numbers_0, rLq e.2.1 e.2.2 = true := by decide +kernel
theorem okmX3_numbers : okM mX3_numbers := ⟨by decide +kernel, rfl, dtX3_numbers_0, dqX3_numbers_0, Nat.le_of_ble_eq_true rfl⟩
theorem okpX3_numbers : okMc mX3_numbers := ⟨okmX3_numbers, List.mem_of_getElem? (i := 349) (by decide +kernel), List.mem_of_getElem? (i := 68) (by decide +kernel), by decide +kernel, by decide +kernel⟩
theorem dqX3_take_0 : ∀ e ∈ tX3_take_0, rLq e.2.1 e.2.2 = true := by decide +kernel
theorem okmX3_take : okM mX3_take := ⟨by decide +kernel, rfl, dtX3_take_0, dqX3_take_0, Nat.le_of_ble_eq_true rfl⟩
theorem okpX3_take : okMc mX3_take := ⟨okmX3_take, List.mem_of_getElem? (i := 499) (by decide +kernel), List.mem_of_getElem? (i := 68) (by decide +kernel), by decide +kernel, by decide +kernel⟩
theorem dqX3_takeWhatDeedsChange_0 : ∀ e ∈ tX3_takeWhatDeedsChange_0, rLq e.2.1 e.2.2 = true := by decide +kernel
theorem okmX3_takeWhatDeedsChange : okM mX3_takeWhatDeedsChange := ⟨by decide +kernel, rfl, dtX3_takeWhatDeedsChange_0, dqX3_takeWhatDeedsChange_0, Nat.le_of_ble_eq_true rfl⟩
theorem okpX3_takeWhatDeedsChange : okMc mX3_takeWhatDeedsChange := ⟨okmX3_takeWhatDeedsChange, List.mem_of_getElem? (i := 503) (by decide +kernel), List.mem_of_getElem? (i := 68) (by decide +kernel), by decide +kernel, by decide +kernel⟩
theorem dqX3_pass_0 : ∀ e ∈ tX3_pass_0, rLq e.2.1 e.2.2 = true := by decide +kernel
theorem dqX3_pass_1 : ∀ e ∈ tX3_pass_1, rLq e.2.1 e.2.2 = true := by decide +kernel
theorem okmX3_pass : okM mX3_pass := ⟨by decide +kernel, rfl, List.forall_mem_append.mpr ⟨dtX3_pass_0, dtX3_pass_1⟩, List.forall_mem_append.mpr ⟨dqX3_pass_0, dqX3_pass_1⟩, Nat.le_of_ble_eq_true rfl⟩
theorem okpX3_pass : okMc mX3_pass := ⟨okmX3_pass, List.mem_of_getElem? (i := 508) (by decide +kernel), List.mem_of_getElem? (i := 68) (by decide +kernel), by decide +kernel, by decide +kernel⟩
theorem dqX3_overBits_0 : ∀ e ∈ tX3_overBits_0, rLq e.2.1 e.2.2 = true := by decide +kernel
theorem okmX3_overBits : okM mX3_overBits := ⟨by decide +kernel, rfl, dtX3_overBits_0, dqX3_overBits_0, Nat.le_of_ble_eq_true rfl⟩
theorem okpX3_overBits : okMc mX3_overBits := ⟨okmX3_overBits, List.mem_of_getElem? (i := 521) (by decide +kernel), List.mem_of_getElem? (i := 68) (by decide +kernel), by decide +kernel, by decide +kernel⟩
theorem dqX3_levelOfAll_0 : ∀ e ∈ tX3_levelOfAll_0, rLq e.2.1 e.2.2 = true := by decide +kernel
theorem okmX3_levelOfAll : okM mX3_levelOfAll := ⟨by decide +kernel, rfl, dtX3_levelOfAll_0, dqX3_levelOfAll_0, Nat.le_of_ble_eq_true rfl⟩
theorem okpX3_levelOfAll : okMc mX3_levelOfAll := ⟨okmX3_levelOfAll, List.mem_of_getElem? (i := 525) (by decide +kernel), List.mem_of_getElem? (i := 68) (by decide +kernel), by decide +kernel, by decide +kernel⟩
theorem dqX3_levelsTogether_0 : ∀ e ∈ tX3_levelsTogether_0, rLq e.2.1 e.2.2 = true := by decide +kernel
theorem okmX3_levelsTogether : okM mX3_levelsTogether := ⟨by decide +kernel, rfl, dtX3_levelsTogether_0, dqX3_levelsTogether_0, Nat.le_of_ble_eq_true rfl⟩
theorem okpX3_levelsTogether : okMc mX3_levelsTogether := ⟨okmX3_levelsTogether, List.mem_of_getElem? (i := 545) (by decide +kernel), List.mem_of_getElem? (i := 68) (by decide +kernel), by decide +kernel, by decide +kernel⟩
theorem dqX4_init_0 : ∀ e ∈ tX4_init_0, rLq e.2.1 e.2.2 = true := by decide +kernel
theorem okmX4_init : okM mX4_init := ⟨by decide +kernel, rfl, dtX4_init_0, dqX4_init_0, Nat.le_of_ble_eq_true rfl⟩
theorem okpX4_init : okMc mX4_init := ⟨okmX4_init, List.mem_of_getElem? (i := 227) (by decide +kernel), List.mem_of_getElem? (i := 73) (by decide +kernel), by decide +kernel, by decide +kernel⟩
theorem dqX4_isBare_0 : ∀ e ∈ tX4_isBare_0, rLq e.2.1 e.2.2 = true := by decide +kernel
theorem okmX4_isBare : okM mX4_isBare := ⟨by decide +kernel, rfl, dtX4_isBare_0, dqX4_isBare_0, Nat.le_of_ble_eq_true rfl⟩
theorem okpX4_isBare : okMc mX4_isBare := ⟨okmX4_isBare, List.mem_of_getElem? (i := 316) (by decide +kernel), List.mem_of_getElem? (i := 73) (by decide +kernel), by decide +kernel, by decide +kernel⟩
theorem dqX4_isRow_0 : ∀ e ∈ tX4_isRow_0, rLq e.2.1 e.2.2 = true := by decide +kernel
theorem okmX4_isRow : okM mX4_isRow := ⟨by decide +kernel, rfl, dtX4_isRow_0, dqX4_isRow_0, Nat.le_of_ble_eq_true rfl⟩
theorem okpX4_isRow : okMc mX4_isRow := ⟨okmX4_isRow, List.mem_of_getElem? (i := 758) (by decide +kernel), List.mem_of_getElem? (i := 73) (by decide +kernel), by decide +kernel, by decide +kernel⟩
theorem dqX4_isBytes_0 : ∀ e ∈ tX4_isBytes_0, rLq e.2.1 e.2.2 = true := by decide +kernel
theorem okmX4_isBytes : okM mX4_isBytes := ⟨by decide +kernel, rfl, dtX4_isBytes_0, dqX4_isBytes_0, Nat.le_of_ble_eq_true rfl⟩
theorem okpX4_isBytes : okMc mX4_isBytes := ⟨okmX4_isBytes, List.mem_of_getElem? (i := 320) (by decide +kernel), List.mem_of_getElem? (i := 73) (by decide +kernel), by decide +kernel, by decide +kernel⟩
theorem dqX4_holdNothing_0 : ∀ e ∈ tX4_holdNothing_0, rLq e.2.1 e.2.2 = true := by decide +kernel
theorem okmX4_holdNothing : okM mX4_holdNothing := ⟨by decide +kernel, rfl, dtX4_holdNothing_0, dqX4_holdNothing_0, Nat.le_of_ble_eq_true rfl⟩
theorem okpX4_holdNothing : okMc mX4_holdNothing := ⟨okmX4_holdNothing, List.mem_of_getElem? (i := 736) (by decide +kernel), List.mem_of_getElem? (i := 73) (by decide +kernel), by decide +kernel, by decide +kernel⟩
theorem dqX4_holdStep_0 : ∀ e ∈ tX4_holdStep_0, rLq e.2.1 e.2.2 = true := by decide +kernel
theorem okmX4_holdStep : okM mX4_holdStep := ⟨by decide +kernel, rfl, dtX4_holdStep_0, dqX4_holdStep_0, Nat.le_of_ble_eq_true rfl⟩
theorem okpX4_holdStep : okMc mX4_holdStep := ⟨okmX4_holdStep, List.mem_of_getElem? (i := 740) (by decide +kernel), List.mem_of_getElem? (i := 73) (by decide +kernel), by decide +kernel, by decide +kernel⟩
theorem dqX4_holdRow_0 : ∀ e ∈ tX4_holdRow_0, rLq e.2.1 e.2.2 = true := by decide +kernel
theorem okmX4_holdRow : okM mX4_holdRow := ⟨by decide +kernel, rfl, dtX4_holdRow_0, dqX4_holdRow_0, Nat.le_of_ble_eq_true rfl⟩
theorem okpX4_holdRow : okMc mX4_holdRow := ⟨okmX4_holdRow, List.mem_of_getElem? (i := 748) (by decide +kernel), List.mem_of_getElem? (i := 73) (by decide +kernel), by decide +kernel, by decide +kernel⟩
theorem dqX4_hasPlaces_0 : ∀ e ∈ tX4_hasPlaces_0, rLq e.2.1 e.2.2 = true := by decide +kernel
theorem okmX4_hasPlaces : okM mX4_hasPlaces := ⟨by decide +kernel, rfl, dtX4_hasPlaces_0, dqX4_hasPlaces_0, Nat.le_of_ble_eq_true rfl⟩
theorem okpX4_hasPlaces : okMc mX4_hasPlaces := ⟨okmX4_hasPlaces, List.mem_of_getElem? (i := 328) (by decide +kernel), List.mem_of_getElem? (i := 73) (by decide +kernel), by decide +kernel, by decide +kernel⟩
theorem dqX4_small_0 : ∀ e ∈ tX4_small_0, rLq e.2.1 e.2.2 = true := by decide +kernel
theorem okmX4_small : okM mX4_small := ⟨by decide +kernel, rfl, dtX4_small_0, dqX4_small_0, Nat.le_of_ble_eq_true rfl⟩
theorem okpX4_small : okMc mX4_small := ⟨okmX4_small, List.mem_of_getElem? (i := 332) (by decide +kernel), List.mem_of_getElem? (i := 73) (by decide +kernel), by decide +kernel, by decide +kernel⟩
theorem dqX4_cut_0 : ∀ e ∈ tX4_cut_0, rLq e.2.1 e.2.2 = true := by decide +kernel
theorem okmX4_cut : okM mX4_cut := ⟨by decide +kernel, rfl, dtX4_cut_0, dqX4_cut_0, Nat.le_of_ble_eq_true rfl⟩
theorem okpX4_cut : okMc mX4_cut := ⟨okmX4_cut, List.mem_of_getElem? (i := 762) (by decide +kernel), List.mem_of_getElem? (i := 73) (by decide +kernel), by decide +kernel, by decide +kernel⟩
theorem dqX5_init_0 : ∀ e ∈ tX5_init_0, rLq e.2.1 e.2.2 = true := by decide +kernel
theorem okmX5_init : okM mX5_init := ⟨by decide +kernel, rfl, dtX5_init_0, dqX5_init_0, Nat.le_of_ble_eq_true rfl⟩
theorem okpX5_init : okMc mX5_init := ⟨okmX5_init, List.mem_of_getElem? (i := 204) (by decide +kernel), List.mem_of_getElem? (i := 72) (by decide +kernel), by decide +kernel, by decide +kernel⟩
theorem dqX5_isKind_0 : ∀ e ∈ tX5_isKind_0, rLq e.2.1 e.2.2 = true := by decide +kernel
theorem okmX5_isKind : okM mX5_isKind := ⟨by decide +kernel, rfl, dtX5_isKind_0, dqX5_isKind_0, Nat.le_of_ble_eq_true rfl⟩
theorem okpX5_isKind : okMc mX5_isKind := ⟨okmX5_isKind, List.mem_of_getElem? (i := 673) (by decide +kernel), List.mem_of_getElem? (i := 72) (by decide +kernel), by decide +kernel, by decide +kernel⟩
theorem dqX5_isAct_0 : ∀ e ∈ tX5_isAct_0, rLq e.2.1 e.2.2 = true := by decide +kernel
theorem okmX5_isAct : okM mX5_isAct := ⟨by decide +kernel, rfl, dtX5_isAct_0, dqX5_isAct_0, Nat.le_of_ble_eq_true rfl⟩
theorem okpX5_isAct : okMc mX5_isAct := ⟨okmX5_isAct, List.mem_of_getElem? (i := 697) (by decide +kernel), List.mem_of_getElem? (i := 72) (by decide +kernel), by decide +kernel, by decide +kernel⟩
theorem dqX5_isUnder_0 : ∀ e ∈ tX5_isUnder_0, rLq e.2.1 e.2.2 = true := by decide +kernel
theorem okmX5_isUnder : okM mX5_isUnder := ⟨by decide +kernel, rfl, dtX5_isUnder_0, dqX5_isUnder_0, Nat.le_of_ble_eq_true rfl⟩
theorem okpX5_isUnder : okMc mX5_isUnder := ⟨okmX5_isUnder, List.mem_of_getElem? (i := 778) (by decide +kernel), List.mem_of_getElem? (i := 72) (by decide +kernel), by decide +kernel, by decide +kernel⟩
theorem dqX5_isFull_0 : ∀ e ∈ tX5_isFull_0, rLq e.2.1 e.2.2 = true := by decide +kernel
theorem okmX5_isFull : okM mX5_isFull := ⟨by decide +kernel, rfl, dtX5_isFull_0, dqX5_isFull_0, Nat.le_of_ble_eq_true rfl⟩
theorem okpX5_isFull : okMc mX5_isFull := ⟨okmX5_isFull, List.mem_of_getElem? (i := 677) (by decide +kernel), List.mem_of_getElem? (i := 72) (by decide +kernel), by decide +kernel, by decide +kernel⟩
theorem dqX5_has_0 : ∀ e ∈ tX5_has_0, rLq e.2.1 e.2.2 = true := by decide +kernel
theorem okmX5_has : okM mX5_has := ⟨by decide +kernel, rfl, dtX5_has_0, dqX5_has_0, Nat.le_of_ble_eq_true rfl⟩
theorem okpX5_has : okMc mX5_has := ⟨okmX5_has, List.mem_of_getElem? (i := 694) (by decide +kernel), List.mem_of_getElem? (i := 72) (by decide +kernel), by decide +kernel, by decide +kernel⟩
theorem dqX5_add_0 : ∀ e ∈ tX5_add_0, rLq e.2.1 e.2.2 = true := by decide +kernel
theorem okmX5_add : okM mX5_add := ⟨by decide +kernel, rfl, dtX5_add_0, dqX5_add_0, Nat.le_of_ble_eq_true rfl⟩
theorem okpX5_add : okMc mX5_add := ⟨okmX5_add, List.mem_of_getElem? (i := 681) (by decide +kernel), List.mem_of_getElem? (i := 72) (by decide +kernel), by decide +kernel, by decide +kernel⟩
theorem dqX5_kindOf_0 : ∀ e ∈ tX5_kindOf_0, rLq e.2.1 e.2.2 = true := by decide +kernel
theorem okmX5_kindOf : okM mX5_kindOf := ⟨by decide +kernel, rfl, dtX5_kindOf_0, dqX5_kindOf_0, Nat.le_of_ble_eq_true rfl⟩
theorem okpX5_kindOf : okMc mX5_kindOf := ⟨okmX5_kindOf, List.mem_of_getElem? (i := 718) (by decide +kernel), List.mem_of_getElem? (i := 72) (by decide +kernel), by decide +kernel, by decide +kernel⟩
theorem dqX5_traced_0 : ∀ e ∈ tX5_traced_0, rLq e.2.1 e.2.2 = true := by decide +kernel
theorem okmX5_traced : okM mX5_traced := ⟨by decide +kernel, rfl, dtX5_traced_0, dqX5_traced_0, Nat.le_of_ble_eq_true rfl⟩
theorem okpX5_traced : okMc mX5_traced := ⟨okmX5_traced, List.mem_of_getElem? (i := 726) (by decide +kernel), List.mem_of_getElem? (i := 72) (by decide +kernel), by decide +kernel, by decide +kernel⟩
theorem dqX5_begin_0 : ∀ e ∈ tX5_begin_0, rLq e.2.1 e.2.2 = true := by decide +kernel
theorem okmX5_begin : okM mX5_begin := ⟨by decide +kernel, rfl, dtX5_begin_0, dqX5_begin_0, Nat.le_of_ble_eq_true rfl⟩
theorem okpX5_begin : okMc mX5_begin := ⟨okmX5_begin, List.mem_of_getElem? (i := 690) (by decide +kernel), List.mem_of_getElem? (i := 72) (by decide +kernel), by decide +kernel, by decide +kernel⟩
theorem dqX5_perform_0 : ∀ e ∈ tX5_perform_0, rLq e.2.1 e.2.2 = true := by decide +kernel
theorem dqX5_perform_1 : ∀ e ∈ tX5_perform_1, rLq e.2.1 e.2.2 = true := by decide +kernel
theorem okmX5_perform : okM mX5_perform := ⟨by decide +kernel, rfl, List.forall_mem_append.mpr ⟨dtX5_perform_0, dtX5_perform_1⟩, List.forall_mem_append.mpr ⟨dqX5_perform_0, dqX5_perform_1⟩, Nat.le_of_ble_eq_true rfl⟩
theorem okpX5_perform : okMc mX5_perform := ⟨okmX5_perform, List.mem_of_getElem? (i := 701) (by decide +kernel), List.mem_of_getElem? (i := 72) (by decide +kernel), by decide +kernel, by decide +kernel⟩
theorem dqX5_note_0 : ∀ e ∈ tX5_note_0, rLq e.2.1 e.2.2 = true := by decide +kernel
theorem okmX5_note : okM mX5_note := ⟨by decide +kernel, rfl, dtX5_note_0, dqX5_note_0, Nat.le_of_ble_eq_true rfl⟩
theorem okpX5_note : okMc mX5_note := ⟨okmX5_note, List.mem_of_getElem? (i := 710) (by decide +kernel), List.mem_of_getElem? (i := 72) (by decide +kernel), by decide +kernel, by decide +kernel⟩
theorem dqX5_run_0 : ∀ e ∈ tX5_run_0, rLq e.2.1 e.2.2 = true := by decide +kernel
theorem dqX5_run_1 : ∀ e ∈ tX5_run_1, rLq e.2.1 e.2.2 = true := by decide +kernel
theorem dqX5_run_2 : ∀ e ∈ tX5_run_2, rLq e.2.1 e.2.2 = true := by decide +kernel
theorem dqX5_run_3 : ∀ e ∈ tX5_run_3, rLq e.2.1 e.2.2 = true := by decide +kernel
theorem okmX5_run : okM mX5_run := ⟨by decide +kernel, rfl, List.forall_mem_append.mpr ⟨dtX5_run_0, List.forall_mem_append.mpr ⟨dtX5_run_1, List.forall_mem_append.mpr ⟨dtX5_run_2, dtX5_run_3⟩⟩⟩, List.forall_mem_append.mpr ⟨dqX5_run_0, List.forall_mem_append.mpr ⟨dqX5_run_1, List.forall_mem_append.mpr ⟨dqX5_run_2, dqX5_run_3⟩⟩⟩, Nat.le_of_ble_eq_true rfl⟩
theorem okpX5_run : okMc mX5_run := ⟨okmX5_run, List.mem_of_getElem? (i := 714) (by decide +kernel), List.mem_of_getElem? (i := 72) (by decide +kernel), by decide +kernel, by decide +kernel⟩
theorem dqX6_init_0 : ∀ e ∈ tX6_init_0, rLq e.2.1 e.2.2 = true := by decide +kernel
theorem dqX6_init_1 : ∀ e ∈ tX6_init_1, rLq e.2.1 e.2.2 = true := by decide +kernel
theorem okmX6_init : okM mX6_init := ⟨by decide +kernel, rfl, List.forall_mem_append.mpr ⟨dtX6_init_0, dtX6_init_1⟩, List.forall_mem_append.mpr ⟨dqX6_init_0, dqX6_init_1⟩, Nat.le_of_ble_eq_true rfl⟩
theorem okpX6_init : okMc mX6_init := ⟨okmX6_init, List.mem_of_getElem? (i := 82) (by decide +kernel), List.mem_of_getElem? (i := 67) (by decide +kernel), by decide +kernel, by decide +kernel⟩
theorem dqX6_reach_0 : ∀ e ∈ tX6_reach_0, rLq e.2.1 e.2.2 = true := by decide +kernel
theorem okmX6_reach : okM mX6_reach := ⟨by decide +kernel, rfl, dtX6_reach_0, dqX6_reach_0, Nat.le_of_ble_eq_true rfl⟩
theorem okpX6_reach : okMc mX6_reach := ⟨okmX6_reach, List.mem_of_getElem? (i := 289) (by decide +kernel), List.mem_of_getElem? (i := 67) (by decide +kernel), by decide +kernel, by decide +kernel⟩
theorem dqX6_reaches_0 : ∀ e ∈ tX6_reaches_0, rLq e.2.1 e.2.2 = true := by decide +kernel
theorem dqX6_reaches_1 : ∀ e ∈ tX6_reaches_1, rLq e.2.1 e.2.2 = true := by decide +kernel
theorem okmX6_reaches : okM mX6_reaches := ⟨by decide +kernel, rfl, List.forall_mem_append.mpr ⟨dtX6_reaches_0, dtX6_reaches_1⟩, List.forall_mem_append.mpr ⟨dqX6_reaches_0, dqX6_reaches_1⟩, Nat.le_of_ble_eq_true rfl⟩
theorem okpX6_reaches : okMc mX6_reaches := ⟨okmX6_reaches, List.mem_of_getElem? (i := 309) (by decide +kernel), List.mem_of_getElem? (i := 67) (by decide +kernel), by decide +kernel, by decide +kernel⟩
theorem dqX6_reachComesFrom_0 : ∀ e ∈ tX6_reachComesFrom_0, rLq e.2.1 e.2.2 = true := by decide +kernel
theorem dqX6_reachComesFrom_1 : ∀ e ∈ tX6_reachComesFrom_1, rLq e.2.1 e.2.2 = true := by decide +kernel
theorem okmX6_reachComesFrom : okM mX6_reachComesFrom := ⟨by decide +kernel, rfl, List.forall_mem_append.mpr ⟨dtX6_reachComesFrom_0, dtX6_reachComesFrom_1⟩, List.forall_mem_append.mpr ⟨dqX6_reachComesFrom_0, dqX6_reachComesFrom_1⟩, Nat.le_of_ble_eq_true rfl⟩
theorem okpX6_reachComesFrom : okMc mX6_reachComesFrom := ⟨okmX6_reachComesFrom, List.mem_of_getElem? (i := 324) (by decide +kernel), List.mem_of_getElem? (i := 67) (by decide +kernel), by decide +kernel, by decide +kernel⟩
theorem dqX6_mend_0 : ∀ e ∈ tX6_mend_0, rLq e.2.1 e.2.2 = true := by decide +kernel
theorem okmX6_mend : okM mX6_mend := ⟨by decide +kernel, rfl, dtX6_mend_0, dqX6_mend_0, Nat.le_of_ble_eq_true rfl⟩
theorem okpX6_mend : okMc mX6_mend := ⟨okmX6_mend, List.mem_of_getElem? (i := 336) (by decide +kernel), List.mem_of_getElem? (i := 67) (by decide +kernel), by decide +kernel, by decide +kernel⟩
theorem dqX6_of_0 : ∀ e ∈ tX6_of_0, rLq e.2.1 e.2.2 = true := by decide +kernel
theorem okmX6_of : okM mX6_of := ⟨by decide +kernel, rfl, dtX6_of_0, dqX6_of_0, Nat.le_of_ble_eq_true rfl⟩
theorem okpX6_of : okMc mX6_of := ⟨okmX6_of, List.mem_of_getElem? (i := 369) (by decide +kernel), List.mem_of_getElem? (i := 67) (by decide +kernel), by decide +kernel, by decide +kernel⟩
theorem dqX6_feed_0 : ∀ e ∈ tX6_feed_0, rLq e.2.1 e.2.2 = true := by decide +kernel
theorem okmX6_feed : okM mX6_feed := ⟨by decide +kernel, rfl, dtX6_feed_0, dqX6_feed_0, Nat.le_of_ble_eq_true rfl⟩
theorem okpX6_feed : okMc mX6_feed := ⟨okmX6_feed, List.mem_of_getElem? (i := 373) (by decide +kernel), List.mem_of_getElem? (i := 67) (by decide +kernel), by decide +kernel, by decide +kernel⟩
theorem dqX6_law_0 : ∀ e ∈ tX6_law_0, rLq e.2.1 e.2.2 = true := by decide +kernel
theorem okmX6_law : okM mX6_law := ⟨by decide +kernel, rfl, dtX6_law_0, dqX6_law_0, Nat.le_of_ble_eq_true rfl⟩
theorem okpX6_law : okMc mX6_law := ⟨okmX6_law, List.mem_of_getElem? (i := 381) (by decide +kernel), List.mem_of_getElem? (i := 67) (by decide +kernel), by decide +kernel, by decide +kernel⟩
theorem dqX6_goes_0 : ∀ e ∈ tX6_goes_0, rLq e.2.1 e.2.2 = true := by decide +kernel
theorem okmX6_goes : okM mX6_goes := ⟨by decide +kernel, rfl, dtX6_goes_0, dqX6_goes_0, Nat.le_of_ble_eq_true rfl⟩
theorem okpX6_goes : okMc mX6_goes := ⟨okmX6_goes, List.mem_of_getElem? (i := 455) (by decide +kernel), List.mem_of_getElem? (i := 67) (by decide +kernel), by decide +kernel, by decide +kernel⟩
theorem dqX6_later_0 : ∀ e ∈ tX6_later_0, rLq e.2.1 e.2.2 = true := by decide +kernel
theorem dqX6_later_1 : ∀ e ∈ tX6_later_1, rLq e.2.1 e.2.2 = true := by decide +kernel
theorem okmX6_later : okM mX6_later := ⟨by decide +kernel, rfl, List.forall_mem_append.mpr ⟨dtX6_later_0, dtX6_later_1⟩, List.forall_mem_append.mpr ⟨dqX6_later_0, dqX6_later_1⟩, Nat.le_of_ble_eq_true rfl⟩
theorem okpX6_later : okMc mX6_later := ⟨okmX6_later, List.mem_of_getElem? (i := 491) (by decide +kernel), List.mem_of_getElem? (i := 67) (by decide +kernel), by decide +kernel, by decide +kernel⟩
theorem dqX6_river_0 : ∀ e ∈ tX6_river_0, rLq e.2.1 e.2.2 = true := by decide +kernel
theorem okmX6_river : okM mX6_river := ⟨by decide +kernel, rfl, dtX6_river_0, dqX6_river_0, Nat.le_of_ble_eq_true rfl⟩
theorem okpX6_river : okMc mX6_river := ⟨okmX6_river, List.mem_of_getElem? (i := 517) (by decide +kernel), List.mem_of_getElem? (i := 67) (by decide +kernel), by decide +kernel, by decide +kernel⟩
theorem dqX6_over_0 : ∀ e ∈ tX6_over_0, rLq e.2.1 e.2.2 = true := by decide +kernel
theorem dqX6_over_1 : ∀ e ∈ tX6_over_1, rLq e.2.1 e.2.2 = true := by decide +kernel
theorem okmX6_over : okM mX6_over := ⟨by decide +kernel, rfl, List.forall_mem_append.mpr ⟨dtX6_over_0, dtX6_over_1⟩, List.forall_mem_append.mpr ⟨dqX6_over_0, dqX6_over_1⟩, Nat.le_of_ble_eq_true rfl⟩
theorem okpX6_over : okMc mX6_over := ⟨okmX6_over, List.mem_of_getElem? (i := 529) (by decide +kernel), List.mem_of_getElem? (i := 67) (by decide +kernel), by decide +kernel, by decide +kernel⟩
theorem dqX6_signs_0 : ∀ e ∈ tX6_signs_0, rLq e.2.1 e.2.2 = true := by decide +kernel
theorem dqX6_signs_1 : ∀ e ∈ tX6_signs_1, rLq e.2.1 e.2.2 = true := by decide +kernel
theorem dqX6_signs_2 : ∀ e ∈ tX6_signs_2, rLq e.2.1 e.2.2 = true := by decide +kernel
theorem okmX6_signs : okM mX6_signs := ⟨by decide +kernel, rfl, List.forall_mem_append.mpr ⟨dtX6_signs_0, List.forall_mem_append.mpr ⟨dtX6_signs_1, dtX6_signs_2⟩⟩, List.forall_mem_append.mpr ⟨dqX6_signs_0, List.forall_mem_append.mpr ⟨dqX6_signs_1, dqX6_signs_2⟩⟩, Nat.le_of_ble_eq_true rfl⟩
theorem okpX6_signs : okMc mX6_signs := ⟨okmX6_signs, List.mem_of_getElem? (i := 537) (by decide +kernel), List.mem_of_getElem? (i := 67) (by decide +kernel), by decide +kernel, by decide +kernel⟩
theorem dqX6_still_0 : ∀ e ∈ tX6_still_0, rLq e.2.1 e.2.2 = true := by decide +kernel
theorem dqX6_still_1 : ∀ e ∈ tX6_still_1, rLq e.2.1 e.2.2 = true := by decide +kernel
theorem okmX6_still : okM mX6_still := ⟨by decide +kernel, rfl, List.forall_mem_append.mpr ⟨dtX6_still_0, dtX6_still_1⟩, List.forall_mem_append.mpr ⟨dqX6_still_0, dqX6_still_1⟩, Nat.le_of_ble_eq_true rfl⟩
theorem okpX6_still : okMc mX6_still := ⟨okmX6_still, List.mem_of_getElem? (i := 541) (by decide +kernel), List.mem_of_getElem? (i := 67) (by decide +kernel), by decide +kernel, by decide +kernel⟩
theorem dqX6_throwIn_0 : ∀ e ∈ tX6_throwIn_0, rLq e.2.1 e.2.2 = true := by decide +kernel
theorem dqX6_throwIn_1 : ∀ e ∈ tX6_throwIn_1, rLq e.2.1 e.2.2 = true := by decide +kernel
theorem okmX6_throwIn : okM mX6_throwIn := ⟨by decide +kernel, rfl, List.forall_mem_append.mpr ⟨dtX6_throwIn_0, dtX6_throwIn_1⟩, List.forall_mem_append.mpr ⟨dqX6_throwIn_0, dqX6_throwIn_1⟩, Nat.le_of_ble_eq_true rfl⟩
theorem okpX6_throwIn : okMc mX6_throwIn := ⟨okmX6_throwIn, List.mem_of_getElem? (i := 549) (by decide +kernel), List.mem_of_getElem? (i := 67) (by decide +kernel), by decide +kernel, by decide +kernel⟩
theorem dqX6_comesSafelyTo_0 : ∀ e ∈ tX6_comesSafelyTo_0, rLq e.2.1 e.2.2 = true := by decide +kernel
theorem okmX6_comesSafelyTo : okM mX6_comesSafelyTo := ⟨by decide +kernel, rfl, dtX6_comesSafelyTo_0, dqX6_comesSafelyTo_0, Nat.le_of_ble_eq_true rfl⟩
theorem okpX6_comesSafelyTo : okMc mX6_comesSafelyTo := ⟨okmX6_comesSafelyTo, List.mem_of_getElem? (i := 553) (by decide +kernel), List.mem_of_getElem? (i := 67) (by decide +kernel), by decide +kernel, by decide +kernel⟩
theorem dqX6_bridges_0 : ∀ e ∈ tX6_bridges_0, rLq e.2.1 e.2.2 = true := by decide +kernel
theorem dqX6_bridges_1 : ∀ e ∈ tX6_bridges_1, rLq e.2.1 e.2.2 = true := by decide +kernel
theorem dqX6_bridges_2 : ∀ e ∈ tX6_bridges_2, rLq e.2.1 e.2.2 = true := by decide +kernel
theorem okmX6_bridges : okM mX6_bridges := ⟨by decide +kernel, rfl, List.forall_mem_append.mpr ⟨dtX6_bridges_0, List.forall_mem_append.mpr ⟨dtX6_bridges_1, dtX6_bridges_2⟩⟩, List.forall_mem_append.mpr ⟨dqX6_bridges_0, List.forall_mem_append.mpr ⟨dqX6_bridges_1, dqX6_bridges_2⟩⟩, Nat.le_of_ble_eq_true rfl⟩
theorem okpX6_bridges : okMc mX6_bridges := ⟨okmX6_bridges, List.mem_of_getElem? (i := 557) (by decide +kernel), List.mem_of_getElem? (i := 67) (by decide +kernel), by decide +kernel, by decide +kernel⟩
theorem dqX6_thinkBridged_0 : ∀ e ∈ tX6_thinkBridged_0, rLq e.2.1 e.2.2 = true := by decide +kernel
theorem okmX6_thinkBridged : okM mX6_thinkBridged := ⟨by decide +kernel, rfl, dtX6_thinkBridged_0, dqX6_thinkBridged_0, Nat.le_of_ble_eq_true rfl⟩
theorem okpX6_thinkBridged : okMc mX6_thinkBridged := ⟨okmX6_thinkBridged, List.mem_of_getElem? (i := 561) (by decide +kernel), List.mem_of_getElem? (i := 67) (by decide +kernel), by decide +kernel, by decide +kernel⟩
theorem dqX6_ring_0 : ∀ e ∈ tX6_ring_0, rLq e.2.1 e.2.2 = true := by decide +kernel
theorem dqX6_ring_1 : ∀ e ∈ tX6_ring_1, rLq e.2.1 e.2.2 = true := by decide +kernel
theorem okmX6_ring : okM mX6_ring := ⟨by decide +kernel, rfl, List.forall_mem_append.mpr ⟨dtX6_ring_0, dtX6_ring_1⟩, List.forall_mem_append.mpr ⟨dqX6_ring_0, dqX6_ring_1⟩, Nat.le_of_ble_eq_true rfl⟩
theorem okpX6_ring : okMc mX6_ring := ⟨okmX6_ring, List.mem_of_getElem? (i := 571) (by decide +kernel), List.mem_of_getElem? (i := 67) (by decide +kernel), by decide +kernel, by decide +kernel⟩
theorem dqX6_judge_0 : ∀ e ∈ tX6_judge_0, rLq e.2.1 e.2.2 = true := by decide +kernel
theorem okmX6_judge : okM mX6_judge := ⟨by decide +kernel, rfl, dtX6_judge_0, dqX6_judge_0, Nat.le_of_ble_eq_true rfl⟩
theorem okpX6_judge : okMc mX6_judge := ⟨okmX6_judge, List.mem_of_getElem? (i := 575) (by decide +kernel), List.mem_of_getElem? (i := 67) (by decide +kernel), by decide +kernel, by decide +kernel⟩
theorem dqX6_firstUnlike_0 : ∀ e ∈ tX6_firstUnlike_0, rLq e.2.1 e.2.2 = true := by decide +kernel
theorem okmX6_firstUnlike : okM mX6_firstUnlike := ⟨by decide +kernel, rfl, dtX6_firstUnlike_0, dqX6_firstUnlike_0, Nat.le_of_ble_eq_true rfl⟩
theorem okpX6_firstUnlike : okMc mX6_firstUnlike := ⟨okmX6_firstUnlike, List.mem_of_getElem? (i := 579) (by decide +kernel), List.mem_of_getElem? (i := 67) (by decide +kernel), by decide +kernel, by decide +kernel⟩
theorem dqX6_fits_0 : ∀ e ∈ tX6_fits_0, rLq e.2.1 e.2.2 = true := by decide +kernel
theorem dqX6_fits_1 : ∀ e ∈ tX6_fits_1, rLq e.2.1 e.2.2 = true := by decide +kernel
theorem dqX6_fits_2 : ∀ e ∈ tX6_fits_2, rLq e.2.1 e.2.2 = true := by decide +kernel
theorem okmX6_fits : okM mX6_fits := ⟨by decide +kernel, rfl, List.forall_mem_append.mpr ⟨dtX6_fits_0, List.forall_mem_append.mpr ⟨dtX6_fits_1, dtX6_fits_2⟩⟩, List.forall_mem_append.mpr ⟨dqX6_fits_0, List.forall_mem_append.mpr ⟨dqX6_fits_1, dqX6_fits_2⟩⟩, Nat.le_of_ble_eq_true rfl⟩
theorem okpX6_fits : okMc mX6_fits := ⟨okmX6_fits, List.mem_of_getElem? (i := 583) (by decide +kernel), List.mem_of_getElem? (i := 67) (by decide +kernel), by decide +kernel, by decide +kernel⟩
theorem dqX6_hears_0 : ∀ e ∈ tX6_hears_0, rLq e.2.1 e.2.2 = true := by decide +kernel
theorem dqX6_hears_1 : ∀ e ∈ tX6_hears_1, rLq e.2.1 e.2.2 = true := by decide +kernel
theorem okmX6_hears : okM mX6_hears := ⟨by decide +kernel, rfl, List.forall_mem_append.mpr ⟨dtX6_hears_0, dtX6_hears_1⟩, List.forall_mem_append.mpr ⟨dqX6_hears_0, dqX6_hears_1⟩, Nat.le_of_ble_eq_true rfl⟩
theorem okpX6_hears : okMc mX6_hears := ⟨okmX6_hears, List.mem_of_getElem? (i := 590) (by decide +kernel), List.mem_of_getElem? (i := 67) (by decide +kernel), by decide +kernel, by decide +kernel⟩
theorem dqX6_odd_0 : ∀ e ∈ tX6_odd_0, rLq e.2.1 e.2.2 = true := by decide +kernel
theorem okmX6_odd : okM mX6_odd := ⟨by decide +kernel, rfl, dtX6_odd_0, dqX6_odd_0, Nat.le_of_ble_eq_true rfl⟩
theorem okpX6_odd : okMc mX6_odd := ⟨okmX6_odd, List.mem_of_getElem? (i := 601) (by decide +kernel), List.mem_of_getElem? (i := 67) (by decide +kernel), by decide +kernel, by decide +kernel⟩
theorem dqX6_doublings_0 : ∀ e ∈ tX6_doublings_0, rLq e.2.1 e.2.2 = true := by decide +kernel
theorem okmX6_doublings : okM mX6_doublings := ⟨by decide +kernel, rfl, dtX6_doublings_0, dqX6_doublings_0, Nat.le_of_ble_eq_true rfl⟩
theorem okpX6_doublings : okMc mX6_doublings := ⟨okmX6_doublings, List.mem_of_getElem? (i := 594) (by decide +kernel), List.mem_of_getElem? (i := 67) (by decide +kernel), by decide +kernel, by decide +kernel⟩
theorem dqX6_answersOf_0 : ∀ e ∈ tX6_answersOf_0, rLq e.2.1 e.2.2 = true := by decide +kernel
theorem dqX6_answersOf_1 : ∀ e ∈ tX6_answersOf_1, rLq e.2.1 e.2.2 = true := by decide +kernel
theorem okmX6_answersOf : okM mX6_answersOf := ⟨by decide +kernel, rfl, List.forall_mem_append.mpr ⟨dtX6_answersOf_0, dtX6_answersOf_1⟩, List.forall_mem_append.mpr ⟨dqX6_answersOf_0, dqX6_answersOf_1⟩, Nat.le_of_ble_eq_true rfl⟩
theorem okpX6_answersOf : okMc mX6_answersOf := ⟨okmX6_answersOf, List.mem_of_getElem? (i := 597) (by decide +kernel), List.mem_of_getElem? (i := 67) (by decide +kernel), by decide +kernel, by decide +kernel⟩
theorem dqX6_byTurns_0 : ∀ e ∈ tX6_byTurns_0, rLq e.2.1 e.2.2 = true := by decide +kernel
theorem dqX6_byTurns_1 : ∀ e ∈ tX6_byTurns_1, rLq e.2.1 e.2.2 = true := by decide +kernel
theorem dqX6_byTurns_2 : ∀ e ∈ tX6_byTurns_2, rLq e.2.1 e.2.2 = true := by decide +kernel
theorem okmX6_byTurns : okM mX6_byTurns := ⟨by decide +kernel, rfl, List.forall_mem_append.mpr ⟨dtX6_byTurns_0, List.forall_mem_append.mpr ⟨dtX6_byTurns_1, dtX6_byTurns_2⟩⟩, List.forall_mem_append.mpr ⟨dqX6_byTurns_0, List.forall_mem_append.mpr ⟨dqX6_byTurns_1, dqX6_byTurns_2⟩⟩, Nat.le_of_ble_eq_true rfl⟩
theorem okpX6_byTurns : okMc mX6_byTurns := ⟨okmX6_byTurns, List.mem_of_getElem? (i := 606) (by decide +kernel), List.mem_of_getElem? (i := 67) (by decide +kernel), by decide +kernel, by decide +kernel⟩
theorem dqX6_played_0 : ∀ e ∈ tX6_played_0, rLq e.2.1 e.2.2 = true := by decide +kernel
theorem dqX6_played_1 : ∀ e ∈ tX6_played_1, rLq e.2.1 e.2.2 = true := by decide +kernel
theorem okmX6_played : okM mX6_played := ⟨by decide +kernel, rfl, List.forall_mem_append.mpr ⟨dtX6_played_0, dtX6_played_1⟩, List.forall_mem_append.mpr ⟨dqX6_played_0, dqX6_played_1⟩, Nat.le_of_ble_eq_true rfl⟩
theorem okpX6_played : okMc mX6_played := ⟨okmX6_played, List.mem_of_getElem? (i := 610) (by decide +kernel), List.mem_of_getElem? (i := 67) (by decide +kernel), by decide +kernel, by decide +kernel⟩
theorem dqX6_differenceBehind_0 : ∀ e ∈ tX6_differenceBehind_0, rLq e.2.1 e.2.2 = true := by decide +kernel
theorem dqX6_differenceBehind_1 : ∀ e ∈ tX6_differenceBehind_1, rLq e.2.1 e.2.2 = true := by decide +kernel
theorem okmX6_differenceBehind : okM mX6_differenceBehind := ⟨by decide +kernel, rfl, List.forall_mem_append.mpr ⟨dtX6_differenceBehind_0, dtX6_differenceBehind_1⟩, List.forall_mem_append.mpr ⟨dqX6_differenceBehind_0, dqX6_differenceBehind_1⟩, Nat.le_of_ble_eq_true rfl⟩
theorem okpX6_differenceBehind : okMc mX6_differenceBehind := ⟨okmX6_differenceBehind, List.mem_of_getElem? (i := 614) (by decide +kernel), List.mem_of_getElem? (i := 67) (by decide +kernel), by decide +kernel, by decide +kernel⟩
theorem dqX6_handled_0 : ∀ e ∈ tX6_handled_0, rLq e.2.1 e.2.2 = true := by decide +kernel
theorem okmX6_handled : okM mX6_handled := ⟨by decide +kernel, rfl, dtX6_handled_0, dqX6_handled_0, Nat.le_of_ble_eq_true rfl⟩
theorem okpX6_handled : okMc mX6_handled := ⟨okmX6_handled, List.mem_of_getElem? (i := 617) (by decide +kernel), List.mem_of_getElem? (i := 67) (by decide +kernel), by decide +kernel, by decide +kernel⟩
theorem dqX6_drawn_0 : ∀ e ∈ tX6_drawn_0, rLq e.2.1 e.2.2 = true := by decide +kernel
theorem dqX6_drawn_1 : ∀ e ∈ tX6_drawn_1, rLq e.2.1 e.2.2 = true := by decide +kernel
theorem dqX6_drawn_2 : ∀ e ∈ tX6_drawn_2, rLq e.2.1 e.2.2 = true := by decide +kernel
theorem okmX6_drawn : okM mX6_drawn := ⟨by decide +kernel, rfl, List.forall_mem_append.mpr ⟨dtX6_drawn_0, List.forall_mem_append.mpr ⟨dtX6_drawn_1, dtX6_drawn_2⟩⟩, List.forall_mem_append.mpr ⟨dqX6_drawn_0, List.forall_mem_append.mpr ⟨dqX6_drawn_1, dqX6_drawn_2⟩⟩, Nat.le_of_ble_eq_true rfl⟩
theorem okpX6_drawn : okMc mX6_drawn := ⟨okmX6_drawn, List.mem_of_getElem? (i := 622) (by decide +kernel), List.mem_of_getElem? (i := 67) (by decide +kernel), by decide +kernel, by decide +kernel⟩
theorem dqX6_day_0 : ∀ e ∈ tX6_day_0, rLq e.2.1 e.2.2 = true := by decide +kernel
theorem dqX6_day_1 : ∀ e ∈ tX6_day_1, rLq e.2.1 e.2.2 = true := by decide +kernel
theorem dqX6_day_2 : ∀ e ∈ tX6_day_2, rLq e.2.1 e.2.2 = true := by decide +kernel
theorem okmX6_day : okM mX6_day := ⟨by decide +kernel, rfl, List.forall_mem_append.mpr ⟨dtX6_day_0, List.forall_mem_append.mpr ⟨dtX6_day_1, dtX6_day_2⟩⟩, List.forall_mem_append.mpr ⟨dqX6_day_0, List.forall_mem_append.mpr ⟨dqX6_day_1, dqX6_day_2⟩⟩, Nat.le_of_ble_eq_true rfl⟩
theorem okpX6_day : okMc mX6_day := ⟨okmX6_day, List.mem_of_getElem? (i := 627) (by decide +kernel), List.mem_of_getElem? (i := 67) (by decide +kernel), by decide +kernel, by decide +kernel⟩
theorem dqX6_gift_0 : ∀ e ∈ tX6_gift_0, rLq e.2.1 e.2.2 = true := by decide +kernel
theorem dqX6_gift_1 : ∀ e ∈ tX6_gift_1, rLq e.2.1 e.2.2 = true := by decide +kernel
theorem okmX6_gift : okM mX6_gift := ⟨by decide +kernel, rfl, List.forall_mem_append.mpr ⟨dtX6_gift_0, dtX6_gift_1⟩, List.forall_mem_append.mpr ⟨dqX6_gift_0, dqX6_gift_1⟩, Nat.le_of_ble_eq_true rfl⟩
theorem okpX6_gift : okMc mX6_gift := ⟨okmX6_gift, List.mem_of_getElem? (i := 631) (by decide +kernel), List.mem_of_getElem? (i := 67) (by decide +kernel), by decide +kernel, by decide +kernel⟩
theorem dqX6_build_0 : ∀ e ∈ tX6_build_0, rLq e.2.1 e.2.2 = true := by decide +kernel
theorem okmX6_build : okM mX6_build := ⟨by decide +kernel, rfl, dtX6_build_0, dqX6_build_0, Nat.le_of_ble_eq_true rfl⟩
theorem okpX6_build : okMc mX6_build := ⟨okmX6_build, List.mem_of_getElem? (i := 635) (by decide +kernel), List.mem_of_getElem? (i := 67) (by decide +kernel), by decide +kernel, by decide +kernel⟩
theorem dqX6_led_0 : ∀ e ∈ tX6_led_0, rLq e.2.1 e.2.2 = true := by decide +kernel
theorem okmX6_led : okM mX6_led := ⟨by decide +kernel, rfl, dtX6_led_0, dqX6_led_0, Nat.le_of_ble_eq_true rfl⟩
theorem okpX6_led : okMc mX6_led := ⟨okmX6_led, List.mem_of_getElem? (i := 639) (by decide +kernel), List.mem_of_getElem? (i := 67) (by decide +kernel), by decide +kernel, by decide +kernel⟩
theorem dqX6_image_0 : ∀ e ∈ tX6_image_0, rLq e.2.1 e.2.2 = true := by decide +kernel
theorem okmX6_image : okM mX6_image := ⟨by decide +kernel, rfl, dtX6_image_0, dqX6_image_0, Nat.le_of_ble_eq_true rfl⟩
theorem okpX6_image : okMc mX6_image := ⟨okmX6_image, List.mem_of_getElem? (i := 643) (by decide +kernel), List.mem_of_getElem? (i := 67) (by decide +kernel), by decide +kernel, by decide +kernel⟩
theorem dqX6_back_0 : ∀ e ∈ tX6_back_0, rLq e.2.1 e.2.2 = true := by decide +kernel
theorem okmX6_back : okM mX6_back := ⟨by decide +kernel, rfl, dtX6_back_0, dqX6_back_0, Nat.le_of_ble_eq_true rfl⟩
theorem okpX6_back : okMc mX6_back := ⟨okmX6_back, List.mem_of_getElem? (i := 648) (by decide +kernel), List.mem_of_getElem? (i := 67) (by decide +kernel), by decide +kernel, by decide +kernel⟩
theorem dqX6_undo_0 : ∀ e ∈ tX6_undo_0, rLq e.2.1 e.2.2 = true := by decide +kernel
theorem okmX6_undo : okM mX6_undo := ⟨by decide +kernel, rfl, dtX6_undo_0, dqX6_undo_0, Nat.le_of_ble_eq_true rfl⟩
theorem okpX6_undo : okMc mX6_undo := ⟨okmX6_undo, List.mem_of_getElem? (i := 653) (by decide +kernel), List.mem_of_getElem? (i := 67) (by decide +kernel), by decide +kernel, by decide +kernel⟩
theorem dqX6_redo_0 : ∀ e ∈ tX6_redo_0, rLq e.2.1 e.2.2 = true := by decide +kernel
theorem okmX6_redo : okM mX6_redo := ⟨by decide +kernel, rfl, dtX6_redo_0, dqX6_redo_0, Nat.le_of_ble_eq_true rfl⟩
theorem okpX6_redo : okMc mX6_redo := ⟨okmX6_redo, List.mem_of_getElem? (i := 662) (by decide +kernel), List.mem_of_getElem? (i := 67) (by decide +kernel), by decide +kernel, by decide +kernel⟩
theorem dqX6_body_0 : ∀ e ∈ tX6_body_0, rLq e.2.1 e.2.2 = true := by decide +kernel
theorem okmX6_body : okM mX6_body := ⟨by decide +kernel, rfl, dtX6_body_0, dqX6_body_0, Nat.le_of_ble_eq_true rfl⟩
theorem okpX6_body : okMc mX6_body := ⟨okmX6_body, List.mem_of_getElem? (i := 670) (by decide +kernel), List.mem_of_getElem? (i := 67) (by decide +kernel), by decide +kernel, by decide +kernel⟩
theorem dqX6_act_0 : ∀ e ∈ tX6_act_0, rLq e.2.1 e.2.2 = true := by decide +kernel
theorem okmX6_act : okM mX6_act := ⟨by decide +kernel, rfl, dtX6_act_0, dqX6_act_0, Nat.le_of_ble_eq_true rfl⟩
theorem okpX6_act : okMc mX6_act := ⟨okmX6_act, List.mem_of_getElem? (i := 686) (by decide +kernel), List.mem_of_getElem? (i := 67) (by decide +kernel), by decide +kernel, by decide +kernel⟩
theorem dqX6_trace_0 : ∀ e ∈ tX6_trace_0, rLq e.2.1 e.2.2 = true := by decide +kernel
theorem okmX6_trace : okM mX6_trace := ⟨by decide +kernel, rfl, dtX6_trace_0, dqX6_trace_0, Nat.le_of_ble_eq_true rfl⟩
theorem okpX6_trace : okMc mX6_trace := ⟨okmX6_trace, List.mem_of_getElem? (i := 722) (by decide +kernel), List.mem_of_getElem? (i := 67) (by decide +kernel), by decide +kernel, by decide +kernel⟩
theorem dqX6_keep_0 : ∀ e ∈ tX6_keep_0, rLq e.2.1 e.2.2 = true := by decide +kernel
theorem okmX6_keep : okM mX6_keep := ⟨by decide +kernel, rfl, dtX6_keep_0, dqX6_keep_0, Nat.le_of_ble_eq_true rfl⟩
theorem okpX6_keep : okMc mX6_keep := ⟨okmX6_keep, List.mem_of_getElem? (i := 731) (by decide +kernel), List.mem_of_getElem? (i := 67) (by decide +kernel), by decide +kernel, by decide +kernel⟩
theorem dqX6_row_0 : ∀ e ∈ tX6_row_0, rLq e.2.1 e.2.2 = true := by decide +kernel
theorem okmX6_row : okM mX6_row := ⟨by decide +kernel, rfl, dtX6_row_0, dqX6_row_0, Nat.le_of_ble_eq_true rfl⟩
theorem okpX6_row : okMc mX6_row := ⟨okmX6_row, List.mem_of_getElem? (i := 744) (by decide +kernel), List.mem_of_getElem? (i := 67) (by decide +kernel), by decide +kernel, by decide +kernel⟩
theorem dqX6_put_0 : ∀ e ∈ tX6_put_0, rLq e.2.1 e.2.2 = true := by decide +kernel
theorem okmX6_put : okM mX6_put := ⟨by decide +kernel, rfl, dtX6_put_0, dqX6_put_0, Nat.le_of_ble_eq_true rfl⟩
theorem okpX6_put : okMc mX6_put := ⟨okmX6_put, List.mem_of_getElem? (i := 754) (by decide +kernel), List.mem_of_getElem? (i := 67) (by decide +kernel), by decide +kernel, by decide +kernel⟩
theorem dqX6_element_0 : ∀ e ∈ tX6_element_0, rLq e.2.1 e.2.2 = true := by decide +kernel
theorem okmX6_element : okM mX6_element := ⟨by decide +kernel, rfl, dtX6_element_0, dqX6_element_0, Nat.le_of_ble_eq_true rfl⟩
theorem okpX6_element : okMc mX6_element := ⟨okmX6_element, List.mem_of_getElem? (i := 766) (by decide +kernel), List.mem_of_getElem? (i := 67) (by decide +kernel), by decide +kernel, by decide +kernel⟩
theorem dqX6_shift_0 : ∀ e ∈ tX6_shift_0, rLq e.2.1 e.2.2 = true := by decide +kernel
theorem dqX6_shift_1 : ∀ e ∈ tX6_shift_1, rLq e.2.1 e.2.2 = true := by decide +kernel
theorem okmX6_shift : okM mX6_shift := ⟨by decide +kernel, rfl, List.forall_mem_append.mpr ⟨dtX6_shift_0, dtX6_shift_1⟩, List.forall_mem_append.mpr ⟨dqX6_shift_0, dqX6_shift_1⟩, Nat.le_of_ble_eq_true rfl⟩
theorem okpX6_shift : okMc mX6_shift := ⟨okmX6_shift, List.mem_of_getElem? (i := 770) (by decide +kernel), List.mem_of_getElem? (i := 67) (by decide +kernel), by decide +kernel, by decide +kernel⟩
theorem dqX6_taken_0 : ∀ e ∈ tX6_taken_0, rLq e.2.1 e.2.2 = true := by decide +kernel
theorem dqX6_taken_1 : ∀ e ∈ tX6_taken_1, rLq e.2.1 e.2.2 = true := by decide +kernel
theorem okmX6_taken : okM mX6_taken := ⟨by decide +kernel, rfl, List.forall_mem_append.mpr ⟨dtX6_taken_0, dtX6_taken_1⟩, List.forall_mem_append.mpr ⟨dqX6_taken_0, dqX6_taken_1⟩, Nat.le_of_ble_eq_true rfl⟩
theorem okpX6_taken : okMc mX6_taken := ⟨okmX6_taken, List.mem_of_getElem? (i := 774) (by decide +kernel), List.mem_of_getElem? (i := 67) (by decide +kernel), by decide +kernel, by decide +kernel⟩
theorem dqX6_count_0 : ∀ e ∈ tX6_count_0, rLq e.2.1 e.2.2 = true := by decide +kernel
theorem okmX6_count : okM mX6_count := ⟨by decide +kernel, rfl, dtX6_count_0, dqX6_count_0, Nat.le_of_ble_eq_true rfl⟩
theorem okpX6_count : okMc mX6_count := ⟨okmX6_count, List.mem_of_getElem? (i := 782) (by decide +kernel), List.mem_of_getElem? (i := 67) (by decide +kernel), by decide +kernel, by decide +kernel⟩
theorem dqX6_isReach_0 : ∀ e ∈ tX6_isReach_0, rLq e.2.1 e.2.2 = true := by decide +kernel
theorem okmX6_isReach : okM mX6_isReach := ⟨by decide +kernel, rfl, dtX6_isReach_0, dqX6_isReach_0, Nat.le_of_ble_eq_true rfl⟩
theorem okpX6_isReach : okMc mX6_isReach := ⟨okmX6_isReach, List.mem_of_getElem? (i := 459) (by decide +kernel), List.mem_of_getElem? (i := 67) (by decide +kernel), by decide +kernel, by decide +kernel⟩
theorem dqX6_isShelf_0 : ∀ e ∈ tX6_isShelf_0, rLq e.2.1 e.2.2 = true := by decide +kernel
theorem okmX6_isShelf : okM mX6_isShelf := ⟨by decide +kernel, rfl, dtX6_isShelf_0, dqX6_isShelf_0, Nat.le_of_ble_eq_true rfl⟩
theorem okpX6_isShelf : okMc mX6_isShelf := ⟨okmX6_isShelf, List.mem_of_getElem? (i := 312) (by decide +kernel), List.mem_of_getElem? (i := 67) (by decide +kernel), by decide +kernel, by decide +kernel⟩
theorem dqX6_think_0 : ∀ e ∈ tX6_think_0, rLq e.2.1 e.2.2 = true := by decide +kernel
theorem okmX6_think : okM mX6_think := ⟨by decide +kernel, rfl, dtX6_think_0, dqX6_think_0, Nat.le_of_ble_eq_true rfl⟩
theorem okpX6_think : okMc mX6_think := ⟨okmX6_think, List.mem_of_getElem? (i := 495) (by decide +kernel), List.mem_of_getElem? (i := 67) (by decide +kernel), by decide +kernel, by decide +kernel⟩
theorem dqX6_signOf_0 : ∀ e ∈ tX6_signOf_0, rLq e.2.1 e.2.2 = true := by decide +kernel
theorem okmX6_signOf : okM mX6_signOf := ⟨by decide +kernel, rfl, dtX6_signOf_0, dqX6_signOf_0, Nat.le_of_ble_eq_true rfl⟩
theorem okpX6_signOf : okMc mX6_signOf := ⟨okmX6_signOf, List.mem_of_getElem? (i := 513) (by decide +kernel), List.mem_of_getElem? (i := 67) (by decide +kernel), by decide +kernel, by decide +kernel⟩
theorem dqX6_within_0 : ∀ e ∈ tX6_within_0, rLq e.2.1 e.2.2 = true := by decide +kernel
theorem okmX6_within : okM mX6_within := ⟨by decide +kernel, rfl, dtX6_within_0, dqX6_within_0, Nat.le_of_ble_eq_true rfl⟩
theorem okpX6_within : okMc mX6_within := ⟨okmX6_within, List.mem_of_getElem? (i := 480) (by decide +kernel), List.mem_of_getElem? (i := 67) (by decide +kernel), by decide +kernel, by decide +kernel⟩
theorem dqX7_init_0 : ∀ e ∈ tX7_init_0, rLq e.2.1 e.2.2 = true := by decide +kernel
theorem dqX7_init_1 : ∀ e ∈ tX7_init_1, rLq e.2.1 e.2.2 = true := by decide +kernel
theorem dqX7_init_2 : ∀ e ∈ tX7_init_2, rLq e.2.1 e.2.2 = true := by decide +kernel
theorem dqX7_init_3 : ∀ e ∈ tX7_init_3, rLq e.2.1 e.2.2 = true := by decide +kernel
theorem okmX7_init : okM mX7_init := ⟨by decide +kernel, rfl, List.forall_mem_append.mpr ⟨dtX7_init_0, List.forall_mem_append.mpr ⟨dtX7_init_1, List.forall_mem_append.mpr ⟨dtX7_init_2, dtX7_init_3⟩⟩⟩, List.forall_mem_append.mpr ⟨dqX7_init_0, List.forall_mem_append.mpr ⟨dqX7_init_1, List.forall_mem_append.mpr ⟨dqX7_init_2, dqX7_init_3⟩⟩⟩, Nat.le_of_ble_eq_true rfl⟩
theorem okpX7_init : okMc mX7_init := ⟨okmX7_init, List.mem_of_getElem? (i := 787) (by decide +kernel), List.mem_of_getElem? (i := 74) (by decide +kernel), by decide +kernel, by decide +kernel⟩
theorem dqX7_within_0 : ∀ e ∈ tX7_within_0, rLq e.2.1 e.2.2 = true := by decide +kernel
theorem okmX7_within : okM mX7_within := ⟨by decide +kernel, rfl, dtX7_within_0, dqX7_within_0, Nat.le_of_ble_eq_true rfl⟩
theorem okpX7_within : okMc mX7_within := ⟨okmX7_within, List.mem_of_getElem? (i := 922) (by decide +kernel), List.mem_of_getElem? (i := 74) (by decide +kernel), by decide +kernel, by decide +kernel⟩
theorem dqX7_isOne_0 : ∀ e ∈ tX7_isOne_0, rLq e.2.1 e.2.2 = true := by decide +kernel
theorem okmX7_isOne : okM mX7_isOne := ⟨by decide +kernel, rfl, dtX7_isOne_0, dqX7_isOne_0, Nat.le_of_ble_eq_true rfl⟩
theorem okpX7_isOne : okMc mX7_isOne := ⟨okmX7_isOne, List.mem_of_getElem? (i := 950) (by decide +kernel), List.mem_of_getElem? (i := 74) (by decide +kernel), by decide +kernel, by decide +kernel⟩
theorem dqX7_isTime_0 : ∀ e ∈ tX7_isTime_0, rLq e.2.1 e.2.2 = true := by decide +kernel
theorem okmX7_isTime : okM mX7_isTime := ⟨by decide +kernel, rfl, dtX7_isTime_0, dqX7_isTime_0, Nat.le_of_ble_eq_true rfl⟩
theorem okpX7_isTime : okMc mX7_isTime := ⟨okmX7_isTime, List.mem_of_getElem? (i := 1080) (by decide +kernel), List.mem_of_getElem? (i := 74) (by decide +kernel), by decide +kernel, by decide +kernel⟩
theorem dqX7_isShelf_0 : ∀ e ∈ tX7_isShelf_0, rLq e.2.1 e.2.2 = true := by decide +kernel
theorem okmX7_isShelf : okM mX7_isShelf := ⟨by decide +kernel, rfl, dtX7_isShelf_0, dqX7_isShelf_0, Nat.le_of_ble_eq_true rfl⟩
theorem okpX7_isShelf : okMc mX7_isShelf := ⟨okmX7_isShelf, List.mem_of_getElem? (i := 933) (by decide +kernel), List.mem_of_getElem? (i := 74) (by decide +kernel), by decide +kernel, by decide +kernel⟩
theorem dqX7_newOne_0 : ∀ e ∈ tX7_newOne_0, rLq e.2.1 e.2.2 = true := by decide +kernel
theorem okmX7_newOne : okM mX7_newOne := ⟨by decide +kernel, rfl, dtX7_newOne_0, dqX7_newOne_0, Nat.le_of_ble_eq_true rfl⟩
theorem okpX7_newOne : okMc mX7_newOne := ⟨okmX7_newOne, List.mem_of_getElem? (i := 926) (by decide +kernel), List.mem_of_getElem? (i := 74) (by decide +kernel), by decide +kernel, by decide +kernel⟩
theorem dqX7_reach_0 : ∀ e ∈ tX7_reach_0, rLq e.2.1 e.2.2 = true := by decide +kernel
theorem okmX7_reach : okM mX7_reach := ⟨by decide +kernel, rfl, dtX7_reach_0, dqX7_reach_0, Nat.le_of_ble_eq_true rfl⟩
theorem okpX7_reach : okMc mX7_reach := ⟨okmX7_reach, List.mem_of_getElem? (i := 919) (by decide +kernel), List.mem_of_getElem? (i := 74) (by decide +kernel), by decide +kernel, by decide +kernel⟩
theorem dqX7_reaches_0 : ∀ e ∈ tX7_reaches_0, rLq e.2.1 e.2.2 = true := by decide +kernel
theorem dqX7_reaches_1 : ∀ e ∈ tX7_reaches_1, rLq e.2.1 e.2.2 = true := by decide +kernel
theorem dqX7_reaches_2 : ∀ e ∈ tX7_reaches_2, rLq e.2.1 e.2.2 = true := by decide +kernel
theorem okmX7_reaches : okM mX7_reaches := ⟨by decide +kernel, rfl, List.forall_mem_append.mpr ⟨dtX7_reaches_0, List.forall_mem_append.mpr ⟨dtX7_reaches_1, dtX7_reaches_2⟩⟩, List.forall_mem_append.mpr ⟨dqX7_reaches_0, List.forall_mem_append.mpr ⟨dqX7_reaches_1, dqX7_reaches_2⟩⟩, Nat.le_of_ble_eq_true rfl⟩
theorem okpX7_reaches : okMc mX7_reaches := ⟨okmX7_reaches, List.mem_of_getElem? (i := 930) (by decide +kernel), List.mem_of_getElem? (i := 74) (by decide +kernel), by decide +kernel, by decide +kernel⟩
theorem dqX7_toldAt_0 : ∀ e ∈ tX7_toldAt_0, rLq e.2.1 e.2.2 = true := by decide +kernel
theorem okmX7_toldAt : okM mX7_toldAt := ⟨by decide +kernel, rfl, dtX7_toldAt_0, dqX7_toldAt_0, Nat.le_of_ble_eq_true rfl⟩
theorem okpX7_toldAt : okMc mX7_toldAt := ⟨okmX7_toldAt, List.mem_of_getElem? (i := 938) (by decide +kernel), List.mem_of_getElem? (i := 74) (by decide +kernel), by decide +kernel, by decide +kernel⟩
theorem dqX7_isOf_0 : ∀ e ∈ tX7_isOf_0, rLq e.2.1 e.2.2 = true := by decide +kernel
theorem okmX7_isOf : okM mX7_isOf := ⟨by decide +kernel, rfl, dtX7_isOf_0, dqX7_isOf_0, Nat.le_of_ble_eq_true rfl⟩
theorem okpX7_isOf : okMc mX7_isOf := ⟨okmX7_isOf, List.mem_of_getElem? (i := 946) (by decide +kernel), List.mem_of_getElem? (i := 74) (by decide +kernel), by decide +kernel, by decide +kernel⟩
theorem dqX7_isFit_0 : ∀ e ∈ tX7_isFit_0, rLq e.2.1 e.2.2 = true := by decide +kernel
theorem okmX7_isFit : okM mX7_isFit := ⟨by decide +kernel, rfl, dtX7_isFit_0, dqX7_isFit_0, Nat.le_of_ble_eq_true rfl⟩
theorem okpX7_isFit : okMc mX7_isFit := ⟨okmX7_isFit, List.mem_of_getElem? (i := 953) (by decide +kernel), List.mem_of_getElem? (i := 74) (by decide +kernel), by decide +kernel, by decide +kernel⟩
theorem dqX7_get_0 : ∀ e ∈ tX7_get_0, rLq e.2.1 e.2.2 = true := by decide +kernel
theorem okmX7_get : okM mX7_get := ⟨by decide +kernel, rfl, dtX7_get_0, dqX7_get_0, Nat.le_of_ble_eq_true rfl⟩
theorem okpX7_get : okMc mX7_get := ⟨okmX7_get, List.mem_of_getElem? (i := 957) (by decide +kernel), List.mem_of_getElem? (i := 74) (by decide +kernel), by decide +kernel, by decide +kernel⟩
theorem dqX7_becomes_0 : ∀ e ∈ tX7_becomes_0, rLq e.2.1 e.2.2 = true := by decide +kernel
theorem okmX7_becomes : okM mX7_becomes := ⟨by decide +kernel, rfl, dtX7_becomes_0, dqX7_becomes_0, Nat.le_of_ble_eq_true rfl⟩
theorem okpX7_becomes : okMc mX7_becomes := ⟨okmX7_becomes, List.mem_of_getElem? (i := 961) (by decide +kernel), List.mem_of_getElem? (i := 74) (by decide +kernel), by decide +kernel, by decide +kernel⟩
theorem dqX7_mend_0 : ∀ e ∈ tX7_mend_0, rLq e.2.1 e.2.2 = true := by decide +kernel
theorem dqX7_mend_1 : ∀ e ∈ tX7_mend_1, rLq e.2.1 e.2.2 = true := by decide +kernel
theorem dqX7_mend_2 : ∀ e ∈ tX7_mend_2, rLq e.2.1 e.2.2 = true := by decide +kernel
theorem okmX7_mend : okM mX7_mend := ⟨by decide +kernel, rfl, List.forall_mem_append.mpr ⟨dtX7_mend_0, List.forall_mem_append.mpr ⟨dtX7_mend_1, dtX7_mend_2⟩⟩, List.forall_mem_append.mpr ⟨dqX7_mend_0, List.forall_mem_append.mpr ⟨dqX7_mend_1, dqX7_mend_2⟩⟩, Nat.le_of_ble_eq_true rfl⟩
theorem okpX7_mend : okMc mX7_mend := ⟨okmX7_mend, List.mem_of_getElem? (i := 942) (by decide +kernel), List.mem_of_getElem? (i := 74) (by decide +kernel), by decide +kernel, by decide +kernel⟩
theorem dqX7_of_0 : ∀ e ∈ tX7_of_0, rLq e.2.1 e.2.2 = true := by decide +kernel
theorem okmX7_of : okM mX7_of := ⟨by decide +kernel, rfl, dtX7_of_0, dqX7_of_0, Nat.le_of_ble_eq_true rfl⟩
theorem okpX7_of : okMc mX7_of := ⟨okmX7_of, List.mem_of_getElem? (i := 965) (by decide +kernel), List.mem_of_getElem? (i := 74) (by decide +kernel), by decide +kernel, by decide +kernel⟩
theorem dqX7_undo_0 : ∀ e ∈ tX7_undo_0, rLq e.2.1 e.2.2 = true := by decide +kernel
theorem dqX7_undo_1 : ∀ e ∈ tX7_undo_1, rLq e.2.1 e.2.2 = true := by decide +kernel
theorem okmX7_undo : okM mX7_undo := ⟨by decide +kernel, rfl, List.forall_mem_append.mpr ⟨dtX7_undo_0, dtX7_undo_1⟩, List.forall_mem_append.mpr ⟨dqX7_undo_0, dqX7_undo_1⟩, Nat.le_of_ble_eq_true rfl⟩
theorem okpX7_undo : okMc mX7_undo := ⟨okmX7_undo, List.mem_of_getElem? (i := 969) (by decide +kernel), List.mem_of_getElem? (i := 74) (by decide +kernel), by decide +kernel, by decide +kernel⟩
theorem dqX7_redo_0 : ∀ e ∈ tX7_redo_0, rLq e.2.1 e.2.2 = true := by decide +kernel
theorem dqX7_redo_1 : ∀ e ∈ tX7_redo_1, rLq e.2.1 e.2.2 = true := by decide +kernel
theorem okmX7_redo : okM mX7_redo := ⟨by decide +kernel, rfl, List.forall_mem_append.mpr ⟨dtX7_redo_0, dtX7_redo_1⟩, List.forall_mem_append.mpr ⟨dqX7_redo_0, dqX7_redo_1⟩, Nat.le_of_ble_eq_true rfl⟩
theorem okpX7_redo : okMc mX7_redo := ⟨okmX7_redo, List.mem_of_getElem? (i := 973) (by decide +kernel), List.mem_of_getElem? (i := 74) (by decide +kernel), by decide +kernel, by decide +kernel⟩
theorem dqX7_feed_0 : ∀ e ∈ tX7_feed_0, rLq e.2.1 e.2.2 = true := by decide +kernel
theorem okmX7_feed : okM mX7_feed := ⟨by decide +kernel, rfl, dtX7_feed_0, dqX7_feed_0, Nat.le_of_ble_eq_true rfl⟩
theorem okpX7_feed : okMc mX7_feed := ⟨okmX7_feed, List.mem_of_getElem? (i := 977) (by decide +kernel), List.mem_of_getElem? (i := 74) (by decide +kernel), by decide +kernel, by decide +kernel⟩
theorem dqX7_sign_0 : ∀ e ∈ tX7_sign_0, rLq e.2.1 e.2.2 = true := by decide +kernel
theorem okmX7_sign : okM mX7_sign := ⟨by decide +kernel, rfl, dtX7_sign_0, dqX7_sign_0, Nat.le_of_ble_eq_true rfl⟩
theorem okpX7_sign : okMc mX7_sign := ⟨okmX7_sign, List.mem_of_getElem? (i := 1017) (by decide +kernel), List.mem_of_getElem? (i := 74) (by decide +kernel), by decide +kernel, by decide +kernel⟩
theorem dqX7_is_0 : ∀ e ∈ tX7_is_0, rLq e.2.1 e.2.2 = true := by decide +kernel
theorem okmX7_is : okM mX7_is := ⟨by decide +kernel, rfl, dtX7_is_0, dqX7_is_0, Nat.le_of_ble_eq_true rfl⟩
theorem okpX7_is : okMc mX7_is := ⟨okmX7_is, List.mem_of_getElem? (i := 1028) (by decide +kernel), List.mem_of_getElem? (i := 74) (by decide +kernel), by decide +kernel, by decide +kernel⟩
theorem dqX7_codes_0 : ∀ e ∈ tX7_codes_0, rLq e.2.1 e.2.2 = true := by decide +kernel
theorem okmX7_codes : okM mX7_codes := ⟨by decide +kernel, rfl, dtX7_codes_0, dqX7_codes_0, Nat.le_of_ble_eq_true rfl⟩
theorem okpX7_codes : okMc mX7_codes := ⟨okmX7_codes, List.mem_of_getElem? (i := 1021) (by decide +kernel), List.mem_of_getElem? (i := 74) (by decide +kernel), by decide +kernel, by decide +kernel⟩
theorem dqX7_isDigit_0 : ∀ e ∈ tX7_isDigit_0, rLq e.2.1 e.2.2 = true := by decide +kernel
theorem okmX7_isDigit : okM mX7_isDigit := ⟨by decide +kernel, rfl, dtX7_isDigit_0, dqX7_isDigit_0, Nat.le_of_ble_eq_true rfl⟩
theorem okpX7_isDigit : okMc mX7_isDigit := ⟨okmX7_isDigit, List.mem_of_getElem? (i := 1013) (by decide +kernel), List.mem_of_getElem? (i := 74) (by decide +kernel), by decide +kernel, by decide +kernel⟩
theorem dqX7_nameOf_0 : ∀ e ∈ tX7_nameOf_0, rLq e.2.1 e.2.2 = true := by decide +kernel
theorem okmX7_nameOf : okM mX7_nameOf := ⟨by decide +kernel, rfl, dtX7_nameOf_0, dqX7_nameOf_0, Nat.le_of_ble_eq_true rfl⟩
theorem okpX7_nameOf : okMc mX7_nameOf := ⟨okmX7_nameOf, List.mem_of_getElem? (i := 1024) (by decide +kernel), List.mem_of_getElem? (i := 74) (by decide +kernel), by decide +kernel, by decide +kernel⟩
theorem dqX7_isO_0 : ∀ e ∈ tX7_isO_0, rLq e.2.1 e.2.2 = true := by decide +kernel
theorem dqX7_isO_1 : ∀ e ∈ tX7_isO_1, rLq e.2.1 e.2.2 = true := by decide +kernel
theorem dqX7_isO_2 : ∀ e ∈ tX7_isO_2, rLq e.2.1 e.2.2 = true := by decide +kernel
theorem dqX7_isO_3 : ∀ e ∈ tX7_isO_3, rLq e.2.1 e.2.2 = true := by decide +kernel
theorem okmX7_isO : okM mX7_isO := ⟨by decide +kernel, rfl, List.forall_mem_append.mpr ⟨dtX7_isO_0, List.forall_mem_append.mpr ⟨dtX7_isO_1, List.forall_mem_append.mpr ⟨dtX7_isO_2, dtX7_isO_3⟩⟩⟩, List.forall_mem_append.mpr ⟨dqX7_isO_0, List.forall_mem_append.mpr ⟨dqX7_isO_1, List.forall_mem_append.mpr ⟨dqX7_isO_2, dqX7_isO_3⟩⟩⟩, Nat.le_of_ble_eq_true rfl⟩
theorem okpX7_isO : okMc mX7_isO := ⟨okmX7_isO, List.mem_of_getElem? (i := 1009) (by decide +kernel), List.mem_of_getElem? (i := 74) (by decide +kernel), by decide +kernel, by decide +kernel⟩
theorem dqX7_isP_0 : ∀ e ∈ tX7_isP_0, rLq e.2.1 e.2.2 = true := by decide +kernel
theorem dqX7_isP_1 : ∀ e ∈ tX7_isP_1, rLq e.2.1 e.2.2 = true := by decide +kernel
theorem okmX7_isP : okM mX7_isP := ⟨by decide +kernel, rfl, List.forall_mem_append.mpr ⟨dtX7_isP_0, dtX7_isP_1⟩, List.forall_mem_append.mpr ⟨dqX7_isP_0, dqX7_isP_1⟩, Nat.le_of_ble_eq_true rfl⟩
theorem okpX7_isP : okMc mX7_isP := ⟨okmX7_isP, List.mem_of_getElem? (i := 1005) (by decide +kernel), List.mem_of_getElem? (i := 74) (by decide +kernel), by decide +kernel, by decide +kernel⟩
theorem dqX7_isS_0 : ∀ e ∈ tX7_isS_0, rLq e.2.1 e.2.2 = true := by decide +kernel
theorem okmX7_isS : okM mX7_isS := ⟨by decide +kernel, rfl, dtX7_isS_0, dqX7_isS_0, Nat.le_of_ble_eq_true rfl⟩
theorem okpX7_isS : okMc mX7_isS := ⟨okmX7_isS, List.mem_of_getElem? (i := 1001) (by decide +kernel), List.mem_of_getElem? (i := 74) (by decide +kernel), by decide +kernel, by decide +kernel⟩
theorem dqX7_isB_0 : ∀ e ∈ tX7_isB_0, rLq e.2.1 e.2.2 = true := by decide +kernel
theorem dqX7_isB_1 : ∀ e ∈ tX7_isB_1, rLq e.2.1 e.2.2 = true := by decide +kernel
theorem okmX7_isB : okM mX7_isB := ⟨by decide +kernel, rfl, List.forall_mem_append.mpr ⟨dtX7_isB_0, dtX7_isB_1⟩, List.forall_mem_append.mpr ⟨dqX7_isB_0, dqX7_isB_1⟩, Nat.le_of_ble_eq_true rfl⟩
theorem okpX7_isB : okMc mX7_isB := ⟨okmX7_isB, List.mem_of_getElem? (i := 997) (by decide +kernel), List.mem_of_getElem? (i := 74) (by decide +kernel), by decide +kernel, by decide +kernel⟩
theorem dqX7_isA_0 : ∀ e ∈ tX7_isA_0, rLq e.2.1 e.2.2 = true := by decide +kernel
theorem okmX7_isA : okM mX7_isA := ⟨by decide +kernel, rfl, dtX7_isA_0, dqX7_isA_0, Nat.le_of_ble_eq_true rfl⟩
theorem okpX7_isA : okMc mX7_isA := ⟨okmX7_isA, List.mem_of_getElem? (i := 993) (by decide +kernel), List.mem_of_getElem? (i := 74) (by decide +kernel), by decide +kernel, by decide +kernel⟩
theorem dqX7_isE_0 : ∀ e ∈ tX7_isE_0, rLq e.2.1 e.2.2 = true := by decide +kernel
theorem okmX7_isE : okM mX7_isE := ⟨by decide +kernel, rfl, dtX7_isE_0, dqX7_isE_0, Nat.le_of_ble_eq_true rfl⟩
theorem okpX7_isE : okMc mX7_isE := ⟨okmX7_isE, List.mem_of_getElem? (i := 989) (by decide +kernel), List.mem_of_getElem? (i := 74) (by decide +kernel), by decide +kernel, by decide +kernel⟩
theorem dqX7_isLine_0 : ∀ e ∈ tX7_isLine_0, rLq e.2.1 e.2.2 = true := by decide +kernel
theorem dqX7_isLine_1 : ∀ e ∈ tX7_isLine_1, rLq e.2.1 e.2.2 = true := by decide +kernel
theorem okmX7_isLine : okM mX7_isLine := ⟨by decide +kernel, rfl, List.forall_mem_append.mpr ⟨dtX7_isLine_0, dtX7_isLine_1⟩, List.forall_mem_append.mpr ⟨dqX7_isLine_0, dqX7_isLine_1⟩, Nat.le_of_ble_eq_true rfl⟩
theorem okpX7_isLine : okMc mX7_isLine := ⟨okmX7_isLine, List.mem_of_getElem? (i := 985) (by decide +kernel), List.mem_of_getElem? (i := 74) (by decide +kernel), by decide +kernel, by decide +kernel⟩
theorem dqX7_law_0 : ∀ e ∈ tX7_law_0, rLq e.2.1 e.2.2 = true := by decide +kernel
theorem dqX7_law_1 : ∀ e ∈ tX7_law_1, rLq e.2.1 e.2.2 = true := by decide +kernel
theorem dqX7_law_2 : ∀ e ∈ tX7_law_2, rLq e.2.1 e.2.2 = true := by decide +kernel
theorem okmX7_law : okM mX7_law := ⟨by decide +kernel, rfl, List.forall_mem_append.mpr ⟨dtX7_law_0, List.forall_mem_append.mpr ⟨dtX7_law_1, dtX7_law_2⟩⟩, List.forall_mem_append.mpr ⟨dqX7_law_0, List.forall_mem_append.mpr ⟨dqX7_law_1, dqX7_law_2⟩⟩, Nat.le_of_ble_eq_true rfl⟩
theorem okpX7_law : okMc mX7_law := ⟨okmX7_law, List.mem_of_getElem? (i := 981) (by decide +kernel), List.mem_of_getElem? (i := 74) (by decide +kernel), by decide +kernel, by decide +kernel⟩
theorem dqX7_both_0 : ∀ e ∈ tX7_both_0, rLq e.2.1 e.2.2 = true := by decide +kernel
theorem dqX7_both_1 : ∀ e ∈ tX7_both_1, rLq e.2.1 e.2.2 = true := by decide +kernel
theorem okmX7_both : okM mX7_both := ⟨by decide +kernel, rfl, List.forall_mem_append.mpr ⟨dtX7_both_0, dtX7_both_1⟩, List.forall_mem_append.mpr ⟨dqX7_both_0, dqX7_both_1⟩, Nat.le_of_ble_eq_true rfl⟩
theorem okpX7_both : okMc mX7_both := ⟨okmX7_both, List.mem_of_getElem? (i := 1047) (by decide +kernel), List.mem_of_getElem? (i := 74) (by decide +kernel), by decide +kernel, by decide +kernel⟩
theorem dqX7_worked_0 : ∀ e ∈ tX7_worked_0, rLq e.2.1 e.2.2 = true := by decide +kernel
theorem dqX7_worked_1 : ∀ e ∈ tX7_worked_1, rLq e.2.1 e.2.2 = true := by decide +kernel
theorem dqX7_worked_2 : ∀ e ∈ tX7_worked_2, rLq e.2.1 e.2.2 = true := by decide +kernel
theorem okmX7_worked : okM mX7_worked := ⟨by decide +kernel, rfl, List.forall_mem_append.mpr ⟨dtX7_worked_0, List.forall_mem_append.mpr ⟨dtX7_worked_1, dtX7_worked_2⟩⟩, List.forall_mem_append.mpr ⟨dqX7_worked_0, List.forall_mem_append.mpr ⟨dqX7_worked_1, dqX7_worked_2⟩⟩, Nat.le_of_ble_eq_true rfl⟩
theorem okpX7_worked : okMc mX7_worked := ⟨okmX7_worked, List.mem_of_getElem? (i := 1044) (by decide +kernel), List.mem_of_getElem? (i := 74) (by decide +kernel), by decide +kernel, by decide +kernel⟩
theorem dqX7_byLaw_0 : ∀ e ∈ tX7_byLaw_0, rLq e.2.1 e.2.2 = true := by decide +kernel
theorem dqX7_byLaw_1 : ∀ e ∈ tX7_byLaw_1, rLq e.2.1 e.2.2 = true := by decide +kernel
theorem dqX7_byLaw_2 : ∀ e ∈ tX7_byLaw_2, rLq e.2.1 e.2.2 = true := by decide +kernel
theorem okmX7_byLaw : okM mX7_byLaw := ⟨by decide +kernel, rfl, List.forall_mem_append.mpr ⟨dtX7_byLaw_0, List.forall_mem_append.mpr ⟨dtX7_byLaw_1, dtX7_byLaw_2⟩⟩, List.forall_mem_append.mpr ⟨dqX7_byLaw_0, List.forall_mem_append.mpr ⟨dqX7_byLaw_1, dqX7_byLaw_2⟩⟩, Nat.le_of_ble_eq_true rfl⟩
theorem okpX7_byLaw : okMc mX7_byLaw := ⟨okmX7_byLaw, List.mem_of_getElem? (i := 1040) (by decide +kernel), List.mem_of_getElem? (i := 74) (by decide +kernel), by decide +kernel, by decide +kernel⟩
theorem dqX7_goesFrom_0 : ∀ e ∈ tX7_goesFrom_0, rLq e.2.1 e.2.2 = true := by decide +kernel
theorem dqX7_goesFrom_1 : ∀ e ∈ tX7_goesFrom_1, rLq e.2.1 e.2.2 = true := by decide +kernel
theorem okmX7_goesFrom : okM mX7_goesFrom := ⟨by decide +kernel, rfl, List.forall_mem_append.mpr ⟨dtX7_goesFrom_0, dtX7_goesFrom_1⟩, List.forall_mem_append.mpr ⟨dqX7_goesFrom_0, dqX7_goesFrom_1⟩, Nat.le_of_ble_eq_true rfl⟩
theorem okpX7_goesFrom : okMc mX7_goesFrom := ⟨okmX7_goesFrom, List.mem_of_getElem? (i := 1036) (by decide +kernel), List.mem_of_getElem? (i := 74) (by decide +kernel), by decide +kernel, by decide +kernel⟩
theorem dqX7_goes_0 : ∀ e ∈ tX7_goes_0, rLq e.2.1 e.2.2 = true := by decide +kernel
theorem okmX7_goes : okM mX7_goes := ⟨by decide +kernel, rfl, dtX7_goes_0, dqX7_goes_0, Nat.le_of_ble_eq_true rfl⟩
theorem okpX7_goes : okMc mX7_goes := ⟨okmX7_goes, List.mem_of_getElem? (i := 1032) (by decide +kernel), List.mem_of_getElem? (i := 74) (by decide +kernel), by decide +kernel, by decide +kernel⟩
theorem dqX7_passes_0 : ∀ e ∈ tX7_passes_0, rLq e.2.1 e.2.2 = true := by decide +kernel
theorem dqX7_passes_1 : ∀ e ∈ tX7_passes_1, rLq e.2.1 e.2.2 = true := by decide +kernel
theorem okmX7_passes : okM mX7_passes := ⟨by decide +kernel, rfl, List.forall_mem_append.mpr ⟨dtX7_passes_0, dtX7_passes_1⟩, List.forall_mem_append.mpr ⟨dqX7_passes_0, dqX7_passes_1⟩, Nat.le_of_ble_eq_true rfl⟩
theorem okpX7_passes : okMc mX7_passes := ⟨okmX7_passes, List.mem_of_getElem? (i := 1065) (by decide +kernel), List.mem_of_getElem? (i := 74) (by decide +kernel), by decide +kernel, by decide +kernel⟩
theorem dqX7_goesOn_0 : ∀ e ∈ tX7_goesOn_0, rLq e.2.1 e.2.2 = true := by decide +kernel
theorem okmX7_goesOn : okM mX7_goesOn := ⟨by decide +kernel, rfl, dtX7_goesOn_0, dqX7_goesOn_0, Nat.le_of_ble_eq_true rfl⟩
theorem okpX7_goesOn : okMc mX7_goesOn := ⟨okmX7_goesOn, List.mem_of_getElem? (i := 1061) (by decide +kernel), List.mem_of_getElem? (i := 74) (by decide +kernel), by decide +kernel, by decide +kernel⟩
theorem dqX7_keeps_0 : ∀ e ∈ tX7_keeps_0, rLq e.2.1 e.2.2 = true := by decide +kernel
theorem dqX7_keeps_1 : ∀ e ∈ tX7_keeps_1, rLq e.2.1 e.2.2 = true := by decide +kernel
theorem okmX7_keeps : okM mX7_keeps := ⟨by decide +kernel, rfl, List.forall_mem_append.mpr ⟨dtX7_keeps_0, dtX7_keeps_1⟩, List.forall_mem_append.mpr ⟨dqX7_keeps_0, dqX7_keeps_1⟩, Nat.le_of_ble_eq_true rfl⟩
theorem okpX7_keeps : okMc mX7_keeps := ⟨okmX7_keeps, List.mem_of_getElem? (i := 1057) (by decide +kernel), List.mem_of_getElem? (i := 74) (by decide +kernel), by decide +kernel, by decide +kernel⟩
theorem dqX7_laysBack_0 : ∀ e ∈ tX7_laysBack_0, rLq e.2.1 e.2.2 = true := by decide +kernel
theorem dqX7_laysBack_1 : ∀ e ∈ tX7_laysBack_1, rLq e.2.1 e.2.2 = true := by decide +kernel
theorem okmX7_laysBack : okM mX7_laysBack := ⟨by decide +kernel, rfl, List.forall_mem_append.mpr ⟨dtX7_laysBack_0, dtX7_laysBack_1⟩, List.forall_mem_append.mpr ⟨dqX7_laysBack_0, dqX7_laysBack_1⟩, Nat.le_of_ble_eq_true rfl⟩
theorem okpX7_laysBack : okMc mX7_laysBack := ⟨okmX7_laysBack, List.mem_of_getElem? (i := 1073) (by decide +kernel), List.mem_of_getElem? (i := 74) (by decide +kernel), by decide +kernel, by decide +kernel⟩
theorem dqX7_isOver_0 : ∀ e ∈ tX7_isOver_0, rLq e.2.1 e.2.2 = true := by decide +kernel
theorem okmX7_isOver : okM mX7_isOver := ⟨by decide +kernel, rfl, dtX7_isOver_0, dqX7_isOver_0, Nat.le_of_ble_eq_true rfl⟩
theorem okpX7_isOver : okMc mX7_isOver := ⟨okmX7_isOver, List.mem_of_getElem? (i := 1088) (by decide +kernel), List.mem_of_getElem? (i := 74) (by decide +kernel), by decide +kernel, by decide +kernel⟩
theorem dqX7_over_0 : ∀ e ∈ tX7_over_0, rLq e.2.1 e.2.2 = true := by decide +kernel
theorem okmX7_over : okM mX7_over := ⟨by decide +kernel, rfl, dtX7_over_0, dqX7_over_0, Nat.le_of_ble_eq_true rfl⟩
theorem okpX7_over : okMc mX7_over := ⟨okmX7_over, List.mem_of_getElem? (i := 1084) (by decide +kernel), List.mem_of_getElem? (i := 74) (by decide +kernel), by decide +kernel, by decide +kernel⟩
theorem dqX7_allLevel_0 : ∀ e ∈ tX7_allLevel_0, rLq e.2.1 e.2.2 = true := by decide +kernel
theorem okmX7_allLevel : okM mX7_allLevel := ⟨by decide +kernel, rfl, dtX7_allLevel_0, dqX7_allLevel_0, Nat.le_of_ble_eq_true rfl⟩
theorem okpX7_allLevel : okMc mX7_allLevel := ⟨okmX7_allLevel, List.mem_of_getElem? (i := 1092) (by decide +kernel), List.mem_of_getElem? (i := 74) (by decide +kernel), by decide +kernel, by decide +kernel⟩
theorem dqX7_signOf_0 : ∀ e ∈ tX7_signOf_0, rLq e.2.1 e.2.2 = true := by decide +kernel
theorem okmX7_signOf : okM mX7_signOf := ⟨by decide +kernel, rfl, dtX7_signOf_0, dqX7_signOf_0, Nat.le_of_ble_eq_true rfl⟩
theorem okpX7_signOf : okMc mX7_signOf := ⟨okmX7_signOf, List.mem_of_getElem? (i := 1069) (by decide +kernel), List.mem_of_getElem? (i := 74) (by decide +kernel), by decide +kernel, by decide +kernel⟩
theorem dqX7_later_0 : ∀ e ∈ tX7_later_0, rLq e.2.1 e.2.2 = true := by decide +kernel
theorem dqX7_later_1 : ∀ e ∈ tX7_later_1, rLq e.2.1 e.2.2 = true := by decide +kernel
theorem okmX7_later : okM mX7_later := ⟨by decide +kernel, rfl, List.forall_mem_append.mpr ⟨dtX7_later_0, dtX7_later_1⟩, List.forall_mem_append.mpr ⟨dqX7_later_0, dqX7_later_1⟩, Nat.le_of_ble_eq_true rfl⟩
theorem okpX7_later : okMc mX7_later := ⟨okmX7_later, List.mem_of_getElem? (i := 1053) (by decide +kernel), List.mem_of_getElem? (i := 74) (by decide +kernel), by decide +kernel, by decide +kernel⟩
theorem dqX7_river_0 : ∀ e ∈ tX7_river_0, rLq e.2.1 e.2.2 = true := by decide +kernel
theorem okmX7_river : okM mX7_river := ⟨by decide +kernel, rfl, dtX7_river_0, dqX7_river_0, Nat.le_of_ble_eq_true rfl⟩
theorem okpX7_river : okMc mX7_river := ⟨okmX7_river, List.mem_of_getElem? (i := 1077) (by decide +kernel), List.mem_of_getElem? (i := 74) (by decide +kernel), by decide +kernel, by decide +kernel⟩
theorem dqX7_over__0 : ∀ e ∈ tX7_over__0, rLq e.2.1 e.2.2 = true := by decide +kernel
theorem dqX7_over__1 : ∀ e ∈ tX7_over__1, rLq e.2.1 e.2.2 = true := by decide +kernel
theorem okmX7_over_ : okM mX7_over_ := ⟨by decide +kernel, rfl, List.forall_mem_append.mpr ⟨dtX7_over__0, dtX7_over__1⟩, List.forall_mem_append.mpr ⟨dqX7_over__0, dqX7_over__1⟩, Nat.le_of_ble_eq_true rfl⟩
theorem okpX7_over_ : okMc mX7_over_ := ⟨okmX7_over_, List.mem_of_getElem? (i := 1096) (by decide +kernel), List.mem_of_getElem? (i := 74) (by decide +kernel), by decide +kernel, by decide +kernel⟩
theorem dqX7_signs_0 : ∀ e ∈ tX7_signs_0, rLq e.2.1 e.2.2 = true := by decide +kernel
theorem dqX7_signs_1 : ∀ e ∈ tX7_signs_1, rLq e.2.1 e.2.2 = true := by decide +kernel
theorem okmX7_signs : okM mX7_signs := ⟨by decide +kernel, rfl, List.forall_mem_append.mpr ⟨dtX7_signs_0, dtX7_signs_1⟩, List.forall_mem_append.mpr ⟨dqX7_signs_0, dqX7_signs_1⟩, Nat.le_of_ble_eq_true rfl⟩
theorem okpX7_signs : okMc mX7_signs := ⟨okmX7_signs, List.mem_of_getElem? (i := 1101) (by decide +kernel), List.mem_of_getElem? (i := 74) (by decide +kernel), by decide +kernel, by decide +kernel⟩
theorem dqX7_isAsThen_0 : ∀ e ∈ tX7_isAsThen_0, rLq e.2.1 e.2.2 = true := by decide +kernel
theorem dqX7_isAsThen_1 : ∀ e ∈ tX7_isAsThen_1, rLq e.2.1 e.2.2 = true := by decide +kernel
theorem okmX7_isAsThen : okM mX7_isAsThen := ⟨by decide +kernel, rfl, List.forall_mem_append.mpr ⟨dtX7_isAsThen_0, dtX7_isAsThen_1⟩, List.forall_mem_append.mpr ⟨dqX7_isAsThen_0, dqX7_isAsThen_1⟩, Nat.le_of_ble_eq_true rfl⟩
theorem okpX7_isAsThen : okMc mX7_isAsThen := ⟨okmX7_isAsThen, List.mem_of_getElem? (i := 1109) (by decide +kernel), List.mem_of_getElem? (i := 74) (by decide +kernel), by decide +kernel, by decide +kernel⟩
theorem dqX7_still_0 : ∀ e ∈ tX7_still_0, rLq e.2.1 e.2.2 = true := by decide +kernel
theorem okmX7_still : okM mX7_still := ⟨by decide +kernel, rfl, dtX7_still_0, dqX7_still_0, Nat.le_of_ble_eq_true rfl⟩
theorem okpX7_still : okMc mX7_still := ⟨okmX7_still, List.mem_of_getElem? (i := 1105) (by decide +kernel), List.mem_of_getElem? (i := 74) (by decide +kernel), by decide +kernel, by decide +kernel⟩
theorem dqX7_isThrown_0 : ∀ e ∈ tX7_isThrown_0, rLq e.2.1 e.2.2 = true := by decide +kernel
theorem okmX7_isThrown : okM mX7_isThrown := ⟨by decide +kernel, rfl, dtX7_isThrown_0, dqX7_isThrown_0, Nat.le_of_ble_eq_true rfl⟩
theorem okpX7_isThrown : okMc mX7_isThrown := ⟨okmX7_isThrown, List.mem_of_getElem? (i := 1117) (by decide +kernel), List.mem_of_getElem? (i := 74) (by decide +kernel), by decide +kernel, by decide +kernel⟩
theorem dqX7_throwIn_0 : ∀ e ∈ tX7_throwIn_0, rLq e.2.1 e.2.2 = true := by decide +kernel
theorem dqX7_throwIn_1 : ∀ e ∈ tX7_throwIn_1, rLq e.2.1 e.2.2 = true := by decide +kernel
theorem okmX7_throwIn : okM mX7_throwIn := ⟨by decide +kernel, rfl, List.forall_mem_append.mpr ⟨dtX7_throwIn_0, dtX7_throwIn_1⟩, List.forall_mem_append.mpr ⟨dqX7_throwIn_0, dqX7_throwIn_1⟩, Nat.le_of_ble_eq_true rfl⟩
theorem okpX7_throwIn : okMc mX7_throwIn := ⟨okmX7_throwIn, List.mem_of_getElem? (i := 1113) (by decide +kernel), List.mem_of_getElem? (i := 74) (by decide +kernel), by decide +kernel, by decide +kernel⟩
theorem dqX7_bridges_0 : ∀ e ∈ tX7_bridges_0, rLq e.2.1 e.2.2 = true := by decide +kernel
theorem dqX7_bridges_1 : ∀ e ∈ tX7_bridges_1, rLq e.2.1 e.2.2 = true := by decide +kernel
theorem dqX7_bridges_2 : ∀ e ∈ tX7_bridges_2, rLq e.2.1 e.2.2 = true := by decide +kernel
theorem okmX7_bridges : okM mX7_bridges := ⟨by decide +kernel, rfl, List.forall_mem_append.mpr ⟨dtX7_bridges_0, List.forall_mem_append.mpr ⟨dtX7_bridges_1, dtX7_bridges_2⟩⟩, List.forall_mem_append.mpr ⟨dqX7_bridges_0, List.forall_mem_append.mpr ⟨dqX7_bridges_1, dqX7_bridges_2⟩⟩, Nat.le_of_ble_eq_true rfl⟩
theorem okpX7_bridges : okMc mX7_bridges := ⟨okmX7_bridges, List.mem_of_getElem? (i := 1121) (by decide +kernel), List.mem_of_getElem? (i := 74) (by decide +kernel), by decide +kernel, by decide +kernel⟩
theorem dqX7_ring_0 : ∀ e ∈ tX7_ring_0, rLq e.2.1 e.2.2 = true := by decide +kernel
theorem dqX7_ring_1 : ∀ e ∈ tX7_ring_1, rLq e.2.1 e.2.2 = true := by decide +kernel
theorem okmX7_ring : okM mX7_ring := ⟨by decide +kernel, rfl, List.forall_mem_append.mpr ⟨dtX7_ring_0, dtX7_ring_1⟩, List.forall_mem_append.mpr ⟨dqX7_ring_0, dqX7_ring_1⟩, Nat.le_of_ble_eq_true rfl⟩
theorem okpX7_ring : okMc mX7_ring := ⟨okmX7_ring, List.mem_of_getElem? (i := 1126) (by decide +kernel), List.mem_of_getElem? (i := 74) (by decide +kernel), by decide +kernel, by decide +kernel⟩
theorem dqX7_noBytes_0 : ∀ e ∈ tX7_noBytes_0, rLq e.2.1 e.2.2 = true := by decide +kernel
theorem okmX7_noBytes : okM mX7_noBytes := ⟨by decide +kernel, rfl, dtX7_noBytes_0, dqX7_noBytes_0, Nat.le_of_ble_eq_true rfl⟩
theorem okpX7_noBytes : okMc mX7_noBytes := ⟨okmX7_noBytes, List.mem_of_getElem? (i := 1134) (by decide +kernel), List.mem_of_getElem? (i := 74) (by decide +kernel), by decide +kernel, by decide +kernel⟩
theorem dqX7_unlike_0 : ∀ e ∈ tX7_unlike_0, rLq e.2.1 e.2.2 = true := by decide +kernel
theorem dqX7_unlike_1 : ∀ e ∈ tX7_unlike_1, rLq e.2.1 e.2.2 = true := by decide +kernel
theorem okmX7_unlike : okM mX7_unlike := ⟨by decide +kernel, rfl, List.forall_mem_append.mpr ⟨dtX7_unlike_0, dtX7_unlike_1⟩, List.forall_mem_append.mpr ⟨dqX7_unlike_0, dqX7_unlike_1⟩, Nat.le_of_ble_eq_true rfl⟩
theorem okpX7_unlike : okMc mX7_unlike := ⟨okmX7_unlike, List.mem_of_getElem? (i := 1138) (by decide +kernel), List.mem_of_getElem? (i := 74) (by decide +kernel), by decide +kernel, by decide +kernel⟩
theorem dqX7_judge_0 : ∀ e ∈ tX7_judge_0, rLq e.2.1 e.2.2 = true := by decide +kernel
theorem okmX7_judge : okM mX7_judge := ⟨by decide +kernel, rfl, dtX7_judge_0, dqX7_judge_0, Nat.le_of_ble_eq_true rfl⟩
theorem okpX7_judge : okMc mX7_judge := ⟨okmX7_judge, List.mem_of_getElem? (i := 1130) (by decide +kernel), List.mem_of_getElem? (i := 74) (by decide +kernel), by decide +kernel, by decide +kernel⟩
theorem dqX7_fits_0 : ∀ e ∈ tX7_fits_0, rLq e.2.1 e.2.2 = true := by decide +kernel
theorem dqX7_fits_1 : ∀ e ∈ tX7_fits_1, rLq e.2.1 e.2.2 = true := by decide +kernel
theorem dqX7_fits_2 : ∀ e ∈ tX7_fits_2, rLq e.2.1 e.2.2 = true := by decide +kernel
theorem okmX7_fits : okM mX7_fits := ⟨by decide +kernel, rfl, List.forall_mem_append.mpr ⟨dtX7_fits_0, List.forall_mem_append.mpr ⟨dtX7_fits_1, dtX7_fits_2⟩⟩, List.forall_mem_append.mpr ⟨dqX7_fits_0, List.forall_mem_append.mpr ⟨dqX7_fits_1, dqX7_fits_2⟩⟩, Nat.le_of_ble_eq_true rfl⟩
theorem okpX7_fits : okMc mX7_fits := ⟨okmX7_fits, List.mem_of_getElem? (i := 1142) (by decide +kernel), List.mem_of_getElem? (i := 74) (by decide +kernel), by decide +kernel, by decide +kernel⟩
theorem dqX7_hear_0 : ∀ e ∈ tX7_hear_0, rLq e.2.1 e.2.2 = true := by decide +kernel
theorem dqX7_hear_1 : ∀ e ∈ tX7_hear_1, rLq e.2.1 e.2.2 = true := by decide +kernel
theorem dqX7_hear_2 : ∀ e ∈ tX7_hear_2, rLq e.2.1 e.2.2 = true := by decide +kernel
theorem okmX7_hear : okM mX7_hear := ⟨by decide +kernel, rfl, List.forall_mem_append.mpr ⟨dtX7_hear_0, List.forall_mem_append.mpr ⟨dtX7_hear_1, dtX7_hear_2⟩⟩, List.forall_mem_append.mpr ⟨dqX7_hear_0, List.forall_mem_append.mpr ⟨dqX7_hear_1, dqX7_hear_2⟩⟩, Nat.le_of_ble_eq_true rfl⟩
theorem okpX7_hear : okMc mX7_hear := ⟨okmX7_hear, List.mem_of_getElem? (i := 1150) (by decide +kernel), List.mem_of_getElem? (i := 74) (by decide +kernel), by decide +kernel, by decide +kernel⟩
theorem dqX7_hears_0 : ∀ e ∈ tX7_hears_0, rLq e.2.1 e.2.2 = true := by decide +kernel
theorem dqX7_hears_1 : ∀ e ∈ tX7_hears_1, rLq e.2.1 e.2.2 = true := by decide +kernel
theorem okmX7_hears : okM mX7_hears := ⟨by decide +kernel, rfl, List.forall_mem_append.mpr ⟨dtX7_hears_0, dtX7_hears_1⟩, List.forall_mem_append.mpr ⟨dqX7_hears_0, dqX7_hears_1⟩, Nat.le_of_ble_eq_true rfl⟩
theorem okpX7_hears : okMc mX7_hears := ⟨okmX7_hears, List.mem_of_getElem? (i := 1146) (by decide +kernel), List.mem_of_getElem? (i := 74) (by decide +kernel), by decide +kernel, by decide +kernel⟩
theorem dqX7_odd_0 : ∀ e ∈ tX7_odd_0, rLq e.2.1 e.2.2 = true := by decide +kernel
theorem okmX7_odd : okM mX7_odd := ⟨by decide +kernel, rfl, dtX7_odd_0, dqX7_odd_0, Nat.le_of_ble_eq_true rfl⟩
theorem okpX7_odd : okMc mX7_odd := ⟨okmX7_odd, List.mem_of_getElem? (i := 1155) (by decide +kernel), List.mem_of_getElem? (i := 74) (by decide +kernel), by decide +kernel, by decide +kernel⟩
theorem dqX7_turnFrom_0 : ∀ e ∈ tX7_turnFrom_0, rLq e.2.1 e.2.2 = true := by decide +kernel
theorem dqX7_turnFrom_1 : ∀ e ∈ tX7_turnFrom_1, rLq e.2.1 e.2.2 = true := by decide +kernel
theorem okmX7_turnFrom : okM mX7_turnFrom := ⟨by decide +kernel, rfl, List.forall_mem_append.mpr ⟨dtX7_turnFrom_0, dtX7_turnFrom_1⟩, List.forall_mem_append.mpr ⟨dqX7_turnFrom_0, dqX7_turnFrom_1⟩, Nat.le_of_ble_eq_true rfl⟩
theorem okpX7_turnFrom : okMc mX7_turnFrom := ⟨okmX7_turnFrom, List.mem_of_getElem? (i := 1168) (by decide +kernel), List.mem_of_getElem? (i := 74) (by decide +kernel), by decide +kernel, by decide +kernel⟩
theorem dqX7_turnBy_0 : ∀ e ∈ tX7_turnBy_0, rLq e.2.1 e.2.2 = true := by decide +kernel
theorem dqX7_turnBy_1 : ∀ e ∈ tX7_turnBy_1, rLq e.2.1 e.2.2 = true := by decide +kernel
theorem okmX7_turnBy : okM mX7_turnBy := ⟨by decide +kernel, rfl, List.forall_mem_append.mpr ⟨dtX7_turnBy_0, dtX7_turnBy_1⟩, List.forall_mem_append.mpr ⟨dqX7_turnBy_0, dqX7_turnBy_1⟩, Nat.le_of_ble_eq_true rfl⟩
theorem okpX7_turnBy : okMc mX7_turnBy := ⟨okmX7_turnBy, List.mem_of_getElem? (i := 1164) (by decide +kernel), List.mem_of_getElem? (i := 74) (by decide +kernel), by decide +kernel, by decide +kernel⟩
theorem dqX7_byTurns_0 : ∀ e ∈ tX7_byTurns_0, rLq e.2.1 e.2.2 = true := by decide +kernel
theorem dqX7_byTurns_1 : ∀ e ∈ tX7_byTurns_1, rLq e.2.1 e.2.2 = true := by decide +kernel
theorem dqX7_byTurns_2 : ∀ e ∈ tX7_byTurns_2, rLq e.2.1 e.2.2 = true := by decide +kernel
theorem okmX7_byTurns : okM mX7_byTurns := ⟨by decide +kernel, rfl, List.forall_mem_append.mpr ⟨dtX7_byTurns_0, List.forall_mem_append.mpr ⟨dtX7_byTurns_1, dtX7_byTurns_2⟩⟩, List.forall_mem_append.mpr ⟨dqX7_byTurns_0, List.forall_mem_append.mpr ⟨dqX7_byTurns_1, dqX7_byTurns_2⟩⟩, Nat.le_of_ble_eq_true rfl⟩
theorem okpX7_byTurns : okMc mX7_byTurns := ⟨okmX7_byTurns, List.mem_of_getElem? (i := 1160) (by decide +kernel), List.mem_of_getElem? (i := 74) (by decide +kernel), by decide +kernel, by decide +kernel⟩
theorem dqX7_drawn_0 : ∀ e ∈ tX7_drawn_0, rLq e.2.1 e.2.2 = true := by decide +kernel
theorem dqX7_drawn_1 : ∀ e ∈ tX7_drawn_1, rLq e.2.1 e.2.2 = true := by decide +kernel
theorem dqX7_drawn_2 : ∀ e ∈ tX7_drawn_2, rLq e.2.1 e.2.2 = true := by decide +kernel
theorem dqX7_drawn_3 : ∀ e ∈ tX7_drawn_3, rLq e.2.1 e.2.2 = true := by decide +kernel
theorem okmX7_drawn : okM mX7_drawn := ⟨by decide +kernel, rfl, List.forall_mem_append.mpr ⟨dtX7_drawn_0, List.forall_mem_append.mpr ⟨dtX7_drawn_1, List.forall_mem_append.mpr ⟨dtX7_drawn_2, dtX7_drawn_3⟩⟩⟩, List.forall_mem_append.mpr ⟨dqX7_drawn_0, List.forall_mem_append.mpr ⟨dqX7_drawn_1, List.forall_mem_append.mpr ⟨dqX7_drawn_2, dqX7_drawn_3⟩⟩⟩, Nat.le_of_ble_eq_true rfl⟩
theorem okpX7_drawn : okMc mX7_drawn := ⟨okmX7_drawn, List.mem_of_getElem? (i := 1172) (by decide +kernel), List.mem_of_getElem? (i := 74) (by decide +kernel), by decide +kernel, by decide +kernel⟩
theorem dqX7_day_0 : ∀ e ∈ tX7_day_0, rLq e.2.1 e.2.2 = true := by decide +kernel
theorem dqX7_day_1 : ∀ e ∈ tX7_day_1, rLq e.2.1 e.2.2 = true := by decide +kernel
theorem okmX7_day : okM mX7_day := ⟨by decide +kernel, rfl, List.forall_mem_append.mpr ⟨dtX7_day_0, dtX7_day_1⟩, List.forall_mem_append.mpr ⟨dqX7_day_0, dqX7_day_1⟩, Nat.le_of_ble_eq_true rfl⟩
theorem okpX7_day : okMc mX7_day := ⟨okmX7_day, List.mem_of_getElem? (i := 1177) (by decide +kernel), List.mem_of_getElem? (i := 74) (by decide +kernel), by decide +kernel, by decide +kernel⟩
theorem dqX7_gift_0 : ∀ e ∈ tX7_gift_0, rLq e.2.1 e.2.2 = true := by decide +kernel
theorem dqX7_gift_1 : ∀ e ∈ tX7_gift_1, rLq e.2.1 e.2.2 = true := by decide +kernel
theorem okmX7_gift : okM mX7_gift := ⟨by decide +kernel, rfl, List.forall_mem_append.mpr ⟨dtX7_gift_0, dtX7_gift_1⟩, List.forall_mem_append.mpr ⟨dqX7_gift_0, dqX7_gift_1⟩, Nat.le_of_ble_eq_true rfl⟩
theorem okpX7_gift : okMc mX7_gift := ⟨okmX7_gift, List.mem_of_getElem? (i := 1181) (by decide +kernel), List.mem_of_getElem? (i := 74) (by decide +kernel), by decide +kernel, by decide +kernel⟩
theorem dqX7_build_0 : ∀ e ∈ tX7_build_0, rLq e.2.1 e.2.2 = true := by decide +kernel
theorem okmX7_build : okM mX7_build := ⟨by decide +kernel, rfl, dtX7_build_0, dqX7_build_0, Nat.le_of_ble_eq_true rfl⟩
theorem okpX7_build : okMc mX7_build := ⟨okmX7_build, List.mem_of_getElem? (i := 1185) (by decide +kernel), List.mem_of_getElem? (i := 74) (by decide +kernel), by decide +kernel, by decide +kernel⟩
theorem dqX7_led_0 : ∀ e ∈ tX7_led_0, rLq e.2.1 e.2.2 = true := by decide +kernel
theorem okmX7_led : okM mX7_led := ⟨by decide +kernel, rfl, dtX7_led_0, dqX7_led_0, Nat.le_of_ble_eq_true rfl⟩
theorem okpX7_led : okMc mX7_led := ⟨okmX7_led, List.mem_of_getElem? (i := 1189) (by decide +kernel), List.mem_of_getElem? (i := 74) (by decide +kernel), by decide +kernel, by decide +kernel⟩
theorem dqX7_image_0 : ∀ e ∈ tX7_image_0, rLq e.2.1 e.2.2 = true := by decide +kernel
theorem okmX7_image : okM mX7_image := ⟨by decide +kernel, rfl, dtX7_image_0, dqX7_image_0, Nat.le_of_ble_eq_true rfl⟩
theorem okpX7_image : okMc mX7_image := ⟨okmX7_image, List.mem_of_getElem? (i := 1193) (by decide +kernel), List.mem_of_getElem? (i := 74) (by decide +kernel), by decide +kernel, by decide +kernel⟩
theorem dqX7_back_0 : ∀ e ∈ tX7_back_0, rLq e.2.1 e.2.2 = true := by decide +kernel
theorem okmX7_back : okM mX7_back := ⟨by decide +kernel, rfl, dtX7_back_0, dqX7_back_0, Nat.le_of_ble_eq_true rfl⟩
theorem okpX7_back : okMc mX7_back := ⟨okmX7_back, List.mem_of_getElem? (i := 1197) (by decide +kernel), List.mem_of_getElem? (i := 74) (by decide +kernel), by decide +kernel, by decide +kernel⟩
theorem dqX7_above_0 : ∀ e ∈ tX7_above_0, rLq e.2.1 e.2.2 = true := by decide +kernel
theorem okmX7_above : okM mX7_above := ⟨by decide +kernel, rfl, dtX7_above_0, dqX7_above_0, Nat.le_of_ble_eq_true rfl⟩
theorem okpX7_above : okMc mX7_above := ⟨okmX7_above, List.mem_of_getElem? (i := 1216) (by decide +kernel), List.mem_of_getElem? (i := 74) (by decide +kernel), by decide +kernel, by decide +kernel⟩
theorem dqX7_ran_0 : ∀ e ∈ tX7_ran_0, rLq e.2.1 e.2.2 = true := by decide +kernel
theorem okmX7_ran : okM mX7_ran := ⟨by decide +kernel, rfl, dtX7_ran_0, dqX7_ran_0, Nat.le_of_ble_eq_true rfl⟩
theorem okpX7_ran : okMc mX7_ran := ⟨okmX7_ran, List.mem_of_getElem? (i := 1213) (by decide +kernel), List.mem_of_getElem? (i := 74) (by decide +kernel), by decide +kernel, by decide +kernel⟩
theorem dqX7_flowsBy_0 : ∀ e ∈ tX7_flowsBy_0, rLq e.2.1 e.2.2 = true := by decide +kernel
theorem okmX7_flowsBy : okM mX7_flowsBy := ⟨by decide +kernel, rfl, dtX7_flowsBy_0, dqX7_flowsBy_0, Nat.le_of_ble_eq_true rfl⟩
theorem okpX7_flowsBy : okMc mX7_flowsBy := ⟨okmX7_flowsBy, List.mem_of_getElem? (i := 1209) (by decide +kernel), List.mem_of_getElem? (i := 74) (by decide +kernel), by decide +kernel, by decide +kernel⟩
theorem dqX7_saysBy_0 : ∀ e ∈ tX7_saysBy_0, rLq e.2.1 e.2.2 = true := by decide +kernel
theorem dqX7_saysBy_1 : ∀ e ∈ tX7_saysBy_1, rLq e.2.1 e.2.2 = true := by decide +kernel
theorem okmX7_saysBy : okM mX7_saysBy := ⟨by decide +kernel, rfl, List.forall_mem_append.mpr ⟨dtX7_saysBy_0, dtX7_saysBy_1⟩, List.forall_mem_append.mpr ⟨dqX7_saysBy_0, dqX7_saysBy_1⟩, Nat.le_of_ble_eq_true rfl⟩
theorem okpX7_saysBy : okMc mX7_saysBy := ⟨okmX7_saysBy, List.mem_of_getElem? (i := 1220) (by decide +kernel), List.mem_of_getElem? (i := 74) (by decide +kernel), by decide +kernel, by decide +kernel⟩
theorem dqX7_floodsBy_0 : ∀ e ∈ tX7_floodsBy_0, rLq e.2.1 e.2.2 = true := by decide +kernel
theorem dqX7_floodsBy_1 : ∀ e ∈ tX7_floodsBy_1, rLq e.2.1 e.2.2 = true := by decide +kernel
theorem okmX7_floodsBy : okM mX7_floodsBy := ⟨by decide +kernel, rfl, List.forall_mem_append.mpr ⟨dtX7_floodsBy_0, dtX7_floodsBy_1⟩, List.forall_mem_append.mpr ⟨dqX7_floodsBy_0, dqX7_floodsBy_1⟩, Nat.le_of_ble_eq_true rfl⟩
theorem okpX7_floodsBy : okMc mX7_floodsBy := ⟨okmX7_floodsBy, List.mem_of_getElem? (i := 1224) (by decide +kernel), List.mem_of_getElem? (i := 74) (by decide +kernel), by decide +kernel, by decide +kernel⟩
theorem dqX7_tells_0 : ∀ e ∈ tX7_tells_0, rLq e.2.1 e.2.2 = true := by decide +kernel
theorem dqX7_tells_1 : ∀ e ∈ tX7_tells_1, rLq e.2.1 e.2.2 = true := by decide +kernel
theorem okmX7_tells : okM mX7_tells := ⟨by decide +kernel, rfl, List.forall_mem_append.mpr ⟨dtX7_tells_0, dtX7_tells_1⟩, List.forall_mem_append.mpr ⟨dqX7_tells_0, dqX7_tells_1⟩, Nat.le_of_ble_eq_true rfl⟩
theorem okpX7_tells : okMc mX7_tells := ⟨okmX7_tells, List.mem_of_getElem? (i := 1228) (by decide +kernel), List.mem_of_getElem? (i := 74) (by decide +kernel), by decide +kernel, by decide +kernel⟩
theorem dqX7_body_0 : ∀ e ∈ tX7_body_0, rLq e.2.1 e.2.2 = true := by decide +kernel
theorem okmX7_body : okM mX7_body := ⟨by decide +kernel, rfl, dtX7_body_0, dqX7_body_0, Nat.le_of_ble_eq_true rfl⟩
theorem okpX7_body : okMc mX7_body := ⟨okmX7_body, List.mem_of_getElem? (i := 1201) (by decide +kernel), List.mem_of_getElem? (i := 74) (by decide +kernel), by decide +kernel, by decide +kernel⟩
theorem dqX7_act_0 : ∀ e ∈ tX7_act_0, rLq e.2.1 e.2.2 = true := by decide +kernel
theorem dqX7_act_1 : ∀ e ∈ tX7_act_1, rLq e.2.1 e.2.2 = true := by decide +kernel
theorem okmX7_act : okM mX7_act := ⟨by decide +kernel, rfl, List.forall_mem_append.mpr ⟨dtX7_act_0, dtX7_act_1⟩, List.forall_mem_append.mpr ⟨dqX7_act_0, dqX7_act_1⟩, Nat.le_of_ble_eq_true rfl⟩
theorem okpX7_act : okMc mX7_act := ⟨okmX7_act, List.mem_of_getElem? (i := 1205) (by decide +kernel), List.mem_of_getElem? (i := 74) (by decide +kernel), by decide +kernel, by decide +kernel⟩
theorem dqX7_trace_0 : ∀ e ∈ tX7_trace_0, rLq e.2.1 e.2.2 = true := by decide +kernel
theorem okmX7_trace : okM mX7_trace := ⟨by decide +kernel, rfl, dtX7_trace_0, dqX7_trace_0, Nat.le_of_ble_eq_true rfl⟩
theorem okpX7_trace : okMc mX7_trace := ⟨okmX7_trace, List.mem_of_getElem? (i := 1232) (by decide +kernel), List.mem_of_getElem? (i := 74) (by decide +kernel), by decide +kernel, by decide +kernel⟩
theorem dqX7_keep_0 : ∀ e ∈ tX7_keep_0, rLq e.2.1 e.2.2 = true := by decide +kernel
theorem okmX7_keep : okM mX7_keep := ⟨by decide +kernel, rfl, dtX7_keep_0, dqX7_keep_0, Nat.le_of_ble_eq_true rfl⟩
theorem okpX7_keep : okMc mX7_keep := ⟨okmX7_keep, List.mem_of_getElem? (i := 1236) (by decide +kernel), List.mem_of_getElem? (i := 74) (by decide +kernel), by decide +kernel, by decide +kernel⟩
theorem dqX7_row_0 : ∀ e ∈ tX7_row_0, rLq e.2.1 e.2.2 = true := by decide +kernel
theorem dqX7_row_1 : ∀ e ∈ tX7_row_1, rLq e.2.1 e.2.2 = true := by decide +kernel
theorem okmX7_row : okM mX7_row := ⟨by decide +kernel, rfl, List.forall_mem_append.mpr ⟨dtX7_row_0, dtX7_row_1⟩, List.forall_mem_append.mpr ⟨dqX7_row_0, dqX7_row_1⟩, Nat.le_of_ble_eq_true rfl⟩
theorem okpX7_row : okMc mX7_row := ⟨okmX7_row, List.mem_of_getElem? (i := 1240) (by decide +kernel), List.mem_of_getElem? (i := 74) (by decide +kernel), by decide +kernel, by decide +kernel⟩
theorem dqX7_isRow_0 : ∀ e ∈ tX7_isRow_0, rLq e.2.1 e.2.2 = true := by decide +kernel
theorem okmX7_isRow : okM mX7_isRow := ⟨by decide +kernel, rfl, dtX7_isRow_0, dqX7_isRow_0, Nat.le_of_ble_eq_true rfl⟩
theorem okpX7_isRow : okMc mX7_isRow := ⟨okmX7_isRow, List.mem_of_getElem? (i := 1248) (by decide +kernel), List.mem_of_getElem? (i := 74) (by decide +kernel), by decide +kernel, by decide +kernel⟩
theorem dqX7_kept_0 : ∀ e ∈ tX7_kept_0, rLq e.2.1 e.2.2 = true := by decide +kernel
theorem okmX7_kept : okM mX7_kept := ⟨by decide +kernel, rfl, dtX7_kept_0, dqX7_kept_0, Nat.le_of_ble_eq_true rfl⟩
theorem okpX7_kept : okMc mX7_kept := ⟨okmX7_kept, List.mem_of_getElem? (i := 1251) (by decide +kernel), List.mem_of_getElem? (i := 74) (by decide +kernel), by decide +kernel, by decide +kernel⟩
theorem dqX7_put_0 : ∀ e ∈ tX7_put_0, rLq e.2.1 e.2.2 = true := by decide +kernel
theorem dqX7_put_1 : ∀ e ∈ tX7_put_1, rLq e.2.1 e.2.2 = true := by decide +kernel
theorem okmX7_put : okM mX7_put := ⟨by decide +kernel, rfl, List.forall_mem_append.mpr ⟨dtX7_put_0, dtX7_put_1⟩, List.forall_mem_append.mpr ⟨dqX7_put_0, dqX7_put_1⟩, Nat.le_of_ble_eq_true rfl⟩
theorem okpX7_put : okMc mX7_put := ⟨okmX7_put, List.mem_of_getElem? (i := 1244) (by decide +kernel), List.mem_of_getElem? (i := 74) (by decide +kernel), by decide +kernel, by decide +kernel⟩
theorem dqX7_element_0 : ∀ e ∈ tX7_element_0, rLq e.2.1 e.2.2 = true := by decide +kernel
theorem okmX7_element : okM mX7_element := ⟨by decide +kernel, rfl, dtX7_element_0, dqX7_element_0, Nat.le_of_ble_eq_true rfl⟩
theorem okpX7_element : okMc mX7_element := ⟨okmX7_element, List.mem_of_getElem? (i := 1255) (by decide +kernel), List.mem_of_getElem? (i := 74) (by decide +kernel), by decide +kernel, by decide +kernel⟩
theorem dqX7_shift_0 : ∀ e ∈ tX7_shift_0, rLq e.2.1 e.2.2 = true := by decide +kernel
theorem dqX7_shift_1 : ∀ e ∈ tX7_shift_1, rLq e.2.1 e.2.2 = true := by decide +kernel
theorem dqX7_shift_2 : ∀ e ∈ tX7_shift_2, rLq e.2.1 e.2.2 = true := by decide +kernel
theorem dqX7_shift_3 : ∀ e ∈ tX7_shift_3, rLq e.2.1 e.2.2 = true := by decide +kernel
theorem okmX7_shift : okM mX7_shift := ⟨by decide +kernel, rfl, List.forall_mem_append.mpr ⟨dtX7_shift_0, List.forall_mem_append.mpr ⟨dtX7_shift_1, List.forall_mem_append.mpr ⟨dtX7_shift_2, dtX7_shift_3⟩⟩⟩, List.forall_mem_append.mpr ⟨dqX7_shift_0, List.forall_mem_append.mpr ⟨dqX7_shift_1, List.forall_mem_append.mpr ⟨dqX7_shift_2, dqX7_shift_3⟩⟩⟩, Nat.le_of_ble_eq_true rfl⟩
theorem okpX7_shift : okMc mX7_shift := ⟨okmX7_shift, List.mem_of_getElem? (i := 1259) (by decide +kernel), List.mem_of_getElem? (i := 74) (by decide +kernel), by decide +kernel, by decide +kernel⟩
theorem dqX7_taken_0 : ∀ e ∈ tX7_taken_0, rLq e.2.1 e.2.2 = true := by decide +kernel
theorem dqX7_taken_1 : ∀ e ∈ tX7_taken_1, rLq e.2.1 e.2.2 = true := by decide +kernel
theorem okmX7_taken : okM mX7_taken := ⟨by decide +kernel, rfl, List.forall_mem_append.mpr ⟨dtX7_taken_0, dtX7_taken_1⟩, List.forall_mem_append.mpr ⟨dqX7_taken_0, dqX7_taken_1⟩, Nat.le_of_ble_eq_true rfl⟩
theorem okpX7_taken : okMc mX7_taken := ⟨okmX7_taken, List.mem_of_getElem? (i := 1263) (by decide +kernel), List.mem_of_getElem? (i := 74) (by decide +kernel), by decide +kernel, by decide +kernel⟩
theorem dqX7_count_0 : ∀ e ∈ tX7_count_0, rLq e.2.1 e.2.2 = true := by decide +kernel
theorem okmX7_count : okM mX7_count := ⟨by decide +kernel, rfl, dtX7_count_0, dqX7_count_0, Nat.le_of_ble_eq_true rfl⟩
theorem okpX7_count : okMc mX7_count := ⟨okmX7_count, List.mem_of_getElem? (i := 1267) (by decide +kernel), List.mem_of_getElem? (i := 74) (by decide +kernel), by decide +kernel, by decide +kernel⟩
theorem dqJ6_numberOfTrailingZeros_0f7a4_0 : ∀ e ∈ tJ6_numberOfTrailingZeros_0f7a4_0, rLq e.2.1 e.2.2 = true := by decide +kernel
theorem dqJ6_numberOfTrailingZeros_0f7a4_1 : ∀ e ∈ tJ6_numberOfTrailingZeros_0f7a4_1, rLq e.2.1 e.2.2 = true := by decide +kernel
theorem okmJ6_numberOfTrailingZeros_0f7a4 : okM mJ6_numberOfTrailingZeros_0f7a4 := ⟨by decide +kernel, rfl, List.forall_mem_append.mpr ⟨dtJ6_numberOfTrailingZeros_0f7a4_0, dtJ6_numberOfTrailingZeros_0f7a4_1⟩, List.forall_mem_append.mpr ⟨dqJ6_numberOfTrailingZeros_0f7a4_0, dqJ6_numberOfTrailingZeros_0f7a4_1⟩, Nat.le_of_ble_eq_true rfl⟩
theorem okpJ6_numberOfTrailingZeros_0f7a4 : okMc mJ6_numberOfTrailingZeros_0f7a4 := ⟨okmJ6_numberOfTrailingZeros_0f7a4, List.mem_of_getElem? (i := 532) (by decide +kernel), List.mem_of_getElem? (i := 77) (by decide +kernel), by decide +kernel, by decide +kernel⟩
theorem dqJ6_bitCount_0f7a4_0 : ∀ e ∈ tJ6_bitCount_0f7a4_0, rLq e.2.1 e.2.2 = true := by decide +kernel
theorem dqJ6_bitCount_0f7a4_1 : ∀ e ∈ tJ6_bitCount_0f7a4_1, rLq e.2.1 e.2.2 = true := by decide +kernel
theorem okmJ6_bitCount_0f7a4 : okM mJ6_bitCount_0f7a4 := ⟨by decide +kernel, rfl, List.forall_mem_append.mpr ⟨dtJ6_bitCount_0f7a4_0, dtJ6_bitCount_0f7a4_1⟩, List.forall_mem_append.mpr ⟨dqJ6_bitCount_0f7a4_0, dqJ6_bitCount_0f7a4_1⟩, Nat.le_of_ble_eq_true rfl⟩
theorem okpJ6_bitCount_0f7a4 : okMc mJ6_bitCount_0f7a4 := ⟨okmJ6_bitCount_0f7a4, List.mem_of_getElem? (i := 564) (by decide +kernel), List.mem_of_getElem? (i := 77) (by decide +kernel), by decide +kernel, by decide +kernel⟩
theorem dqL_law_0 : ∀ e ∈ tL_law_0, rLq e.2.1 e.2.2 = true := by decide +kernel
theorem dqL_law_1 : ∀ e ∈ tL_law_1, rLq e.2.1 e.2.2 = true := by decide +kernel
theorem dqL_law_2 : ∀ e ∈ tL_law_2, rLq e.2.1 e.2.2 = true := by decide +kernel
theorem dqL_law_3 : ∀ e ∈ tL_law_3, rLq e.2.1 e.2.2 = true := by decide +kernel
theorem dqL_law_4 : ∀ e ∈ tL_law_4, rLq e.2.1 e.2.2 = true := by decide +kernel
theorem dqL_law_5 : ∀ e ∈ tL_law_5, rLq e.2.1 e.2.2 = true := by decide +kernel
theorem dqL_law_6 : ∀ e ∈ tL_law_6, rLq e.2.1 e.2.2 = true := by decide +kernel
theorem dqL_law_7 : ∀ e ∈ tL_law_7, rLq e.2.1 e.2.2 = true := by decide +kernel
theorem dqL_law_8 : ∀ e ∈ tL_law_8, rLq e.2.1 e.2.2 = true := by decide +kernel
theorem dqL_law_9 : ∀ e ∈ tL_law_9, rLq e.2.1 e.2.2 = true := by decide +kernel
theorem dqL_law_10 : ∀ e ∈ tL_law_10, rLq e.2.1 e.2.2 = true := by decide +kernel
theorem dqL_law_11 : ∀ e ∈ tL_law_11, rLq e.2.1 e.2.2 = true := by decide +kernel
theorem dqL_law_12 : ∀ e ∈ tL_law_12, rLq e.2.1 e.2.2 = true := by decide +kernel
theorem dqL_law_13 : ∀ e ∈ tL_law_13, rLq e.2.1 e.2.2 = true := by decide +kernel
theorem dqL_law_14 : ∀ e ∈ tL_law_14, rLq e.2.1 e.2.2 = true := by decide +kernel
theorem dqL_law_15 : ∀ e ∈ tL_law_15, rLq e.2.1 e.2.2 = true := by decide +kernel
theorem dqL_law_16 : ∀ e ∈ tL_law_16, rLq e.2.1 e.2.2 = true := by decide +kernel
theorem dqL_law_17 : ∀ e ∈ tL_law_17, rLq e.2.1 e.2.2 = true := by decide +kernel
theorem dqL_law_18 : ∀ e ∈ tL_law_18, rLq e.2.1 e.2.2 = true := by decide +kernel
theorem dqL_law_19 : ∀ e ∈ tL_law_19, rLq e.2.1 e.2.2 = true := by decide +kernel
theorem dqL_law_20 : ∀ e ∈ tL_law_20, rLq e.2.1 e.2.2 = true := by decide +kernel
theorem dqL_law_21 : ∀ e ∈ tL_law_21, rLq e.2.1 e.2.2 = true := by decide +kernel
theorem dqL_law_22 : ∀ e ∈ tL_law_22, rLq e.2.1 e.2.2 = true := by decide +kernel
theorem dqL_law_23 : ∀ e ∈ tL_law_23, rLq e.2.1 e.2.2 = true := by decide +kernel
theorem dqL_law_24 : ∀ e ∈ tL_law_24, rLq e.2.1 e.2.2 = true := by decide +kernel
theorem dqL_law_25 : ∀ e ∈ tL_law_25, rLq e.2.1 e.2.2 = true := by decide +kernel
theorem okmL_law : okM mL_law := ⟨by decide +kernel, rfl, List.forall_mem_append.mpr ⟨dtL_law_0, List.forall_mem_append.mpr ⟨dtL_law_1, List.forall_mem_append.mpr ⟨dtL_law_2, List.forall_mem_append.mpr ⟨dtL_law_3, List.forall_mem_append.mpr ⟨dtL_law_4, List.forall_mem_append.mpr ⟨dtL_law_5, List.forall_mem_append.mpr ⟨dtL_law_6, List.forall_mem_append.mpr ⟨dtL_law_7, List.forall_mem_append.mpr ⟨dtL_law_8, List.forall_mem_append.mpr ⟨dtL_law_9, List.forall_mem_append.mpr ⟨dtL_law_10, List.forall_mem_append.mpr ⟨dtL_law_11, List.forall_mem_append.mpr ⟨dtL_law_12, List.forall_mem_append.mpr ⟨dtL_law_13, List.forall_mem_append.mpr ⟨dtL_law_14, List.forall_mem_append.mpr ⟨dtL_law_15, List.forall_mem_append.mpr ⟨dtL_law_16, List.forall_mem_append.mpr ⟨dtL_law_17, List.forall_mem_append.mpr ⟨dtL_law_18, List.forall_mem_append.mpr ⟨dtL_law_19, List.forall_mem_append.mpr ⟨dtL_law_20, List.forall_mem_append.mpr ⟨dtL_law_21, List.forall_mem_append.mpr ⟨dtL_law_22, List.forall_mem_append.mpr ⟨dtL_law_23, List.forall_mem_append.mpr ⟨dtL_law_24, dtL_law_25⟩⟩⟩⟩⟩⟩⟩⟩⟩⟩⟩⟩⟩⟩⟩⟩⟩⟩⟩⟩⟩⟩⟩⟩⟩, List.forall_mem_append.mpr ⟨dqL_law_0, List.forall_mem_append.mpr ⟨dqL_law_1, List.forall_mem_append.mpr ⟨dqL_law_2, List.forall_mem_append.mpr ⟨dqL_law_3, List.forall_mem_append.mpr ⟨dqL_law_4, List.forall_mem_append.mpr ⟨dqL_law_5, List.forall_mem_append.mpr ⟨dqL_law_6, List.forall_mem_append.mpr ⟨dqL_law_7, List.forall_mem_append.mpr ⟨dqL_law_8, List.forall_mem_append.mpr ⟨dqL_law_9, List.forall_mem_append.mpr ⟨dqL_law_10, List.forall_mem_append.mpr ⟨dqL_law_11, List.forall_mem_append.mpr ⟨dqL_law_12, List.forall_mem_append.mpr ⟨dqL_law_13, List.forall_mem_append.mpr ⟨dqL_law_14, List.forall_mem_append.mpr ⟨dqL_law_15, List.forall_mem_append.mpr ⟨dqL_law_16, List.forall_mem_append.mpr ⟨dqL_law_17, List.forall_mem_append.mpr ⟨dqL_law_18, List.forall_mem_append.mpr ⟨dqL_law_19, List.forall_mem_append.mpr ⟨dqL_law_20, List.forall_mem_append.mpr ⟨dqL_law_21, List.forall_mem_append.mpr ⟨dqL_law_22, List.forall_mem_append.mpr ⟨dqL_law_23, List.forall_mem_append.mpr ⟨dqL_law_24, dqL_law_25⟩⟩⟩⟩⟩⟩⟩⟩⟩⟩⟩⟩⟩⟩⟩⟩⟩⟩⟩⟩⟩⟩⟩⟩⟩, Nat.le_of_ble_eq_true rfl⟩
