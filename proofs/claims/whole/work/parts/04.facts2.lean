theorem okiX0_forgetOldest : Cond.instanceMethod yX0_forgetOldest ∈ lw_tbl := List.mem_of_getElem? (i := 361) (by decide +kernel)
theorem okxX0_forgetOldest : Cond.selects yX0_forgetOldest.cls yX0_forgetOldest yX0_forgetOldest ∈ lw_tbl := List.mem_of_getElem? (i := 2) (by decide +kernel)
theorem okdX0_forgetOldest : (parseMethodDescriptor yX0_forgetOldest.desc).map (fun d => d.parameters.length + 1) = some 1 := by decide +kernel
theorem okc_0_26 : okC RX0 (26, 0, mX0_forgetOldest) := ⟨okpX0_forgetOldest, fun _ => ⟨List.mem_of_getElem? (i := 359) (by decide +kernel), okiX0_forgetOldest, okxX0_forgetOldest, okdX0_forgetOldest, _, rfl, rfl⟩, fun h => absurd h (by decide), fun h => absurd h (by decide), fun h => absurd h (by decide)⟩
theorem okiX3_become : Cond.instanceMethod yX3_become ∈ lw_tbl := List.mem_of_getElem? (i := 351) (by decide +kernel)
theorem okxX3_become : Cond.selects yX3_become.cls yX3_become yX3_become ∈ lw_tbl := List.mem_of_getElem? (i := 352) (by decide +kernel)
theorem okdX3_become : (parseMethodDescriptor yX3_become.desc).map (fun d => d.parameters.length + 1) = some 4 := by decide +kernel
theorem okc_0_38 : okC RX0 (38, 0, mX3_become) := ⟨okpX3_become, fun _ => ⟨List.mem_of_getElem? (i := 658) (by decide +kernel), okiX3_become, okxX3_become, okdX3_become, _, rfl, rfl⟩, fun h => absurd h (by decide), fun h => absurd h (by decide), fun h => absurd h (by decide)⟩
theorem okC_0 : ∀ e ∈ rCT_0, okC RX0 e := List.forall_mem_cons.mpr ⟨okc_0_26, List.forall_mem_cons.mpr ⟨okc_0_38, fun _ h => absurd h List.not_mem_nil⟩⟩
theorem okF_0 : ∀ e ∈ rFT_0, okF RX0 e := List.forall_mem_cons.mpr ⟨(show okF RX0 (9, 0, 0) from ⟨_, rfl, Nat.le_of_ble_eq_true rfl, List.mem_of_getElem? (i := 179) (by decide +kernel)⟩), List.forall_mem_cons.mpr ⟨(show okF RX0 (13, 0, 1) from ⟨_, rfl, Nat.le_of_ble_eq_true rfl, List.mem_of_getElem? (i := 180) (by decide +kernel)⟩), List.forall_mem_cons.mpr ⟨(show okF RX0 (16, 0, 2) from ⟨_, rfl, Nat.le_of_ble_eq_true rfl, List.mem_of_getElem? (i := 181) (by decide +kernel)⟩), List.forall_mem_cons.mpr ⟨(show okF RX0 (19, 0, 3) from ⟨_, rfl, Nat.le_of_ble_eq_true rfl, List.mem_of_getElem? (i := 182) (by decide +kernel)⟩), List.forall_mem_cons.mpr ⟨(show okF RX0 (22, 0, 4) from ⟨_, rfl, Nat.le_of_ble_eq_true rfl, List.mem_of_getElem? (i := 183) (by decide +kernel)⟩), List.forall_mem_cons.mpr ⟨(show okF RX0 (29, 0, 5) from ⟨_, rfl, Nat.le_of_ble_eq_true rfl, List.mem_of_getElem? (i := 185) (by decide +kernel)⟩), fun _ h => absurd h List.not_mem_nil⟩⟩⟩⟩⟩⟩
theorem okS_0 : ∀ e ∈ rST_0, okS RX0 e := fun _ h => absurd h List.not_mem_nil
theorem okKI_0 : ∀ e ∈ rKI_0, okKI RX0 e := fun _ h => absurd h List.not_mem_nil
theorem okKL_0 : ∀ e ∈ rKL_0, okKL RX0 e := fun _ h => absurd h List.not_mem_nil
theorem okN_0 : ∀ e ∈ rNW_0, okN RX0 e := fun _ h => absurd h List.not_mem_nil
theorem okO_0 : ∀ e ∈ rOI_0, okO RX0 e := List.forall_mem_cons.mpr ⟨(show okO RX0 1 from List.mem_of_getElem? (i := 178) (by decide +kernel)), fun _ h => absurd h List.not_mem_nil⟩
theorem okX_0 : ∀ e ∈ rMX_0, okX RX0 e := fun _ h => absurd h List.not_mem_nil
theorem okI_0 : ∀ e ∈ rMN_0, okI RX0 e := fun _ h => absurd h List.not_mem_nil
theorem okY_0 : ∀ e ∈ rAC_0, okY RX0 e := List.forall_mem_cons.mpr ⟨(show okY RX0 32 from List.mem_of_getElem? (i := 363) (by decide +kernel)), fun _ h => absurd h List.not_mem_nil⟩
theorem oktX1_withoutText : Cond.static yX1_withoutText ∈ lw_tbl := List.mem_of_getElem? (i := 465) (by decide +kernel)
theorem okdX1_withoutText : (parseMethodDescriptor yX1_withoutText.desc).map (fun d => d.parameters.length) = some 2 := by decide +kernel
theorem okc_1_22 : okC RX1 (22, 1, mX1_withoutText) := ⟨okpX1_withoutText, fun h => absurd h (by decide), fun _ => ⟨List.mem_of_getElem? (i := 464) (by decide +kernel), oktX1_withoutText, okdX1_withoutText⟩, fun h => absurd h (by decide), fun h => absurd h (by decide)⟩
theorem okiX1_workedOut : Cond.instanceMethod yX1_workedOut ∈ lw_tbl := List.mem_of_getElem? (i := 469) (by decide +kernel)
theorem okxX1_workedOut : Cond.selects yX1_workedOut.cls yX1_workedOut yX1_workedOut ∈ lw_tbl := List.mem_of_getElem? (i := 15) (by decide +kernel)
theorem okdX1_workedOut : (parseMethodDescriptor yX1_workedOut.desc).map (fun d => d.parameters.length + 1) = some 3 := by decide +kernel
theorem okc_1_26 : okC RX1 (26, 0, mX1_workedOut) := ⟨okpX1_workedOut, fun _ => ⟨List.mem_of_getElem? (i := 467) (by decide +kernel), okiX1_workedOut, okxX1_workedOut, okdX1_workedOut, _, rfl, rfl⟩, fun h => absurd h (by decide), fun h => absurd h (by decide), fun h => absurd h (by decide)⟩
theorem oktX1_isName : Cond.static yX1_isName ∈ lw_tbl := List.mem_of_getElem? (i := 438) (by decide +kernel)
theorem okdX1_isName : (parseMethodDescriptor yX1_isName.desc).map (fun d => d.parameters.length) = some 1 := by decide +kernel
theorem okc_1_52 : okC RX1 (52, 1, mX1_isName) := ⟨okpX1_isName, fun h => absurd h (by decide), fun _ => ⟨List.mem_of_getElem? (i := 471) (by decide +kernel), oktX1_isName, okdX1_isName⟩, fun h => absurd h (by decide), fun h => absurd h (by decide)⟩
theorem oktX1_named : Cond.static yX1_named ∈ lw_tbl := List.mem_of_getElem? (i := 473) (by decide +kernel)
theorem okdX1_named : (parseMethodDescriptor yX1_named.desc).map (fun d => d.parameters.length) = some 3 := by decide +kernel
theorem okc_1_56 : okC RX1 (56, 1, mX1_named) := ⟨okpX1_named, fun h => absurd h (by decide), fun _ => ⟨List.mem_of_getElem? (i := 472) (by decide +kernel), oktX1_named, okdX1_named⟩, fun h => absurd h (by decide), fun h => absurd h (by decide)⟩
theorem oktX1_joined : Cond.static yX1_joined ∈ lw_tbl := List.mem_of_getElem? (i := 476) (by decide +kernel)
theorem okdX1_joined : (parseMethodDescriptor yX1_joined.desc).map (fun d => d.parameters.length) = some 3 := by decide +kernel
theorem okc_1_60 : okC RX1 (60, 1, mX1_joined) := ⟨okpX1_joined, fun h => absurd h (by decide), fun _ => ⟨List.mem_of_getElem? (i := 475) (by decide +kernel), oktX1_joined, okdX1_joined⟩, fun h => absurd h (by decide), fun h => absurd h (by decide)⟩
theorem oktX6_within : Cond.static yX6_within ∈ lw_tbl := List.mem_of_getElem? (i := 479) (by decide +kernel)
theorem okdX6_within : (parseMethodDescriptor yX6_within.desc).map (fun d => d.parameters.length) = some 3 := by decide +kernel
theorem okc_1_29 : okC RX1 (29, 2, mX6_within) := ⟨okpX6_within, fun h => absurd h (by decide), fun h => absurd h (by decide), fun _ => ⟨List.mem_of_getElem? (i := 478) (by decide +kernel), oktX6_within, okdX6_within⟩, fun h => absurd h (by decide)⟩
theorem okC_1 : ∀ e ∈ rCT_1, okC RX1 e := List.forall_mem_cons.mpr ⟨okc_1_22, List.forall_mem_cons.mpr ⟨okc_1_26, List.forall_mem_cons.mpr ⟨okc_1_52, List.forall_mem_cons.mpr ⟨okc_1_56, List.forall_mem_cons.mpr ⟨okc_1_60, List.forall_mem_cons.mpr ⟨okc_1_29, fun _ h => absurd h List.not_mem_nil⟩⟩⟩⟩⟩⟩
theorem okF_1 : ∀ e ∈ rFT_1, okF RX1 e := List.forall_mem_cons.mpr ⟨(show okF RX1 (35, 3, 0) from ⟨_, rfl, Nat.le_of_ble_eq_true rfl, List.mem_of_getElem? (i := 93) (by decide +kernel)⟩), List.forall_mem_cons.mpr ⟨(show okF RX1 (46, 3, 2) from ⟨_, rfl, Nat.le_of_ble_eq_true rfl, List.mem_of_getElem? (i := 97) (by decide +kernel)⟩), List.forall_mem_cons.mpr ⟨(show okF RX1 (49, 3, 3) from ⟨_, rfl, Nat.le_of_ble_eq_true rfl, List.mem_of_getElem? (i := 100) (by decide +kernel)⟩), List.forall_mem_cons.mpr ⟨(show okF RX1 (64, 3, 4) from ⟨_, rfl, Nat.le_of_ble_eq_true rfl, List.mem_of_getElem? (i := 103) (by decide +kernel)⟩), List.forall_mem_cons.mpr ⟨(show okF RX1 (67, 3, 7) from ⟨_, rfl, Nat.le_of_ble_eq_true rfl, List.mem_of_getElem? (i := 109) (by decide +kernel)⟩), List.forall_mem_cons.mpr ⟨(show okF RX1 (63, 3, 8) from ⟨_, rfl, Nat.le_of_ble_eq_true rfl, List.mem_of_getElem? (i := 112) (by decide +kernel)⟩), List.forall_mem_cons.mpr ⟨(show okF RX1 (11, 1, 0) from ⟨_, rfl, Nat.le_of_ble_eq_true rfl, List.mem_of_getElem? (i := 146) (by decide +kernel)⟩), List.forall_mem_cons.mpr ⟨(show okF RX1 (15, 1, 1) from ⟨_, rfl, Nat.le_of_ble_eq_true rfl, List.mem_of_getElem? (i := 147) (by decide +kernel)⟩), List.forall_mem_cons.mpr ⟨(show okF RX1 (18, 1, 2) from ⟨_, rfl, Nat.le_of_ble_eq_true rfl, List.mem_of_getElem? (i := 148) (by decide +kernel)⟩), fun _ h => absurd h List.not_mem_nil⟩⟩⟩⟩⟩⟩⟩⟩⟩
theorem okS_1 : ∀ e ∈ rST_1, okS RX1 e := fun _ h => absurd h List.not_mem_nil
theorem okKI_1 : ∀ e ∈ rKI_1, okKI RX1 e := fun _ h => absurd h List.not_mem_nil
theorem okKL_1 : ∀ e ∈ rKL_1, okKL RX1 e := fun _ h => absurd h List.not_mem_nil
theorem okN_1 : ∀ e ∈ rNW_1, okN RX1 e := fun _ h => absurd h List.not_mem_nil
theorem okO_1 : ∀ e ∈ rOI_1, okO RX1 e := List.forall_mem_cons.mpr ⟨(show okO RX1 3 from List.mem_of_getElem? (i := 145) (by decide +kernel)), fun _ h => absurd h List.not_mem_nil⟩
theorem okX_1 : ∀ e ∈ rMX_1, okX RX1 e := fun _ h => absurd h List.not_mem_nil
theorem okI_1 : ∀ e ∈ rMN_1, okI RX1 e := List.forall_mem_cons.mpr ⟨(show okI RX1 40 from List.mem_of_getElem? (i := 487) (by decide +kernel)), fun _ h => absurd h List.not_mem_nil⟩
theorem okY_1 : ∀ e ∈ rAC_1, okY RX1 e := fun _ h => absurd h List.not_mem_nil
theorem okiX1_init : Cond.instanceMethod yX1_init ∈ lw_tbl := List.mem_of_getElem? (i := 143) (by decide +kernel)
theorem okdX1_init : (parseMethodDescriptor yX1_init.desc).map (fun d => d.parameters.length + 1) = some 1 := by decide +kernel
theorem okc_2_15 : okC RX2 (15, 3, mX1_init) := ⟨okpX1_init, fun h => absurd h (by decide), fun h => absurd h (by decide), fun h => absurd h (by decide), fun _ => ⟨List.mem_of_getElem? (i := 142) (by decide +kernel), okiX1_init, rfl, rfl, okdX1_init⟩⟩
theorem okiX1_clear : Cond.instanceMethod yX1_clear ∈ lw_tbl := List.mem_of_getElem? (i := 387) (by decide +kernel)
theorem okxX1_clear : Cond.selects yX1_clear.cls yX1_clear yX1_clear ∈ lw_tbl := List.mem_of_getElem? (i := 388) (by decide +kernel)
theorem okdX1_clear : (parseMethodDescriptor yX1_clear.desc).map (fun d => d.parameters.length + 1) = some 1 := by decide +kernel
theorem okc_2_24 : okC RX2 (24, 0, mX1_clear) := ⟨okpX1_clear, fun _ => ⟨List.mem_of_getElem? (i := 386) (by decide +kernel), okiX1_clear, okxX1_clear, okdX1_clear, _, rfl, rfl⟩, fun h => absurd h (by decide), fun h => absurd h (by decide), fun h => absurd h (by decide)⟩
theorem okiX2_lines : Cond.instanceMethod yX2_lines ∈ lw_tbl := List.mem_of_getElem? (i := 392) (by decide +kernel)
theorem okxX2_lines : Cond.selects yX2_lines.cls yX2_lines yX2_lines ∈ lw_tbl := List.mem_of_getElem? (i := 3) (by decide +kernel)
theorem okdX2_lines : (parseMethodDescriptor yX2_lines.desc).map (fun d => d.parameters.length + 1) = some 1 := by decide +kernel
theorem okc_2_30 : okC RX2 (30, 0, mX2_lines) := ⟨okpX2_lines, fun _ => ⟨List.mem_of_getElem? (i := 390) (by decide +kernel), okiX2_lines, okxX2_lines, okdX2_lines, _, rfl, rfl⟩, fun h => absurd h (by decide), fun h => absurd h (by decide), fun h => absurd h (by decide)⟩
theorem okiX2_line : Cond.instanceMethod yX2_line ∈ lw_tbl := List.mem_of_getElem? (i := 396) (by decide +kernel)
theorem okxX2_line : Cond.selects yX2_line.cls yX2_line yX2_line ∈ lw_tbl := List.mem_of_getElem? (i := 4) (by decide +kernel)
theorem okdX2_line : (parseMethodDescriptor yX2_line.desc).map (fun d => d.parameters.length + 1) = some 1 := by decide +kernel
theorem okc_2_38 : okC RX2 (38, 0, mX2_line) := ⟨okpX2_line, fun _ => ⟨List.mem_of_getElem? (i := 394) (by decide +kernel), okiX2_line, okxX2_line, okdX2_line, _, rfl, rfl⟩, fun h => absurd h (by decide), fun h => absurd h (by decide), fun h => absurd h (by decide)⟩
theorem okiX2_either : Cond.instanceMethod yX2_either ∈ lw_tbl := List.mem_of_getElem? (i := 400) (by decide +kernel)
theorem okxX2_either : Cond.selects yX2_either.cls yX2_either yX2_either ∈ lw_tbl := List.mem_of_getElem? (i := 5) (by decide +kernel)
theorem okdX2_either : (parseMethodDescriptor yX2_either.desc).map (fun d => d.parameters.length + 1) = some 2 := by decide +kernel
theorem okc_2_45 : okC RX2 (45, 0, mX2_either) := ⟨okpX2_either, fun _ => ⟨List.mem_of_getElem? (i := 398) (by decide +kernel), okiX2_either, okxX2_either, okdX2_either, _, rfl, rfl⟩, fun h => absurd h (by decide), fun h => absurd h (by decide), fun h => absurd h (by decide)⟩
theorem okiX2_both : Cond.instanceMethod yX2_both ∈ lw_tbl := List.mem_of_getElem? (i := 404) (by decide +kernel)
theorem okxX2_both : Cond.selects yX2_both.cls yX2_both yX2_both ∈ lw_tbl := List.mem_of_getElem? (i := 6) (by decide +kernel)
theorem okdX2_both : (parseMethodDescriptor yX2_both.desc).map (fun d => d.parameters.length + 1) = some 2 := by decide +kernel
theorem okc_2_52 : okC RX2 (52, 0, mX2_both) := ⟨okpX2_both, fun _ => ⟨List.mem_of_getElem? (i := 402) (by decide +kernel), okiX2_both, okxX2_both, okdX2_both, _, rfl, rfl⟩, fun h => absurd h (by decide), fun h => absurd h (by decide), fun h => absurd h (by decide)⟩
theorem okiX2_compared : Cond.instanceMethod yX2_compared ∈ lw_tbl := List.mem_of_getElem? (i := 408) (by decide +kernel)
theorem okxX2_compared : Cond.selects yX2_compared.cls yX2_compared yX2_compared ∈ lw_tbl := List.mem_of_getElem? (i := 7) (by decide +kernel)
theorem okdX2_compared : (parseMethodDescriptor yX2_compared.desc).map (fun d => d.parameters.length + 1) = some 2 := by decide +kernel
theorem okc_2_55 : okC RX2 (55, 0, mX2_compared) := ⟨okpX2_compared, fun _ => ⟨List.mem_of_getElem? (i := 406) (by decide +kernel), okiX2_compared, okxX2_compared, okdX2_compared, _, rfl, rfl⟩, fun h => absurd h (by decide), fun h => absurd h (by decide), fun h => absurd h (by decide)⟩
theorem okiX2_sum : Cond.instanceMethod yX2_sum ∈ lw_tbl := List.mem_of_getElem? (i := 412) (by decide +kernel)
theorem okxX2_sum : Cond.selects yX2_sum.cls yX2_sum yX2_sum ∈ lw_tbl := List.mem_of_getElem? (i := 8) (by decide +kernel)
theorem okdX2_sum : (parseMethodDescriptor yX2_sum.desc).map (fun d => d.parameters.length + 1) = some 2 := by decide +kernel
theorem okc_2_58 : okC RX2 (58, 0, mX2_sum) := ⟨okpX2_sum, fun _ => ⟨List.mem_of_getElem? (i := 410) (by decide +kernel), okiX2_sum, okxX2_sum, okdX2_sum, _, rfl, rfl⟩, fun h => absurd h (by decide), fun h => absurd h (by decide), fun h => absurd h (by decide)⟩
theorem okiX2_product : Cond.instanceMethod yX2_product ∈ lw_tbl := List.mem_of_getElem? (i := 416) (by decide +kernel)
theorem okxX2_product : Cond.selects yX2_product.cls yX2_product yX2_product ∈ lw_tbl := List.mem_of_getElem? (i := 9) (by decide +kernel)
theorem okdX2_product : (parseMethodDescriptor yX2_product.desc).map (fun d => d.parameters.length + 1) = some 2 := by decide +kernel
theorem okc_2_61 : okC RX2 (61, 0, mX2_product) := ⟨okpX2_product, fun _ => ⟨List.mem_of_getElem? (i := 414) (by decide +kernel), okiX2_product, okxX2_product, okdX2_product, _, rfl, rfl⟩, fun h => absurd h (by decide), fun h => absurd h (by decide), fun h => absurd h (by decide)⟩
theorem okiX2_operand : Cond.instanceMethod yX2_operand ∈ lw_tbl := List.mem_of_getElem? (i := 420) (by decide +kernel)
theorem okxX2_operand : Cond.selects yX2_operand.cls yX2_operand yX2_operand ∈ lw_tbl := List.mem_of_getElem? (i := 10) (by decide +kernel)
theorem okdX2_operand : (parseMethodDescriptor yX2_operand.desc).map (fun d => d.parameters.length + 1) = some 2 := by decide +kernel
theorem okc_2_64 : okC RX2 (64, 0, mX2_operand) := ⟨okpX2_operand, fun _ => ⟨List.mem_of_getElem? (i := 418) (by decide +kernel), okiX2_operand, okxX2_operand, okdX2_operand, _, rfl, rfl⟩, fun h => absurd h (by decide), fun h => absurd h (by decide), fun h => absurd h (by decide)⟩
theorem okiX2_next : Cond.instanceMethod yX2_next ∈ lw_tbl := List.mem_of_getElem? (i := 424) (by decide +kernel)
theorem okxX2_next : Cond.selects yX2_next.cls yX2_next yX2_next ∈ lw_tbl := List.mem_of_getElem? (i := 11) (by decide +kernel)
theorem okdX2_next : (parseMethodDescriptor yX2_next.desc).map (fun d => d.parameters.length + 1) = some 1 := by decide +kernel
theorem okc_2_34 : okC RX2 (34, 0, mX2_next) := ⟨okpX2_next, fun _ => ⟨List.mem_of_getElem? (i := 422) (by decide +kernel), okiX2_next, okxX2_next, okdX2_next, _, rfl, rfl⟩, fun h => absurd h (by decide), fun h => absurd h (by decide), fun h => absurd h (by decide)⟩
theorem oktX2_isDigit : Cond.static yX2_isDigit ∈ lw_tbl := List.mem_of_getElem? (i := 427) (by decide +kernel)
theorem okdX2_isDigit : (parseMethodDescriptor yX2_isDigit.desc).map (fun d => d.parameters.length) = some 1 := by decide +kernel
theorem okc_2_67 : okC RX2 (67, 1, mX2_isDigit) := ⟨okpX2_isDigit, fun h => absurd h (by decide), fun _ => ⟨List.mem_of_getElem? (i := 426) (by decide +kernel), oktX2_isDigit, okdX2_isDigit⟩, fun h => absurd h (by decide), fun h => absurd h (by decide)⟩
theorem okiX2_number : Cond.instanceMethod yX2_number ∈ lw_tbl := List.mem_of_getElem? (i := 431) (by decide +kernel)
theorem okxX2_number : Cond.selects yX2_number.cls yX2_number yX2_number ∈ lw_tbl := List.mem_of_getElem? (i := 12) (by decide +kernel)
theorem okdX2_number : (parseMethodDescriptor yX2_number.desc).map (fun d => d.parameters.length + 1) = some 1 := by decide +kernel
theorem okc_2_70 : okC RX2 (70, 0, mX2_number) := ⟨okpX2_number, fun _ => ⟨List.mem_of_getElem? (i := 429) (by decide +kernel), okiX2_number, okxX2_number, okdX2_number, _, rfl, rfl⟩, fun h => absurd h (by decide), fun h => absurd h (by decide), fun h => absurd h (by decide)⟩
theorem okiX1_add : Cond.instanceMethod yX1_add ∈ lw_tbl := List.mem_of_getElem? (i := 434) (by decide +kernel)
theorem okxX1_add : Cond.selects yX1_add.cls yX1_add yX1_add ∈ lw_tbl := List.mem_of_getElem? (i := 435) (by decide +kernel)
theorem okdX1_add : (parseMethodDescriptor yX1_add.desc).map (fun d => d.parameters.length + 1) = some 2 := by decide +kernel
theorem okc_2_48 : okC RX2 (48, 0, mX1_add) := ⟨okpX1_add, fun _ => ⟨List.mem_of_getElem? (i := 433) (by decide +kernel), okiX1_add, okxX1_add, okdX1_add, _, rfl, rfl⟩, fun h => absurd h (by decide), fun h => absurd h (by decide), fun h => absurd h (by decide)⟩
theorem okc_2_73 : okC RX2 (73, 1, mX1_isName) := ⟨okpX1_isName, fun h => absurd h (by decide), fun _ => ⟨List.mem_of_getElem? (i := 437) (by decide +kernel), oktX1_isName, okdX1_isName⟩, fun h => absurd h (by decide), fun h => absurd h (by decide)⟩
theorem okiX2_passes : Cond.instanceMethod yX2_passes ∈ lw_tbl := List.mem_of_getElem? (i := 442) (by decide +kernel)
theorem okxX2_passes : Cond.selects yX2_passes.cls yX2_passes yX2_passes ∈ lw_tbl := List.mem_of_getElem? (i := 13) (by decide +kernel)
theorem okdX2_passes : (parseMethodDescriptor yX2_passes.desc).map (fun d => d.parameters.length + 1) = some 2 := by decide +kernel
theorem okc_2_41 : okC RX2 (41, 0, mX2_passes) := ⟨okpX2_passes, fun _ => ⟨List.mem_of_getElem? (i := 440) (by decide +kernel), okiX2_passes, okxX2_passes, okdX2_passes, _, rfl, rfl⟩, fun h => absurd h (by decide), fun h => absurd h (by decide), fun h => absurd h (by decide)⟩
theorem okC_2 : ∀ e ∈ rCT_2, okC RX2 e := List.forall_mem_cons.mpr ⟨okc_2_15, List.forall_mem_cons.mpr ⟨okc_2_24, List.forall_mem_cons.mpr ⟨okc_2_30, List.forall_mem_cons.mpr ⟨okc_2_38, List.forall_mem_cons.mpr ⟨okc_2_45, List.forall_mem_cons.mpr ⟨okc_2_52, List.forall_mem_cons.mpr ⟨okc_2_55, List.forall_mem_cons.mpr ⟨okc_2_58, List.forall_mem_cons.mpr ⟨okc_2_61, List.forall_mem_cons.mpr ⟨okc_2_64, List.forall_mem_cons.mpr ⟨okc_2_34, List.forall_mem_cons.mpr ⟨okc_2_67, List.forall_mem_cons.mpr ⟨okc_2_70, List.forall_mem_cons.mpr ⟨okc_2_48, List.forall_mem_cons.mpr ⟨okc_2_73, List.forall_mem_cons.mpr ⟨okc_2_41, fun _ h => absurd h List.not_mem_nil⟩⟩⟩⟩⟩⟩⟩⟩⟩⟩⟩⟩⟩⟩⟩⟩
theorem okF_2 : ∀ e ∈ rFT_2, okF RX2 e := List.forall_mem_cons.mpr ⟨(show okF RX2 (9, 2, 0) from ⟨_, rfl, Nat.le_of_ble_eq_true rfl, List.mem_of_getElem? (i := 157) (by decide +kernel)⟩), List.forall_mem_cons.mpr ⟨(show okF RX2 (20, 2, 1) from ⟨_, rfl, Nat.le_of_ble_eq_true rfl, List.mem_of_getElem? (i := 158) (by decide +kernel)⟩), List.forall_mem_cons.mpr ⟨(show okF RX2 (27, 2, 2) from ⟨_, rfl, Nat.le_of_ble_eq_true rfl, List.mem_of_getElem? (i := 160) (by decide +kernel)⟩), List.forall_mem_cons.mpr ⟨(show okF RX2 (16, 2, 3) from ⟨_, rfl, Nat.le_of_ble_eq_true rfl, List.mem_of_getElem? (i := 161) (by decide +kernel)⟩), fun _ h => absurd h List.not_mem_nil⟩⟩⟩⟩
theorem okS_2 : ∀ e ∈ rST_2, okS RX2 e := fun _ h => absurd h List.not_mem_nil
theorem okKI_2 : ∀ e ∈ rKI_2, okKI RX2 e := fun _ h => absurd h List.not_mem_nil
theorem okKL_2 : ∀ e ∈ rKL_2, okKL RX2 e := fun _ h => absurd h List.not_mem_nil
theorem okN_2 : ∀ e ∈ rNW_2, okN RX2 e := List.forall_mem_cons.mpr ⟨(show okN RX2 (13, 1) from ⟨_, rfl, List.mem_of_getElem? (i := 140) (by decide +kernel), List.mem_of_getElem? (i := 141) (by decide +kernel), List.mem_of_getElem? (i := 70) (by decide +kernel)⟩), fun _ h => absurd h List.not_mem_nil⟩
theorem okO_2 : ∀ e ∈ rOI_2, okO RX2 e := List.forall_mem_cons.mpr ⟨(show okO RX2 1 from List.mem_of_getElem? (i := 139) (by decide +kernel)), fun _ h => absurd h List.not_mem_nil⟩
theorem okX_2 : ∀ e ∈ rMX_2, okX RX2 e := fun _ h => absurd h List.not_mem_nil
theorem okI_2 : ∀ e ∈ rMN_2, okI RX2 e := fun _ h => absurd h List.not_mem_nil
theorem okY_2 : ∀ e ∈ rAC_2, okY RX2 e := fun _ h => absurd h List.not_mem_nil
theorem okiX3_isFull : Cond.instanceMethod yX3_isFull ∈ lw_tbl := List.mem_of_getElem? (i := 298) (by decide +kernel)
theorem okxX3_isFull : Cond.selects yX3_isFull.cls yX3_isFull yX3_isFull ∈ lw_tbl := List.mem_of_getElem? (i := 299) (by decide +kernel)
theorem okdX3_isFull : (parseMethodDescriptor yX3_isFull.desc).map (fun d => d.parameters.length + 1) = some 1 := by decide +kernel
theorem okc_3_43 : okC RX3 (43, 0, mX3_isFull) := ⟨okpX3_isFull, fun _ => ⟨List.mem_of_getElem? (i := 305) (by decide +kernel), okiX3_isFull, okxX3_isFull, okdX3_isFull, _, rfl, rfl⟩, fun h => absurd h (by decide), fun h => absurd h (by decide), fun h => absurd h (by decide)⟩
theorem okiX3_has : Cond.instanceMethod yX3_has ∈ lw_tbl := List.mem_of_getElem? (i := 338) (by decide +kernel)
theorem okxX3_has : Cond.selects yX3_has.cls yX3_has yX3_has ∈ lw_tbl := List.mem_of_getElem? (i := 339) (by decide +kernel)
theorem okdX3_has : (parseMethodDescriptor yX3_has.desc).map (fun d => d.parameters.length + 1) = some 3 := by decide +kernel
theorem okc_3_47 : okC RX3 (47, 0, mX3_has) := ⟨okpX3_has, fun _ => ⟨List.mem_of_getElem? (i := 345) (by decide +kernel), okiX3_has, okxX3_has, okdX3_has, _, rfl, rfl⟩, fun h => absurd h (by decide), fun h => absurd h (by decide), fun h => absurd h (by decide)⟩
theorem okiX3_numbers : Cond.instanceMethod yX3_numbers ∈ lw_tbl := List.mem_of_getElem? (i := 348) (by decide +kernel)
theorem okxX3_numbers : Cond.selects yX3_numbers.cls yX3_numbers yX3_numbers ∈ lw_tbl := List.mem_of_getElem? (i := 1) (by decide +kernel)
theorem okdX3_numbers : (parseMethodDescriptor yX3_numbers.desc).map (fun d => d.parameters.length + 1) = some 2 := by decide +kernel
theorem okc_3_54 : okC RX3 (54, 0, mX3_numbers) := ⟨okpX3_numbers, fun _ => ⟨List.mem_of_getElem? (i := 346) (by decide +kernel), okiX3_numbers, okxX3_numbers, okdX3_numbers, _, rfl, rfl⟩, fun h => absurd h (by decide), fun h => absurd h (by decide), fun h => absurd h (by decide)⟩
theorem oktX3_fitsIn : Cond.static yX3_fitsIn ∈ lw_tbl := List.mem_of_getElem? (i := 291) (by decide +kernel)
theorem okdX3_fitsIn : (parseMethodDescriptor yX3_fitsIn.desc).map (fun d => d.parameters.length) = some 2 := by decide +kernel
theorem okc_3_58 : okC RX3 (58, 1, mX3_fitsIn) := ⟨okpX3_fitsIn, fun h => absurd h (by decide), fun _ => ⟨List.mem_of_getElem? (i := 354) (by decide +kernel), oktX3_fitsIn, okdX3_fitsIn⟩, fun h => absurd h (by decide), fun h => absurd h (by decide)⟩
theorem okiX3_takeWhatDeedsChange : Cond.instanceMethod yX3_takeWhatDeedsChange ∈ lw_tbl := List.mem_of_getElem? (i := 501) (by decide +kernel)
theorem okxX3_takeWhatDeedsChange : Cond.selects yX3_takeWhatDeedsChange.cls yX3_takeWhatDeedsChange yX3_takeWhatDeedsChange ∈ lw_tbl := List.mem_of_getElem? (i := 502) (by decide +kernel)
theorem okdX3_takeWhatDeedsChange : (parseMethodDescriptor yX3_takeWhatDeedsChange.desc).map (fun d => d.parameters.length + 1) = some 2 := by decide +kernel
theorem okc_3_61 : okC RX3 (61, 0, mX3_takeWhatDeedsChange) := ⟨okpX3_takeWhatDeedsChange, fun _ => ⟨List.mem_of_getElem? (i := 500) (by decide +kernel), okiX3_takeWhatDeedsChange, okxX3_takeWhatDeedsChange, okdX3_takeWhatDeedsChange, _, rfl, rfl⟩, fun h => absurd h (by decide), fun h => absurd h (by decide), fun h => absurd h (by decide)⟩
theorem okiX1_outOf : Cond.instanceMethod yX1_outOf ∈ lw_tbl := List.mem_of_getElem? (i := 461) (by decide +kernel)
theorem okxX1_outOf : Cond.selects yX1_outOf.cls yX1_outOf yX1_outOf ∈ lw_tbl := List.mem_of_getElem? (i := 462) (by decide +kernel)
theorem okdX1_outOf : (parseMethodDescriptor yX1_outOf.desc).map (fun d => d.parameters.length + 1) = some 3 := by decide +kernel
theorem okc_3_71 : okC RX3 (71, 0, mX1_outOf) := ⟨okpX1_outOf, fun _ => ⟨List.mem_of_getElem? (i := 509) (by decide +kernel), okiX1_outOf, okxX1_outOf, okdX1_outOf, _, rfl, rfl⟩, fun h => absurd h (by decide), fun h => absurd h (by decide), fun h => absurd h (by decide)⟩
theorem okc_3_77 : okC RX3 (77, 2, mX6_within) := ⟨okpX6_within, fun h => absurd h (by decide), fun h => absurd h (by decide), fun _ => ⟨List.mem_of_getElem? (i := 510) (by decide +kernel), oktX6_within, okdX6_within⟩, fun h => absurd h (by decide)⟩
theorem okC_3 : ∀ e ∈ rCT_3, okC RX3 e := List.forall_mem_cons.mpr ⟨okc_3_43, List.forall_mem_cons.mpr ⟨okc_3_47, List.forall_mem_cons.mpr ⟨okc_3_54, List.forall_mem_cons.mpr ⟨okc_3_58, List.forall_mem_cons.mpr ⟨okc_3_61, List.forall_mem_cons.mpr ⟨okc_3_71, List.forall_mem_cons.mpr ⟨okc_3_77, fun _ h => absurd h List.not_mem_nil⟩⟩⟩⟩⟩⟩⟩
theorem okF_3 : ∀ e ∈ rFT_3, okF RX3 e := List.forall_mem_cons.mpr ⟨(show okF RX3 (11, 3, 0) from ⟨_, rfl, Nat.le_of_ble_eq_true rfl, List.mem_of_getElem? (i := 92) (by decide +kernel)⟩), List.forall_mem_cons.mpr ⟨(show okF RX3 (15, 3, 1) from ⟨_, rfl, Nat.le_of_ble_eq_true rfl, List.mem_of_getElem? (i := 95) (by decide +kernel)⟩), List.forall_mem_cons.mpr ⟨(show okF RX3 (18, 3, 2) from ⟨_, rfl, Nat.le_of_ble_eq_true rfl, List.mem_of_getElem? (i := 96) (by decide +kernel)⟩), List.forall_mem_cons.mpr ⟨(show okF RX3 (21, 3, 3) from ⟨_, rfl, Nat.le_of_ble_eq_true rfl, List.mem_of_getElem? (i := 99) (by decide +kernel)⟩), List.forall_mem_cons.mpr ⟨(show okF RX3 (24, 3, 4) from ⟨_, rfl, Nat.le_of_ble_eq_true rfl, List.mem_of_getElem? (i := 102) (by decide +kernel)⟩), List.forall_mem_cons.mpr ⟨(show okF RX3 (27, 3, 5) from ⟨_, rfl, Nat.le_of_ble_eq_true rfl, List.mem_of_getElem? (i := 105) (by decide +kernel)⟩), List.forall_mem_cons.mpr ⟨(show okF RX3 (30, 3, 6) from ⟨_, rfl, Nat.le_of_ble_eq_true rfl, List.mem_of_getElem? (i := 107) (by decide +kernel)⟩), List.forall_mem_cons.mpr ⟨(show okF RX3 (51, 3, 7) from ⟨_, rfl, Nat.le_of_ble_eq_true rfl, List.mem_of_getElem? (i := 108) (by decide +kernel)⟩), List.forall_mem_cons.mpr ⟨(show okF RX3 (40, 3, 8) from ⟨_, rfl, Nat.le_of_ble_eq_true rfl, List.mem_of_getElem? (i := 111) (by decide +kernel)⟩), fun _ h => absurd h List.not_mem_nil⟩⟩⟩⟩⟩⟩⟩⟩⟩
theorem okS_3 : ∀ e ∈ rST_3, okS RX3 e := List.forall_mem_cons.mpr ⟨(show okS RX3 (34, 0) from ⟨by decide, List.mem_of_getElem? (i := 293) (by decide +kernel)⟩), List.forall_mem_cons.mpr ⟨(show okS RX3 (37, 1) from ⟨by decide, List.mem_of_getElem? (i := 295) (by decide +kernel)⟩), fun _ h => absurd h List.not_mem_nil⟩⟩
theorem okKI_3 : ∀ e ∈ rKI_3, okKI RX3 e := fun _ h => absurd h List.not_mem_nil
theorem okKL_3 : ∀ e ∈ rKL_3, okKL RX3 e := fun _ h => absurd h List.not_mem_nil
theorem okN_3 : ∀ e ∈ rNW_3, okN RX3 e := fun _ h => absurd h List.not_mem_nil
theorem okO_3 : ∀ e ∈ rOI_3, okO RX3 e := List.forall_mem_cons.mpr ⟨(show okO RX3 3 from List.mem_of_getElem? (i := 91) (by decide +kernel)), fun _ h => absurd h List.not_mem_nil⟩
theorem okX_3 : ∀ e ∈ rMX_3, okX RX3 e := fun _ h => absurd h List.not_mem_nil
theorem okI_3 : ∀ e ∈ rMN_3, okI RX3 e := fun _ h => absurd h List.not_mem_nil
theorem okY_3 : ∀ e ∈ rAC_3, okY RX3 e := List.forall_mem_cons.mpr ⟨(show okY RX3 65 from List.mem_of_getElem? (i := 504) (by decide +kernel)), fun _ h => absurd h List.not_mem_nil⟩
theorem okC_4 : ∀ e ∈ rCT_4, okC RX4 e := fun _ h => absurd h List.not_mem_nil
theorem okF_4 : ∀ e ∈ rFT_4, okF RX4 e := List.forall_mem_cons.mpr ⟨(show okF RX4 (13, 4, 0) from ⟨_, rfl, Nat.le_of_ble_eq_true rfl, List.mem_of_getElem? (i := 229) (by decide +kernel)⟩), List.forall_mem_cons.mpr ⟨(show okF RX4 (20, 4, 1) from ⟨_, rfl, Nat.le_of_ble_eq_true rfl, List.mem_of_getElem? (i := 230) (by decide +kernel)⟩), List.forall_mem_cons.mpr ⟨(show okF RX4 (17, 4, 2) from ⟨_, rfl, Nat.le_of_ble_eq_true rfl, List.mem_of_getElem? (i := 232) (by decide +kernel)⟩), List.forall_mem_cons.mpr ⟨(show okF RX4 (32, 4, 3) from ⟨_, rfl, Nat.le_of_ble_eq_true rfl, List.mem_of_getElem? (i := 234) (by decide +kernel)⟩), List.forall_mem_cons.mpr ⟨(show okF RX4 (9, 4, 4) from ⟨_, rfl, Nat.le_of_ble_eq_true rfl, List.mem_of_getElem? (i := 236) (by decide +kernel)⟩), fun _ h => absurd h List.not_mem_nil⟩⟩⟩⟩⟩
theorem okS_4 : ∀ e ∈ rST_4, okS RX4 e := fun _ h => absurd h List.not_mem_nil
theorem okKI_4 : ∀ e ∈ rKI_4, okKI RX4 e := fun _ h => absurd h List.not_mem_nil
theorem okKL_4 : ∀ e ∈ rKL_4, okKL RX4 e := fun _ h => absurd h List.not_mem_nil
theorem okN_4 : ∀ e ∈ rNW_4, okN RX4 e := fun _ h => absurd h List.not_mem_nil
theorem okO_4 : ∀ e ∈ rOI_4, okO RX4 e := List.forall_mem_cons.mpr ⟨(show okO RX4 1 from List.mem_of_getElem? (i := 228) (by decide +kernel)), fun _ h => absurd h List.not_mem_nil⟩
theorem okX_4 : ∀ e ∈ rMX_4, okX RX4 e := List.forall_mem_cons.mpr ⟨(show okX RX4 29 from List.mem_of_getElem? (i := 750) (by decide +kernel)), fun _ h => absurd h List.not_mem_nil⟩
theorem okI_4 : ∀ e ∈ rMN_4, okI RX4 e := List.forall_mem_cons.mpr ⟨(show okI RX4 23 from List.mem_of_getElem? (i := 749) (by decide +kernel)), fun _ h => absurd h List.not_mem_nil⟩
theorem okY_4 : ∀ e ∈ rAC_4, okY RX4 e := fun _ h => absurd h List.not_mem_nil
theorem okiX5_isFull : Cond.instanceMethod yX5_isFull ∈ lw_tbl := List.mem_of_getElem? (i := 675) (by decide +kernel)
theorem okxX5_isFull : Cond.selects yX5_isFull.cls yX5_isFull yX5_isFull ∈ lw_tbl := List.mem_of_getElem? (i := 676) (by decide +kernel)
theorem okdX5_isFull : (parseMethodDescriptor yX5_isFull.desc).map (fun d => d.parameters.length + 1) = some 1 := by decide +kernel
theorem okc_5_29 : okC RX5 (29, 0, mX5_isFull) := ⟨okpX5_isFull, fun _ => ⟨List.mem_of_getElem? (i := 682) (by decide +kernel), okiX5_isFull, okxX5_isFull, okdX5_isFull, _, rfl, rfl⟩, fun h => absurd h (by decide), fun h => absurd h (by decide), fun h => absurd h (by decide)⟩
theorem okiX5_has : Cond.instanceMethod yX5_has ∈ lw_tbl := List.mem_of_getElem? (i := 692) (by decide +kernel)
theorem okxX5_has : Cond.selects yX5_has.cls yX5_has yX5_has ∈ lw_tbl := List.mem_of_getElem? (i := 693) (by decide +kernel)
theorem okdX5_has : (parseMethodDescriptor yX5_has.desc).map (fun d => d.parameters.length + 1) = some 2 := by decide +kernel
theorem okc_5_33 : okC RX5 (33, 0, mX5_has) := ⟨okpX5_has, fun _ => ⟨List.mem_of_getElem? (i := 691) (by decide +kernel), okiX5_has, okxX5_has, okdX5_has, _, rfl, rfl⟩, fun h => absurd h (by decide), fun h => absurd h (by decide), fun h => absurd h (by decide)⟩
theorem oktX5_isAct : Cond.static yX5_isAct ∈ lw_tbl := List.mem_of_getElem? (i := 696) (by decide +kernel)
theorem okdX5_isAct : (parseMethodDescriptor yX5_isAct.desc).map (fun d => d.parameters.length) = some 1 := by decide +kernel
theorem okc_5_45 : okC RX5 (45, 1, mX5_isAct) := ⟨okpX5_isAct, fun h => absurd h (by decide), fun _ => ⟨List.mem_of_getElem? (i := 695) (by decide +kernel), oktX5_isAct, okdX5_isAct⟩, fun h => absurd h (by decide), fun h => absurd h (by decide)⟩
theorem okiX5_perform : Cond.instanceMethod yX5_perform ∈ lw_tbl := List.mem_of_getElem? (i := 700) (by decide +kernel)
theorem okxX5_perform : Cond.selects yX5_perform.cls yX5_perform yX5_perform ∈ lw_tbl := List.mem_of_getElem? (i := 22) (by decide +kernel)
theorem okdX5_perform : (parseMethodDescriptor yX5_perform.desc).map (fun d => d.parameters.length + 1) = some 6 := by decide +kernel
theorem okc_5_48 : okC RX5 (48, 0, mX5_perform) := ⟨okpX5_perform, fun _ => ⟨List.mem_of_getElem? (i := 698) (by decide +kernel), okiX5_perform, okxX5_perform, okdX5_perform, _, rfl, rfl⟩, fun h => absurd h (by decide), fun h => absurd h (by decide), fun h => absurd h (by decide)⟩
theorem oktX5_isKind : Cond.static yX5_isKind ∈ lw_tbl := List.mem_of_getElem? (i := 672) (by decide +kernel)
theorem okdX5_isKind : (parseMethodDescriptor yX5_isKind.desc).map (fun d => d.parameters.length) = some 1 := by decide +kernel
theorem okc_5_18 : okC RX5 (18, 1, mX5_isKind) := ⟨okpX5_isKind, fun h => absurd h (by decide), fun _ => ⟨List.mem_of_getElem? (i := 702) (by decide +kernel), oktX5_isKind, okdX5_isKind⟩, fun h => absurd h (by decide), fun h => absurd h (by decide)⟩
theorem okiX5_note : Cond.instanceMethod yX5_note ∈ lw_tbl := List.mem_of_getElem? (i := 709) (by decide +kernel)
theorem okxX5_note : Cond.selects yX5_note.cls yX5_note yX5_note ∈ lw_tbl := List.mem_of_getElem? (i := 23) (by decide +kernel)
theorem okdX5_note : (parseMethodDescriptor yX5_note.desc).map (fun d => d.parameters.length + 1) = some 2 := by decide +kernel
theorem okc_5_55 : okC RX5 (55, 0, mX5_note) := ⟨okpX5_note, fun _ => ⟨List.mem_of_getElem? (i := 707) (by decide +kernel), okiX5_note, okxX5_note, okdX5_note, _, rfl, rfl⟩, fun h => absurd h (by decide), fun h => absurd h (by decide), fun h => absurd h (by decide)⟩
theorem okiX5_run : Cond.instanceMethod yX5_run ∈ lw_tbl := List.mem_of_getElem? (i := 713) (by decide +kernel)
theorem okxX5_run : Cond.selects yX5_run.cls yX5_run yX5_run ∈ lw_tbl := List.mem_of_getElem? (i := 24) (by decide +kernel)
theorem okdX5_run : (parseMethodDescriptor yX5_run.desc).map (fun d => d.parameters.length + 1) = some 6 := by decide +kernel
theorem okc_5_59 : okC RX5 (59, 0, mX5_run) := ⟨okpX5_run, fun _ => ⟨List.mem_of_getElem? (i := 711) (by decide +kernel), okiX5_run, okxX5_run, okdX5_run, _, rfl, rfl⟩, fun h => absurd h (by decide), fun h => absurd h (by decide), fun h => absurd h (by decide)⟩
theorem okiX5_kindOf : Cond.instanceMethod yX5_kindOf ∈ lw_tbl := List.mem_of_getElem? (i := 716) (by decide +kernel)
theorem okxX5_kindOf : Cond.selects yX5_kindOf.cls yX5_kindOf yX5_kindOf ∈ lw_tbl := List.mem_of_getElem? (i := 717) (by decide +kernel)
theorem okdX5_kindOf : (parseMethodDescriptor yX5_kindOf.desc).map (fun d => d.parameters.length + 1) = some 2 := by decide +kernel
theorem okc_5_62 : okC RX5 (62, 0, mX5_kindOf) := ⟨okpX5_kindOf, fun _ => ⟨List.mem_of_getElem? (i := 715) (by decide +kernel), okiX5_kindOf, okxX5_kindOf, okdX5_kindOf, _, rfl, rfl⟩, fun h => absurd h (by decide), fun h => absurd h (by decide), fun h => absurd h (by decide)⟩
theorem okC_5 : ∀ e ∈ rCT_5, okC RX5 e := List.forall_mem_cons.mpr ⟨okc_5_29, List.forall_mem_cons.mpr ⟨okc_5_33, List.forall_mem_cons.mpr ⟨okc_5_45, List.forall_mem_cons.mpr ⟨okc_5_48, List.forall_mem_cons.mpr ⟨okc_5_18, List.forall_mem_cons.mpr ⟨okc_5_55, List.forall_mem_cons.mpr ⟨okc_5_59, List.forall_mem_cons.mpr ⟨okc_5_62, fun _ h => absurd h List.not_mem_nil⟩⟩⟩⟩⟩⟩⟩⟩
theorem okF_5 : ∀ e ∈ rFT_5, okF RX5 e := List.forall_mem_cons.mpr ⟨(show okF RX5 (11, 5, 0) from ⟨_, rfl, Nat.le_of_ble_eq_true rfl, List.mem_of_getElem? (i := 206) (by decide +kernel)⟩), List.forall_mem_cons.mpr ⟨(show okF RX5 (15, 5, 1) from ⟨_, rfl, Nat.le_of_ble_eq_true rfl, List.mem_of_getElem? (i := 207) (by decide +kernel)⟩), List.forall_mem_cons.mpr ⟨(show okF RX5 (25, 5, 2) from ⟨_, rfl, Nat.le_of_ble_eq_true rfl, List.mem_of_getElem? (i := 209) (by decide +kernel)⟩), List.forall_mem_cons.mpr ⟨(show okF RX5 (36, 5, 3) from ⟨_, rfl, Nat.le_of_ble_eq_true rfl, List.mem_of_getElem? (i := 211) (by decide +kernel)⟩), fun _ h => absurd h List.not_mem_nil⟩⟩⟩⟩
theorem okS_5 : ∀ e ∈ rST_5, okS RX5 e := List.forall_mem_cons.mpr ⟨(show okS RX5 (52, 3) from ⟨by decide, List.mem_of_getElem? (i := 703) (by decide +kernel)⟩), List.forall_mem_cons.mpr ⟨(show okS RX5 (22, 2) from ⟨by decide, List.mem_of_getElem? (i := 705) (by decide +kernel)⟩), fun _ h => absurd h List.not_mem_nil⟩⟩
theorem okKI_5 : ∀ e ∈ rKI_5, okKI RX5 e := fun _ h => absurd h List.not_mem_nil
theorem okKL_5 : ∀ e ∈ rKL_5, okKL RX5 e := fun _ h => absurd h List.not_mem_nil
theorem okN_5 : ∀ e ∈ rNW_5, okN RX5 e := fun _ h => absurd h List.not_mem_nil
theorem okO_5 : ∀ e ∈ rOI_5, okO RX5 e := List.forall_mem_cons.mpr ⟨(show okO RX5 3 from List.mem_of_getElem? (i := 205) (by decide +kernel)), fun _ h => absurd h List.not_mem_nil⟩
theorem okX_5 : ∀ e ∈ rMX_5, okX RX5 e := fun _ h => absurd h List.not_mem_nil
theorem okI_5 : ∀ e ∈ rMN_5, okI RX5 e := List.forall_mem_cons.mpr ⟨(show okI RX5 39 from List.mem_of_getElem? (i := 727) (by decide +kernel)), fun _ h => absurd h List.not_mem_nil⟩
theorem okY_5 : ∀ e ∈ rAC_5, okY RX5 e := fun _ h => absurd h List.not_mem_nil
theorem okiX3_init : Cond.instanceMethod yX3_init ∈ lw_tbl := List.mem_of_getElem? (i := 89) (by decide +kernel)
theorem okdX3_init : (parseMethodDescriptor yX3_init.desc).map (fun d => d.parameters.length + 1) = some 1 := by decide +kernel
theorem okc_6_9 : okC RX6 (9, 3, mX3_init) := ⟨okpX3_init, fun h => absurd h (by decide), fun h => absurd h (by decide), fun h => absurd h (by decide), fun _ => ⟨List.mem_of_getElem? (i := 88) (by decide +kernel), okiX3_init, rfl, rfl, okdX3_init⟩⟩
theorem okiX2_init : Cond.instanceMethod yX2_init ∈ lw_tbl := List.mem_of_getElem? (i := 137) (by decide +kernel)
theorem okdX2_init : (parseMethodDescriptor yX2_init.desc).map (fun d => d.parameters.length + 1) = some 1 := by decide +kernel
theorem okc_6_35 : okC RX6 (35, 3, mX2_init) := ⟨okpX2_init, fun h => absurd h (by decide), fun h => absurd h (by decide), fun h => absurd h (by decide), fun _ => ⟨List.mem_of_getElem? (i := 136) (by decide +kernel), okiX2_init, rfl, rfl, okdX2_init⟩⟩
theorem okc_6_42 : okC RX6 (42, 3, mX1_init) := ⟨okpX1_init, fun h => absurd h (by decide), fun h => absurd h (by decide), fun h => absurd h (by decide), fun _ => ⟨List.mem_of_getElem? (i := 172) (by decide +kernel), okiX1_init, rfl, rfl, okdX1_init⟩⟩
theorem okiX0_init : Cond.instanceMethod yX0_init ∈ lw_tbl := List.mem_of_getElem? (i := 176) (by decide +kernel)
theorem okdX0_init : (parseMethodDescriptor yX0_init.desc).map (fun d => d.parameters.length + 1) = some 1 := by decide +kernel
theorem okc_6_49 : okC RX6 (49, 3, mX0_init) := ⟨okpX0_init, fun h => absurd h (by decide), fun h => absurd h (by decide), fun h => absurd h (by decide), fun _ => ⟨List.mem_of_getElem? (i := 175) (by decide +kernel), okiX0_init, rfl, rfl, okdX0_init⟩⟩
theorem okiX5_init : Cond.instanceMethod yX5_init ∈ lw_tbl := List.mem_of_getElem? (i := 203) (by decide +kernel)
theorem okdX5_init : (parseMethodDescriptor yX5_init.desc).map (fun d => d.parameters.length + 1) = some 1 := by decide +kernel
theorem okc_6_56 : okC RX6 (56, 3, mX5_init) := ⟨okpX5_init, fun h => absurd h (by decide), fun h => absurd h (by decide), fun h => absurd h (by decide), fun _ => ⟨List.mem_of_getElem? (i := 202) (by decide +kernel), okiX5_init, rfl, rfl, okdX5_init⟩⟩
theorem okiX4_init : Cond.instanceMethod yX4_init ∈ lw_tbl := List.mem_of_getElem? (i := 226) (by decide +kernel)
theorem okdX4_init : (parseMethodDescriptor yX4_init.desc).map (fun d => d.parameters.length + 1) = some 1 := by decide +kernel
theorem okc_6_67 : okC RX6 (67, 3, mX4_init) := ⟨okpX4_init, fun h => absurd h (by decide), fun h => absurd h (by decide), fun h => absurd h (by decide), fun _ => ⟨List.mem_of_getElem? (i := 225) (by decide +kernel), okiX4_init, rfl, rfl, okdX4_init⟩⟩
theorem okc_6_68 : okC RX6 (68, 1, mX3_fitsIn) := ⟨okpX3_fitsIn, fun h => absurd h (by decide), fun _ => ⟨List.mem_of_getElem? (i := 290) (by decide +kernel), oktX3_fitsIn, okdX3_fitsIn⟩, fun h => absurd h (by decide), fun h => absurd h (by decide)⟩
theorem okc_6_72 : okC RX6 (72, 0, mX3_isFull) := ⟨okpX3_isFull, fun _ => ⟨List.mem_of_getElem? (i := 297) (by decide +kernel), okiX3_isFull, okxX3_isFull, okdX3_isFull, _, rfl, rfl⟩, fun h => absurd h (by decide), fun h => absurd h (by decide), fun h => absurd h (by decide)⟩
theorem okiX3_lengthen : Cond.instanceMethod yX3_lengthen ∈ lw_tbl := List.mem_of_getElem? (i := 302) (by decide +kernel)
theorem okxX3_lengthen : Cond.selects yX3_lengthen.cls yX3_lengthen yX3_lengthen ∈ lw_tbl := List.mem_of_getElem? (i := 303) (by decide +kernel)
theorem okdX3_lengthen : (parseMethodDescriptor yX3_lengthen.desc).map (fun d => d.parameters.length + 1) = some 4 := by decide +kernel
theorem okc_6_76 : okC RX6 (76, 0, mX3_lengthen) := ⟨okpX3_lengthen, fun _ => ⟨List.mem_of_getElem? (i := 301) (by decide +kernel), okiX3_lengthen, okxX3_lengthen, okdX3_lengthen, _, rfl, rfl⟩, fun h => absurd h (by decide), fun h => absurd h (by decide), fun h => absurd h (by decide)⟩
theorem oktX6_isShelf : Cond.static yX6_isShelf ∈ lw_tbl := List.mem_of_getElem? (i := 311) (by decide +kernel)
theorem okdX6_isShelf : (parseMethodDescriptor yX6_isShelf.desc).map (fun d => d.parameters.length) = some 1 := by decide +kernel
theorem okc_6_80 : okC RX6 (80, 1, mX6_isShelf) := ⟨okpX6_isShelf, fun h => absurd h (by decide), fun _ => ⟨List.mem_of_getElem? (i := 310) (by decide +kernel), oktX6_isShelf, okdX6_isShelf⟩, fun h => absurd h (by decide), fun h => absurd h (by decide)⟩
theorem okiX4_isBare : Cond.instanceMethod yX4_isBare ∈ lw_tbl := List.mem_of_getElem? (i := 314) (by decide +kernel)
theorem okxX4_isBare : Cond.selects yX4_isBare.cls yX4_isBare yX4_isBare ∈ lw_tbl := List.mem_of_getElem? (i := 315) (by decide +kernel)
theorem okdX4_isBare : (parseMethodDescriptor yX4_isBare.desc).map (fun d => d.parameters.length + 1) = some 1 := by decide +kernel
theorem okc_6_84 : okC RX6 (84, 0, mX4_isBare) := ⟨okpX4_isBare, fun _ => ⟨List.mem_of_getElem? (i := 313) (by decide +kernel), okiX4_isBare, okxX4_isBare, okdX4_isBare, _, rfl, rfl⟩, fun h => absurd h (by decide), fun h => absurd h (by decide), fun h => absurd h (by decide)⟩
theorem okiX4_isBytes : Cond.instanceMethod yX4_isBytes ∈ lw_tbl := List.mem_of_getElem? (i := 318) (by decide +kernel)
theorem okxX4_isBytes : Cond.selects yX4_isBytes.cls yX4_isBytes yX4_isBytes ∈ lw_tbl := List.mem_of_getElem? (i := 319) (by decide +kernel)
theorem okdX4_isBytes : (parseMethodDescriptor yX4_isBytes.desc).map (fun d => d.parameters.length + 1) = some 1 := by decide +kernel
theorem okc_6_87 : okC RX6 (87, 0, mX4_isBytes) := ⟨okpX4_isBytes, fun _ => ⟨List.mem_of_getElem? (i := 317) (by decide +kernel), okiX4_isBytes, okxX4_isBytes, okdX4_isBytes, _, rfl, rfl⟩, fun h => absurd h (by decide), fun h => absurd h (by decide), fun h => absurd h (by decide)⟩
theorem okiX6_reachComesFrom : Cond.instanceMethod yX6_reachComesFrom ∈ lw_tbl := List.mem_of_getElem? (i := 323) (by decide +kernel)
theorem okxX6_reachComesFrom : Cond.selects yX6_reachComesFrom.cls yX6_reachComesFrom yX6_reachComesFrom ∈ lw_tbl := List.mem_of_getElem? (i := 0) (by decide +kernel)
theorem okdX6_reachComesFrom : (parseMethodDescriptor yX6_reachComesFrom.desc).map (fun d => d.parameters.length + 1) = some 3 := by decide +kernel
theorem okc_6_90 : okC RX6 (90, 0, mX6_reachComesFrom) := ⟨okpX6_reachComesFrom, fun _ => ⟨List.mem_of_getElem? (i := 321) (by decide +kernel), okiX6_reachComesFrom, okxX6_reachComesFrom, okdX6_reachComesFrom, _, rfl, rfl⟩, fun h => absurd h (by decide), fun h => absurd h (by decide), fun h => absurd h (by decide)⟩
theorem okiX4_hasPlaces : Cond.instanceMethod yX4_hasPlaces ∈ lw_tbl := List.mem_of_getElem? (i := 326) (by decide +kernel)
theorem okxX4_hasPlaces : Cond.selects yX4_hasPlaces.cls yX4_hasPlaces yX4_hasPlaces ∈ lw_tbl := List.mem_of_getElem? (i := 327) (by decide +kernel)
theorem okdX4_hasPlaces : (parseMethodDescriptor yX4_hasPlaces.desc).map (fun d => d.parameters.length + 1) = some 3 := by decide +kernel
theorem okc_6_94 : okC RX6 (94, 0, mX4_hasPlaces) := ⟨okpX4_hasPlaces, fun _ => ⟨List.mem_of_getElem? (i := 325) (by decide +kernel), okiX4_hasPlaces, okxX4_hasPlaces, okdX4_hasPlaces, _, rfl, rfl⟩, fun h => absurd h (by decide), fun h => absurd h (by decide), fun h => absurd h (by decide)⟩
theorem okiX4_small : Cond.instanceMethod yX4_small ∈ lw_tbl := List.mem_of_getElem? (i := 330) (by decide +kernel)
theorem okxX4_small : Cond.selects yX4_small.cls yX4_small yX4_small ∈ lw_tbl := List.mem_of_getElem? (i := 331) (by decide +kernel)
theorem okdX4_small : (parseMethodDescriptor yX4_small.desc).map (fun d => d.parameters.length + 1) = some 2 := by decide +kernel
theorem okc_6_97 : okC RX6 (97, 0, mX4_small) := ⟨okpX4_small, fun _ => ⟨List.mem_of_getElem? (i := 329) (by decide +kernel), okiX4_small, okxX4_small, okdX4_small, _, rfl, rfl⟩, fun h => absurd h (by decide), fun h => absurd h (by decide), fun h => absurd h (by decide)⟩
theorem okc_6_101 : okC RX6 (101, 0, mX3_has) := ⟨okpX3_has, fun _ => ⟨List.mem_of_getElem? (i := 337) (by decide +kernel), okiX3_has, okxX3_has, okdX3_has, _, rfl, rfl⟩, fun h => absurd h (by decide), fun h => absurd h (by decide), fun h => absurd h (by decide)⟩
theorem okiX3_numberOf : Cond.instanceMethod yX3_numberOf ∈ lw_tbl := List.mem_of_getElem? (i := 342) (by decide +kernel)
theorem okxX3_numberOf : Cond.selects yX3_numberOf.cls yX3_numberOf yX3_numberOf ∈ lw_tbl := List.mem_of_getElem? (i := 343) (by decide +kernel)
theorem okdX3_numberOf : (parseMethodDescriptor yX3_numberOf.desc).map (fun d => d.parameters.length + 1) = some 3 := by decide +kernel
theorem okc_6_104 : okC RX6 (104, 0, mX3_numberOf) := ⟨okpX3_numberOf, fun _ => ⟨List.mem_of_getElem? (i := 341) (by decide +kernel), okiX3_numberOf, okxX3_numberOf, okdX3_numberOf, _, rfl, rfl⟩, fun h => absurd h (by decide), fun h => absurd h (by decide), fun h => absurd h (by decide)⟩
theorem okc_6_108 : okC RX6 (108, 0, mX3_become) := ⟨okpX3_become, fun _ => ⟨List.mem_of_getElem? (i := 350) (by decide +kernel), okiX3_become, okxX3_become, okdX3_become, _, rfl, rfl⟩, fun h => absurd h (by decide), fun h => absurd h (by decide), fun h => absurd h (by decide)⟩
theorem okiX0_add : Cond.instanceMethod yX0_add ∈ lw_tbl := List.mem_of_getElem? (i := 356) (by decide +kernel)
theorem okxX0_add : Cond.selects yX0_add.cls yX0_add yX0_add ∈ lw_tbl := List.mem_of_getElem? (i := 357) (by decide +kernel)
theorem okdX0_add : (parseMethodDescriptor yX0_add.desc).map (fun d => d.parameters.length + 1) = some 5 := by decide +kernel
theorem okc_6_112 : okC RX6 (112, 0, mX0_add) := ⟨okpX0_add, fun _ => ⟨List.mem_of_getElem? (i := 355) (by decide +kernel), okiX0_add, okxX0_add, okdX0_add, _, rfl, rfl⟩, fun h => absurd h (by decide), fun h => absurd h (by decide), fun h => absurd h (by decide)⟩
theorem okiX2_takes : Cond.instanceMethod yX2_takes ∈ lw_tbl := List.mem_of_getElem? (i := 375) (by decide +kernel)
theorem okxX2_takes : Cond.selects yX2_takes.cls yX2_takes yX2_takes ∈ lw_tbl := List.mem_of_getElem? (i := 376) (by decide +kernel)
theorem okdX2_takes : (parseMethodDescriptor yX2_takes.desc).map (fun d => d.parameters.length + 1) = some 2 := by decide +kernel
theorem okc_6_116 : okC RX6 (116, 0, mX2_takes) := ⟨okpX2_takes, fun _ => ⟨List.mem_of_getElem? (i := 374) (by decide +kernel), okiX2_takes, okxX2_takes, okdX2_takes, _, rfl, rfl⟩, fun h => absurd h (by decide), fun h => absurd h (by decide), fun h => absurd h (by decide)⟩
theorem okiX2_read : Cond.instanceMethod yX2_read ∈ lw_tbl := List.mem_of_getElem? (i := 383) (by decide +kernel)
theorem okxX2_read : Cond.selects yX2_read.cls yX2_read yX2_read ∈ lw_tbl := List.mem_of_getElem? (i := 384) (by decide +kernel)
theorem okdX2_read : (parseMethodDescriptor yX2_read.desc).map (fun d => d.parameters.length + 1) = some 1 := by decide +kernel
theorem okc_6_123 : okC RX6 (123, 0, mX2_read) := ⟨okpX2_read, fun _ => ⟨List.mem_of_getElem? (i := 382) (by decide +kernel), okiX2_read, okxX2_read, okdX2_read, _, rfl, rfl⟩, fun h => absurd h (by decide), fun h => absurd h (by decide), fun h => absurd h (by decide)⟩
theorem okiX2_clear : Cond.instanceMethod yX2_clear ∈ lw_tbl := List.mem_of_getElem? (i := 445) (by decide +kernel)
theorem okxX2_clear : Cond.selects yX2_clear.cls yX2_clear yX2_clear ∈ lw_tbl := List.mem_of_getElem? (i := 446) (by decide +kernel)
theorem okdX2_clear : (parseMethodDescriptor yX2_clear.desc).map (fun d => d.parameters.length + 1) = some 1 := by decide +kernel
theorem okc_6_127 : okC RX6 (127, 0, mX2_clear) := ⟨okpX2_clear, fun _ => ⟨List.mem_of_getElem? (i := 444) (by decide +kernel), okiX2_clear, okxX2_clear, okdX2_clear, _, rfl, rfl⟩, fun h => absurd h (by decide), fun h => absurd h (by decide), fun h => absurd h (by decide)⟩
theorem okiX2_handOver : Cond.instanceMethod yX2_handOver ∈ lw_tbl := List.mem_of_getElem? (i := 449) (by decide +kernel)
theorem okxX2_handOver : Cond.selects yX2_handOver.cls yX2_handOver yX2_handOver ∈ lw_tbl := List.mem_of_getElem? (i := 450) (by decide +kernel)
theorem okdX2_handOver : (parseMethodDescriptor yX2_handOver.desc).map (fun d => d.parameters.length + 1) = some 2 := by decide +kernel
theorem okc_6_130 : okC RX6 (130, 0, mX2_handOver) := ⟨okpX2_handOver, fun _ => ⟨List.mem_of_getElem? (i := 448) (by decide +kernel), okiX2_handOver, okxX2_handOver, okdX2_handOver, _, rfl, rfl⟩, fun h => absurd h (by decide), fun h => absurd h (by decide), fun h => absurd h (by decide)⟩
theorem okiX6_isReach : Cond.instanceMethod yX6_isReach ∈ lw_tbl := List.mem_of_getElem? (i := 458) (by decide +kernel)
theorem okxX6_isReach : Cond.selects yX6_isReach.cls yX6_isReach yX6_isReach ∈ lw_tbl := List.mem_of_getElem? (i := 14) (by decide +kernel)
theorem okdX6_isReach : (parseMethodDescriptor yX6_isReach.desc).map (fun d => d.parameters.length + 1) = some 2 := by decide +kernel
theorem okc_6_134 : okC RX6 (134, 0, mX6_isReach) := ⟨okpX6_isReach, fun _ => ⟨List.mem_of_getElem? (i := 456) (by decide +kernel), okiX6_isReach, okxX6_isReach, okdX6_isReach, _, rfl, rfl⟩, fun h => absurd h (by decide), fun h => absurd h (by decide), fun h => absurd h (by decide)⟩
theorem okc_6_137 : okC RX6 (137, 0, mX1_outOf) := ⟨okpX1_outOf, fun _ => ⟨List.mem_of_getElem? (i := 460) (by decide +kernel), okiX1_outOf, okxX1_outOf, okdX1_outOf, _, rfl, rfl⟩, fun h => absurd h (by decide), fun h => absurd h (by decide), fun h => absurd h (by decide)⟩
theorem okiX6_think : Cond.instanceMethod yX6_think ∈ lw_tbl := List.mem_of_getElem? (i := 494) (by decide +kernel)
theorem okxX6_think : Cond.selects yX6_think.cls yX6_think yX6_think ∈ lw_tbl := List.mem_of_getElem? (i := 16) (by decide +kernel)
theorem okdX6_think : (parseMethodDescriptor yX6_think.desc).map (fun d => d.parameters.length + 1) = some 2 := by decide +kernel
theorem okc_6_141 : okC RX6 (141, 0, mX6_think) := ⟨okpX6_think, fun _ => ⟨List.mem_of_getElem? (i := 492) (by decide +kernel), okiX6_think, okxX6_think, okdX6_think, _, rfl, rfl⟩, fun h => absurd h (by decide), fun h => absurd h (by decide), fun h => absurd h (by decide)⟩
theorem okiX3_take : Cond.instanceMethod yX3_take ∈ lw_tbl := List.mem_of_getElem? (i := 497) (by decide +kernel)
theorem okxX3_take : Cond.selects yX3_take.cls yX3_take yX3_take ∈ lw_tbl := List.mem_of_getElem? (i := 498) (by decide +kernel)
theorem okdX3_take : (parseMethodDescriptor yX3_take.desc).map (fun d => d.parameters.length + 1) = some 2 := by decide +kernel
theorem okc_6_161 : okC RX6 (161, 0, mX3_take) := ⟨okpX3_take, fun _ => ⟨List.mem_of_getElem? (i := 496) (by decide +kernel), okiX3_take, okxX3_take, okdX3_take, _, rfl, rfl⟩, fun h => absurd h (by decide), fun h => absurd h (by decide), fun h => absurd h (by decide)⟩
theorem okiX3_pass : Cond.instanceMethod yX3_pass ∈ lw_tbl := List.mem_of_getElem? (i := 506) (by decide +kernel)
theorem okxX3_pass : Cond.selects yX3_pass.cls yX3_pass yX3_pass ∈ lw_tbl := List.mem_of_getElem? (i := 507) (by decide +kernel)
theorem okdX3_pass : (parseMethodDescriptor yX3_pass.desc).map (fun d => d.parameters.length + 1) = some 3 := by decide +kernel
theorem okc_6_148 : okC RX6 (148, 0, mX3_pass) := ⟨okpX3_pass, fun _ => ⟨List.mem_of_getElem? (i := 505) (by decide +kernel), okiX3_pass, okxX3_pass, okdX3_pass, _, rfl, rfl⟩, fun h => absurd h (by decide), fun h => absurd h (by decide), fun h => absurd h (by decide)⟩
theorem oktX6_signOf : Cond.static yX6_signOf ∈ lw_tbl := List.mem_of_getElem? (i := 512) (by decide +kernel)
theorem okdX6_signOf : (parseMethodDescriptor yX6_signOf.desc).map (fun d => d.parameters.length) = some 2 := by decide +kernel
theorem okc_6_152 : okC RX6 (152, 1, mX6_signOf) := ⟨okpX6_signOf, fun h => absurd h (by decide), fun _ => ⟨List.mem_of_getElem? (i := 511) (by decide +kernel), oktX6_signOf, okdX6_signOf⟩, fun h => absurd h (by decide), fun h => absurd h (by decide)⟩
theorem okiX3_overBits : Cond.instanceMethod yX3_overBits ∈ lw_tbl := List.mem_of_getElem? (i := 519) (by decide +kernel)
theorem okxX3_overBits : Cond.selects yX3_overBits.cls yX3_overBits yX3_overBits ∈ lw_tbl := List.mem_of_getElem? (i := 520) (by decide +kernel)
theorem okdX3_overBits : (parseMethodDescriptor yX3_overBits.desc).map (fun d => d.parameters.length + 1) = some 1 := by decide +kernel
theorem okc_6_155 : okC RX6 (155, 0, mX3_overBits) := ⟨okpX3_overBits, fun _ => ⟨List.mem_of_getElem? (i := 518) (by decide +kernel), okiX3_overBits, okxX3_overBits, okdX3_overBits, _, rfl, rfl⟩, fun h => absurd h (by decide), fun h => absurd h (by decide), fun h => absurd h (by decide)⟩
theorem okiX3_levelOfAll : Cond.instanceMethod yX3_levelOfAll ∈ lw_tbl := List.mem_of_getElem? (i := 523) (by decide +kernel)
theorem okxX3_levelOfAll : Cond.selects yX3_levelOfAll.cls yX3_levelOfAll yX3_levelOfAll ∈ lw_tbl := List.mem_of_getElem? (i := 524) (by decide +kernel)
theorem okdX3_levelOfAll : (parseMethodDescriptor yX3_levelOfAll.desc).map (fun d => d.parameters.length + 1) = some 1 := by decide +kernel
theorem okc_6_158 : okC RX6 (158, 0, mX3_levelOfAll) := ⟨okpX3_levelOfAll, fun _ => ⟨List.mem_of_getElem? (i := 522) (by decide +kernel), okiX3_levelOfAll, okxX3_levelOfAll, okdX3_levelOfAll, _, rfl, rfl⟩, fun h => absurd h (by decide), fun h => absurd h (by decide), fun h => absurd h (by decide)⟩
theorem oktJ6_numberOfTrailingZeros_0f7a4 : Cond.static yJ6_numberOfTrailingZeros_0f7a4 ∈ lw_tbl := List.mem_of_getElem? (i := 531) (by decide +kernel)
theorem okdJ6_numberOfTrailingZeros_0f7a4 : (parseMethodDescriptor yJ6_numberOfTrailingZeros_0f7a4.desc).map (fun d => d.parameters.length) = some 1 := by decide +kernel
theorem okc_6_165 : okC RX6 (165, 1, mJ6_numberOfTrailingZeros_0f7a4) := ⟨okpJ6_numberOfTrailingZeros_0f7a4, fun h => absurd h (by decide), fun _ => ⟨List.mem_of_getElem? (i := 530) (by decide +kernel), oktJ6_numberOfTrailingZeros_0f7a4, okdJ6_numberOfTrailingZeros_0f7a4⟩, fun h => absurd h (by decide), fun h => absurd h (by decide)⟩
theorem okiX3_levelsTogether : Cond.instanceMethod yX3_levelsTogether ∈ lw_tbl := List.mem_of_getElem? (i := 543) (by decide +kernel)
theorem okxX3_levelsTogether : Cond.selects yX3_levelsTogether.cls yX3_levelsTogether yX3_levelsTogether ∈ lw_tbl := List.mem_of_getElem? (i := 544) (by decide +kernel)
theorem okdX3_levelsTogether : (parseMethodDescriptor yX3_levelsTogether.desc).map (fun d => d.parameters.length + 1) = some 1 := by decide +kernel
theorem okc_6_175 : okC RX6 (175, 0, mX3_levelsTogether) := ⟨okpX3_levelsTogether, fun _ => ⟨List.mem_of_getElem? (i := 542) (by decide +kernel), okiX3_levelsTogether, okxX3_levelsTogether, okdX3_levelsTogether, _, rfl, rfl⟩, fun h => absurd h (by decide), fun h => absurd h (by decide), fun h => absurd h (by decide)⟩
theorem okiX6_comesSafelyTo : Cond.instanceMethod yX6_comesSafelyTo ∈ lw_tbl := List.mem_of_getElem? (i := 552) (by decide +kernel)
theorem okxX6_comesSafelyTo : Cond.selects yX6_comesSafelyTo.cls yX6_comesSafelyTo yX6_comesSafelyTo ∈ lw_tbl := List.mem_of_getElem? (i := 17) (by decide +kernel)
theorem okdX6_comesSafelyTo : (parseMethodDescriptor yX6_comesSafelyTo.desc).map (fun d => d.parameters.length + 1) = some 4 := by decide +kernel
theorem okc_6_179 : okC RX6 (179, 0, mX6_comesSafelyTo) := ⟨okpX6_comesSafelyTo, fun _ => ⟨List.mem_of_getElem? (i := 550) (by decide +kernel), okiX6_comesSafelyTo, okxX6_comesSafelyTo, okdX6_comesSafelyTo, _, rfl, rfl⟩, fun h => absurd h (by decide), fun h => absurd h (by decide), fun h => absurd h (by decide)⟩
theorem okiX6_thinkBridged : Cond.instanceMethod yX6_thinkBridged ∈ lw_tbl := List.mem_of_getElem? (i := 560) (by decide +kernel)
theorem okxX6_thinkBridged : Cond.selects yX6_thinkBridged.cls yX6_thinkBridged yX6_thinkBridged ∈ lw_tbl := List.mem_of_getElem? (i := 18) (by decide +kernel)
theorem okdX6_thinkBridged : (parseMethodDescriptor yX6_thinkBridged.desc).map (fun d => d.parameters.length + 1) = some 3 := by decide +kernel
theorem okc_6_186 : okC RX6 (186, 0, mX6_thinkBridged) := ⟨okpX6_thinkBridged, fun _ => ⟨List.mem_of_getElem? (i := 558) (by decide +kernel), okiX6_thinkBridged, okxX6_thinkBridged, okdX6_thinkBridged, _, rfl, rfl⟩, fun h => absurd h (by decide), fun h => absurd h (by decide), fun h => absurd h (by decide)⟩
theorem oktJ6_bitCount_0f7a4 : Cond.static yJ6_bitCount_0f7a4 ∈ lw_tbl := List.mem_of_getElem? (i := 563) (by decide +kernel)
theorem okdJ6_bitCount_0f7a4 : (parseMethodDescriptor yJ6_bitCount_0f7a4.desc).map (fun d => d.parameters.length) = some 1 := by decide +kernel
theorem okc_6_190 : okC RX6 (190, 1, mJ6_bitCount_0f7a4) := ⟨okpJ6_bitCount_0f7a4, fun h => absurd h (by decide), fun _ => ⟨List.mem_of_getElem? (i := 562) (by decide +kernel), oktJ6_bitCount_0f7a4, okdJ6_bitCount_0f7a4⟩, fun h => absurd h (by decide), fun h => absurd h (by decide)⟩
theorem okiX6_firstUnlike : Cond.instanceMethod yX6_firstUnlike ∈ lw_tbl := List.mem_of_getElem? (i := 578) (by decide +kernel)
theorem okxX6_firstUnlike : Cond.selects yX6_firstUnlike.cls yX6_firstUnlike yX6_firstUnlike ∈ lw_tbl := List.mem_of_getElem? (i := 19) (by decide +kernel)
theorem okdX6_firstUnlike : (parseMethodDescriptor yX6_firstUnlike.desc).map (fun d => d.parameters.length + 1) = some 3 := by decide +kernel
theorem okc_6_199 : okC RX6 (199, 0, mX6_firstUnlike) := ⟨okpX6_firstUnlike, fun _ => ⟨List.mem_of_getElem? (i := 576) (by decide +kernel), okiX6_firstUnlike, okxX6_firstUnlike, okdX6_firstUnlike, _, rfl, rfl⟩, fun h => absurd h (by decide), fun h => absurd h (by decide), fun h => absurd h (by decide)⟩
theorem oktX3_most : Cond.static yX3_most ∈ lw_tbl := List.mem_of_getElem? (i := 585) (by decide +kernel)
theorem okdX3_most : (parseMethodDescriptor yX3_most.desc).map (fun d => d.parameters.length) = some 1 := by decide +kernel
theorem okc_6_207 : okC RX6 (207, 1, mX3_most) := ⟨okpX3_most, fun h => absurd h (by decide), fun _ => ⟨List.mem_of_getElem? (i := 584) (by decide +kernel), oktX3_most, okdX3_most⟩, fun h => absurd h (by decide), fun h => absurd h (by decide)⟩
theorem oktX6_doublings : Cond.static yX6_doublings ∈ lw_tbl := List.mem_of_getElem? (i := 593) (by decide +kernel)
theorem okdX6_doublings : (parseMethodDescriptor yX6_doublings.desc).map (fun d => d.parameters.length) = some 1 := by decide +kernel
theorem okc_6_212 : okC RX6 (212, 1, mX6_doublings) := ⟨okpX6_doublings, fun h => absurd h (by decide), fun _ => ⟨List.mem_of_getElem? (i := 592) (by decide +kernel), oktX6_doublings, okdX6_doublings⟩, fun h => absurd h (by decide), fun h => absurd h (by decide)⟩
theorem oktX6_answersOf : Cond.static yX6_answersOf ∈ lw_tbl := List.mem_of_getElem? (i := 596) (by decide +kernel)
theorem okdX6_answersOf : (parseMethodDescriptor yX6_answersOf.desc).map (fun d => d.parameters.length) = some 3 := by decide +kernel
theorem okc_6_217 : okC RX6 (217, 1, mX6_answersOf) := ⟨okpX6_answersOf, fun h => absurd h (by decide), fun _ => ⟨List.mem_of_getElem? (i := 595) (by decide +kernel), oktX6_answersOf, okdX6_answersOf⟩, fun h => absurd h (by decide), fun h => absurd h (by decide)⟩
theorem okiX6_played : Cond.instanceMethod yX6_played ∈ lw_tbl := List.mem_of_getElem? (i := 609) (by decide +kernel)
theorem okxX6_played : Cond.selects yX6_played.cls yX6_played yX6_played ∈ lw_tbl := List.mem_of_getElem? (i := 20) (by decide +kernel)
theorem okdX6_played : (parseMethodDescriptor yX6_played.desc).map (fun d => d.parameters.length + 1) = some 7 := by decide +kernel
theorem okc_6_221 : okC RX6 (221, 0, mX6_played) := ⟨okpX6_played, fun _ => ⟨List.mem_of_getElem? (i := 607) (by decide +kernel), okiX6_played, okxX6_played, okdX6_played, _, rfl, rfl⟩, fun h => absurd h (by decide), fun h => absurd h (by decide), fun h => absurd h (by decide)⟩
theorem okiX6_differenceBehind : Cond.instanceMethod yX6_differenceBehind ∈ lw_tbl := List.mem_of_getElem? (i := 613) (by decide +kernel)
theorem okxX6_differenceBehind : Cond.selects yX6_differenceBehind.cls yX6_differenceBehind yX6_differenceBehind ∈ lw_tbl := List.mem_of_getElem? (i := 21) (by decide +kernel)
theorem okdX6_differenceBehind : (parseMethodDescriptor yX6_differenceBehind.desc).map (fun d => d.parameters.length + 1) = some 5 := by decide +kernel
theorem okc_6_228 : okC RX6 (228, 0, mX6_differenceBehind) := ⟨okpX6_differenceBehind, fun _ => ⟨List.mem_of_getElem? (i := 611) (by decide +kernel), okiX6_differenceBehind, okxX6_differenceBehind, okdX6_differenceBehind, _, rfl, rfl⟩, fun h => absurd h (by decide), fun h => absurd h (by decide), fun h => absurd h (by decide)⟩
theorem oktX6_handled : Cond.static yX6_handled ∈ lw_tbl := List.mem_of_getElem? (i := 616) (by decide +kernel)
theorem okdX6_handled : (parseMethodDescriptor yX6_handled.desc).map (fun d => d.parameters.length) = some 2 := by decide +kernel
theorem okc_6_225 : okC RX6 (225, 1, mX6_handled) := ⟨okpX6_handled, fun h => absurd h (by decide), fun _ => ⟨List.mem_of_getElem? (i := 615) (by decide +kernel), oktX6_handled, okdX6_handled⟩, fun h => absurd h (by decide), fun h => absurd h (by decide)⟩
theorem okc_6_232 : okC RX6 (232, 1, mX6_within) := ⟨okpX6_within, fun h => absurd h (by decide), fun _ => ⟨List.mem_of_getElem? (i := 618) (by decide +kernel), oktX6_within, okdX6_within⟩, fun h => absurd h (by decide), fun h => absurd h (by decide)⟩
theorem okc_6_255 : okC RX6 (255, 0, mX3_takeWhatDeedsChange) := ⟨okpX3_takeWhatDeedsChange, fun _ => ⟨List.mem_of_getElem? (i := 649) (by decide +kernel), okiX3_takeWhatDeedsChange, okxX3_takeWhatDeedsChange, okdX3_takeWhatDeedsChange, _, rfl, rfl⟩, fun h => absurd h (by decide), fun h => absurd h (by decide), fun h => absurd h (by decide)⟩
theorem okiX0_unmake : Cond.instanceMethod yX0_unmake ∈ lw_tbl := List.mem_of_getElem? (i := 655) (by decide +kernel)
theorem okxX0_unmake : Cond.selects yX0_unmake.cls yX0_unmake yX0_unmake ∈ lw_tbl := List.mem_of_getElem? (i := 656) (by decide +kernel)
theorem okdX0_unmake : (parseMethodDescriptor yX0_unmake.desc).map (fun d => d.parameters.length + 1) = some 2 := by decide +kernel
theorem okc_6_258 : okC RX6 (258, 0, mX0_unmake) := ⟨okpX0_unmake, fun _ => ⟨List.mem_of_getElem? (i := 654) (by decide +kernel), okiX0_unmake, okxX0_unmake, okdX0_unmake, _, rfl, rfl⟩, fun h => absurd h (by decide), fun h => absurd h (by decide), fun h => absurd h (by decide)⟩
theorem okiX0_makeAgain : Cond.instanceMethod yX0_makeAgain ∈ lw_tbl := List.mem_of_getElem? (i := 664) (by decide +kernel)
theorem okxX0_makeAgain : Cond.selects yX0_makeAgain.cls yX0_makeAgain yX0_makeAgain ∈ lw_tbl := List.mem_of_getElem? (i := 665) (by decide +kernel)
theorem okdX0_makeAgain : (parseMethodDescriptor yX0_makeAgain.desc).map (fun d => d.parameters.length + 1) = some 2 := by decide +kernel
theorem okc_6_265 : okC RX6 (265, 0, mX0_makeAgain) := ⟨okpX0_makeAgain, fun _ => ⟨List.mem_of_getElem? (i := 663) (by decide +kernel), okiX0_makeAgain, okxX0_makeAgain, okdX0_makeAgain, _, rfl, rfl⟩, fun h => absurd h (by decide), fun h => absurd h (by decide), fun h => absurd h (by decide)⟩
theorem okc_6_271 : okC RX6 (271, 1, mX5_isKind) := ⟨okpX5_isKind, fun h => absurd h (by decide), fun _ => ⟨List.mem_of_getElem? (i := 671) (by decide +kernel), oktX5_isKind, okdX5_isKind⟩, fun h => absurd h (by decide), fun h => absurd h (by decide)⟩
theorem okc_6_274 : okC RX6 (274, 0, mX5_isFull) := ⟨okpX5_isFull, fun _ => ⟨List.mem_of_getElem? (i := 674) (by decide +kernel), okiX5_isFull, okxX5_isFull, okdX5_isFull, _, rfl, rfl⟩, fun h => absurd h (by decide), fun h => absurd h (by decide), fun h => absurd h (by decide)⟩
theorem okiX5_add : Cond.instanceMethod yX5_add ∈ lw_tbl := List.mem_of_getElem? (i := 679) (by decide +kernel)
theorem okxX5_add : Cond.selects yX5_add.cls yX5_add yX5_add ∈ lw_tbl := List.mem_of_getElem? (i := 680) (by decide +kernel)
theorem okdX5_add : (parseMethodDescriptor yX5_add.desc).map (fun d => d.parameters.length + 1) = some 2 := by decide +kernel
theorem okc_6_275 : okC RX6 (275, 0, mX5_add) := ⟨okpX5_add, fun _ => ⟨List.mem_of_getElem? (i := 678) (by decide +kernel), okiX5_add, okxX5_add, okdX5_add, _, rfl, rfl⟩, fun h => absurd h (by decide), fun h => absurd h (by decide), fun h => absurd h (by decide)⟩
theorem okiX5_begin : Cond.instanceMethod yX5_begin ∈ lw_tbl := List.mem_of_getElem? (i := 688) (by decide +kernel)
theorem okxX5_begin : Cond.selects yX5_begin.cls yX5_begin yX5_begin ∈ lw_tbl := List.mem_of_getElem? (i := 689) (by decide +kernel)
theorem okdX5_begin : (parseMethodDescriptor yX5_begin.desc).map (fun d => d.parameters.length + 1) = some 4 := by decide +kernel
theorem okc_6_277 : okC RX6 (277, 0, mX5_begin) := ⟨okpX5_begin, fun _ => ⟨List.mem_of_getElem? (i := 687) (by decide +kernel), okiX5_begin, okxX5_begin, okdX5_begin, _, rfl, rfl⟩, fun h => absurd h (by decide), fun h => absurd h (by decide), fun h => absurd h (by decide)⟩
theorem okiX5_traced : Cond.instanceMethod yX5_traced ∈ lw_tbl := List.mem_of_getElem? (i := 724) (by decide +kernel)
theorem okxX5_traced : Cond.selects yX5_traced.cls yX5_traced yX5_traced ∈ lw_tbl := List.mem_of_getElem? (i := 725) (by decide +kernel)
theorem okdX5_traced : (parseMethodDescriptor yX5_traced.desc).map (fun d => d.parameters.length + 1) = some 1 := by decide +kernel
theorem okc_6_280 : okC RX6 (280, 0, mX5_traced) := ⟨okpX5_traced, fun _ => ⟨List.mem_of_getElem? (i := 723) (by decide +kernel), okiX5_traced, okxX5_traced, okdX5_traced, _, rfl, rfl⟩, fun h => absurd h (by decide), fun h => absurd h (by decide), fun h => absurd h (by decide)⟩
theorem okc_6_286 : okC RX6 (286, 0, mX5_has) := ⟨okpX5_has, fun _ => ⟨List.mem_of_getElem? (i := 732) (by decide +kernel), okiX5_has, okxX5_has, okdX5_has, _, rfl, rfl⟩, fun h => absurd h (by decide), fun h => absurd h (by decide), fun h => absurd h (by decide)⟩
theorem okiX4_holdNothing : Cond.instanceMethod yX4_holdNothing ∈ lw_tbl := List.mem_of_getElem? (i := 734) (by decide +kernel)
theorem okxX4_holdNothing : Cond.selects yX4_holdNothing.cls yX4_holdNothing yX4_holdNothing ∈ lw_tbl := List.mem_of_getElem? (i := 735) (by decide +kernel)
theorem okdX4_holdNothing : (parseMethodDescriptor yX4_holdNothing.desc).map (fun d => d.parameters.length + 1) = some 1 := by decide +kernel
theorem okc_6_288 : okC RX6 (288, 0, mX4_holdNothing) := ⟨okpX4_holdNothing, fun _ => ⟨List.mem_of_getElem? (i := 733) (by decide +kernel), okiX4_holdNothing, okxX4_holdNothing, okdX4_holdNothing, _, rfl, rfl⟩, fun h => absurd h (by decide), fun h => absurd h (by decide), fun h => absurd h (by decide)⟩
theorem okiX4_holdStep : Cond.instanceMethod yX4_holdStep ∈ lw_tbl := List.mem_of_getElem? (i := 738) (by decide +kernel)
theorem okxX4_holdStep : Cond.selects yX4_holdStep.cls yX4_holdStep yX4_holdStep ∈ lw_tbl := List.mem_of_getElem? (i := 739) (by decide +kernel)
theorem okdX4_holdStep : (parseMethodDescriptor yX4_holdStep.desc).map (fun d => d.parameters.length + 1) = some 2 := by decide +kernel
theorem okc_6_291 : okC RX6 (291, 0, mX4_holdStep) := ⟨okpX4_holdStep, fun _ => ⟨List.mem_of_getElem? (i := 737) (by decide +kernel), okiX4_holdStep, okxX4_holdStep, okdX4_holdStep, _, rfl, rfl⟩, fun h => absurd h (by decide), fun h => absurd h (by decide), fun h => absurd h (by decide)⟩
theorem okiX4_holdRow : Cond.instanceMethod yX4_holdRow ∈ lw_tbl := List.mem_of_getElem? (i := 746) (by decide +kernel)
theorem okxX4_holdRow : Cond.selects yX4_holdRow.cls yX4_holdRow yX4_holdRow ∈ lw_tbl := List.mem_of_getElem? (i := 747) (by decide +kernel)
theorem okdX4_holdRow : (parseMethodDescriptor yX4_holdRow.desc).map (fun d => d.parameters.length + 1) = some 3 := by decide +kernel
theorem okc_6_294 : okC RX6 (294, 0, mX4_holdRow) := ⟨okpX4_holdRow, fun _ => ⟨List.mem_of_getElem? (i := 745) (by decide +kernel), okiX4_holdRow, okxX4_holdRow, okdX4_holdRow, _, rfl, rfl⟩, fun h => absurd h (by decide), fun h => absurd h (by decide), fun h => absurd h (by decide)⟩
theorem okiX4_isRow : Cond.instanceMethod yX4_isRow ∈ lw_tbl := List.mem_of_getElem? (i := 756) (by decide +kernel)
theorem okxX4_isRow : Cond.selects yX4_isRow.cls yX4_isRow yX4_isRow ∈ lw_tbl := List.mem_of_getElem? (i := 757) (by decide +kernel)
theorem okdX4_isRow : (parseMethodDescriptor yX4_isRow.desc).map (fun d => d.parameters.length + 1) = some 1 := by decide +kernel
theorem okc_6_297 : okC RX6 (297, 0, mX4_isRow) := ⟨okpX4_isRow, fun _ => ⟨List.mem_of_getElem? (i := 755) (by decide +kernel), okiX4_isRow, okxX4_isRow, okdX4_isRow, _, rfl, rfl⟩, fun h => absurd h (by decide), fun h => absurd h (by decide), fun h => absurd h (by decide)⟩
theorem okiX4_cut : Cond.instanceMethod yX4_cut ∈ lw_tbl := List.mem_of_getElem? (i := 760) (by decide +kernel)
theorem okxX4_cut : Cond.selects yX4_cut.cls yX4_cut yX4_cut ∈ lw_tbl := List.mem_of_getElem? (i := 761) (by decide +kernel)
theorem okdX4_cut : (parseMethodDescriptor yX4_cut.desc).map (fun d => d.parameters.length + 1) = some 2 := by decide +kernel
theorem okc_6_303 : okC RX6 (303, 0, mX4_cut) := ⟨okpX4_cut, fun _ => ⟨List.mem_of_getElem? (i := 759) (by decide +kernel), okiX4_cut, okxX4_cut, okdX4_cut, _, rfl, rfl⟩, fun h => absurd h (by decide), fun h => absurd h (by decide), fun h => absurd h (by decide)⟩
theorem okc_6_313 : okC RX6 (313, 0, mX5_kindOf) := ⟨okpX5_kindOf, fun _ => ⟨List.mem_of_getElem? (i := 775) (by decide +kernel), okiX5_kindOf, okxX5_kindOf, okdX5_kindOf, _, rfl, rfl⟩, fun h => absurd h (by decide), fun h => absurd h (by decide), fun h => absurd h (by decide)⟩
theorem oktX5_isUnder : Cond.static yX5_isUnder ∈ lw_tbl := List.mem_of_getElem? (i := 777) (by decide +kernel)
theorem okdX5_isUnder : (parseMethodDescriptor yX5_isUnder.desc).map (fun d => d.parameters.length) = some 2 := by decide +kernel
theorem okc_6_316 : okC RX6 (316, 1, mX5_isUnder) := ⟨okpX5_isUnder, fun h => absurd h (by decide), fun _ => ⟨List.mem_of_getElem? (i := 776) (by decide +kernel), oktX5_isUnder, okdX5_isUnder⟩, fun h => absurd h (by decide), fun h => absurd h (by decide)⟩
theorem okC_6 : ∀ e ∈ rCT_6, okC RX6 e := List.forall_mem_cons.mpr ⟨okc_6_9, List.forall_mem_cons.mpr ⟨okc_6_35, List.forall_mem_cons.mpr ⟨okc_6_42, List.forall_mem_cons.mpr ⟨okc_6_49, List.forall_mem_cons.mpr ⟨okc_6_56, List.forall_mem_cons.mpr ⟨okc_6_67, List.forall_mem_cons.mpr ⟨okc_6_68, List.forall_mem_cons.mpr ⟨okc_6_72, List.forall_mem_cons.mpr ⟨okc_6_76, List.forall_mem_cons.mpr ⟨okc_6_80, List.forall_mem_cons.mpr ⟨okc_6_84, List.forall_mem_cons.mpr ⟨okc_6_87, List.forall_mem_cons.mpr ⟨okc_6_90, List.forall_mem_cons.mpr ⟨okc_6_94, List.forall_mem_cons.mpr ⟨okc_6_97, List.forall_mem_cons.mpr ⟨okc_6_101, List.forall_mem_cons.mpr ⟨okc_6_104, List.forall_mem_cons.mpr ⟨okc_6_108, List.forall_mem_cons.mpr ⟨okc_6_112, List.forall_mem_cons.mpr ⟨okc_6_116, List.forall_mem_cons.mpr ⟨okc_6_123, List.forall_mem_cons.mpr ⟨okc_6_127, List.forall_mem_cons.mpr ⟨okc_6_130, List.forall_mem_cons.mpr ⟨okc_6_134, List.forall_mem_cons.mpr ⟨okc_6_137, List.forall_mem_cons.mpr ⟨okc_6_141, List.forall_mem_cons.mpr ⟨okc_6_161, List.forall_mem_cons.mpr ⟨okc_6_148, List.forall_mem_cons.mpr ⟨okc_6_152, List.forall_mem_cons.mpr ⟨okc_6_155, List.forall_mem_cons.mpr ⟨okc_6_158, List.forall_mem_cons.mpr ⟨okc_6_165, List.forall_mem_cons.mpr ⟨okc_6_175, List.forall_mem_cons.mpr ⟨okc_6_179, List.forall_mem_cons.mpr ⟨okc_6_186, List.forall_mem_cons.mpr ⟨okc_6_190, List.forall_mem_cons.mpr ⟨okc_6_199, List.forall_mem_cons.mpr ⟨okc_6_207, List.forall_mem_cons.mpr ⟨okc_6_212, List.forall_mem_cons.mpr ⟨okc_6_217, List.forall_mem_cons.mpr ⟨okc_6_221, List.forall_mem_cons.mpr ⟨okc_6_228, List.forall_mem_cons.mpr ⟨okc_6_225, List.forall_mem_cons.mpr ⟨okc_6_232, List.forall_mem_cons.mpr ⟨okc_6_255, List.forall_mem_cons.mpr ⟨okc_6_258, List.forall_mem_cons.mpr ⟨okc_6_265, List.forall_mem_cons.mpr ⟨okc_6_271, List.forall_mem_cons.mpr ⟨okc_6_274, List.forall_mem_cons.mpr ⟨okc_6_275, List.forall_mem_cons.mpr ⟨okc_6_277, List.forall_mem_cons.mpr ⟨okc_6_280, List.forall_mem_cons.mpr ⟨okc_6_286, List.forall_mem_cons.mpr ⟨okc_6_288, List.forall_mem_cons.mpr ⟨okc_6_291, List.forall_mem_cons.mpr ⟨okc_6_294, List.forall_mem_cons.mpr ⟨okc_6_297, List.forall_mem_cons.mpr ⟨okc_6_303, List.forall_mem_cons.mpr ⟨okc_6_313, List.forall_mem_cons.mpr ⟨okc_6_316, fun _ h => absurd h List.not_mem_nil⟩⟩⟩⟩⟩⟩⟩⟩⟩⟩⟩⟩⟩⟩⟩⟩⟩⟩⟩⟩⟩⟩⟩⟩⟩⟩⟩⟩⟩⟩⟩⟩⟩⟩⟩⟩⟩⟩⟩⟩⟩⟩⟩⟩⟩⟩⟩⟩⟩⟩⟩⟩⟩⟩⟩⟩⟩⟩⟩⟩
theorem okF_6 : ∀ e ∈ rFT_6, okF RX6 e := List.forall_mem_cons.mpr ⟨(show okF RX6 (145, 3, 0) from ⟨_, rfl, Nat.le_of_ble_eq_true rfl, List.mem_of_getElem? (i := 94) (by decide +kernel)⟩), List.forall_mem_cons.mpr ⟨(show okF RX6 (193, 3, 2) from ⟨_, rfl, Nat.le_of_ble_eq_true rfl, List.mem_of_getElem? (i := 98) (by decide +kernel)⟩), List.forall_mem_cons.mpr ⟨(show okF RX6 (242, 3, 3) from ⟨_, rfl, Nat.le_of_ble_eq_true rfl, List.mem_of_getElem? (i := 101) (by decide +kernel)⟩), List.forall_mem_cons.mpr ⟨(show okF RX6 (236, 3, 4) from ⟨_, rfl, Nat.le_of_ble_eq_true rfl, List.mem_of_getElem? (i := 104) (by decide +kernel)⟩), List.forall_mem_cons.mpr ⟨(show okF RX6 (196, 3, 5) from ⟨_, rfl, Nat.le_of_ble_eq_true rfl, List.mem_of_getElem? (i := 106) (by decide +kernel)⟩), List.forall_mem_cons.mpr ⟨(show okF RX6 (239, 3, 7) from ⟨_, rfl, Nat.le_of_ble_eq_true rfl, List.mem_of_getElem? (i := 110) (by decide +kernel)⟩), List.forall_mem_cons.mpr ⟨(show okF RX6 (183, 3, 8) from ⟨_, rfl, Nat.le_of_ble_eq_true rfl, List.mem_of_getElem? (i := 113) (by decide +kernel)⟩), List.forall_mem_cons.mpr ⟨(show okF RX6 (119, 2, 1) from ⟨_, rfl, Nat.le_of_ble_eq_true rfl, List.mem_of_getElem? (i := 159) (by decide +kernel)⟩), List.forall_mem_cons.mpr ⟨(show okF RX6 (262, 0, 4) from ⟨_, rfl, Nat.le_of_ble_eq_true rfl, List.mem_of_getElem? (i := 184) (by decide +kernel)⟩), List.forall_mem_cons.mpr ⟨(show okF RX6 (268, 0, 5) from ⟨_, rfl, Nat.le_of_ble_eq_true rfl, List.mem_of_getElem? (i := 186) (by decide +kernel)⟩), List.forall_mem_cons.mpr ⟨(show okF RX6 (283, 5, 1) from ⟨_, rfl, Nat.le_of_ble_eq_true rfl, List.mem_of_getElem? (i := 208) (by decide +kernel)⟩), List.forall_mem_cons.mpr ⟨(show okF RX6 (319, 5, 2) from ⟨_, rfl, Nat.le_of_ble_eq_true rfl, List.mem_of_getElem? (i := 210) (by decide +kernel)⟩), List.forall_mem_cons.mpr ⟨(show okF RX6 (320, 5, 3) from ⟨_, rfl, Nat.le_of_ble_eq_true rfl, List.mem_of_getElem? (i := 212) (by decide +kernel)⟩), List.forall_mem_cons.mpr ⟨(show okF RX6 (310, 4, 1) from ⟨_, rfl, Nat.le_of_ble_eq_true rfl, List.mem_of_getElem? (i := 231) (by decide +kernel)⟩), List.forall_mem_cons.mpr ⟨(show okF RX6 (307, 4, 2) from ⟨_, rfl, Nat.le_of_ble_eq_true rfl, List.mem_of_getElem? (i := 233) (by decide +kernel)⟩), List.forall_mem_cons.mpr ⟨(show okF RX6 (203, 4, 3) from ⟨_, rfl, Nat.le_of_ble_eq_true rfl, List.mem_of_getElem? (i := 235) (by decide +kernel)⟩), List.forall_mem_cons.mpr ⟨(show okF RX6 (300, 4, 4) from ⟨_, rfl, Nat.le_of_ble_eq_true rfl, List.mem_of_getElem? (i := 237) (by decide +kernel)⟩), List.forall_mem_cons.mpr ⟨(show okF RX6 (10, 6, 0) from ⟨_, rfl, Nat.le_of_ble_eq_true rfl, List.mem_of_getElem? (i := 249) (by decide +kernel)⟩), List.forall_mem_cons.mpr ⟨(show okF RX6 (16, 6, 1) from ⟨_, rfl, Nat.le_of_ble_eq_true rfl, List.mem_of_getElem? (i := 250) (by decide +kernel)⟩), List.forall_mem_cons.mpr ⟨(show okF RX6 (19, 6, 2) from ⟨_, rfl, Nat.le_of_ble_eq_true rfl, List.mem_of_getElem? (i := 251) (by decide +kernel)⟩), List.forall_mem_cons.mpr ⟨(show okF RX6 (22, 6, 3) from ⟨_, rfl, Nat.le_of_ble_eq_true rfl, List.mem_of_getElem? (i := 252) (by decide +kernel)⟩), List.forall_mem_cons.mpr ⟨(show okF RX6 (26, 6, 4) from ⟨_, rfl, Nat.le_of_ble_eq_true rfl, List.mem_of_getElem? (i := 253) (by decide +kernel)⟩), List.forall_mem_cons.mpr ⟨(show okF RX6 (251, 6, 5) from ⟨_, rfl, Nat.le_of_ble_eq_true rfl, List.mem_of_getElem? (i := 254) (by decide +kernel)⟩), List.forall_mem_cons.mpr ⟨(show okF RX6 (29, 6, 6) from ⟨_, rfl, Nat.le_of_ble_eq_true rfl, List.mem_of_getElem? (i := 255) (by decide +kernel)⟩), List.forall_mem_cons.mpr ⟨(show okF RX6 (36, 6, 7) from ⟨_, rfl, Nat.le_of_ble_eq_true rfl, List.mem_of_getElem? (i := 256) (by decide +kernel)⟩), List.forall_mem_cons.mpr ⟨(show okF RX6 (43, 6, 8) from ⟨_, rfl, Nat.le_of_ble_eq_true rfl, List.mem_of_getElem? (i := 257) (by decide +kernel)⟩), List.forall_mem_cons.mpr ⟨(show okF RX6 (50, 6, 9) from ⟨_, rfl, Nat.le_of_ble_eq_true rfl, List.mem_of_getElem? (i := 258) (by decide +kernel)⟩), List.forall_mem_cons.mpr ⟨(show okF RX6 (57, 6, 10) from ⟨_, rfl, Nat.le_of_ble_eq_true rfl, List.mem_of_getElem? (i := 259) (by decide +kernel)⟩), List.forall_mem_cons.mpr ⟨(show okF RX6 (63, 6, 11) from ⟨_, rfl, Nat.le_of_ble_eq_true rfl, List.mem_of_getElem? (i := 260) (by decide +kernel)⟩), fun _ h => absurd h List.not_mem_nil⟩⟩⟩⟩⟩⟩⟩⟩⟩⟩⟩⟩⟩⟩⟩⟩⟩⟩⟩⟩⟩⟩⟩⟩⟩⟩⟩⟩⟩
theorem okS_6 : ∀ e ∈ rST_6, okS RX6 e := fun _ h => absurd h List.not_mem_nil
theorem okKI_6 : ∀ e ∈ rKI_6, okKI RX6 e := List.forall_mem_cons.mpr ⟨(show okKI RX6 (216, -2000000000) from List.mem_of_getElem? (i := 602) (by decide +kernel)), List.forall_mem_cons.mpr ⟨(show okKI RX6 (235, 1103515245) from List.mem_of_getElem? (i := 623) (by decide +kernel)), fun _ h => absurd h List.not_mem_nil⟩⟩
theorem okKL_6 : ∀ e ∈ rKL_6, okKL RX6 e := List.forall_mem_cons.mpr ⟨(show okKL RX6 (210, -9223372036854775808) from List.mem_of_getElem? (i := 591) (by decide +kernel)), fun _ h => absurd h List.not_mem_nil⟩
theorem okN_6 : ∀ e ∈ rNW_6, okN RX6 e := List.forall_mem_cons.mpr ⟨(show okN RX6 (7, 3) from ⟨_, rfl, List.mem_of_getElem? (i := 86) (by decide +kernel), List.mem_of_getElem? (i := 87) (by decide +kernel), List.mem_of_getElem? (i := 68) (by decide +kernel)⟩), List.forall_mem_cons.mpr ⟨(show okN RX6 (33, 2) from ⟨_, rfl, List.mem_of_getElem? (i := 134) (by decide +kernel), List.mem_of_getElem? (i := 135) (by decide +kernel), List.mem_of_getElem? (i := 69) (by decide +kernel)⟩), List.forall_mem_cons.mpr ⟨(show okN RX6 (40, 1) from ⟨_, rfl, List.mem_of_getElem? (i := 171) (by decide +kernel), List.mem_of_getElem? (i := 141) (by decide +kernel), List.mem_of_getElem? (i := 70) (by decide +kernel)⟩), List.forall_mem_cons.mpr ⟨(show okN RX6 (47, 0) from ⟨_, rfl, List.mem_of_getElem? (i := 173) (by decide +kernel), List.mem_of_getElem? (i := 174) (by decide +kernel), List.mem_of_getElem? (i := 71) (by decide +kernel)⟩), List.forall_mem_cons.mpr ⟨(show okN RX6 (54, 5) from ⟨_, rfl, List.mem_of_getElem? (i := 200) (by decide +kernel), List.mem_of_getElem? (i := 201) (by decide +kernel), List.mem_of_getElem? (i := 72) (by decide +kernel)⟩), List.forall_mem_cons.mpr ⟨(show okN RX6 (61, 4) from ⟨_, rfl, List.mem_of_getElem? (i := 222) (by decide +kernel), List.mem_of_getElem? (i := 224) (by decide +kernel), List.mem_of_getElem? (i := 73) (by decide +kernel)⟩), fun _ h => absurd h List.not_mem_nil⟩⟩⟩⟩⟩⟩
theorem okO_6 : ∀ e ∈ rOI_6, okO RX6 e := List.forall_mem_cons.mpr ⟨(show okO RX6 1 from List.mem_of_getElem? (i := 83) (by decide +kernel)), fun _ h => absurd h List.not_mem_nil⟩
theorem okX_6 : ∀ e ∈ rMX_6, okX RX6 e := List.forall_mem_cons.mpr ⟨(show okX RX6 170 from List.mem_of_getElem? (i := 484) (by decide +kernel)), fun _ h => absurd h List.not_mem_nil⟩
theorem okI_6 : ∀ e ∈ rMN_6, okI RX6 e := List.forall_mem_cons.mpr ⟨(show okI RX6 204 from List.mem_of_getElem? (i := 481) (by decide +kernel)), fun _ h => absurd h List.not_mem_nil⟩
theorem okY_6 : ∀ e ∈ rAC_6, okY RX6 e := List.forall_mem_cons.mpr ⟨(show okY RX6 245 from List.mem_of_getElem? (i := 644) (by decide +kernel)), fun _ h => absurd h List.not_mem_nil⟩
theorem oktX7_within : Cond.static yX7_within ∈ lw_tbl := List.mem_of_getElem? (i := 921) (by decide +kernel)
theorem okdX7_within : (parseMethodDescriptor yX7_within.desc).map (fun d => d.parameters.length) = some 3 := by decide +kernel
theorem okc_7_101 : okC RX7 (101, 1, mX7_within) := ⟨okpX7_within, fun h => absurd h (by decide), fun _ => ⟨List.mem_of_getElem? (i := 920) (by decide +kernel), oktX7_within, okdX7_within⟩, fun h => absurd h (by decide), fun h => absurd h (by decide)⟩
theorem okiX7_newOne : Cond.instanceMethod yX7_newOne ∈ lw_tbl := List.mem_of_getElem? (i := 925) (by decide +kernel)
theorem okxX7_newOne : Cond.selects yX7_newOne.cls yX7_newOne yX7_newOne ∈ lw_tbl := List.mem_of_getElem? (i := 25) (by decide +kernel)
theorem okdX7_newOne : (parseMethodDescriptor yX7_newOne.desc).map (fun d => d.parameters.length + 1) = some 4 := by decide +kernel
theorem okc_7_105 : okC RX7 (105, 0, mX7_newOne) := ⟨okpX7_newOne, fun _ => ⟨List.mem_of_getElem? (i := 923) (by decide +kernel), okiX7_newOne, okxX7_newOne, okdX7_newOne, _, rfl, rfl⟩, fun h => absurd h (by decide), fun h => absurd h (by decide), fun h => absurd h (by decide)⟩
theorem oktX7_isShelf : Cond.static yX7_isShelf ∈ lw_tbl := List.mem_of_getElem? (i := 932) (by decide +kernel)
theorem okdX7_isShelf : (parseMethodDescriptor yX7_isShelf.desc).map (fun d => d.parameters.length) = some 1 := by decide +kernel
theorem okc_7_109 : okC RX7 (109, 1, mX7_isShelf) := ⟨okpX7_isShelf, fun h => absurd h (by decide), fun _ => ⟨List.mem_of_getElem? (i := 931) (by decide +kernel), oktX7_isShelf, okdX7_isShelf⟩, fun h => absurd h (by decide), fun h => absurd h (by decide)⟩
theorem okiX7_toldAt : Cond.instanceMethod yX7_toldAt ∈ lw_tbl := List.mem_of_getElem? (i := 937) (by decide +kernel)
theorem okxX7_toldAt : Cond.selects yX7_toldAt.cls yX7_toldAt yX7_toldAt ∈ lw_tbl := List.mem_of_getElem? (i := 26) (by decide +kernel)
theorem okdX7_toldAt : (parseMethodDescriptor yX7_toldAt.desc).map (fun d => d.parameters.length + 1) = some 3 := by decide +kernel
theorem okc_7_115 : okC RX7 (115, 0, mX7_toldAt) := ⟨okpX7_toldAt, fun _ => ⟨List.mem_of_getElem? (i := 935) (by decide +kernel), okiX7_toldAt, okxX7_toldAt, okdX7_toldAt, _, rfl, rfl⟩, fun h => absurd h (by decide), fun h => absurd h (by decide), fun h => absurd h (by decide)⟩
theorem okiX7_isOf : Cond.instanceMethod yX7_isOf ∈ lw_tbl := List.mem_of_getElem? (i := 945) (by decide +kernel)
theorem okxX7_isOf : Cond.selects yX7_isOf.cls yX7_isOf yX7_isOf ∈ lw_tbl := List.mem_of_getElem? (i := 27) (by decide +kernel)
theorem okdX7_isOf : (parseMethodDescriptor yX7_isOf.desc).map (fun d => d.parameters.length + 1) = some 3 := by decide +kernel
theorem okc_7_122 : okC RX7 (122, 0, mX7_isOf) := ⟨okpX7_isOf, fun _ => ⟨List.mem_of_getElem? (i := 943) (by decide +kernel), okiX7_isOf, okxX7_isOf, okdX7_isOf, _, rfl, rfl⟩, fun h => absurd h (by decide), fun h => absurd h (by decide), fun h => absurd h (by decide)⟩
theorem okiX7_isOne : Cond.instanceMethod yX7_isOne ∈ lw_tbl := List.mem_of_getElem? (i := 949) (by decide +kernel)
theorem okxX7_isOne : Cond.selects yX7_isOne.cls yX7_isOne yX7_isOne ∈ lw_tbl := List.mem_of_getElem? (i := 28) (by decide +kernel)
theorem okdX7_isOne : (parseMethodDescriptor yX7_isOne.desc).map (fun d => d.parameters.length + 1) = some 2 := by decide +kernel
theorem okc_7_119 : okC RX7 (119, 0, mX7_isOne) := ⟨okpX7_isOne, fun _ => ⟨List.mem_of_getElem? (i := 947) (by decide +kernel), okiX7_isOne, okxX7_isOne, okdX7_isOne, _, rfl, rfl⟩, fun h => absurd h (by decide), fun h => absurd h (by decide), fun h => absurd h (by decide)⟩
theorem oktX7_isFit : Cond.static yX7_isFit ∈ lw_tbl := List.mem_of_getElem? (i := 952) (by decide +kernel)
theorem okdX7_isFit : (parseMethodDescriptor yX7_isFit.desc).map (fun d => d.parameters.length) = some 2 := by decide +kernel
theorem okc_7_126 : okC RX7 (126, 1, mX7_isFit) := ⟨okpX7_isFit, fun h => absurd h (by decide), fun _ => ⟨List.mem_of_getElem? (i := 951) (by decide +kernel), oktX7_isFit, okdX7_isFit⟩, fun h => absurd h (by decide), fun h => absurd h (by decide)⟩
theorem okiX7_get : Cond.instanceMethod yX7_get ∈ lw_tbl := List.mem_of_getElem? (i := 956) (by decide +kernel)
theorem okxX7_get : Cond.selects yX7_get.cls yX7_get yX7_get ∈ lw_tbl := List.mem_of_getElem? (i := 29) (by decide +kernel)
theorem okdX7_get : (parseMethodDescriptor yX7_get.desc).map (fun d => d.parameters.length + 1) = some 3 := by decide +kernel
theorem okc_7_129 : okC RX7 (129, 0, mX7_get) := ⟨okpX7_get, fun _ => ⟨List.mem_of_getElem? (i := 954) (by decide +kernel), okiX7_get, okxX7_get, okdX7_get, _, rfl, rfl⟩, fun h => absurd h (by decide), fun h => absurd h (by decide), fun h => absurd h (by decide)⟩
theorem okiX7_becomes : Cond.instanceMethod yX7_becomes ∈ lw_tbl := List.mem_of_getElem? (i := 960) (by decide +kernel)
theorem okxX7_becomes : Cond.selects yX7_becomes.cls yX7_becomes yX7_becomes ∈ lw_tbl := List.mem_of_getElem? (i := 30) (by decide +kernel)
theorem okdX7_becomes : (parseMethodDescriptor yX7_becomes.desc).map (fun d => d.parameters.length + 1) = some 4 := by decide +kernel
theorem okc_7_132 : okC RX7 (132, 0, mX7_becomes) := ⟨okpX7_becomes, fun _ => ⟨List.mem_of_getElem? (i := 958) (by decide +kernel), okiX7_becomes, okxX7_becomes, okdX7_becomes, _, rfl, rfl⟩, fun h => absurd h (by decide), fun h => absurd h (by decide), fun h => absurd h (by decide)⟩
theorem okiX7_isLine : Cond.instanceMethod yX7_isLine ∈ lw_tbl := List.mem_of_getElem? (i := 984) (by decide +kernel)
theorem okxX7_isLine : Cond.selects yX7_isLine.cls yX7_isLine yX7_isLine ∈ lw_tbl := List.mem_of_getElem? (i := 31) (by decide +kernel)
theorem okdX7_isLine : (parseMethodDescriptor yX7_isLine.desc).map (fun d => d.parameters.length + 1) = some 1 := by decide +kernel
theorem okc_7_193 : okC RX7 (193, 0, mX7_isLine) := ⟨okpX7_isLine, fun _ => ⟨List.mem_of_getElem? (i := 982) (by decide +kernel), okiX7_isLine, okxX7_isLine, okdX7_isLine, _, rfl, rfl⟩, fun h => absurd h (by decide), fun h => absurd h (by decide), fun h => absurd h (by decide)⟩
theorem okiX7_isE : Cond.instanceMethod yX7_isE ∈ lw_tbl := List.mem_of_getElem? (i := 988) (by decide +kernel)
theorem okxX7_isE : Cond.selects yX7_isE.cls yX7_isE yX7_isE ∈ lw_tbl := List.mem_of_getElem? (i := 32) (by decide +kernel)
theorem okdX7_isE : (parseMethodDescriptor yX7_isE.desc).map (fun d => d.parameters.length + 1) = some 1 := by decide +kernel
theorem okc_7_175 : okC RX7 (175, 0, mX7_isE) := ⟨okpX7_isE, fun _ => ⟨List.mem_of_getElem? (i := 986) (by decide +kernel), okiX7_isE, okxX7_isE, okdX7_isE, _, rfl, rfl⟩, fun h => absurd h (by decide), fun h => absurd h (by decide), fun h => absurd h (by decide)⟩
theorem okiX7_isA : Cond.instanceMethod yX7_isA ∈ lw_tbl := List.mem_of_getElem? (i := 992) (by decide +kernel)
theorem okxX7_isA : Cond.selects yX7_isA.cls yX7_isA yX7_isA ∈ lw_tbl := List.mem_of_getElem? (i := 33) (by decide +kernel)
theorem okdX7_isA : (parseMethodDescriptor yX7_isA.desc).map (fun d => d.parameters.length + 1) = some 1 := by decide +kernel
theorem okc_7_187 : okC RX7 (187, 0, mX7_isA) := ⟨okpX7_isA, fun _ => ⟨List.mem_of_getElem? (i := 990) (by decide +kernel), okiX7_isA, okxX7_isA, okdX7_isA, _, rfl, rfl⟩, fun h => absurd h (by decide), fun h => absurd h (by decide), fun h => absurd h (by decide)⟩
theorem okiX7_isB : Cond.instanceMethod yX7_isB ∈ lw_tbl := List.mem_of_getElem? (i := 996) (by decide +kernel)
theorem okxX7_isB : Cond.selects yX7_isB.cls yX7_isB yX7_isB ∈ lw_tbl := List.mem_of_getElem? (i := 34) (by decide +kernel)
theorem okdX7_isB : (parseMethodDescriptor yX7_isB.desc).map (fun d => d.parameters.length + 1) = some 1 := by decide +kernel
theorem okc_7_184 : okC RX7 (184, 0, mX7_isB) := ⟨okpX7_isB, fun _ => ⟨List.mem_of_getElem? (i := 994) (by decide +kernel), okiX7_isB, okxX7_isB, okdX7_isB, _, rfl, rfl⟩, fun h => absurd h (by decide), fun h => absurd h (by decide), fun h => absurd h (by decide)⟩
theorem okiX7_isS : Cond.instanceMethod yX7_isS ∈ lw_tbl := List.mem_of_getElem? (i := 1000) (by decide +kernel)
theorem okxX7_isS : Cond.selects yX7_isS.cls yX7_isS yX7_isS ∈ lw_tbl := List.mem_of_getElem? (i := 35) (by decide +kernel)
theorem okdX7_isS : (parseMethodDescriptor yX7_isS.desc).map (fun d => d.parameters.length + 1) = some 1 := by decide +kernel
theorem okc_7_181 : okC RX7 (181, 0, mX7_isS) := ⟨okpX7_isS, fun _ => ⟨List.mem_of_getElem? (i := 998) (by decide +kernel), okiX7_isS, okxX7_isS, okdX7_isS, _, rfl, rfl⟩, fun h => absurd h (by decide), fun h => absurd h (by decide), fun h => absurd h (by decide)⟩
theorem okiX7_isP : Cond.instanceMethod yX7_isP ∈ lw_tbl := List.mem_of_getElem? (i := 1004) (by decide +kernel)
theorem okxX7_isP : Cond.selects yX7_isP.cls yX7_isP yX7_isP ∈ lw_tbl := List.mem_of_getElem? (i := 36) (by decide +kernel)
theorem okdX7_isP : (parseMethodDescriptor yX7_isP.desc).map (fun d => d.parameters.length + 1) = some 1 := by decide +kernel
theorem okc_7_178 : okC RX7 (178, 0, mX7_isP) := ⟨okpX7_isP, fun _ => ⟨List.mem_of_getElem? (i := 1002) (by decide +kernel), okiX7_isP, okxX7_isP, okdX7_isP, _, rfl, rfl⟩, fun h => absurd h (by decide), fun h => absurd h (by decide), fun h => absurd h (by decide)⟩
theorem okiX7_isO : Cond.instanceMethod yX7_isO ∈ lw_tbl := List.mem_of_getElem? (i := 1008) (by decide +kernel)
theorem okxX7_isO : Cond.selects yX7_isO.cls yX7_isO yX7_isO ∈ lw_tbl := List.mem_of_getElem? (i := 37) (by decide +kernel)
theorem okdX7_isO : (parseMethodDescriptor yX7_isO.desc).map (fun d => d.parameters.length + 1) = some 1 := by decide +kernel
theorem okc_7_172 : okC RX7 (172, 0, mX7_isO) := ⟨okpX7_isO, fun _ => ⟨List.mem_of_getElem? (i := 1006) (by decide +kernel), okiX7_isO, okxX7_isO, okdX7_isO, _, rfl, rfl⟩, fun h => absurd h (by decide), fun h => absurd h (by decide), fun h => absurd h (by decide)⟩
theorem okiX7_isDigit : Cond.instanceMethod yX7_isDigit ∈ lw_tbl := List.mem_of_getElem? (i := 1012) (by decide +kernel)
theorem okxX7_isDigit : Cond.selects yX7_isDigit.cls yX7_isDigit yX7_isDigit ∈ lw_tbl := List.mem_of_getElem? (i := 38) (by decide +kernel)
theorem okdX7_isDigit : (parseMethodDescriptor yX7_isDigit.desc).map (fun d => d.parameters.length + 1) = some 1 := by decide +kernel
theorem okc_7_155 : okC RX7 (155, 0, mX7_isDigit) := ⟨okpX7_isDigit, fun _ => ⟨List.mem_of_getElem? (i := 1010) (by decide +kernel), okiX7_isDigit, okxX7_isDigit, okdX7_isDigit, _, rfl, rfl⟩, fun h => absurd h (by decide), fun h => absurd h (by decide), fun h => absurd h (by decide)⟩
theorem okiX7_sign : Cond.instanceMethod yX7_sign ∈ lw_tbl := List.mem_of_getElem? (i := 1016) (by decide +kernel)
theorem okxX7_sign : Cond.selects yX7_sign.cls yX7_sign yX7_sign ∈ lw_tbl := List.mem_of_getElem? (i := 39) (by decide +kernel)
theorem okdX7_sign : (parseMethodDescriptor yX7_sign.desc).map (fun d => d.parameters.length + 1) = some 1 := by decide +kernel
theorem okc_7_148 : okC RX7 (148, 0, mX7_sign) := ⟨okpX7_sign, fun _ => ⟨List.mem_of_getElem? (i := 1014) (by decide +kernel), okiX7_sign, okxX7_sign, okdX7_sign, _, rfl, rfl⟩, fun h => absurd h (by decide), fun h => absurd h (by decide), fun h => absurd h (by decide)⟩
theorem okiX7_codes : Cond.instanceMethod yX7_codes ∈ lw_tbl := List.mem_of_getElem? (i := 1020) (by decide +kernel)
theorem okxX7_codes : Cond.selects yX7_codes.cls yX7_codes yX7_codes ∈ lw_tbl := List.mem_of_getElem? (i := 40) (by decide +kernel)
theorem okdX7_codes : (parseMethodDescriptor yX7_codes.desc).map (fun d => d.parameters.length + 1) = some 2 := by decide +kernel
theorem okc_7_159 : okC RX7 (159, 0, mX7_codes) := ⟨okpX7_codes, fun _ => ⟨List.mem_of_getElem? (i := 1018) (by decide +kernel), okiX7_codes, okxX7_codes, okdX7_codes, _, rfl, rfl⟩, fun h => absurd h (by decide), fun h => absurd h (by decide), fun h => absurd h (by decide)⟩
theorem oktX7_nameOf : Cond.static yX7_nameOf ∈ lw_tbl := List.mem_of_getElem? (i := 1023) (by decide +kernel)
theorem okdX7_nameOf : (parseMethodDescriptor yX7_nameOf.desc).map (fun d => d.parameters.length) = some 1 := by decide +kernel
theorem okc_7_162 : okC RX7 (162, 1, mX7_nameOf) := ⟨okpX7_nameOf, fun h => absurd h (by decide), fun _ => ⟨List.mem_of_getElem? (i := 1022) (by decide +kernel), oktX7_nameOf, okdX7_nameOf⟩, fun h => absurd h (by decide), fun h => absurd h (by decide)⟩
theorem okiX7_is : Cond.instanceMethod yX7_is ∈ lw_tbl := List.mem_of_getElem? (i := 1027) (by decide +kernel)
theorem okxX7_is : Cond.selects yX7_is.cls yX7_is yX7_is ∈ lw_tbl := List.mem_of_getElem? (i := 41) (by decide +kernel)
theorem okdX7_is : (parseMethodDescriptor yX7_is.desc).map (fun d => d.parameters.length + 1) = some 2 := by decide +kernel
theorem okc_7_169 : okC RX7 (169, 0, mX7_is) := ⟨okpX7_is, fun _ => ⟨List.mem_of_getElem? (i := 1025) (by decide +kernel), okiX7_is, okxX7_is, okdX7_is, _, rfl, rfl⟩, fun h => absurd h (by decide), fun h => absurd h (by decide), fun h => absurd h (by decide)⟩
theorem okiX7_goesFrom : Cond.instanceMethod yX7_goesFrom ∈ lw_tbl := List.mem_of_getElem? (i := 1035) (by decide +kernel)
theorem okxX7_goesFrom : Cond.selects yX7_goesFrom.cls yX7_goesFrom yX7_goesFrom ∈ lw_tbl := List.mem_of_getElem? (i := 42) (by decide +kernel)
theorem okdX7_goesFrom : (parseMethodDescriptor yX7_goesFrom.desc).map (fun d => d.parameters.length + 1) = some 2 := by decide +kernel
theorem okc_7_220 : okC RX7 (220, 0, mX7_goesFrom) := ⟨okpX7_goesFrom, fun _ => ⟨List.mem_of_getElem? (i := 1033) (by decide +kernel), okiX7_goesFrom, okxX7_goesFrom, okdX7_goesFrom, _, rfl, rfl⟩, fun h => absurd h (by decide), fun h => absurd h (by decide), fun h => absurd h (by decide)⟩
theorem okiX7_byLaw : Cond.instanceMethod yX7_byLaw ∈ lw_tbl := List.mem_of_getElem? (i := 1039) (by decide +kernel)
theorem okxX7_byLaw : Cond.selects yX7_byLaw.cls yX7_byLaw yX7_byLaw ∈ lw_tbl := List.mem_of_getElem? (i := 43) (by decide +kernel)
theorem okdX7_byLaw : (parseMethodDescriptor yX7_byLaw.desc).map (fun d => d.parameters.length + 1) = some 2 := by decide +kernel
theorem okc_7_209 : okC RX7 (209, 0, mX7_byLaw) := ⟨okpX7_byLaw, fun _ => ⟨List.mem_of_getElem? (i := 1037) (by decide +kernel), okiX7_byLaw, okxX7_byLaw, okdX7_byLaw, _, rfl, rfl⟩, fun h => absurd h (by decide), fun h => absurd h (by decide), fun h => absurd h (by decide)⟩
theorem okiX7_worked : Cond.instanceMethod yX7_worked ∈ lw_tbl := List.mem_of_getElem? (i := 1043) (by decide +kernel)
theorem okxX7_worked : Cond.selects yX7_worked.cls yX7_worked yX7_worked ∈ lw_tbl := List.mem_of_getElem? (i := 44) (by decide +kernel)
theorem okdX7_worked : (parseMethodDescriptor yX7_worked.desc).map (fun d => d.parameters.length + 1) = some 3 := by decide +kernel
theorem okc_7_206 : okC RX7 (206, 0, mX7_worked) := ⟨okpX7_worked, fun _ => ⟨List.mem_of_getElem? (i := 1041) (by decide +kernel), okiX7_worked, okxX7_worked, okdX7_worked, _, rfl, rfl⟩, fun h => absurd h (by decide), fun h => absurd h (by decide), fun h => absurd h (by decide)⟩
theorem oktX7_both : Cond.static yX7_both ∈ lw_tbl := List.mem_of_getElem? (i := 1046) (by decide +kernel)
theorem okdX7_both : (parseMethodDescriptor yX7_both.desc).map (fun d => d.parameters.length) = some 3 := by decide +kernel
theorem okc_7_203 : okC RX7 (203, 1, mX7_both) := ⟨okpX7_both, fun h => absurd h (by decide), fun _ => ⟨List.mem_of_getElem? (i := 1045) (by decide +kernel), oktX7_both, okdX7_both⟩, fun h => absurd h (by decide), fun h => absurd h (by decide)⟩
theorem okiX7_keeps : Cond.instanceMethod yX7_keeps ∈ lw_tbl := List.mem_of_getElem? (i := 1056) (by decide +kernel)
theorem okxX7_keeps : Cond.selects yX7_keeps.cls yX7_keeps yX7_keeps ∈ lw_tbl := List.mem_of_getElem? (i := 45) (by decide +kernel)
theorem okdX7_keeps : (parseMethodDescriptor yX7_keeps.desc).map (fun d => d.parameters.length + 1) = some 2 := by decide +kernel
theorem okc_7_229 : okC RX7 (229, 0, mX7_keeps) := ⟨okpX7_keeps, fun _ => ⟨List.mem_of_getElem? (i := 1054) (by decide +kernel), okiX7_keeps, okxX7_keeps, okdX7_keeps, _, rfl, rfl⟩, fun h => absurd h (by decide), fun h => absurd h (by decide), fun h => absurd h (by decide)⟩
theorem okiX7_goesOn : Cond.instanceMethod yX7_goesOn ∈ lw_tbl := List.mem_of_getElem? (i := 1060) (by decide +kernel)
theorem okxX7_goesOn : Cond.selects yX7_goesOn.cls yX7_goesOn yX7_goesOn ∈ lw_tbl := List.mem_of_getElem? (i := 46) (by decide +kernel)
theorem okdX7_goesOn : (parseMethodDescriptor yX7_goesOn.desc).map (fun d => d.parameters.length + 1) = some 2 := by decide +kernel
theorem okc_7_233 : okC RX7 (233, 0, mX7_goesOn) := ⟨okpX7_goesOn, fun _ => ⟨List.mem_of_getElem? (i := 1058) (by decide +kernel), okiX7_goesOn, okxX7_goesOn, okdX7_goesOn, _, rfl, rfl⟩, fun h => absurd h (by decide), fun h => absurd h (by decide), fun h => absurd h (by decide)⟩
theorem okiX7_passes : Cond.instanceMethod yX7_passes ∈ lw_tbl := List.mem_of_getElem? (i := 1064) (by decide +kernel)
theorem okxX7_passes : Cond.selects yX7_passes.cls yX7_passes yX7_passes ∈ lw_tbl := List.mem_of_getElem? (i := 47) (by decide +kernel)
theorem okdX7_passes : (parseMethodDescriptor yX7_passes.desc).map (fun d => d.parameters.length + 1) = some 1 := by decide +kernel
theorem okc_7_223 : okC RX7 (223, 0, mX7_passes) := ⟨okpX7_passes, fun _ => ⟨List.mem_of_getElem? (i := 1062) (by decide +kernel), okiX7_passes, okxX7_passes, okdX7_passes, _, rfl, rfl⟩, fun h => absurd h (by decide), fun h => absurd h (by decide), fun h => absurd h (by decide)⟩
theorem okiX7_signOf : Cond.instanceMethod yX7_signOf ∈ lw_tbl := List.mem_of_getElem? (i := 1068) (by decide +kernel)
theorem okxX7_signOf : Cond.selects yX7_signOf.cls yX7_signOf yX7_signOf ∈ lw_tbl := List.mem_of_getElem? (i := 48) (by decide +kernel)
theorem okdX7_signOf : (parseMethodDescriptor yX7_signOf.desc).map (fun d => d.parameters.length + 1) = some 2 := by decide +kernel
theorem okc_7_237 : okC RX7 (237, 0, mX7_signOf) := ⟨okpX7_signOf, fun _ => ⟨List.mem_of_getElem? (i := 1066) (by decide +kernel), okiX7_signOf, okxX7_signOf, okdX7_signOf, _, rfl, rfl⟩, fun h => absurd h (by decide), fun h => absurd h (by decide), fun h => absurd h (by decide)⟩
theorem okiX7_laysBack : Cond.instanceMethod yX7_laysBack ∈ lw_tbl := List.mem_of_getElem? (i := 1072) (by decide +kernel)
theorem okxX7_laysBack : Cond.selects yX7_laysBack.cls yX7_laysBack yX7_laysBack ∈ lw_tbl := List.mem_of_getElem? (i := 49) (by decide +kernel)
theorem okdX7_laysBack : (parseMethodDescriptor yX7_laysBack.desc).map (fun d => d.parameters.length + 1) = some 3 := by decide +kernel
theorem okc_7_240 : okC RX7 (240, 0, mX7_laysBack) := ⟨okpX7_laysBack, fun _ => ⟨List.mem_of_getElem? (i := 1070) (by decide +kernel), okiX7_laysBack, okxX7_laysBack, okdX7_laysBack, _, rfl, rfl⟩, fun h => absurd h (by decide), fun h => absurd h (by decide), fun h => absurd h (by decide)⟩
theorem oktX7_isTime : Cond.static yX7_isTime ∈ lw_tbl := List.mem_of_getElem? (i := 1079) (by decide +kernel)
theorem okdX7_isTime : (parseMethodDescriptor yX7_isTime.desc).map (fun d => d.parameters.length) = some 1 := by decide +kernel
theorem okc_7_244 : okC RX7 (244, 1, mX7_isTime) := ⟨okpX7_isTime, fun h => absurd h (by decide), fun _ => ⟨List.mem_of_getElem? (i := 1078) (by decide +kernel), oktX7_isTime, okdX7_isTime⟩, fun h => absurd h (by decide), fun h => absurd h (by decide)⟩
theorem okiX7_over : Cond.instanceMethod yX7_over ∈ lw_tbl := List.mem_of_getElem? (i := 1083) (by decide +kernel)
theorem okxX7_over : Cond.selects yX7_over.cls yX7_over yX7_over ∈ lw_tbl := List.mem_of_getElem? (i := 50) (by decide +kernel)
theorem okdX7_over : (parseMethodDescriptor yX7_over.desc).map (fun d => d.parameters.length + 1) = some 1 := by decide +kernel
theorem okc_7_247 : okC RX7 (247, 0, mX7_over) := ⟨okpX7_over, fun _ => ⟨List.mem_of_getElem? (i := 1081) (by decide +kernel), okiX7_over, okxX7_over, okdX7_over, _, rfl, rfl⟩, fun h => absurd h (by decide), fun h => absurd h (by decide), fun h => absurd h (by decide)⟩
theorem okiX7_isOver : Cond.instanceMethod yX7_isOver ∈ lw_tbl := List.mem_of_getElem? (i := 1087) (by decide +kernel)
theorem okxX7_isOver : Cond.selects yX7_isOver.cls yX7_isOver yX7_isOver ∈ lw_tbl := List.mem_of_getElem? (i := 51) (by decide +kernel)
theorem okdX7_isOver : (parseMethodDescriptor yX7_isOver.desc).map (fun d => d.parameters.length + 1) = some 2 := by decide +kernel
theorem okc_7_226 : okC RX7 (226, 0, mX7_isOver) := ⟨okpX7_isOver, fun _ => ⟨List.mem_of_getElem? (i := 1085) (by decide +kernel), okiX7_isOver, okxX7_isOver, okdX7_isOver, _, rfl, rfl⟩, fun h => absurd h (by decide), fun h => absurd h (by decide), fun h => absurd h (by decide)⟩
theorem okiX7_allLevel : Cond.instanceMethod yX7_allLevel ∈ lw_tbl := List.mem_of_getElem? (i := 1091) (by decide +kernel)
theorem okxX7_allLevel : Cond.selects yX7_allLevel.cls yX7_allLevel yX7_allLevel ∈ lw_tbl := List.mem_of_getElem? (i := 52) (by decide +kernel)
theorem okdX7_allLevel : (parseMethodDescriptor yX7_allLevel.desc).map (fun d => d.parameters.length + 1) = some 1 := by decide +kernel
theorem okc_7_250 : okC RX7 (250, 0, mX7_allLevel) := ⟨okpX7_allLevel, fun _ => ⟨List.mem_of_getElem? (i := 1089) (by decide +kernel), okiX7_allLevel, okxX7_allLevel, okdX7_allLevel, _, rfl, rfl⟩, fun h => absurd h (by decide), fun h => absurd h (by decide), fun h => absurd h (by decide)⟩
theorem okc_7_253 : okC RX7 (253, 1, mJ6_numberOfTrailingZeros_0f7a4) := ⟨okpJ6_numberOfTrailingZeros_0f7a4, fun h => absurd h (by decide), fun _ => ⟨List.mem_of_getElem? (i := 1097) (by decide +kernel), oktJ6_numberOfTrailingZeros_0f7a4, okdJ6_numberOfTrailingZeros_0f7a4⟩, fun h => absurd h (by decide), fun h => absurd h (by decide)⟩
theorem okiX7_isAsThen : Cond.instanceMethod yX7_isAsThen ∈ lw_tbl := List.mem_of_getElem? (i := 1108) (by decide +kernel)
theorem okxX7_isAsThen : Cond.selects yX7_isAsThen.cls yX7_isAsThen yX7_isAsThen ∈ lw_tbl := List.mem_of_getElem? (i := 53) (by decide +kernel)
theorem okdX7_isAsThen : (parseMethodDescriptor yX7_isAsThen.desc).map (fun d => d.parameters.length + 1) = some 2 := by decide +kernel
theorem okc_7_258 : okC RX7 (258, 0, mX7_isAsThen) := ⟨okpX7_isAsThen, fun _ => ⟨List.mem_of_getElem? (i := 1106) (by decide +kernel), okiX7_isAsThen, okxX7_isAsThen, okdX7_isAsThen, _, rfl, rfl⟩, fun h => absurd h (by decide), fun h => absurd h (by decide), fun h => absurd h (by decide)⟩
theorem okiX7_isThrown : Cond.instanceMethod yX7_isThrown ∈ lw_tbl := List.mem_of_getElem? (i := 1116) (by decide +kernel)
theorem okxX7_isThrown : Cond.selects yX7_isThrown.cls yX7_isThrown yX7_isThrown ∈ lw_tbl := List.mem_of_getElem? (i := 54) (by decide +kernel)
theorem okdX7_isThrown : (parseMethodDescriptor yX7_isThrown.desc).map (fun d => d.parameters.length + 1) = some 4 := by decide +kernel
theorem okc_7_261 : okC RX7 (261, 0, mX7_isThrown) := ⟨okpX7_isThrown, fun _ => ⟨List.mem_of_getElem? (i := 1114) (by decide +kernel), okiX7_isThrown, okxX7_isThrown, okdX7_isThrown, _, rfl, rfl⟩, fun h => absurd h (by decide), fun h => absurd h (by decide), fun h => absurd h (by decide)⟩
theorem okc_7_264 : okC RX7 (264, 1, mJ6_bitCount_0f7a4) := ⟨okpJ6_bitCount_0f7a4, fun h => absurd h (by decide), fun _ => ⟨List.mem_of_getElem? (i := 1122) (by decide +kernel), oktJ6_bitCount_0f7a4, okdJ6_bitCount_0f7a4⟩, fun h => absurd h (by decide), fun h => absurd h (by decide)⟩
theorem okiX7_noBytes : Cond.instanceMethod yX7_noBytes ∈ lw_tbl := List.mem_of_getElem? (i := 1133) (by decide +kernel)
theorem okxX7_noBytes : Cond.selects yX7_noBytes.cls yX7_noBytes yX7_noBytes ∈ lw_tbl := List.mem_of_getElem? (i := 55) (by decide +kernel)
theorem okdX7_noBytes : (parseMethodDescriptor yX7_noBytes.desc).map (fun d => d.parameters.length + 1) = some 2 := by decide +kernel
theorem okc_7_267 : okC RX7 (267, 0, mX7_noBytes) := ⟨okpX7_noBytes, fun _ => ⟨List.mem_of_getElem? (i := 1131) (by decide +kernel), okiX7_noBytes, okxX7_noBytes, okdX7_noBytes, _, rfl, rfl⟩, fun h => absurd h (by decide), fun h => absurd h (by decide), fun h => absurd h (by decide)⟩
theorem okiX7_unlike : Cond.instanceMethod yX7_unlike ∈ lw_tbl := List.mem_of_getElem? (i := 1137) (by decide +kernel)
theorem okxX7_unlike : Cond.selects yX7_unlike.cls yX7_unlike yX7_unlike ∈ lw_tbl := List.mem_of_getElem? (i := 56) (by decide +kernel)
theorem okdX7_unlike : (parseMethodDescriptor yX7_unlike.desc).map (fun d => d.parameters.length + 1) = some 3 := by decide +kernel
theorem okc_7_270 : okC RX7 (270, 0, mX7_unlike) := ⟨okpX7_unlike, fun _ => ⟨List.mem_of_getElem? (i := 1135) (by decide +kernel), okiX7_unlike, okxX7_unlike, okdX7_unlike, _, rfl, rfl⟩, fun h => absurd h (by decide), fun h => absurd h (by decide), fun h => absurd h (by decide)⟩
theorem okiX7_hear : Cond.instanceMethod yX7_hear ∈ lw_tbl := List.mem_of_getElem? (i := 1149) (by decide +kernel)
theorem okxX7_hear : Cond.selects yX7_hear.cls yX7_hear yX7_hear ∈ lw_tbl := List.mem_of_getElem? (i := 57) (by decide +kernel)
theorem okdX7_hear : (parseMethodDescriptor yX7_hear.desc).map (fun d => d.parameters.length + 1) = some 2 := by decide +kernel
theorem okc_7_273 : okC RX7 (273, 0, mX7_hear) := ⟨okpX7_hear, fun _ => ⟨List.mem_of_getElem? (i := 1147) (by decide +kernel), okiX7_hear, okxX7_hear, okdX7_hear, _, rfl, rfl⟩, fun h => absurd h (by decide), fun h => absurd h (by decide), fun h => absurd h (by decide)⟩
theorem okiX7_turnBy : Cond.instanceMethod yX7_turnBy ∈ lw_tbl := List.mem_of_getElem? (i := 1163) (by decide +kernel)
theorem okxX7_turnBy : Cond.selects yX7_turnBy.cls yX7_turnBy yX7_turnBy ∈ lw_tbl := List.mem_of_getElem? (i := 58) (by decide +kernel)
theorem okdX7_turnBy : (parseMethodDescriptor yX7_turnBy.desc).map (fun d => d.parameters.length + 1) = some 6 := by decide +kernel
theorem okc_7_279 : okC RX7 (279, 0, mX7_turnBy) := ⟨okpX7_turnBy, fun _ => ⟨List.mem_of_getElem? (i := 1161) (by decide +kernel), okiX7_turnBy, okxX7_turnBy, okdX7_turnBy, _, rfl, rfl⟩, fun h => absurd h (by decide), fun h => absurd h (by decide), fun h => absurd h (by decide)⟩
theorem okiX7_turnFrom : Cond.instanceMethod yX7_turnFrom ∈ lw_tbl := List.mem_of_getElem? (i := 1167) (by decide +kernel)
theorem okxX7_turnFrom : Cond.selects yX7_turnFrom.cls yX7_turnFrom yX7_turnFrom ∈ lw_tbl := List.mem_of_getElem? (i := 59) (by decide +kernel)
theorem okdX7_turnFrom : (parseMethodDescriptor yX7_turnFrom.desc).map (fun d => d.parameters.length + 1) = some 5 := by decide +kernel
theorem okc_7_283 : okC RX7 (283, 0, mX7_turnFrom) := ⟨okpX7_turnFrom, fun _ => ⟨List.mem_of_getElem? (i := 1165) (by decide +kernel), okiX7_turnFrom, okxX7_turnFrom, okdX7_turnFrom, _, rfl, rfl⟩, fun h => absurd h (by decide), fun h => absurd h (by decide), fun h => absurd h (by decide)⟩
theorem okiX7_flowsBy : Cond.instanceMethod yX7_flowsBy ∈ lw_tbl := List.mem_of_getElem? (i := 1208) (by decide +kernel)
theorem okxX7_flowsBy : Cond.selects yX7_flowsBy.cls yX7_flowsBy yX7_flowsBy ∈ lw_tbl := List.mem_of_getElem? (i := 60) (by decide +kernel)
theorem okdX7_flowsBy : (parseMethodDescriptor yX7_flowsBy.desc).map (fun d => d.parameters.length + 1) = some 4 := by decide +kernel
theorem okc_7_300 : okC RX7 (300, 0, mX7_flowsBy) := ⟨okpX7_flowsBy, fun _ => ⟨List.mem_of_getElem? (i := 1206) (by decide +kernel), okiX7_flowsBy, okxX7_flowsBy, okdX7_flowsBy, _, rfl, rfl⟩, fun h => absurd h (by decide), fun h => absurd h (by decide), fun h => absurd h (by decide)⟩
theorem okiX7_ran : Cond.instanceMethod yX7_ran ∈ lw_tbl := List.mem_of_getElem? (i := 1212) (by decide +kernel)
theorem okxX7_ran : Cond.selects yX7_ran.cls yX7_ran yX7_ran ∈ lw_tbl := List.mem_of_getElem? (i := 61) (by decide +kernel)
theorem okdX7_ran : (parseMethodDescriptor yX7_ran.desc).map (fun d => d.parameters.length + 1) = some 2 := by decide +kernel
theorem okc_7_297 : okC RX7 (297, 0, mX7_ran) := ⟨okpX7_ran, fun _ => ⟨List.mem_of_getElem? (i := 1210) (by decide +kernel), okiX7_ran, okxX7_ran, okdX7_ran, _, rfl, rfl⟩, fun h => absurd h (by decide), fun h => absurd h (by decide), fun h => absurd h (by decide)⟩
theorem oktX7_above : Cond.static yX7_above ∈ lw_tbl := List.mem_of_getElem? (i := 1215) (by decide +kernel)
theorem okdX7_above : (parseMethodDescriptor yX7_above.desc).map (fun d => d.parameters.length) = some 1 := by decide +kernel
theorem okc_7_303 : okC RX7 (303, 1, mX7_above) := ⟨okpX7_above, fun h => absurd h (by decide), fun _ => ⟨List.mem_of_getElem? (i := 1214) (by decide +kernel), oktX7_above, okdX7_above⟩, fun h => absurd h (by decide), fun h => absurd h (by decide)⟩
theorem okiX7_saysBy : Cond.instanceMethod yX7_saysBy ∈ lw_tbl := List.mem_of_getElem? (i := 1219) (by decide +kernel)
theorem okxX7_saysBy : Cond.selects yX7_saysBy.cls yX7_saysBy yX7_saysBy ∈ lw_tbl := List.mem_of_getElem? (i := 62) (by decide +kernel)
theorem okdX7_saysBy : (parseMethodDescriptor yX7_saysBy.desc).map (fun d => d.parameters.length + 1) = some 4 := by decide +kernel
theorem okc_7_306 : okC RX7 (306, 0, mX7_saysBy) := ⟨okpX7_saysBy, fun _ => ⟨List.mem_of_getElem? (i := 1217) (by decide +kernel), okiX7_saysBy, okxX7_saysBy, okdX7_saysBy, _, rfl, rfl⟩, fun h => absurd h (by decide), fun h => absurd h (by decide), fun h => absurd h (by decide)⟩
theorem okiX7_floodsBy : Cond.instanceMethod yX7_floodsBy ∈ lw_tbl := List.mem_of_getElem? (i := 1223) (by decide +kernel)
theorem okxX7_floodsBy : Cond.selects yX7_floodsBy.cls yX7_floodsBy yX7_floodsBy ∈ lw_tbl := List.mem_of_getElem? (i := 63) (by decide +kernel)
theorem okdX7_floodsBy : (parseMethodDescriptor yX7_floodsBy.desc).map (fun d => d.parameters.length + 1) = some 4 := by decide +kernel
theorem okc_7_309 : okC RX7 (309, 0, mX7_floodsBy) := ⟨okpX7_floodsBy, fun _ => ⟨List.mem_of_getElem? (i := 1221) (by decide +kernel), okiX7_floodsBy, okxX7_floodsBy, okdX7_floodsBy, _, rfl, rfl⟩, fun h => absurd h (by decide), fun h => absurd h (by decide), fun h => absurd h (by decide)⟩
theorem okiX7_tells : Cond.instanceMethod yX7_tells ∈ lw_tbl := List.mem_of_getElem? (i := 1227) (by decide +kernel)
theorem okxX7_tells : Cond.selects yX7_tells.cls yX7_tells yX7_tells ∈ lw_tbl := List.mem_of_getElem? (i := 64) (by decide +kernel)
theorem okdX7_tells : (parseMethodDescriptor yX7_tells.desc).map (fun d => d.parameters.length + 1) = some 4 := by decide +kernel
theorem okc_7_312 : okC RX7 (312, 0, mX7_tells) := ⟨okpX7_tells, fun _ => ⟨List.mem_of_getElem? (i := 1225) (by decide +kernel), okiX7_tells, okxX7_tells, okdX7_tells, _, rfl, rfl⟩, fun h => absurd h (by decide), fun h => absurd h (by decide), fun h => absurd h (by decide)⟩
theorem okiX7_isRow : Cond.instanceMethod yX7_isRow ∈ lw_tbl := List.mem_of_getElem? (i := 1247) (by decide +kernel)
theorem okxX7_isRow : Cond.selects yX7_isRow.cls yX7_isRow yX7_isRow ∈ lw_tbl := List.mem_of_getElem? (i := 65) (by decide +kernel)
theorem okdX7_isRow : (parseMethodDescriptor yX7_isRow.desc).map (fun d => d.parameters.length + 1) = some 2 := by decide +kernel
theorem okc_7_318 : okC RX7 (318, 0, mX7_isRow) := ⟨okpX7_isRow, fun _ => ⟨List.mem_of_getElem? (i := 1245) (by decide +kernel), okiX7_isRow, okxX7_isRow, okdX7_isRow, _, rfl, rfl⟩, fun h => absurd h (by decide), fun h => absurd h (by decide), fun h => absurd h (by decide)⟩
theorem oktX7_kept : Cond.static yX7_kept ∈ lw_tbl := List.mem_of_getElem? (i := 1250) (by decide +kernel)
theorem okdX7_kept : (parseMethodDescriptor yX7_kept.desc).map (fun d => d.parameters.length) = some 2 := by decide +kernel
theorem okc_7_321 : okC RX7 (321, 1, mX7_kept) := ⟨okpX7_kept, fun h => absurd h (by decide), fun _ => ⟨List.mem_of_getElem? (i := 1249) (by decide +kernel), oktX7_kept, okdX7_kept⟩, fun h => absurd h (by decide), fun h => absurd h (by decide)⟩
theorem okC_7 : ∀ e ∈ rCT_7, okC RX7 e := List.forall_mem_cons.mpr ⟨okc_7_101, List.forall_mem_cons.mpr ⟨okc_7_105, List.forall_mem_cons.mpr ⟨okc_7_109, List.forall_mem_cons.mpr ⟨okc_7_115, List.forall_mem_cons.mpr ⟨okc_7_122, List.forall_mem_cons.mpr ⟨okc_7_119, List.forall_mem_cons.mpr ⟨okc_7_126, List.forall_mem_cons.mpr ⟨okc_7_129, List.forall_mem_cons.mpr ⟨okc_7_132, List.forall_mem_cons.mpr ⟨okc_7_193, List.forall_mem_cons.mpr ⟨okc_7_175, List.forall_mem_cons.mpr ⟨okc_7_187, List.forall_mem_cons.mpr ⟨okc_7_184, List.forall_mem_cons.mpr ⟨okc_7_181, List.forall_mem_cons.mpr ⟨okc_7_178, List.forall_mem_cons.mpr ⟨okc_7_172, List.forall_mem_cons.mpr ⟨okc_7_155, List.forall_mem_cons.mpr ⟨okc_7_148, List.forall_mem_cons.mpr ⟨okc_7_159, List.forall_mem_cons.mpr ⟨okc_7_162, List.forall_mem_cons.mpr ⟨okc_7_169, List.forall_mem_cons.mpr ⟨okc_7_220, List.forall_mem_cons.mpr ⟨okc_7_209, List.forall_mem_cons.mpr ⟨okc_7_206, List.forall_mem_cons.mpr ⟨okc_7_203, List.forall_mem_cons.mpr ⟨okc_7_229, List.forall_mem_cons.mpr ⟨okc_7_233, List.forall_mem_cons.mpr ⟨okc_7_223, List.forall_mem_cons.mpr ⟨okc_7_237, List.forall_mem_cons.mpr ⟨okc_7_240, List.forall_mem_cons.mpr ⟨okc_7_244, List.forall_mem_cons.mpr ⟨okc_7_247, List.forall_mem_cons.mpr ⟨okc_7_226, List.forall_mem_cons.mpr ⟨okc_7_250, List.forall_mem_cons.mpr ⟨okc_7_253, List.forall_mem_cons.mpr ⟨okc_7_258, List.forall_mem_cons.mpr ⟨okc_7_261, List.forall_mem_cons.mpr ⟨okc_7_264, List.forall_mem_cons.mpr ⟨okc_7_267, List.forall_mem_cons.mpr ⟨okc_7_270, List.forall_mem_cons.mpr ⟨okc_7_273, List.forall_mem_cons.mpr ⟨okc_7_279, List.forall_mem_cons.mpr ⟨okc_7_283, List.forall_mem_cons.mpr ⟨okc_7_300, List.forall_mem_cons.mpr ⟨okc_7_297, List.forall_mem_cons.mpr ⟨okc_7_303, List.forall_mem_cons.mpr ⟨okc_7_306, List.forall_mem_cons.mpr ⟨okc_7_309, List.forall_mem_cons.mpr ⟨okc_7_312, List.forall_mem_cons.mpr ⟨okc_7_318, List.forall_mem_cons.mpr ⟨okc_7_321, fun _ h => absurd h List.not_mem_nil⟩⟩⟩⟩⟩⟩⟩⟩⟩⟩⟩⟩⟩⟩⟩⟩⟩⟩⟩⟩⟩⟩⟩⟩⟩⟩⟩⟩⟩⟩⟩⟩⟩⟩⟩⟩⟩⟩⟩⟩⟩⟩⟩⟩⟩⟩⟩⟩⟩⟩⟩
theorem okF_7 : ∀ e ∈ rFT_7, okF RX7 e := List.forall_mem_cons.mpr ⟨(show okF RX7 (97, 7, 0) from ⟨_, rfl, Nat.le_of_ble_eq_true rfl, List.mem_of_getElem? (i := 789) (by decide +kernel)⟩), List.forall_mem_cons.mpr ⟨(show okF RX7 (9, 7, 1) from ⟨_, rfl, Nat.le_of_ble_eq_true rfl, List.mem_of_getElem? (i := 790) (by decide +kernel)⟩), List.forall_mem_cons.mpr ⟨(show okF RX7 (15, 7, 2) from ⟨_, rfl, Nat.le_of_ble_eq_true rfl, List.mem_of_getElem? (i := 791) (by decide +kernel)⟩), List.forall_mem_cons.mpr ⟨(show okF RX7 (18, 7, 3) from ⟨_, rfl, Nat.le_of_ble_eq_true rfl, List.mem_of_getElem? (i := 792) (by decide +kernel)⟩), List.forall_mem_cons.mpr ⟨(show okF RX7 (142, 7, 4) from ⟨_, rfl, Nat.le_of_ble_eq_true rfl, List.mem_of_getElem? (i := 793) (by decide +kernel)⟩), List.forall_mem_cons.mpr ⟨(show okF RX7 (21, 7, 5) from ⟨_, rfl, Nat.le_of_ble_eq_true rfl, List.mem_of_getElem? (i := 794) (by decide +kernel)⟩), List.forall_mem_cons.mpr ⟨(show okF RX7 (196, 7, 6) from ⟨_, rfl, Nat.le_of_ble_eq_true rfl, List.mem_of_getElem? (i := 795) (by decide +kernel)⟩), List.forall_mem_cons.mpr ⟨(show okF RX7 (200, 7, 7) from ⟨_, rfl, Nat.le_of_ble_eq_true rfl, List.mem_of_getElem? (i := 796) (by decide +kernel)⟩), List.forall_mem_cons.mpr ⟨(show okF RX7 (24, 7, 8) from ⟨_, rfl, Nat.le_of_ble_eq_true rfl, List.mem_of_getElem? (i := 797) (by decide +kernel)⟩), List.forall_mem_cons.mpr ⟨(show okF RX7 (27, 7, 9) from ⟨_, rfl, Nat.le_of_ble_eq_true rfl, List.mem_of_getElem? (i := 798) (by decide +kernel)⟩), List.forall_mem_cons.mpr ⟨(show okF RX7 (30, 7, 10) from ⟨_, rfl, Nat.le_of_ble_eq_true rfl, List.mem_of_getElem? (i := 799) (by decide +kernel)⟩), List.forall_mem_cons.mpr ⟨(show okF RX7 (33, 7, 11) from ⟨_, rfl, Nat.le_of_ble_eq_true rfl, List.mem_of_getElem? (i := 800) (by decide +kernel)⟩), List.forall_mem_cons.mpr ⟨(show okF RX7 (145, 7, 12) from ⟨_, rfl, Nat.le_of_ble_eq_true rfl, List.mem_of_getElem? (i := 801) (by decide +kernel)⟩), List.forall_mem_cons.mpr ⟨(show okF RX7 (166, 7, 13) from ⟨_, rfl, Nat.le_of_ble_eq_true rfl, List.mem_of_getElem? (i := 802) (by decide +kernel)⟩), List.forall_mem_cons.mpr ⟨(show okF RX7 (152, 7, 14) from ⟨_, rfl, Nat.le_of_ble_eq_true rfl, List.mem_of_getElem? (i := 803) (by decide +kernel)⟩), List.forall_mem_cons.mpr ⟨(show okF RX7 (190, 7, 15) from ⟨_, rfl, Nat.le_of_ble_eq_true rfl, List.mem_of_getElem? (i := 804) (by decide +kernel)⟩), List.forall_mem_cons.mpr ⟨(show okF RX7 (36, 7, 16) from ⟨_, rfl, Nat.le_of_ble_eq_true rfl, List.mem_of_getElem? (i := 805) (by decide +kernel)⟩), List.forall_mem_cons.mpr ⟨(show okF RX7 (39, 7, 17) from ⟨_, rfl, Nat.le_of_ble_eq_true rfl, List.mem_of_getElem? (i := 806) (by decide +kernel)⟩), List.forall_mem_cons.mpr ⟨(show okF RX7 (42, 7, 18) from ⟨_, rfl, Nat.le_of_ble_eq_true rfl, List.mem_of_getElem? (i := 807) (by decide +kernel)⟩), List.forall_mem_cons.mpr ⟨(show okF RX7 (45, 7, 19) from ⟨_, rfl, Nat.le_of_ble_eq_true rfl, List.mem_of_getElem? (i := 808) (by decide +kernel)⟩), List.forall_mem_cons.mpr ⟨(show okF RX7 (48, 7, 20) from ⟨_, rfl, Nat.le_of_ble_eq_true rfl, List.mem_of_getElem? (i := 809) (by decide +kernel)⟩), List.forall_mem_cons.mpr ⟨(show okF RX7 (51, 7, 21) from ⟨_, rfl, Nat.le_of_ble_eq_true rfl, List.mem_of_getElem? (i := 810) (by decide +kernel)⟩), List.forall_mem_cons.mpr ⟨(show okF RX7 (54, 7, 22) from ⟨_, rfl, Nat.le_of_ble_eq_true rfl, List.mem_of_getElem? (i := 811) (by decide +kernel)⟩), List.forall_mem_cons.mpr ⟨(show okF RX7 (288, 7, 23) from ⟨_, rfl, Nat.le_of_ble_eq_true rfl, List.mem_of_getElem? (i := 812) (by decide +kernel)⟩), List.forall_mem_cons.mpr ⟨(show okF RX7 (291, 7, 24) from ⟨_, rfl, Nat.le_of_ble_eq_true rfl, List.mem_of_getElem? (i := 813) (by decide +kernel)⟩), List.forall_mem_cons.mpr ⟨(show okF RX7 (57, 7, 25) from ⟨_, rfl, Nat.le_of_ble_eq_true rfl, List.mem_of_getElem? (i := 814) (by decide +kernel)⟩), List.forall_mem_cons.mpr ⟨(show okF RX7 (60, 7, 26) from ⟨_, rfl, Nat.le_of_ble_eq_true rfl, List.mem_of_getElem? (i := 815) (by decide +kernel)⟩), List.forall_mem_cons.mpr ⟨(show okF RX7 (139, 7, 27) from ⟨_, rfl, Nat.le_of_ble_eq_true rfl, List.mem_of_getElem? (i := 816) (by decide +kernel)⟩), List.forall_mem_cons.mpr ⟨(show okF RX7 (136, 7, 28) from ⟨_, rfl, Nat.le_of_ble_eq_true rfl, List.mem_of_getElem? (i := 817) (by decide +kernel)⟩), List.forall_mem_cons.mpr ⟨(show okF RX7 (63, 7, 29) from ⟨_, rfl, Nat.le_of_ble_eq_true rfl, List.mem_of_getElem? (i := 818) (by decide +kernel)⟩), List.forall_mem_cons.mpr ⟨(show okF RX7 (315, 7, 30) from ⟨_, rfl, Nat.le_of_ble_eq_true rfl, List.mem_of_getElem? (i := 819) (by decide +kernel)⟩), List.forall_mem_cons.mpr ⟨(show okF RX7 (66, 7, 31) from ⟨_, rfl, Nat.le_of_ble_eq_true rfl, List.mem_of_getElem? (i := 820) (by decide +kernel)⟩), List.forall_mem_cons.mpr ⟨(show okF RX7 (294, 7, 32) from ⟨_, rfl, Nat.le_of_ble_eq_true rfl, List.mem_of_getElem? (i := 821) (by decide +kernel)⟩), List.forall_mem_cons.mpr ⟨(show okF RX7 (69, 7, 33) from ⟨_, rfl, Nat.le_of_ble_eq_true rfl, List.mem_of_getElem? (i := 822) (by decide +kernel)⟩), List.forall_mem_cons.mpr ⟨(show okF RX7 (72, 7, 34) from ⟨_, rfl, Nat.le_of_ble_eq_true rfl, List.mem_of_getElem? (i := 823) (by decide +kernel)⟩), List.forall_mem_cons.mpr ⟨(show okF RX7 (75, 7, 35) from ⟨_, rfl, Nat.le_of_ble_eq_true rfl, List.mem_of_getElem? (i := 824) (by decide +kernel)⟩), List.forall_mem_cons.mpr ⟨(show okF RX7 (78, 7, 36) from ⟨_, rfl, Nat.le_of_ble_eq_true rfl, List.mem_of_getElem? (i := 825) (by decide +kernel)⟩), List.forall_mem_cons.mpr ⟨(show okF RX7 (82, 7, 37) from ⟨_, rfl, Nat.le_of_ble_eq_true rfl, List.mem_of_getElem? (i := 826) (by decide +kernel)⟩), List.forall_mem_cons.mpr ⟨(show okF RX7 (85, 7, 38) from ⟨_, rfl, Nat.le_of_ble_eq_true rfl, List.mem_of_getElem? (i := 827) (by decide +kernel)⟩), List.forall_mem_cons.mpr ⟨(show okF RX7 (88, 7, 39) from ⟨_, rfl, Nat.le_of_ble_eq_true rfl, List.mem_of_getElem? (i := 828) (by decide +kernel)⟩), List.forall_mem_cons.mpr ⟨(show okF RX7 (91, 7, 40) from ⟨_, rfl, Nat.le_of_ble_eq_true rfl, List.mem_of_getElem? (i := 829) (by decide +kernel)⟩), List.forall_mem_cons.mpr ⟨(show okF RX7 (94, 7, 41) from ⟨_, rfl, Nat.le_of_ble_eq_true rfl, List.mem_of_getElem? (i := 830) (by decide +kernel)⟩), fun _ h => absurd h List.not_mem_nil⟩⟩⟩⟩⟩⟩⟩⟩⟩⟩⟩⟩⟩⟩⟩⟩⟩⟩⟩⟩⟩⟩⟩⟩⟩⟩⟩⟩⟩⟩⟩⟩⟩⟩⟩⟩⟩⟩⟩⟩⟩⟩
theorem okS_7 : ∀ e ∈ rST_7, okS RX7 e := fun _ h => absurd h List.not_mem_nil
theorem okKI_7 : ∀ e ∈ rKI_7, okKI RX7 e := List.forall_mem_cons.mpr ⟨(show okKI RX7 (278, -2000000000) from List.mem_of_getElem? (i := 1156) (by decide +kernel)), List.forall_mem_cons.mpr ⟨(show okKI RX7 (287, 1103515245) from List.mem_of_getElem? (i := 1173) (by decide +kernel)), fun _ h => absurd h List.not_mem_nil⟩⟩
theorem okKL_7 : ∀ e ∈ rKL_7, okKL RX7 e := List.forall_mem_cons.mpr ⟨(show okKL RX7 (113, 3) from List.mem_of_getElem? (i := 934) (by decide +kernel)), List.forall_mem_cons.mpr ⟨(show okKL RX7 (276, -9223372036854775808) from List.mem_of_getElem? (i := 1151) (by decide +kernel)), fun _ h => absurd h List.not_mem_nil⟩⟩
theorem okN_7 : ∀ e ∈ rNW_7, okN RX7 e := fun _ h => absurd h List.not_mem_nil
theorem okO_7 : ∀ e ∈ rOI_7, okO RX7 e := List.forall_mem_cons.mpr ⟨(show okO RX7 3 from List.mem_of_getElem? (i := 788) (by decide +kernel)), fun _ h => absurd h List.not_mem_nil⟩
theorem okX_7 : ∀ e ∈ rMX_7, okX RX7 e := List.forall_mem_cons.mpr ⟨(show okX RX7 217 from List.mem_of_getElem? (i := 1049) (by decide +kernel)), fun _ h => absurd h List.not_mem_nil⟩
theorem okI_7 : ∀ e ∈ rMN_7, okI RX7 e := List.forall_mem_cons.mpr ⟨(show okI RX7 212 from List.mem_of_getElem? (i := 1048) (by decide +kernel)), fun _ h => absurd h List.not_mem_nil⟩
theorem okY_7 : ∀ e ∈ rAC_7, okY RX7 e := fun _ h => absurd h List.not_mem_nil
theorem okC_8 : ∀ e ∈ rCT_8, okC RJ6 e := fun _ h => absurd h List.not_mem_nil
theorem okF_8 : ∀ e ∈ rFT_8, okF RJ6 e := fun _ h => absurd h List.not_mem_nil
theorem okS_8 : ∀ e ∈ rST_8, okS RJ6 e := fun _ h => absurd h List.not_mem_nil
theorem okKI_8 : ∀ e ∈ rKI_8, okKI RJ6 e := List.forall_mem_cons.mpr ⟨(show okKI RJ6 (264, 65536) from List.mem_of_getElem? (i := 533) (by decide +kernel)), List.forall_mem_cons.mpr ⟨(show okKI RJ6 (265, 1431655765) from List.mem_of_getElem? (i := 565) (by decide +kernel)), List.forall_mem_cons.mpr ⟨(show okKI RJ6 (266, 858993459) from List.mem_of_getElem? (i := 566) (by decide +kernel)), List.forall_mem_cons.mpr ⟨(show okKI RJ6 (267, 252645135) from List.mem_of_getElem? (i := 567) (by decide +kernel)), fun _ h => absurd h List.not_mem_nil⟩⟩⟩⟩
theorem okKL_8 : ∀ e ∈ rKL_8, okKL RJ6 e := fun _ h => absurd h List.not_mem_nil
theorem okN_8 : ∀ e ∈ rNW_8, okN RJ6 e := fun _ h => absurd h List.not_mem_nil
theorem okO_8 : ∀ e ∈ rOI_8, okO RJ6 e := fun _ h => absurd h List.not_mem_nil
theorem okX_8 : ∀ e ∈ rMX_8, okX RJ6 e := fun _ h => absurd h List.not_mem_nil
theorem okI_8 : ∀ e ∈ rMN_8, okI RJ6 e := fun _ h => absurd h List.not_mem_nil
theorem okY_8 : ∀ e ∈ rAC_8, okY RJ6 e := fun _ h => absurd h List.not_mem_nil
theorem okC_9 : ∀ e ∈ rCT_9, okC RJ9 e := fun _ h => absurd h List.not_mem_nil
theorem okF_9 : ∀ e ∈ rFT_9, okF RJ9 e := fun _ h => absurd h List.not_mem_nil
theorem okS_9 : ∀ e ∈ rST_9, okS RJ9 e := fun _ h => absurd h List.not_mem_nil
theorem okKI_9 : ∀ e ∈ rKI_9, okKI RJ9 e := fun _ h => absurd h List.not_mem_nil
theorem okKL_9 : ∀ e ∈ rKL_9, okKL RJ9 e := fun _ h => absurd h List.not_mem_nil
theorem okN_9 : ∀ e ∈ rNW_9, okN RJ9 e := fun _ h => absurd h List.not_mem_nil
theorem okO_9 : ∀ e ∈ rOI_9, okO RJ9 e := fun _ h => absurd h List.not_mem_nil
theorem okX_9 : ∀ e ∈ rMX_9, okX RJ9 e := fun _ h => absurd h List.not_mem_nil
theorem okI_9 : ∀ e ∈ rMN_9, okI RJ9 e := fun _ h => absurd h List.not_mem_nil
theorem okY_9 : ∀ e ∈ rAC_9, okY RJ9 e := fun _ h => absurd h List.not_mem_nil
theorem okiX6_init : Cond.instanceMethod yX6_init ∈ lw_tbl := List.mem_of_getElem? (i := 81) (by decide +kernel)
theorem okdX6_init : (parseMethodDescriptor yX6_init.desc).map (fun d => d.parameters.length + 1) = some 1 := by decide +kernel
theorem okc_10_9 : okC RL (9, 3, mX6_init) := ⟨okpX6_init, fun h => absurd h (by decide), fun h => absurd h (by decide), fun h => absurd h (by decide), fun _ => ⟨List.mem_of_getElem? (i := 80) (by decide +kernel), okiX6_init, rfl, rfl, okdX6_init⟩⟩
theorem okiX6_reach : Cond.instanceMethod yX6_reach ∈ lw_tbl := List.mem_of_getElem? (i := 287) (by decide +kernel)
theorem okxX6_reach : Cond.selects yX6_reach.cls yX6_reach yX6_reach ∈ lw_tbl := List.mem_of_getElem? (i := 288) (by decide +kernel)
theorem okdX6_reach : (parseMethodDescriptor yX6_reach.desc).map (fun d => d.parameters.length + 1) = some 2 := by decide +kernel
theorem okc_10_13 : okC RL (13, 0, mX6_reach) := ⟨okpX6_reach, fun _ => ⟨List.mem_of_getElem? (i := 286) (by decide +kernel), okiX6_reach, okxX6_reach, okdX6_reach, _, rfl, rfl⟩, fun h => absurd h (by decide), fun h => absurd h (by decide), fun h => absurd h (by decide)⟩
theorem okiX6_reaches : Cond.instanceMethod yX6_reaches ∈ lw_tbl := List.mem_of_getElem? (i := 307) (by decide +kernel)
theorem okxX6_reaches : Cond.selects yX6_reaches.cls yX6_reaches yX6_reaches ∈ lw_tbl := List.mem_of_getElem? (i := 308) (by decide +kernel)
theorem okdX6_reaches : (parseMethodDescriptor yX6_reaches.desc).map (fun d => d.parameters.length + 1) = some 4 := by decide +kernel
theorem okc_10_18 : okC RL (18, 0, mX6_reaches) := ⟨okpX6_reaches, fun _ => ⟨List.mem_of_getElem? (i := 306) (by decide +kernel), okiX6_reaches, okxX6_reaches, okdX6_reaches, _, rfl, rfl⟩, fun h => absurd h (by decide), fun h => absurd h (by decide), fun h => absurd h (by decide)⟩
theorem okiX6_mend : Cond.instanceMethod yX6_mend ∈ lw_tbl := List.mem_of_getElem? (i := 334) (by decide +kernel)
theorem okxX6_mend : Cond.selects yX6_mend.cls yX6_mend yX6_mend ∈ lw_tbl := List.mem_of_getElem? (i := 335) (by decide +kernel)
theorem okdX6_mend : (parseMethodDescriptor yX6_mend.desc).map (fun d => d.parameters.length + 1) = some 4 := by decide +kernel
theorem okc_10_23 : okC RL (23, 0, mX6_mend) := ⟨okpX6_mend, fun _ => ⟨List.mem_of_getElem? (i := 333) (by decide +kernel), okiX6_mend, okxX6_mend, okdX6_mend, _, rfl, rfl⟩, fun h => absurd h (by decide), fun h => absurd h (by decide), fun h => absurd h (by decide)⟩
theorem okiX6_of : Cond.instanceMethod yX6_of ∈ lw_tbl := List.mem_of_getElem? (i := 367) (by decide +kernel)
theorem okxX6_of : Cond.selects yX6_of.cls yX6_of yX6_of ∈ lw_tbl := List.mem_of_getElem? (i := 368) (by decide +kernel)
theorem okdX6_of : (parseMethodDescriptor yX6_of.desc).map (fun d => d.parameters.length + 1) = some 3 := by decide +kernel
theorem okc_10_27 : okC RL (27, 0, mX6_of) := ⟨okpX6_of, fun _ => ⟨List.mem_of_getElem? (i := 366) (by decide +kernel), okiX6_of, okxX6_of, okdX6_of, _, rfl, rfl⟩, fun h => absurd h (by decide), fun h => absurd h (by decide), fun h => absurd h (by decide)⟩
theorem okiX6_feed : Cond.instanceMethod yX6_feed ∈ lw_tbl := List.mem_of_getElem? (i := 371) (by decide +kernel)
theorem okxX6_feed : Cond.selects yX6_feed.cls yX6_feed yX6_feed ∈ lw_tbl := List.mem_of_getElem? (i := 372) (by decide +kernel)
theorem okdX6_feed : (parseMethodDescriptor yX6_feed.desc).map (fun d => d.parameters.length + 1) = some 2 := by decide +kernel
theorem okc_10_32 : okC RL (32, 0, mX6_feed) := ⟨okpX6_feed, fun _ => ⟨List.mem_of_getElem? (i := 370) (by decide +kernel), okiX6_feed, okxX6_feed, okdX6_feed, _, rfl, rfl⟩, fun h => absurd h (by decide), fun h => absurd h (by decide), fun h => absurd h (by decide)⟩
theorem okiX6_law : Cond.instanceMethod yX6_law ∈ lw_tbl := List.mem_of_getElem? (i := 379) (by decide +kernel)
theorem okxX6_law : Cond.selects yX6_law.cls yX6_law yX6_law ∈ lw_tbl := List.mem_of_getElem? (i := 380) (by decide +kernel)
theorem okdX6_law : (parseMethodDescriptor yX6_law.desc).map (fun d => d.parameters.length + 1) = some 1 := by decide +kernel
theorem okc_10_36 : okC RL (36, 0, mX6_law) := ⟨okpX6_law, fun _ => ⟨List.mem_of_getElem? (i := 378) (by decide +kernel), okiX6_law, okxX6_law, okdX6_law, _, rfl, rfl⟩, fun h => absurd h (by decide), fun h => absurd h (by decide), fun h => absurd h (by decide)⟩
theorem okiX6_goes : Cond.instanceMethod yX6_goes ∈ lw_tbl := List.mem_of_getElem? (i := 453) (by decide +kernel)
theorem okxX6_goes : Cond.selects yX6_goes.cls yX6_goes yX6_goes ∈ lw_tbl := List.mem_of_getElem? (i := 454) (by decide +kernel)
theorem okdX6_goes : (parseMethodDescriptor yX6_goes.desc).map (fun d => d.parameters.length + 1) = some 2 := by decide +kernel
theorem okc_10_41 : okC RL (41, 0, mX6_goes) := ⟨okpX6_goes, fun _ => ⟨List.mem_of_getElem? (i := 452) (by decide +kernel), okiX6_goes, okxX6_goes, okdX6_goes, _, rfl, rfl⟩, fun h => absurd h (by decide), fun h => absurd h (by decide), fun h => absurd h (by decide)⟩
theorem okiX6_later : Cond.instanceMethod yX6_later ∈ lw_tbl := List.mem_of_getElem? (i := 489) (by decide +kernel)
theorem okxX6_later : Cond.selects yX6_later.cls yX6_later yX6_later ∈ lw_tbl := List.mem_of_getElem? (i := 490) (by decide +kernel)
theorem okdX6_later : (parseMethodDescriptor yX6_later.desc).map (fun d => d.parameters.length + 1) = some 4 := by decide +kernel
theorem okc_10_45 : okC RL (45, 0, mX6_later) := ⟨okpX6_later, fun _ => ⟨List.mem_of_getElem? (i := 488) (by decide +kernel), okiX6_later, okxX6_later, okdX6_later, _, rfl, rfl⟩, fun h => absurd h (by decide), fun h => absurd h (by decide), fun h => absurd h (by decide)⟩
theorem okiX6_river : Cond.instanceMethod yX6_river ∈ lw_tbl := List.mem_of_getElem? (i := 515) (by decide +kernel)
theorem okxX6_river : Cond.selects yX6_river.cls yX6_river yX6_river ∈ lw_tbl := List.mem_of_getElem? (i := 516) (by decide +kernel)
theorem okdX6_river : (parseMethodDescriptor yX6_river.desc).map (fun d => d.parameters.length + 1) = some 3 := by decide +kernel
theorem okc_10_49 : okC RL (49, 0, mX6_river) := ⟨okpX6_river, fun _ => ⟨List.mem_of_getElem? (i := 514) (by decide +kernel), okiX6_river, okxX6_river, okdX6_river, _, rfl, rfl⟩, fun h => absurd h (by decide), fun h => absurd h (by decide), fun h => absurd h (by decide)⟩
theorem okiX6_over : Cond.instanceMethod yX6_over ∈ lw_tbl := List.mem_of_getElem? (i := 527) (by decide +kernel)
theorem okxX6_over : Cond.selects yX6_over.cls yX6_over yX6_over ∈ lw_tbl := List.mem_of_getElem? (i := 528) (by decide +kernel)
theorem okdX6_over : (parseMethodDescriptor yX6_over.desc).map (fun d => d.parameters.length + 1) = some 2 := by decide +kernel
theorem okc_10_53 : okC RL (53, 0, mX6_over) := ⟨okpX6_over, fun _ => ⟨List.mem_of_getElem? (i := 526) (by decide +kernel), okiX6_over, okxX6_over, okdX6_over, _, rfl, rfl⟩, fun h => absurd h (by decide), fun h => absurd h (by decide), fun h => absurd h (by decide)⟩
theorem okiX6_signs : Cond.instanceMethod yX6_signs ∈ lw_tbl := List.mem_of_getElem? (i := 535) (by decide +kernel)
theorem okxX6_signs : Cond.selects yX6_signs.cls yX6_signs yX6_signs ∈ lw_tbl := List.mem_of_getElem? (i := 536) (by decide +kernel)
theorem okdX6_signs : (parseMethodDescriptor yX6_signs.desc).map (fun d => d.parameters.length + 1) = some 4 := by decide +kernel
theorem okc_10_57 : okC RL (57, 0, mX6_signs) := ⟨okpX6_signs, fun _ => ⟨List.mem_of_getElem? (i := 534) (by decide +kernel), okiX6_signs, okxX6_signs, okdX6_signs, _, rfl, rfl⟩, fun h => absurd h (by decide), fun h => absurd h (by decide), fun h => absurd h (by decide)⟩
theorem okiX6_still : Cond.instanceMethod yX6_still ∈ lw_tbl := List.mem_of_getElem? (i := 539) (by decide +kernel)
theorem okxX6_still : Cond.selects yX6_still.cls yX6_still yX6_still ∈ lw_tbl := List.mem_of_getElem? (i := 540) (by decide +kernel)
theorem okdX6_still : (parseMethodDescriptor yX6_still.desc).map (fun d => d.parameters.length + 1) = some 1 := by decide +kernel
theorem okc_10_61 : okC RL (61, 0, mX6_still) := ⟨okpX6_still, fun _ => ⟨List.mem_of_getElem? (i := 538) (by decide +kernel), okiX6_still, okxX6_still, okdX6_still, _, rfl, rfl⟩, fun h => absurd h (by decide), fun h => absurd h (by decide), fun h => absurd h (by decide)⟩
theorem okiX6_throwIn : Cond.instanceMethod yX6_throwIn ∈ lw_tbl := List.mem_of_getElem? (i := 547) (by decide +kernel)
theorem okxX6_throwIn : Cond.selects yX6_throwIn.cls yX6_throwIn yX6_throwIn ∈ lw_tbl := List.mem_of_getElem? (i := 548) (by decide +kernel)
theorem okdX6_throwIn : (parseMethodDescriptor yX6_throwIn.desc).map (fun d => d.parameters.length + 1) = some 3 := by decide +kernel
theorem okc_10_65 : okC RL (65, 0, mX6_throwIn) := ⟨okpX6_throwIn, fun _ => ⟨List.mem_of_getElem? (i := 546) (by decide +kernel), okiX6_throwIn, okxX6_throwIn, okdX6_throwIn, _, rfl, rfl⟩, fun h => absurd h (by decide), fun h => absurd h (by decide), fun h => absurd h (by decide)⟩
theorem okiX6_bridges : Cond.instanceMethod yX6_bridges ∈ lw_tbl := List.mem_of_getElem? (i := 555) (by decide +kernel)
theorem okxX6_bridges : Cond.selects yX6_bridges.cls yX6_bridges yX6_bridges ∈ lw_tbl := List.mem_of_getElem? (i := 556) (by decide +kernel)
theorem okdX6_bridges : (parseMethodDescriptor yX6_bridges.desc).map (fun d => d.parameters.length + 1) = some 3 := by decide +kernel
theorem okc_10_69 : okC RL (69, 0, mX6_bridges) := ⟨okpX6_bridges, fun _ => ⟨List.mem_of_getElem? (i := 554) (by decide +kernel), okiX6_bridges, okxX6_bridges, okdX6_bridges, _, rfl, rfl⟩, fun h => absurd h (by decide), fun h => absurd h (by decide), fun h => absurd h (by decide)⟩
theorem okiX6_ring : Cond.instanceMethod yX6_ring ∈ lw_tbl := List.mem_of_getElem? (i := 569) (by decide +kernel)
theorem okxX6_ring : Cond.selects yX6_ring.cls yX6_ring yX6_ring ∈ lw_tbl := List.mem_of_getElem? (i := 570) (by decide +kernel)
theorem okdX6_ring : (parseMethodDescriptor yX6_ring.desc).map (fun d => d.parameters.length + 1) = some 3 := by decide +kernel
theorem okc_10_73 : okC RL (73, 0, mX6_ring) := ⟨okpX6_ring, fun _ => ⟨List.mem_of_getElem? (i := 568) (by decide +kernel), okiX6_ring, okxX6_ring, okdX6_ring, _, rfl, rfl⟩, fun h => absurd h (by decide), fun h => absurd h (by decide), fun h => absurd h (by decide)⟩
theorem okiX6_judge : Cond.instanceMethod yX6_judge ∈ lw_tbl := List.mem_of_getElem? (i := 573) (by decide +kernel)
theorem okxX6_judge : Cond.selects yX6_judge.cls yX6_judge yX6_judge ∈ lw_tbl := List.mem_of_getElem? (i := 574) (by decide +kernel)
theorem okdX6_judge : (parseMethodDescriptor yX6_judge.desc).map (fun d => d.parameters.length + 1) = some 3 := by decide +kernel
theorem okc_10_77 : okC RL (77, 0, mX6_judge) := ⟨okpX6_judge, fun _ => ⟨List.mem_of_getElem? (i := 572) (by decide +kernel), okiX6_judge, okxX6_judge, okdX6_judge, _, rfl, rfl⟩, fun h => absurd h (by decide), fun h => absurd h (by decide), fun h => absurd h (by decide)⟩
theorem okiX6_fits : Cond.instanceMethod yX6_fits ∈ lw_tbl := List.mem_of_getElem? (i := 581) (by decide +kernel)
theorem okxX6_fits : Cond.selects yX6_fits.cls yX6_fits yX6_fits ∈ lw_tbl := List.mem_of_getElem? (i := 582) (by decide +kernel)
theorem okdX6_fits : (parseMethodDescriptor yX6_fits.desc).map (fun d => d.parameters.length + 1) = some 5 := by decide +kernel
theorem okc_10_81 : okC RL (81, 0, mX6_fits) := ⟨okpX6_fits, fun _ => ⟨List.mem_of_getElem? (i := 580) (by decide +kernel), okiX6_fits, okxX6_fits, okdX6_fits, _, rfl, rfl⟩, fun h => absurd h (by decide), fun h => absurd h (by decide), fun h => absurd h (by decide)⟩
theorem okiX6_hears : Cond.instanceMethod yX6_hears ∈ lw_tbl := List.mem_of_getElem? (i := 588) (by decide +kernel)
theorem okxX6_hears : Cond.selects yX6_hears.cls yX6_hears yX6_hears ∈ lw_tbl := List.mem_of_getElem? (i := 589) (by decide +kernel)
theorem okdX6_hears : (parseMethodDescriptor yX6_hears.desc).map (fun d => d.parameters.length + 1) = some 3 := by decide +kernel
theorem okc_10_86 : okC RL (86, 0, mX6_hears) := ⟨okpX6_hears, fun _ => ⟨List.mem_of_getElem? (i := 587) (by decide +kernel), okiX6_hears, okxX6_hears, okdX6_hears, _, rfl, rfl⟩, fun h => absurd h (by decide), fun h => absurd h (by decide), fun h => absurd h (by decide)⟩
theorem okiX6_odd : Cond.instanceMethod yX6_odd ∈ lw_tbl := List.mem_of_getElem? (i := 599) (by decide +kernel)
theorem okxX6_odd : Cond.selects yX6_odd.cls yX6_odd yX6_odd ∈ lw_tbl := List.mem_of_getElem? (i := 600) (by decide +kernel)
theorem okdX6_odd : (parseMethodDescriptor yX6_odd.desc).map (fun d => d.parameters.length + 1) = some 3 := by decide +kernel
theorem okc_10_91 : okC RL (91, 0, mX6_odd) := ⟨okpX6_odd, fun _ => ⟨List.mem_of_getElem? (i := 598) (by decide +kernel), okiX6_odd, okxX6_odd, okdX6_odd, _, rfl, rfl⟩, fun h => absurd h (by decide), fun h => absurd h (by decide), fun h => absurd h (by decide)⟩
theorem okiX6_byTurns : Cond.instanceMethod yX6_byTurns ∈ lw_tbl := List.mem_of_getElem? (i := 604) (by decide +kernel)
theorem okxX6_byTurns : Cond.selects yX6_byTurns.cls yX6_byTurns yX6_byTurns ∈ lw_tbl := List.mem_of_getElem? (i := 605) (by decide +kernel)
theorem okdX6_byTurns : (parseMethodDescriptor yX6_byTurns.desc).map (fun d => d.parameters.length + 1) = some 4 := by decide +kernel
theorem okc_10_95 : okC RL (95, 0, mX6_byTurns) := ⟨okpX6_byTurns, fun _ => ⟨List.mem_of_getElem? (i := 603) (by decide +kernel), okiX6_byTurns, okxX6_byTurns, okdX6_byTurns, _, rfl, rfl⟩, fun h => absurd h (by decide), fun h => absurd h (by decide), fun h => absurd h (by decide)⟩
theorem okiX6_drawn : Cond.instanceMethod yX6_drawn ∈ lw_tbl := List.mem_of_getElem? (i := 620) (by decide +kernel)
theorem okxX6_drawn : Cond.selects yX6_drawn.cls yX6_drawn yX6_drawn ∈ lw_tbl := List.mem_of_getElem? (i := 621) (by decide +kernel)
theorem okdX6_drawn : (parseMethodDescriptor yX6_drawn.desc).map (fun d => d.parameters.length + 1) = some 4 := by decide +kernel
theorem okc_10_99 : okC RL (99, 0, mX6_drawn) := ⟨okpX6_drawn, fun _ => ⟨List.mem_of_getElem? (i := 619) (by decide +kernel), okiX6_drawn, okxX6_drawn, okdX6_drawn, _, rfl, rfl⟩, fun h => absurd h (by decide), fun h => absurd h (by decide), fun h => absurd h (by decide)⟩
theorem okiX6_day : Cond.instanceMethod yX6_day ∈ lw_tbl := List.mem_of_getElem? (i := 625) (by decide +kernel)
theorem okxX6_day : Cond.selects yX6_day.cls yX6_day yX6_day ∈ lw_tbl := List.mem_of_getElem? (i := 626) (by decide +kernel)
theorem okdX6_day : (parseMethodDescriptor yX6_day.desc).map (fun d => d.parameters.length + 1) = some 1 := by decide +kernel
theorem okc_10_103 : okC RL (103, 0, mX6_day) := ⟨okpX6_day, fun _ => ⟨List.mem_of_getElem? (i := 624) (by decide +kernel), okiX6_day, okxX6_day, okdX6_day, _, rfl, rfl⟩, fun h => absurd h (by decide), fun h => absurd h (by decide), fun h => absurd h (by decide)⟩
theorem okiX6_gift : Cond.instanceMethod yX6_gift ∈ lw_tbl := List.mem_of_getElem? (i := 629) (by decide +kernel)
theorem okxX6_gift : Cond.selects yX6_gift.cls yX6_gift yX6_gift ∈ lw_tbl := List.mem_of_getElem? (i := 630) (by decide +kernel)
theorem okdX6_gift : (parseMethodDescriptor yX6_gift.desc).map (fun d => d.parameters.length + 1) = some 3 := by decide +kernel
theorem okc_10_107 : okC RL (107, 0, mX6_gift) := ⟨okpX6_gift, fun _ => ⟨List.mem_of_getElem? (i := 628) (by decide +kernel), okiX6_gift, okxX6_gift, okdX6_gift, _, rfl, rfl⟩, fun h => absurd h (by decide), fun h => absurd h (by decide), fun h => absurd h (by decide)⟩
theorem okiX6_build : Cond.instanceMethod yX6_build ∈ lw_tbl := List.mem_of_getElem? (i := 633) (by decide +kernel)
theorem okxX6_build : Cond.selects yX6_build.cls yX6_build yX6_build ∈ lw_tbl := List.mem_of_getElem? (i := 634) (by decide +kernel)
theorem okdX6_build : (parseMethodDescriptor yX6_build.desc).map (fun d => d.parameters.length + 1) = some 3 := by decide +kernel
theorem okc_10_111 : okC RL (111, 0, mX6_build) := ⟨okpX6_build, fun _ => ⟨List.mem_of_getElem? (i := 632) (by decide +kernel), okiX6_build, okxX6_build, okdX6_build, _, rfl, rfl⟩, fun h => absurd h (by decide), fun h => absurd h (by decide), fun h => absurd h (by decide)⟩
theorem okiX6_led : Cond.instanceMethod yX6_led ∈ lw_tbl := List.mem_of_getElem? (i := 637) (by decide +kernel)
theorem okxX6_led : Cond.selects yX6_led.cls yX6_led yX6_led ∈ lw_tbl := List.mem_of_getElem? (i := 638) (by decide +kernel)
theorem okdX6_led : (parseMethodDescriptor yX6_led.desc).map (fun d => d.parameters.length + 1) = some 2 := by decide +kernel
theorem okc_10_115 : okC RL (115, 0, mX6_led) := ⟨okpX6_led, fun _ => ⟨List.mem_of_getElem? (i := 636) (by decide +kernel), okiX6_led, okxX6_led, okdX6_led, _, rfl, rfl⟩, fun h => absurd h (by decide), fun h => absurd h (by decide), fun h => absurd h (by decide)⟩
theorem okiX6_image : Cond.instanceMethod yX6_image ∈ lw_tbl := List.mem_of_getElem? (i := 641) (by decide +kernel)
theorem okxX6_image : Cond.selects yX6_image.cls yX6_image yX6_image ∈ lw_tbl := List.mem_of_getElem? (i := 642) (by decide +kernel)
theorem okdX6_image : (parseMethodDescriptor yX6_image.desc).map (fun d => d.parameters.length + 1) = some 1 := by decide +kernel
theorem okc_10_119 : okC RL (119, 0, mX6_image) := ⟨okpX6_image, fun _ => ⟨List.mem_of_getElem? (i := 640) (by decide +kernel), okiX6_image, okxX6_image, okdX6_image, _, rfl, rfl⟩, fun h => absurd h (by decide), fun h => absurd h (by decide), fun h => absurd h (by decide)⟩
theorem okiX6_back : Cond.instanceMethod yX6_back ∈ lw_tbl := List.mem_of_getElem? (i := 646) (by decide +kernel)
theorem okxX6_back : Cond.selects yX6_back.cls yX6_back yX6_back ∈ lw_tbl := List.mem_of_getElem? (i := 647) (by decide +kernel)
theorem okdX6_back : (parseMethodDescriptor yX6_back.desc).map (fun d => d.parameters.length + 1) = some 1 := by decide +kernel
theorem okc_10_123 : okC RL (123, 0, mX6_back) := ⟨okpX6_back, fun _ => ⟨List.mem_of_getElem? (i := 645) (by decide +kernel), okiX6_back, okxX6_back, okdX6_back, _, rfl, rfl⟩, fun h => absurd h (by decide), fun h => absurd h (by decide), fun h => absurd h (by decide)⟩
theorem okiX6_undo : Cond.instanceMethod yX6_undo ∈ lw_tbl := List.mem_of_getElem? (i := 651) (by decide +kernel)
theorem okxX6_undo : Cond.selects yX6_undo.cls yX6_undo yX6_undo ∈ lw_tbl := List.mem_of_getElem? (i := 652) (by decide +kernel)
theorem okdX6_undo : (parseMethodDescriptor yX6_undo.desc).map (fun d => d.parameters.length + 1) = some 1 := by decide +kernel
theorem okc_10_127 : okC RL (127, 0, mX6_undo) := ⟨okpX6_undo, fun _ => ⟨List.mem_of_getElem? (i := 650) (by decide +kernel), okiX6_undo, okxX6_undo, okdX6_undo, _, rfl, rfl⟩, fun h => absurd h (by decide), fun h => absurd h (by decide), fun h => absurd h (by decide)⟩
theorem okiX6_redo : Cond.instanceMethod yX6_redo ∈ lw_tbl := List.mem_of_getElem? (i := 660) (by decide +kernel)
theorem okxX6_redo : Cond.selects yX6_redo.cls yX6_redo yX6_redo ∈ lw_tbl := List.mem_of_getElem? (i := 661) (by decide +kernel)
theorem okdX6_redo : (parseMethodDescriptor yX6_redo.desc).map (fun d => d.parameters.length + 1) = some 1 := by decide +kernel
theorem okc_10_131 : okC RL (131, 0, mX6_redo) := ⟨okpX6_redo, fun _ => ⟨List.mem_of_getElem? (i := 659) (by decide +kernel), okiX6_redo, okxX6_redo, okdX6_redo, _, rfl, rfl⟩, fun h => absurd h (by decide), fun h => absurd h (by decide), fun h => absurd h (by decide)⟩
theorem okiX6_body : Cond.instanceMethod yX6_body ∈ lw_tbl := List.mem_of_getElem? (i := 668) (by decide +kernel)
theorem okxX6_body : Cond.selects yX6_body.cls yX6_body yX6_body ∈ lw_tbl := List.mem_of_getElem? (i := 669) (by decide +kernel)
theorem okdX6_body : (parseMethodDescriptor yX6_body.desc).map (fun d => d.parameters.length + 1) = some 2 := by decide +kernel
theorem okc_10_135 : okC RL (135, 0, mX6_body) := ⟨okpX6_body, fun _ => ⟨List.mem_of_getElem? (i := 667) (by decide +kernel), okiX6_body, okxX6_body, okdX6_body, _, rfl, rfl⟩, fun h => absurd h (by decide), fun h => absurd h (by decide), fun h => absurd h (by decide)⟩
theorem okiX6_act : Cond.instanceMethod yX6_act ∈ lw_tbl := List.mem_of_getElem? (i := 684) (by decide +kernel)
theorem okxX6_act : Cond.selects yX6_act.cls yX6_act yX6_act ∈ lw_tbl := List.mem_of_getElem? (i := 685) (by decide +kernel)
theorem okdX6_act : (parseMethodDescriptor yX6_act.desc).map (fun d => d.parameters.length + 1) = some 4 := by decide +kernel
theorem okc_10_139 : okC RL (139, 0, mX6_act) := ⟨okpX6_act, fun _ => ⟨List.mem_of_getElem? (i := 683) (by decide +kernel), okiX6_act, okxX6_act, okdX6_act, _, rfl, rfl⟩, fun h => absurd h (by decide), fun h => absurd h (by decide), fun h => absurd h (by decide)⟩
theorem okiX6_trace : Cond.instanceMethod yX6_trace ∈ lw_tbl := List.mem_of_getElem? (i := 720) (by decide +kernel)
theorem okxX6_trace : Cond.selects yX6_trace.cls yX6_trace yX6_trace ∈ lw_tbl := List.mem_of_getElem? (i := 721) (by decide +kernel)
theorem okdX6_trace : (parseMethodDescriptor yX6_trace.desc).map (fun d => d.parameters.length + 1) = some 2 := by decide +kernel
theorem okc_10_143 : okC RL (143, 0, mX6_trace) := ⟨okpX6_trace, fun _ => ⟨List.mem_of_getElem? (i := 719) (by decide +kernel), okiX6_trace, okxX6_trace, okdX6_trace, _, rfl, rfl⟩, fun h => absurd h (by decide), fun h => absurd h (by decide), fun h => absurd h (by decide)⟩
theorem okiX6_keep : Cond.instanceMethod yX6_keep ∈ lw_tbl := List.mem_of_getElem? (i := 729) (by decide +kernel)
theorem okxX6_keep : Cond.selects yX6_keep.cls yX6_keep yX6_keep ∈ lw_tbl := List.mem_of_getElem? (i := 730) (by decide +kernel)
theorem okdX6_keep : (parseMethodDescriptor yX6_keep.desc).map (fun d => d.parameters.length + 1) = some 3 := by decide +kernel
theorem okc_10_147 : okC RL (147, 0, mX6_keep) := ⟨okpX6_keep, fun _ => ⟨List.mem_of_getElem? (i := 728) (by decide +kernel), okiX6_keep, okxX6_keep, okdX6_keep, _, rfl, rfl⟩, fun h => absurd h (by decide), fun h => absurd h (by decide), fun h => absurd h (by decide)⟩
theorem okiX6_row : Cond.instanceMethod yX6_row ∈ lw_tbl := List.mem_of_getElem? (i := 742) (by decide +kernel)
theorem okxX6_row : Cond.selects yX6_row.cls yX6_row yX6_row ∈ lw_tbl := List.mem_of_getElem? (i := 743) (by decide +kernel)
theorem okdX6_row : (parseMethodDescriptor yX6_row.desc).map (fun d => d.parameters.length + 1) = some 4 := by decide +kernel
theorem okc_10_151 : okC RL (151, 0, mX6_row) := ⟨okpX6_row, fun _ => ⟨List.mem_of_getElem? (i := 741) (by decide +kernel), okiX6_row, okxX6_row, okdX6_row, _, rfl, rfl⟩, fun h => absurd h (by decide), fun h => absurd h (by decide), fun h => absurd h (by decide)⟩
theorem okiX6_put : Cond.instanceMethod yX6_put ∈ lw_tbl := List.mem_of_getElem? (i := 752) (by decide +kernel)
theorem okxX6_put : Cond.selects yX6_put.cls yX6_put yX6_put ∈ lw_tbl := List.mem_of_getElem? (i := 753) (by decide +kernel)
theorem okdX6_put : (parseMethodDescriptor yX6_put.desc).map (fun d => d.parameters.length + 1) = some 4 := by decide +kernel
theorem okc_10_157 : okC RL (157, 0, mX6_put) := ⟨okpX6_put, fun _ => ⟨List.mem_of_getElem? (i := 751) (by decide +kernel), okiX6_put, okxX6_put, okdX6_put, _, rfl, rfl⟩, fun h => absurd h (by decide), fun h => absurd h (by decide), fun h => absurd h (by decide)⟩
theorem okiX6_element : Cond.instanceMethod yX6_element ∈ lw_tbl := List.mem_of_getElem? (i := 764) (by decide +kernel)
theorem okxX6_element : Cond.selects yX6_element.cls yX6_element yX6_element ∈ lw_tbl := List.mem_of_getElem? (i := 765) (by decide +kernel)
theorem okdX6_element : (parseMethodDescriptor yX6_element.desc).map (fun d => d.parameters.length + 1) = some 3 := by decide +kernel
theorem okc_10_162 : okC RL (162, 0, mX6_element) := ⟨okpX6_element, fun _ => ⟨List.mem_of_getElem? (i := 763) (by decide +kernel), okiX6_element, okxX6_element, okdX6_element, _, rfl, rfl⟩, fun h => absurd h (by decide), fun h => absurd h (by decide), fun h => absurd h (by decide)⟩
theorem okiX6_shift : Cond.instanceMethod yX6_shift ∈ lw_tbl := List.mem_of_getElem? (i := 768) (by decide +kernel)
theorem okxX6_shift : Cond.selects yX6_shift.cls yX6_shift yX6_shift ∈ lw_tbl := List.mem_of_getElem? (i := 769) (by decide +kernel)
theorem okdX6_shift : (parseMethodDescriptor yX6_shift.desc).map (fun d => d.parameters.length + 1) = some 6 := by decide +kernel
theorem okc_10_166 : okC RL (166, 0, mX6_shift) := ⟨okpX6_shift, fun _ => ⟨List.mem_of_getElem? (i := 767) (by decide +kernel), okiX6_shift, okxX6_shift, okdX6_shift, _, rfl, rfl⟩, fun h => absurd h (by decide), fun h => absurd h (by decide), fun h => absurd h (by decide)⟩
theorem okiX6_taken : Cond.instanceMethod yX6_taken ∈ lw_tbl := List.mem_of_getElem? (i := 772) (by decide +kernel)
theorem okxX6_taken : Cond.selects yX6_taken.cls yX6_taken yX6_taken ∈ lw_tbl := List.mem_of_getElem? (i := 773) (by decide +kernel)
theorem okdX6_taken : (parseMethodDescriptor yX6_taken.desc).map (fun d => d.parameters.length + 1) = some 3 := by decide +kernel
theorem okc_10_171 : okC RL (171, 0, mX6_taken) := ⟨okpX6_taken, fun _ => ⟨List.mem_of_getElem? (i := 771) (by decide +kernel), okiX6_taken, okxX6_taken, okdX6_taken, _, rfl, rfl⟩, fun h => absurd h (by decide), fun h => absurd h (by decide), fun h => absurd h (by decide)⟩
theorem okiX6_count : Cond.instanceMethod yX6_count ∈ lw_tbl := List.mem_of_getElem? (i := 780) (by decide +kernel)
theorem okxX6_count : Cond.selects yX6_count.cls yX6_count yX6_count ∈ lw_tbl := List.mem_of_getElem? (i := 781) (by decide +kernel)
theorem okdX6_count : (parseMethodDescriptor yX6_count.desc).map (fun d => d.parameters.length + 1) = some 2 := by decide +kernel
theorem okc_10_175 : okC RL (175, 0, mX6_count) := ⟨okpX6_count, fun _ => ⟨List.mem_of_getElem? (i := 779) (by decide +kernel), okiX6_count, okxX6_count, okdX6_count, _, rfl, rfl⟩, fun h => absurd h (by decide), fun h => absurd h (by decide), fun h => absurd h (by decide)⟩
theorem okiX7_init : Cond.instanceMethod yX7_init ∈ lw_tbl := List.mem_of_getElem? (i := 786) (by decide +kernel)
theorem okdX7_init : (parseMethodDescriptor yX7_init.desc).map (fun d => d.parameters.length + 1) = some 1 := by decide +kernel
theorem okc_10_12 : okC RL (12, 3, mX7_init) := ⟨okpX7_init, fun h => absurd h (by decide), fun h => absurd h (by decide), fun h => absurd h (by decide), fun _ => ⟨List.mem_of_getElem? (i := 785) (by decide +kernel), okiX7_init, rfl, rfl, okdX7_init⟩⟩
theorem okiX7_reach : Cond.instanceMethod yX7_reach ∈ lw_tbl := List.mem_of_getElem? (i := 917) (by decide +kernel)
theorem okxX7_reach : Cond.selects yX7_reach.cls yX7_reach yX7_reach ∈ lw_tbl := List.mem_of_getElem? (i := 918) (by decide +kernel)
theorem okdX7_reach : (parseMethodDescriptor yX7_reach.desc).map (fun d => d.parameters.length + 1) = some 2 := by decide +kernel
theorem okc_10_17 : okC RL (17, 0, mX7_reach) := ⟨okpX7_reach, fun _ => ⟨List.mem_of_getElem? (i := 916) (by decide +kernel), okiX7_reach, okxX7_reach, okdX7_reach, _, rfl, rfl⟩, fun h => absurd h (by decide), fun h => absurd h (by decide), fun h => absurd h (by decide)⟩
theorem okiX7_reaches : Cond.instanceMethod yX7_reaches ∈ lw_tbl := List.mem_of_getElem? (i := 928) (by decide +kernel)
theorem okxX7_reaches : Cond.selects yX7_reaches.cls yX7_reaches yX7_reaches ∈ lw_tbl := List.mem_of_getElem? (i := 929) (by decide +kernel)
theorem okdX7_reaches : (parseMethodDescriptor yX7_reaches.desc).map (fun d => d.parameters.length + 1) = some 4 := by decide +kernel
theorem okc_10_22 : okC RL (22, 0, mX7_reaches) := ⟨okpX7_reaches, fun _ => ⟨List.mem_of_getElem? (i := 927) (by decide +kernel), okiX7_reaches, okxX7_reaches, okdX7_reaches, _, rfl, rfl⟩, fun h => absurd h (by decide), fun h => absurd h (by decide), fun h => absurd h (by decide)⟩
theorem okiX7_mend : Cond.instanceMethod yX7_mend ∈ lw_tbl := List.mem_of_getElem? (i := 940) (by decide +kernel)
theorem okxX7_mend : Cond.selects yX7_mend.cls yX7_mend yX7_mend ∈ lw_tbl := List.mem_of_getElem? (i := 941) (by decide +kernel)
theorem okdX7_mend : (parseMethodDescriptor yX7_mend.desc).map (fun d => d.parameters.length + 1) = some 4 := by decide +kernel
theorem okc_10_26 : okC RL (26, 0, mX7_mend) := ⟨okpX7_mend, fun _ => ⟨List.mem_of_getElem? (i := 939) (by decide +kernel), okiX7_mend, okxX7_mend, okdX7_mend, _, rfl, rfl⟩, fun h => absurd h (by decide), fun h => absurd h (by decide), fun h => absurd h (by decide)⟩
theorem okiX7_of : Cond.instanceMethod yX7_of ∈ lw_tbl := List.mem_of_getElem? (i := 963) (by decide +kernel)
theorem okxX7_of : Cond.selects yX7_of.cls yX7_of yX7_of ∈ lw_tbl := List.mem_of_getElem? (i := 964) (by decide +kernel)
theorem okdX7_of : (parseMethodDescriptor yX7_of.desc).map (fun d => d.parameters.length + 1) = some 3 := by decide +kernel
theorem okc_10_31 : okC RL (31, 0, mX7_of) := ⟨okpX7_of, fun _ => ⟨List.mem_of_getElem? (i := 962) (by decide +kernel), okiX7_of, okxX7_of, okdX7_of, _, rfl, rfl⟩, fun h => absurd h (by decide), fun h => absurd h (by decide), fun h => absurd h (by decide)⟩
theorem okiX7_undo : Cond.instanceMethod yX7_undo ∈ lw_tbl := List.mem_of_getElem? (i := 967) (by decide +kernel)
theorem okxX7_undo : Cond.selects yX7_undo.cls yX7_undo yX7_undo ∈ lw_tbl := List.mem_of_getElem? (i := 968) (by decide +kernel)
theorem okdX7_undo : (parseMethodDescriptor yX7_undo.desc).map (fun d => d.parameters.length + 1) = some 1 := by decide +kernel
theorem okc_10_130 : okC RL (130, 0, mX7_undo) := ⟨okpX7_undo, fun _ => ⟨List.mem_of_getElem? (i := 966) (by decide +kernel), okiX7_undo, okxX7_undo, okdX7_undo, _, rfl, rfl⟩, fun h => absurd h (by decide), fun h => absurd h (by decide), fun h => absurd h (by decide)⟩
theorem okiX7_redo : Cond.instanceMethod yX7_redo ∈ lw_tbl := List.mem_of_getElem? (i := 971) (by decide +kernel)
theorem okxX7_redo : Cond.selects yX7_redo.cls yX7_redo yX7_redo ∈ lw_tbl := List.mem_of_getElem? (i := 972) (by decide +kernel)
theorem okdX7_redo : (parseMethodDescriptor yX7_redo.desc).map (fun d => d.parameters.length + 1) = some 1 := by decide +kernel
theorem okc_10_134 : okC RL (134, 0, mX7_redo) := ⟨okpX7_redo, fun _ => ⟨List.mem_of_getElem? (i := 970) (by decide +kernel), okiX7_redo, okxX7_redo, okdX7_redo, _, rfl, rfl⟩, fun h => absurd h (by decide), fun h => absurd h (by decide), fun h => absurd h (by decide)⟩
theorem okiX7_feed : Cond.instanceMethod yX7_feed ∈ lw_tbl := List.mem_of_getElem? (i := 975) (by decide +kernel)
theorem okxX7_feed : Cond.selects yX7_feed.cls yX7_feed yX7_feed ∈ lw_tbl := List.mem_of_getElem? (i := 976) (by decide +kernel)
theorem okdX7_feed : (parseMethodDescriptor yX7_feed.desc).map (fun d => d.parameters.length + 1) = some 2 := by decide +kernel
theorem okc_10_35 : okC RL (35, 0, mX7_feed) := ⟨okpX7_feed, fun _ => ⟨List.mem_of_getElem? (i := 974) (by decide +kernel), okiX7_feed, okxX7_feed, okdX7_feed, _, rfl, rfl⟩, fun h => absurd h (by decide), fun h => absurd h (by decide), fun h => absurd h (by decide)⟩
theorem okiX7_law : Cond.instanceMethod yX7_law ∈ lw_tbl := List.mem_of_getElem? (i := 979) (by decide +kernel)
theorem okxX7_law : Cond.selects yX7_law.cls yX7_law yX7_law ∈ lw_tbl := List.mem_of_getElem? (i := 980) (by decide +kernel)
theorem okdX7_law : (parseMethodDescriptor yX7_law.desc).map (fun d => d.parameters.length + 1) = some 1 := by decide +kernel
theorem okc_10_40 : okC RL (40, 0, mX7_law) := ⟨okpX7_law, fun _ => ⟨List.mem_of_getElem? (i := 978) (by decide +kernel), okiX7_law, okxX7_law, okdX7_law, _, rfl, rfl⟩, fun h => absurd h (by decide), fun h => absurd h (by decide), fun h => absurd h (by decide)⟩
theorem okiX7_goes : Cond.instanceMethod yX7_goes ∈ lw_tbl := List.mem_of_getElem? (i := 1030) (by decide +kernel)
theorem okxX7_goes : Cond.selects yX7_goes.cls yX7_goes yX7_goes ∈ lw_tbl := List.mem_of_getElem? (i := 1031) (by decide +kernel)
theorem okdX7_goes : (parseMethodDescriptor yX7_goes.desc).map (fun d => d.parameters.length + 1) = some 2 := by decide +kernel
theorem okc_10_44 : okC RL (44, 0, mX7_goes) := ⟨okpX7_goes, fun _ => ⟨List.mem_of_getElem? (i := 1029) (by decide +kernel), okiX7_goes, okxX7_goes, okdX7_goes, _, rfl, rfl⟩, fun h => absurd h (by decide), fun h => absurd h (by decide), fun h => absurd h (by decide)⟩
theorem okiX7_later : Cond.instanceMethod yX7_later ∈ lw_tbl := List.mem_of_getElem? (i := 1051) (by decide +kernel)
theorem okxX7_later : Cond.selects yX7_later.cls yX7_later yX7_later ∈ lw_tbl := List.mem_of_getElem? (i := 1052) (by decide +kernel)
theorem okdX7_later : (parseMethodDescriptor yX7_later.desc).map (fun d => d.parameters.length + 1) = some 4 := by decide +kernel
theorem okc_10_48 : okC RL (48, 0, mX7_later) := ⟨okpX7_later, fun _ => ⟨List.mem_of_getElem? (i := 1050) (by decide +kernel), okiX7_later, okxX7_later, okdX7_later, _, rfl, rfl⟩, fun h => absurd h (by decide), fun h => absurd h (by decide), fun h => absurd h (by decide)⟩
theorem okiX7_river : Cond.instanceMethod yX7_river ∈ lw_tbl := List.mem_of_getElem? (i := 1075) (by decide +kernel)
theorem okxX7_river : Cond.selects yX7_river.cls yX7_river yX7_river ∈ lw_tbl := List.mem_of_getElem? (i := 1076) (by decide +kernel)
theorem okdX7_river : (parseMethodDescriptor yX7_river.desc).map (fun d => d.parameters.length + 1) = some 3 := by decide +kernel
theorem okc_10_52 : okC RL (52, 0, mX7_river) := ⟨okpX7_river, fun _ => ⟨List.mem_of_getElem? (i := 1074) (by decide +kernel), okiX7_river, okxX7_river, okdX7_river, _, rfl, rfl⟩, fun h => absurd h (by decide), fun h => absurd h (by decide), fun h => absurd h (by decide)⟩
theorem okiX7_over_ : Cond.instanceMethod yX7_over_ ∈ lw_tbl := List.mem_of_getElem? (i := 1094) (by decide +kernel)
theorem okxX7_over_ : Cond.selects yX7_over_.cls yX7_over_ yX7_over_ ∈ lw_tbl := List.mem_of_getElem? (i := 1095) (by decide +kernel)
theorem okdX7_over_ : (parseMethodDescriptor yX7_over_.desc).map (fun d => d.parameters.length + 1) = some 2 := by decide +kernel
theorem okc_10_56 : okC RL (56, 0, mX7_over_) := ⟨okpX7_over_, fun _ => ⟨List.mem_of_getElem? (i := 1093) (by decide +kernel), okiX7_over_, okxX7_over_, okdX7_over_, _, rfl, rfl⟩, fun h => absurd h (by decide), fun h => absurd h (by decide), fun h => absurd h (by decide)⟩
theorem okiX7_signs : Cond.instanceMethod yX7_signs ∈ lw_tbl := List.mem_of_getElem? (i := 1099) (by decide +kernel)
theorem okxX7_signs : Cond.selects yX7_signs.cls yX7_signs yX7_signs ∈ lw_tbl := List.mem_of_getElem? (i := 1100) (by decide +kernel)
theorem okdX7_signs : (parseMethodDescriptor yX7_signs.desc).map (fun d => d.parameters.length + 1) = some 4 := by decide +kernel
theorem okc_10_60 : okC RL (60, 0, mX7_signs) := ⟨okpX7_signs, fun _ => ⟨List.mem_of_getElem? (i := 1098) (by decide +kernel), okiX7_signs, okxX7_signs, okdX7_signs, _, rfl, rfl⟩, fun h => absurd h (by decide), fun h => absurd h (by decide), fun h => absurd h (by decide)⟩
theorem okiX7_still : Cond.instanceMethod yX7_still ∈ lw_tbl := List.mem_of_getElem? (i := 1103) (by decide +kernel)
theorem okxX7_still : Cond.selects yX7_still.cls yX7_still yX7_still ∈ lw_tbl := List.mem_of_getElem? (i := 1104) (by decide +kernel)
theorem okdX7_still : (parseMethodDescriptor yX7_still.desc).map (fun d => d.parameters.length + 1) = some 1 := by decide +kernel
theorem okc_10_64 : okC RL (64, 0, mX7_still) := ⟨okpX7_still, fun _ => ⟨List.mem_of_getElem? (i := 1102) (by decide +kernel), okiX7_still, okxX7_still, okdX7_still, _, rfl, rfl⟩, fun h => absurd h (by decide), fun h => absurd h (by decide), fun h => absurd h (by decide)⟩
theorem okiX7_throwIn : Cond.instanceMethod yX7_throwIn ∈ lw_tbl := List.mem_of_getElem? (i := 1111) (by decide +kernel)
theorem okxX7_throwIn : Cond.selects yX7_throwIn.cls yX7_throwIn yX7_throwIn ∈ lw_tbl := List.mem_of_getElem? (i := 1112) (by decide +kernel)
theorem okdX7_throwIn : (parseMethodDescriptor yX7_throwIn.desc).map (fun d => d.parameters.length + 1) = some 3 := by decide +kernel
theorem okc_10_68 : okC RL (68, 0, mX7_throwIn) := ⟨okpX7_throwIn, fun _ => ⟨List.mem_of_getElem? (i := 1110) (by decide +kernel), okiX7_throwIn, okxX7_throwIn, okdX7_throwIn, _, rfl, rfl⟩, fun h => absurd h (by decide), fun h => absurd h (by decide), fun h => absurd h (by decide)⟩
theorem okiX7_bridges : Cond.instanceMethod yX7_bridges ∈ lw_tbl := List.mem_of_getElem? (i := 1119) (by decide +kernel)
theorem okxX7_bridges : Cond.selects yX7_bridges.cls yX7_bridges yX7_bridges ∈ lw_tbl := List.mem_of_getElem? (i := 1120) (by decide +kernel)
theorem okdX7_bridges : (parseMethodDescriptor yX7_bridges.desc).map (fun d => d.parameters.length + 1) = some 3 := by decide +kernel
theorem okc_10_72 : okC RL (72, 0, mX7_bridges) := ⟨okpX7_bridges, fun _ => ⟨List.mem_of_getElem? (i := 1118) (by decide +kernel), okiX7_bridges, okxX7_bridges, okdX7_bridges, _, rfl, rfl⟩, fun h => absurd h (by decide), fun h => absurd h (by decide), fun h => absurd h (by decide)⟩
theorem okiX7_ring : Cond.instanceMethod yX7_ring ∈ lw_tbl := List.mem_of_getElem? (i := 1124) (by decide +kernel)
theorem okxX7_ring : Cond.selects yX7_ring.cls yX7_ring yX7_ring ∈ lw_tbl := List.mem_of_getElem? (i := 1125) (by decide +kernel)
theorem okdX7_ring : (parseMethodDescriptor yX7_ring.desc).map (fun d => d.parameters.length + 1) = some 3 := by decide +kernel
theorem okc_10_76 : okC RL (76, 0, mX7_ring) := ⟨okpX7_ring, fun _ => ⟨List.mem_of_getElem? (i := 1123) (by decide +kernel), okiX7_ring, okxX7_ring, okdX7_ring, _, rfl, rfl⟩, fun h => absurd h (by decide), fun h => absurd h (by decide), fun h => absurd h (by decide)⟩
theorem okiX7_judge : Cond.instanceMethod yX7_judge ∈ lw_tbl := List.mem_of_getElem? (i := 1128) (by decide +kernel)
theorem okxX7_judge : Cond.selects yX7_judge.cls yX7_judge yX7_judge ∈ lw_tbl := List.mem_of_getElem? (i := 1129) (by decide +kernel)
theorem okdX7_judge : (parseMethodDescriptor yX7_judge.desc).map (fun d => d.parameters.length + 1) = some 3 := by decide +kernel
theorem okc_10_80 : okC RL (80, 0, mX7_judge) := ⟨okpX7_judge, fun _ => ⟨List.mem_of_getElem? (i := 1127) (by decide +kernel), okiX7_judge, okxX7_judge, okdX7_judge, _, rfl, rfl⟩, fun h => absurd h (by decide), fun h => absurd h (by decide), fun h => absurd h (by decide)⟩
theorem okiX7_fits : Cond.instanceMethod yX7_fits ∈ lw_tbl := List.mem_of_getElem? (i := 1140) (by decide +kernel)
theorem okxX7_fits : Cond.selects yX7_fits.cls yX7_fits yX7_fits ∈ lw_tbl := List.mem_of_getElem? (i := 1141) (by decide +kernel)
theorem okdX7_fits : (parseMethodDescriptor yX7_fits.desc).map (fun d => d.parameters.length + 1) = some 5 := by decide +kernel
theorem okc_10_85 : okC RL (85, 0, mX7_fits) := ⟨okpX7_fits, fun _ => ⟨List.mem_of_getElem? (i := 1139) (by decide +kernel), okiX7_fits, okxX7_fits, okdX7_fits, _, rfl, rfl⟩, fun h => absurd h (by decide), fun h => absurd h (by decide), fun h => absurd h (by decide)⟩
theorem okiX7_hears : Cond.instanceMethod yX7_hears ∈ lw_tbl := List.mem_of_getElem? (i := 1144) (by decide +kernel)
theorem okxX7_hears : Cond.selects yX7_hears.cls yX7_hears yX7_hears ∈ lw_tbl := List.mem_of_getElem? (i := 1145) (by decide +kernel)
theorem okdX7_hears : (parseMethodDescriptor yX7_hears.desc).map (fun d => d.parameters.length + 1) = some 3 := by decide +kernel
theorem okc_10_90 : okC RL (90, 0, mX7_hears) := ⟨okpX7_hears, fun _ => ⟨List.mem_of_getElem? (i := 1143) (by decide +kernel), okiX7_hears, okxX7_hears, okdX7_hears, _, rfl, rfl⟩, fun h => absurd h (by decide), fun h => absurd h (by decide), fun h => absurd h (by decide)⟩
theorem okiX7_odd : Cond.instanceMethod yX7_odd ∈ lw_tbl := List.mem_of_getElem? (i := 1153) (by decide +kernel)
theorem okxX7_odd : Cond.selects yX7_odd.cls yX7_odd yX7_odd ∈ lw_tbl := List.mem_of_getElem? (i := 1154) (by decide +kernel)
theorem okdX7_odd : (parseMethodDescriptor yX7_odd.desc).map (fun d => d.parameters.length + 1) = some 3 := by decide +kernel
theorem okc_10_94 : okC RL (94, 0, mX7_odd) := ⟨okpX7_odd, fun _ => ⟨List.mem_of_getElem? (i := 1152) (by decide +kernel), okiX7_odd, okxX7_odd, okdX7_odd, _, rfl, rfl⟩, fun h => absurd h (by decide), fun h => absurd h (by decide), fun h => absurd h (by decide)⟩
theorem okiX7_byTurns : Cond.instanceMethod yX7_byTurns ∈ lw_tbl := List.mem_of_getElem? (i := 1158) (by decide +kernel)
theorem okxX7_byTurns : Cond.selects yX7_byTurns.cls yX7_byTurns yX7_byTurns ∈ lw_tbl := List.mem_of_getElem? (i := 1159) (by decide +kernel)
theorem okdX7_byTurns : (parseMethodDescriptor yX7_byTurns.desc).map (fun d => d.parameters.length + 1) = some 4 := by decide +kernel
theorem okc_10_98 : okC RL (98, 0, mX7_byTurns) := ⟨okpX7_byTurns, fun _ => ⟨List.mem_of_getElem? (i := 1157) (by decide +kernel), okiX7_byTurns, okxX7_byTurns, okdX7_byTurns, _, rfl, rfl⟩, fun h => absurd h (by decide), fun h => absurd h (by decide), fun h => absurd h (by decide)⟩
theorem okiX7_drawn : Cond.instanceMethod yX7_drawn ∈ lw_tbl := List.mem_of_getElem? (i := 1170) (by decide +kernel)
theorem okxX7_drawn : Cond.selects yX7_drawn.cls yX7_drawn yX7_drawn ∈ lw_tbl := List.mem_of_getElem? (i := 1171) (by decide +kernel)
theorem okdX7_drawn : (parseMethodDescriptor yX7_drawn.desc).map (fun d => d.parameters.length + 1) = some 4 := by decide +kernel
theorem okc_10_102 : okC RL (102, 0, mX7_drawn) := ⟨okpX7_drawn, fun _ => ⟨List.mem_of_getElem? (i := 1169) (by decide +kernel), okiX7_drawn, okxX7_drawn, okdX7_drawn, _, rfl, rfl⟩, fun h => absurd h (by decide), fun h => absurd h (by decide), fun h => absurd h (by decide)⟩
theorem okiX7_day : Cond.instanceMethod yX7_day ∈ lw_tbl := List.mem_of_getElem? (i := 1175) (by decide +kernel)
theorem okxX7_day : Cond.selects yX7_day.cls yX7_day yX7_day ∈ lw_tbl := List.mem_of_getElem? (i := 1176) (by decide +kernel)
theorem okdX7_day : (parseMethodDescriptor yX7_day.desc).map (fun d => d.parameters.length + 1) = some 1 := by decide +kernel
theorem okc_10_106 : okC RL (106, 0, mX7_day) := ⟨okpX7_day, fun _ => ⟨List.mem_of_getElem? (i := 1174) (by decide +kernel), okiX7_day, okxX7_day, okdX7_day, _, rfl, rfl⟩, fun h => absurd h (by decide), fun h => absurd h (by decide), fun h => absurd h (by decide)⟩
theorem okiX7_gift : Cond.instanceMethod yX7_gift ∈ lw_tbl := List.mem_of_getElem? (i := 1179) (by decide +kernel)
theorem okxX7_gift : Cond.selects yX7_gift.cls yX7_gift yX7_gift ∈ lw_tbl := List.mem_of_getElem? (i := 1180) (by decide +kernel)
theorem okdX7_gift : (parseMethodDescriptor yX7_gift.desc).map (fun d => d.parameters.length + 1) = some 3 := by decide +kernel
theorem okc_10_110 : okC RL (110, 0, mX7_gift) := ⟨okpX7_gift, fun _ => ⟨List.mem_of_getElem? (i := 1178) (by decide +kernel), okiX7_gift, okxX7_gift, okdX7_gift, _, rfl, rfl⟩, fun h => absurd h (by decide), fun h => absurd h (by decide), fun h => absurd h (by decide)⟩
theorem okiX7_build : Cond.instanceMethod yX7_build ∈ lw_tbl := List.mem_of_getElem? (i := 1183) (by decide +kernel)
theorem okxX7_build : Cond.selects yX7_build.cls yX7_build yX7_build ∈ lw_tbl := List.mem_of_getElem? (i := 1184) (by decide +kernel)
theorem okdX7_build : (parseMethodDescriptor yX7_build.desc).map (fun d => d.parameters.length + 1) = some 3 := by decide +kernel
theorem okc_10_114 : okC RL (114, 0, mX7_build) := ⟨okpX7_build, fun _ => ⟨List.mem_of_getElem? (i := 1182) (by decide +kernel), okiX7_build, okxX7_build, okdX7_build, _, rfl, rfl⟩, fun h => absurd h (by decide), fun h => absurd h (by decide), fun h => absurd h (by decide)⟩
theorem okiX7_led : Cond.instanceMethod yX7_led ∈ lw_tbl := List.mem_of_getElem? (i := 1187) (by decide +kernel)
theorem okxX7_led : Cond.selects yX7_led.cls yX7_led yX7_led ∈ lw_tbl := List.mem_of_getElem? (i := 1188) (by decide +kernel)
theorem okdX7_led : (parseMethodDescriptor yX7_led.desc).map (fun d => d.parameters.length + 1) = some 2 := by decide +kernel
theorem okc_10_118 : okC RL (118, 0, mX7_led) := ⟨okpX7_led, fun _ => ⟨List.mem_of_getElem? (i := 1186) (by decide +kernel), okiX7_led, okxX7_led, okdX7_led, _, rfl, rfl⟩, fun h => absurd h (by decide), fun h => absurd h (by decide), fun h => absurd h (by decide)⟩
theorem okiX7_image : Cond.instanceMethod yX7_image ∈ lw_tbl := List.mem_of_getElem? (i := 1191) (by decide +kernel)
theorem okxX7_image : Cond.selects yX7_image.cls yX7_image yX7_image ∈ lw_tbl := List.mem_of_getElem? (i := 1192) (by decide +kernel)
theorem okdX7_image : (parseMethodDescriptor yX7_image.desc).map (fun d => d.parameters.length + 1) = some 1 := by decide +kernel
theorem okc_10_122 : okC RL (122, 0, mX7_image) := ⟨okpX7_image, fun _ => ⟨List.mem_of_getElem? (i := 1190) (by decide +kernel), okiX7_image, okxX7_image, okdX7_image, _, rfl, rfl⟩, fun h => absurd h (by decide), fun h => absurd h (by decide), fun h => absurd h (by decide)⟩
theorem okiX7_back : Cond.instanceMethod yX7_back ∈ lw_tbl := List.mem_of_getElem? (i := 1195) (by decide +kernel)
theorem okxX7_back : Cond.selects yX7_back.cls yX7_back yX7_back ∈ lw_tbl := List.mem_of_getElem? (i := 1196) (by decide +kernel)
theorem okdX7_back : (parseMethodDescriptor yX7_back.desc).map (fun d => d.parameters.length + 1) = some 1 := by decide +kernel
theorem okc_10_126 : okC RL (126, 0, mX7_back) := ⟨okpX7_back, fun _ => ⟨List.mem_of_getElem? (i := 1194) (by decide +kernel), okiX7_back, okxX7_back, okdX7_back, _, rfl, rfl⟩, fun h => absurd h (by decide), fun h => absurd h (by decide), fun h => absurd h (by decide)⟩
theorem okiX7_body : Cond.instanceMethod yX7_body ∈ lw_tbl := List.mem_of_getElem? (i := 1199) (by decide +kernel)
theorem okxX7_body : Cond.selects yX7_body.cls yX7_body yX7_body ∈ lw_tbl := List.mem_of_getElem? (i := 1200) (by decide +kernel)
theorem okdX7_body : (parseMethodDescriptor yX7_body.desc).map (fun d => d.parameters.length + 1) = some 2 := by decide +kernel
theorem okc_10_138 : okC RL (138, 0, mX7_body) := ⟨okpX7_body, fun _ => ⟨List.mem_of_getElem? (i := 1198) (by decide +kernel), okiX7_body, okxX7_body, okdX7_body, _, rfl, rfl⟩, fun h => absurd h (by decide), fun h => absurd h (by decide), fun h => absurd h (by decide)⟩
theorem okiX7_act : Cond.instanceMethod yX7_act ∈ lw_tbl := List.mem_of_getElem? (i := 1203) (by decide +kernel)
theorem okxX7_act : Cond.selects yX7_act.cls yX7_act yX7_act ∈ lw_tbl := List.mem_of_getElem? (i := 1204) (by decide +kernel)
theorem okdX7_act : (parseMethodDescriptor yX7_act.desc).map (fun d => d.parameters.length + 1) = some 4 := by decide +kernel
theorem okc_10_142 : okC RL (142, 0, mX7_act) := ⟨okpX7_act, fun _ => ⟨List.mem_of_getElem? (i := 1202) (by decide +kernel), okiX7_act, okxX7_act, okdX7_act, _, rfl, rfl⟩, fun h => absurd h (by decide), fun h => absurd h (by decide), fun h => absurd h (by decide)⟩
theorem okiX7_trace : Cond.instanceMethod yX7_trace ∈ lw_tbl := List.mem_of_getElem? (i := 1230) (by decide +kernel)
theorem okxX7_trace : Cond.selects yX7_trace.cls yX7_trace yX7_trace ∈ lw_tbl := List.mem_of_getElem? (i := 1231) (by decide +kernel)
theorem okdX7_trace : (parseMethodDescriptor yX7_trace.desc).map (fun d => d.parameters.length + 1) = some 2 := by decide +kernel
theorem okc_10_146 : okC RL (146, 0, mX7_trace) := ⟨okpX7_trace, fun _ => ⟨List.mem_of_getElem? (i := 1229) (by decide +kernel), okiX7_trace, okxX7_trace, okdX7_trace, _, rfl, rfl⟩, fun h => absurd h (by decide), fun h => absurd h (by decide), fun h => absurd h (by decide)⟩
theorem okiX7_keep : Cond.instanceMethod yX7_keep ∈ lw_tbl := List.mem_of_getElem? (i := 1234) (by decide +kernel)
theorem okxX7_keep : Cond.selects yX7_keep.cls yX7_keep yX7_keep ∈ lw_tbl := List.mem_of_getElem? (i := 1235) (by decide +kernel)
theorem okdX7_keep : (parseMethodDescriptor yX7_keep.desc).map (fun d => d.parameters.length + 1) = some 3 := by decide +kernel
theorem okc_10_150 : okC RL (150, 0, mX7_keep) := ⟨okpX7_keep, fun _ => ⟨List.mem_of_getElem? (i := 1233) (by decide +kernel), okiX7_keep, okxX7_keep, okdX7_keep, _, rfl, rfl⟩, fun h => absurd h (by decide), fun h => absurd h (by decide), fun h => absurd h (by decide)⟩
theorem okiX7_row : Cond.instanceMethod yX7_row ∈ lw_tbl := List.mem_of_getElem? (i := 1238) (by decide +kernel)
theorem okxX7_row : Cond.selects yX7_row.cls yX7_row yX7_row ∈ lw_tbl := List.mem_of_getElem? (i := 1239) (by decide +kernel)
theorem okdX7_row : (parseMethodDescriptor yX7_row.desc).map (fun d => d.parameters.length + 1) = some 4 := by decide +kernel
theorem okc_10_154 : okC RL (154, 0, mX7_row) := ⟨okpX7_row, fun _ => ⟨List.mem_of_getElem? (i := 1237) (by decide +kernel), okiX7_row, okxX7_row, okdX7_row, _, rfl, rfl⟩, fun h => absurd h (by decide), fun h => absurd h (by decide), fun h => absurd h (by decide)⟩
theorem okiX7_put : Cond.instanceMethod yX7_put ∈ lw_tbl := List.mem_of_getElem? (i := 1242) (by decide +kernel)
theorem okxX7_put : Cond.selects yX7_put.cls yX7_put yX7_put ∈ lw_tbl := List.mem_of_getElem? (i := 1243) (by decide +kernel)
theorem okdX7_put : (parseMethodDescriptor yX7_put.desc).map (fun d => d.parameters.length + 1) = some 4 := by decide +kernel
theorem okc_10_161 : okC RL (161, 0, mX7_put) := ⟨okpX7_put, fun _ => ⟨List.mem_of_getElem? (i := 1241) (by decide +kernel), okiX7_put, okxX7_put, okdX7_put, _, rfl, rfl⟩, fun h => absurd h (by decide), fun h => absurd h (by decide), fun h => absurd h (by decide)⟩
theorem okiX7_element : Cond.instanceMethod yX7_element ∈ lw_tbl := List.mem_of_getElem? (i := 1253) (by decide +kernel)
theorem okxX7_element : Cond.selects yX7_element.cls yX7_element yX7_element ∈ lw_tbl := List.mem_of_getElem? (i := 1254) (by decide +kernel)
theorem okdX7_element : (parseMethodDescriptor yX7_element.desc).map (fun d => d.parameters.length + 1) = some 3 := by decide +kernel
theorem okc_10_165 : okC RL (165, 0, mX7_element) := ⟨okpX7_element, fun _ => ⟨List.mem_of_getElem? (i := 1252) (by decide +kernel), okiX7_element, okxX7_element, okdX7_element, _, rfl, rfl⟩, fun h => absurd h (by decide), fun h => absurd h (by decide), fun h => absurd h (by decide)⟩
theorem okiX7_shift : Cond.instanceMethod yX7_shift ∈ lw_tbl := List.mem_of_getElem? (i := 1257) (by decide +kernel)
theorem okxX7_shift : Cond.selects yX7_shift.cls yX7_shift yX7_shift ∈ lw_tbl := List.mem_of_getElem? (i := 1258) (by decide +kernel)
theorem okdX7_shift : (parseMethodDescriptor yX7_shift.desc).map (fun d => d.parameters.length + 1) = some 6 := by decide +kernel
theorem okc_10_170 : okC RL (170, 0, mX7_shift) := ⟨okpX7_shift, fun _ => ⟨List.mem_of_getElem? (i := 1256) (by decide +kernel), okiX7_shift, okxX7_shift, okdX7_shift, _, rfl, rfl⟩, fun h => absurd h (by decide), fun h => absurd h (by decide), fun h => absurd h (by decide)⟩
theorem okiX7_taken : Cond.instanceMethod yX7_taken ∈ lw_tbl := List.mem_of_getElem? (i := 1261) (by decide +kernel)
theorem okxX7_taken : Cond.selects yX7_taken.cls yX7_taken yX7_taken ∈ lw_tbl := List.mem_of_getElem? (i := 1262) (by decide +kernel)
theorem okdX7_taken : (parseMethodDescriptor yX7_taken.desc).map (fun d => d.parameters.length + 1) = some 3 := by decide +kernel
theorem okc_10_174 : okC RL (174, 0, mX7_taken) := ⟨okpX7_taken, fun _ => ⟨List.mem_of_getElem? (i := 1260) (by decide +kernel), okiX7_taken, okxX7_taken, okdX7_taken, _, rfl, rfl⟩, fun h => absurd h (by decide), fun h => absurd h (by decide), fun h => absurd h (by decide)⟩
theorem okiX7_count : Cond.instanceMethod yX7_count ∈ lw_tbl := List.mem_of_getElem? (i := 1265) (by decide +kernel)
theorem okxX7_count : Cond.selects yX7_count.cls yX7_count yX7_count ∈ lw_tbl := List.mem_of_getElem? (i := 1266) (by decide +kernel)
theorem okdX7_count : (parseMethodDescriptor yX7_count.desc).map (fun d => d.parameters.length + 1) = some 2 := by decide +kernel
theorem okc_10_178 : okC RL (178, 0, mX7_count) := ⟨okpX7_count, fun _ => ⟨List.mem_of_getElem? (i := 1264) (by decide +kernel), okiX7_count, okxX7_count, okdX7_count, _, rfl, rfl⟩, fun h => absurd h (by decide), fun h => absurd h (by decide), fun h => absurd h (by decide)⟩
theorem okC_10 : ∀ e ∈ rCT_10, okC RL e := List.forall_mem_cons.mpr ⟨okc_10_9, List.forall_mem_cons.mpr ⟨okc_10_13, List.forall_mem_cons.mpr ⟨okc_10_18, List.forall_mem_cons.mpr ⟨okc_10_23, List.forall_mem_cons.mpr ⟨okc_10_27, List.forall_mem_cons.mpr ⟨okc_10_32, List.forall_mem_cons.mpr ⟨okc_10_36, List.forall_mem_cons.mpr ⟨okc_10_41, List.forall_mem_cons.mpr ⟨okc_10_45, List.forall_mem_cons.mpr ⟨okc_10_49, List.forall_mem_cons.mpr ⟨okc_10_53, List.forall_mem_cons.mpr ⟨okc_10_57, List.forall_mem_cons.mpr ⟨okc_10_61, List.forall_mem_cons.mpr ⟨okc_10_65, List.forall_mem_cons.mpr ⟨okc_10_69, List.forall_mem_cons.mpr ⟨okc_10_73, List.forall_mem_cons.mpr ⟨okc_10_77, List.forall_mem_cons.mpr ⟨okc_10_81, List.forall_mem_cons.mpr ⟨okc_10_86, List.forall_mem_cons.mpr ⟨okc_10_91, List.forall_mem_cons.mpr ⟨okc_10_95, List.forall_mem_cons.mpr ⟨okc_10_99, List.forall_mem_cons.mpr ⟨okc_10_103, List.forall_mem_cons.mpr ⟨okc_10_107, List.forall_mem_cons.mpr ⟨okc_10_111, List.forall_mem_cons.mpr ⟨okc_10_115, List.forall_mem_cons.mpr ⟨okc_10_119, List.forall_mem_cons.mpr ⟨okc_10_123, List.forall_mem_cons.mpr ⟨okc_10_127, List.forall_mem_cons.mpr ⟨okc_10_131, List.forall_mem_cons.mpr ⟨okc_10_135, List.forall_mem_cons.mpr ⟨okc_10_139, List.forall_mem_cons.mpr ⟨okc_10_143, List.forall_mem_cons.mpr ⟨okc_10_147, List.forall_mem_cons.mpr ⟨okc_10_151, List.forall_mem_cons.mpr ⟨okc_10_157, List.forall_mem_cons.mpr ⟨okc_10_162, List.forall_mem_cons.mpr ⟨okc_10_166, List.forall_mem_cons.mpr ⟨okc_10_171, List.forall_mem_cons.mpr ⟨okc_10_175, List.forall_mem_cons.mpr ⟨okc_10_12, List.forall_mem_cons.mpr ⟨okc_10_17, List.forall_mem_cons.mpr ⟨okc_10_22, List.forall_mem_cons.mpr ⟨okc_10_26, List.forall_mem_cons.mpr ⟨okc_10_31, List.forall_mem_cons.mpr ⟨okc_10_130, List.forall_mem_cons.mpr ⟨okc_10_134, List.forall_mem_cons.mpr ⟨okc_10_35, List.forall_mem_cons.mpr ⟨okc_10_40, List.forall_mem_cons.mpr ⟨okc_10_44, List.forall_mem_cons.mpr ⟨okc_10_48, List.forall_mem_cons.mpr ⟨okc_10_52, List.forall_mem_cons.mpr ⟨okc_10_56, List.forall_mem_cons.mpr ⟨okc_10_60, List.forall_mem_cons.mpr ⟨okc_10_64, List.forall_mem_cons.mpr ⟨okc_10_68, List.forall_mem_cons.mpr ⟨okc_10_72, List.forall_mem_cons.mpr ⟨okc_10_76, List.forall_mem_cons.mpr ⟨okc_10_80, List.forall_mem_cons.mpr ⟨okc_10_85, List.forall_mem_cons.mpr ⟨okc_10_90, List.forall_mem_cons.mpr ⟨okc_10_94, List.forall_mem_cons.mpr ⟨okc_10_98, List.forall_mem_cons.mpr ⟨okc_10_102, List.forall_mem_cons.mpr ⟨okc_10_106, List.forall_mem_cons.mpr ⟨okc_10_110, List.forall_mem_cons.mpr ⟨okc_10_114, List.forall_mem_cons.mpr ⟨okc_10_118, List.forall_mem_cons.mpr ⟨okc_10_122, List.forall_mem_cons.mpr ⟨okc_10_126, List.forall_mem_cons.mpr ⟨okc_10_138, List.forall_mem_cons.mpr ⟨okc_10_142, List.forall_mem_cons.mpr ⟨okc_10_146, List.forall_mem_cons.mpr ⟨okc_10_150, List.forall_mem_cons.mpr ⟨okc_10_154, List.forall_mem_cons.mpr ⟨okc_10_161, List.forall_mem_cons.mpr ⟨okc_10_165, List.forall_mem_cons.mpr ⟨okc_10_170, List.forall_mem_cons.mpr ⟨okc_10_174, List.forall_mem_cons.mpr ⟨okc_10_178, fun _ h => absurd h List.not_mem_nil⟩⟩⟩⟩⟩⟩⟩⟩⟩⟩⟩⟩⟩⟩⟩⟩⟩⟩⟩⟩⟩⟩⟩⟩⟩⟩⟩⟩⟩⟩⟩⟩⟩⟩⟩⟩⟩⟩⟩⟩⟩⟩⟩⟩⟩⟩⟩⟩⟩⟩⟩⟩⟩⟩⟩⟩⟩⟩⟩⟩⟩⟩⟩⟩⟩⟩⟩⟩⟩⟩⟩⟩⟩⟩⟩⟩⟩⟩⟩⟩
theorem okF_10 : ∀ e ∈ rFT_10, okF RL e := fun _ h => absurd h List.not_mem_nil
theorem okS_10 : ∀ e ∈ rST_10, okS RL e := fun _ h => absurd h List.not_mem_nil
theorem okKI_10 : ∀ e ∈ rKI_10, okKI RL e := fun _ h => absurd h List.not_mem_nil
theorem okKL_10 : ∀ e ∈ rKL_10, okKL RL e := List.forall_mem_cons.mpr ⟨(show okKL RL (155, 4294967295) from List.mem_of_getElem? (i := 1268) (by decide +kernel)), fun _ h => absurd h List.not_mem_nil⟩
theorem okN_10 : ∀ e ∈ rNW_10, okN RL e := List.forall_mem_cons.mpr ⟨(show okN RL (7, 6) from ⟨_, rfl, List.mem_of_getElem? (i := 78) (by decide +kernel), List.mem_of_getElem? (i := 79) (by decide +kernel), List.mem_of_getElem? (i := 67) (by decide +kernel)⟩), List.forall_mem_cons.mpr ⟨(show okN RL (10, 7) from ⟨_, rfl, List.mem_of_getElem? (i := 783) (by decide +kernel), List.mem_of_getElem? (i := 784) (by decide +kernel), List.mem_of_getElem? (i := 74) (by decide +kernel)⟩), fun _ h => absurd h List.not_mem_nil⟩⟩
theorem okO_10 : ∀ e ∈ rOI_10, okO RL e := fun _ h => absurd h List.not_mem_nil
theorem okX_10 : ∀ e ∈ rMX_10, okX RL e := fun _ h => absurd h List.not_mem_nil
theorem okI_10 : ∀ e ∈ rMN_10, okI RL e := fun _ h => absurd h List.not_mem_nil
theorem okY_10 : ∀ e ∈ rAC_10, okY RL e := fun _ h => absurd h List.not_mem_nil
theorem okC_all (o : Nat) : ∀ e ∈ rCT o, okC (rNm o) e := by
  match o with
  | 0 => exact okC_0
  | 1 => exact okC_1
  | 2 => exact okC_2
  | 3 => exact okC_3
  | 4 => exact okC_4
  | 5 => exact okC_5
  | 6 => exact okC_6
  | 7 => exact okC_7
  | 8 => exact okC_8
  | 9 => exact okC_9
  | n + 10 => exact okC_10
theorem okF_all (o : Nat) : ∀ e ∈ rFT o, okF (rNm o) e := by
  match o with
  | 0 => exact okF_0
  | 1 => exact okF_1
  | 2 => exact okF_2
  | 3 => exact okF_3
  | 4 => exact okF_4
  | 5 => exact okF_5
  | 6 => exact okF_6
  | 7 => exact okF_7
  | 8 => exact okF_8
  | 9 => exact okF_9
  | n + 10 => exact okF_10
theorem okS_all (o : Nat) : ∀ e ∈ rST o, okS (rNm o) e := by
  match o with
  | 0 => exact okS_0
  | 1 => exact okS_1
  | 2 => exact okS_2
  | 3 => exact okS_3
  | 4 => exact okS_4
  | 5 => exact okS_5
  | 6 => exact okS_6
  | 7 => exact okS_7
  | 8 => exact okS_8
  | 9 => exact okS_9
  | n + 10 => exact okS_10
theorem okKI_all (o : Nat) : ∀ e ∈ rKI o, okKI (rNm o) e := by
  match o with
  | 0 => exact okKI_0
  | 1 => exact okKI_1
  | 2 => exact okKI_2
  | 3 => exact okKI_3
  | 4 => exact okKI_4
  | 5 => exact okKI_5
  | 6 => exact okKI_6
  | 7 => exact okKI_7
  | 8 => exact okKI_8
  | 9 => exact okKI_9
  | n + 10 => exact okKI_10
theorem okKL_all (o : Nat) : ∀ e ∈ rKL o, okKL (rNm o) e := by
  match o with
  | 0 => exact okKL_0
  | 1 => exact okKL_1
  | 2 => exact okKL_2
  | 3 => exact okKL_3
  | 4 => exact okKL_4
  | 5 => exact okKL_5
  | 6 => exact okKL_6
  | 7 => exact okKL_7
  | 8 => exact okKL_8
  | 9 => exact okKL_9
  | n + 10 => exact okKL_10
theorem okN_all (o : Nat) : ∀ e ∈ rNW o, okN (rNm o) e := by
  match o with
  | 0 => exact okN_0
  | 1 => exact okN_1
  | 2 => exact okN_2
  | 3 => exact okN_3
  | 4 => exact okN_4
  | 5 => exact okN_5
  | 6 => exact okN_6
  | 7 => exact okN_7
  | 8 => exact okN_8
  | 9 => exact okN_9
  | n + 10 => exact okN_10
theorem okO_all (o : Nat) : ∀ e ∈ rOI o, okO (rNm o) e := by
  match o with
  | 0 => exact okO_0
  | 1 => exact okO_1
  | 2 => exact okO_2
  | 3 => exact okO_3
  | 4 => exact okO_4
  | 5 => exact okO_5
  | 6 => exact okO_6
  | 7 => exact okO_7
  | 8 => exact okO_8
  | 9 => exact okO_9
  | n + 10 => exact okO_10
theorem okY_all (o : Nat) : ∀ e ∈ rAC o, okY (rNm o) e := by
  match o with
  | 0 => exact okY_0
  | 1 => exact okY_1
  | 2 => exact okY_2
  | 3 => exact okY_3
  | 4 => exact okY_4
  | 5 => exact okY_5
  | 6 => exact okY_6
  | 7 => exact okY_7
  | 8 => exact okY_8
  | 9 => exact okY_9
  | n + 10 => exact okY_10
theorem okX_all (o : Nat) : ∀ e ∈ rMX o, okX (rNm o) e := by
  match o with
  | 0 => exact okX_0
  | 1 => exact okX_1
  | 2 => exact okX_2
  | 3 => exact okX_3
  | 4 => exact okX_4
  | 5 => exact okX_5
  | 6 => exact okX_6
  | 7 => exact okX_7
  | 8 => exact okX_8
  | 9 => exact okX_9
  | n + 10 => exact okX_10
theorem okI_all (o : Nat) : ∀ e ∈ rMN o, okI (rNm o) e := by
  match o with
  | 0 => exact okI_0
  | 1 => exact okI_1
  | 2 => exact okI_2
  | 3 => exact okI_3
  | 4 => exact okI_4
  | 5 => exact okI_5
  | 6 => exact okI_6
  | 7 => exact okI_7
  | 8 => exact okI_8
  | 9 => exact okI_9
  | n + 10 => exact okI_10
theorem ok_objI : Cond.instanceMethod Lib.objectInit ∈ lw_tbl := List.mem_of_getElem? (i := 84) (by decide +kernel)
theorem ok_objC : Cond.code Lib.objectInit ⟨#[0xb1]⟩ 1 none ∈ lw_tbl := List.mem_of_getElem? (i := 85) (by decide +kernel)
theorem ok_cpN : Cond.native arraycopyName ∈ lw_tbl := List.mem_of_getElem? (i := 365) (by decide +kernel)
theorem ok_cpS : Cond.static arraycopyName ∈ lw_tbl := List.mem_of_getElem? (i := 364) (by decide +kernel)
theorem ok_cpI : Cond.initialized "java/lang/System" ∈ lw_tbl := List.mem_of_getElem? (i := 75) (by decide +kernel)
theorem ok_mxS : Cond.static Lib.Math.max.name ∈ lw_tbl := List.mem_of_getElem? (i := 485) (by decide +kernel)
theorem ok_mnS : Cond.static Lib.Math.min.name ∈ lw_tbl := List.mem_of_getElem? (i := 482) (by decide +kernel)
theorem ok_mxC : Cond.code Lib.Math.max.name Lib.Math.max.code 2 (some .int) ∈ lw_tbl := List.mem_of_getElem? (i := 486) (by decide +kernel)
theorem ok_mnC : Cond.code Lib.Math.min.name Lib.Math.min.code 2 (some .int) ∈ lw_tbl := List.mem_of_getElem? (i := 483) (by decide +kernel)
theorem ok_mI : Cond.initialized "java/lang/Math" ∈ lw_tbl := List.mem_of_getElem? (i := 76) (by decide +kernel)
theorem ok_aI : Cond.arrayClass .int ∈ lw_tbl := List.mem_of_getElem? (i := 133) (by decide +kernel)
theorem ok_aL : Cond.arrayClass .long ∈ lw_tbl := List.mem_of_getElem? (i := 156) (by decide +kernel)
theorem ok_aS : Cond.arrayOver (.object RX4) ∈ lw_tbl := List.mem_of_getElem? (i := 223) (by decide +kernel)
/-- a class: its words, its fields' kinds -/
def okK (ci : Nat) (r : vw_C) : Prop := (∀ w ∈ u_ws r.1 r.2.1 r.2.2, w ∈ lw_tbl) ∧ r.2.2 = (rFK ci).length ∧ (∀ a, a < r.2.2 → ∀ b, b < r.2.2 → a ≠ b → (r.2.1 a).2.1 ≠ (r.2.1 b).2.1) ∧ (∀ k, k < r.2.2 → (r.2.1 k).1 = r.1) ∧ r.1 = rNm ci ∧ ∃ ty : Nat → FieldType, (∀ k, k < r.2.2 → parseFieldDescriptor (r.2.1 k).2.2.1 = some (ty k)) ∧ (∀ k, k < r.2.2 → (rFK ci)[k]? = some 0 ∧ ty k = .int ∨ (rFK ci)[k]? = some 1 ∧ ty k = .boolean ∨ (rFK ci)[k]? = some 2 ∧ fits (ty k) .null = true ∧ defaultValue (ty k) = .null ∧ (ty k).isReference = true)
theorem okw_0 : ∀ w ∈ u_ws RX0 TX0 6, w ∈ lw_tbl := by decide +kernel
theorem okK_0 : okK 0 (RX0, TX0, 6) := ⟨okw_0, rfl, nmX0, by decide +kernel, rfl, tyX0, tyX0_ok, by decide +kernel⟩
theorem okw_1 : ∀ w ∈ u_ws RX1 TX1 3, w ∈ lw_tbl := by decide +kernel
theorem okK_1 : okK 1 (RX1, TX1, 3) := ⟨okw_1, rfl, nmX1, by decide +kernel, rfl, tyX1, tyX1_ok, by decide +kernel⟩
theorem okw_2 : ∀ w ∈ u_ws RX2 TX2 4, w ∈ lw_tbl := by decide +kernel
theorem okK_2 : okK 2 (RX2, TX2, 4) := ⟨okw_2, rfl, nmX2, by decide +kernel, rfl, tyX2, tyX2_ok, by decide +kernel⟩
theorem okw_3 : ∀ w ∈ u_ws RX3 TX3 9, w ∈ lw_tbl := by decide +kernel
theorem okK_3 : okK 3 (RX3, TX3, 9) := ⟨okw_3, rfl, nmX3, by decide +kernel, rfl, tyX3, tyX3_ok, by decide +kernel⟩
theorem okw_4 : ∀ w ∈ u_ws RX4 TX4 5, w ∈ lw_tbl := by decide +kernel
theorem okK_4 : okK 4 (RX4, TX4, 5) := ⟨okw_4, rfl, nmX4, by decide +kernel, rfl, tyX4, tyX4_ok, by decide +kernel⟩
theorem okw_5 : ∀ w ∈ u_ws RX5 TX5 4, w ∈ lw_tbl := by decide +kernel
theorem okK_5 : okK 5 (RX5, TX5, 4) := ⟨okw_5, rfl, nmX5, by decide +kernel, rfl, tyX5, tyX5_ok, by decide +kernel⟩
theorem okw_6 : ∀ w ∈ u_ws RX6 TX6 12, w ∈ lw_tbl := by decide +kernel
theorem okK_6 : okK 6 (RX6, TX6, 12) := ⟨okw_6, rfl, nmX6, by decide +kernel, rfl, tyX6, tyX6_ok, by decide +kernel⟩
theorem okw_7 : ∀ w ∈ u_ws RX7 TX7 42, w ∈ lw_tbl := by decide +kernel
theorem okK_7 : okK 7 (RX7, TX7, 42) := ⟨okw_7, rfl, nmX7, by decide +kernel, rfl, tyX7, tyX7_ok, by decide +kernel⟩
theorem okK_all (ci : Nat) (r : vw_C) (h : vwCl[ci]? = some r) : okK ci r := by
  match ci, h with
  | 0, h => cases h; exact okK_0
  | 1, h => cases h; exact okK_1
  | 2, h => cases h; exact okK_2
  | 3, h => cases h; exact okK_3
  | 4, h => cases h; exact okK_4
  | 5, h => cases h; exact okK_5
  | 6, h => cases h; exact okK_6
  | 7, h => cases h; exact okK_7
  | n + 8, h => simp [vwCl] at h
