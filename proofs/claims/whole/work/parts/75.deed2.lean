/-! PURE: of, led, count, trace, body joined -/
theorem inB_Rg {n : Nat} (hn : n < 2 ^ 30) (v : Int32) : inB v 0 (nI n - 1) = isR n v := by
  unfold inB isR
  congr 1
  have : (nI n - 1 < v) ↔ (nI n ≤ v) := by
    have hs : (nI n - 1).toInt = (n : Int) - 1 := pk_sub_toInt (b := 1) hn (by decide)
    rw [Int32.lt_iff_toInt_lt, Int32.le_iff_toInt_le, hs, nI_toInt (by omega)]
    omega
  rw [this]
theorem isR_g {n : Nat} {v : Int32} (h : isR n v = true) (hn : n < 2 ^ 30) : ∃ p : Nat, p < n ∧ v = nI p := by
  obtain ⟨h0, h1⟩ := of_decide_eq_true h
  obtain ⟨j, hj, rfl⟩ := nI_of h0
  exact ⟨j, by rw [nI_leI (by omega) hj] at h1; omega, rfl⟩
section D2
variable {X : tX} {T : tT} {I I' I1 I2 : tI} {J J' : tJ} {R R' : tR} {Q : tQ} {d b b2 n L0 : Nat} {xs : Nat → Int32} {l : tL} {r : Nat → Nat → Int32} {sh : tSh} {ld : Nat → Int32} {im : tIm} {tp : tTp} {ch : tCh} {st : tSt} {v w x : Int32}
def ofS (n : Nat) (r : Nat → Nat → Int32) (x w : Int32) : Int32 := if hasB n x w = true then getS r w.toNatClampNeg x.toNatClampNeg else -1
theorem vw_31 {n j i : Nat} (h : i < vwN n j) (h8 : n ≤ 8) : i < 2 ^ 31 := by
  unfold vwN at h
  (repeat' split at h) <;> omega
theorem c_of (h : HS T I R b n l r) (k : Q (some (.int (ofS n r x w))) (T, I, J, R)) : Ex X (d + 3) mX6_of 0 [.ref 0, .int x, .int w] [] (T, I, J, R) Q := by
  have h8 := HS_8 h
  obtain ⟨h0, r0, r1, r8, hb, hb2, hv, hC⟩ := h
  simp only [gX6_of_0, h0, true_and, r0, rf_some, hC.2.1.1]
  refine c_has hC ?_
  simp only [Option.toList_some, List.cons_append, List.nil_append, gX6_of_9, if10]
  unfold ofS at k
  cases g : hasB n x w with
  | false =>
    rw [if_neg (by rw [g]; simp)] at k
    simp only [if_true, gX6_of_24, gX6_of_25]
    exact k
  | true =>
    rw [if_pos g] at k
    obtain ⟨j, i, rfl, rfl, hj, hi⟩ := hasB_t g h8
    have hi' : i < vwN n j := hi
    rw [nI_clamp (show j < 2 ^ 31 by omega), nI_clamp (vw_31 hi' h8)] at k
    simp only [reduceCtorEq, if_false, gX6_of_12, h0, true_and, r0, rf_some, hC.2.1.1]
    refine c_numberOf hC hj hi' g ?_
    simp only [Option.toList_some, List.cons_append, List.nil_append, gX6_of_21, gX6_of_25]
    exact k
theorem m_of (h : MS T I R n l r) (k : Q (some (.int (ofS n r x w))) (T, I, J, R)) : Ex X (d + 3) mX7_of 0 [.ref 54, .int x, .int w] [] (T, I, J, R) Q := by
  have h8 := MS_8 h
  have t0 := mt_54 h.1
  simp only [gX7_of_0, t0, true_and]
  refine m_isOf h ?_
  simp only [Option.toList_some, List.cons_append, List.nil_append, gX7_of_6, if10]
  unfold ofS at k
  cases g : hasB n x w with
  | false =>
    rw [if_neg (by rw [g]; simp)] at k
    simp only [if_true, gX7_of_18, gX7_of_19]
    exact k
  | true =>
    rw [if_pos g] at k
    obtain ⟨j, i, rfl, rfl, hj, hi⟩ := hasB_t g h8
    have hi' : i < vwN n j := hi
    rw [nI_clamp (show j < 2 ^ 31 by omega), nI_clamp (vw_31 hi' h8)] at k
    simp only [reduceCtorEq, if_false, gX7_of_9, t0, true_and]
    refine m_get h hj hi' ?_
    simp only [Option.toList_some, List.cons_append, List.nil_append, gX7_of_15, gX7_of_19]
    exact k
theorem j_of : Jn X (d + 50) (d + 50) mX6_of [.ref 0, .int x, .int w] mX7_of [.ref 54, .int x, .int w] := by
  rintro T I J R ⟨ht1, ht2, b, b2, n, l, r, sh, ld, im, tp, ch, st, hb, hH, hC, hM, hA, hP⟩
  exact ⟨ofS n r x w, c_of (d := d + 47) hH ⟨rfl, rfl, m_of (d := d + 47) hM ⟨rfl, ht1, ht2, b, b2, n, l, r, sh, ld, im, tp, ch, st, hb, hH, hC, hM, hA, hP⟩⟩⟩
def ledS (ld : Nat → Int32) (v : Int32) : Int32 := if inB v 0 4 = true then ld v.toNatClampNeg else -1
theorem c_led (h0 : T[0]? = some (3, 6)) (h : CLd T I R ld) (k : Q (some (.int (ledS ld v))) (T, I, J, R)) : Ex X d mX6_led 0 [.ref 0, .int v] [] (T, I, J, R) Q := by
  obtain ⟨c1, c2, c3⟩ := h
  have e : v < 5 ↔ ¬ 4 < v := by
    rw [Int32.lt_iff_toInt_lt, Int32.lt_iff_toInt_lt, show (5 : Int32).toInt = 5 by decide, show (4 : Int32).toInt = 4 by decide]
    omega
  unfold ledS at k
  simp only [gX6_led_0, gX6_led_4, e]
  by_cases c : inB v 0 4 = true
  · rw [if_pos c] at k
    obtain ⟨w1, w2⟩ := of_decide_eq_true c
    obtain ⟨j, hj, rfl⟩ := inB_n (m := 4) (by decide) c
    rw [nI_clamp (by omega), ← c3 j (by omega)] at k
    simp only [w1, if_false, w2, not_false_eq_true, if_true, gX6_led_13, h0, true_and, c2, rf_some, rIn_at c1 (show j < 5 by omega) (by decide), nI_clamp (show j < 2 ^ 31 by omega), gX6_led_19]
    exact k
  · rw [if_neg c] at k
    have b' : Ex X d mX6_led 9 [.ref 0, .int v] [] (T, I, J, R) Q := by
      simp only [gX6_led_9, gX6_led_19]
      exact k
    repeat' first | exact b' | split
    exact absurd (decide_eq_true ⟨‹_›, ‹_›⟩) c
theorem m_led (hm : IsMod T R) (h : ∀ i, i < 5 → I 69 i = ld i) (k : Q (some (.int (ledS ld v))) (T, I, J, R)) : Ex X (d + 1) mX7_led 0 [.ref 54, .int v] [] (T, I, J, R) Q := by
  have t0 := mt_54 hm
  unfold ledS at k
  simp only [gX7_led_0]
  refine s_within ?_
  simp only [Option.toList_some, List.cons_append, List.nil_append, gX7_led_6, if10]
  cases c : inB v 0 4 with
  | false =>
    rw [if_neg (by rw [c]; simp)] at k
    simp only [if_true, gX7_led_18, gX7_led_19]
    exact k
  | true =>
    rw [if_pos c] at k
    obtain ⟨j, hj, rfl⟩ := inB_n (m := 4) (by decide) c
    rw [nI_clamp (by omega), ← h j (by omega)] at k
    simp only [reduceCtorEq, if_false, gX7_led_9, t0, true_and, mr_22 hm, rf_some, rIn_at (mt_69 hm) (show j < 5 by omega) (by decide), nI_clamp (show j < 2 ^ 31 by omega), gX7_led_19]
    exact k
theorem j_led : Jn X (d + 50) (d + 50) mX6_led [.ref 0, .int v] mX7_led [.ref 54, .int v] := by
  rintro T I J R ⟨ht1, ht2, b, b2, n, l, r, sh, ld, im, tp, ch, st, hb, hH, hC, hM, hA, hP⟩
  exact ⟨ledS ld v, c_led hH.1 hC.2.1 ⟨rfl, rfl, m_led (d := d + 49) hM.1 hA.2.1 ⟨rfl, ht1, ht2, b, b2, n, l, r, sh, ld, im, tp, ch, st, hb, hH, hC, hM, hA, hP⟩⟩⟩
def countS (n : Nat) (r : Nat → Nat → Int32) (tp : tTp) (ch : tCh) (st : tSt) (v : Int32) : Int32 := if v = 0 then nI n else if v = 1 then bcS (ovS n r n) else if v = 2 then nI tp.1 else if v = 3 then nI ch.1 else if v = 4 then nI st.1 else if v = 5 then nI st.2.2.1 else -1
theorem c_count (h : HS T I R b n l r) (hA : CA T I J R b2 sh ld im tp ch st) (k : Q (some (.int (countS n r tp ch st v))) (T, I, J, R)) : Ex X (d + 3) mX6_count 0 [.ref 0, .int v] [] (T, I, J, R) Q := by
  obtain ⟨h0, r0, r1, r8, hb, hb2, hv, hC⟩ := h
  obtain ⟨-, -, -, ⟨p1, p2, p3, -⟩, ⟨q1, q2, q3, -⟩, ⟨s1, s2, s3, s4, s5, -⟩, -⟩ := hA
  have n8 : I 1 8 = nI n := hC.2.2.2.2.2.1
  unfold countS at k
  simp only [gX6_count_0, sX6_count_1]
  by_cases e0 : v = 0
  · simp only [e0, if_true, gX6_count_40, h0, true_and, r0, rf_some, hC.2.1.1, n8] at k ⊢
    exact k
  simp only [e0, if_false] at k ⊢
  by_cases e1 : v = 1
  · simp only [e1, if_true, gX6_count_48, h0, true_and, r0, rf_some, hC.2.1.1] at k ⊢
    refine c_overBits hC ?_
    simp only [Option.toList_some, List.cons_append, List.nil_append, gX6_count_55]
    refine j_bitCount ?_
    simp only [Option.toList_some, List.cons_append, List.nil_append, gX6_count_58]
    exact k
  simp only [e1, if_false] at k ⊢
  by_cases e2 : v = 2
  · simp only [e2, if_true, gX6_count_59, h0, true_and, p1, rf_some, p2.1, p3] at k ⊢
    exact k
  simp only [e2, if_false] at k ⊢
  by_cases e3 : v = 3
  · simp only [e3, if_true, gX6_count_67, h0, true_and, q1, rf_some, q2.1, q3] at k ⊢
    exact k
  simp only [e3, if_false] at k ⊢
  by_cases e4 : v = 4
  · simp only [e4, if_true, gX6_count_75, h0, true_and, s1, rf_some, s2.1, s3] at k ⊢
    exact k
  simp only [e4, if_false] at k ⊢
  by_cases e5 : v = 5
  · simp only [e5, if_true, gX6_count_83, h0, true_and, s1, rf_some, s2.1, s5] at k ⊢
    exact k
  simp only [e5, if_false, gX6_count_91] at k ⊢
  exact k
theorem m_count (h : MS T I R n l r) (hA : MA I J sh ld im tp ch st) (k : Q (some (.int (countS n r tp ch st v))) (T, I, J, R)) : Ex X (d + 3) mX7_count 0 [.ref 54, .int v] [] (T, I, J, R) Q := by
  have t0 := mt_54 h.1
  have n8 : I 54 0 = nI n := h.2.2.1
  obtain ⟨-, -, -, ⟨p3, -⟩, ⟨q3, -⟩, ⟨s3, s4, s5, -⟩⟩ := hA
  unfold countS at k
  simp only [gX7_count_0, sX7_count_1]
  by_cases e0 : v = 0
  · simp only [e0, if_true, gX7_count_40, t0, true_and, n8] at k ⊢
    exact k
  simp only [e0, if_false] at k ⊢
  by_cases e1 : v = 1
  · simp only [e1, if_true, gX7_count_45, t0, true_and] at k ⊢
    refine s_over h ?_
    simp only [Option.toList_some, List.cons_append, List.nil_append, gX7_count_49]
    refine j_bitCount ?_
    simp only [Option.toList_some, List.cons_append, List.nil_append, gX7_count_52]
    exact k
  simp only [e1, if_false] at k ⊢
  by_cases e2 : v = 2
  · simp only [e2, if_true, gX7_count_53, t0, true_and, p3] at k ⊢
    exact k
  simp only [e2, if_false] at k ⊢
  by_cases e3 : v = 3
  · simp only [e3, if_true, gX7_count_58, t0, true_and, q3] at k ⊢
    exact k
  simp only [e3, if_false] at k ⊢
  by_cases e4 : v = 4
  · simp only [e4, if_true, gX7_count_63, t0, true_and, s3] at k ⊢
    exact k
  simp only [e4, if_false] at k ⊢
  by_cases e5 : v = 5
  · simp only [e5, if_true, gX7_count_68, t0, true_and, s5] at k ⊢
    exact k
  simp only [e5, if_false, gX7_count_73] at k ⊢
  exact k
theorem j_count : Jn X (d + 50) (d + 50) mX6_count [.ref 0, .int v] mX7_count [.ref 54, .int v] := by
  rintro T I J R ⟨ht1, ht2, b, b2, n, l, r, sh, ld, im, tp, ch, st, hb, hH, hC, hM, hA, hP⟩
  exact ⟨countS n r tp ch st v, c_count (d := d + 47) hH hC ⟨rfl, rfl, m_count (d := d + 47) hM hA ⟨rfl, ht1, ht2, b, b2, n, l, r, sh, ld, im, tp, ch, st, hb, hH, hC, hM, hA, hP⟩⟩⟩
def traceS (st : tSt) (v : Int32) : Int32 := if isR (min st.2.2.1 24) v = true then st.2.2.2 v.toNatClampNeg else -1
theorem c_trace (h0 : T[0]? = some (3, 6)) (h : CSt T I R st) (ho : okSt st) (k : Q (some (.int (traceS st v))) (T, I, J, R)) : Ex X (d + 3) mX6_trace 0 [.ref 0, .int v] [] (T, I, J, R) Q := by
  obtain ⟨s1, s2, s3, s4, s5, s6⟩ := h
  obtain ⟨u0, u39, u40, v0, v1⟩ := id s2
  have ho3 := ho.2.2
  have emin : (if (24 : Int32) < nI st.2.2.1 then 24 else nI st.2.2.1) = nI (min st.2.2.1 24) := by
    by_cases e : 24 < st.2.2.1
    · rw [if_pos (show (24 : Int32) < nI st.2.2.1 from nI_lt (a := 24) e (by omega)), Nat.min_eq_right (by omega)]
      rfl
    · rw [if_neg (show ¬ (24 : Int32) < nI st.2.2.1 from nI_nlt (a := 24) (by omega) (by decide)), Nat.min_eq_left (by omega)]
  have hM : min st.2.2.1 24 ≤ 24 := Nat.min_le_right _ _
  have hM1 : min st.2.2.1 24 ≤ st.2.2.1 := Nat.min_le_left _ _
  unfold traceS at k
  generalize min st.2.2.1 24 = M at k emin hM hM1
  have e : v < nI M ↔ ¬ nI M ≤ v := Int32.not_le.symm
  simp only [gX6_trace_0, gX6_trace_4, h0, true_and, s1, rf_some, u0, gX5_traced_0, s5, emin, Option.toList_some, List.cons_append, List.nil_append, gX6_trace_12, e]
  by_cases c : isR M v = true
  · rw [if_pos c] at k
    obtain ⟨w1, w2⟩ := of_decide_eq_true c
    obtain ⟨j, hj, rfl⟩ := isR_g c (by omega)
    rw [nI_clamp (by omega), ← s6 j (by omega) (by omega)] at k
    simp only [w1, if_false, w2, not_false_eq_true, if_true, gX6_trace_19, h0, true_and, s1, rf_some, u0, v1, rIn_at u40 (show j < 24 by omega) (by decide), nI_clamp (show j < 2 ^ 31 by omega), gX6_trace_28]
    exact k
  · rw [if_neg c] at k
    have b' : Ex X (d + 3) mX6_trace 15 [.ref 0, .int v] [] (T, I, J, R) Q := by
      simp only [gX6_trace_15, gX6_trace_28]
      exact k
    repeat' first | exact b' | split
    exact absurd (decide_eq_true ⟨‹_›, ‹_›⟩) c
theorem m_trace (hm : IsMod T R) (h : MSt I st) (ho : okSt st) (k : Q (some (.int (traceS st v))) (T, I, J, R)) : Ex X (d + 3) mX7_trace 0 [.ref 54, .int v] [] (T, I, J, R) Q := by
  have t0 := mt_54 hm
  obtain ⟨s3, s4, s5, s6⟩ := h
  have ho3 := ho.2.2
  have emin : (if nI st.2.2.1 < 24 then nI st.2.2.1 else 24) = nI (min st.2.2.1 24) := by
    by_cases e : st.2.2.1 < 24
    · rw [if_pos (show nI st.2.2.1 < 24 from nI_lt (b := 24) e (by decide)), Nat.min_eq_left (by omega)]
    · rw [if_neg (show ¬ nI st.2.2.1 < 24 from nI_nlt (b := 24) (by omega) (by omega)), Nat.min_eq_right (by omega)]
      rfl
  have hM : min st.2.2.1 24 ≤ 24 := Nat.min_le_right _ _
  have hM1 : min st.2.2.1 24 ≤ st.2.2.1 := Nat.min_le_left _ _
  unfold traceS at k
  generalize min st.2.2.1 24 = M at k emin hM hM1
  simp only [gX7_trace_0, t0, true_and, s5, emin]
  refine s_within ?_
  rw [inB_Rg (by omega)]
  simp only [Option.toList_some, List.cons_append, List.nil_append, gX7_trace_16, if10]
  cases c : isR M v with
  | false =>
    rw [if_neg (by rw [c]; simp)] at k
    simp only [if_true, gX7_trace_28, gX7_trace_29]
    exact k
  | true =>
    rw [if_pos c] at k
    obtain ⟨j, hj, rfl⟩ := isR_g c (by omega)
    rw [nI_clamp (by omega), ← s6 j (by omega) (by omega)] at k
    simp only [reduceCtorEq, if_false, gX7_trace_19, t0, true_and, mr_33 hm, rf_some, rIn_at (mt_74 hm) (show j < 24 by omega) (by decide), nI_clamp (show j < 2 ^ 31 by omega), gX7_trace_29]
    exact k
theorem j_trace : Jn X (d + 50) (d + 50) mX6_trace [.ref 0, .int v] mX7_trace [.ref 54, .int v] := by
  rintro T I J R ⟨ht1, ht2, b, b2, n, l, r, sh, ld, im, tp, ch, st, hb, hH, hC, hM, hA, hP⟩
  exact ⟨traceS st v, c_trace (d := d + 47) hH.1 hC.2.2.2.2.2.1 hP.2.2.2.1 ⟨rfl, rfl, m_trace (d := d + 47) hM.1 hA.2.2.2.2.2 hP.2.2.2.1 ⟨rfl, ht1, ht2, b, b2, n, l, r, sh, ld, im, tp, ch, st, hb, hH, hC, hM, hA, hP⟩⟩⟩
def bodyS (st : tSt) (v : Int32) : Int32 := if inB v 0 7 = true then (if st.1 = 50 then -3 else nI st.1) else -1
def bodySt (st : tSt) (v : Int32) : tSt := if inB v 0 7 = true then (if st.1 = 50 then st else (st.1 + 1, va_up st.2.1 st.1 v.toNatClampNeg, st.2.2.1, st.2.2.2)) else st
theorem c_body (h0 : T[0]? = some (3, 6)) (h : CSt T I R st) (ho : okSt st) (k : ∀ I' : tI, (∀ x, x ≠ 38 → x ≠ 39 → I' x = I x) → CSt T I' R (bodySt st v) → Q (some (.int (bodyS st v))) (T, I', J, R)) : Ex X (d + 3) mX6_body 0 [.ref 0, .int v] [] (T, I, J, R) Q := by
  have h' := h
  obtain ⟨s1, s2, s3, s4, s5, s6⟩ := h
  obtain ⟨u0, u39, u40, v0, v1⟩ := id s2
  obtain ⟨o1, o2, o3⟩ := ho
  unfold bodyS bodySt at k
  simp only [gX6_body_0]
  refine c_isKind ?_
  simp only [Option.toList_some, List.cons_append, List.nil_append, gX6_body_4, ne_eq, if10]
  cases c : inB v 0 7 with
  | false =>
    rw [if_neg (by rw [c]; simp), if_neg (by rw [c]; simp)] at k
    simp only [not_true_eq_false, if_false, gX6_body_7]
    exact k I (fun _ _ _ => rfl) h'
  | true =>
    rw [if_pos c, if_pos c] at k
    simp only [reduceCtorEq, not_false_eq_true, if_true, gX6_body_9, h0, true_and, s1, rf_some, u0, gX5_isFull_0, s3]
    by_cases e : st.1 = 50
    · rw [if_pos e, if_pos e] at k
      have ge : ¬ nI st.1 < 50 := by rw [e]; decide
      simp only [ge, if_false, gX5_isFull_9, gX5_isFull_14, or_true, true_and, Option.toList_some, List.cons_append, List.nil_append, gX6_body_16, show ¬ (1 : Int32) = 0 by decide, gX6_body_19, gX6_body_32]
      exact k I (fun _ _ _ => rfl) h'
    · rw [if_neg e, if_neg e] at k
      have lt : st.1 < 50 := by omega
      have lt' : nI st.1 < 50 := nI_lt (b := 50) lt (by decide)
      simp only [lt', if_true, gX5_isFull_13, gX5_isFull_14, true_or, true_and, Option.toList_some, List.cons_append, List.nil_append, gX6_body_16, gX6_body_24, h0, s1, rf_some, u0, gX5_add_0, gX5_isFull_0, s3, gX5_add_4, gX5_add_10, v0, rIn_at u39 lt (by decide), nI_clamp (show st.1 < 2 ^ 31 by omega), up_ne _ _ (show (38 : Nat) ≠ 39 by decide), nI_1, gX6_body_32]
      obtain ⟨j, hj, rfl⟩ := inB_n (m := 7) (by decide) c
      rw [nI_clamp (show j < 2 ^ 31 by omega)] at k
      refine k _ (fun x x1 x2 => by rw [up_ne _ _ x1, up_ne _ _ x2]) ⟨s1, s2, by rw [up_self, up_self], fun i hi => ?_, by rw [up_self, up_ne _ _ (by decide)]; exact s5, fun i i1 i2 => by rw [up_ne _ _ (by decide), up_ne _ _ (by decide)]; exact s6 i i1 i2⟩
      have hi' : i < st.1 + 1 := hi
      rw [up_ne _ _ (by decide), up_self]
      show _ = nI (va_up st.2.1 st.1 j i)
      by_cases ei : i = st.1
      · rw [ei, up_self, up_self]
      · rw [up_ne _ _ ei, up_ne _ _ ei]
        exact s4 i (by omega)
theorem m_body (hm : IsMod T R) (h : MSt I st) (ho : okSt st) (k : ∀ I' : tI, (∀ x, x ≠ 54 → x ≠ 73 → I' x = I x) → (∀ i, i ≠ 30 → I' 54 i = I 54 i) → MSt I' (bodySt st v) → Q (some (.int (bodyS st v))) (T, I', J, R)) : Ex X (d + 3) mX7_body 0 [.ref 54, .int v] [] (T, I, J, R) Q := by
  have t0 := mt_54 hm
  have h' := h
  obtain ⟨s3, s4, s5, s6⟩ := h
  obtain ⟨o1, o2, o3⟩ := ho
  unfold bodyS bodySt at k
  simp only [gX7_body_0]
  refine s_within ?_
  simp only [Option.toList_some, List.cons_append, List.nil_append, gX7_body_7, ne_eq, if10]
  cases c : inB v 0 7 with
  | false =>
    rw [if_neg (by rw [c]; simp), if_neg (by rw [c]; simp)] at k
    simp only [not_true_eq_false, if_false, gX7_body_10]
    exact k I (fun _ _ _ => rfl) (fun _ _ => rfl) h'
  | true =>
    rw [if_pos c, if_pos c] at k
    simp only [reduceCtorEq, not_false_eq_true, if_true, gX7_body_12, t0, true_and, s3, ne_eq]
    by_cases e : st.1 = 50
    · rw [if_pos e, if_pos e] at k
      simp only [e, show nI 50 = 50 by decide, not_true_eq_false, if_false, gX7_body_21]
      exact k I (fun _ _ _ => rfl) (fun _ _ => rfl) h'
    · rw [if_neg e, if_neg e] at k
      have lt : st.1 < 50 := by omega
      have ne : ¬ nI st.1 = 50 := fun z => e ((nI_eq (by omega) (by decide)).mp (show nI st.1 = nI 50 from z))
      simp only [ne, not_false_eq_true, if_true, gX7_body_24, t0, true_and, mr_31 hm, rf_some, s3, rIn_at (mt_73 hm) lt (by decide), nI_clamp (show st.1 < 2 ^ 31 by omega), up_ne _ _ (show (54 : Nat) ≠ 73 by decide), nI_1]
      obtain ⟨j, hj, rfl⟩ := inB_n (m := 7) (by decide) c
      rw [nI_clamp (show j < 2 ^ 31 by omega)] at k
      refine k _ (fun x x1 x2 => by rw [up_ne _ _ x1, up_ne _ _ x2]) (fun i hi => by rw [up_self, up_ne _ _ hi]) ⟨by rw [up_self, up_self], fun i hi => ?_, by rw [up_self, up_ne _ _ (by decide)]; exact s5, fun i i1 i2 => by rw [up_ne _ _ (by decide), up_ne _ _ (by decide)]; exact s6 i i1 i2⟩
      have hi' : i < st.1 + 1 := hi
      rw [up_ne _ _ (by decide), up_self]
      show _ = nI (va_up st.2.1 st.1 j i)
      by_cases ei : i = st.1
      · rw [ei, up_self, up_self]
      · rw [up_ne _ _ ei, up_ne _ _ ei]
        exact s4 i (by omega)
/-- only the STEPS have changed, on both sides -/
theorem Rel_st1 {st' : tSt} (hT : T.length ≤ 600000 ∧ rSl T ≤ 7302250) (hb : b ≠ b2 ∧ (b = 27 ∨ b = 30)) (hH : HS T I R b n l r) (hC : CA T I J R b2 sh ld im tp ch st) (hM : MS T I R n l r) (hA : MA I J sh ld im tp ch st) (hP : PA n r sh im tp ch st) (h1 : ∀ x, x ≠ 38 → x ≠ 39 → x ≠ 40 → I1 x = I x) (hc : CSt T I1 R st') (h2 : ∀ x, x ≠ 54 → x ≠ 73 → x ≠ 74 → I2 x = I1 x) (h3 : ∀ i, i ≠ 30 → i ≠ 32 → I2 54 i = I1 54 i) (hm : MSt I2 st') (ho : okSt st') (hz : st.1 ≤ st'.1) : Rl (T, I2, J, R) := by
  obtain ⟨⟨a1, a2⟩, a3, a4, a5, a6, a7, a8, a9⟩ := hC
  obtain ⟨m1, m2, m3, m4, m5, m6⟩ := hA
  obtain ⟨f1, f2, f3, f4, f5, f6⟩ := hP
  have bb := hb.2
  have s54 : I1 54 = I 54 := h1 54 (by decide) (by decide) (by decide)
  have all : ∀ x, x ≠ 38 → x ≠ 39 → x ≠ 40 → x ≠ 54 → x ≠ 73 → x ≠ 74 → I2 x = I x := fun x x1 x2 x3 x4 x5 x6 => by rw [h2 x x4 x5 x6, h1 x x1 x2 x3]
  have sl : ∀ i, i ≠ 30 → i ≠ 32 → I2 54 i = I 54 i := fun i i1 i2 => by rw [h3 i i1 i2, s54]
  have al : ∀ x, x < 38 ∨ (41 ≤ x ∧ x < 54) ∨ (55 ≤ x ∧ x < 73) ∨ 75 ≤ x → I2 x = I x := fun x hx => all x (by omega) (by omega) (by omega) (by omega) (by omega) (by omega)
  exact ⟨hT.1, hT.2, b, b2, n, l, r, sh, ld, im, tp, ch, st', hb, HS_f2 hH (fun x hx => al x (by omega)), ⟨⟨a1, fun s hs => CSh_f2 (a2 s hs) (al _ (by omega)) rfl⟩, CLd_f a3 (al _ (by omega)), CIm_f a4 (fun x hx => al _ (by omega)), CTp_f a5 (al _ (by omega)) (al _ (by omega)), CCh_f a6 (fun x hx => al _ (by omega)), CSt_f hc (fun x hx => h2 x (by omega) (by omega) (by omega)), a8, a9⟩, MS_fs hM (fun x hx => al x (by omega)) (sl 0 (by decide) (by decide)) (sl 6 (by decide) (by decide)) (sl 7 (by decide) (by decide)), ⟨fun s hs => MSh_f (m1 s hs) (al _ (by omega)) (al _ (by omega)) rfl, fun i hi => by show I2 69 i = _; rw [al 69 (by omega)]; exact m2 i hi, MIm_f m3 (sl _ (by omega) (by omega)) (sl _ (by omega) (by omega)) (al _ (by omega)) (al _ (by omega)), MTp_f m4 (sl _ (by omega) (by omega)) (al _ (by omega)), MCh_f m5 (sl _ (by omega) (by omega)) (sl _ (by omega) (by omega)) (al _ (by omega)), hm⟩, f1, f2, f3, ho, fun s hs k hk e => Nat.lt_of_lt_of_le (f5 s hs k hk e) hz, f6⟩
theorem j_body : Jn X (d + 50) (d + 50) mX6_body [.ref 0, .int v] mX7_body [.ref 54, .int v] := by
  rintro T I J R ⟨ht1, ht2, b, b2, n, l, r, sh, ld, im, tp, ch, st, hb, hH, hC, hM, hA, hP⟩
  have ho := hP.2.2.2.1
  have ho' : okSt (bodySt st v) ∧ st.1 ≤ (bodySt st v).1 := by
    unfold bodySt
    by_cases c : inB v 0 7 = true
    · rw [if_pos c]
      by_cases e : st.1 = 50
      · rw [if_pos e]; exact ⟨ho, Nat.le_refl _⟩
      · rw [if_neg e]
        obtain ⟨o1, o2, o3⟩ := ho
        refine ⟨⟨by show st.1 + 1 ≤ 50; omega, fun j hj => ?_, o3⟩, Nat.le_succ _⟩
        have hj' : j < st.1 + 1 := hj
        obtain ⟨q, hq, rfl⟩ := inB_n (m := 7) (by decide) c
        show va_up st.2.1 st.1 (nI q).toNatClampNeg j < 8
        rw [nI_clamp (show q < 2 ^ 31 by omega)]
        by_cases ej : j = st.1
        · rw [ej, up_self]; omega
        · rw [up_ne _ _ ej]; exact o2 j (by omega)
    · rw [if_neg c]; exact ⟨ho, Nat.le_refl _⟩
  refine ⟨bodyS st v, c_body (d := d + 47) hH.1 hC.2.2.2.2.2.1 ho (fun I1 h1 hc => ⟨rfl, rfl, ?_⟩)⟩
  refine m_body (d := d + 47) hM.1 (MSt_f hA.2.2.2.2.2 (by rw [h1 54 (by decide) (by decide)]) (by rw [h1 54 (by decide) (by decide)]) (h1 73 (by decide) (by decide)) (h1 74 (by decide) (by decide))) ho (fun I2 h2 h3 hm => ⟨rfl, ?_⟩)
  exact Rel_st1 ⟨ht1, ht2⟩ hb hH hC hM hA hP (fun x x1 x2 _ => h1 x x1 x2) hc (fun x x1 x2 _ => h2 x x1 x2) (fun i i1 _ => h3 i i1) hm ho'.1 ho'.2
end D2
