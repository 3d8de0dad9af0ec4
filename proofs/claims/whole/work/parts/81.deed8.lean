/-! PURE: shift joined -/
theorem lg_p (x y : Int64) : (0 < lg_cmp x y) ↔ y.toInt < x.toInt := by
  unfold lg_cmp
  simp only [gt_iff_lt, Int64.lt_iff_toInt_lt]
  by_cases h : y.toInt < x.toInt
  · rw [if_pos h]
    exact ⟨fun _ => h, fun _ => by decide⟩
  · rw [if_neg h]
    refine ⟨fun q => ?_, fun q => absurd q h⟩
    split at q <;> exact absurd q (by decide)
theorem lg_n (x y : Int64) : (lg_cmp x y ≤ 0) ↔ ¬ y.toInt < x.toInt := by
  rw [← lg_p, Int32.not_lt]
theorem lg_l (x y : Int64) : (lg_cmp x y < 0) ↔ x.toInt < y.toInt := by
  unfold lg_cmp
  simp only [gt_iff_lt, Int64.lt_iff_toInt_lt, ← Int64.toInt_inj]
  by_cases h : y.toInt < x.toInt
  · rw [if_pos h]
    exact ⟨fun q => absurd q (by decide), fun q => by omega⟩
  · rw [if_neg h]
    by_cases e : x.toInt = y.toInt
    · rw [if_pos e]
      exact ⟨fun q => absurd q (by decide), fun q => by omega⟩
    · rw [if_neg e]
      exact ⟨fun _ => by omega, fun _ => by decide⟩
theorem z_ladd (a b : Int32) : (a.toInt64 + b.toInt64).toInt = a.toInt + b.toInt := by
  have h1 := a.le_toInt
  have h2 := a.toInt_lt
  have h3 := b.le_toInt
  have h4 := b.toInt_lt
  rw [Int64.toInt_add, Int32.toInt_toInt64, Int32.toInt_toInt64, Int.bmod_def]
  omega
/-- n places from i on, in a row of ln -/
def hpS (ln : Nat) (i n : Int32) : Bool := decide (0 ≤ i.toInt ∧ 0 ≤ n.toInt ∧ i.toInt + n.toInt ≤ ln)
section D8
variable {X : tX} {T : tT} {I I' I1 I2 : tI} {J J' J1 J2 : tJ} {R R' : tR} {Q : tQ} {d b b2 n L0 s ln : Nat} {xs : Nat → Int32} {l : tL} {r : Nat → Nat → Int32} {sh sh' : tSh} {ld : Nat → Int32} {im : tIm} {tp : tTp} {ch : tCh} {st : tSt} {v w x hk : Int32} {el : Nat → Int64} {z : Int64}
theorem c_hasPlaces {i n : Int32} (t0 : T[42 + 2 * s]? = some (3, 4)) (h3 : I (42 + 2 * s) 3 = nI ln) (hl : ln ≤ 60) (k : Q (some (.int (if hpS ln i n = true then 1 else 0))) (T, I, J, R)) : Ex X d mX4_hasPlaces 0 [.ref (42 + 2 * s), .int i, .int n] [] (T, I, J, R) Q := by
  have z0 : (0 : Int32).toInt = 0 := by decide
  have e1 : i < 0 ↔ i.toInt < 0 := by rw [Int32.lt_iff_toInt_lt, z0]
  have e2 : n < 0 ↔ n.toInt < 0 := by rw [Int32.lt_iff_toInt_lt, z0]
  have e3 : nI ln < n ↔ (ln : Int) < n.toInt := by rw [Int32.lt_iff_toInt_lt, nI_toInt (by omega)]
  simp only [gX4_hasPlaces_0, gX4_hasPlaces_4, gX4_hasPlaces_8, gX4_hasPlaces_16, t0, true_and, h3]
  have no : hpS ln i n = false → Ex X d mX4_hasPlaces 30 [.ref (42 + 2 * s), .int i, .int n] [] (T, I, J, R) Q := by
    intro c
    rw [if_neg (by rw [c]; simp)] at k
    simp only [gX4_hasPlaces_30, gX4_hasPlaces_31, true_or, true_and]
    exact k
  by_cases c1 : i < 0
  · simp only [c1, if_true]
    exact no (decide_eq_false (fun q => by rw [e1] at c1; omega))
  simp only [c1, if_false]
  by_cases c2 : n < 0
  · simp only [c2, if_true]
    exact no (decide_eq_false (fun q => by rw [e2] at c2; omega))
  simp only [c2, if_false]
  by_cases c3 : nI ln < n
  · simp only [c3, if_true]
    exact no (decide_eq_false (fun q => by rw [e3] at c3; rw [e1] at c1; omega))
  simp only [c3, if_false]
  rw [e1] at c1
  rw [e2] at c2
  rw [e3] at c3
  have e4 : (nI ln - n).toInt = (ln : Int) - n.toInt := by
    rw [Int32.toInt_sub, nI_toInt (by omega), Int.bmod_def]
    omega
  by_cases c4 : nI ln - n < i
  · simp only [c4, if_true]
    rw [Int32.lt_iff_toInt_lt, e4] at c4
    exact no (decide_eq_false (fun q => by omega))
  · simp only [c4, if_false, gX4_hasPlaces_26, gX4_hasPlaces_31, or_true, true_and]
    rw [Int32.lt_iff_toInt_lt, e4] at c4
    rw [if_pos (show hpS ln i n = true from decide_eq_true ⟨by omega, by omega, by omega⟩)] at k
    exact k
theorem hp_n {i n : Int32} (h : hpS ln i n = true) (hl : ln ≤ 60) : ∃ p m : Nat, i = nI p ∧ n = nI m ∧ p + m ≤ ln := by
  have z0 : (0 : Int32).toInt = 0 := by decide
  obtain ⟨h1, h2, h3⟩ := of_decide_eq_true h
  obtain ⟨p, hp, rfl⟩ := nI_of (x := i) (by rw [Int32.lt_iff_toInt_lt, z0]; omega)
  obtain ⟨m, hm, rfl⟩ := nI_of (x := n) (by rw [Int32.lt_iff_toInt_lt, z0]; omega)
  rw [nI_toInt hp, nI_toInt hm] at h3
  exact ⟨p, m, rfl, rfl, by omega⟩
def sfB (sh : tSh) (s o : Int32) : Bool := decide (inB (sh.1 s.toNatClampNeg) 0 4 = true ∧ inB (sh.1 o.toNatClampNeg) 0 4 = true ∧ sh.1 s.toNatClampNeg = sh.1 o.toNatClampNeg)
def sfZ (sh : tSh) (s i o j n : Int32) : Int32 := if inB s 0 5 = true ∧ inB o 0 5 = true then (if sh.1 s.toNatClampNeg = -1 ∨ sh.1 o.toNatClampNeg = -1 then -11 else if sfB sh s o = true then (if hpS (sh.2.1 s.toNatClampNeg) i n = true ∧ hpS (sh.2.1 o.toNatClampNeg) j n = true then n else -13) else -12) else -1
def sfS (sh : tSh) (s i o j n : Int32) : tSh := if (inB s 0 5 = true ∧ inB o 0 5 = true) ∧ sfB sh s o = true ∧ hpS (sh.2.1 s.toNatClampNeg) i n = true ∧ hpS (sh.2.1 o.toNatClampNeg) j n = true then shU sh o.toNatClampNeg (sh.1 o.toNatClampNeg) (sh.2.1 o.toNatClampNeg) (va_cpy (sh.2.2 s.toNatClampNeg) (sh.2.2 o.toNatClampNeg) i.toNatClampNeg j.toNatClampNeg n.toNatClampNeg) else sh
set_option maxHeartbeats 2000000 in
theorem c_shift {s i o j n : Int32} (h0 : T[0]? = some (3, 6)) (hS : HSh T R ∧ ∀ s, s < 6 → CSh T I J R s (sh.1 s) (sh.2.1 s) (sh.2.2 s)) (k : ∀ (J' : tJ), (∀ x, ¬ (43 ≤ x ∧ x ≤ 53) → J' x = J x) → (∀ y, y < 6 → CSh T I J' R y ((sfS sh s i o j n).1 y) ((sfS sh s i o j n).2.1 y) ((sfS sh s i o j n).2.2 y)) → Q (some (.int (sfZ sh s i o j n))) (T, I, J', R)) : Ex X (d + 3) mX6_shift 0 [.ref 0, .int s, .int i, .int o, .int j, .int n, rU, rU] [] (T, I, J, R) Q := by
  obtain ⟨⟨t41, r11, r41⟩, hSa⟩ := hS
  have no : ¬ ((inB s 0 5 = true ∧ inB o 0 5 = true) ∧ sfB sh s o = true ∧ hpS (sh.2.1 s.toNatClampNeg) i n = true ∧ hpS (sh.2.1 o.toNatClampNeg) j n = true) → Q (some (.int (sfZ sh s i o j n))) (T, I, J, R) := by
    intro c
    unfold sfS at k
    rw [if_neg c] at k
    exact k J (fun _ _ => rfl) hSa
  unfold sfZ at no k
  have bad : ¬ (inB s 0 5 = true ∧ inB o 0 5 = true) → Ex X (d + 3) mX6_shift 14 [.ref 0, .int s, .int i, .int o, .int j, .int n, rU, rU] [] (T, I, J, R) Q := by
    intro c
    have := no (fun q => c q.1)
    rw [if_neg c] at this
    simp only [gX6_shift_14]
    exact this
  simp only [gX6_shift_0]
  refine c_isShelf ?_
  simp only [Option.toList_some, List.cons_append, List.nil_append, gX6_shift_4, if10]
  cases g1 : inB s 0 5 with
  | false =>
    simp only [if_true]
    exact bad (fun c => absurd c.1 (by rw [g1]; simp))
  | true =>
  simp only [reduceCtorEq, if_false, gX6_shift_7]
  refine c_isShelf ?_
  simp only [Option.toList_some, List.cons_append, List.nil_append, gX6_shift_11, ne_eq, if10]
  cases g2 : inB o 0 5 with
  | false =>
    simp only [not_true_eq_false, if_false]
    exact bad (fun c => absurd c.2 (by rw [g2]; simp))
  | true =>
  rw [if_pos ⟨g1, g2⟩] at no k
  obtain ⟨a, ha, rfl⟩ := inB_5 g1
  obtain ⟨c, hc, rfl⟩ := inB_5 g2
  have ca : (nI a).toNatClampNeg = a := nI_clamp (by omega)
  have cc : (nI c).toNatClampNeg = c := nI_clamp (by omega)
  have hA := hSa a ha
  have hC := hSa c hc
  obtain ⟨a0, a1, a2, a3⟩ := id hA
  obtain ⟨c0, c1, c2, c3⟩ := id hC
  unfold sfS sfB at k
  unfold sfB at no
  rw [ca, cc] at no k
  simp only [reduceCtorEq, not_false_eq_true, if_true, gX6_shift_16, h0, true_and, r11, rf_some, rIn_at t41 ha (by decide), rIn_at t41 hc (by decide), ca, cc, r41 a ha, r41 c hc, a0]
  refine c_isBare hA ?_
  simp only [Option.toList_some, List.cons_append, List.nil_append, gX6_shift_37, ne_eq]
  by_cases e1 : sh.1 a = -1
  · have := no (fun q => absurd (of_decide_eq_true q.2.1).1 (by rw [e1]; decide +kernel))
    rw [if_pos (Or.inl e1)] at this
    simp only [e1, if_true, show ¬ (1 : Int32) = 0 by decide, not_false_eq_true, gX6_shift_48]
    exact this
  simp only [e1, if_false, not_true_eq_false, gX6_shift_40, c0, true_and]
  refine c_isBare hC ?_
  simp only [Option.toList_some, List.cons_append, List.nil_append, gX6_shift_45]
  by_cases e2 : sh.1 c = -1
  · have := no (fun q => absurd (of_decide_eq_true q.2.1).2.1 (by rw [e2]; decide +kernel))
    rw [if_pos (Or.inr e2)] at this
    simp only [e2, if_true, show ¬ (1 : Int32) = 0 by decide, if_false, gX6_shift_48]
    exact this
  rw [if_neg (show ¬ (sh.1 a = -1 ∨ sh.1 c = -1) from fun q => q.elim e1 e2)] at no k
  simp only [e2, if_false, if_true, gX6_shift_51, a0, true_and]
  have bad2 : ¬ (inB (sh.1 a) 0 4 = true ∧ inB (sh.1 c) 0 4 = true ∧ sh.1 a = sh.1 c) → Ex X (d + 3) mX6_shift 80 [.ref 0, .int (nI a), .int i, .int (nI c), .int j, .int n, .ref (42 + 2 * a), .ref (42 + 2 * c)] [] (T, I, J, R) Q := by
    intro q
    have := no (fun z => q (of_decide_eq_true z.2.1))
    rw [if_neg (fun z => q (of_decide_eq_true z))] at this
    simp only [gX6_shift_80]
    exact this
  refine c_isRow hA ?_
  simp only [Option.toList_some, List.cons_append, List.nil_append, gX6_shift_56, if10]
  cases g3 : inB (sh.1 a) 0 4 with
  | false =>
    simp only [if_true]
    exact bad2 (fun q => absurd q.1 (by rw [g3]; simp))
  | true =>
  simp only [reduceCtorEq, if_false, gX6_shift_59, c0, true_and]
  refine c_isRow hC ?_
  simp only [Option.toList_some, List.cons_append, List.nil_append, gX6_shift_64, if10]
  cases g4 : inB (sh.1 c) 0 4 with
  | false =>
    simp only [if_true]
    exact bad2 (fun q => absurd q.2.1 (by rw [g4]; simp))
  | true =>
  obtain ⟨u, hu, eu, p0, p2, p3, pl, pe⟩ := CSh_row hA g3
  obtain ⟨w, hw, ew, q0, q2, q3, ql, qe⟩ := CSh_row hC g4
  simp only [reduceCtorEq, if_false, gX6_shift_67, a0, c0, true_and, p2, q2]
  by_cases e3 : sh.1 a = sh.1 c
  rotate_left
  · have ne : ¬ nI u = nI w := by rw [← eu, ← ew]; exact e3
    simp only [ne, if_false]
    exact bad2 (fun q => e3 q.2.2)
  have ee : nI u = nI w := by rw [← eu, ← ew]; exact e3
  have kd : decide (inB (sh.1 a) 0 4 = true ∧ inB (sh.1 c) 0 4 = true ∧ sh.1 a = sh.1 c) = true := decide_eq_true ⟨g3, g4, e3⟩
  rw [if_pos kd] at no k
  simp only [ee, if_true, gX6_shift_83, a0, true_and]
  have bad3 : ¬ (hpS (sh.2.1 a) i n = true ∧ hpS (sh.2.1 c) j n = true) → Ex X (d + 3) mX6_shift 106 [.ref 0, .int (nI a), .int i, .int (nI c), .int j, .int n, .ref (42 + 2 * a), .ref (42 + 2 * c)] [] (T, I, J, R) Q := by
    intro q
    have := no (fun z => q z.2.2)
    rw [if_neg q] at this
    simp only [gX6_shift_106]
    exact this
  refine c_hasPlaces a0 p3 pl ?_
  simp only [Option.toList_some, List.cons_append, List.nil_append, gX6_shift_91, if10]
  cases g5 : hpS (sh.2.1 a) i n with
  | false =>
    simp only [if_true]
    exact bad3 (fun q => absurd q.1 (by rw [g5]; simp))
  | true =>
  simp only [reduceCtorEq, if_false, gX6_shift_94, c0, true_and]
  refine c_hasPlaces c0 q3 ql ?_
  simp only [Option.toList_some, List.cons_append, List.nil_append, gX6_shift_103, ne_eq, if10]
  cases g6 : hpS (sh.2.1 c) j n with
  | false =>
    simp only [not_true_eq_false, if_false]
    exact bad3 (fun q => absurd q.2 (by rw [g6]; simp))
  | true =>
  rw [if_pos (show hpS (sh.2.1 a) i n = true ∧ hpS (sh.2.1 c) j n = true from ⟨g5, g6⟩), if_pos ⟨⟨g1, g2⟩, kd, g5, g6⟩] at k
  obtain ⟨p, m, rfl, rfl, hpm⟩ := hp_n g5 pl
  obtain ⟨q, m', rfl, em, hqm⟩ := hp_n g6 ql
  obtain rfl : m = m' := (nI_eq (by omega) (by omega)).mp em
  simp only [reduceCtorEq, not_false_eq_true, if_true, gX6_shift_109, a0, c0, true_and, a2, c2, rf_some]
  have cp : (nI p).toNatClampNeg = p := nI_clamp (by omega)
  have cq : (nI q).toNatClampNeg = q := nI_clamp (by omega)
  have cm : (nI m).toNatClampNeg = m := nI_clamp (by omega)
  rw [cX6_shift_124 a1 c1 ⟨nI_pos (by omega), nI_pos (by omega), nI_pos (by omega)⟩ (by rw [cp, cq, cm]; omega)]
  rw [cp, cq, cm] at k ⊢
  simp only [gX6_shift_109]
  refine k _ (fun x hx => up_ne _ _ (by omega)) ?_
  refine CSh_all hSa (fun _ _ _ => rfl) (fun s' h6 hne => up_ne _ _ (by omega)) ⟨c0, c1, c2, Or.inr (Or.inl ⟨w, hw, ew, q0, q2, q3, ql, fun y hy => ?_⟩)⟩
  rw [up_self]
  by_cases ey : q ≤ y ∧ y < q + m
  · rw [pk_cpy_in ey.1 ey.2, pk_cpy_in ey.1 ey.2]
    exact pe _ (by omega)
  · rw [pk_cpy_out (by omega), pk_cpy_out (by omega)]
    exact qe y hy
set_option maxHeartbeats 2000000 in
theorem m_shift {s i o j n : Int32} (hm : IsMod T R) (hS : ∀ s, s < 6 → MSh I J s (sh.1 s) (sh.2.1 s) (sh.2.2 s)) (k : ∀ (J' : tJ), (∀ x, x ≠ 77 → J' x = J x) → (∀ y, y < 6 → MSh I J' y ((sfS sh s i o j n).1 y) ((sfS sh s i o j n).2.1 y) ((sfS sh s i o j n).2.2 y)) → Q (some (.int (sfZ sh s i o j n))) (T, I, J', R)) : Ex X (d + 3) mX7_shift 0 [.ref 54, .int s, .int i, .int o, .int j, .int n, rU] [] (T, I, J, R) Q := by
  have t0 := mt_54 hm
  have no : ¬ ((inB s 0 5 = true ∧ inB o 0 5 = true) ∧ sfB sh s o = true ∧ hpS (sh.2.1 s.toNatClampNeg) i n = true ∧ hpS (sh.2.1 o.toNatClampNeg) j n = true) → Q (some (.int (sfZ sh s i o j n))) (T, I, J, R) := by
    intro c
    unfold sfS at k
    rw [if_neg c] at k
    exact k J (fun _ _ => rfl) hS
  unfold sfZ at no k
  have bad : ¬ (inB s 0 5 = true ∧ inB o 0 5 = true) → Ex X (d + 3) mX7_shift 14 [.ref 54, .int s, .int i, .int o, .int j, .int n, rU] [] (T, I, J, R) Q := by
    intro c
    have := no (fun q => c q.1)
    rw [if_neg c] at this
    simp only [gX7_shift_14]
    exact this
  simp only [gX7_shift_0]
  refine m_isShelf ?_
  simp only [Option.toList_some, List.cons_append, List.nil_append, gX7_shift_4, if10]
  cases g1 : inB s 0 5 with
  | false =>
    simp only [if_true]
    exact bad (fun c => absurd c.1 (by rw [g1]; simp))
  | true =>
  simp only [reduceCtorEq, if_false, gX7_shift_7]
  refine m_isShelf ?_
  simp only [Option.toList_some, List.cons_append, List.nil_append, gX7_shift_11, ne_eq, if10]
  cases g2 : inB o 0 5 with
  | false =>
    simp only [not_true_eq_false, if_false]
    exact bad (fun c => absurd c.2 (by rw [g2]; simp))
  | true =>
  rw [if_pos ⟨g1, g2⟩] at no k
  obtain ⟨a, ha, rfl⟩ := inB_5 g1
  obtain ⟨c, hc, rfl⟩ := inB_5 g2
  have ca : (nI a).toNatClampNeg = a := nI_clamp (by omega)
  have cc : (nI c).toNatClampNeg = c := nI_clamp (by omega)
  have hA := hS a ha
  have hC := hS c hc
  obtain ⟨a0, a1, a2, a3⟩ := id hA
  obtain ⟨c0, c1, c2, c3⟩ := id hC
  have i75a : rIn T 75 0 (nI a) := rIn_at (mt_75 hm) ha (by decide)
  have i75c : rIn T 75 0 (nI c) := rIn_at (mt_75 hm) hc (by decide)
  have i76a : rIn T 76 0 (nI a) := rIn_at (mt_76 hm) ha (by decide)
  have i76c : rIn T 76 0 (nI c) := rIn_at (mt_76 hm) hc (by decide)
  unfold sfS sfB at k
  unfold sfB at no
  rw [ca, cc] at no k
  simp only [reduceCtorEq, not_false_eq_true, if_true, gX7_shift_16, t0, true_and, mr_34 hm, rf_some, i75a, ca, a0]
  by_cases e1 : sh.1 a = -1
  · have := no (fun q => absurd (of_decide_eq_true q.2.1).1 (by rw [e1]; decide +kernel))
    rw [if_pos (Or.inl e1)] at this
    simp only [e1, if_true, gX7_shift_36]
    exact this
  simp only [e1, if_false, gX7_shift_26, t0, true_and, mr_34 hm, rf_some, i75c, cc, c0, ne_eq]
  by_cases e2 : sh.1 c = -1
  · have := no (fun q => absurd (of_decide_eq_true q.2.1).2.1 (by rw [e2]; decide +kernel))
    rw [if_pos (Or.inr e2)] at this
    simp only [e2, not_true_eq_false, if_false, gX7_shift_36]
    exact this
  rw [if_neg (show ¬ (sh.1 a = -1 ∨ sh.1 c = -1) from fun q => q.elim e1 e2)] at no k
  simp only [e2, not_false_eq_true, if_true, gX7_shift_39, t0, true_and]
  have bad2 : ¬ (inB (sh.1 a) 0 4 = true ∧ inB (sh.1 c) 0 4 = true ∧ sh.1 a = sh.1 c) → Ex X (d + 3) mX7_shift 70 [.ref 54, .int (nI a), .int i, .int (nI c), .int j, .int n, rU] [] (T, I, J, R) Q := by
    intro q
    have := no (fun z => q (of_decide_eq_true z.2.1))
    rw [if_neg (fun z => q (of_decide_eq_true z))] at this
    simp only [gX7_shift_70]
    exact this
  refine m_isRow hm hA ha ?_
  simp only [Option.toList_some, List.cons_append, List.nil_append, gX7_shift_44, if10]
  cases g3 : inB (sh.1 a) 0 4 with
  | false =>
    simp only [if_true]
    exact bad2 (fun q => absurd q.1 (by rw [g3]; simp))
  | true =>
  simp only [reduceCtorEq, if_false, gX7_shift_47, t0, true_and]
  refine m_isRow hm hC hc ?_
  simp only [Option.toList_some, List.cons_append, List.nil_append, gX7_shift_52, if10]
  cases g4 : inB (sh.1 c) 0 4 with
  | false =>
    simp only [if_true]
    exact bad2 (fun q => absurd q.2.1 (by rw [g4]; simp))
  | true =>
  simp only [reduceCtorEq, if_false, gX7_shift_55, t0, true_and, mr_34 hm, rf_some, i75a, i75c, ca, cc, a0, c0]
  by_cases e3 : sh.1 a = sh.1 c
  rotate_left
  · simp only [e3, if_false]
    exact bad2 (fun q => e3 q.2.2)
  have kd : decide (inB (sh.1 a) 0 4 = true ∧ inB (sh.1 c) 0 4 = true ∧ sh.1 a = sh.1 c) = true := decide_eq_true ⟨g3, g4, e3⟩
  rw [if_pos kd] at no k
  simp only [e3, if_true]
  have bad3 : ¬ (hpS (sh.2.1 a) i n = true ∧ hpS (sh.2.1 c) j n = true) → Ex X (d + 3) mX7_shift 122 [.ref 54, .int (nI a), .int i, .int (nI c), .int j, .int n, rU] [] (T, I, J, R) Q := by
    intro q
    have := no (fun z => q z.2.2)
    rw [if_neg q] at this
    simp only [gX7_shift_122]
    exact this
  have z0 : (0 : Int32).toInt = 0 := by decide
  have la : (nI (sh.2.1 a)).toInt64.toInt = (sh.2.1 a : Int) := by rw [Int32.toInt_toInt64, nI_toInt (by omega)]
  have lc : (nI (sh.2.1 c)).toInt64.toInt = (sh.2.1 c : Int) := by rw [Int32.toInt_toInt64, nI_toInt (by omega)]
  simp only [gX7_shift_73]
  by_cases d1 : n < 0
  · simp only [d1, if_true]
    rw [Int32.lt_iff_toInt_lt, z0] at d1
    exact bad3 (fun q => by have := of_decide_eq_true q.1; omega)
  simp only [d1, if_false, gX7_shift_78]
  by_cases d2 : i < 0
  · simp only [d2, if_true]
    rw [Int32.lt_iff_toInt_lt, z0] at d2
    exact bad3 (fun q => by have := of_decide_eq_true q.1; omega)
  simp only [d2, if_false, gX7_shift_82]
  by_cases d3 : j < 0
  · simp only [d3, if_true]
    rw [Int32.lt_iff_toInt_lt, z0] at d3
    exact bad3 (fun q => by have := of_decide_eq_true q.2; omega)
  simp only [d3, if_false, gX7_shift_87, t0, true_and, mr_35 hm, rf_some, i76a, ca, a1, lg_p, z_ladd, la]
  rw [Int32.lt_iff_toInt_lt, z0] at d1 d2 d3
  by_cases d4 : (sh.2.1 a : Int) < i.toInt + n.toInt
  · simp only [d4, if_true]
    exact bad3 (fun q => by have := of_decide_eq_true q.1; omega)
  simp only [d4, if_false, gX7_shift_104, t0, true_and, mr_35 hm, rf_some, i76c, cc, c1, lg_n, z_ladd, lc]
  by_cases d5 : (sh.2.1 c : Int) < j.toInt + n.toInt
  · simp only [d5, not_true_eq_false, if_false]
    exact bad3 (fun q => by have := of_decide_eq_true q.2; omega)
  simp only [d5, not_false_eq_true, if_true]
  have g5 : hpS (sh.2.1 a) i n = true := decide_eq_true ⟨by omega, by omega, by omega⟩
  have g6 : hpS (sh.2.1 c) j n = true := decide_eq_true ⟨by omega, by omega, by omega⟩
  rw [if_pos (show hpS (sh.2.1 a) i n = true ∧ hpS (sh.2.1 c) j n = true from ⟨g5, g6⟩), if_pos ⟨⟨g1, g2⟩, kd, g5, g6⟩] at k
  obtain ⟨p, m, rfl, rfl, hpm⟩ := hp_n g5 a2
  obtain ⟨q, m', rfl, em, hqm⟩ := hp_n g6 c2
  obtain rfl : m = m' := (nI_eq (by omega) (by omega)).mp em
  have cp : (nI p).toNatClampNeg = p := nI_clamp (by omega)
  have cq : (nI q).toNatClampNeg = q := nI_clamp (by omega)
  have cm : (nI m).toNatClampNeg = m := nI_clamp (by omega)
  have e60a : (60 : Int32) * nI a = nI (60 * a) := z_mul 60 a
  have e60c : (60 : Int32) * nI c = nI (60 * c) := z_mul 60 c
  rw [cp, cq, cm] at k
  have fin : ∀ (J1 : tJ) (v6 : Value), (∀ x, x ≠ 77 → J1 x = J x) → (∀ y, J1 77 y = va_cpy (J 77) (J 77) (60 * a + p) (60 * c + q) m y) → Q (some (.int (nI m))) (T, I, J1, R) := by
    intro J1 v6 j1 j2
    refine k J1 j1 ?_
    refine MSh_all hS (fun _ _ _ => ⟨rfl, rfl⟩) (fun s' h6 hne y hy => by rw [j2, pk_cpy_out (by omega)]) ⟨c0, c1, c2, fun y hy => ?_⟩
    rw [j2]
    by_cases ey : q ≤ y ∧ y < q + m
    · rw [pk_cpy_in (by omega) (by omega), pk_cpy_in ey.1 ey.2, show 60 * a + p + (60 * c + y - (60 * c + q)) = 60 * a + (p + (y - q)) by omega]
      exact a3 _ (by omega)
    · rw [pk_cpy_out (by omega), pk_cpy_out (by omega)]
      exact c3 y hy
  -- upward
  have upl : (a = c → q ≤ p) → Ex X (d + 3) mX7_shift 185 [.ref 54, .int (nI a), .int (nI p), .int (nI c), .int (nI q), .int (nI m), rU] [] (T, I, J, R) Q := by
    intro hpq
    have loop : ∀ t, t ≤ m → ∀ J1 : tJ, (∀ x, x ≠ 77 → J1 x = J x) → (∀ y, J1 77 y = va_cpy (J 77) (J 77) (60 * a + p) (60 * c + q) t y) → Ex X (d + 3) mX7_shift 188 [.ref 54, .int (nI a), .int (nI p), .int (nI c), .int (nI q), .int (nI m), .int (nI t)] [] (T, I, J1, R) Q := by
      refine loop_up (P := fun t => ∀ J1 : tJ, (∀ x, x ≠ 77 → J1 x = J x) → (∀ y, J1 77 y = va_cpy (J 77) (J 77) (60 * a + p) (60 * c + q) t y) → Ex X (d + 3) mX7_shift 188 [.ref 54, .int (nI a), .int (nI p), .int (nI c), .int (nI q), .int (nI m), .int (nI t)] [] (T, I, J1, R) Q) (n := m) ?_ ?_
      · intro J1 j1 j2
        simp only [gX7_shift_188, nI_le (Nat.le_refl m) (by omega), if_true, gX7_shift_230]
        exact fin J1 rU j1 j2
      · intro t ht ih J1 j1 j2
        simp only [gX7_shift_188, nI_ge ht (by omega), if_false]
        simp only [gX7_shift_195, t0, true_and, mr_36 hm, rf_some, e60a, e60c, nI_add, rIn_at (mt_77 hm) (show 60 * a + p + t < 360 by omega) (by decide), rIn_at (mt_77 hm) (show 60 * c + q + t < 360 by omega) (by decide), nI_clamp (show 60 * a + p + t < 2 ^ 31 by omega), nI_clamp (show 60 * c + q + t < 2 ^ 31 by omega), nI_1]
        refine ih _ (fun x hx => by rw [up_ne _ _ hx]; exact j1 x hx) (fun y => ?_)
        rw [up_self]
        by_cases ey : y = 60 * c + q + t
        · have e1 : va_cpy (J 77) (J 77) (60 * a + p) (60 * c + q) t (60 * a + p + t) = J 77 (60 * a + p + t) := by
            refine pk_cpy_out ?_
            by_cases eac : a = c
            · have := hpq eac
              omega
            · omega
          rw [ey, up_self, j2, e1, pk_cpy_in (by omega) (by omega), show 60 * a + p + (60 * c + q + t - (60 * c + q)) = 60 * a + p + t by omega]
        · rw [up_ne _ _ ey, j2]
          by_cases ez : 60 * c + q ≤ y ∧ y < 60 * c + q + t
          · rw [pk_cpy_in ez.1 ez.2, pk_cpy_in ez.1 (by omega)]
          · rw [pk_cpy_out (by omega), pk_cpy_out (by omega)]
    simp only [gX7_shift_185]
    refine loop 0 (by omega) J (fun _ _ => rfl) (fun y => ?_)
    rw [pk_cpy_out (by omega)]
  simp only [gX7_shift_125, ne_eq]
  by_cases eac : a = c
  rotate_left
  · have nac : ¬ nI a = nI c := fun z => eac ((nI_eq (by omega) (by omega)).mp z)
    simp only [nac, not_false_eq_true, if_true]
    exact upl (fun z => absurd z eac)
  · have eac' : nI a = nI c := by rw [eac]
    simp only [eac', not_true_eq_false, if_false, gX7_shift_130]
    rw [eac] at upl
    by_cases epq : q ≤ p
    · simp only [nI_le epq (show p < 2 ^ 31 by omega), if_true]
      exact upl (fun _ => epq)
    · simp only [nI_ge (show p < q by omega) (by omega), if_false, gX7_shift_136]
      -- downward
      have loop : ∀ (t : Nat), t ≤ m → ∀ J1 : tJ, (∀ x, x ≠ 77 → J1 x = J x) → (∀ y, J1 77 y = va_cpy (J 77) (J 77) (60 * a + p + t) (60 * c + q + t) (m - t) y) → Ex X (d + 3) mX7_shift 142 [.ref 54, .int (nI c), .int (nI p), .int (nI c), .int (nI q), .int (nI m), .int (nI t - 1)] [] (T, I, J1, R) Q := by
        intro t
        induction t with
        | zero =>
          intro ht J1 j1 j2
          simp only [gX7_shift_142, show nI 0 - 1 < 0 by decide, if_true, gX7_shift_182, gX7_shift_230]
          exact fin J1 rU j1 j2
        | succ t ih =>
          intro ht J1 j1 j2
          have nx : nI t + Int32.ofInt (-1) = nI t - 1 := by rw [ofI_m1, Int32.sub_eq_add_neg]
          have e60 : (60 : Int32) * nI c = nI (60 * c) := z_mul 60 c
          simp only [nI_pred, gX7_shift_142, nI_pos (show t < 2 ^ 31 by omega), if_false]
          simp only [gX7_shift_147, t0, true_and, mr_36 hm, rf_some, e60, nI_add, rIn_at (mt_77 hm) (show 60 * c + p + t < 360 by omega) (by decide), rIn_at (mt_77 hm) (show 60 * c + q + t < 360 by omega) (by decide), nI_clamp (show 60 * c + p + t < 2 ^ 31 by omega), nI_clamp (show 60 * c + q + t < 2 ^ 31 by omega), nx]
          refine ih (by omega) _ (fun x hx => by rw [up_ne _ _ hx]; exact j1 x hx) (fun y => ?_)
          rw [up_self]
          by_cases ey : y = 60 * c + q + t
          · have e1 : va_cpy (J 77) (J 77) (60 * a + p + (t + 1)) (60 * c + q + (t + 1)) (m - (t + 1)) (60 * c + p + t) = J 77 (60 * c + p + t) := pk_cpy_out (by omega)
            rw [ey, up_self, j2, e1, pk_cpy_in (by omega) (by omega), show 60 * a + p + t + (60 * c + q + t - (60 * c + q + t)) = 60 * c + p + t by omega]
          · rw [up_ne _ _ ey, j2]
            by_cases ez : 60 * c + q + t < y ∧ y < 60 * c + q + m
            · rw [pk_cpy_in (by omega) (by omega), pk_cpy_in (by omega) (by omega), show 60 * a + p + (t + 1) + (y - (60 * c + q + (t + 1))) = 60 * a + p + t + (y - (60 * c + q + t)) by omega]
            · rw [pk_cpy_out (by omega), pk_cpy_out (by omega)]
      refine loop m (Nat.le_refl m) J (fun _ _ => rfl) (fun y => ?_)
      rw [pk_cpy_out (by omega)]
theorem j_shift {s i o j n : Int32} : Jn X (d + 50) (d + 50) mX6_shift [.ref 0, .int s, .int i, .int o, .int j, .int n, rU, rU] mX7_shift [.ref 54, .int s, .int i, .int o, .int j, .int n, rU] := by
  rintro T I J R ⟨ht1, ht2, b, b2, n', l, r, sh, ld, im, tp, ch, st, hb, hH, hC, hM, hA, hP⟩
  have hos := hP.2.2.2.2.1
  refine ⟨sfZ sh s i o j n, c_shift (d := d + 47) hH.1 hC.1 (fun J1 g1 hc => ⟨rfl, rfl, ?_⟩)⟩
  refine m_shift (d := d + 47) hM.1 (fun s hs => MSh_f (hA.1 s hs) rfl rfl (g1 77 (by omega))) (fun J2 g2 hm => ⟨rfl, ?_⟩)
  refine Rel_sh ⟨ht1, ht2⟩ hb hH hC hM hA hP (fun _ _ => rfl) hc (fun _ _ _ => rfl) g2 hm ?_
  unfold sfS
  split
  · rename_i c
    obtain ⟨q, hq, rfl⟩ := inB_5 c.1.2
    rw [nI_clamp (show q < 2 ^ 31 by omega)]
    exact okSh_U hos hq
  · exact hos
end D8
