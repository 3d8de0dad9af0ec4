/-! PURE: put, element, taken joined -/
section D6
variable {X : tX} {T : tT} {I I' I1 I2 : tI} {J J' J1 J2 : tJ} {R R' : tR} {Q : tQ} {d b b2 n L0 s ln : Nat} {xs : Nat → Int32} {l : tL} {r : Nat → Nat → Int32} {sh sh' : tSh} {ld : Nat → Int32} {im : tIm} {tp : tTp} {ch : tCh} {st : tSt} {v w x hk : Int32} {el : Nat → Int64} {z : Int64}
theorem c_cut {k : Nat} (t0 : T[42 + 2 * s]? = some (3, 4)) (hk : k ≤ 4) (h2 : I (42 + 2 * s) 2 = nI k) (kk : Q (some (.long (cutS (nI k) z))) (T, I, J, R)) : Ex X d mX4_cut 0 [.ref (42 + 2 * s), .long z, rU] [] (T, I, J, R) Q := by
  unfold cutS at kk
  simp only [gX4_cut_0, t0, true_and, h2, sX4_cut_4]
  by_cases e0 : nI k = 0
  · simp only [e0, if_true, gX4_cut_36] at kk ⊢
    exact kk
  simp only [e0, if_false] at kk ⊢
  by_cases e1 : nI k = 1
  · simp only [e1, if_true, gX4_cut_41] at kk ⊢
    exact kk
  simp only [e1, if_false] at kk ⊢
  by_cases e2 : nI k = 2
  · simp only [e2, if_true, gX4_cut_46] at kk ⊢
    exact kk
  simp only [e2, if_false] at kk ⊢
  by_cases e3 : nI k = 3
  · simp only [e3, if_true, gX4_cut_50] at kk ⊢
    exact kk
  simp only [e3, if_false, gX4_cut_52] at kk ⊢
  by_cases e : lg_cmp z 0 = 0
  · simp only [e, if_true, gX4_cut_62, gX4_cut_63] at kk ⊢
    exact kk
  · simp only [e, if_false, gX4_cut_58, gX4_cut_63] at kk ⊢
    exact kk
theorem m_kept {k : Int32} {σ : rS} (kk : Q (some (.long (cutS k z))) σ) : Ex X d mX7_kept 0 [.int k, .long z, rU] [] σ Q := by
  unfold cutS at kk
  simp only [gX7_kept_0, sX7_kept_1]
  by_cases e0 : k = 0
  · simp only [e0, if_true, gX7_kept_32] at kk ⊢
    exact kk
  simp only [e0, if_false] at kk ⊢
  by_cases e1 : k = 1
  · simp only [e1, if_true, gX7_kept_37] at kk ⊢
    exact kk
  simp only [e1, if_false] at kk ⊢
  by_cases e2 : k = 2
  · simp only [e2, if_true, gX7_kept_42] at kk ⊢
    exact kk
  simp only [e2, if_false] at kk ⊢
  by_cases e3 : k = 3
  · simp only [e3, if_true, gX7_kept_46] at kk ⊢
    exact kk
  simp only [e3, if_false, gX7_kept_48] at kk ⊢
  by_cases e : lg_cmp z 0 = 0
  · simp only [e, if_true, gX7_kept_58, gX7_kept_59] at kk ⊢
    exact kk
  · simp only [e, if_false, gX7_kept_54, gX7_kept_59] at kk ⊢
    exact kk
theorem m_isRow (hm : IsMod T R) (hS : MSh I J s hk ln el) (hs : s < 6) (k : Q (some (.int (if inB hk 0 4 = true then 1 else 0))) (T, I, J, R)) : Ex X (d + 1) mX7_isRow 0 [.ref 54, .int (nI s)] [] (T, I, J, R) Q := by
  simp only [gX7_isRow_0, mt_54 hm, true_and, mr_34 hm, rf_some, rIn_at (mt_75 hm) hs (by decide), nI_clamp (show s < 2 ^ 31 by omega), hS.1]
  refine s_within ?_
  simp only [Option.toList_some, List.cons_append, List.nil_append, gX7_isRow_11]
  refine ⟨?_, k⟩
  cases inB hk 0 4 <;> simp
def puZ (sh : tSh) (s v : Int32) : Int32 := if inB s 0 5 = true then (if sh.1 s.toNatClampNeg = -1 then -11 else if inB (sh.1 s.toNatClampNeg) 0 4 = true then (if isR (sh.2.1 s.toNatClampNeg) v = true then 1 else -13) else -12) else -1
def puS (sh : tSh) (s v : Int32) (z : Int64) : tSh := if inB s 0 5 = true ∧ inB (sh.1 s.toNatClampNeg) 0 4 = true ∧ isR (sh.2.1 s.toNatClampNeg) v = true then shU sh s.toNatClampNeg (sh.1 s.toNatClampNeg) (sh.2.1 s.toNatClampNeg) (va_up (sh.2.2 s.toNatClampNeg) v.toNatClampNeg (cutS (sh.1 s.toNatClampNeg) z)) else sh
theorem c_put {s : Int32} (h0 : T[0]? = some (3, 6)) (hS : HSh T R ∧ ∀ s, s < 6 → CSh T I J R s (sh.1 s) (sh.2.1 s) (sh.2.2 s)) (k : ∀ (J' : tJ), (∀ x, ¬ (43 ≤ x ∧ x ≤ 53) → J' x = J x) → (∀ i, i < 6 → CSh T I J' R i ((puS sh s v z).1 i) ((puS sh s v z).2.1 i) ((puS sh s v z).2.2 i)) → Q (some (.int (puZ sh s v))) (T, I, J', R)) : Ex X (d + 3) mX6_put 0 [.ref 0, .int s, .int v, .long z, rU, rU] [] (T, I, J, R) Q := by
  obtain ⟨⟨t41, r11, r41⟩, hSa⟩ := hS
  have no : ¬ (inB s 0 5 = true ∧ inB (sh.1 s.toNatClampNeg) 0 4 = true ∧ isR (sh.2.1 s.toNatClampNeg) v = true) → Q (some (.int (puZ sh s v))) (T, I, J, R) := by
    intro c
    unfold puS at k
    rw [if_neg c] at k
    exact k J (fun _ _ => rfl) hSa
  unfold puZ at no k
  simp only [gX6_put_0]
  refine c_isShelf ?_
  simp only [Option.toList_some, List.cons_append, List.nil_append, gX6_put_4, ne_eq, if10]
  cases g1 : inB s 0 5 with
  | false =>
    have := no (fun c => absurd c.1 (by rw [g1]; simp))
    rw [if_neg (by rw [g1]; simp)] at this
    simp only [not_true_eq_false, if_false, gX6_put_7]
    exact this
  | true =>
    obtain ⟨i, hi, rfl⟩ := inB_5 g1
    have ci : (nI i).toNatClampNeg = i := nI_clamp (by omega)
    have hSi := hSa i hi
    obtain ⟨e0, e1, e2, e3⟩ := id hSi
    unfold puS at k
    rw [ci, if_pos g1] at no k
    simp only [reduceCtorEq, not_false_eq_true, if_true, gX6_put_9, h0, true_and, r11, rf_some, rIn_at t41 hi (by decide), ci, r41 i hi, e0]
    refine c_isRow hSi ?_
    simp only [Option.toList_some, List.cons_append, List.nil_append, gX6_put_22, ne_eq, if10]
    cases g2 : inB (sh.1 i) 0 4 with
    | false =>
      have := no (fun c => absurd c.2.1 (by rw [g2]; simp))
      simp only [not_true_eq_false, if_false, gX6_put_25, e0, true_and]
      refine c_isBare hSi ?_
      simp only [Option.toList_some, List.cons_append, List.nil_append, gX6_put_30]
      by_cases e : sh.1 i = -1
      · rw [if_pos e] at this
        simp only [e, if_true, show ¬ (1 : Int32) = 0 by decide, if_false, gX6_put_33, gX6_put_40]
        exact this
      · rw [if_neg e, if_neg (by rw [g2]; simp)] at this
        simp only [e, if_true, if_false, gX6_put_38, gX6_put_40]
        exact this
    | true =>
      obtain ⟨q, hq, eq, c0, c2, c3, cl, ce⟩ := CSh_row hSi g2
      have ne : ¬ sh.1 i = -1 := by rw [eq]; exact (sh_4 ⟨q, by omega⟩).1
      rw [if_neg ne, if_pos g2] at no k
      have elt : v < nI (sh.2.1 i) ↔ ¬ nI (sh.2.1 i) ≤ v := Int32.not_le.symm
      simp only [reduceCtorEq, not_false_eq_true, if_true, if_false, gX6_put_41, gX6_put_45, e0, true_and, c3, elt]
      by_cases c : isR (sh.2.1 i) v = true
      · rw [if_pos c, if_pos ⟨g1, g2, c⟩] at k
        obtain ⟨w1, w2⟩ := of_decide_eq_true c
        obtain ⟨j, hj, rfl⟩ := isR_g c (by omega)
        have cj : (nI j).toNatClampNeg = j := nI_clamp (by omega)
        simp only [w1, if_false, w2, not_false_eq_true, if_true, gX6_put_57, e0, true_and, e2, rf_some]
        refine c_cut e0 hq c2 ?_
        simp only [Option.toList_some, List.cons_append, List.nil_append, gX6_put_69, rIn_at e1 (show j < 60 by omega) (by decide), true_and, cj]
        rw [cj] at k
        refine k _ (fun x hx => up_ne _ _ (by omega)) ?_
        refine CSh_all hSa (fun _ _ _ => rfl) (fun s' h6 hne => up_ne _ _ (by omega)) ⟨e0, e1, e2, Or.inr (Or.inl ⟨q, hq, eq, c0, c2, c3, cl, fun y hy => ?_⟩)⟩
        rw [up_self, eq]
        by_cases ey : y = j
        · rw [ey, up_self, up_self]
        · rw [up_ne _ _ ey, up_ne _ _ ey]
          exact ce y hy
      · have := no (fun c' => c c'.2.2)
        rw [if_neg c] at this
        have b' : Ex X (d + 3) mX6_put 54 [.ref 0, .int (nI i), .int v, .long z, rU, .ref (42 + 2 * i)] [] (T, I, J, R) Q := by
          simp only [gX6_put_54]
          exact this
        repeat' first | exact b' | split
        exact absurd (decide_eq_true ⟨‹_›, ‹_›⟩) c
theorem m_put {s : Int32} (hm : IsMod T R) (hS : ∀ s, s < 6 → MSh I J s (sh.1 s) (sh.2.1 s) (sh.2.2 s)) (k : ∀ (J' : tJ), (∀ x, x ≠ 77 → J' x = J x) → (∀ i, i < 6 → MSh I J' i ((puS sh s v z).1 i) ((puS sh s v z).2.1 i) ((puS sh s v z).2.2 i)) → Q (some (.int (puZ sh s v))) (T, I, J', R)) : Ex X (d + 3) mX7_put 0 [.ref 54, .int s, .int v, .long z, rU] [] (T, I, J, R) Q := by
  have t0 := mt_54 hm
  have no : ¬ (inB s 0 5 = true ∧ inB (sh.1 s.toNatClampNeg) 0 4 = true ∧ isR (sh.2.1 s.toNatClampNeg) v = true) → Q (some (.int (puZ sh s v))) (T, I, J, R) := by
    intro c
    unfold puS at k
    rw [if_neg c] at k
    exact k J (fun _ _ => rfl) hS
  unfold puZ at no k
  simp only [gX7_put_0]
  refine m_isShelf ?_
  simp only [Option.toList_some, List.cons_append, List.nil_append, gX7_put_4, ne_eq, if10]
  cases g1 : inB s 0 5 with
  | false =>
    have := no (fun c => absurd c.1 (by rw [g1]; simp))
    rw [if_neg (by rw [g1]; simp)] at this
    simp only [not_true_eq_false, if_false, gX7_put_7]
    exact this
  | true =>
    obtain ⟨i, hi, rfl⟩ := inB_5 g1
    have ci : (nI i).toNatClampNeg = i := nI_clamp (by omega)
    have hSi := hS i hi
    obtain ⟨e0, e1, e2, e3⟩ := id hSi
    have i75 : rIn T 75 0 (nI i) := rIn_at (mt_75 hm) hi (by decide)
    have i76 : rIn T 76 0 (nI i) := rIn_at (mt_76 hm) hi (by decide)
    unfold puS at k
    rw [ci, if_pos g1] at no k
    simp only [reduceCtorEq, not_false_eq_true, if_true, gX7_put_9, t0, true_and, mr_34 hm, rf_some, i75, ci, e0, ne_eq]
    by_cases e : sh.1 i = -1
    · have := no (fun c => absurd c.2.1 (by rw [e]; decide +kernel))
      rw [if_pos e] at this
      simp only [e, not_true_eq_false, if_false, gX7_put_19]
      exact this
    · rw [if_neg e] at no k
      simp only [e, not_false_eq_true, if_true, gX7_put_22, t0, true_and]
      refine m_isRow hm hSi hi ?_
      simp only [Option.toList_some, List.cons_append, List.nil_append, gX7_put_27, ne_eq, if10]
      cases g2 : inB (sh.1 i) 0 4 with
      | false =>
        have := no (fun c => absurd c.2.1 (by rw [g2]; simp))
        rw [if_neg (by rw [g2]; simp)] at this
        simp only [not_true_eq_false, if_false, gX7_put_30]
        exact this
      | true =>
        rw [if_pos g2] at no k
        simp only [reduceCtorEq, not_false_eq_true, if_true, gX7_put_33, t0, true_and, mr_35 hm, rf_some, i76, ci, e1]
        refine s_within ?_
        rw [inB_Rg (by omega)]
        simp only [Option.toList_some, List.cons_append, List.nil_append, gX7_put_46, ne_eq, if10]
        cases c : isR (sh.2.1 i) v with
        | false =>
          have := no (fun c' => absurd c'.2.2 (by rw [c]; simp))
          rw [if_neg (by rw [c]; simp)] at this
          simp only [not_true_eq_false, if_false, gX7_put_49]
          exact this
        | true =>
          rw [if_pos c, if_pos ⟨g1, g2, c⟩] at k
          obtain ⟨j, hj, rfl⟩ := isR_g c (by omega)
          have cj : (nI j).toNatClampNeg = j := nI_clamp (by omega)
          have e60 : (60 : Int32) * nI i = nI (60 * i) := z_mul 60 i
          simp only [reduceCtorEq, not_false_eq_true, if_true, gX7_put_52, t0, true_and, mr_36 hm, mr_34 hm, rf_some, i75, ci, e0, e60, nI_add]
          refine m_kept ?_
          simp only [Option.toList_some, List.cons_append, List.nil_append, gX7_put_72, rIn_at (mt_77 hm) (show 60 * i + j < 360 by omega) (by decide), nI_clamp (show 60 * i + j < 2 ^ 31 by omega), true_and]
          rw [cj] at k
          refine k _ (fun x hx => up_ne _ _ hx) ?_
          refine MSh_all hS (fun _ _ _ => ⟨rfl, rfl⟩) (fun s' h6 hne y hy => by rw [up_self, up_ne _ _ (by omega)]) ⟨e0, e1, e2, fun y hy => ?_⟩
          rw [up_self]
          by_cases ey : y = j
          · rw [ey, up_self, up_self]
          · rw [up_ne _ _ (by omega), up_ne _ _ ey]
            exact e3 y hy
theorem okSh_U {q : Nat} (h : okSh sh st) (hq : q < 6) {ln' : Nat} {el' : Nat → Int64} : okSh (shU sh q (sh.1 q) ln' el') st := by
  intro i hi k hk e
  have e' : va_up sh.1 q (sh.1 q) i = nI (10 + k) := e
  by_cases ei : i = q
  · rw [ei, up_self] at e'
    exact h q hq k hk e'
  · rw [up_ne _ _ ei] at e'
    exact h i hi k hk e'
theorem j_put {s : Int32} : Jn X (d + 50) (d + 50) mX6_put [.ref 0, .int s, .int v, .long z, rU, rU] mX7_put [.ref 54, .int s, .int v, .long z, rU] := by
  rintro T I J R ⟨ht1, ht2, b, b2, n, l, r, sh, ld, im, tp, ch, st, hb, hH, hC, hM, hA, hP⟩
  have hos := hP.2.2.2.2.1
  refine ⟨puZ sh s v, c_put (d := d + 47) hH.1 hC.1 (fun J1 g1 hc => ⟨rfl, rfl, ?_⟩)⟩
  refine m_put (d := d + 47) hM.1 (fun s hs => MSh_f (hA.1 s hs) rfl rfl (g1 77 (by omega))) (fun J2 g2 hm => ⟨rfl, ?_⟩)
  refine Rel_sh ⟨ht1, ht2⟩ hb hH hC hM hA hP (fun _ _ => rfl) hc (fun _ _ _ => rfl) g2 hm ?_
  unfold puS
  split
  · rename_i c
    obtain ⟨i, hi, rfl⟩ := inB_5 c.1
    rw [nI_clamp (show i < 2 ^ 31 by omega)]
    exact okSh_U hos hi
  · exact hos
def elS (sh : tSh) (s v : Int32) : Int64 := if inB s 0 5 = true ∧ inB (sh.1 s.toNatClampNeg) 0 4 = true ∧ isR (sh.2.1 s.toNatClampNeg) v = true then sh.2.2 s.toNatClampNeg v.toNatClampNeg else -9223372036854775808
theorem c_element {s : Int32} (h0 : T[0]? = some (3, 6)) (hS : HSh T R ∧ ∀ s, s < 6 → CSh T I J R s (sh.1 s) (sh.2.1 s) (sh.2.2 s)) (k : Q (some (.long (elS sh s v))) (T, I, J, R)) : Ex X (d + 3) mX6_element 0 [.ref 0, .int s, .int v] [] (T, I, J, R) Q := by
  obtain ⟨⟨t41, r11, r41⟩, hSa⟩ := hS
  unfold elS at k
  have bad : ¬ (inB s 0 5 = true ∧ inB (sh.1 s.toNatClampNeg) 0 4 = true ∧ isR (sh.2.1 s.toNatClampNeg) v = true) → Ex X (d + 3) mX6_element 36 [.ref 0, .int s, .int v] [] (T, I, J, R) Q := by
    intro c
    rw [if_neg c] at k
    simp only [gX6_element_36]
    exact k
  simp only [gX6_element_0]
  refine c_isShelf ?_
  simp only [Option.toList_some, List.cons_append, List.nil_append, gX6_element_4, if10]
  cases g1 : inB s 0 5 with
  | false =>
    simp only [if_true]
    exact bad (fun c => absurd c.1 (by rw [g1]; simp))
  | true =>
    obtain ⟨i, hi, rfl⟩ := inB_5 g1
    have ci : (nI i).toNatClampNeg = i := nI_clamp (by omega)
    have hSi := hSa i hi
    obtain ⟨e0, e1, e2, e3⟩ := id hSi
    rw [ci] at k bad
    simp only [reduceCtorEq, if_false, gX6_element_7, h0, true_and, r11, rf_some, rIn_at t41 hi (by decide), ci, r41 i hi, e0]
    refine c_isRow hSi ?_
    simp only [Option.toList_some, List.cons_append, List.nil_append, gX6_element_16, if10]
    cases g2 : inB (sh.1 i) 0 4 with
    | false =>
      simp only [if_true]
      exact bad (fun c => absurd c.2.1 (by rw [g2]; simp))
    | true =>
      obtain ⟨q, hq, eq, c0, c2, c3, cl, ce⟩ := CSh_row hSi g2
      have elt : v < nI (sh.2.1 i) ↔ ¬ nI (sh.2.1 i) ≤ v := Int32.not_le.symm
      simp only [reduceCtorEq, if_false, gX6_element_19, gX6_element_23, h0, true_and, r11, rf_some, rIn_at t41 hi (by decide), ci, r41 i hi, e0, c3, elt]
      by_cases c : isR (sh.2.1 i) v = true
      · rw [if_pos ⟨g1, g2, c⟩] at k
        obtain ⟨w1, w2⟩ := of_decide_eq_true c
        obtain ⟨j, hj, rfl⟩ := isR_g c (by omega)
        have cj : (nI j).toNatClampNeg = j := nI_clamp (by omega)
        rw [cj, ← ce j hj] at k
        simp only [w1, if_false, w2, not_false_eq_true, if_true, gX6_element_40, h0, true_and, r11, rf_some, rIn_at t41 hi (by decide), ci, r41 i hi, e0, e2, rIn_at e1 (show j < 60 by omega) (by decide), cj]
        exact k
      · have b' := bad (fun c' => c c'.2.2)
        repeat' first | exact b' | split
        exact absurd (decide_eq_true ⟨‹_›, ‹_›⟩) c
theorem m_element {s : Int32} (hm : IsMod T R) (hS : ∀ s, s < 6 → MSh I J s (sh.1 s) (sh.2.1 s) (sh.2.2 s)) (k : Q (some (.long (elS sh s v))) (T, I, J, R)) : Ex X (d + 3) mX7_element 0 [.ref 54, .int s, .int v] [] (T, I, J, R) Q := by
  have t0 := mt_54 hm
  unfold elS at k
  have bad : ¬ (inB s 0 5 = true ∧ inB (sh.1 s.toNatClampNeg) 0 4 = true ∧ isR (sh.2.1 s.toNatClampNeg) v = true) → Ex X (d + 3) mX7_element 45 [.ref 54, .int s, .int v] [] (T, I, J, R) Q := by
    intro c
    rw [if_neg c] at k
    simp only [gX7_element_45, gX7_element_48]
    exact k
  simp only [gX7_element_0]
  refine m_isShelf ?_
  simp only [Option.toList_some, List.cons_append, List.nil_append, gX7_element_4, if10]
  cases g1 : inB s 0 5 with
  | false =>
    simp only [if_true]
    exact bad (fun c => absurd c.1 (by rw [g1]; simp))
  | true =>
    obtain ⟨i, hi, rfl⟩ := inB_5 g1
    have ci : (nI i).toNatClampNeg = i := nI_clamp (by omega)
    have hSi := hS i hi
    obtain ⟨e0, e1, e2, e3⟩ := id hSi
    have i76 : rIn T 76 0 (nI i) := rIn_at (mt_76 hm) hi (by decide)
    rw [ci] at k bad
    simp only [reduceCtorEq, if_false, gX7_element_7, t0, true_and]
    refine m_isRow hm hSi hi ?_
    simp only [Option.toList_some, List.cons_append, List.nil_append, gX7_element_12, if10]
    cases g2 : inB (sh.1 i) 0 4 with
    | false =>
      simp only [if_true]
      exact bad (fun c => absurd c.2.1 (by rw [g2]; simp))
    | true =>
      simp only [reduceCtorEq, if_false, gX7_element_15, t0, true_and, mr_35 hm, rf_some, i76, ci, e1]
      refine s_within ?_
      rw [inB_Rg (by omega)]
      simp only [Option.toList_some, List.cons_append, List.nil_append, gX7_element_28, if10]
      cases c : isR (sh.2.1 i) v with
      | false =>
        simp only [if_true]
        exact bad (fun c' => absurd c'.2.2 (by rw [c]; simp))
      | true =>
        rw [if_pos ⟨g1, g2, c⟩] at k
        obtain ⟨j, hj, rfl⟩ := isR_g c (by omega)
        have cj : (nI j).toNatClampNeg = j := nI_clamp (by omega)
        rw [cj, ← e3 j hj] at k
        have e60 : (60 : Int32) * nI i = nI (60 * i) := z_mul 60 i
        simp only [reduceCtorEq, if_false, gX7_element_31, t0, true_and, mr_36 hm, rf_some, e60, nI_add, rIn_at (mt_77 hm) (show 60 * i + j < 360 by omega) (by decide), nI_clamp (show 60 * i + j < 2 ^ 31 by omega), gX7_element_48]
        exact k
theorem j_element {s : Int32} : JnL X (d + 50) (d + 50) mX6_element [.ref 0, .int s, .int v] mX7_element [.ref 54, .int s, .int v] := by
  rintro T I J R ⟨ht1, ht2, b, b2, n, l, r, sh, ld, im, tp, ch, st, hb, hH, hC, hM, hA, hP⟩
  exact ⟨elS sh s v, c_element (d := d + 47) hH.1 hC.1 ⟨rfl, rfl, m_element (d := d + 47) hM.1 hA.1 ⟨rfl, ht1, ht2, b, b2, n, l, r, sh, ld, im, tp, ch, st, hb, hH, hC, hM, hA, hP⟩⟩⟩
end D6
