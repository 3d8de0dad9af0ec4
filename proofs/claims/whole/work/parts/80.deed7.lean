/-! PURE: taken joined -/
def unF : Nat → Nat → Nat → Bool
  | 0, _, _ => false
  | m + 1, g, k => if g = k then true else if g = 0 then false else unF m (abN g) k
theorem ab_ok : ∀ g : Fin 8, (g.val ≠ 0 → (rTb 2).getD g.val 0 = nI (abN g.val) ∧ abN g.val < g.val) ∧ (g.val = 0 → (rTb 2).getD g.val 0 = -1) := by decide +kernel
section D7
variable {X : tX} {T : tT} {I I' I1 I2 : tI} {J J' J1 J2 : tJ} {R R' : tR} {Q : tQ} {d b b2 n L0 s ln : Nat} {xs : Nat → Int32} {l : tL} {r : Nat → Nat → Int32} {sh sh' : tSh} {ld : Nat → Int32} {im : tIm} {tp : tTp} {ch : tCh} {st : tSt} {v w x hk : Int32} {el : Nat → Int64} {z : Int64}
theorem c_isUnder {g k : Nat} {σ : rS} (hg : g < 8) (hk : k < 8) (kk : Q (some (.int (if unF 8 g k = true then 1 else 0))) σ) : Ex (rX L0 xs) (d + 1) mX5_isUnder 0 [.int (nI g), .int (nI k), rU, rU] [] σ Q := by
  obtain ⟨T, I, J, R⟩ := σ
  have x2 : rX L0 xs 2 = (8, fun q => (rTb 2).getD q 0) := rfl
  have iy : ∀ j, j < 8 → ¬ (nI j < 0 ∨ 8 ≤ j) := fun j hj => by
    rintro (z | z)
    · exact nI_pos (by omega) z
    · omega
  have fail : ∀ (a1 a2 : Int32), unF 8 g k = false → Ex (rX L0 xs) (d + 1) mX5_isUnder 36 [.int (nI g), .int (nI k), .int a1, .int a2] [] (T, I, J, R) Q := by
    intro a1 a2 e
    rw [if_neg (by rw [e]; simp)] at kk
    simp only [gX5_isUnder_36, true_or, true_and]
    exact kk
  have loop : ∀ (m i g1 : Nat), i + m = 8 → g1 < m → unF m g1 k = unF 8 g k → Ex (rX L0 xs) (d + 1) mX5_isUnder 4 [.int (nI g), .int (nI k), .int (nI g1), .int (nI i)] [] (T, I, J, R) Q := by
    intro m
    induction m with
    | zero => intro i g1 hi h; omega
    | succ m ih =>
      intro i g1 hi h hr
      have g8 : g1 < 8 := by omega
      rw [unF] at hr
      simp only [gX5_isUnder_4, show ¬ (8 : Int32) ≤ nI i from nI_ge (b := 8) (by omega) (by decide), if_false, gX5_isUnder_10]
      refine c_isKind ?_
      simp only [Option.toList_some, List.cons_append, List.nil_append, gX5_isUnder_14, inB_7 g8, if_true, show ¬ (1 : Int32) = 0 by decide, if_false, gX5_isUnder_17, ne_eq]
      by_cases e : g1 = k
      · rw [if_pos e] at hr
        rw [if_pos hr.symm] at kk
        simp only [e, not_true_eq_false, if_false, gX5_isUnder_22, or_true, true_and]
        exact kk
      · rw [if_neg e] at hr
        have ne : ¬ nI g1 = nI k := fun z => e ((nI_eq (by omega) (by omega)).mp z)
        simp only [ne, not_false_eq_true, if_true]
        simp only [gX5_isUnder_24, x2, iy _ g8, not_false_eq_true, true_and, nI_clamp (show g1 < 2 ^ 31 by omega), nI_1]
        by_cases e0 : g1 = 0
        · rw [if_pos e0] at hr
          have ab : (rTb 2).getD g1 0 = -1 := (ab_ok ⟨g1, g8⟩).2 e0
          rw [ab]
          by_cases em : m = 0
          · simp only [gX5_isUnder_4, show (8 : Int32) ≤ nI (i + 1) from nI_le (a := 8) (by omega) (by omega), if_true]
            exact fail _ _ hr.symm
          · simp only [gX5_isUnder_4, show ¬ (8 : Int32) ≤ nI (i + 1) from nI_ge (b := 8) (by omega) (by decide), if_false, gX5_isUnder_10]
            refine c_isKind ?_
            simp only [Option.toList_some, List.cons_append, List.nil_append, gX5_isUnder_14, show inB (-1) 0 7 = false by decide +kernel, Bool.false_eq_true, if_false, if_true]
            exact fail _ _ hr.symm
        · rw [if_neg e0] at hr
          obtain ⟨ab, lt⟩ := (ab_ok ⟨g1, g8⟩).1 e0
          have ab' : (rTb 2).getD g1 0 = nI (abN g1) := ab
          have lt' : abN g1 < g1 := lt
          rw [ab']
          exact ih (i + 1) (abN g1) (by omega) (by omega) hr
  simp only [gX5_isUnder_0]
  exact loop 8 0 g rfl hg rfl
def tkZ (sh : tSh) (st : tSt) (s w : Int32) : Int32 := if inB s 0 5 = true ∧ inB w 0 7 = true then (if sh.1 s.toNatClampNeg = -1 then -11 else if inB (sh.1 s.toNatClampNeg) 0 4 = true then -12 else if unF 8 (st.2.1 (sh.1 s.toNatClampNeg - 10).toNatClampNeg) w.toNatClampNeg = true then nI (st.2.1 (sh.1 s.toNatClampNeg - 10).toNatClampNeg) else -12) else -1
theorem CSh_step (h : CSh T I J R s hk ln el) (h1 : ¬ hk = -1) (h2 : inB hk 0 4 = false) : ∃ k : Nat, k < 50 ∧ hk = nI (10 + k) ∧ I (42 + 2 * s) 1 = nI k := by
  obtain ⟨t0, t1, r4, hh⟩ := h
  rcases hh with ⟨z, e0⟩ | ⟨j, hj, ej, e0, e2, e3, hl, hel⟩ | ⟨j, hj, ej, e0, e1⟩
  · exact absurd z h1
  · rw [ej, (sh_4 ⟨j, by omega⟩).2.1] at h2
    exact absurd h2 (by decide)
  · exact ⟨j, hj, ej, e1⟩
theorem z_10 {k : Nat} (hk : k < 50) : (nI (10 + k) - 10).toNatClampNeg = k := by
  rw [show nI (10 + k) - 10 = nI k from (z_sub (a := 10 + k) (b := 10) (by omega)).trans (by rw [show 10 + k - 10 = k by omega])]
  exact nI_clamp (by omega)
theorem c_taken {s : Int32} (h0 : T[0]? = some (3, 6)) (hS : HSh T R ∧ ∀ s, s < 6 → CSh T I J R s (sh.1 s) (sh.2.1 s) (sh.2.2 s)) (h : CSt T I R st) (ho : okSt st) (hos : okSh sh st) (k : Q (some (.int (tkZ sh st s w))) (T, I, J, R)) : Ex (rX L0 xs) (d + 3) mX6_taken 0 [.ref 0, .int s, .int w, rU, rU] [] (T, I, J, R) Q := by
  obtain ⟨⟨t41, r11, r41⟩, hSa⟩ := hS
  obtain ⟨s1, s2, s3, s4, s5, s6⟩ := id h
  unfold tkZ at k
  have bad : ¬ (inB s 0 5 = true ∧ inB w 0 7 = true) → Ex (rX L0 xs) (d + 3) mX6_taken 14 [.ref 0, .int s, .int w, rU, rU] [] (T, I, J, R) Q := by
    intro c
    rw [if_neg c] at k
    simp only [gX6_taken_14]
    exact k
  simp only [gX6_taken_0]
  refine c_isShelf ?_
  simp only [Option.toList_some, List.cons_append, List.nil_append, gX6_taken_4, if10]
  cases g1 : inB s 0 5 with
  | false =>
    simp only [if_true]
    exact bad (fun c => absurd c.1 (by rw [g1]; simp))
  | true =>
    simp only [reduceCtorEq, if_false, gX6_taken_7]
    refine c_isKind ?_
    simp only [Option.toList_some, List.cons_append, List.nil_append, gX6_taken_11, ne_eq, if10]
    cases g2 : inB w 0 7 with
    | false =>
      simp only [not_true_eq_false, if_false]
      exact bad (fun c => absurd c.2 (by rw [g2]; simp))
    | true =>
      rw [if_pos ⟨g1, g2⟩] at k
      obtain ⟨i, hi, rfl⟩ := inB_5 g1
      obtain ⟨q, hq, rfl⟩ := inB_n (m := 7) (by decide) g2
      have ci : (nI i).toNatClampNeg = i := nI_clamp (by omega)
      have hSi := hSa i hi
      obtain ⟨e0, e1, e2, e3⟩ := id hSi
      rw [ci, nI_clamp (show q < 2 ^ 31 by omega)] at k
      simp only [reduceCtorEq, not_false_eq_true, if_true, gX6_taken_16, h0, true_and, r11, rf_some, rIn_at t41 hi (by decide), ci, r41 i hi, e0]
      refine c_isBare hSi ?_
      simp only [Option.toList_some, List.cons_append, List.nil_append, gX6_taken_27]
      by_cases e : sh.1 i = -1
      · rw [if_pos e] at k
        simp only [e, if_true, show ¬ (1 : Int32) = 0 by decide, if_false, gX6_taken_30]
        exact k
      · rw [if_neg e] at k
        simp only [e, if_true, if_false, gX6_taken_33, e0, true_and]
        refine c_isRow hSi ?_
        simp only [Option.toList_some, List.cons_append, List.nil_append, gX6_taken_37, ne_eq, if10]
        cases g3 : inB (sh.1 i) 0 4 with
        | true =>
          rw [if_pos g3] at k
          simp only [reduceCtorEq, not_false_eq_true, if_true, gX6_taken_54]
          exact k
        | false =>
          rw [if_neg (by rw [g3]; simp)] at k
          obtain ⟨j, hj, ej, c1⟩ := CSh_step hSi e g3
          have jz := hos i hi j hj ej
          rw [ej, z_10 hj] at k
          have hκ8 := ho.2.1 j jz
          simp only [not_true_eq_false, if_false, gX6_taken_40, h0, true_and, s1, rf_some, e0, c1, s2.1]
          refine c_hasS s2 s3 jz ho.1 ?_
          simp only [Option.toList_some, List.cons_append, List.nil_append, gX6_taken_51, ne_eq, show ¬ (1 : Int32) = 0 by decide, not_false_eq_true, if_true, gX6_taken_57, h0, true_and, s1, rf_some, e0, c1, s2.1]
          refine c_kindOf s2 s3 jz ho.1 (s4 j jz) ?_
          simp only [Option.toList_some, List.cons_append, List.nil_append, gX6_taken_68]
          refine c_isUnder hκ8 (by omega) ?_
          simp only [Option.toList_some, List.cons_append, List.nil_append, gX6_taken_76]
          cases u : unF 8 (st.2.1 j) q with
          | false =>
            rw [if_neg (by rw [u]; simp)] at k
            simp only [Bool.false_eq_true, if_false, if_true, gX6_taken_84, gX6_taken_86]
            exact k
          | true =>
            rw [if_pos u] at k
            simp only [if_true, show ¬ (1 : Int32) = 0 by decide, if_false, gX6_taken_79, gX6_taken_86]
            exact k
theorem m_taken {s : Int32} (hm : IsMod T R) (hS : ∀ s, s < 6 → MSh I J s (sh.1 s) (sh.2.1 s) (sh.2.2 s)) (hstep : ∀ s, s < 6 → ¬ sh.1 s = -1 → inB (sh.1 s) 0 4 = false → ∃ k : Nat, k < 50 ∧ sh.1 s = nI (10 + k)) (h : MSt I st) (ho : okSt st) (hos : okSh sh st) (k : Q (some (.int (tkZ sh st s w))) (T, I, J, R)) : Ex X (d + 3) mX7_taken 0 [.ref 54, .int s, .int w, rU, rU] [] (T, I, J, R) Q := by
  have t0 := mt_54 hm
  obtain ⟨s3, s4, s5, s6⟩ := h
  unfold tkZ at k
  have bad : ¬ (inB s 0 5 = true ∧ inB w 0 7 = true) → Ex X (d + 3) mX7_taken 17 [.ref 54, .int s, .int w, rU, rU] [] (T, I, J, R) Q := by
    intro c
    rw [if_neg c] at k
    simp only [gX7_taken_17]
    exact k
  simp only [gX7_taken_0]
  refine m_isShelf ?_
  simp only [Option.toList_some, List.cons_append, List.nil_append, gX7_taken_4, if10]
  cases g1 : inB s 0 5 with
  | false =>
    simp only [if_true]
    exact bad (fun c => absurd c.1 (by rw [g1]; simp))
  | true =>
    simp only [reduceCtorEq, if_false, gX7_taken_7]
    refine s_within ?_
    simp only [Option.toList_some, List.cons_append, List.nil_append, gX7_taken_14, ne_eq, if10]
    cases g2 : inB w 0 7 with
    | false =>
      simp only [not_true_eq_false, if_false]
      exact bad (fun c => absurd c.2 (by rw [g2]; simp))
    | true =>
      rw [if_pos ⟨g1, g2⟩] at k
      obtain ⟨i, hi, rfl⟩ := inB_5 g1
      obtain ⟨q, hq, rfl⟩ := inB_n (m := 7) (by decide) g2
      have ci : (nI i).toNatClampNeg = i := nI_clamp (by omega)
      have hSi := hS i hi
      obtain ⟨e0, e1, e2, e3⟩ := id hSi
      have i75 : rIn T 75 0 (nI i) := rIn_at (mt_75 hm) hi (by decide)
      rw [ci, nI_clamp (show q < 2 ^ 31 by omega)] at k
      simp only [reduceCtorEq, not_false_eq_true, if_true, gX7_taken_19, t0, true_and, mr_34 hm, rf_some, i75, ci, e0, ne_eq]
      by_cases e : sh.1 i = -1
      · rw [if_pos e] at k
        simp only [e, not_true_eq_false, if_false, gX7_taken_29]
        exact k
      · rw [if_neg e] at k
        simp only [e, not_false_eq_true, if_true, gX7_taken_32, t0, true_and]
        refine m_isRow hm hSi hi ?_
        simp only [Option.toList_some, List.cons_append, List.nil_append, gX7_taken_37, if10]
        cases g3 : inB (sh.1 i) 0 4 with
        | true =>
          rw [if_pos g3] at k
          simp only [reduceCtorEq, if_false, gX7_taken_40]
          exact k
        | false =>
          rw [if_neg (by rw [g3]; simp)] at k
          obtain ⟨j, hj, ej⟩ := hstep i hi e g3
          have jz := hos i hi j hj ej
          have ho1 := ho.1
          have hκ8 := ho.2.1 j jz
          have e10 : nI (10 + j) - 10 = nI j := (z_sub (a := 10 + j) (b := 10) (by omega)).trans (by rw [show 10 + j - 10 = j by omega])
          rw [ej, z_10 hj] at k
          simp only [if_true, gX7_taken_43, t0, true_and, mr_31 hm, mr_34 hm, rf_some, i75, ci, e0, ej, e10, rIn_at (mt_73 hm) hj (by decide), nI_clamp (show j < 2 ^ 31 by omega), s4 j jz]
          have loop : ∀ (m g : Nat), g < m → g < 8 → unF m g q = unF 8 (st.2.1 j) q → Ex X (d + 3) mX7_taken 61 [.ref 54, .int (nI i), .int (nI q), .int (nI (st.2.1 j)), .int (nI g)] [] (T, I, J, R) Q := by
            intro m
            induction m with
            | zero => intro g h; omega
            | succ m ih =>
              intro g h h8 hr
              rw [unF] at hr
              simp only [gX7_taken_61]
              by_cases eg : g = q
              · rw [if_pos eg] at hr
                rw [if_pos hr.symm] at k
                simp only [eg, if_true, gX7_taken_82, ne_eq, not_true_eq_false, if_false, gX7_taken_88, gX7_taken_94]
                exact k
              · rw [if_neg eg] at hr
                have ne : ¬ nI g = nI q := fun z => eg ((nI_eq (by omega) (by omega)).mp z)
                simp only [ne, if_false, gX7_taken_67]
                by_cases e0 : g = 0
                · rw [if_pos e0] at hr
                  rw [if_neg (by rw [← hr]; simp)] at k
                  have n0 : nI g ≤ 0 := by rw [e0]; decide
                  simp only [n0, if_true, gX7_taken_82, ne_eq, ne, not_false_eq_true, gX7_taken_92, gX7_taken_94]
                  exact k
                · rw [if_neg e0] at hr
                  obtain ⟨ab, lt⟩ := (ab_ok ⟨g, h8⟩).1 e0
                  have lt' : abN g < g := lt
                  simp only [nI_nle (show 0 < g by omega) (by omega), if_false]
                  simp only [gX7_taken_72]
                  refine m_above h8 ?_
                  simp only [Option.toList_some, List.cons_append, List.nil_append, gX7_taken_77]
                  exact ih (abN g) (by omega) (by omega) hr
          exact loop 8 (st.2.1 j) hκ8 hκ8 rfl
theorem j_taken {s : Int32} : Jn (rX L0 xs) (d + 50) (d + 50) mX6_taken [.ref 0, .int s, .int w, rU, rU] mX7_taken [.ref 54, .int s, .int w, rU, rU] := by
  rintro T I J R ⟨ht1, ht2, b, b2, n, l, r, sh, ld, im, tp, ch, st, hb, hH, hC, hM, hA, hP⟩
  have ho := hP.2.2.2.1
  have hos := hP.2.2.2.2.1
  exact ⟨tkZ sh st s w, c_taken (d := d + 47) hH.1 hC.1 hC.2.2.2.2.2.1 ho hos ⟨rfl, rfl, m_taken (d := d + 47) hM.1 hA.1 (fun s hs h1 h2 => by obtain ⟨k, k1, k2, -⟩ := CSh_step (hC.1.2 s hs) h1 h2; exact ⟨k, k1, k2⟩) hA.2.2.2.2.2 ho hos ⟨rfl, ht1, ht2, b, b2, n, l, r, sh, ld, im, tp, ch, st, hb, hH, hC, hM, hA, hP⟩⟩⟩
end D7
