/-! PURE: fits, on both sides -/
def vrS (w : Int32) : Nat := if w < 2 then 4 else if w < 4 then 0 else 2
def ftS (l : tL) (n : Nat) (el : Nat → Int64) (p M : Nat) (r : Nat → Nat → Int32) (j i : Nat) : Nat → Int32 → Int32 → Int32 → Int32 × Int32 × Int32
  | 0, a, f, b => (a, f, b)
  | m + 1, a, f, b => if ulS l n el p M 0 (putS r j i (nI m)) = -2 then ftS l n el p M r j i m (a + 1) (nI m) (b ||| (1 : Int32) <<< (nI m &&& 31)) else ftS l n el p M r j i m a f b
def ftR (w : Int32) (z : Int32 × Int32 × Int32) : Int32 := if w = 4 then z.2.2 else if w - w / 2 * 2 = 0 then z.1 else z.2.1
def ftT (j : Nat) : Nat := if j = 4 then 10 else if j = 0 then 100 else 2
def fitsF (n : Nat) (l : tL) (r : Nat → Nat → Int32) (hk : Nat → Int32) (ln : Nat → Nat) (el : Nat → Nat → Int64) (s p x w : Int32) : Int32 :=
  if inB s 0 5 = true ∧ isR n p = true ∧ inB w 0 4 = true ∧ hasB n x (nI (vrS w)) = true then (if hk s.toNatClampNeg = 0 then ftR w (ftS l n (el s.toNatClampNeg) p.toNatClampNeg (min (ln s.toNatClampNeg) 41) r (vrS w) x.toNatClampNeg (ftT (vrS w)) 0 (-2) 0) else if hk s.toNatClampNeg = -1 then -11 else -12) else -1
theorem vr_3 (w : Int32) : vrS w = 4 ∨ vrS w = 0 ∨ vrS w = 2 := by
  unfold vrS
  split
  · exact Or.inl rfl
  · split
    · exact Or.inr (Or.inl rfl)
    · exact Or.inr (Or.inr rfl)
theorem ft_fit {j m : Nat} (hj : j = 4 ∨ j = 0 ∨ j = 2) (hm : m < ftT j) : fitB (nI j) (nI m) = true := by
  have key : ∀ m : Fin 100, inB (nI m.val) 0 99 = true ∧ (m.val < 10 → inB (nI m.val) 0 9 = true) ∧ (m.val < 2 → inB (nI m.val) 0 1 = true) := by decide +kernel
  rcases hj with rfl | rfl | rfl
  · rw [fitB_j (by decide)]
    exact (key ⟨m, by unfold ftT at hm; simp at hm; omega⟩).2.1 (by unfold ftT at hm; simpa using hm)
  · rw [fitB_j (by decide)]
    exact (key ⟨m, by unfold ftT at hm; simpa using hm⟩).1
  · rw [fitB_j (by decide)]
    exact (key ⟨m, by unfold ftT at hm; simp at hm; omega⟩).2.2 (by unfold ftT at hm; simpa using hm)
theorem ft_t {j : Nat} (hj : j = 4 ∨ j = 0 ∨ j = 2) : (rTb 1).getD (nI j).toNatClampNeg 0 + 1 = nI (ftT j) ∧ ftT j ≤ 100 ∧ 1 ≤ ftT j ∧ (rTb 1).getD (nI j).toNatClampNeg 0 = nI (ftT j - 1) := by
  rcases hj with rfl | rfl | rfl <;> decide +kernel
section FI
variable {X : tX} {T : tT} {I I' : tI} {J : tJ} {R : tR} {Q : tQ} {d a b c n L0 : Nat} {σ : rS} {hk : Nat → Int32} {ln : Nat → Nat} {el : Nat → Nat → Int64} {l : tL} {r q : Nat → Nat → Int32} {xs : Nat → Int32}
theorem p_most {j : Nat} (hj : j = 4 ∨ j = 0 ∨ j = 2) (k : Q (some (.int (nI (ftT j - 1)))) σ) : Ex (rX L0 xs) d mX3_most 0 [.int (nI j)] [] σ Q := by
  obtain ⟨T, I, J, R⟩ := σ
  have x1 : rX L0 xs 1 = (7, fun q => (rTb 1).getD q 0) := rfl
  have e := (ft_t hj).2.2.2
  have hj6 : j ≤ 4 := by omega
  have h0 : ¬ nI j < 0 := nI_pos (by omega)
  have h6 : ¬ 6 < nI j := nI_nlt (a := 6) (by omega) (by decide)
  have hin : ¬ (nI j < 0 ∨ 7 ≤ (nI j).toNatClampNeg) := by
    rw [nI_clamp (by omega)]
    rintro (q | q)
    · exact h0 q
    · omega
  have hin2 : ¬ (False ∨ 7 ≤ (nI j).toNatClampNeg) := fun q => hin (Or.inr (q.resolve_left id))
  simp only [gX3_most_0, h0, if_false, gX3_most_4, h6, gX3_most_10, x1, hin2, not_false_eq_true, true_and, gX3_most_19, e]
  exact k
theorem c_fits {s p x w : Int32} (h : HS T I R b n l r) (hh : HSh T R) (hS : ∀ s, s < 6 → CSh T I J R s (hk s) (ln s) (el s)) (k : ∀ I' : tI, frC b I I' → Q (some (.int (fitsF n l r hk ln el s p x w))) (T, I', J, R)) : Ex (rX L0 xs) (d + 6) mX6_fits 0 [.ref 0, .int s, .int p, .int x, .int w, rU, rU, rU, rU, rU] [] (T, I, J, R) Q := by
  have h' := h
  have h8 := HS_8 h
  obtain ⟨h0, r0, r1, r8, hb, hb2, hv, hC⟩ := h
  obtain ⟨t41, r11, r41⟩ := hh
  have bad : ¬ (inB s 0 5 = true ∧ isR n p = true ∧ inB w 0 4 = true ∧ hasB n x (nI (vrS w)) = true) → Q (some (.int (-1))) (T, I, J, R) := by
    intro c
    have := k I (frC_r b I)
    rw [fitsF, if_neg c] at this
    exact this
  simp only [gX6_fits_0]
  refine c_isShelf ?_
  simp only [Option.toList_some, List.cons_append, List.nil_append, gX6_fits_4, if10]
  cases g1 : inB s 0 5 with
  | false =>
    simp only [if_true, gX6_fits_26]
    exact bad (by rw [g1]; simp)
  | true =>
  simp only [reduceCtorEq, if_false, gX6_fits_7, h0, true_and]
  refine c_isReach h' ?_
  simp only [Option.toList_some, List.cons_append, List.nil_append, gX6_fits_12, if10]
  cases g2 : isR n p with
  | false =>
    simp only [if_true, gX6_fits_26]
    exact bad (by rw [g2]; simp)
  | true =>
  simp only [reduceCtorEq, if_false, gX6_fits_15, gX6_fits_20]
  by_cases g3 : inB w 0 4 = true
  rotate_left
  · have b' : Ex (rX L0 xs) (d + 6) mX6_fits 26 [.ref 0, .int s, .int p, .int x, .int w, rU, rU, rU, rU, rU] [] (T, I, J, R) Q := by
      simp only [gX6_fits_26]
      exact bad (fun z => g3 z.2.2.1)
    repeat' first | exact b' | split
    exact absurd (decide_eq_true ⟨‹_›, Int32.not_lt.mpr ‹_›⟩) g3
  obtain ⟨w1, w2⟩ := of_decide_eq_true g3
  simp only [w1, Int32.not_lt.mp w2, if_false, if_true, gX6_fits_28]
  have fin : Ex (rX L0 xs) (d + 6) mX6_fits 49 [.ref 0, .int s, .int p, .int x, .int w, rU, rU, rU, rU, rU] [.int (nI (vrS w))] (T, I, J, R) Q := by
    simp only [gX6_fits_49, h0, true_and, r0, rf_some, hC.2.1.1]
    refine c_has hC ?_
    simp only [Option.toList_some, List.cons_append, List.nil_append, gX6_fits_61, ne_eq, if10]
    cases g4 : hasB n x (nI (vrS w)) with
    | false =>
      simp only [not_true_eq_false, if_false, gX6_fits_64]
      exact bad (by rw [g4]; simp)
    | true =>
    rw [fitsF, if_pos ⟨g1, g2, g3, g4⟩] at k
    obtain ⟨s, hs, rfl⟩ := inB_5 g1
    obtain ⟨p, hp, rfl⟩ := isR_t g2 h8
    have hV := vr_3 w
    generalize hvr : vrS w = j at k hV g4 ⊢
    have hj6 : j ≤ 6 := by omega
    obtain ⟨j', i, ej, rfl, hj', hi⟩ := hasB_t g4 h8
    obtain rfl : j = j' := (nI_eq (by omega) (by omega)).mp ej
    have hi' : i < vwN n j := hi
    have cs : (nI s).toNatClampNeg = s := nI_clamp (by omega)
    have hi9 : i < 2 ^ 31 := by unfold vwN at hi'; (repeat' split at hi') <;> omega
    rw [cs, nI_clamp (show p < 2 ^ 31 by omega), nI_clamp hi9] at k
    have hSs := hS s hs
    simp only [reduceCtorEq, not_false_eq_true, if_true, gX6_fits_66, h0, true_and, r11, rf_some, rIn_at t41 hs (by decide), cs, r41 s hs, hSs.1]
    refine c_isBytes hSs ?_
    simp only [Option.toList_some, List.cons_append, List.nil_append, gX6_fits_75, ne_eq]
    by_cases g5 : hk s = 0
    · simp only [g5, if_true, show ¬ (1 : Int32) = 0 by decide, not_false_eq_true, gX6_fits_98] at k ⊢
      refine p_most hV ?_
      obtain ⟨-, f1, f2, -⟩ := ft_t hV
      simp only [Option.toList_some, List.cons_append, List.nil_append, gX6_fits_113]
      have loop : ∀ (m : Nat) (A F B : Int32) (I1 : tI), m ≤ ftT j → frC b I I1 → (∀ I' : tI, frC b I I' → Q (some (.int (ftR w (ftS l n (el s) p (min (ln s) 41) r j i m A F B)))) (T, I', J, R)) → Ex (rX L0 xs) (d + 6) mX6_fits 115 [.ref 0, .int (nI s), .int (nI p), .int (nI i), .int w, .int (nI j), .int A, .int F, .int B, .int (nI m - 1)] [] (T, I1, J, R) Q := by
        intro m
        induction m with
        | zero =>
          intro A F B I1 hm hf1 k
          have kk := k I1 hf1
          rw [ftS] at kk
          unfold ftR at kk
          simp only [gX6_fits_115, show nI 0 - 1 < 0 by decide, if_true, gX6_fits_181, ne_eq]
          by_cases e4 : w = 4
          · simp only [e4, not_true_eq_false, if_false, if_true, gX6_fits_187, gX6_fits_206] at kk ⊢
            exact kk
          · simp only [e4, not_false_eq_true, if_false, if_true, gX6_fits_192, show ¬ (2 : Int32) = 0 by decide, true_and, ne_eq] at kk ⊢
            by_cases e2 : w - w / 2 * 2 = 0
            · simp only [e2, not_true_eq_false, if_false, if_true, gX6_fits_199, gX6_fits_206] at kk ⊢
              exact kk
            · simp only [e2, not_false_eq_true, if_false, if_true, gX6_fits_204, gX6_fits_206] at kk ⊢
              exact kk
        | succ m ih =>
          intro A F B I1 hm hf1 k
          rw [ftS] at k
          simp only [nI_pred, gX6_fits_115, nI_pos (show m < 2 ^ 31 by omega), if_false, gX6_fits_120, h0, true_and, r0, r1, rf_some, hv.1]
          refine c_take (HS_fr h' hf1) (fun I2 hf2 hC2 => ?_)
          simp only [Option.toList_none, List.nil_append, gX6_fits_131, h0, true_and, r1, rf_some, hv.1]
          refine c_become hC2 hj6 hi' g4 (ft_fit hV (by omega)) (fun I3 hf3 hC3 => ?_)
          have hf3' : frC b I2 I3 := fun x hx _ => hf3 x (by omega)
          have hf13 := frC_t (frC_t hf1 hf2) hf3'
          simp only [Option.toList_none, List.nil_append, gX6_fits_143, h0, true_and, r11, rf_some, rIn_at t41 hs (by decide), cs, r41 s hs]
          rw [g5] at hSs
          refine c_firstUnlike (HS_fr h' hf13) hC3 (CSh_fr hSs hb2 hf13) hp (fun I4 hf4 => ?_)
          simp only [Option.toList_some, List.cons_append, List.nil_append, gX6_fits_154, ne_eq]
          have nx : nI m + Int32.ofInt (-1) = nI m - 1 := by rw [ofI_m1, Int32.sub_eq_add_neg]
          by_cases e : ulS l n (el s) p (min (ln s) 41) 0 (putS r j i (nI m)) = -2
          · simp only [e, not_true_eq_false, if_false, if_true, gX6_fits_159, gX6_fits_175, nx] at k ⊢
            exact ih _ _ _ I4 (by omega) (frC_t hf13 hf4) k
          · simp only [e, not_false_eq_true, if_false, if_true, gX6_fits_175, nx] at k ⊢
            exact ih _ _ _ I4 (by omega) (frC_t hf13 hf4) k
      have := loop (ftT j) 0 (-2) 0 I (by omega) (frC_r b I) k
      rw [show nI (ftT j) - 1 = nI (ftT j - 1) from z_sub (b := 1) f2] at this
      exact this
    · simp only [g5, if_false, not_true_eq_false, gX6_fits_78, h0, true_and, r11, rf_some, rIn_at t41 hs (by decide), cs, r41 s hs, hSs.1] at k ⊢
      refine c_isBare hSs ?_
      simp only [Option.toList_some, List.cons_append, List.nil_append, gX6_fits_87]
      by_cases g6 : hk s = -1
      · simp only [g6, if_true, show ¬ (1 : Int32) = 0 by decide, if_false, gX6_fits_90, gX6_fits_97] at k ⊢
        exact k I (frC_r b I)
      · simp only [g6, if_false, if_true, gX6_fits_95, gX6_fits_97] at k ⊢
        exact k I (frC_r b I)
  unfold vrS at fin
  by_cases e2 : w < 2
  · simp only [e2, if_true] at fin
    simp only [show ¬ (2 : Int32) ≤ w from Int32.not_le.mpr e2, if_false, gX6_fits_34]
    exact fin
  · simp only [e2, if_false] at fin
    simp only [Int32.not_lt.mp e2, if_true, gX6_fits_38]
    by_cases e4 : w < 4
    · simp only [e4, if_true] at fin
      simp only [show ¬ (4 : Int32) ≤ w from Int32.not_le.mpr e4, if_false, gX6_fits_44]
      exact fin
    · simp only [e4, if_false] at fin
      simp only [Int32.not_lt.mp e4, if_true, gX6_fits_48]
      exact fin
theorem MSh_fr {s : Nat} {hk : Int32} {ln : Nat} {el : Nat → Int64} (h : MSh I J s hk ln el) (h5 : I' 75 = I 75) (h6 : I' 76 = I 76) : MSh I' J s hk ln el := by
  unfold MSh
  rw [h5, h6]
  exact h
theorem put_put (r : Nat → Nat → Int32) (j i : Nat) (v u : Int32) : putS (putS r j i v) j i u = putS r j i u := by
  rw [putS_st, putS_st, putS_st]
  funext x y
  generalize (if j ≤ 4 then j else 5) = J'
  generalize (if j ≤ 4 then i else j - 5) = K'
  by_cases e : x = J' ∧ y = K'
  · obtain ⟨rfl, rfl⟩ := e
    rw [st_at, st_at]
  · have e2 : ∀ (g : Nat → Nat → Int32) (z : Int32), stS g J' K' z x y = g x y := fun g z => by
      by_cases q : x = J'
      · exact st_i (fun y' => e ⟨q, y'⟩)
      · exact st_k q
    rw [e2, e2, e2]
theorem put_get (r : Nat → Nat → Int32) (j i : Nat) : putS r j i (getS r j i) = r := by
  rw [putS_st]
  unfold getS
  funext x y
  by_cases h : j ≤ 4
  · rw [if_pos h, if_pos h, if_pos h]
    by_cases e : x = j
    · subst e
      by_cases e2 : y = i
      · subst e2
        rw [st_at]
      · rw [st_i e2]
    · rw [st_k e]
  · rw [if_neg h, if_neg h, if_neg h]
    by_cases e : x = 5
    · subst e
      by_cases e2 : y = j - 5
      · subst e2
        rw [st_at]
      · rw [st_i e2]
    · rw [st_k e]
/-- putting back what stood there keeps the river well, whatever it was, unless it is a level or today -/
theorem m_becomes0 {j i : Nat} {v : Int32} (h : MS T I R n l r) (hj : j = 4 ∨ j = 0 ∨ j = 2) (hi : i < vwN n j) (hv : j = 0 → ¬ v < 0 ∧ v ≤ 99) (k : ∀ I' : tI, (∀ x, x < 55 ∨ 57 < x → I' x = I x) → MS T I' R n l (putS r j i v) → Q none (T, I', J, R)) : Ex X d mX7_becomes 0 [.ref 54, .int (nI i), .int (nI j), .int v] [] (T, I, J, R) Q := by
  have hm := h.1
  have t0 := mt_54 hm
  have h8 := MS_8 h
  simp only [gX7_becomes_0]
  rcases hj with rfl | hj
  · simp only [show (4 : Int32) ≤ nI 4 by decide, if_true, gX7_becomes_20, ne_eq, show nI 4 = 4 by decide, not_true_eq_false, if_false, gX7_becomes_25, gX7_becomes_44, t0, true_and, mr_2 hm, rf_some, rIn_at (mt_56 hm) (show i < 7 from hi) (by decide), nI_clamp (show i < 2 ^ 31 by have : i < 7 := hi; omega)]
    refine k _ (fun x hx => up_ne _ _ (by omega)) ?_
    rw [putS_st, if_pos (by omega), if_pos (by omega)]
    exact MS_setR h hi (up_self _ _ _) (fun x hx => up_ne _ _ hx)
  · have hi' : i < n := by
      unfold vwN at hi
      rw [if_pos (by omega)] at hi
      exact hi
    simp only [show ¬ (4 : Int32) ≤ nI j from nI_ge (b := 4) (by omega) (by decide), if_false, gX7_becomes_5, gX7_becomes_44, t0, true_and, mr_1 hm, rf_some, show (8 : Int32) * nI j = nI (8 * j) from z_mul 8 j, nI_add, rIn_at (mt_55 hm) (show 8 * j + i < 32 by omega) (by decide), nI_clamp (show 8 * j + i < 2 ^ 31 by omega)]
    refine k _ (fun x hx => up_ne _ _ (by omega)) ?_
    rw [putS_st, if_pos (by omega), if_pos (by omega)]
    exact MS_set h (by omega) hi' hv (up_self _ _ _) (fun x hx => up_ne _ _ hx)
theorem m_fits {s p x w : Int32} (h : MS T I R n l r) (hS : ∀ s, s < 6 → MSh I J s (hk s) (ln s) (el s)) (k : ∀ I' : tI, frM I I' → MS T I' R n l r → Q (some (.int (fitsF n l r hk ln el s p x w))) (T, I', J, R)) : Ex X (d + 7) mX7_fits 0 [.ref 54, .int s, .int p, .int x, .int w, rU, rU, rU, rU, rU, rU, rU] [] (T, I, J, R) Q := by
  have h8 := MS_8 h
  have hm := h.1
  have t0 := mt_54 hm
  have bad : ¬ (inB s 0 5 = true ∧ isR n p = true ∧ inB w 0 4 = true ∧ hasB n x (nI (vrS w)) = true) → Q (some (.int (-1))) (T, I, J, R) := by
    intro c
    have := k I (frM_r I) h
    rw [fitsF, if_neg c] at this
    exact this
  simp only [gX7_fits_0]
  refine m_isShelf ?_
  simp only [Option.toList_some, List.cons_append, List.nil_append, gX7_fits_4, if10]
  cases g1 : inB s 0 5 with
  | false =>
    simp only [if_true, gX7_fits_52]
    exact bad (by rw [g1]; simp)
  | true =>
  simp only [reduceCtorEq, if_false, gX7_fits_7, t0, true_and]
  refine s_isOne h ?_
  simp only [Option.toList_some, List.cons_append, List.nil_append, gX7_fits_12, if10]
  cases g2 : isR n p with
  | false =>
    simp only [if_true, gX7_fits_52]
    exact bad (by rw [g2]; simp)
  | true =>
  simp only [reduceCtorEq, if_false, gX7_fits_15]
  refine s_within ?_
  simp only [Option.toList_some, List.cons_append, List.nil_append, gX7_fits_22, if10]
  cases g3 : inB w 0 4 with
  | false =>
    simp only [if_true, gX7_fits_52]
    exact bad (by rw [g3]; simp)
  | true =>
  simp only [reduceCtorEq, if_false, gX7_fits_25]
  have fin : hasB n x (nI (vrS w)) = true → Ex X (d + 7) mX7_fits 54 [.ref 54, .int s, .int p, .int x, .int w, rU, rU, rU, rU, rU, rU, rU] [] (T, I, J, R) Q := by
    intro g4
    rw [fitsF, if_pos ⟨g1, g2, g3, g4⟩] at k
    obtain ⟨s, hs, rfl⟩ := inB_5 g1
    obtain ⟨p, hp, rfl⟩ := isR_t g2 h8
    have cs : (nI s).toNatClampNeg = s := nI_clamp (by omega)
    have hSs := hS s hs
    simp only [gX7_fits_54, t0, true_and]
    refine m_noBytes hm hSs hs ?_
    rw [cs, nI_clamp (show p < 2 ^ 31 by omega)] at k
    simp only [Option.toList_some, List.cons_append, List.nil_append, gX7_fits_59]
    by_cases g5 : hk s = 0
    rotate_left
    · by_cases g6 : hk s = -1
      · simp only [g6, if_true, show ¬ (-1 : Int32) = 0 by decide, if_false, show ¬ (0 : Int32) ≤ -11 by decide, gX7_fits_66] at k ⊢
        exact k I (frM_r I) h
      · simp only [g5, g6, if_false, show ¬ (0 : Int32) ≤ -12 by decide, gX7_fits_66] at k ⊢
        exact k I (frM_r I) h
    simp only [g5, if_true, show ¬ (0 : Int32) = -1 by decide, if_false, show (0 : Int32) ≤ 0 by decide, gX7_fits_69] at k ⊢
    have hV := vr_3 w
    have go : ∀ j : Nat, vrS w = j → Ex X (d + 7) mX7_fits 90 [.ref 54, .int (nI s), .int (nI p), .int x, .int w, .int 0, rU, rU, rU, rU, rU, rU] [.int (nI j)] (T, I, J, R) Q := by
      intro j hvr
      rw [hvr] at k hV g4
      have hj6 : j ≤ 6 := by omega
      obtain ⟨j', i, ej, rfl, hj', hi⟩ := hasB_t g4 h8
      obtain rfl : j = j' := (nI_eq (by omega) (by omega)).mp ej
      have hi' : i < vwN n j := hi
      have hi9 : i < 2 ^ 31 := by unfold vwN at hi'; (repeat' split at hi') <;> omega
      rw [nI_clamp hi9] at k
      obtain ⟨-, f1, f2, -⟩ := ft_t hV
      simp only [gX7_fits_90, t0, true_and]
      refine m_get h hj6 hi' ?_
      simp only [Option.toList_some, List.cons_append, List.nil_append, gX7_fits_99, ne_eq]
      have hlv : j = 0 → ¬ getS r j i < 0 ∧ getS r j i ≤ 99 := by
        rintro rfl
        exact (MS_ok h).1 i hi'
      have loop : ∀ (m : Nat) (A F B B' : Int32) (I1 : tI) (r1 : Nat → Nat → Int32), m ≤ ftT j → (j = 2 → B = B') → frM I I1 → MS T I1 R n l r1 → (∀ u, putS r1 j i u = putS r j i u) → (∀ I' : tI, frM I I' → MS T I' R n l r → Q (some (.int (ftR w (ftS l n (el s) p (min (ln s) 41) r j i m A F B)))) (T, I', J, R)) → Ex X (d + 7) mX7_fits 135 [.ref 54, .int (nI s), .int (nI p), .int (nI i), .int w, .int 0, .int (nI j), .int (getS r j i), .int A, .int B', .int F, .int (nI m - 1)] [] (T, I1, J, R) Q := by
        intro m
        induction m with
        | zero =>
          intro A F B B' I1 r1 hm hB hf1 hM1 hp1 k
          rw [ftS] at k
          simp only [gX7_fits_135, show nI 0 - 1 < 0 by decide, if_true, gX7_fits_191, t0, true_and]
          refine m_becomes0 hM1 hV hi' hlv (fun I2 hf2 hM2 => ?_)
          rw [hp1, put_get] at hM2
          have kk := k I2 (frM_t hf1 (fun x hx => hf2 x (by omega))) hM2
          unfold ftR at kk
          simp only [Option.toList_none, List.nil_append, gX7_fits_200, ne_eq]
          by_cases e4 : w = 4
          · have hj2 : j = 2 := by rw [← hvr, e4]; decide
            rw [hB hj2] at kk
            simp only [e4, not_true_eq_false, if_false, if_true, gX7_fits_206, gX7_fits_225] at kk ⊢
            exact kk
          · simp only [e4, not_false_eq_true, if_false, if_true, gX7_fits_211, show ¬ (2 : Int32) = 0 by decide, true_and, ne_eq] at kk ⊢
            by_cases e2 : w - w / 2 * 2 = 0
            · simp only [e2, not_true_eq_false, if_false, if_true, gX7_fits_218, gX7_fits_225] at kk ⊢
              exact kk
            · simp only [e2, not_false_eq_true, if_false, if_true, gX7_fits_223, gX7_fits_225] at kk ⊢
              exact kk
        | succ m ih =>
          intro A F B B' I1 r1 hm hB hf1 hM1 hp1 k
          rw [ftS] at k
          simp only [nI_pred, gX7_fits_135, nI_pos (show m < 2 ^ 31 by omega), if_false, gX7_fits_140, t0, true_and]
          refine m_becomes hM1 hj6 hi' (ft_fit hV (by omega)) (fun I2 hf2 hM2 => ?_)
          have hf12 := frM_t hf1 (fun x hx => hf2 x (by omega) : frM I1 I2)
          simp only [Option.toList_none, List.nil_append, gX7_fits_149, t0, true_and]
          refine m_unlike hM2 (MSh_fr hSs (hf12 75 (by omega)) (hf12 76 (by omega))) hs hp (fun I3 hf3 hM3 => ?_)
          rw [hp1] at hM3 ⊢
          have hp3 : ∀ u, putS (putS r j i (nI m)) j i u = putS r j i u := fun u => put_put r j i _ u
          simp only [Option.toList_some, List.cons_append, List.nil_append, gX7_fits_155]
          have nx : nI m + Int32.ofInt (-1) = nI m - 1 := by rw [ofI_m1, Int32.sub_eq_add_neg]
          by_cases e : ulS l n (el s) p (min (ln s) 41) 0 (putS r j i (nI m)) = -2
          · simp only [e, if_true, gX7_fits_163] at k ⊢
            by_cases em : 2 ≤ m
            · simp only [show (2 : Int32) ≤ nI m from nI_le (a := 2) em (by omega), if_true, gX7_fits_185, nx]
              refine ih _ _ _ _ I3 _ (by omega) (fun z => ?_) (frM_t hf12 hf3) hM3 hp3 k
              subst z
              unfold ftT at hm
              simp at hm
              omega
            · simp only [show ¬ (2 : Int32) ≤ nI m from nI_ge (b := 2) (by omega) (by decide), if_false, gX7_fits_176, gX7_fits_185, nx]
              exact ih _ _ _ _ I3 _ (by omega) (fun z => by rw [hB z]) (frM_t hf12 hf3) hM3 hp3 k
          · simp only [e, if_false, gX7_fits_160, gX7_fits_185, nx] at k ⊢
            exact ih _ _ _ _ I3 _ (by omega) hB (frM_t hf12 hf3) hM3 hp3 k
      have lp := loop (ftT j) 0 (-2) 0 0 I r (by omega) (fun _ => rfl) (frM_r I) h (fun _ => rfl) k
      rcases hV with rfl | rfl | rfl
      · simp only [show nI 4 = 4 by decide, not_true_eq_false, if_false, if_true, gX7_fits_117, gX7_fits_133]
        exact lp
      · simp only [show nI 0 = 0 by decide, show ¬ (0 : Int32) = 4 by decide, not_false_eq_true, not_true_eq_false, if_false, if_true, gX7_fits_122, gX7_fits_127, gX7_fits_133, ne_eq]
        exact lp
      · simp only [show nI 2 = 2 by decide, show ¬ (2 : Int32) = 4 by decide, show ¬ (2 : Int32) = 0 by decide, not_false_eq_true, not_true_eq_false, if_false, if_true, gX7_fits_122, gX7_fits_132, gX7_fits_133, ne_eq]
        exact lp
    by_cases e2 : w < 2
    · have := go 4 (by unfold vrS; rw [if_pos e2])
      simp only [show ¬ (2 : Int32) ≤ w from Int32.not_le.mpr e2, if_false, gX7_fits_75]
      exact this
    · simp only [Int32.not_lt.mp e2, if_true, gX7_fits_79]
      by_cases e4 : w < 4
      · have := go 0 (by unfold vrS; rw [if_neg e2, if_pos e4])
        simp only [show ¬ (4 : Int32) ≤ w from Int32.not_le.mpr e4, if_false, gX7_fits_85]
        exact this
      · have := go 2 (by unfold vrS; rw [if_neg e2, if_neg e4])
        simp only [Int32.not_lt.mp e4, if_true, gX7_fits_89]
        exact this
  by_cases e2 : w < 2
  · simp only [show ¬ (2 : Int32) ≤ w from Int32.not_le.mpr e2, if_false, gX7_fits_31]
    have ev : nI (vrS w) = 4 := by unfold vrS; rw [if_pos e2]; decide
    refine s_within ?_
    simp only [Option.toList_some, List.cons_append, List.nil_append, gX7_fits_38, if10]
    rw [ev, hasB_4] at fin
    rw [ev, hasB_4] at bad
    cases g4 : inB x 0 6 with
    | false =>
      simp only [if_true, gX7_fits_52]
      exact bad (by rw [g4]; simp)
    | true =>
      simp only [reduceCtorEq, if_false, gX7_fits_41]
      exact fin g4
  · simp only [Int32.not_lt.mp e2, if_true, gX7_fits_44, t0, true_and]
    have ev : hasB n x (nI (vrS w)) = isR n x := by
      refine hasB_1 ?_
      unfold vrS
      rw [if_neg e2]
      split <;> decide +kernel
    rw [ev] at fin bad
    refine s_isOne h ?_
    simp only [Option.toList_some, List.cons_append, List.nil_append, gX7_fits_49, ne_eq, if10]
    cases g4 : isR n x with
    | false =>
      simp only [not_true_eq_false, if_false, gX7_fits_52]
      exact bad (by rw [g4]; simp)
    | true =>
      simp only [reduceCtorEq, not_false_eq_true, if_true]
      exact fin g4
end FI
