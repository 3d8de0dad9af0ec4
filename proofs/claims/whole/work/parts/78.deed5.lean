/-! PURE: row, put, element joined -/
def cutS (k : Int32) (z : Int64) : Int64 := if k = 0 then z.toInt32.toInt8.toInt32.toInt64 else if k = 1 then z.toInt32.toInt16.toInt32.toInt64 else if k = 2 then z.toInt32.toInt64 else if k = 3 then z else (if lg_cmp z 0 = 0 then 0 else 1)
section D5
variable {X : tX} {T : tT} {I I' I1 I2 : tI} {J J' J1 J2 : tJ} {R R' : tR} {Q : tQ} {d b b2 n L0 s ln : Nat} {xs : Nat → Int32} {l : tL} {r : Nat → Nat → Int32} {sh sh' : tSh} {ld : Nat → Int32} {im : tIm} {tp : tTp} {ch : tCh} {st : tSt} {v w x hk : Int32} {el : Nat → Int64} {z : Int64}
theorem CSh_row (h : CSh T I J R s hk ln el) (hr : inB hk 0 4 = true) : ∃ k : Nat, k ≤ 4 ∧ hk = nI k ∧ I (42 + 2 * s) 0 = 2 ∧ I (42 + 2 * s) 2 = nI k ∧ I (42 + 2 * s) 3 = nI ln ∧ ln ≤ 60 ∧ ∀ i, i < ln → J (43 + 2 * s) i = el i := by
  obtain ⟨t0, t1, r4, hh⟩ := h
  rcases hh with ⟨z, e0⟩ | ⟨j, hj, ej, e0, e2, e3, hl, hel⟩ | ⟨j, hj, ej, e0, e1⟩
  · rw [z] at hr
    exact absurd hr (by decide +kernel)
  · exact ⟨j, hj, ej, e0, e2, e3, hl, hel⟩
  · rw [ej, (sh_10 ⟨j, hj⟩).2.2] at hr
    exact absurd hr (by decide)
theorem c_holdRow {m k : Nat} (t0 : T[42 + 2 * s]? = some (3, 4)) (t1 : T[43 + 2 * s]? = some (1, 60)) (r4 : R (42 + 2 * s) 4 = some (43 + 2 * s)) (hm : m ≤ 60) (kk : ∀ (I' : tI) (J' : tJ), (∀ x, x ≠ 42 + 2 * s → I' x = I x) → (∀ x, x ≠ 43 + 2 * s → J' x = J x) → I' (42 + 2 * s) 0 = 2 → I' (42 + 2 * s) 2 = nI k → I' (42 + 2 * s) 3 = nI m → (∀ i, i < m → J' (43 + 2 * s) i = 0) → Q none (T, I', J', R)) : Ex X (d + 1) mX4_holdRow 0 [.ref (42 + 2 * s), .int (nI k), .int (nI m), rU] [] (T, I, J, R) Q := by
  have e1 : ¬ (60 : Int32) < nI m := nI_nlt (a := 60) (by omega) (by decide)
  have e2 : (if (0 : Int32) < nI m then nI m else 0) = nI m := by
    by_cases e : m = 0
    · subst e; decide
    · rw [if_pos (show (0 : Int32) < nI m from nI_lt (a := 0) (by omega) (by omega))]
  simp only [gX4_holdRow_0, t0, true_and, e1, if_false, e2]
  generalize hI1 : va_up (va_up (va_up I (42 + 2 * s) (va_up (I (42 + 2 * s)) 0 2)) (42 + 2 * s) (va_up (va_up I (42 + 2 * s) (va_up (I (42 + 2 * s)) 0 2) (42 + 2 * s)) 2 (nI k))) (42 + 2 * s) (va_up (va_up (va_up I (42 + 2 * s) (va_up (I (42 + 2 * s)) 0 2)) (42 + 2 * s) (va_up (va_up I (42 + 2 * s) (va_up (I (42 + 2 * s)) 0 2) (42 + 2 * s)) 2 (nI k)) (42 + 2 * s)) 3 (nI m)) = I1
  have g1 : ∀ x, x ≠ 42 + 2 * s → I1 x = I x := fun x hx => by rw [← hI1, up_ne _ _ hx, up_ne _ _ hx, up_ne _ _ hx]
  have g2 : I1 (42 + 2 * s) 0 = 2 := by rw [← hI1, up_self, up_ne _ _ (by decide), up_self, up_ne _ _ (by decide), up_self, up_self]
  have g3 : I1 (42 + 2 * s) 2 = nI k := by rw [← hI1, up_self, up_ne _ _ (by decide), up_self, up_self]
  have g4 : I1 (42 + 2 * s) 3 = nI m := by rw [← hI1, up_self, up_self]
  have loop : ∀ i, i ≤ m → ∀ J1 : tJ, (∀ x, x ≠ 43 + 2 * s → J1 x = J x) → (∀ j, j < i → J1 (43 + 2 * s) j = 0) → Ex X (d + 1) mX4_holdRow 26 [.ref (42 + 2 * s), .int (nI k), .int (nI m), .int (nI i)] [] (T, I1, J1, R) Q := by
    refine loop_up (P := fun i => ∀ J1 : tJ, (∀ x, x ≠ 43 + 2 * s → J1 x = J x) → (∀ j, j < i → J1 (43 + 2 * s) j = 0) → Ex X (d + 1) mX4_holdRow 26 [.ref (42 + 2 * s), .int (nI k), .int (nI m), .int (nI i)] [] (T, I1, J1, R) Q) (n := m) ?_ ?_
    · intro J1 j1 j2
      simp only [gX4_holdRow_26, t0, true_and, g4, nI_le (Nat.le_refl m) (by omega), if_true, gX4_holdRow_47]
      exact kk I1 J1 g1 j1 g2 g3 g4 j2
    · intro i hi ih J1 j1 j2
      simp only [gX4_holdRow_26, t0, true_and, g4, nI_ge hi (by omega), if_false]
      simp only [gX4_holdRow_34, t0, true_and, r4, rf_some, rIn_at t1 (show i < 60 by omega) (by decide), nI_clamp (show i < 2 ^ 31 by omega), nI_1]
      refine ih _ (fun x hx => by rw [up_ne _ _ hx]; exact j1 x hx) (fun j hj => ?_)
      rw [up_self]
      by_cases e : j = i
      · rw [e, up_self]
      · rw [up_ne _ _ e]; exact j2 j (by omega)
  exact loop 0 (by omega) J (fun _ _ => rfl) (fun j hj => absurd hj (Nat.not_lt_zero j))
def rwB (s w v : Int32) : Bool := inB s 0 5 && (inB w 0 4 && decide (v ≤ 60))
def rwZ (s w v : Int32) : Int32 := if rwB s w v = true then (if v < 0 then -14 else 1) else -1
def rwS (sh : tSh) (s w v : Int32) : tSh := if rwB s w v = true then (if v < 0 then sh else shU sh s.toNatClampNeg w v.toNatClampNeg (fun _ => 0)) else sh
theorem c_row {s : Int32} (h0 : T[0]? = some (3, 6)) (hS : HSh T R ∧ ∀ s, s < 6 → CSh T I J R s (sh.1 s) (sh.2.1 s) (sh.2.2 s)) (k : ∀ (I' : tI) (J' : tJ), (∀ x, ¬ (42 ≤ x ∧ x ≤ 53) → I' x = I x) → (∀ x, ¬ (43 ≤ x ∧ x ≤ 53) → J' x = J x) → (∀ i, i < 6 → CSh T I' J' R i ((rwS sh s w v).1 i) ((rwS sh s w v).2.1 i) ((rwS sh s w v).2.2 i)) → Q (some (.int (rwZ s w v))) (T, I', J', R)) : Ex X (d + 3) mX6_row 0 [.ref 0, .int s, .int w, .int v] [] (T, I, J, R) Q := by
  obtain ⟨⟨t41, r11, r41⟩, hSa⟩ := hS
  unfold rwZ rwS at k
  have bad : rwB s w v = false → Ex X (d + 3) mX6_row 22 [.ref 0, .int s, .int w, .int v] [] (T, I, J, R) Q := by
    intro c
    rw [if_neg (by rw [c]; simp), if_neg (by rw [c]; simp)] at k
    simp only [gX6_row_22]
    exact k I J (fun _ _ => rfl) (fun _ _ => rfl) hSa
  simp only [gX6_row_0]
  refine c_isShelf ?_
  simp only [Option.toList_some, List.cons_append, List.nil_append, gX6_row_4, if10]
  cases g1 : inB s 0 5 with
  | false =>
    simp only [if_true]
    exact bad (by unfold rwB; rw [g1]; rfl)
  | true =>
    obtain ⟨i, hi, rfl⟩ := inB_5 g1
    have ci : (nI i).toNatClampNeg = i := nI_clamp (by omega)
    obtain ⟨e0, e1, e2, e3⟩ := id (hSa i hi)
    rw [ci] at k
    simp only [reduceCtorEq, if_false, gX6_row_7, gX6_row_11, gX6_row_16]
    by_cases c : rwB (nI i) w v = true
    · have c' : inB w 0 4 = true ∧ v ≤ 60 := by
        unfold rwB at c
        rw [g1, Bool.true_and, Bool.and_eq_true, decide_eq_true_eq] at c
        exact c
      obtain ⟨w1, w2⟩ := of_decide_eq_true c'.1
      rw [if_pos c, if_pos c] at k
      simp only [w1, w2, if_false, c'.2, if_true, gX6_row_24]
      by_cases e : v < 0
      · rw [if_pos e, if_pos e] at k
        simp only [show ¬ 0 ≤ v from Int32.not_le.mpr e, if_false, gX6_row_28]
        exact k I J (fun _ _ => rfl) (fun _ _ => rfl) hSa
      · rw [if_neg e, if_neg e] at k
        obtain ⟨m, hm, rfl⟩ := nI_of2 (x := v) (M := 60) (n := 60) (by decide) e c'.2
        obtain ⟨q, hq, rfl⟩ := inB_n (m := 4) (by decide) c'.1
        rw [nI_clamp (show m < 2 ^ 31 by omega)] at k
        simp only [Int32.not_lt.mp e, if_true, gX6_row_31, h0, true_and, r11, rf_some, rIn_at t41 hi (by decide), ci, r41 i hi, e0]
        refine c_holdRow e0 e1 e2 hm (fun I1 J1 a1 a2 a3 a4 a5 a6 => ?_)
        simp only [Option.toList_none, List.nil_append, gX6_row_42]
        refine k I1 J1 (fun x hx => a1 x (by omega)) (fun x hx => a2 x (by omega)) ?_
        exact CSh_all hSa (fun s' h6 hne => a1 _ (by omega)) (fun s' h6 hne => a2 _ (by omega)) ⟨e0, e1, e2, Or.inr (Or.inl ⟨q, hq, rfl, a3, a4, a5, hm, a6⟩)⟩
    · have b' := bad (by simpa using c)
      repeat' first | exact b' | split
      refine absurd ?_ c
      unfold rwB
      rw [g1, Bool.true_and, Bool.and_eq_true, decide_eq_true_eq]
      exact ⟨decide_eq_true ⟨‹_›, ‹_›⟩, ‹_›⟩
theorem m_row {s : Int32} (hm : IsMod T R) (hS : ∀ s, s < 6 → MSh I J s (sh.1 s) (sh.2.1 s) (sh.2.2 s)) (k : ∀ (I' : tI) (J' : tJ), (∀ x, x ≠ 75 → x ≠ 76 → I' x = I x) → (∀ x, x ≠ 77 → J' x = J x) → (∀ i, i < 6 → MSh I' J' i ((rwS sh s w v).1 i) ((rwS sh s w v).2.1 i) ((rwS sh s w v).2.2 i)) → Q (some (.int (rwZ s w v))) (T, I', J', R)) : Ex X (d + 3) mX7_row 0 [.ref 54, .int s, .int w, .int v, rU] [] (T, I, J, R) Q := by
  have t0 := mt_54 hm
  unfold rwZ rwS at k
  have bad : rwB s w v = false → Ex X (d + 3) mX7_row 22 [.ref 54, .int s, .int w, .int v, rU] [] (T, I, J, R) Q := by
    intro c
    rw [if_neg (by rw [c]; simp), if_neg (by rw [c]; simp)] at k
    simp only [gX7_row_22]
    exact k I J (fun _ _ _ => rfl) (fun _ _ => rfl) hS
  simp only [gX7_row_0]
  refine m_isShelf ?_
  simp only [Option.toList_some, List.cons_append, List.nil_append, gX7_row_4, if10]
  cases g1 : inB s 0 5 with
  | false =>
    simp only [if_true]
    exact bad (by unfold rwB; rw [g1]; rfl)
  | true =>
    obtain ⟨i, hi, rfl⟩ := inB_5 g1
    have ci : (nI i).toNatClampNeg = i := nI_clamp (by omega)
    rw [ci] at k
    simp only [reduceCtorEq, if_false, gX7_row_7]
    refine s_within ?_
    simp only [Option.toList_some, List.cons_append, List.nil_append, gX7_row_13, if10]
    cases g2 : inB w 0 4 with
    | false =>
      simp only [if_true]
      exact bad (by unfold rwB; rw [g2, Bool.false_and, Bool.and_false])
    | true =>
      simp only [reduceCtorEq, if_false, gX7_row_16]
      by_cases e6 : v ≤ 60
      · have c : rwB (nI i) w v = true := by unfold rwB; rw [g1, g2, decide_eq_true e6]; rfl
        rw [if_pos c, if_pos c] at k
        simp only [e6, if_true, gX7_row_24]
        by_cases e : v < 0
        · rw [if_pos e, if_pos e] at k
          simp only [show ¬ 0 ≤ v from Int32.not_le.mpr e, if_false, gX7_row_28]
          exact k I J (fun _ _ _ => rfl) (fun _ _ => rfl) hS
        · rw [if_neg e, if_neg e] at k
          obtain ⟨m, hm6, rfl⟩ := nI_of2 (x := v) (M := 60) (n := 60) (by decide) e e6
          rw [nI_clamp (show m < 2 ^ 31 by omega)] at k
          simp only [Int32.not_lt.mp e, if_true, gX7_row_31, t0, true_and, mr_34 hm, mr_35 hm, rf_some, rIn_at (mt_75 hm) hi (by decide), rIn_at (mt_76 hm) hi (by decide), ci, up_ne _ _ (show (76 : Nat) ≠ 75 by decide)]
          generalize hI1 : va_up (va_up I 75 (va_up (I 75) i w)) 76 (va_up (I 76) i (nI m)) = I1
          have a1 : ∀ x, x ≠ 75 → x ≠ 76 → I1 x = I x := fun x x1 x2 => by rw [← hI1, up_ne _ _ x2, up_ne _ _ x1]
          have a2 : I1 75 = va_up (I 75) i w := by rw [← hI1, up_ne _ _ (by decide), up_self]
          have a3 : I1 76 = va_up (I 76) i (nI m) := by rw [← hI1, up_self]
          have loop : ∀ j, j ≤ 60 → ∀ J1 : tJ, (∀ x, x ≠ 77 → J1 x = J x) → (∀ q, q < j → J1 77 (60 * i + q) = 0) → (∀ q, q < 60 * i ∨ 60 * i + 60 ≤ q → J1 77 q = J 77 q) → Ex X (d + 3) mX7_row 48 [.ref 54, .int (nI i), .int w, .int (nI m), .int (nI j)] [] (T, I1, J1, R) Q := by
            refine loop_up (P := fun j => ∀ J1 : tJ, (∀ x, x ≠ 77 → J1 x = J x) → (∀ q, q < j → J1 77 (60 * i + q) = 0) → (∀ q, q < 60 * i ∨ 60 * i + 60 ≤ q → J1 77 q = J 77 q) → Ex X (d + 3) mX7_row 48 [.ref 54, .int (nI i), .int w, .int (nI m), .int (nI j)] [] (T, I1, J1, R) Q) (n := 60) ?_ ?_
            · intro J1 j1 j2 j3
              simp only [gX7_row_48, show (60 : Int32) ≤ nI 60 by decide, if_true, gX7_row_74]
              refine k I1 J1 a1 j1 ?_
              refine MSh_all hS (fun s' h6 hne => ⟨by rw [a2, up_ne _ _ hne], by rw [a3, up_ne _ _ hne]⟩) (fun s' h6 hne q hq => j3 _ (by omega)) ⟨by rw [a2, up_self], by rw [a3, up_self], hm6, fun q hq => j2 q (by omega)⟩
            · intro j hj ih J1 j1 j2 j3
              have e60 : (60 : Int32) * nI i = nI (60 * i) := z_mul 60 i
              simp only [gX7_row_48, show ¬ (60 : Int32) ≤ nI j from nI_ge (b := 60) hj (by decide), if_false]
              simp only [gX7_row_55, t0, true_and, mr_36 hm, rf_some, e60, nI_add, rIn_at (mt_77 hm) (show 60 * i + j < 360 by omega) (by decide), nI_clamp (show 60 * i + j < 2 ^ 31 by omega), nI_1]
              refine ih _ (fun x hx => by rw [up_ne _ _ hx]; exact j1 x hx) (fun q hq => ?_) (fun q hq => ?_)
              · rw [up_self]
                by_cases e : q = j
                · rw [e, up_self]
                · rw [up_ne _ _ (by omega)]; exact j2 q (by omega)
              · rw [up_self, up_ne _ _ (by omega)]; exact j3 q hq
          exact loop 0 (by omega) J (fun _ _ => rfl) (fun q hq => absurd hq (Nat.not_lt_zero q)) (fun _ _ => rfl)
      · simp only [e6, if_false]
        exact bad (by unfold rwB; rw [decide_eq_false e6, Bool.and_false, Bool.and_false])
theorem j_row {s : Int32} : Jn X (d + 50) (d + 50) mX6_row [.ref 0, .int s, .int w, .int v] mX7_row [.ref 54, .int s, .int w, .int v, rU] := by
  rintro T I J R ⟨ht1, ht2, b, b2, n, l, r, sh, ld, im, tp, ch, st, hb, hH, hC, hM, hA, hP⟩
  have hos := hP.2.2.2.2.1
  refine ⟨rwZ s w v, c_row (d := d + 47) hH.1 hC.1 (fun I1 J1 h1 g1 hc => ⟨rfl, rfl, ?_⟩)⟩
  refine m_row (d := d + 47) hM.1 (fun s hs => MSh_f (hA.1 s hs) (h1 75 (by omega)) (h1 76 (by omega)) (g1 77 (by omega))) (fun I2 J2 h2 g2 hm => ⟨rfl, ?_⟩)
  refine Rel_sh ⟨ht1, ht2⟩ hb hH hC hM hA hP h1 hc h2 g2 hm (fun i hi q hq e => ?_)
  unfold rwS at e
  by_cases c : rwB s w v = true
  · rw [if_pos c] at e
    by_cases c2 : v < 0
    · rw [if_pos c2] at e
      exact hos i hi q hq e
    · rw [if_neg c2] at e
      have e' : va_up sh.1 s.toNatClampNeg w i = nI (10 + q) := e
      by_cases ei : i = s.toNatClampNeg
      · rw [ei, up_self] at e'
        have g3 : inB w 0 4 = true := by
          unfold rwB at c
          rw [Bool.and_eq_true, Bool.and_eq_true] at c
          exact c.2.1
        rw [e', (sh_10 ⟨q, hq⟩).2.2] at g3
        exact absurd g3 (by decide)
      · rw [up_ne _ _ ei] at e'
        exact hos i hi q hq e'
  · rw [if_neg c] at e
    exact hos i hi q hq e
end D5
