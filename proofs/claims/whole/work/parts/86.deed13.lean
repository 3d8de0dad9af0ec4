/-! PURE: day joined -/
def riF (q r : Nat → Nat → Int32) (c a : Int32) : Nat → Int32
  | 0 => a
  | i + 1 => riF q r c a i + (if sgS q r i = c then 1 else 0)
def dyL (n : Nat) (q r : Nat → Nat → Int32) (ld : Nat → Int32) : Nat → Int32 := fun i => if i = 0 then ld 0 + 1 else if i = 1 then riF q r 1 (ld 1) n else if i = 2 then riF q r 2 (ld 2) n else if i = 3 then ld 3 + bcS (ovS n r n &&& (ovS n q n ^^^ -1)) else ld i
theorem day_get {l : tL} {n : Nat} {r : Nat → Nat → Int32} {j i : Nat} (hj : j ≤ 6) (hi : i < vwN n j) (h0 : ¬ j = 0) (h6 : ¬ j = 6) : getS (dayS l n r) j i = getS r j i := by
  unfold getS dayS
  unfold vwN at hi
  by_cases h4 : j ≤ 4
  · rw [if_pos h4, if_pos h4]
    by_cases h3 : j ≤ 3
    · rw [if_pos h3] at hi
      rw [can_lt (by omega) hi, if_neg h0, if_neg (by omega)]
    · obtain rfl : j = 4 := by omega
      rw [if_neg (by decide), if_pos rfl] at hi
      rw [can_4 hi, if_neg (by decide), if_neg (by omega)]
  · obtain rfl : j = 5 := by omega
    rw [if_neg h4, if_neg h4, can_5 (by omega), if_neg (by decide), if_neg (by omega)]
theorem fitR_day {l : tL} {n : Nat} {r : Nat → Nat → Int32} (h : fitR n r) (hk : rvOk n r) : fitR n (dayS l n r) := by
  have hk' : rvOk n (dayS l n r) := rvOk_day hk
  intro j i hj hi
  by_cases h0 : j = 0
  · subst h0
    rw [fitB_j (by decide)]
    obtain ⟨a1, a2⟩ := hk'.1 i hi
    exact decide_eq_true ⟨a1, Int32.not_lt.mpr a2⟩
  · by_cases h6 : j = 6
    · subst h6
      obtain ⟨t, ht, e⟩ := hk'.2
      have : getS (dayS l n r) 6 i = dayS l n r 5 1 := rfl
      rw [this, e, fitB_j (by decide)]
      exact decide_eq_true ⟨nI_pos (by omega), nI_nlt (a := 6) (by omega) (by decide)⟩
    · rw [day_get hj hi h0 h6]
      exact h j i hj hi
section D13
variable {X : tX} {T : tT} {I I' I1 I2 : tI} {J J' J1 J2 : tJ} {R R' : tR} {Q : tQ} {d b b2 n n' L0 p : Nat} {xs : Nat → Int32} {l : tL} {r r' : Nat → Nat → Int32} {sh sh' : tSh} {ld ld' : Nat → Int32} {im : tIm} {tp : tTp} {ch ch' : tCh} {st : tSt}
set_option maxHeartbeats 2000000 in
theorem c_day (h : HS T I R b n l r) (hL : CLd T I R ld) (k : ∀ I' : tI, (∀ x, x < 1 ∨ 14 < x → x ≠ b + 2 → x ≠ 22 → I' x = I x) → HS T I' R b n l (dayS l n r) → CLd T I' R (dyL n r (dayS l n r) ld) → Q (some (.int (bcS (ovS n (dayS l n r) n)))) (T, I', J, R)) : Ex X (d + 6) mX6_day 0 [.ref 0, rU, rU] [] (T, I, J, R) Q := by
  have h8 := HS_8 h
  obtain ⟨h0, r0, r1, r8, hb, hb2, hv, hC⟩ := id h
  obtain ⟨c1, c2, c3⟩ := hL
  have hv1 := hC.2.1
  have i0 : rIn T 22 0 0 := rIn_at (k := 0) c1 (by decide) (by decide)
  have i1 : rIn T 22 0 1 := rIn_at (k := 1) c1 (by decide) (by decide)
  have i2 : rIn T 22 0 2 := rIn_at (k := 2) c1 (by decide) (by decide)
  have i3 : rIn T 22 0 3 := rIn_at (k := 3) c1 (by decide) (by decide)
  have n1 : (1 : Int32).toNatClampNeg = 1 := by decide
  have n2 : (2 : Int32).toNatClampNeg = 2 := by decide
  have n3 : (3 : Int32).toNatClampNeg = 3 := by decide
  simp only [gX6_day_0, h0, true_and, r0, r1, rf_some, hv.1]
  refine c_take h (fun I1 f1 hT1 => ?_)
  have hC1 : CS T I1 R 1 b n l r := CS_fr hC (fun x hx => f1 x (by omega) (by omega))
  simp only [Option.toList_none, List.nil_append, gX6_day_11, h0, true_and, r0, r8, rf_some, hv1.1]
  refine c_pass1 hC1 (fun I2 f2 hC2 _ => ?_)
  have hT2 : CS T I2 R 8 b n l r := CS_fr hT1 (fun x hx => f2 x (by omega) (by omega) (by omega) (by omega))
  simp only [Option.toList_none, List.nil_append, gX6_day_23]
  have f12 : ∀ x, x < 1 ∨ 14 < x → x ≠ b + 2 → I2 x = I x := fun x x1 x2 => by rw [f2 x (by omega) (by omega) (by omega) x2, f1 x (by omega) x2]
  have L22 : I2 22 = I 22 := f12 22 (by omega) (by omega)
  generalize hr' : dayS l n r = r' at k hC2
  have hv10 : R 1 0 = some 2 := hv1.2.2.2.2.2.2.2.1
  have hv80 : R 8 0 = some 9 := hv.2.2.2.2.2.2.2.1
  have t2 : T[2]? = some (0, 8) := hv1.2.1
  have t9 : T[9]? = some (0, 8) := hv.2.1
  have loop : ∀ i, i ≤ n → ∀ (I3 : tI) (v2 : Value), (∀ x, x ≠ 22 → I3 x = I2 x) → I3 22 1 = riF r r' 1 (ld 1) i → I3 22 2 = riF r r' 2 (ld 2) i → (∀ y, y ≠ 1 → y ≠ 2 → I3 22 y = I2 22 y) → Ex X (d + 6) mX6_day 25 [.ref 0, .int (nI i), v2] [] (T, I3, J, R) Q := by
    refine loop_up (P := fun i => ∀ (I3 : tI) (v2 : Value), (∀ x, x ≠ 22 → I3 x = I2 x) → I3 22 1 = riF r r' 1 (ld 1) i → I3 22 2 = riF r r' 2 (ld 2) i → (∀ y, y ≠ 1 → y ≠ 2 → I3 22 y = I2 22 y) → Ex X (d + 6) mX6_day 25 [.ref 0, .int (nI i), v2] [] (T, I3, J, R) Q) (n := n) ?_ ?_
    · intro I3 v2 g1 g2 g3 g4
      have hC3 : CS T I3 R 1 b n l r' := CS_fr hC2 (fun x hx => g1 x (by omega))
      have hT3 : CS T I3 R 8 b n l r := CS_fr hT2 (fun x hx => g1 x (by omega))
      have e8 : I3 1 8 = nI n := hC3.2.2.2.2.2.1
      simp only [gX6_day_25, h0, true_and, r0, rf_some, hv1.1, e8, nI_le (Nat.le_refl n) (by omega), if_true, gX6_day_102, c2, i3, n3]
      refine c_overBits hC3 ?_
      simp only [Option.toList_some, List.cons_append, List.nil_append, gX6_day_116, h0, true_and, r1, rf_some, hv.1]
      refine c_overBits hT3 ?_
      simp only [Option.toList_some, List.cons_append, List.nil_append, gX6_day_123]
      refine j_bitCount ?_
      simp only [Option.toList_some, List.cons_append, List.nil_append, gX6_day_129, i3, i0, true_and, n3, clamp_0, h0, c2, r0, rf_some, hv1.1, up_self, up_ne _ _ (show (0 : Nat) ≠ 3 by decide)]
      generalize hI4 : va_up (va_up I3 22 (va_up (I3 22) 3 (I3 22 3 + bcS (ovS n r' n &&& (ovS n r n ^^^ -1))))) 22 (va_up (va_up (I3 22) 3 (I3 22 3 + bcS (ovS n r' n &&& (ovS n r n ^^^ -1)))) 0 (I3 22 0 + 1)) = I4
      have a1 : ∀ x, x ≠ 22 → I4 x = I3 x := fun x hx => by rw [← hI4, up_ne _ _ hx, up_ne _ _ hx]
      have a2 : I4 22 = va_up (va_up (I3 22) 3 (I3 22 3 + bcS (ovS n r' n &&& (ovS n r n ^^^ -1)))) 0 (I3 22 0 + 1) := by rw [← hI4, up_self]
      have hC4 : CS T I4 R 1 b n l r' := CS_fr hC3 (fun x hx => a1 x (by omega))
      refine c_overBits hC4 ?_
      simp only [Option.toList_some, List.cons_append, List.nil_append, gX6_day_148]
      refine j_bitCount ?_
      simp only [Option.toList_some, List.cons_append, List.nil_append, gX6_day_151]
      refine k I4 (fun x x1 x2 x3 => by rw [a1 x x3, g1 x x3, f12 x x1 x2]) (HS_cs h hC4) ⟨c1, c2, fun y hy => ?_⟩
      rw [a2]
      unfold dyL
      have hy' : y = 0 ∨ y = 1 ∨ y = 2 ∨ y = 3 ∨ y = 4 := by omega
      rcases hy' with rfl | rfl | rfl | rfl | rfl
      · rw [up_self, if_pos rfl, g4 0 (by decide) (by decide), L22, c3 0 (by decide)]
      · rw [up_ne _ _ (by decide), up_ne _ _ (by decide), if_neg (by decide), if_pos rfl]; exact g2
      · rw [up_ne _ _ (by decide), up_ne _ _ (by decide), if_neg (by decide), if_neg (by decide), if_pos rfl]; exact g3
      · rw [up_ne _ _ (by decide), up_self, if_neg (by decide), if_neg (by decide), if_neg (by decide), if_pos rfl, g4 3 (by decide) (by decide), L22, c3 3 (by decide)]
      · rw [up_ne _ _ (by decide), up_ne _ _ (by decide), if_neg (by decide), if_neg (by decide), if_neg (by decide), if_neg (by decide), g4 4 (by decide) (by decide), L22]
        exact c3 4 (by decide)
    · intro i hi ih I3 v2 g1 g2 g3 g4
      have hC3 : CS T I3 R 1 b n l r' := CS_fr hC2 (fun x hx => g1 x (by omega))
      have hT3 : CS T I3 R 8 b n l r := CS_fr hT2 (fun x hx => g1 x (by omega))
      have e8 : I3 1 8 = nI n := hC3.2.2.2.2.2.1
      have ci : (nI i).toNatClampNeg = i := nI_clamp (by omega)
      have l1 : I3 2 i = r' 0 i := CS_lv hC3 hi
      have l2 : I3 9 i = r 0 i := CS_lv hT3 hi
      simp only [gX6_day_25, h0, true_and, r0, rf_some, hv1.1, e8, nI_ge hi (by omega), if_false, gX6_day_36, r1, hv.1, hv10, hv80, rIn_at t2 (show i < 8 by omega) (by decide), rIn_at t9 (show i < 8 by omega) (by decide), ci, l1, l2]
      refine c_signOf ?_
      have es : (if r' 0 i ≤ r 0 i then (if r 0 i ≤ r' 0 i then (0 : Int32) else 2) else 1) = sgS r r' i := rfl
      rw [es]
      simp only [Option.toList_some, List.cons_append, List.nil_append, gX6_day_57, h0, true_and, c2, rf_some, i1, n1, ne_eq]
      have two : ∀ (A : Int32), A = riF r r' 1 (ld 1) (i + 1) → ∀ sg : Int32, sg = sgS r r' i → Ex X (d + 6) mX6_day 77 [.ref 0, .int (nI i), .int sg] [] (T, va_up I3 22 (va_up (I3 22) 1 A), J, R) Q := by
        intro A eA sg esg
        have g3' : va_up I3 22 (va_up (I3 22) 1 A) 22 2 = riF r r' 2 (ld 2) i := by rw [up_self, up_ne _ _ (by decide)]; exact g3
        simp only [gX6_day_75, h0, true_and, c2, rf_some, i2, n2, ne_eq, g3']
        have fin : ∀ B : Int32, B = riF r r' 2 (ld 2) (i + 1) → Ex X (d + 6) mX6_day 25 [.ref 0, .int (nI (i + 1)), .int sg] [] (T, va_up (va_up I3 22 (va_up (I3 22) 1 A)) 22 (va_up (va_up I3 22 (va_up (I3 22) 1 A) 22) 2 B), J, R) Q := by
          intro B eB
          refine ih _ _ (fun x hx => by rw [up_ne _ _ hx, up_ne _ _ hx]; exact g1 x hx) (by rw [up_self, up_ne _ _ (by decide), up_self, up_self]; exact eA) (by rw [up_self, up_self]; exact eB) (fun y y1 y2 => by rw [up_self, up_ne _ _ y2, up_self, up_ne _ _ y1]; exact g4 y y1 y2)
        by_cases e2 : sg = 2
        · simp only [e2, not_true_eq_false, if_false, gX6_day_89, gX6_day_94, i2, true_and, n2, nI_1]
          have := fin (riF r r' 2 (ld 2) i + 1) (by rw [riF, if_pos (esg ▸ e2)])
          rw [e2] at this
          exact this
        · simp only [e2, not_false_eq_true, if_true, gX6_day_93, gX6_day_94, i2, true_and, n2, nI_1]
          exact fin (riF r r' 2 (ld 2) i + 0) (by rw [riF, if_neg (fun z => e2 (by rw [esg]; exact z))])
      generalize hsg : sgS r r' i = sg at two ⊢
      by_cases e1 : sg = 1
      · have t := two (I3 22 1 + 1) (by rw [g2, riF, hsg, if_pos e1]) sg rfl
        rw [e1] at t
        simp only [gX6_day_75, h0, true_and, c2, rf_some, i2, n2, ne_eq] at t
        simp only [e1, not_true_eq_false, if_false, gX6_day_70, gX6_day_75, i1, n1, h0, true_and, c2, rf_some, i2, n2, ne_eq]
        exact t
      · have t := two (I3 22 1 + 0) (by rw [g2, riF, hsg, if_neg e1]) sg rfl
        simp only [gX6_day_75, h0, true_and, c2, rf_some, i2, n2, ne_eq] at t
        simp only [e1, not_false_eq_true, if_true, gX6_day_74, gX6_day_75, i1, n1, h0, true_and, c2, rf_some, i2, n2, ne_eq]
        exact t
  exact loop 0 (by omega) I2 _ (fun _ _ => rfl) (by rw [L22]; exact c3 1 (by decide)) (by rw [L22]; exact c3 2 (by decide)) (fun _ _ _ => rfl)
set_option maxHeartbeats 2000000 in
theorem m_day (h : MS T I R n l r) (hL : ∀ i, i < 5 → I 69 i = ld i) (k : ∀ I' : tI, (∀ x, x ≤ 54 ∨ (58 ≤ x ∧ x ≤ 66) ∨ (70 ≤ x ∧ x ≤ 77) ∨ 83 ≤ x → I' x = I x) → MS T I' R n l (dayS l n r) → (∀ i, i < 5 → I' 69 i = dyL n r (dayS l n r) ld i) → Q (some (.int (bcS (ovS n (dayS l n r) n)))) (T, I', J, R)) : Ex X (d + 6) mX7_day 0 [.ref 54, rU, rU] [] (T, I, J, R) Q := by
  have h8 := MS_8 h
  have hm := h.1
  have t0 := mt_54 hm
  have t69 := mt_69 hm
  have i0 : rIn T 69 0 0 := rIn_at (k := 0) t69 (by decide) (by decide)
  have i1 : rIn T 69 0 1 := rIn_at (k := 1) t69 (by decide) (by decide)
  have i2 : rIn T 69 0 2 := rIn_at (k := 2) t69 (by decide) (by decide)
  have i3 : rIn T 69 0 3 := rIn_at (k := 3) t69 (by decide) (by decide)
  have n1 : (1 : Int32).toNatClampNeg = 1 := by decide
  have n2 : (2 : Int32).toNatClampNeg = 2 := by decide
  have n3 : (3 : Int32).toNatClampNeg = 3 := by decide
  simp only [gX7_day_0, t0, true_and, mr_38 hm, rf_some]
  refine s_keeps h (mt_79 hm) (by decide) (fun I1 f1 hK1 => ?_)
  have hM1 : MS T I1 R n l r := MS_fr h (fun x hx => f1 x (by omega))
  simp only [Option.toList_none, List.nil_append, gX7_day_8, t0, true_and]
  refine s_over hM1 ?_
  simp only [Option.toList_some, List.cons_append, List.nil_append, gX7_day_12, t0, true_and]
  refine s_passes hM1 (fun I2 f2 hM2 => ?_)
  simp only [Option.toList_none, List.nil_append, gX7_day_17]
  have hK2 : Kp I2 79 n r := Kp_fr hK1 (f2 79 (by decide) (by decide) (by decide) (by decide) (by decide))
  have L69 : I2 69 = I 69 := by rw [f2 69 (by decide) (by decide) (by decide) (by decide) (by decide), f1 69 (by decide)]
  have f12 : ∀ x, x ≤ 54 ∨ (58 ≤ x ∧ x ≤ 66) ∨ (69 ≤ x ∧ x ≤ 77) ∨ 83 ≤ x → I2 x = I x := fun x hx => by rw [f2 x (by omega) (by omega) (by omega) (by omega) (by omega), f1 x (by omega)]
  generalize hr' : dayS l n r = r' at k hM2
  have loop : ∀ i, i ≤ n → ∀ I3 : tI, (∀ x, x ≠ 69 → I3 x = I2 x) → I3 69 1 = riF r r' 1 (ld 1) i → I3 69 2 = riF r r' 2 (ld 2) i → (∀ y, y ≠ 1 → y ≠ 2 → I3 69 y = I2 69 y) → Ex X (d + 6) mX7_day 19 [.ref 54, .int (ovS n r n), .int (nI i)] [] (T, I3, J, R) Q := by
    refine loop_up (P := fun i => ∀ I3 : tI, (∀ x, x ≠ 69 → I3 x = I2 x) → I3 69 1 = riF r r' 1 (ld 1) i → I3 69 2 = riF r r' 2 (ld 2) i → (∀ y, y ≠ 1 → y ≠ 2 → I3 69 y = I2 69 y) → Ex X (d + 6) mX7_day 19 [.ref 54, .int (ovS n r n), .int (nI i)] [] (T, I3, J, R) Q) (n := n) ?_ ?_
    · intro I3 g1 g2 g3 g4
      have hM3 : MS T I3 R n l r' := MS_fr hM2 (fun x hx => g1 x (by omega))
      have e8 : I3 54 0 = nI n := hM3.2.2.1
      simp only [gX7_day_19, t0, true_and, e8, nI_le (Nat.le_refl n) (by omega), if_true, gX7_day_83, mr_22 hm, rf_some, i0, i3, clamp_0, n3, up_self, up_ne _ _ (show (3 : Nat) ≠ 0 by decide)]
      have hM4 : MS T (va_up I3 69 (va_up (I3 69) 0 (I3 69 0 + 1))) R n l r' := MS_fr hM3 (fun x hx => up_ne _ _ (by omega))
      refine s_over hM4 ?_
      simp only [Option.toList_some, List.cons_append, List.nil_append, gX7_day_104]
      refine j_bitCount ?_
      simp only [Option.toList_some, List.cons_append, List.nil_append, gX7_day_111, i3, true_and, n3, t0, up_self]
      generalize hI5 : va_up (va_up I3 69 (va_up (I3 69) 0 (I3 69 0 + 1))) 69 (va_up (va_up (I3 69) 0 (I3 69 0 + 1)) 3 (I3 69 3 + bcS (ovS n r' n &&& (ovS n r n ^^^ -1)))) = I5
      have a1 : ∀ x, x ≠ 69 → I5 x = I3 x := fun x hx => by rw [← hI5, up_ne _ _ hx, up_ne _ _ hx]
      have a2 : I5 69 = va_up (va_up (I3 69) 0 (I3 69 0 + 1)) 3 (I3 69 3 + bcS (ovS n r' n &&& (ovS n r n ^^^ -1))) := by rw [← hI5, up_self]
      have hM5 : MS T I5 R n l r' := MS_fr hM3 (fun x hx => a1 x (by omega))
      refine s_over hM5 ?_
      simp only [Option.toList_some, List.cons_append, List.nil_append, gX7_day_117]
      refine j_bitCount ?_
      simp only [Option.toList_some, List.cons_append, List.nil_append, gX7_day_120]
      refine k I5 (fun x hx => by rw [a1 x (by omega), g1 x (by omega), f12 x (by omega)]) hM5 (fun y hy => ?_)
      rw [a2]
      unfold dyL
      have hy' : y = 0 ∨ y = 1 ∨ y = 2 ∨ y = 3 ∨ y = 4 := by omega
      rcases hy' with rfl | rfl | rfl | rfl | rfl
      · rw [up_ne _ _ (by decide), up_self, if_pos rfl, g4 0 (by decide) (by decide), L69, hL 0 (by decide)]
      · rw [up_ne _ _ (by decide), up_ne _ _ (by decide), if_neg (by decide), if_pos rfl]; exact g2
      · rw [up_ne _ _ (by decide), up_ne _ _ (by decide), if_neg (by decide), if_neg (by decide), if_pos rfl]; exact g3
      · rw [up_self, if_neg (by decide), if_neg (by decide), if_neg (by decide), if_pos rfl, g4 3 (by decide) (by decide), L69, hL 3 (by decide)]
      · rw [up_ne _ _ (by decide), up_ne _ _ (by decide), if_neg (by decide), if_neg (by decide), if_neg (by decide), if_neg (by decide), g4 4 (by decide) (by decide), L69]
        exact hL 4 (by decide)
    · intro i hi ih I3 g1 g2 g3 g4
      have hM3 : MS T I3 R n l r' := MS_fr hM2 (fun x hx => g1 x (by omega))
      have hK3 : Kp I3 79 n r := Kp_fr hK2 (g1 79 (by omega))
      have e8 : I3 54 0 = nI n := hM3.2.2.1
      have ci : (nI i).toNatClampNeg = i := nI_clamp (by omega)
      have l1 : I3 55 i = r' 0 i := MS_lv hM3 hi
      have l2 : I3 79 i = r 0 i := (hK3.1 i hi).1
      have i55 : rIn T 55 0 (nI i) := rIn_at (mt_55 hm) (show i < 32 by omega) (by decide)
      have i79 : rIn T 79 0 (nI i) := rIn_at (mt_79 hm) (show i < 25 by omega) (by decide)
      have fin : ∀ I4 : tI, (∀ x, x ≠ 69 → I4 x = I2 x) → I4 69 1 = riF r r' 1 (ld 1) (i + 1) → I4 69 2 = riF r r' 2 (ld 2) (i + 1) → (∀ y, y ≠ 1 → y ≠ 2 → I4 69 y = I2 69 y) → Ex X (d + 6) mX7_day 77 [.ref 54, .int (ovS n r n), .int (nI i)] [] (T, I4, J, R) Q := by
        intro I4 a1 a2 a3 a4
        simp only [gX7_day_77, nI_1]
        exact ih I4 a1 a2 a3 a4
      have two : ∀ I4 : tI, (∀ x, x ≠ 69 → I4 x = I2 x) → I4 69 1 = riF r r' 1 (ld 1) (i + 1) → I4 69 2 = riF r r' 2 (ld 2) i → (∀ y, y ≠ 1 → y ≠ 2 → I4 69 y = I2 69 y) → Ex X (d + 6) mX7_day 52 [.ref 54, .int (ovS n r n), .int (nI i)] [] (T, I4, J, R) Q := by
        intro I4 a1 a2 a3 a4
        have l1' : I4 55 i = r' 0 i := by rw [a1 55 (by decide), ← g1 55 (by decide)]; exact l1
        have l2' : I4 79 i = r 0 i := by rw [a1 79 (by decide), ← g1 79 (by decide)]; exact l2
        simp only [gX7_day_52, t0, true_and, mr_1 hm, mr_38 hm, rf_some, i55, i79, ci, l1', l2']
        by_cases e2 : r 0 i ≤ r' 0 i
        · have s2 : ¬ sgS r r' i = 2 := by
            unfold sgS
            rw [if_pos e2]
            split <;> decide
          simp only [e2, if_true]
          exact fin I4 a1 a2 (by rw [riF, if_neg s2, Int32.add_zero]; exact a3) a4
        · have s2 : sgS r r' i = 2 := by
            unfold sgS
            rw [if_pos (Int32.le_of_lt (Int32.not_le.mp e2)), if_neg e2]
          simp only [e2, if_false, gX7_day_67, t0, true_and, mr_22 hm, rf_some, i2, n2]
          exact fin _ (fun x hx => by rw [up_ne _ _ hx]; exact a1 x hx) (by rw [up_self, up_ne _ _ (by decide)]; exact a2) (by rw [up_self, up_self, riF, if_pos s2, a3]) (fun y y1 y2 => by rw [up_self, up_ne _ _ y2]; exact a4 y y1 y2)
      simp only [gX7_day_19, t0, true_and, e8, nI_ge hi (by omega), if_false, gX7_day_27, mr_1 hm, mr_38 hm, rf_some, i55, i79, ci, l1, l2]
      by_cases e1 : r' 0 i ≤ r 0 i
      · have s1 : ¬ sgS r r' i = 1 := by
          unfold sgS
          rw [if_pos e1]
          split <;> decide
        simp only [e1, if_true]
        exact two I3 g1 (by rw [riF, if_neg s1, Int32.add_zero]; exact g2) g3 g4
      · have s1 : sgS r r' i = 1 := by
          unfold sgS
          rw [if_neg e1]
        simp only [e1, if_false, gX7_day_42, t0, true_and, mr_22 hm, rf_some, i1, n1]
        exact two _ (fun x hx => by rw [up_ne _ _ hx]; exact g1 x hx) (by rw [up_self, up_self, riF, if_pos s1, g2]) (by rw [up_self, up_ne _ _ (by decide)]; exact g3) (fun y y1 y2 => by rw [up_self, up_ne _ _ y1]; exact g4 y y1 y2)
  exact loop 0 (by omega) I2 (fun _ _ => rfl) (by rw [L69]; exact hL 1 (by decide)) (by rw [L69]; exact hL 2 (by decide)) (fun _ _ _ => rfl)
theorem j_day : Jn X (d + 50) (d + 50) mX6_day [.ref 0, rU, rU] mX7_day [.ref 54, rU, rU] := by
  rintro T I J R ⟨ht1, ht2, b, b2, n, l, r, sh, ld, im, tp, ch, st, hb, hH, hC, hM, hA, hP⟩
  obtain ⟨p1, p2, p3, p4, p5, p6⟩ := hP
  have bb := hb.2
  have hbb := hH.2.2.2.2.1
  refine ⟨bcS (ovS n (dayS l n r) n), c_day (d := d + 44) hH hC.2.1 (fun I1 f1 hH1 hL1 => ⟨rfl, rfl, ?_⟩)⟩
  refine m_day (ld := ld) (d := d + 44) (MS_fr hM (fun x hx => f1 x (by omega) (by omega) (by omega))) (fun i hi => by rw [f1 69 (by omega) (by omega) (by omega)]; exact hA.2.1 i hi) (fun I2 f2 hM2 hL2 => ⟨rfl, ?_⟩)
  have al : ∀ x, (x < 1 ∨ 14 < x) → x ≠ b + 2 → x ≠ 22 → (x ≤ 54 ∨ (58 ≤ x ∧ x ≤ 66) ∨ (70 ≤ x ∧ x ≤ 77) ∨ 83 ≤ x) → I2 x = I x := fun x x1 x2 x3 x4 => by rw [f2 x x4, f1 x x1 x2 x3]
  have s54 : ∀ i, I2 54 i = I 54 i := fun i => congrFun (al 54 (by omega) (by omega) (by omega) (by omega)) i
  exact Rel_mk ⟨ht1, ht2⟩ hb hC hA (HS_f2 hH1 (fun x hx => f2 x (by omega))) hM2 (fun x hx => al x (by omega) (by omega) (by omega) (by omega)) (CLd_f hL1 (f2 22 (by omega))) (CCh_f hC.2.2.2.2.1 (fun x hx => al x (by omega) (by omega) (by omega) (by omega))) (fun i hi => s54 i) (fun x hx => al x (by omega) (by omega) (by omega) (by omega)) hL2 (MCh_f hA.2.2.2.2.1 (s54 _) (s54 _) (al _ (by omega) (by omega) (by omega) (by omega))) ⟨fitR_day p1 (MS_ok hM), p2, p3, p4, p5, p6⟩
end D13
