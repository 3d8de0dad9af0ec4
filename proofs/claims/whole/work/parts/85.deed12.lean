/-! PURE: undo, redo joined -/
theorem hasB_n {n i w : Nat} (hw : w ≤ 6) (hi : i < vwN n w) (h8 : n ≤ 8) : hasB n (nI i) (nI w) = true := by
  have i31 : i < 2 ^ 31 := vw_31 hi h8
  refine decide_eq_true ⟨nI_pos (by omega), nI_le (b := 6) hw (by decide), nI_pos i31, ?_⟩
  unfold vwN at hi
  by_cases h3 : w ≤ 3
  · rw [if_pos h3] at hi
    rw [if_neg (show ¬ (3 : Int32) < nI w from nI_nlt (a := 3) (by omega) (by decide))]
    exact nI_ge hi (by omega)
  · rw [if_neg h3] at hi
    rw [if_pos (show (3 : Int32) < nI w from nI_lt (a := 3) (by omega) (by omega))]
    by_cases h4 : w = 4
    · rw [if_pos h4] at hi
      subst h4
      rw [if_pos (by decide)]
      exact nI_ge (b := 7) hi (by decide)
    · rw [if_neg h4] at hi
      rw [if_neg (show ¬ nI w = 4 from fun z => h4 ((nI_eq (by omega) (by decide)).mp (show nI w = nI 4 from z)))]
      exact nI_ge (b := 1) hi (by decide)
section D12
variable {X : tX} {T : tT} {I I' I1 I2 : tI} {J J' J1 J2 : tJ} {R R' : tR} {Q : tQ} {d b b2 n n' L0 p : Nat} {xs : Nat → Int32} {l : tL} {r r' : Nat → Nat → Int32} {sh sh' : tSh} {ld ld' : Nat → Int32} {im : tIm} {tp : tTp} {ch ch' : tCh} {st : tSt}
/-- a CHANGE laid back (c 2) or again (c 3) -/
def chP (r : Nat → Nat → Int32) (ch : tCh) (m c : Nat) : Nat → Nat → Int32 := putS r (ch.2.2 m 1).toNatClampNeg (ch.2.2 m 0).toNatClampNeg (ch.2.2 m c)
def unS (r : Nat → Nat → Int32) (ch : tCh) : Nat → Nat → Int32 := if ch.1 = 0 then r else chP r ch (ch.1 - 1) 2
def unC (ch : tCh) : tCh := if ch.1 = 0 then ch else (ch.1 - 1, ch.2)
def unZ (ch : tCh) : Int32 := if ch.1 = 0 then -5 else nI (ch.1 - 1)
def reS (r : Nat → Nat → Int32) (ch : tCh) : Nat → Nat → Int32 := if ch.1 = ch.2.1 then r else chP r ch ch.1 3
def reC (ch : tCh) : tCh := if ch.1 = ch.2.1 then ch else (ch.1 + 1, ch.2)
def reZ (ch : tCh) : Int32 := if ch.1 = ch.2.1 then -5 else nI (ch.2.1 - (ch.1 + 1))
theorem c_undo (h : HS T I R b n l r) (hc : CCh T I R ch) (ho : okCh n ch) (k : ∀ I' : tI, (∀ x, x < 1 ∨ 6 < x → x ≠ 33 → I' x = I x) → HS T I' R b n l (unS r ch) → CCh T I' R (unC ch) → Q (some (.int (unZ ch))) (T, I', J, R)) : Ex (rX L0 xs) (d + 5) mX6_undo 0 [.ref 0] [] (T, I, J, R) Q := by
  have h8 := HS_8 h
  obtain ⟨h0, r0, r1, r8, hb, hb2, hv, hC⟩ := id h
  obtain ⟨h9, ⟨t33, t34, t35, t36, t37, q0, q1, q2, q3⟩, h4, h5, he⟩ := id hc
  obtain ⟨o1, o2, o3⟩ := ho
  unfold unS unC unZ at k
  simp only [gX6_undo_0, h0, true_and, h9, r0, rf_some, t33, gX0_unmake_0, h4]
  by_cases e : ch.1 = 0
  · rw [if_pos e, if_pos e, if_pos e] at k
    simp only [e, show ¬ (0 : Int32) < nI 0 by decide, if_false, gX0_unmake_7, true_or, true_and, Option.toList_some, List.cons_append, List.nil_append, gX6_undo_11, if_true, gX6_undo_24, gX6_undo_26]
    exact k I (fun _ _ _ => rfl) h hc
  · rw [if_neg e, if_neg e, if_neg e] at k
    obtain ⟨m, hm⟩ : ∃ m, ch.1 = m + 1 := ⟨ch.1 - 1, by omega⟩
    rw [hm] at k h4
    obtain ⟨i, w, e1, e2, hw, hi, f1, f2⟩ := o3 m (by omega)
    obtain ⟨c0, c1, c2, c3⟩ := he m (by omega)
    rw [show m + 1 - 1 = m by omega] at k
    unfold chP at k
    have ci : (nI i).toNatClampNeg = i := nI_clamp (vw_31 hi h8)
    have cw : (nI w).toNatClampNeg = w := nI_clamp (by omega)
    rw [e1, e2, ci, cw] at k
    rw [e1] at c0
    rw [e2] at c1
    simp only [hm, show (0 : Int32) < nI (m + 1) from nI_lt (a := 0) (by omega) (by omega), if_true, gX0_unmake_9, t33, true_and, h4, nI_pred, q0, q1, q2, rf_some, up_self, rIn_at t34 (show m < 40 by omega) (by decide), rIn_at t35 (show m < 40 by omega) (by decide), rIn_at t36 (show m < 40 by omega) (by decide), nI_clamp (show m < 2 ^ 31 by omega), up_ne _ _ (show (34 : Nat) ≠ 33 by decide), up_ne _ _ (show (35 : Nat) ≠ 33 by decide), up_ne _ _ (show (36 : Nat) ≠ 33 by decide), c0, c1, c2, hC.2.1.1]
    have hC1 : CS T (va_up I 33 (va_up (I 33) 4 (nI m))) R 1 b n l r := CS_fr hC (fun x hx => up_ne _ _ (by omega))
    refine c_become hC1 hw hi (hasB_n hw hi h8) f1 (fun I1 g1 hC2 => ?_)
    have e33 : I1 33 = va_up (I 33) 4 (nI m) := by rw [g1 33 (by omega), up_self]
    have e33' : I1 33 4 = nI m := by rw [e33, up_self]
    simp only [Option.toList_none, Option.toList_some, List.cons_append, List.nil_append, gX0_unmake_50, or_true, true_and, gX6_undo_11, show ¬ (1 : Int32) = 0 by decide, if_false, gX6_undo_14, h0, h9, rf_some, t33, e33', gX6_undo_26]
    have far : ∀ x, x < 1 ∨ 6 < x → x ≠ 33 → I1 x = I x := fun x x1 x2 => by rw [g1 x (by omega), up_ne _ _ x2]
    refine k I1 far (HS_cs h hC2) ⟨h9, hc.2.1, e33', by rw [e33, up_ne _ _ (by decide)]; exact h5, fun j hj => ?_⟩
    rw [far 34 (by omega) (by omega), far 35 (by omega) (by omega), far 36 (by omega) (by omega), far 37 (by omega) (by omega)]
    exact he j hj
theorem m_undo (h : MS T I R n l r) (hc : MCh I ch) (ho : okCh n ch) (k : ∀ I' : tI, (∀ x, x ≠ 54 → ¬ (55 ≤ x ∧ x ≤ 57) → I' x = I x) → (∀ q, q ≠ 28 → I' 54 q = I 54 q) → MS T I' R n l (unS r ch) → MCh I' (unC ch) → Q (some (.int (unZ ch))) (T, I', J, R)) : Ex X (d + 5) mX7_undo 0 [.ref 54] [] (T, I, J, R) Q := by
  have h8 := MS_8 h
  have hm := h.1
  have t0 := mt_54 hm
  have t72 := mt_72 hm
  obtain ⟨c1, c2, c3⟩ := id hc
  obtain ⟨o1, o2, o3⟩ := ho
  unfold unS unC unZ at k
  simp only [gX7_undo_0, t0, true_and, c1, ne_eq]
  by_cases e : ch.1 = 0
  · rw [if_pos e, if_pos e, if_pos e] at k
    simp only [e, show nI 0 = 0 by decide, not_true_eq_false, if_false, gX7_undo_7]
    exact k I (fun _ _ _ => rfl) (fun _ _ => rfl) h hc
  · rw [if_neg e, if_neg e, if_neg e] at k
    obtain ⟨m, hme⟩ : ∃ m, ch.1 = m + 1 := ⟨ch.1 - 1, by omega⟩
    rw [hme] at k c1
    obtain ⟨i, w, e1, e2, hw, hi, f1, f2⟩ := o3 m (by omega)
    rw [show m + 1 - 1 = m by omega] at k
    unfold chP at k
    have ci : (nI i).toNatClampNeg = i := nI_clamp (vw_31 hi h8)
    have cw : (nI w).toNatClampNeg = w := nI_clamp (by omega)
    rw [e1, e2, ci, cw] at k
    have d0 : I 72 (4 * m) = nI i := by rw [← e1]; exact c3 m (by omega) 0 (by decide)
    have d1 : I 72 (4 * m + 1) = nI w := by rw [← e2]; exact c3 m (by omega) 1 (by decide)
    have d2 : I 72 (4 * m + 2) = ch.2.2 m 2 := c3 m (by omega) 2 (by decide)
    have e4 : (4 : Int32) * nI m = nI (4 * m) := z_mul 4 m
    have n2 : ∀ y : Nat, nI y + 2 = nI (y + 2) := fun y => nI_add y 2
    have ne0 : ¬ nI (m + 1) = 0 := nI_ne0 (by omega) (by omega)
    simp only [hme, ne0, not_false_eq_true, if_true, gX7_undo_10, t0, true_and, c1, nI_pred, mr_29 hm, rf_some, up_self, e4, nI_1, n2, rIn_at t72 (show 4 * m < 160 by omega) (by decide), rIn_at t72 (show 4 * m + 1 < 160 by omega) (by decide), rIn_at t72 (show 4 * m + 2 < 160 by omega) (by decide), nI_clamp (show 4 * m < 2 ^ 31 by omega), nI_clamp (show 4 * m + 1 < 2 ^ 31 by omega), nI_clamp (show 4 * m + 2 < 2 ^ 31 by omega), up_ne _ _ (show (72 : Nat) ≠ 54 by decide), d0, d1, d2]
    have hM1 : MS T (va_up I 54 (va_up (I 54) 28 (nI m))) R n l r := MS_fs h (fun x hx => up_ne _ _ (by omega)) (by rw [up_self, up_ne _ _ (by decide)]) (by rw [up_self, up_ne _ _ (by decide)]) (by rw [up_self, up_ne _ _ (by decide)])
    refine m_becomes hM1 hw hi f1 (fun I1 g1 hM2 => ?_)
    have e54 : I1 54 = va_up (I 54) 28 (nI m) := by rw [g1 54 (by omega), up_self]
    have e28 : I1 54 28 = nI m := by rw [e54, up_self]
    simp only [Option.toList_none, List.nil_append, gX7_undo_61, t0, true_and, e28]
    have far : ∀ x, x ≠ 54 → ¬ (55 ≤ x ∧ x ≤ 57) → I1 x = I x := fun x x1 x2 => by rw [g1 x (by omega), up_ne _ _ x1]
    exact k I1 far (fun q hq => by rw [e54, up_ne _ _ hq]) hM2 ⟨e28, by rw [e54, up_ne _ _ (by decide)]; exact c2, fun j hj c hc => by rw [far 72 (by omega) (by omega)]; exact c3 j hj c hc⟩
theorem c_redo (h : HS T I R b n l r) (hc : CCh T I R ch) (ho : okCh n ch) (k : ∀ I' : tI, (∀ x, x < 1 ∨ 6 < x → x ≠ 33 → I' x = I x) → HS T I' R b n l (reS r ch) → CCh T I' R (reC ch) → Q (some (.int (reZ ch))) (T, I', J, R)) : Ex (rX L0 xs) (d + 5) mX6_redo 0 [.ref 0] [] (T, I, J, R) Q := by
  have h8 := HS_8 h
  obtain ⟨h0, r0, r1, r8, hb, hb2, hv, hC⟩ := id h
  obtain ⟨h9, ⟨t33, t34, t35, t36, t37, q0, q1, q2, q3⟩, h4, h5, he⟩ := id hc
  obtain ⟨o1, o2, o3⟩ := ho
  unfold reS reC reZ at k
  simp only [gX6_redo_0, h0, true_and, h9, r0, rf_some, t33, gX0_makeAgain_0, h4, h5]
  by_cases e : ch.1 = ch.2.1
  · rw [if_pos e, if_pos e, if_pos e] at k
    simp only [e, show ¬ nI ch.2.1 < nI ch.2.1 from nI_nlt (Nat.le_refl _) (by omega), if_false, gX0_makeAgain_11, true_or, true_and, Option.toList_some, List.cons_append, List.nil_append, gX6_redo_11, if_true, gX6_redo_32, gX6_redo_34]
    exact k I (fun _ _ _ => rfl) h hc
  · rw [if_neg e, if_neg e, if_neg e] at k
    have lt : ch.1 < ch.2.1 := by omega
    generalize hm : ch.1 = m at k h4 lt
    obtain ⟨i, w, e1, e2, hw, hi, f1, f2⟩ := o3 m (by omega)
    obtain ⟨c0, c1, c2, c3⟩ := he m (by omega)
    unfold chP at k
    have ci : (nI i).toNatClampNeg = i := nI_clamp (vw_31 hi h8)
    have cw : (nI w).toNatClampNeg = w := nI_clamp (by omega)
    rw [e1, e2, ci, cw] at k
    rw [e1] at c0
    rw [e2] at c1
    simp only [nI_lt lt (by omega), if_true, gX0_makeAgain_13, t33, true_and, h4, q0, q1, q3, rf_some, rIn_at t34 (show m < 40 by omega) (by decide), rIn_at t35 (show m < 40 by omega) (by decide), rIn_at t37 (show m < 40 by omega) (by decide), nI_clamp (show m < 2 ^ 31 by omega), c0, c1, c3, hC.2.1.1]
    refine c_become hC hw hi (hasB_n hw hi h8) f2 (fun I1 g1 hC2 => ?_)
    have e33 : I1 33 = I 33 := g1 33 (by omega)
    have e33' : I1 33 4 = nI m := by rw [e33]; exact h4
    have e33k : I1 33 5 = nI ch.2.1 := by rw [e33]; exact h5
    simp only [Option.toList_none, List.nil_append, gX0_makeAgain_44, t33, true_and, e33', nI_1, or_true, Option.toList_some, List.cons_append, gX6_redo_11, show ¬ (1 : Int32) = 0 by decide, if_false, gX6_redo_14, h0, h9, rf_some, up_self, up_ne _ _ (show (5 : Nat) ≠ 4 by decide), e33k, z_sub (show m + 1 ≤ ch.2.1 by omega), gX6_redo_34]
    refine k _ (fun x x1 x2 => by rw [up_ne _ _ x2, g1 x (by omega)]) (HS_f2 (HS_cs h hC2) (fun x hx => up_ne _ _ (by omega))) ⟨h9, hc.2.1, by rw [up_self, up_self], by rw [up_self, up_ne _ _ (by decide)]; exact e33k, fun j hj => ?_⟩
    rw [up_ne _ _ (by decide), up_ne _ _ (by decide), up_ne _ _ (by decide), up_ne _ _ (by decide), g1 34 (by omega), g1 35 (by omega), g1 36 (by omega), g1 37 (by omega)]
    exact he j hj
theorem m_redo (h : MS T I R n l r) (hc : MCh I ch) (ho : okCh n ch) (k : ∀ I' : tI, (∀ x, x ≠ 54 → ¬ (55 ≤ x ∧ x ≤ 57) → I' x = I x) → (∀ q, q ≠ 28 → I' 54 q = I 54 q) → MS T I' R n l (reS r ch) → MCh I' (reC ch) → Q (some (.int (reZ ch))) (T, I', J, R)) : Ex X (d + 5) mX7_redo 0 [.ref 54] [] (T, I, J, R) Q := by
  have h8 := MS_8 h
  have hm := h.1
  have t0 := mt_54 hm
  have t72 := mt_72 hm
  obtain ⟨c1, c2, c3⟩ := id hc
  obtain ⟨o1, o2, o3⟩ := ho
  unfold reS reC reZ at k
  simp only [gX7_redo_0, t0, true_and, c1, c2, ne_eq]
  by_cases e : ch.1 = ch.2.1
  · rw [if_pos e, if_pos e, if_pos e] at k
    simp only [e, not_true_eq_false, if_false, gX7_redo_11]
    exact k I (fun _ _ _ => rfl) (fun _ _ => rfl) h hc
  · rw [if_neg e, if_neg e, if_neg e] at k
    have lt : ch.1 < ch.2.1 := by omega
    have ne : ¬ nI ch.1 = nI ch.2.1 := fun z => e ((nI_eq (by omega) (by omega)).mp z)
    generalize hme : ch.1 = m at k c1 lt ne
    obtain ⟨i, w, e1, e2, hw, hi, f1, f2⟩ := o3 m (by omega)
    unfold chP at k
    have ci : (nI i).toNatClampNeg = i := nI_clamp (vw_31 hi h8)
    have cw : (nI w).toNatClampNeg = w := nI_clamp (by omega)
    rw [e1, e2, ci, cw] at k
    have d0 : I 72 (4 * m) = nI i := by rw [← e1]; exact c3 m (by omega) 0 (by decide)
    have d1 : I 72 (4 * m + 1) = nI w := by rw [← e2]; exact c3 m (by omega) 1 (by decide)
    have d3 : I 72 (4 * m + 3) = ch.2.2 m 3 := c3 m (by omega) 3 (by decide)
    have e4 : (4 : Int32) * nI m = nI (4 * m) := z_mul 4 m
    have n3 : ∀ y : Nat, nI y + 3 = nI (y + 3) := fun y => nI_add y 3
    simp only [ne, not_false_eq_true, if_true, gX7_redo_14, t0, true_and, c1, mr_29 hm, rf_some, e4, nI_1, n3, rIn_at t72 (show 4 * m < 160 by omega) (by decide), rIn_at t72 (show 4 * m + 1 < 160 by omega) (by decide), rIn_at t72 (show 4 * m + 3 < 160 by omega) (by decide), nI_clamp (show 4 * m < 2 ^ 31 by omega), nI_clamp (show 4 * m + 1 < 2 ^ 31 by omega), nI_clamp (show 4 * m + 3 < 2 ^ 31 by omega), d0, d1, d3]
    refine m_becomes h hw hi f2 (fun I1 g1 hM2 => ?_)
    have e54 : I1 54 = I 54 := g1 54 (by omega)
    have e28 : I1 54 28 = nI m := by rw [e54]; exact c1
    have e27 : I1 54 27 = nI ch.2.1 := by rw [e54]; exact c2
    simp only [Option.toList_none, List.nil_append, gX7_redo_55, t0, true_and, e28, nI_1, up_self, up_ne _ _ (show (27 : Nat) ≠ 28 by decide), e27, z_sub (show m + 1 ≤ ch.2.1 by omega)]
    refine k _ (fun x x1 x2 => by rw [up_ne _ _ x1, g1 x (by omega)]) (fun q hq => by rw [up_self, up_ne _ _ hq, e54]) (MS_fs hM2 (fun x hx => up_ne _ _ (by omega)) (by rw [up_self, up_ne _ _ (by decide)]) (by rw [up_self, up_ne _ _ (by decide)]) (by rw [up_self, up_ne _ _ (by decide)])) ⟨by rw [up_self, up_self], by rw [up_self, up_ne _ _ (by decide)]; exact e27, fun j hj c hc => by rw [up_ne _ _ (by decide), g1 72 (by omega)]; exact c3 j hj c hc⟩
theorem j_un (Z : tCh → Int32) (S : (Nat → Nat → Int32) → tCh → Nat → Nat → Int32) (C : tCh → tCh) {MC MM : rM}
    (hc : ∀ (T : tT) (I : tI) (J : tJ) (R : tR) (b n : Nat) (l : tL) (r : Nat → Nat → Int32) (ch : tCh) (Q : tQ), HS T I R b n l r → CCh T I R ch → okCh n ch → (∀ I' : tI, (∀ x, x < 1 ∨ 6 < x → x ≠ 33 → I' x = I x) → HS T I' R b n l (S r ch) → CCh T I' R (C ch) → Q (some (.int (Z ch))) (T, I', J, R)) → Ex X (d + 50) MC 0 [.ref 0] [] (T, I, J, R) Q)
    (hm : ∀ (T : tT) (I : tI) (J : tJ) (R : tR) (n : Nat) (l : tL) (r : Nat → Nat → Int32) (ch : tCh) (Q : tQ), MS T I R n l r → MCh I ch → okCh n ch → (∀ I' : tI, (∀ x, x ≠ 54 → ¬ (55 ≤ x ∧ x ≤ 57) → I' x = I x) → (∀ q, q ≠ 28 → I' 54 q = I 54 q) → MS T I' R n l (S r ch) → MCh I' (C ch) → Q (some (.int (Z ch))) (T, I', J, R)) → Ex X (d + 50) MM 0 [.ref 54] [] (T, I, J, R) Q)
    (hS : ∀ (n : Nat) (r : Nat → Nat → Int32) (ch : tCh), n ≤ 8 → fitR n r → okCh n ch → fitR n (S r ch) ∧ okCh n (C ch)) : Jn X (d + 50) (d + 50) MC [.ref 0] MM [.ref 54] := by
  rintro T I J R ⟨ht1, ht2, b, b2, n, l, r, sh, ld, im, tp, ch, st, hb, hH, hC, hM, hA, hP⟩
  obtain ⟨p1, p2, p3, p4, p5, p6⟩ := hP
  have h8 := HS_8 hH
  refine ⟨Z ch, hc T I J R b n l r ch _ hH hC.2.2.2.2.1 p3 (fun I1 f1 hH1 hc1 => ⟨rfl, rfl, ?_⟩)⟩
  have s54' : I1 54 = I 54 := f1 54 (by omega) (by omega)
  refine hm T I1 J R n l r ch _ (MS_fr hM (fun x hx => f1 x (by omega) (by omega))) (MCh_f hA.2.2.2.2.1 (congrFun s54' _) (congrFun s54' _) (f1 72 (by omega) (by omega))) p3 (fun I2 f2 g2 hM2 hc2 => ⟨rfl, ?_⟩)
  have al : ∀ x, (x < 1 ∨ 6 < x) → x ≠ 33 → x ≠ 54 → ¬ (55 ≤ x ∧ x ≤ 57) → I2 x = I x := fun x x1 x2 x3 x4 => by rw [f2 x x3 x4, f1 x x1 x2]
  have bb := hb.2
  have sl : ∀ q, q ≠ 28 → I2 54 q = I 54 q := fun q q1 => by rw [g2 q q1, s54']
  obtain ⟨z1, z2⟩ := hS n r ch h8 p1 p3
  exact Rel_mk ⟨ht1, ht2⟩ hb hC hA (HS_f2 hH1 (fun x hx => f2 x (by omega) (by omega))) hM2 (fun x hx => al x (by omega) (by omega) (by omega) (by omega)) (CLd_f hC.2.1 (al 22 (by omega) (by omega) (by omega) (by omega))) (CCh_f hc1 (fun x hx => f2 x (by omega) (by omega))) (fun q hq => sl q (by omega)) (fun x hx => al x (by omega) (by omega) (by omega) (by omega)) (fun q hq => by rw [al 69 (by omega) (by omega) (by omega) (by omega)]; exact hA.2.1 q hq) hc2 ⟨z1, p2, z2, p4, p5, p6⟩
theorem j_undo : Jn (rX L0 xs) (d + 50) (d + 50) mX6_undo [.ref 0] mX7_undo [.ref 54] := by
  refine j_un unZ unS unC (fun _ _ _ _ _ _ _ _ _ _ h1 h2 h3 k => c_undo (d := d + 45) h1 h2 h3 k) (fun _ _ _ _ _ _ _ _ _ h1 h2 h3 k => m_undo (d := d + 45) h1 h2 h3 k) (fun n r ch h8 p1 p3 => ?_)
  unfold unS unC
  by_cases e : ch.1 = 0
  · rw [if_pos e, if_pos e]; exact ⟨p1, p3⟩
  · rw [if_neg e, if_neg e]
    obtain ⟨o1, o2, o3⟩ := p3
    obtain ⟨i, w, e1, e2, hw, hi, f1, f2⟩ := o3 (ch.1 - 1) (by omega)
    refine ⟨?_, by show ch.1 - 1 ≤ ch.2.1; omega, o2, o3⟩
    unfold chP
    rw [e2, nI_clamp (show w < 2 ^ 31 by omega)]
    exact fitR_put p1 f1
theorem j_redo : Jn (rX L0 xs) (d + 50) (d + 50) mX6_redo [.ref 0] mX7_redo [.ref 54] := by
  refine j_un reZ reS reC (fun _ _ _ _ _ _ _ _ _ _ h1 h2 h3 k => c_redo (d := d + 45) h1 h2 h3 k) (fun _ _ _ _ _ _ _ _ _ h1 h2 h3 k => m_redo (d := d + 45) h1 h2 h3 k) (fun n r ch h8 p1 p3 => ?_)
  unfold reS reC
  by_cases e : ch.1 = ch.2.1
  · rw [if_pos e, if_pos e]; exact ⟨p1, p3⟩
  · rw [if_neg e, if_neg e]
    obtain ⟨o1, o2, o3⟩ := p3
    obtain ⟨i, w, e1, e2, hw, hi, f1, f2⟩ := o3 ch.1 (by omega)
    refine ⟨?_, by show ch.1 + 1 ≤ ch.2.1; omega, o2, o3⟩
    unfold chP
    rw [e2, nI_clamp (show w < 2 ^ 31 by omega)]
    exact fitR_put p1 f2
end D12
