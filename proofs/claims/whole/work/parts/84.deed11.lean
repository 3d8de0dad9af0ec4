/-! PURE: mend, undo, redo joined -/
def chE (i w u v : Int32) (c : Nat) : Int32 := if c = 0 then i else if c = 1 then w else if c = 2 then u else v
def chAd (ch : tCh) (i w u v : Int32) : tCh := if ch.1 = 40 then (40, 40, fun j => if j = 39 then chE i w u v else ch.2.2 (j + 1)) else (ch.1 + 1, ch.1 + 1, fun j => if j = ch.1 then chE i w u v else ch.2.2 j)
section D11
variable {X : tX} {T : tT} {I I' I1 I2 : tI} {J J' J1 J2 : tJ} {R R' : tR} {Q : tQ} {d b b2 n n' L0 p : Nat} {xs : Nat → Int32} {l : tL} {r r' : Nat → Nat → Int32} {sh sh' : tSh} {ld ld' : Nat → Int32} {im : tIm} {tp : tTp} {ch ch' : tCh} {st : tSt} {i v w u x : Int32}
theorem c_chAdd (h : CCh T I R ch) (ho : ch.1 ≤ ch.2.1 ∧ ch.2.1 ≤ 40) (k : ∀ I' : tI, (∀ x, x < 33 ∨ 37 < x → I' x = I x) → CCh T I' R (chAd ch i w u v) → Q none (T, I', J, R)) : Ex X (d + 2) mX0_add 0 [.ref 33, .int i, .int w, .int u, .int v] [] (T, I, J, R) Q := by
  obtain ⟨h9, ⟨t33, t34, t35, t36, t37, r0, r1, r2, r3⟩, h4, h5, hc⟩ := id h
  -- the entry is written at m
  have write : ∀ (m : Nat) (f : Nat → Nat → Int32) (I1 : tI), m < 40 → (∀ x, x < 33 ∨ 37 < x → I1 x = I x) → I1 33 4 = nI m → (∀ j, j < m → I1 34 j = f j 0 ∧ I1 35 j = f j 1 ∧ I1 36 j = f j 2 ∧ I1 37 j = f j 3) → (∀ I' : tI, (∀ x, x < 33 ∨ 37 < x → I' x = I x) → CCh T I' R (m + 1, m + 1, fun j => if j = m then chE i w u v else f j) → Q none (T, I', J, R)) → Ex X (d + 2) mX0_add 13 [.ref 33, .int i, .int w, .int u, .int v] [] (T, I1, J, R) Q := by
    intro m f I1 hm f1 e4 e5 k
    simp only [gX0_add_13, t33, true_and, r0, r1, r2, r3, rf_some, e4, rIn_at t34 hm (by decide), rIn_at t35 hm (by decide), rIn_at t36 hm (by decide), rIn_at t37 hm (by decide), nI_clamp (show m < 2 ^ 31 by omega), up_ne _ _ (show (33 : Nat) ≠ 34 by decide), up_ne _ _ (show (33 : Nat) ≠ 35 by decide), up_ne _ _ (show (33 : Nat) ≠ 36 by decide), up_ne _ _ (show (33 : Nat) ≠ 37 by decide), up_ne _ _ (show (35 : Nat) ≠ 34 by decide), up_ne _ _ (show (36 : Nat) ≠ 34 by decide), up_ne _ _ (show (36 : Nat) ≠ 35 by decide), up_ne _ _ (show (37 : Nat) ≠ 34 by decide), up_ne _ _ (show (37 : Nat) ≠ 35 by decide), up_ne _ _ (show (37 : Nat) ≠ 36 by decide), up_self, nI_1]
    refine k _ (fun x hx => ?_) ⟨h9, ⟨t33, t34, t35, t36, t37, r0, r1, r2, r3⟩, ?_, ?_, fun j hj => ?_⟩
    · rw [up_ne _ _ (by omega), up_ne _ _ (by omega), up_ne _ _ (by omega), up_ne _ _ (by omega), up_ne _ _ (by omega), up_ne _ _ (by omega)]
      exact f1 x hx
    · rw [up_self, up_ne _ _ (by decide), up_self]
    · rw [up_self, up_self]
    · have hj' : j < m + 1 := hj
      have q34 : ∀ A B C D E F : Nat → Int32, va_up (va_up (va_up (va_up (va_up (va_up I1 34 A) 35 B) 36 C) 37 D) 33 E) 33 F 34 = A := fun A B C D E F => by rw [up_ne _ _ (by decide), up_ne _ _ (by decide), up_ne _ _ (by decide), up_ne _ _ (by decide), up_ne _ _ (by decide), up_self]
      have q35 : ∀ A B C D E F : Nat → Int32, va_up (va_up (va_up (va_up (va_up (va_up I1 34 A) 35 B) 36 C) 37 D) 33 E) 33 F 35 = B := fun A B C D E F => by rw [up_ne _ _ (by decide), up_ne _ _ (by decide), up_ne _ _ (by decide), up_ne _ _ (by decide), up_self]
      have q36 : ∀ A B C D E F : Nat → Int32, va_up (va_up (va_up (va_up (va_up (va_up I1 34 A) 35 B) 36 C) 37 D) 33 E) 33 F 36 = C := fun A B C D E F => by rw [up_ne _ _ (by decide), up_ne _ _ (by decide), up_ne _ _ (by decide), up_self]
      have q37 : ∀ A B C D E F : Nat → Int32, va_up (va_up (va_up (va_up (va_up (va_up I1 34 A) 35 B) 36 C) 37 D) 33 E) 33 F 37 = D := fun A B C D E F => by rw [up_ne _ _ (by decide), up_ne _ _ (by decide), up_self]
      rw [q34, q35, q36, q37]
      dsimp only
      by_cases e : j = m
      · subst e
        rw [if_pos rfl, up_self, up_self, up_self, up_self]
        exact ⟨rfl, rfl, rfl, rfl⟩
      · rw [if_neg e, up_ne _ _ e, up_ne _ _ e, up_ne _ _ e, up_ne _ _ e]
        exact e5 j (by omega)
  unfold chAd at k
  simp only [gX0_add_0, t33, true_and, h4]
  by_cases e : ch.1 = 40
  · rw [if_pos e] at k
    have kn : ch.2.1 = 40 := by omega
    have z1 : ¬ (1 : Int32) < 0 := by decide
    have z39 : ¬ (39 : Int32) < 0 := by decide
    have n1 : (1 : Int32).toNatClampNeg = 1 := by decide
    have n39 : (39 : Int32).toNatClampNeg = 39 := by decide
    simp only [e, show ¬ nI 40 < 40 by decide, if_false, gX0_add_9, t33, true_and]
    simp only [gX0_forgetOldest_0, t33, true_and, r0, rf_some]
    rw [cX0_forgetOldest_12 t34 t34 ⟨z1, z_lt0, z39⟩ (by rw [n1, n39, clamp_0]; omega)]
    simp only [gX0_forgetOldest_0, t33, true_and, r1, rf_some]
    rw [cX0_forgetOldest_27 t35 t35 ⟨z1, z_lt0, z39⟩ (by rw [n1, n39, clamp_0]; omega)]
    simp only [gX0_forgetOldest_0, t33, true_and, r2, rf_some]
    rw [cX0_forgetOldest_42 t36 t36 ⟨z1, z_lt0, z39⟩ (by rw [n1, n39, clamp_0]; omega)]
    simp only [gX0_forgetOldest_0, t33, true_and, r3, rf_some]
    rw [cX0_forgetOldest_57 t37 t37 ⟨z1, z_lt0, z39⟩ (by rw [n1, n39, clamp_0]; omega)]
    simp only [gX0_forgetOldest_0, t33, true_and, n1, n39, clamp_0, Option.toList_none, List.nil_append, up_ne _ _ (show (35 : Nat) ≠ 34 by decide), up_ne _ _ (show (36 : Nat) ≠ 34 by decide), up_ne _ _ (show (36 : Nat) ≠ 35 by decide), up_ne _ _ (show (37 : Nat) ≠ 34 by decide), up_ne _ _ (show (37 : Nat) ≠ 35 by decide), up_ne _ _ (show (37 : Nat) ≠ 36 by decide)]
    refine write 39 (fun j => ch.2.2 (j + 1)) _ (by decide) (fun x hx => ?_) ?_ (fun j hj => ?_) k
    · rw [up_ne _ _ (by omega), up_ne _ _ (by omega), up_ne _ _ (by omega), up_ne _ _ (by omega), up_ne _ _ (by omega)]
    · rw [up_self, up_self]
      rfl
    · have q34 : ∀ A B C D E : Nat → Int32, va_up (va_up (va_up (va_up (va_up I 34 A) 35 B) 36 C) 37 D) 33 E 34 = A := fun A B C D E => by rw [up_ne _ _ (by decide), up_ne _ _ (by decide), up_ne _ _ (by decide), up_ne _ _ (by decide), up_self]
      have q35 : ∀ A B C D E : Nat → Int32, va_up (va_up (va_up (va_up (va_up I 34 A) 35 B) 36 C) 37 D) 33 E 35 = B := fun A B C D E => by rw [up_ne _ _ (by decide), up_ne _ _ (by decide), up_ne _ _ (by decide), up_self]
      have q36 : ∀ A B C D E : Nat → Int32, va_up (va_up (va_up (va_up (va_up I 34 A) 35 B) 36 C) 37 D) 33 E 36 = C := fun A B C D E => by rw [up_ne _ _ (by decide), up_ne _ _ (by decide), up_self]
      have q37 : ∀ A B C D E : Nat → Int32, va_up (va_up (va_up (va_up (va_up I 34 A) 35 B) 36 C) 37 D) 33 E 37 = D := fun A B C D E => by rw [up_ne _ _ (by decide), up_self]
      rw [q34, q35, q36, q37]
      have cp : ∀ f : Nat → Int32, va_cpy f f 1 0 39 j = f (j + 1) := fun f => by rw [pk_cpy_in (by omega) (by omega), show 1 + (j - 0) = j + 1 by omega]
      rw [cp, cp, cp, cp]
      exact hc (j + 1) (by omega)
  · rw [if_neg e] at k
    have lt : ch.1 < 40 := by omega
    simp only [show nI ch.1 < 40 from nI_lt (b := 40) lt (by decide), if_true]
    exact write ch.1 ch.2.2 I lt (fun _ _ => rfl) h4 (fun j hj => hc j (by omega)) k
def mnZ (n : Nat) (r : Nat → Nat → Int32) (i w v : Int32) : Int32 := if hasB n i w = true ∧ fitB w v = true then getS r w.toNatClampNeg i.toNatClampNeg else -1
def mnB (n : Nat) (r : Nat → Nat → Int32) (i w v : Int32) : Bool := decide (hasB n i w = true ∧ fitB w v = true ∧ ¬ getS r w.toNatClampNeg i.toNatClampNeg = v)
def mnS (n : Nat) (r : Nat → Nat → Int32) (i w v : Int32) : Nat → Nat → Int32 := if mnB n r i w v = true then putS r w.toNatClampNeg i.toNatClampNeg v else r
def mnC (n : Nat) (r : Nat → Nat → Int32) (ch : tCh) (i w v : Int32) : tCh := if mnB n r i w v = true then chAd ch i w (getS r w.toNatClampNeg i.toNatClampNeg) v else ch
theorem c_mend (h : HS T I R b n l r) (hc : CCh T I R ch) (ho : okCh n ch) (k : ∀ I' : tI, (∀ x, x < 1 ∨ (6 < x ∧ x < 33) ∨ 37 < x → I' x = I x) → HS T I' R b n l (mnS n r i w v) → CCh T I' R (mnC n r ch i w v) → Q (some (.int (mnZ n r i w v))) (T, I', J, R)) : Ex (rX L0 xs) (d + 5) mX6_mend 0 [.ref 0, .int i, .int w, .int v, rU] [] (T, I, J, R) Q := by
  have h8 := HS_8 h
  obtain ⟨h0, r0, r1, r8, hb, hb2, hv, hC⟩ := id h
  unfold mnZ mnS mnC at k
  have bad : ¬ (hasB n i w = true ∧ fitB w v = true) → Ex (rX L0 xs) (d + 5) mX6_mend 20 [.ref 0, .int i, .int w, .int v, rU] [] (T, I, J, R) Q := by
    intro c
    have nb : ¬ mnB n r i w v = true := fun z => by
      obtain ⟨z1, z2, -⟩ := of_decide_eq_true z
      exact c ⟨z1, z2⟩
    rw [if_neg c, if_neg nb, if_neg nb] at k
    simp only [gX6_mend_20]
    exact k I (fun _ _ => rfl) h hc
  simp only [gX6_mend_0, h0, true_and, r0, rf_some, hC.2.1.1]
  refine c_has hC ?_
  simp only [Option.toList_some, List.cons_append, List.nil_append, gX6_mend_9, if10]
  cases g1 : hasB n i w with
  | false =>
    simp only [if_true]
    exact bad (fun c => absurd c.1 (by rw [g1]; simp))
  | true =>
    simp only [reduceCtorEq, if_false, gX6_mend_12]
    refine p_fitsIn ?_
    simp only [Option.toList_some, List.cons_append, List.nil_append, gX6_mend_17, ne_eq, if10]
    cases g2 : fitB w v with
    | false =>
      simp only [not_true_eq_false, if_false]
      exact bad (fun c => absurd c.2 (by rw [g2]; simp))
    | true =>
      rw [if_pos (show hasB n i w = true ∧ fitB w v = true from ⟨g1, g2⟩)] at k
      have hB := g1
      obtain ⟨j, q, rfl, rfl, hj, hq⟩ := hasB_t g1 h8
      have hq' : q < vwN n j := hq
      have cj : (nI j).toNatClampNeg = j := nI_clamp (by omega)
      have cq : (nI q).toNatClampNeg = q := nI_clamp (vw_31 hq' h8)
      rw [cj, cq] at k
      simp only [reduceCtorEq, not_false_eq_true, if_true, gX6_mend_22, h0, true_and, r0, rf_some, hC.2.1.1]
      refine c_numberOf hC hj hq' hB ?_
      simp only [Option.toList_some, List.cons_append, List.nil_append, gX6_mend_31]
      by_cases e : getS r j q = v
      · have nb : ¬ mnB n r (nI q) (nI j) v = true := fun z => by
          have := (of_decide_eq_true z).2.2
          rw [cj, cq] at this
          exact this e
        rw [if_neg nb, if_neg nb] at k
        simp only [e, if_true, gX6_mend_61]
        rw [e] at k
        exact k I (fun _ _ => rfl) h hc
      · have yb : mnB n r (nI q) (nI j) v = true := decide_eq_true ⟨hB, g2, by rw [cj, cq]; exact e⟩
        rw [if_pos yb, if_pos yb] at k
        simp only [e, if_false, gX6_mend_39, h0, true_and, r0, rf_some, hC.2.1.1]
        refine c_become hC hj hq' hB g2 (fun I1 f1 hC1 => ?_)
        have h9 := hc.1
        simp only [Option.toList_none, List.nil_append, gX6_mend_49, h0, true_and, h9, rf_some, hc.2.1.1]
        refine c_chAdd (CCh_f hc (fun x hx => f1 x (by omega))) ⟨ho.1, ho.2.1⟩ (fun I2 f2 hc2 => ?_)
        simp only [Option.toList_none, List.nil_append, gX6_mend_61]
        exact k I2 (fun x hx => by rw [f2 x (by omega), f1 x (by omega)]) (HS_f2 (HS_cs h hC1) (fun x hx => f2 x (by omega))) hc2
theorem m_mend (h : MS T I R n l r) (hc : MCh I ch) (ho : okCh n ch) (k : ∀ I' : tI, (∀ x, x ≠ 54 → ¬ (55 ≤ x ∧ x ≤ 57) → x ≠ 72 → I' x = I x) → (∀ q, q ≠ 27 → q ≠ 28 → I' 54 q = I 54 q) → MS T I' R n l (mnS n r i w v) → MCh I' (mnC n r ch i w v) → Q (some (.int (mnZ n r i w v))) (T, I', J, R)) : Ex X (d + 5) mX7_mend 0 [.ref 54, .int i, .int w, .int v, rU, rU] [] (T, I, J, R) Q := by
  have h8 := MS_8 h
  have hm := h.1
  have t0 := mt_54 hm
  have t72 := mt_72 hm
  unfold mnZ mnS mnC at k
  have bad : ¬ (hasB n i w = true ∧ fitB w v = true) → Ex X (d + 5) mX7_mend 17 [.ref 54, .int i, .int w, .int v, rU, rU] [] (T, I, J, R) Q := by
    intro c
    have nb : ¬ mnB n r i w v = true := fun z => by
      obtain ⟨z1, z2, -⟩ := of_decide_eq_true z
      exact c ⟨z1, z2⟩
    rw [if_neg c, if_neg nb, if_neg nb] at k
    simp only [gX7_mend_17]
    exact k I (fun _ _ _ _ => rfl) (fun _ _ _ => rfl) h hc
  simp only [gX7_mend_0, t0, true_and]
  refine m_isOf h ?_
  simp only [Option.toList_some, List.cons_append, List.nil_append, gX7_mend_6, if10]
  cases g1 : hasB n i w with
  | false =>
    simp only [if_true]
    exact bad (fun c => absurd c.1 (by rw [g1]; simp))
  | true =>
    have hB := g1
    obtain ⟨j, q, rfl, rfl, hj, hq⟩ := hasB_t g1 h8
    have hq' : q < vwN n j := hq
    have cj : (nI j).toNatClampNeg = j := nI_clamp (by omega)
    have cq : (nI q).toNatClampNeg = q := nI_clamp (vw_31 hq' h8)
    simp only [reduceCtorEq, if_false, gX7_mend_9]
    refine m_isFit hj ?_
    simp only [Option.toList_some, List.cons_append, List.nil_append, gX7_mend_14, ne_eq, if10]
    cases g2 : fitB (nI j) v with
    | false =>
      simp only [not_true_eq_false, if_false]
      exact bad (fun c => absurd c.2 (by rw [g2]; simp))
    | true =>
      rw [if_pos (show hasB n (nI q) (nI j) = true ∧ fitB (nI j) v = true from ⟨hB, g2⟩), cj, cq] at k
      simp only [reduceCtorEq, not_false_eq_true, if_true, gX7_mend_19, t0, true_and]
      refine m_get h hj hq' ?_
      simp only [Option.toList_some, List.cons_append, List.nil_append, gX7_mend_25, ne_eq]
      by_cases e : getS r j q = v
      · have nb : ¬ mnB n r (nI q) (nI j) v = true := fun z => by
          have := (of_decide_eq_true z).2.2
          rw [cj, cq] at this
          exact this e
        rw [if_neg nb, if_neg nb] at k
        simp only [e, not_true_eq_false, if_false, gX7_mend_33]
        rw [e] at k
        exact k I (fun _ _ _ _ => rfl) (fun _ _ _ => rfl) h hc
      · have yb : mnB n r (nI q) (nI j) v = true := decide_eq_true ⟨hB, g2, by rw [cj, cq]; exact e⟩
        rw [if_pos yb, if_pos yb] at k
        simp only [e, not_false_eq_true, if_true, gX7_mend_36, t0, true_and]
        refine m_becomes h hj hq' g2 (fun I1 f1 hM1 => ?_)
        obtain ⟨c1, c2, c3⟩ := hc
        obtain ⟨o1, o2, o3⟩ := ho
        have s54 : I1 54 = I 54 := f1 54 (by omega)
        have c1' : I1 54 28 = nI ch.1 := by rw [s54]; exact c1
        have r72 : I1 72 = I 72 := f1 72 (by omega)
        have n1 : ∀ y : Nat, nI y + 1 = nI (y + 1) := nI_1
        have n2 : ∀ y : Nat, nI y + 2 = nI (y + 2) := fun y => nI_add y 2
        have n3 : ∀ y : Nat, nI y + 3 = nI (y + 3) := fun y => nI_add y 3
        have n4 : ∀ y : Nat, nI y + 4 = nI (y + 4) := fun y => nI_add y 4
        -- the entry is written at m
        have write : ∀ (m : Nat) (f : Nat → Nat → Int32) (I2 : tI) (v5 : Value), m < 40 → (∀ x, x ≠ 54 → x ≠ 72 → I2 x = I1 x) → (∀ y, y ≠ 28 → I2 54 y = I1 54 y) → I2 54 28 = nI m → (∀ j, j < m → ∀ c, c < 4 → I2 72 (4 * j + c) = f j c) → (∀ I' : tI, (∀ x, x ≠ 54 → ¬ (55 ≤ x ∧ x ≤ 57) → x ≠ 72 → I' x = I x) → (∀ q, q ≠ 27 → q ≠ 28 → I' 54 q = I 54 q) → MS T I' R n l (putS r j q v) → MCh I' (m + 1, m + 1, fun y => if y = m then chE (nI q) (nI j) (getS r j q) v else f y) → Q (some (.int (getS r j q))) (T, I', J, R)) → Ex X (d + 5) mX7_mend 95 [.ref 54, .int (nI q), .int (nI j), .int v, .int (getS r j q), v5] [] (T, I2, J, R) Q := by
          intro m f I2 v5 hm4 g1 g2 g3 g4 k
          have fin : ∀ I3 : tI, (∀ x, x ≠ 54 → x ≠ 72 → I3 x = I2 x) → (∀ y, y ≠ 27 → y ≠ 28 → I3 54 y = I2 54 y) → I3 54 28 = nI (m + 1) → I3 54 27 = nI (m + 1) → I3 72 = va_up (va_up (va_up (va_up (I2 72) (4 * m) (nI q)) (4 * m + 1) (nI j)) (4 * m + 2) (getS r j q)) (4 * m + 3) v → Q (some (.int (getS r j q))) (T, I3, J, R) := by
            intro I3 a1 a2 a3 a4 a5
            have al : ∀ x, x ≠ 54 → x ≠ 72 → I3 x = I1 x := fun x x1 x2 => by rw [a1 x x1 x2, g1 x x1 x2]
            have sl : ∀ y, y ≠ 27 → y ≠ 28 → I3 54 y = I1 54 y := fun y y1 y2 => by rw [a2 y y1 y2, g2 y y2]
            refine k I3 (fun x x1 x2 x3 => by rw [al x x1 x3, f1 x (by omega)]) (fun y y1 y2 => by rw [sl y y1 y2, s54]) (MS_fs hM1 (fun x hx => al x (by omega) (by omega)) (sl 0 (by decide) (by decide)) (sl 6 (by decide) (by decide)) (sl 7 (by decide) (by decide))) ⟨a3, a4, fun y hy c hc => ?_⟩
            have hy' : y < m + 1 := hy
            rw [a5]
            dsimp only
            by_cases e : y = m
            · subst e
              rw [if_pos rfl]
              have hc' : c = 0 ∨ c = 1 ∨ c = 2 ∨ c = 3 := by omega
              rcases hc' with rfl | rfl | rfl | rfl
              · rw [up_ne _ _ (by omega), up_ne _ _ (by omega), up_ne _ _ (by omega), Nat.add_zero, up_self]
                rfl
              · rw [up_ne _ _ (by omega), up_ne _ _ (by omega), up_self]
                rfl
              · rw [up_ne _ _ (by omega), up_self]
                rfl
              · rw [up_self]
                rfl
            · rw [if_neg e, up_ne _ _ (by omega), up_ne _ _ (by omega), up_ne _ _ (by omega), up_ne _ _ (by omega)]
              exact g4 y (by omega) c hc
          have e4 : (4 : Int32) * nI m = nI (4 * m) := z_mul 4 m
          simp only [gX7_mend_95, t0, true_and, mr_29 hm, rf_some, g3, e4, n1, n2, n3, rIn_at t72 (show 4 * m < 160 by omega) (by decide), rIn_at t72 (show 4 * m + 1 < 160 by omega) (by decide), rIn_at t72 (show 4 * m + 2 < 160 by omega) (by decide), rIn_at t72 (show 4 * m + 3 < 160 by omega) (by decide), nI_clamp (show 4 * m < 2 ^ 31 by omega), nI_clamp (show 4 * m + 1 < 2 ^ 31 by omega), nI_clamp (show 4 * m + 2 < 2 ^ 31 by omega), nI_clamp (show 4 * m + 3 < 2 ^ 31 by omega), up_ne _ _ (show (54 : Nat) ≠ 72 by decide), up_self]
          refine fin _ (fun x x1 x2 => ?_) (fun y y1 y2 => ?_) ?_ ?_ ?_
          · rw [up_ne _ _ x1, up_ne _ _ x1, up_ne _ _ x2, up_ne _ _ x2, up_ne _ _ x2, up_ne _ _ x2]
          · rw [up_self, up_ne _ _ y1, up_ne _ _ y2]
          · rw [up_self, up_ne _ _ (by decide), up_self]
          · rw [up_self, up_self]
          · rw [up_ne _ _ (by decide), up_ne _ _ (by decide), up_self]
        simp only [Option.toList_none, List.nil_append, gX7_mend_43, t0, true_and, c1', ne_eq]
        unfold chAd at k
        by_cases e40 : ch.1 = 40
        · rw [if_pos e40] at k
          have kn : ch.2.1 = 40 := by omega
          simp only [e40, show nI 40 = 40 by decide, not_true_eq_false, if_false, gX7_mend_52]
          have loop : ∀ t, t ≤ 156 → ∀ I2 : tI, (∀ x, x ≠ 72 → I2 x = I1 x) → (∀ y, y < t → I2 72 y = I1 72 (y + 4)) → (∀ y, t ≤ y → I2 72 y = I1 72 y) → Ex X (d + 5) mX7_mend 55 [.ref 54, .int (nI q), .int (nI j), .int v, .int (getS r j q), .int (nI t)] [] (T, I2, J, R) Q := by
            refine loop_up (P := fun t => ∀ I2 : tI, (∀ x, x ≠ 72 → I2 x = I1 x) → (∀ y, y < t → I2 72 y = I1 72 (y + 4)) → (∀ y, t ≤ y → I2 72 y = I1 72 y) → Ex X (d + 5) mX7_mend 55 [.ref 54, .int (nI q), .int (nI j), .int v, .int (getS r j q), .int (nI t)] [] (T, I2, J, R) Q) (n := 156) ?_ ?_
            · intro I2 a1 a2 a3
              have b28 : I2 54 28 = 40 := by rw [a1 54 (by decide), c1', e40]; decide
              simp only [gX7_mend_55, show (156 : Int32) ≤ nI 156 by decide, if_true, gX7_mend_85, t0, true_and, b28]
              refine write 39 (fun y => ch.2.2 (y + 1)) _ _ (by decide) (fun x x1 x2 => by rw [up_ne _ _ x1]; exact a1 x x2) (fun y hy => by rw [up_self, up_ne _ _ hy, a1 54 (by decide)]) (by rw [up_self, up_self]; decide) (fun y hy c hc => ?_) k
              rw [up_ne _ _ (by decide), a2 _ (by omega), r72, show 4 * y + c + 4 = 4 * (y + 1) + c by omega]
              exact c3 (y + 1) (by omega) c hc
            · intro t ht ih I2 a1 a2 a3
              simp only [gX7_mend_55, show ¬ (156 : Int32) ≤ nI t from nI_ge (b := 156) ht (by decide), if_false]
              simp only [gX7_mend_63, t0, true_and, mr_29 hm, rf_some, n4, rIn_at t72 (show t < 160 by omega) (by decide), rIn_at t72 (show t + 4 < 160 by omega) (by decide), nI_clamp (show t < 2 ^ 31 by omega), nI_clamp (show t + 4 < 2 ^ 31 by omega), n1]
              refine ih _ (fun x hx => by rw [up_ne _ _ hx]; exact a1 x hx) (fun y hy => ?_) (fun y hy => ?_)
              · rw [up_self]
                by_cases ey : y = t
                · rw [ey, up_self]
                  exact a3 _ (by omega)
                · rw [up_ne _ _ ey]
                  exact a2 y (by omega)
              · rw [up_self, up_ne _ _ (by omega)]
                exact a3 y (by omega)
          exact loop 0 (by omega) I1 (fun _ _ => rfl) (fun y hy => absurd hy (Nat.not_lt_zero y)) (fun _ _ => rfl)
        · rw [if_neg e40] at k
          have lt : ch.1 < 40 := by omega
          have ne : ¬ nI ch.1 = 40 := fun z => e40 ((nI_eq (by omega) (by decide)).mp (show nI ch.1 = nI 40 from z))
          simp only [ne, not_false_eq_true, if_true]
          exact write ch.1 ch.2.2 I1 _ lt (fun _ _ _ => rfl) (fun _ _ => rfl) c1' (fun y hy c hc => by rw [r72]; exact c3 y (by omega) c hc) k
theorem okCh_ad {q j : Nat} {u v : Int32} (h : okCh n ch) (hj : j ≤ 6) (hq : q < vwN n j) (hu : fitB (nI j) u = true) (hv : fitB (nI j) v = true) : okCh n (chAd ch (nI q) (nI j) u v) := by
  obtain ⟨o1, o2, o3⟩ := h
  unfold chAd
  by_cases e : ch.1 = 40
  · rw [if_pos e]
    refine ⟨Nat.le_refl 40, Nat.le_refl 40, fun y hy => ?_⟩
    have hy' : y < 40 := hy
    dsimp only
    by_cases ey : y = 39
    · rw [if_pos ey]
      exact ⟨q, j, rfl, rfl, hj, hq, hu, hv⟩
    · rw [if_neg ey]
      exact o3 (y + 1) (by omega)
  · rw [if_neg e]
    refine ⟨Nat.le_refl _, by show ch.1 + 1 ≤ 40; omega, fun y hy => ?_⟩
    have hy' : y < ch.1 + 1 := hy
    dsimp only
    by_cases ey : y = ch.1
    · rw [if_pos ey]
      exact ⟨q, j, rfl, rfl, hj, hq, hu, hv⟩
    · rw [if_neg ey]
      exact o3 y (by omega)
theorem j_mend : Jn (rX L0 xs) (d + 50) (d + 50) mX6_mend [.ref 0, .int i, .int w, .int v, rU] mX7_mend [.ref 54, .int i, .int w, .int v, rU, rU] := by
  rintro T I J R ⟨ht1, ht2, b, b2, n, l, r, sh, ld, im, tp, ch, st, hb, hH, hC, hM, hA, hP⟩
  obtain ⟨p1, p2, p3, p4, p5, p6⟩ := hP
  have h8 := HS_8 hH
  refine ⟨mnZ n r i w v, c_mend (d := d + 45) hH hC.2.2.2.2.1 p3 (fun I1 f1 hH1 hc1 => ⟨rfl, rfl, ?_⟩)⟩
  have s54' : I1 54 = I 54 := f1 54 (by omega)
  refine m_mend (d := d + 45) (MS_fr hM (fun x hx => f1 x (by omega))) (MCh_f hA.2.2.2.2.1 (congrFun s54' _) (congrFun s54' _) (f1 72 (by omega))) p3 (fun I2 f2 g2 hM2 hc2 => ⟨rfl, ?_⟩)
  have al : ∀ x, (x < 1 ∨ (6 < x ∧ x < 33) ∨ 37 < x) → x ≠ 54 → ¬ (55 ≤ x ∧ x ≤ 57) → x ≠ 72 → I2 x = I x := fun x x1 x2 x3 x4 => by rw [f2 x x2 x3 x4, f1 x x1]
  have bb := hb.2
  have sl : ∀ q, q ≠ 27 → q ≠ 28 → I2 54 q = I 54 q := fun q q1 q2 => by rw [g2 q q1 q2, s54']
  refine Rel_mk ⟨ht1, ht2⟩ hb hC hA (HS_f2 hH1 (fun x hx => f2 x (by omega) (by omega) (by omega))) hM2 (fun x hx => al x (by omega) (by omega) (by omega) (by omega)) (CLd_f hC.2.1 (al 22 (by omega) (by omega) (by omega) (by omega))) (CCh_f hc1 (fun x hx => f2 x (by omega) (by omega) (by omega))) (fun q hq => sl q (by omega) (by omega)) (fun x hx => al x (by omega) (by omega) (by omega) (by omega)) (fun q hq => by rw [al 69 (by omega) (by omega) (by omega) (by omega)]; exact hA.2.1 q hq) hc2 ⟨?_, p2, ?_, p4, p5, p6⟩
  · unfold mnS
    split
    · rename_i c
      obtain ⟨c1, c2, c3⟩ := of_decide_eq_true c
      obtain ⟨j, q, rfl, rfl, hj, hq⟩ := hasB_t c1 h8
      rw [nI_clamp (show j < 2 ^ 31 by omega)]
      exact fitR_put p1 c2
    · exact p1
  · unfold mnC
    split
    · rename_i c
      obtain ⟨c1, c2, c3⟩ := of_decide_eq_true c
      obtain ⟨j, q, rfl, rfl, hj, hq⟩ := hasB_t c1 h8
      have hq' : q < vwN n j := hq
      rw [nI_clamp (show j < 2 ^ 31 by omega), nI_clamp (vw_31 hq' h8)]
      exact okCh_ad p3 hj hq' (p1 j q hj hq') c2
    · exact p3
end D11
