/-! PURE: mend, undo, redo joined -/
def chE (i w u v : Int32) (c : Nat) : Int32 := if c = 0 then i else if c = 1 then w else if c = 2 then u else v
def chAd (ch : tCh) (i w u v : Int32) : tCh := if ch.1 = 40 then (40, 40, fun j => if j = 39 then chE i w u v else ch.2.2 (j + 1)) else (ch.1 + 1, ch.1 + 1, fun j => if j = ch.1 then chE i w u v else ch.2.2 j)
section D11
variable {X : tX} {T : tT} {I I' I1 I2 : tI} {J J' J1 J2 : tJ} {R R' : tR} {Q : tQ} {d b b2 n n' L0 p : Nat} {xs : Nat → Int32} {l : tL} {r r' : Nat → Nat → Int32} {sh sh' : tSh} {ld ld' : Nat → Int32} {im : tIm} {tp : tTp} {ch ch' : tCh} {st : tSt} {i v w u x : Int32}
theorem c_chAdd (h : CCh T I R ch) (ho : ch.1 ≤ ch.2.1 ∧ ch.2.1 ≤ 40) (k : ∀ I' : tI, (∀ x, x < 33 ∨ 37 < x → I' x = I x) → CCh T I' R (chAd ch i w u v) → Q none (T, I', J, R)) : Ex X (d + 2) mX0_add 0 [.ref 33, .int i, .int w, .int u, .int v] [] (T, I, J, R) Q := by
  obtain ⟨h9, ⟨t33, t34, t35, t36, t37, r0, r1, r2, r3⟩, h4, h5, hc⟩ := id h
  -- the entry is written at m
  have write : ∀ (m : Nat) (f : Nat → Nat → Int32) (I1 : tI), m < 40 → (∀ x, x < 33 ∨ 37 < x → I1 x = I x) → I1 33 4 = nI m → (∀ j, j < m → I1 34 j = f j 0 ∧ I1 35 j = f j 1 ∧ I1 36 j = f j 2 ∧ I1 37 j = f j 3) → (∀ I' : tI, (∀ x, x < 33 ∨ 37 < x → I' x = I x) → CCh T I' R (m + 1, m + 1, fun j => if j = m then chE i w u v else f j) → Q none (T, I', J, R)) → Ex X (d + 2) mX0_add 13 [.ref 33, .int i, .int w, .int u, .int v] [] (T, I1, J, R) Q := by
    intro m f I1 hm f1 e4 e5 k
    simp only [gX0_add_13, t33, true_and, r0, r1, r2, r3, rf_some, e4, rIn_at t34 hm (by decide), rIn_at t35 hm (by decide), rIn_at t36 hm (by decide), rIn_at t37 hm (by decide), nI_clamp (show m < 2 ^ 31 by omega), up_ne _ _ (show (33 : Nat) ≠ 34 by decide), up_ne _ _ (show (33 : Nat) ≠ 35 by decide), up_ne _ _ (show (33 : Nat) ≠ 36 by decide), up_ne _ _ (show (33 : Nat) ≠ 37 by decide), up_ne _ _ (show (35 : Nat) ≠ 34 by decide), up_ne _ _ (show (36 : Nat) ≠ 34 by decide), up_ne _ _ (show (36 : Nat) ≠ 35 by decide), up_ne _ _ (show (37 : Nat) ≠ 34 by decide), up_ne _ _ (show (37 : Nat) ≠ 35 by decide), up_ne _ _ (show (37 : Nat) ≠ 36 by decide), up_self, nI_1]
    refine k _ (fun x hx => ?_) ⟨h9, ⟨t33, t34, t35, t36, t37, r0, r1, r2, r3⟩, ?_, ?_, fun j hj => ?_⟩
    · rw [up_ne _ _ (by omega), up_ne _ _ (by omega), up_ne _ _ (by omega), up_ne _ _ (by omega), up_ne _ _ (by omega), up_ne _ _ (by omega)]
      exact f1 x hx
    · rw [up_self, up_ne _ _ (by decide), up_self]
    · rw [up_self, up_self]
    · have hj' : j < m + 1 := hj
      have q34 : ∀ A B C D E F : Nat → Int32, va_up (va_up (va_up (va_up (va_up (va_up I1 34 A) 35 B) 36 C) 37 D) 33 E) 33 F 34 = A := fun A B C D E F => by rw [up_ne _ _ (by decide), up_ne _ _ (by decide), up_ne _ _ (by decide), up_ne _ _ (by decide), up_ne _ _ (by decide), up_self]
      have q35 : ∀ A B C D E F : Nat → Int32, va_up (va_up (va_up (va_up (va_up (va_up I1 34 A) 35 B) 36 C) 37 D) 33 E) 33 F 35 = B := fun A B C D E F => by rw [up_ne _ _ (by decide), up_ne _ _ (by decide), up_ne _ _ (by decide), up_ne _ _ (by decide), up_self]
      have q36 : ∀ A B C D E F : Nat → Int32, va_up (va_up (va_up (va_up (va_up (va_up I1 34 A) 35 B) 36 C) 37 D) 33 E) 33 F 36 = C := fun A B C D E F => by rw [up_ne _ _ (by decide), up_ne _ _ (by decide), up_ne _ _ (by decide), up_self]
      have q37 : ∀ A B C D E F : Nat → Int32, va_up (va_up (va_up (va_up (va_up (va_up I1 34 A) 35 B) 36 C) 37 D) 33 E) 33 F 37 = D := fun A B C D E F => by rw [up_ne _ _ (by decide), up_ne _ _ (by decide), up_self]
      rw [q34, q35, q36, q37]
      dsimp only
      by_cases e : j = m
      · subst e
        rw [if_pos rfl, up_self, up_self, up_self, up_self]
        exact ⟨rfl, rfl, rfl, rfl⟩
      · rw [if_neg e, up_ne _ _ e, up_ne _ _ e, up_ne _ _ e, up_ne _ _ e]
        exact e5 j (by omega)
  unfold chAd at k
  simp only [gX0_add_0, t33, true_and, h4]
  by_cases e : ch.1 = 40
  · rw [if_pos e] at k
    have kn : ch.2.1 = 40 := by omega
    have z1 : ¬ (1 : Int32) < 0 := by decide
    have z39 : ¬ (39 : Int32) < 0 := by decide
    have n1 : (1 : Int32).toNatClampNeg = 1 := by decide
    have n39 : (39 : Int32).toNatClampNeg = 39 := by decide
    simp only [e, show ¬ nI 40 < 40 by decide, if_false, gX0_add_9, t33, true_and]
    simp only [gX0_forgetOldest_0, t33, true_and, r0, rf_some]
    rw [cX0_forgetOldest_12 t34 t34 ⟨z1, z_lt0, z39⟩ (by rw [n1, n39, clamp_0]; omega)]
    simp only [gX0_forgetOldest_0, t33, true_and, r1, rf_some]
    rw [cX0_forgetOldest_27 t35 t35 ⟨z1, z_lt0, z39⟩ (by rw [n1, n39, clamp_0]; omega)]
    simp only [gX0_forgetOldest_0, t33, true_and, r2, rf_some]
    rw [cX0_forgetOldest_42 t36 t36 ⟨z1, z_lt0, z39⟩ (by rw [n1, n39, clamp_0]; omega)]
    simp only [gX0_forgetOldest_0, t33, true_and, r3, rf_some]
    rw [cX0_forgetOldest_57 t37 t37 ⟨z1, z_lt0, z39⟩ (by rw [n1, n39, clamp_0]; omega)]
    simp only [gX0_forgetOldest_0, t33, true_and, n1, n39, clamp_0, Option.toList_none, List.nil_append, up_ne _ _ (show (35 : Nat) ≠ 34 by decide), up_ne _ _ (show (36 : Nat) ≠ 34 by decide), up_ne _ _ (show (36 : Nat) ≠ 35 by decide), up_ne _ _ (show (37 : Nat) ≠ 34 by decide), up_ne _ _ (show (37 : Nat) ≠ 35 by decide), up_ne _ _ (show (37 : Nat) ≠ 36 by decide)]
    refine write 39 (fun j => ch.2.2 (j + 1)) _ (by decide) (fun x hx => ?_) ?_ (fun j hj => ?_) k
    · rw [up_ne _ _ (by omega), up_ne _ _ (by omega), up_ne _ _ (by omega), up_ne _ _ (by omega), up_ne _ _ (by omega)]
    · rw [up_self, up_self]
      rfl
    · have q34 : ∀ A B C D E : Nat → Int32, va_up (va_up (va_up (va_up (va_up I 34 A) 35 B) 36 C) 37 D) 33 E 34 = A := fun A B C D E => by rw [up_ne _ _ (by decide), up_ne _ _ (by decide), up_ne _ _ (by decide), up_ne _ _ (by decide), up_self]
      have q35 : ∀ A B C D E : Nat → Int32, va_up (va_up (va_up (va_up (va_up I 34 A) 35 B) 36 C) 37 D) 33 E 35 = B := fun A B C D E => by rw [up_ne _ _ (by decide), up_ne _ _ (by decide), up_ne _ _ (by decide), up_self]
      have q36 : ∀ A B C D E : Nat → Int32, va_up (va_up (va_up (va_up (va_up I 34 A) 35 B) 36 C) 37 D) 33 E 36 = C := fun A B C D E => by rw [up_ne _ _ (by decide), up_ne _ _ (by decide), up_self]
      have q37 : ∀ A B C D E : Nat → Int32, va_up (va_up (va_up (va_up (va_up I 34 A) 35 B) 36 C) 37 D) 33 E 37 = D := fun A B C D E => by rw [up_ne _ _ (by decide), up_self]
      rw [q34, q35, q36, q37]
      have cp : ∀ f : Nat → Int32, va_cpy f f 1 0 39 j = f (j + 1) := fun f => by rw [pk_cpy_in (by omega) (by omega), show 1 + (j - 0) = j + 1 by omega]
      rw [cp, cp, cp, cp]
      exact hc (j + 1) (by omega)
  · rw [if_neg e] at k
    have lt : ch.1 < 40 := by omega
    simp only [show nI ch.1 < 40 from nI_lt (b := 40) lt (by decide), if_true]
    exact write ch.1 ch.2.2 I lt (fun _ _ => rfl) h4 (fun j hj => hc j (by omega)) k
def mnZ (n : Nat) (r : Nat → Nat → Int32) (i w v : Int32) : Int32 := if hasB n i w = true ∧ fitB w v = true then getS r w.toNatClampNeg i.toNatClampNeg else -1
def mnB (n : Nat) (r : Nat → Nat → Int32) (i w v : Int32) : Bool := decide (hasB n i w = true ∧ fitB w v = true ∧ ¬ getS r w.toNatClampNeg i.toNatClampNeg = v)
def mnS (n : Nat) (r : Nat → Nat → Int32) (i w v : Int32) : Nat → Nat → Int32 := if mnB n r i w v = true then putS r w.toNatClampNeg i.toNatClampNeg v else r
def mnC (n : Nat) (r : Nat → Nat → Int32) (ch : tCh) (i w v : Int32) : tCh := if mnB n r i w v = true then chAd ch i w (getS r w.toNatClampNeg i.toNatClampNeg) v else ch
theorem c_mend (h : HS T I R b n l r) (hc : CCh T I R ch) (ho : okCh n ch) (k : ∀ I' : tI, (∀ x, x < 1 ∨ (6 < x ∧ x < 33) ∨ 37 < x → I' x = I x) → HS T I' R b n l (mnS n r i w v) → CCh T I' R (mnC n r ch i w v) → Q (some (.int (mnZ n r i w v))) (T, I', J, R)) : Ex (rX L0 xs) (d + 5) mX6_mend 0 [.ref 0, .int i, .int w, .int v, rU] [] (T, I, J, R) Q := by
  have h8 := HS_8 h
  obtain ⟨h0, r0, r1, r8, hb, hb2, hv, hC⟩ := id h
  unfold mnZ mnS mnC at k
  have bad : ¬ (hasB n i w = true ∧ fitB w v = true) → Ex (rX L0 xs) (d + 5) mX6_mend 20 [.ref 0, .int i, .int w, .int v, rU] [] (T, I, J, R) Q := by
    intro c
    have nb : ¬ mnB n r i w v = true := fun z => by
      obtain ⟨z1, z2, -⟩ := of_decide_eq_true z
      exact c ⟨z1, z2⟩
    rw [if_neg c, if_neg nb, if_neg nb] at k
    simp only [gX6_mend_20]
    exact k I (fun _ _ => rfl) h hc
  simp only [gX6_mend_0, h0, true_and, r0, rf_some, hC.2.1.1]
  refine c_has hC ?_
  simp only [Option.toList_some, List.cons_append, List.nil_append, gX6_mend_9, if10]
  cases g1 : hasB n i w with
  | false =>
    simp only [if_true]
    exact bad (fun c => absurd c.1 (by rw [g1]; simp))
  | true =>
    simp only [reduceCtorEq, if_false, gX6_mend_12]
    refine p_fitsIn ?_
    simp only [Option.toList_some, List.cons_append, List.nil_append, gX6_mend_17, ne_eq, if10]
    cases g2 : fitB w v with
    | false =>
      simp only [not_true_eq_false, if_false]
      exact bad (fun c => absurd c.2 (by rw [g2]; simp))
    | true =>
      rw [if_pos (show hasB n i w = true ∧ fitB w v = true from ⟨g1, g2⟩)] at k
      have hB := g1
      obtain ⟨j, q, rfl, rfl, hj, hq⟩ := hasB_t g1 h8
      have hq' : q < vwN n j := hq
      have cj : (nI j).toNatClampNeg = j := nI_clamp (by omega)
      have cq : (nI q).toNatClampNeg = q := nI_clamp (vw_31 hq' h8)
      rw [cj, cq] at k
      simp only [reduceCtorEq, not_false_eq_true, if_true, gX6_mend_22, h0, true_and, r0, rf_some, hC.2.1.1]
      refine c_numberOf hC hj hq' hB ?_
      simp only [Option.toList_some, List.cons_append, List.nil_append, gX6_mend_31]
      by_cases e : getS r j q = v
      · have nb : ¬ mnB n r (nI q) (nI j) v = true := fun z => by
          have := (of_decide_eq_true z).2.2
          rw [cj, cq] at this
          exact this e
        rw [if_neg nb, if_neg nb] at k
        simp only [e, if_true, gX6_mend_61]
        rw [e] at k
        exact k I (fun _ _ => rfl) h hc
      · have yb : mnB n r (nI q) (nI j) v = true := decide_eq_true ⟨hB, g2, by rw [cj, cq]; exact e⟩
        rw [if_pos yb, if_pos yb] at k
        simp only [e, if_false, gX6_mend_39, h0, true_and, r0, rf_some, hC.2.1.1]
        refine c_become hC hj hq' hB g2 (fun I1 f1 hC1 => ?_)
        have h9 := hc.1
        simp only [Option.toList_none, List.nil_append, gX6_mend_49, h0, true_and, h9, rf_some, hc.2.1.1]
        refine c_chAdd (CCh_f hc (fun x hx => f1 x (by omega))) ⟨ho.1, ho.2.1⟩ (fun I2 f2 hc2 => ?_)
        simp only [Option.toList_none, List.nil_append, gX6_mend_61]
        exact k I2 (fun x hx => by rw [f2 x (by omega), f1 x (by omega)]) (HS_f2 (HS_cs h hC1) (fun x hx => f2 x (by omega))) hc2
theorem m_mend (h : MS T I R n l r) (hc : MCh I ch) (ho : okCh n ch) (k : ∀ I' : tI, (∀ x, x ≠ 54 → ¬ (55 ≤ x ∧ x ≤ 57) → x ≠ 72 → I' x = I x) → (∀ q, q ≠ 27 → q ≠ 28 → I' 54 q = I 54 q) → MS T I' R n l (mnS n r i w v) → MCh I' (mnC n r ch i w v) → Q (some (.int (mnZ n r i w v))) (T, I', J, R)) : Ex X (d + 5) mX7_mend 0 [.ref 54, .int i, .int w, .int v, rU, rU] [] (T, I, J, R) Q := by
  have h8 := MS_8 h
  have hm := h.1
  have t0 := mt_54 hm
  have t72 := mt_72 hm
  unfold mnZ mnS mnC at k
  have bad : ¬ (hasB n i w = true ∧ fitB w v = true) → Ex X (d + 5) mX7_mend 17 [.ref 54, .int i, .int w, .int v, rU, rU] [] (T, I, J, R) Q := by
    intro c
    have nb : ¬ mnB n r i w v = true := fun z => by
      obtain ⟨z1, z2, -⟩ := of_decide_eq_true z
      exact c ⟨z1, z2⟩
    rw [if_neg c, if_neg nb, if_neg nb] at k
    simp only [gX7_mend_17]
    exact k I (fun _ _ _ _ => rfl) (fun _ _ _ => rfl) h hc
  simp only [gX7_mend_0, t0, true_and]
  refine m_isOf h ?_
  simp only [Option.toList_some, List.cons_append, List.nil_append, gX7_mend_6, if10]
  cases g1 : hasB n i w with
  | false =>
    simp only [if_true]
    exact bad (fun c => absurd c.1 (by rw [g1]; simp))
  | true =>
    have hB := g1
    obtain ⟨j, q, rfl, rfl, hj, hq⟩ := hasB_t g1 h8
    have hq' : q < vwN n j := hq
    have cj : (nI j).toNatClampNeg = j := nI_clamp (by omega)
    have cq : (nI q).toNatClampNeg = q := nI_clamp (vw_31 hq' h8)
    simp only [reduceCtorEq, if_false, gX7_mend_9]
    refine m_isFit hj ?_
    simp only [Option.toList_some, List.cons_append, List.nil_append, gX7_mend_14, ne_eq, if10]
    cases g2 : fitB (nI j) v with
    | false =>
      simp only [not_true_eq_false, if_false]
      exact bad (fun c => absurd c.2 (by rw [g2]; simp))
    | true =>
      rw [if_pos (show hasB n (nI q) (nI j) = true ∧ fitB (nI j) v = true from ⟨hB, g2⟩), cj, cq] at k
      simp only [reduceCtorEq, not_false_eq_true, if_true, gX7_mend_19, t0, true_and]
      refine m_get h hj hq' ?_
      simp only [Option.toList_some, List.cons_append, List.nil_append, gX7_mend_25, ne_eq]
      by_cases e : getS r j q = v
      · have nb : ¬ mnB n r (nI q) (nI j) v = true := fun z => by
          have := (of_decide_eq_true z).2.2
          rw [cj, cq] at this
          exact this e
        rw [if_neg nb, if_neg nb] at k
        simp only [e, not_true_eq_false, if_false, gX7_mend_33]
        rw [e] at k
        exact k I (fun _ _ _ _ => rfl) (fun _ _ _ => rfl) h hc
      · have yb : mnB n r (nI q) (nI j) v = true := decide_eq_true ⟨hB, g2, by rw [cj, cq]; exact e⟩
        rw [if_pos yb, if_pos yb] at k
        simp only [e, not_false_eq_true, if_true, gX7_mend_36, t0, true_and]
        refine m_becomes h hj hq' g2 (fun I1 f1 hM1 => ?_)
        obtain ⟨c1, c2, c3⟩ := hc
        obtain ⟨o1, o2, o3⟩ := ho
        have s54 : I1 54 = I 54 := f1 54 (by omega)
        have c1' : I1 54 28 = nI ch.1 := by rw [s54]; exact c1
        have r72 : I1 72 = I 72 := f1 72 (by omega)
        -- the entry is written at m
        have write : ∀ (m : Nat) (f : Nat → Nat → Int32) (I2 : tI) (v5 : Value), m < 40 → (∀ x, x ≠ 54 → x ≠ 72 → I2 x = I1 x) → (∀ y, y ≠ 28 → I2 54 y = I1 54 y) → I2 54 28 = nI m → (∀ j, j < m → ∀ c, c < 4 → I2 72 (4 * j + c) = f j c) → (∀ I' : tI, (∀ x, x ≠ 54 → ¬ (55 ≤ x ∧ x ≤ 57) → x ≠ 72 → I' x = I x) → (∀ q, q ≠ 27 → q ≠ 28 → I' 54 q = I 54 q) → MS T I' R n l (putS r j q v) → MCh I' (m + 1, m + 1, fun y => if y = m then chE (nI q) (nI j) (getS r j q) v else f y) → Q (some (.int (getS r j q))) (T, I', J, R)) → (∀ V : Int32, v5 = .int V ∨ v5 = rU) → Ex X (d + 5) mX7_mend 95 [.ref 54, .int (nI q), .int (nI j), .int v, .int (getS r j q), v5] [] (T, I2, J, R) Q := by
          intro m f I2 v5 hm4 g1 g2 g3 g4 k _
          sorry
        sorry
end D11
