/-! PURE: build, gift joined -/
section D10
variable {X : tX} {T : tT} {I I' I1 I2 : tI} {J J' J1 J2 : tJ} {R R' : tR} {Q : tQ} {d b b2 n n' L0 p : Nat} {xs : Nat → Int32} {l : tL} {r r' : Nat → Nat → Int32} {sh sh' : tSh} {ld ld' : Nat → Int32} {im : tIm} {tp : tTp} {ch ch' : tCh} {st : tSt} {v w x : Int32}
theorem put_stS {k i : Nat} (hk : k ≤ 4) : putS r k i v = stS r k i v := by rw [putS_st, if_pos hk, if_pos hk]
theorem fit_0 (h : fitR n r) (hp : p < n) : inB (r 0 p) 0 99 = true := by
  have := h 0 p (by decide) hp
  rw [fitB_j (by decide)] at this
  exact this
theorem fit_3 (h : fitR n r) (hp : p < n) : inB (r 3 p) 0 9 = true := by
  have := h 3 p (by decide) hp
  rw [fitB_j (by decide)] at this
  exact this
def buZ (n : Nat) (r : Nat → Nat → Int32) (v w : Int32) : Int32 := if isR n v = true ∧ inB w 0 1 = true then r 2 v.toNatClampNeg else -1
def buS (n : Nat) (r : Nat → Nat → Int32) (v w : Int32) : Nat → Nat → Int32 := if isR n v = true ∧ inB w 0 1 = true then putS r 2 v.toNatClampNeg w else r
theorem HS_cs (h : HS T I R b n l r) (hC : CS T I' R 1 b n l r') : HS T I' R b n l r' := ⟨h.1, h.2.1, h.2.2.1, h.2.2.2.1, h.2.2.2.2.1, h.2.2.2.2.2.1, h.2.2.2.2.2.2.1, hC⟩
theorem c_build (h : HS T I R b n l r) (k : ∀ I' : tI, (∀ x, x ≠ 4 → I' x = I x) → HS T I' R b n l (buS n r v w) → Q (some (.int (buZ n r v w))) (T, I', J, R)) : Ex X (d + 3) mX6_build 0 [.ref 0, .int v, .int w, rU] [] (T, I, J, R) Q := by
  have h8 := HS_8 h
  obtain ⟨h0, r0, r1, r8, hb, hb2, hv, hC⟩ := id h
  obtain ⟨t1, u1, u2, u3, u4, u5, u6, q0, q1, q2, q3, q4, q5⟩ := id hC.2.1
  unfold buZ buS at k
  have bad : ¬ (isR n v = true ∧ inB w 0 1 = true) → Ex X (d + 3) mX6_build 17 [.ref 0, .int v, .int w, rU] [] (T, I, J, R) Q := by
    intro c
    rw [if_neg c, if_neg c] at k
    simp only [gX6_build_17]
    exact k I (fun _ _ => rfl) h
  simp only [gX6_build_0, h0, true_and]
  refine c_isReach h ?_
  simp only [Option.toList_some, List.cons_append, List.nil_append, gX6_build_5, if10]
  cases g1 : isR n v with
  | false =>
    simp only [if_true]
    exact bad (fun c => absurd c.1 (by rw [g1]; simp))
  | true =>
    obtain ⟨p, hp, rfl⟩ := isR_t g1 h8
    have cp : (nI p).toNatClampNeg = p := nI_clamp (by omega)
    simp only [reduceCtorEq, if_false, gX6_build_8, gX6_build_12]
    by_cases c : inB w 0 1 = true
    · obtain ⟨w1, w2⟩ := of_decide_eq_true c
      rw [if_pos ⟨g1, c⟩, if_pos ⟨g1, c⟩, cp] at k
      have e2 : I 4 p = r 2 p := by
        rw [← hC.2.2.2.2.2.2.2.1, can_lt (by decide) hp]
        rfl
      have t4 : T[4]? = some (0, 8) := u3
      have q2' : R 1 2 = some 4 := q2
      simp only [w1, if_false, Int32.not_lt.mp w2, if_true, gX6_build_19, h0, true_and, r0, rf_some, t1, q2', rIn_at t4 (show p < 8 by omega) (by decide), cp, e2]
      refine k _ (fun x hx => up_ne _ _ hx) (HS_cs h ?_)
      rw [put_stS (by decide)]
      exact CS_set hC (by decide) (by rw [if_pos (by decide)]; exact hp) (fun z => absurd z (by decide)) (up_self _ _ _) (fun x hx => up_ne _ _ hx)
    · have b' := bad (fun q => c q.2)
      repeat' first | exact b' | split
      exact absurd (decide_eq_true ⟨‹_›, Int32.not_lt.mpr ‹_›⟩) c
theorem m_build (h : MS T I R n l r) (k : ∀ I' : tI, (∀ x, x ≠ 55 → I' x = I x) → MS T I' R n l (buS n r v w) → Q (some (.int (buZ n r v w))) (T, I', J, R)) : Ex X (d + 3) mX7_build 0 [.ref 54, .int v, .int w, rU] [] (T, I, J, R) Q := by
  have h8 := MS_8 h
  have hm := h.1
  have t0 := mt_54 hm
  unfold buZ buS at k
  have bad : ¬ (isR n v = true ∧ inB w 0 1 = true) → Ex X (d + 3) mX7_build 17 [.ref 54, .int v, .int w, rU] [] (T, I, J, R) Q := by
    intro c
    rw [if_neg c, if_neg c] at k
    simp only [gX7_build_17]
    exact k I (fun _ _ => rfl) h
  simp only [gX7_build_0, t0, true_and]
  refine s_isOne h ?_
  simp only [Option.toList_some, List.cons_append, List.nil_append, gX7_build_5, if10]
  cases g1 : isR n v with
  | false =>
    simp only [if_true]
    exact bad (fun c => absurd c.1 (by rw [g1]; simp))
  | true =>
    obtain ⟨p, hp, rfl⟩ := isR_t g1 h8
    have cp : (nI p).toNatClampNeg = p := nI_clamp (by omega)
    simp only [reduceCtorEq, if_false, gX7_build_8]
    refine s_within ?_
    simp only [Option.toList_some, List.cons_append, List.nil_append, gX7_build_14, ne_eq, if10]
    cases c : inB w 0 1 with
    | false =>
      simp only [not_true_eq_false, if_false]
      exact bad (fun q => absurd q.2 (by rw [c]; simp))
    | true =>
      rw [if_pos ⟨g1, c⟩, if_pos ⟨g1, c⟩, cp] at k
      have e2 : I 55 (16 + p) = r 2 p := by
        rw [← h.2.2.2.2.2.1, can_lt (by decide) hp]
        rfl
      simp only [reduceCtorEq, not_false_eq_true, if_true, gX7_build_19, t0, true_and, mr_1 hm, rf_some, z_16, rIn_at (mt_55 hm) (show 16 + p < 32 by omega) (by decide), nI_clamp (show 16 + p < 2 ^ 31 by omega), e2]
      refine k _ (fun x hx => up_ne _ _ hx) ?_
      rw [put_stS (by decide)]
      exact MS_set h (by decide) hp (fun z => absurd z (by decide)) (up_self _ _ _) (fun x hx => up_ne _ _ hx)
theorem j_build : Jn X (d + 50) (d + 50) mX6_build [.ref 0, .int v, .int w, rU] mX7_build [.ref 54, .int v, .int w, rU] := by
  rintro T I J R ⟨ht1, ht2, b, b2, n, l, r, sh, ld, im, tp, ch, st, hb, hH, hC, hM, hA, hP⟩
  refine ⟨buZ n r v w, c_build (d := d + 47) hH (fun I1 f1 hH1 => ⟨rfl, rfl, ?_⟩)⟩
  refine m_build (d := d + 47) (MS_fr hM (fun x hx => f1 x (by omega))) (fun I2 f2 hM2 => ⟨rfl, ?_⟩)
  have al : ∀ x, x ≠ 4 → x ≠ 55 → I2 x = I x := fun x x1 x2 => by rw [f2 x x2, f1 x x1]
  have bb := hb.2
  obtain ⟨p1, p2, p3, p4, p5, p6⟩ := hP
  have s54 : ∀ i, I2 54 i = I 54 i := fun i => congrFun (al 54 (by omega) (by omega)) i
  refine Rel_mk ⟨ht1, ht2⟩ hb hC hA (HS_f2 hH1 (fun x hx => f2 x (by omega))) hM2 (fun x hx => al x (by omega) (by omega)) (CLd_f hC.2.1 (al _ (by omega) (by omega))) (CCh_f hC.2.2.2.2.1 (fun x hx => al x (by omega) (by omega))) (fun i hi => s54 i) (fun x hx => al x (by omega) (by omega)) (fun i hi => by rw [al 69 (by omega) (by omega)]; exact hA.2.1 i hi) (MCh_f hA.2.2.2.2.1 (s54 _) (s54 _) (al _ (by omega) (by omega))) ⟨?_, p2, p3, p4, p5, p6⟩
  unfold buS
  split
  · rename_i c
    refine fitR_put p1 ?_
    rw [fitB_j (by decide)]
    exact c.2
  · exact p1
/-- gift -/
def giP (n : Nat) (v w : Int32) : Prop := isR n v = true ∧ inB w 0 99 = true
def giL (r : Nat → Nat → Int32) (p : Nat) (w : Int32) : Int32 := if 99 < r 0 p + w then 99 else r 0 p + w
def giB (n : Nat) (r : Nat → Nat → Int32) (v w : Int32) : Bool := isR n v && (inB w 0 99 && !(decide (r 3 v.toNatClampNeg = 9)))
def giZ (n : Nat) (r : Nat → Nat → Int32) (v w : Int32) : Int32 := if isR n v = true ∧ inB w 0 99 = true then (if r 3 v.toNatClampNeg = 9 then -5 else giL r v.toNatClampNeg w) else -1
def giS (n : Nat) (r : Nat → Nat → Int32) (v w : Int32) : Nat → Nat → Int32 := if giB n r v w = true then putS (putS r 3 v.toNatClampNeg (r 3 v.toNatClampNeg + 1)) 0 v.toNatClampNeg (giL r v.toNatClampNeg w) else r
def giD (n : Nat) (r : Nat → Nat → Int32) (v w : Int32) (ld : Nat → Int32) : Nat → Int32 := if giB n r v w = true then va_up ld 4 (ld 4 + 1) else ld
theorem giL_ok (h : inB (r 0 p) 0 99 = true) (hw : inB w 0 99 = true) : inB (giL r p w) 0 99 = true ∧ giL r p w = (if r 0 p + w < 99 then r 0 p + w else 99) := by
  obtain ⟨L, hL, e1⟩ := inB_n (m := 99) (by decide) h
  obtain ⟨V, hV, e2⟩ := inB_n (m := 99) (by decide) hw
  unfold giL
  rw [e1, e2, nI_add]
  by_cases g : 99 < L + V
  · rw [if_pos (show (99 : Int32) < nI (L + V) from nI_lt (a := 99) g (by omega)), if_neg (show ¬ nI (L + V) < 99 from nI_nlt (b := 99) (by omega) (by omega))]
    exact ⟨by decide +kernel, rfl⟩
  · rw [if_neg (show ¬ (99 : Int32) < nI (L + V) from nI_nlt (a := 99) (by omega) (by decide))]
    refine ⟨decide_eq_true ⟨nI_pos (by omega), nI_nlt (a := 99) (by omega) (by decide)⟩, ?_⟩
    by_cases g2 : L + V < 99
    · rw [if_pos (show nI (L + V) < 99 from nI_lt (b := 99) g2 (by decide))]
    · rw [if_neg (show ¬ nI (L + V) < 99 from nI_nlt (b := 99) (by omega) (by omega)), show L + V = 99 by omega]
      rfl
theorem c_gift (h : HS T I R b n l r) (hf : fitR n r) (hL : CLd T I R ld) (k : ∀ I' : tI, (∀ x, x ≠ 2 → x ≠ 5 → x ≠ 22 → I' x = I x) → HS T I' R b n l (giS n r v w) → CLd T I' R (giD n r v w ld) → Q (some (.int (giZ n r v w))) (T, I', J, R)) : Ex (rX L0 xs) (d + 3) mX6_gift 0 [.ref 0, .int v, .int w] [] (T, I, J, R) Q := by
  have h8 := HS_8 h
  obtain ⟨h0, r0, r1, r8, hb, hb2, hv, hC⟩ := id h
  obtain ⟨t1, u1, u2, u3, u4, u5, u6, q0, q1, q2, q3, q4, q5⟩ := id hC.2.1
  obtain ⟨c1, c2, c3⟩ := id hL
  unfold giZ giS giD giB at k
  have bad : ¬ (isR n v = true ∧ inB w 0 99 = true) → Ex (rX L0 xs) (d + 3) mX6_gift 18 [.ref 0, .int v, .int w] [] (T, I, J, R) Q := by
    intro c
    have nb : ¬ (isR n v && (inB w 0 99 && !(decide (r 3 v.toNatClampNeg = 9)))) = true := fun q => by
      rw [Bool.and_eq_true, Bool.and_eq_true] at q
      exact c ⟨q.1, q.2.1⟩
    rw [if_neg c, if_neg nb, if_neg nb] at k
    simp only [gX6_gift_18]
    exact k I (fun _ _ _ _ => rfl) h hL
  simp only [gX6_gift_0, h0, true_and]
  refine c_isReach h ?_
  simp only [Option.toList_some, List.cons_append, List.nil_append, gX6_gift_5, if10]
  cases g1 : isR n v with
  | false =>
    simp only [if_true]
    exact bad (fun c => absurd c.1 (by rw [g1]; simp))
  | true =>
    obtain ⟨p, hp, rfl⟩ := isR_t g1 h8
    have cp : (nI p).toNatClampNeg = p := nI_clamp (by omega)
    simp only [reduceCtorEq, if_false, gX6_gift_8, gX6_gift_12]
    by_cases c : inB w 0 99 = true
    · obtain ⟨w1, w2⟩ := of_decide_eq_true c
      rw [cp, if_pos (show isR n (nI p) = true ∧ inB w 0 99 = true from ⟨g1, c⟩)] at k
      have e3 : I 5 p = r 3 p := by
        rw [← hC.2.2.2.2.2.2.2.1, can_lt (by decide) hp]
        rfl
      have e0 : I 2 p = r 0 p := by
        rw [← hC.2.2.2.2.2.2.2.1, can_lt (by decide) hp]
        rfl
      have t2 : T[2]? = some (0, 8) := u1
      have t5 : T[5]? = some (0, 8) := u4
      have q0' : R 1 0 = some 2 := q0
      have q3' : R 1 3 = some 5 := q3
      obtain ⟨G, hG, eG⟩ := inB_n (m := 9) (by decide) (fit_3 hf hp)
      simp only [w1, if_false, Int32.not_lt.mp w2, if_true, gX6_gift_20, h0, true_and, r0, rf_some, t1, q3', rIn_at t5 (show p < 8 by omega) (by decide), cp, e3]
      have x1 : rX L0 xs 1 = (7, fun q => (rTb 1).getD q 0) := rfl
      have m3 : (rTb 1).getD (3 : Int32).toNatClampNeg 0 = 9 := by decide +kernel
      simp only [gX3_most_0, show ¬ (3 : Int32) < 0 by decide, if_false, gX3_most_4, show ¬ (6 : Int32) < 3 by decide, gX3_most_10, x1, show ¬ (False ∨ 7 ≤ (3 : Int32).toNatClampNeg) by decide, not_false_eq_true, true_and, gX3_most_19, m3, Option.toList_some, List.cons_append, List.nil_append, gX6_gift_33]
      by_cases e9 : r 3 p = 9
      · have nb : ¬ (isR n (nI p) && (inB w 0 99 && !(decide (r 3 p = 9)))) = true := by
          rw [decide_eq_true e9]
          simp
        rw [if_pos e9, if_neg nb, if_neg nb] at k
        simp only [e9, show ¬ (9 : Int32) < 9 by decide, if_false, gX6_gift_36]
        exact k I (fun _ _ _ _ => rfl) h hL
      · have yb : (isR n (nI p) && (inB w 0 99 && !(decide (r 3 p = 9)))) = true := by
          rw [g1, c, decide_eq_false e9]
          rfl
        rw [if_neg e9, if_pos yb, if_pos yb] at k
        have lt9 : r 3 p < 9 := by
          rw [eG] at e9 ⊢
          exact nI_lt (b := 9) (Nat.lt_of_le_of_ne hG (fun z => e9 (by rw [z]; rfl))) (by decide)
        have i4 : rIn T 22 0 4 := rIn_at (k := 4) c1 (by decide) (by decide)
        simp only [lt9, if_true, gX6_gift_39, h0, true_and, r0, rf_some, t1, q3', q0', c2, rIn_at t5 (show p < 8 by omega) (by decide), rIn_at t2 (show p < 8 by omega) (by decide), i4, cp, e3, e0, up_ne _ _ (show (2 : Nat) ≠ 5 by decide), up_ne _ _ (show (22 : Nat) ≠ 2 by decide), up_ne _ _ (show (22 : Nat) ≠ 5 by decide), up_ne _ _ (show (2 : Nat) ≠ 22 by decide), up_self, show (4 : Int32).toNatClampNeg = 4 by decide, c3 4 (by decide)]
        refine k _ (fun x x1 x2 x3 => by rw [up_ne _ _ x3, up_ne _ _ x1, up_ne _ _ x2]) (HS_f2 (I := va_up (va_up I 5 (va_up (I 5) p (r 3 p + 1))) 2 (va_up (I 2) p (giL r p w))) (HS_cs h ?_) (fun x hx => up_ne _ _ (by omega))) ⟨c1, c2, fun i hi => ?_⟩
        · rw [put_stS (by decide), put_stS (by decide)]
          have s1 := CS_set (I' := va_up I 5 (va_up (I 5) p (r 3 p + 1))) (k := 3) (p := p) (v := r 3 p + 1) hC (by decide) (by rw [if_pos (by decide)]; exact hp) (fun z => absurd z (by decide)) (up_self _ _ _) (fun x hx => up_ne _ _ hx)
          refine CS_set (k := 0) (p := p) s1 (by decide) (by rw [if_pos (by decide)]; exact hp) (fun _ => ?_) ?_ (fun x hx => up_ne _ _ hx)
          · obtain ⟨z1, z2⟩ := of_decide_eq_true (giL_ok (fit_0 hf hp) c).1
            exact ⟨z1, Int32.not_lt.mp z2⟩
          · show va_up (va_up I 5 (va_up (I 5) p (r 3 p + 1))) 2 _ 2 = va_up (va_up I 5 (va_up (I 5) p (r 3 p + 1)) 2) p _
            rw [up_self, up_ne _ _ (by decide)]
        · rw [up_self]
          by_cases e : i = 4
          · rw [e, up_self, up_self]
          · rw [up_ne _ _ e, up_ne _ _ e]
            exact c3 i hi
    · have b' := bad (fun q => c q.2)
      repeat' first | exact b' | split
      exact absurd (decide_eq_true ⟨‹_›, Int32.not_lt.mpr ‹_›⟩) c
theorem m_gift (h : MS T I R n l r) (hf : fitR n r) (hL : ∀ i, i < 5 → I 69 i = ld i) (k : ∀ I' : tI, (∀ x, x ≠ 55 → x ≠ 69 → I' x = I x) → MS T I' R n l (giS n r v w) → (∀ i, i < 5 → I' 69 i = giD n r v w ld i) → Q (some (.int (giZ n r v w))) (T, I', J, R)) : Ex X (d + 3) mX7_gift 0 [.ref 54, .int v, .int w] [] (T, I, J, R) Q := by
  have h8 := MS_8 h
  have hm := h.1
  have t0 := mt_54 hm
  unfold giZ giS giD giB at k
  have bad : ¬ (isR n v = true ∧ inB w 0 99 = true) → Ex X (d + 3) mX7_gift 18 [.ref 54, .int v, .int w] [] (T, I, J, R) Q := by
    intro c
    have nb : ¬ (isR n v && (inB w 0 99 && !(decide (r 3 v.toNatClampNeg = 9)))) = true := fun q => by
      rw [Bool.and_eq_true, Bool.and_eq_true] at q
      exact c ⟨q.1, q.2.1⟩
    rw [if_neg c, if_neg nb, if_neg nb] at k
    simp only [gX7_gift_18]
    exact k I (fun _ _ _ => rfl) h hL
  simp only [gX7_gift_0, t0, true_and]
  refine s_isOne h ?_
  simp only [Option.toList_some, List.cons_append, List.nil_append, gX7_gift_5, if10]
  cases g1 : isR n v with
  | false =>
    simp only [if_true]
    exact bad (fun c => absurd c.1 (by rw [g1]; simp))
  | true =>
    obtain ⟨p, hp, rfl⟩ := isR_t g1 h8
    have cp : (nI p).toNatClampNeg = p := nI_clamp (by omega)
    simp only [reduceCtorEq, if_false, gX7_gift_8]
    refine s_within ?_
    simp only [Option.toList_some, List.cons_append, List.nil_append, gX7_gift_15, ne_eq, if10]
    cases c : inB w 0 99 with
    | false =>
      simp only [not_true_eq_false, if_false]
      exact bad (fun q => absurd q.2 (by rw [c]; simp))
    | true =>
      rw [cp, if_pos (show isR n (nI p) = true ∧ inB w 0 99 = true from ⟨g1, c⟩)] at k
      have e3 : I 55 (24 + p) = r 3 p := by
        rw [← h.2.2.2.2.2.1, can_lt (by decide) hp]
        rfl
      have e0 : I 55 p = r 0 p := MS_lv h hp
      have i1 : rIn T 55 0 (nI (24 + p)) := rIn_at (mt_55 hm) (show 24 + p < 32 by omega) (by decide)
      have i2 : rIn T 55 0 (nI p) := rIn_at (mt_55 hm) (show p < 32 by omega) (by decide)
      have c24 : (nI (24 + p)).toNatClampNeg = 24 + p := nI_clamp (by omega)
      simp only [reduceCtorEq, not_false_eq_true, if_true, gX7_gift_20, t0, true_and, mr_1 hm, rf_some, z_24, i1, c24, e3, ne_eq]
      by_cases e9 : r 3 p = 9
      · have nb : ¬ (isR n (nI p) && (inB w 0 99 && !(decide (r 3 p = 9)))) = true := by
          rw [decide_eq_true e9]
          simp
        rw [if_pos e9, if_neg nb, if_neg nb] at k
        simp only [e9, not_true_eq_false, if_false, gX7_gift_34]
        exact k I (fun _ _ _ => rfl) h hL
      · have yb : (isR n (nI p) && (inB w 0 99 && !(decide (r 3 p = 9)))) = true := by
          rw [g1, c, decide_eq_false e9]
          rfl
        rw [if_neg e9, if_pos yb, if_pos yb] at k
        have i4 : rIn T 69 0 4 := rIn_at (k := 4) (mt_69 hm) (by decide) (by decide)
        have gl := giL_ok (r := r) (p := p) (fit_0 hf hp) c
        simp only [e9, not_false_eq_true, if_true, gX7_gift_37, t0, true_and, mr_1 hm, mr_22 hm, rf_some, z_24, i1, i2, i4, c24, cp, e3, e0, up_self, up_ne _ _ (show p ≠ 24 + p by omega), up_ne _ _ (show (69 : Nat) ≠ 55 by decide), up_ne _ _ (show (55 : Nat) ≠ 69 by decide), show (4 : Int32).toNatClampNeg = 4 by decide, hL 4 (by decide), ← gl.2]
        refine k _ (fun x x1 x2 => by rw [up_ne _ _ x2, up_ne _ _ x1, up_ne _ _ x1]) (MS_fr (I := va_up (va_up I 55 (va_up (I 55) (24 + p) (r 3 p + 1))) 55 (va_up (va_up (I 55) (24 + p) (r 3 p + 1)) p (giL r p w))) ?_ (fun x hx => up_ne _ _ (by omega))) (fun i hi => ?_)
        · rw [put_stS (by decide), put_stS (by decide)]
          have s1 := MS_set (I' := va_up I 55 (va_up (I 55) (24 + p) (r 3 p + 1))) (k := 3) (p := p) (v := r 3 p + 1) h (by decide) hp (fun z => absurd z (by decide)) (up_self _ _ _) (fun x hx => up_ne _ _ hx)
          refine MS_set (k := 0) (p := p) s1 (by decide) hp (fun _ => ?_) ?_ (fun x hx => up_ne _ _ hx)
          · obtain ⟨z1, z2⟩ := of_decide_eq_true gl.1
            exact ⟨z1, Int32.not_lt.mp z2⟩
          · rw [up_self, up_self, show 8 * 0 + p = p by omega]
        · rw [up_self]
          by_cases e : i = 4
          · rw [e, up_self, up_self]
          · rw [up_ne _ _ e, up_ne _ _ e]
            exact hL i hi
theorem j_gift : Jn (rX L0 xs) (d + 50) (d + 50) mX6_gift [.ref 0, .int v, .int w] mX7_gift [.ref 54, .int v, .int w] := by
  rintro T I J R ⟨ht1, ht2, b, b2, n, l, r, sh, ld, im, tp, ch, st, hb, hH, hC, hM, hA, hP⟩
  obtain ⟨p1, p2, p3, p4, p5, p6⟩ := hP
  have h8 := HS_8 hH
  refine ⟨giZ n r v w, c_gift (d := d + 47) hH p1 hC.2.1 (fun I1 f1 hH1 hL1 => ⟨rfl, rfl, ?_⟩)⟩
  refine m_gift (ld := ld) (d := d + 47) (MS_fr hM (fun x hx => f1 x (by omega) (by omega) (by omega))) p1 (fun i hi => by rw [f1 69 (by omega) (by omega) (by omega)]; exact hA.2.1 i hi) (fun I2 f2 hM2 hL2 => ⟨rfl, ?_⟩)
  have al : ∀ x, x ≠ 2 → x ≠ 5 → x ≠ 22 → x ≠ 55 → x ≠ 69 → I2 x = I x := fun x x1 x2 x3 x4 x5 => by rw [f2 x x4 x5, f1 x x1 x2 x3]
  have bb := hb.2
  have s54 : ∀ i, I2 54 i = I 54 i := fun i => congrFun (al 54 (by omega) (by omega) (by omega) (by omega) (by omega)) i
  refine Rel_mk ⟨ht1, ht2⟩ hb hC hA (HS_f2 hH1 (fun x hx => f2 x (by omega) (by omega))) hM2 (fun x hx => al x (by omega) (by omega) (by omega) (by omega) (by omega)) (CLd_f hL1 (f2 22 (by omega) (by omega))) (CCh_f hC.2.2.2.2.1 (fun x hx => al x (by omega) (by omega) (by omega) (by omega) (by omega))) (fun i hi => s54 i) (fun x hx => al x (by omega) (by omega) (by omega) (by omega) (by omega)) hL2 (MCh_f hA.2.2.2.2.1 (s54 _) (s54 _) (al _ (by omega) (by omega) (by omega) (by omega) (by omega))) ⟨?_, p2, p3, p4, p5, p6⟩
  unfold giS
  split
  · rename_i c
    unfold giB at c
    rw [Bool.and_eq_true, Bool.and_eq_true] at c
    obtain ⟨c1, c2, c3⟩ := c
    obtain ⟨q, hq, rfl⟩ := isR_t c1 h8
    rw [nI_clamp (show q < 2 ^ 31 by omega)] at c3 ⊢
    have n9 : ¬ r 3 q = 9 := by simpa using c3
    obtain ⟨G, hG, eG⟩ := inB_n (m := 9) (by decide) (fit_3 p1 hq)
    refine fitR_put (fitR_put p1 ?_) ?_
    · rw [fitB_j (by decide), eG, nI_1]
      have : G < 9 := Nat.lt_of_le_of_ne hG (fun z => n9 (by rw [eG, z]; rfl))
      exact decide_eq_true ⟨nI_pos (by omega), nI_nlt (a := 9) (by omega) (by decide)⟩
    · rw [fitB_j (by decide)]
      exact (giL_ok (fit_0 p1 hq) c2).1
  · exact p1
end D10
