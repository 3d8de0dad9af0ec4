/-! PURE: reaches joined -/
abbrev tRv : Type := Nat × (Nat → Nat → Int32)
def f3B (el : Nat → Int64) (p : Nat) : Bool := inB (el p).toInt32 0 99 && (inB (el (p + 1)).toInt32 1 99 && inB (el (p + 2)).toInt32 0 9)
def rcF (ln : Nat) (el : Nat → Int64) : Nat → Nat → Nat → tRv → Nat × tRv
  | 0, c, _, z => (c, z)
  | m + 1, c, p, z => if z.1 < 8 ∧ p + 3 ≤ ln ∧ f3B el p = true then rcF ln el m (c + 1) (p + 3) (z.1 + 1, lenS z.1 z.2 (el p).toInt32 (el (p + 1)).toInt32 (el (p + 2)).toInt32) else (c, z)
theorem rcF_ok {ln : Nat} {el : Nat → Int64} : ∀ (m c p : Nat) (z : tRv), z.1 ≤ 8 → fitR z.1 z.2 → (rcF ln el m c p z).1 ≤ c + m ∧ z.1 ≤ (rcF ln el m c p z).2.1 ∧ (rcF ln el m c p z).2.1 ≤ 8 ∧ fitR (rcF ln el m c p z).2.1 (rcF ln el m c p z).2.2
  | 0, c, p, z, h8, h => ⟨Nat.le_refl _, Nat.le_refl _, h8, h⟩
  | m + 1, c, p, z, h8, h => by
    rw [rcF]
    by_cases e : z.1 < 8 ∧ p + 3 ≤ ln ∧ f3B el p = true
    · rw [if_pos e]
      have e3 := e.2.2
      unfold f3B at e3
      rw [Bool.and_eq_true, Bool.and_eq_true] at e3
      obtain ⟨a, b, c', d⟩ := rcF_ok (ln := ln) (el := el) m (c + 1) (p + 3) (z.1 + 1, lenS z.1 z.2 (el p).toInt32 (el (p + 1)).toInt32 (el (p + 2)).toInt32) e.1 (fitR_len h e3.1 e3.2.1 e3.2.2)
      have b' : z.1 + 1 ≤ _ := b
      exact ⟨by omega, by omega, c', d⟩
    · rw [if_neg e]
      exact ⟨by show c ≤ c + (m + 1); omega, Nat.le_refl _, h8, h⟩
section D15
variable {X : tX} {T : tT} {I I' I1 I2 : tI} {J J' J1 J2 : tJ} {R R' : tR} {Q : tQ} {d b b2 n n' n0 L0 p s ln : Nat} {xs : Nat → Int32} {l : tL} {r r' q : Nat → Nat → Int32} {sh sh' : tSh} {ld ld' : Nat → Int32} {im : tIm} {tp : tTp} {ch ch' : tCh} {st : tSt} {el : Nat → Int64} {i w v x : Int32}
theorem CSh_f0 (h : CSh T I J R s (nI 0) ln el) : I (42 + 2 * s) 3 = nI ln ∧ ln ≤ 60 := by
  obtain ⟨k, hk, e, c0, c2, c3, cl, ce⟩ := CSh_row h (by decide +kernel)
  exact ⟨c3, cl⟩
theorem c_rcf (h : HS T I R b n l r) (hS : CSh T I J R s (nI 0) ln el) (k1 : ∀ p : Nat, x = nI p → n < 8 → p + 3 ≤ ln → f3B el p = true → ∀ I' : tI, (∀ x, x < 1 ∨ 5 < x → I' x = I x) → HS T I' R b (n + 1) l (lenS n r (el p).toInt32 (el (p + 1)).toInt32 (el (p + 2)).toInt32) → Q (some (.int 1)) (T, I', J, R)) (k0 : ¬ (n < 8 ∧ ∃ p : Nat, x = nI p ∧ p + 3 ≤ ln ∧ f3B el p = true) → Q (some (.int 0)) (T, I, J, R)) : Ex (rX L0 xs) (d + 3) mX6_reachComesFrom 0 [.ref 0, .ref (42 + 2 * s), .int x, rU, rU, rU] [] (T, I, J, R) Q := by
  have h8 := HS_8 h
  obtain ⟨h0, r0, r1, r8, hb, hb2, hv, hC⟩ := id h
  obtain ⟨e3, hl⟩ := CSh_f0 hS
  have t0 := hS.1
  have n8 : I 1 8 = nI n := hC.2.2.2.2.2.1
  simp only [gX6_reachComesFrom_0, h0, true_and, r0, rf_some, hC.2.1.1]
  refine p_isFull hC.2.1 n8 h8 ?_
  simp only [Option.toList_some, List.cons_append, List.nil_append, gX6_reachComesFrom_7, ne_eq]
  by_cases e : n = 8
  · have := k0 (fun z => absurd z.1 (by omega))
    simp only [e, if_true, show ¬ (1 : Int32) = 0 by decide, not_false_eq_true, gX6_reachComesFrom_19, true_or, true_and]
    exact this
  · simp only [e, if_false, not_true_eq_false, gX6_reachComesFrom_10, t0, true_and]
    refine c_hasPlaces t0 e3 hl ?_
    simp only [Option.toList_some, List.cons_append, List.nil_append, gX6_reachComesFrom_16, ne_eq, if10]
    cases g : hpS ln x 3 with
    | false =>
      have := k0 (fun z => by
        obtain ⟨-, p, rfl, hp, -⟩ := z
        refine absurd g ?_
        have : hpS ln (nI p) 3 = true := decide_eq_true ⟨by rw [nI_toInt (by omega)]; omega, by decide, by rw [nI_toInt (by omega), show (3 : Int32).toInt = 3 by decide]; omega⟩
        rw [this]
        simp)
      simp only [not_true_eq_false, if_false, gX6_reachComesFrom_19, true_or, true_and]
      exact this
    | true =>
      obtain ⟨p, m, rfl, em, hpm⟩ := hp_n g hl
      obtain rfl : m = 3 := ((nI_eq (by omega) (by omega)).mp (show nI 3 = nI m from em)).symm
      have n2 : nI p + 2 = nI (p + 2) := nI_add p 2
      simp only [reduceCtorEq, not_false_eq_true, if_true, gX6_reachComesFrom_21, t0, true_and]
      refine c_small hS (by decide) (show p < ln by omega) ?_
      simp only [Option.toList_some, List.cons_append, List.nil_append, gX6_reachComesFrom_26, t0, true_and, nI_1]
      refine c_small hS (by decide) (show p + 1 < ln by omega) ?_
      simp only [Option.toList_some, List.cons_append, List.nil_append, gX6_reachComesFrom_34, t0, true_and, n2]
      refine c_small hS (by decide) (show p + 2 < ln by omega) ?_
      simp only [Option.toList_some, List.cons_append, List.nil_append, gX6_reachComesFrom_43]
      have k0' : f3B el p = false → Q (some (.int 0)) (T, I, J, R) := fun z => k0 (fun y => by
        obtain ⟨-, p', e', hp', f'⟩ := y
        obtain rfl : p = p' := (nI_eq (by omega) (by omega)).mp e'
        rw [z] at f'
        exact absurd f' (by simp))
      refine p_fitsIn ?_
      rw [show fitB 0 (el p).toInt32 = inB (el p).toInt32 0 99 from fitB_j (j := 0) (by decide) _]
      simp only [Option.toList_some, List.cons_append, List.nil_append, gX6_reachComesFrom_50, if10]
      cases g1 : inB (el p).toInt32 0 99 with
      | false =>
        simp only [if_true, gX6_reachComesFrom_71, true_or, true_and]
        exact k0' (by unfold f3B; rw [g1]; rfl)
      | true =>
        simp only [reduceCtorEq, if_false, gX6_reachComesFrom_53]
        refine p_fitsIn ?_
        rw [show fitB 1 (el (p + 1)).toInt32 = inB (el (p + 1)).toInt32 1 99 from fitB_j (j := 1) (by decide) _]
        simp only [Option.toList_some, List.cons_append, List.nil_append, gX6_reachComesFrom_59, if10]
        cases g2 : inB (el (p + 1)).toInt32 1 99 with
        | false =>
          simp only [if_true, gX6_reachComesFrom_71, true_or, true_and]
          exact k0' (by unfold f3B; rw [g2, Bool.false_and, Bool.and_false])
        | true =>
          simp only [reduceCtorEq, if_false, gX6_reachComesFrom_62]
          refine p_fitsIn ?_
          rw [show fitB 3 (el (p + 2)).toInt32 = inB (el (p + 2)).toInt32 0 9 from fitB_j (j := 3) (by decide) _]
          simp only [Option.toList_some, List.cons_append, List.nil_append, gX6_reachComesFrom_68, ne_eq, if10]
          cases g3 : inB (el (p + 2)).toInt32 0 9 with
          | false =>
            simp only [not_true_eq_false, if_false, gX6_reachComesFrom_71, true_or, true_and]
            exact k0' (by unfold f3B; rw [g3, Bool.and_false, Bool.and_false])
          | true =>
            obtain ⟨y1, y2⟩ := of_decide_eq_true g1
            simp only [reduceCtorEq, not_false_eq_true, if_true, gX6_reachComesFrom_73, h0, true_and, r0, rf_some, hC.2.1.1]
            refine c_len h (by omega) ⟨y1, Int32.not_lt.mp y2⟩ (fun I1 f1 hH1 => ?_)
            simp only [Option.toList_some, List.cons_append, List.nil_append, gX6_reachComesFrom_85, or_true, true_and]
            exact k1 p rfl (by omega) hpm (by unfold f3B; rw [g1, g2, g3]; rfl) I1 f1 hH1
def rsR (n : Nat) (r : Nat → Nat → Int32) (sh : tSh) (s i w : Int32) : Nat × tRv := if inB i 0 60 = true then rcF (sh.2.1 s.toNatClampNeg) (sh.2.2 s.toNatClampNeg) w.toNatClampNeg 0 i.toNatClampNeg (n, r) else (0, (n, r))
def rsZ (n : Nat) (r : Nat → Nat → Int32) (sh : tSh) (s i w : Int32) : Int32 := if inB s 0 5 = true ∧ inB w 1 8 = true then (if sh.1 s.toNatClampNeg = -1 then 0 else if sh.1 s.toNatClampNeg = 0 then nI (rsR n r sh s i w).1 else -12) else -1
def rsV (n : Nat) (r : Nat → Nat → Int32) (sh : tSh) (s i w : Int32) : tRv := if (inB s 0 5 = true ∧ inB w 1 8 = true) ∧ sh.1 s.toNatClampNeg = 0 then (rsR n r sh s i w).2 else (n, r)
theorem rsV_n {sh : tSh} {s : Int32} (h8 : n ≤ 8) (hf : fitR n r) : n ≤ (rsV n r sh s i w).1 ∧ (rsV n r sh s i w).1 ≤ 8 ∧ fitR (rsV n r sh s i w).1 (rsV n r sh s i w).2 := by
  unfold rsV
  split
  · unfold rsR
    split
    · exact (rcF_ok _ _ _ (n, r) h8 hf).2
    · exact ⟨Nat.le_refl n, h8, hf⟩
  · exact ⟨Nat.le_refl n, h8, hf⟩
set_option maxHeartbeats 2000000 in
theorem c_reaches {s : Int32} (h : HS T I R b n l r) (hf : fitR n r) (hS : HSh T R ∧ ∀ s, s < 6 → CSh T I J R s (sh.1 s) (sh.2.1 s) (sh.2.2 s)) (k : ∀ I' : tI, (∀ x, x < 1 ∨ 5 < x → I' x = I x) → HS T I' R b (rsV n r sh s i w).1 l (rsV n r sh s i w).2 → Q (some (.int (rsZ n r sh s i w))) (T, I', J, R)) : Ex (rX L0 xs) (d + 6) mX6_reaches 0 [.ref 0, .int s, .int i, .int w, rU, rU] [] (T, I, J, R) Q := by
  have h8 := HS_8 h
  obtain ⟨h0, r0, r1, r8, hb, hb2, hv, hC⟩ := id h
  obtain ⟨⟨t41, r11, r41⟩, hSa⟩ := hS
  have no : ¬ ((inB s 0 5 = true ∧ inB w 1 8 = true) ∧ sh.1 s.toNatClampNeg = 0) → Q (some (.int (rsZ n r sh s i w))) (T, I, J, R) := by
    intro c
    unfold rsV at k
    rw [if_neg c] at k
    exact k I (fun _ _ => rfl) h
  unfold rsZ at no k
  have bad : ¬ (inB s 0 5 = true ∧ inB w 1 8 = true) → Ex (rX L0 xs) (d + 6) mX6_reaches 18 [.ref 0, .int s, .int i, .int w, rU, rU] [] (T, I, J, R) Q := by
    intro c
    have := no (fun z => c z.1)
    rw [if_neg c] at this
    simp only [gX6_reaches_18]
    exact this
  simp only [gX6_reaches_0]
  refine c_isShelf ?_
  simp only [Option.toList_some, List.cons_append, List.nil_append, gX6_reaches_4, if10]
  cases g1 : inB s 0 5 with
  | false =>
    simp only [if_true]
    exact bad (fun c => absurd c.1 (by rw [g1]; simp))
  | true =>
  obtain ⟨a, ha, rfl⟩ := inB_5 g1
  have ca : (nI a).toNatClampNeg = a := nI_clamp (by omega)
  have hSi := hSa a ha
  have e0 := hSi.1
  simp only [reduceCtorEq, if_false, gX6_reaches_7, gX6_reaches_12]
  by_cases g2 : inB w 1 8 = true
  rotate_left
  · have b' := bad (fun c => g2 c.2)
    repeat' first | exact b' | split
    exact absurd (decide_eq_true ⟨‹_›, Int32.not_lt.mpr ‹_›⟩) g2
  obtain ⟨w1, w2⟩ := of_decide_eq_true g2
  have w0 : ¬ w < 0 := z_nlt0 (j := 1) (by decide) w1
  rw [if_pos ⟨g1, g2⟩, ca] at no k
  simp only [w1, if_false, Int32.not_lt.mp w2, if_true, gX6_reaches_20, h0, true_and, r11, rf_some, rIn_at t41 ha (by decide), ca, r41 a ha, e0]
  refine c_isBare hSi ?_
  simp only [Option.toList_some, List.cons_append, List.nil_append, gX6_reaches_33]
  by_cases e1 : sh.1 a = -1
  · have := no (fun c => absurd c.2 (by rw [e1]; decide))
    rw [if_pos e1] at this
    simp only [e1, if_true, show ¬ (1 : Int32) = 0 by decide, if_false, gX6_reaches_36]
    exact this
  simp only [e1, if_false, if_true, gX6_reaches_38, e0, true_and]
  rw [if_neg e1] at no k
  refine c_isBytes hSi ?_
  simp only [Option.toList_some, List.cons_append, List.nil_append, gX6_reaches_43, ne_eq]
  by_cases e2 : sh.1 a = 0
  rotate_left
  · have := no (fun c => e2 c.2)
    rw [if_neg e2] at this
    simp only [e2, if_false, not_true_eq_false, gX6_reaches_46]
    exact this
  rw [if_pos e2] at k
  unfold rsV at k
  rw [ca, if_pos ⟨⟨g1, g2⟩, e2⟩] at k
  obtain ⟨N, hN, rfl⟩ := nI_of2 (x := w) (M := 8) (n := 8) (by decide) w0 (Int32.not_lt.mp w2)
  have cN : (nI N).toNatClampNeg = N := nI_clamp (by omega)
  have hN1 : 1 ≤ N := by
    rw [show (1 : Int32) = nI 1 from rfl, nI_ltI (by omega) (by omega)] at w1
    omega
  unfold rsR at k
  rw [ca, cN] at k
  rw [e2] at hSi
  have hl := (CSh_f0 (s := a) (show CSh T I J R a (nI 0) (sh.2.1 a) (sh.2.2 a) from hSi)).2
  simp only [e2, if_true, show ¬ (1 : Int32) = 0 by decide, not_false_eq_true, gX6_reaches_49]
  by_cases gi : inB i 0 60 = true
  · rw [if_pos gi] at k
    obtain ⟨p0, hp0, rfl⟩ := inB_n (m := 60) (by decide) gi
    rw [nI_clamp (show p0 < 2 ^ 31 by omega)] at k
    have loop : ∀ (m c : Nat) (n1 : Nat) (r1 : Nat → Nat → Int32) (I1 : tI), c + m = N → (∀ x, x < 1 ∨ 5 < x → I1 x = I x) → HS T I1 R b n1 l r1 → (∀ I' : tI, (∀ x, x < 1 ∨ 5 < x → I' x = I x) → HS T I' R b (rcF (sh.2.1 a) (sh.2.2 a) m c (p0 + 3 * c) (n1, r1)).2.1 l (rcF (sh.2.1 a) (sh.2.2 a) m c (p0 + 3 * c) (n1, r1)).2.2 → Q (some (.int (nI (rcF (sh.2.1 a) (sh.2.2 a) m c (p0 + 3 * c) (n1, r1)).1))) (T, I', J, R)) → Ex (rX L0 xs) (d + 6) mX6_reaches 52 [.ref 0, .int (nI a), .int (nI p0), .int (nI N), .ref (42 + 2 * a), .int (nI c)] [] (T, I1, J, R) Q := by
      intro m
      induction m with
      | zero =>
        intro c n1 r1 I1 hc f1 hH1 k
        simp only [gX6_reaches_52, nI_le (show N ≤ c by omega) (by omega), if_true, gX6_reaches_79]
        exact k I1 f1 hH1
      | succ m ih =>
        intro c n1 r1 I1 hc f1 hH1 k
        rw [rcF] at k
        have e3c : nI p0 + 3 * nI c = nI (p0 + 3 * c) := by rw [show (3 : Int32) * nI c = nI (3 * c) from z_mul 3 c, nI_add]
        simp only [gX6_reaches_52, nI_ge (show c < N by omega) (by omega), if_false]
        simp only [gX6_reaches_58, h0, true_and, e3c]
        have hS1 : CSh T I1 J R a (nI 0) (sh.2.1 a) (sh.2.2 a) := CSh_f2 hSi (f1 _ (by omega)) rfl
        refine c_rcf hH1 hS1 (fun p e1 y1 y2 y3 I2 f2 hH2 => ?_) (fun z => ?_)
        · obtain rfl : p0 + 3 * c = p := by
            refine (nI_eq (by omega) ?_).mp e1
            omega
          rw [if_pos ⟨y1, y2, y3⟩] at k
          simp only [Option.toList_some, List.cons_append, List.nil_append, gX6_reaches_70, show ¬ (1 : Int32) = 0 by decide, if_false]
          simp only [gX6_reaches_73, nI_1]
          rw [show p0 + 3 * c + 3 = p0 + 3 * (c + 1) by omega] at k
          exact ih (c + 1) (n1 + 1) _ I2 (by omega) (fun x hx => by rw [f2 x hx, f1 x hx]) hH2 k
        · rw [if_neg (fun y => z ⟨y.1, _, rfl, y.2.1, y.2.2⟩)] at k
          simp only [Option.toList_some, List.cons_append, List.nil_append, gX6_reaches_70, if_true, gX6_reaches_79]
          exact k I1 f1 hH1
    exact loop N 0 n r I (by omega) (fun _ _ => rfl) h k
  · rw [if_neg gi] at k
    have e30 : i + 3 * 0 = i := by rw [Int32.mul_zero, Int32.add_zero]
    simp only [gX6_reaches_52, show ¬ nI N ≤ 0 from nI_nle (by omega) (by omega), if_false]
    simp only [gX6_reaches_58, h0, true_and, e30]
    refine c_rcf h hSi (fun p e1 y1 y2 y3 I2 f2 hH2 => ?_) (fun z => ?_)
    · refine absurd ?_ gi
      rw [e1]
      exact decide_eq_true ⟨nI_pos (by omega), nI_nlt (a := 60) (by omega) (by decide)⟩
    · simp only [Option.toList_some, List.cons_append, List.nil_append, gX6_reaches_70, if_true, gX6_reaches_79]
      exact k I (fun _ _ => rfl) h
set_option maxHeartbeats 2000000 in
theorem m_reaches {s : Int32} (h : MS T I R n l r) (hf : fitR n r) (hS : ∀ s, s < 6 → MSh I J s (sh.1 s) (sh.2.1 s) (sh.2.2 s)) (k : ∀ I' : tI, (∀ x, x ≠ 54 → x ≠ 55 → I' x = I x) → (∀ y, y ≠ 0 → I' 54 y = I 54 y) → MS T I' R (rsV n r sh s i w).1 l (rsV n r sh s i w).2 → Q (some (.int (rsZ n r sh s i w))) (T, I', J, R)) : Ex X (d + 6) mX7_reaches 0 [.ref 54, .int s, .int i, .int w, rU, rU, rU, rU, rU] [] (T, I, J, R) Q := by
  have h8 := MS_8 h
  have hm := h.1
  have t0 := mt_54 hm
  have no : ¬ ((inB s 0 5 = true ∧ inB w 1 8 = true) ∧ sh.1 s.toNatClampNeg = 0) → Q (some (.int (rsZ n r sh s i w))) (T, I, J, R) := by
    intro c
    unfold rsV at k
    rw [if_neg c] at k
    exact k I (fun _ _ _ => rfl) (fun _ _ => rfl) h
  unfold rsZ at no k
  have bad : ¬ (inB s 0 5 = true ∧ inB w 1 8 = true) → Ex X (d + 6) mX7_reaches 17 [.ref 54, .int s, .int i, .int w, rU, rU, rU, rU, rU] [] (T, I, J, R) Q := by
    intro c
    have := no (fun z => c z.1)
    rw [if_neg c] at this
    simp only [gX7_reaches_17]
    exact this
  simp only [gX7_reaches_0]
  refine m_isShelf ?_
  simp only [Option.toList_some, List.cons_append, List.nil_append, gX7_reaches_4, if10]
  cases g1 : inB s 0 5 with
  | false =>
    simp only [if_true]
    exact bad (fun c => absurd c.1 (by rw [g1]; simp))
  | true =>
  obtain ⟨a, ha, rfl⟩ := inB_5 g1
  have ca : (nI a).toNatClampNeg = a := nI_clamp (by omega)
  have hSi := hS a ha
  obtain ⟨a0, a1, a2, a3⟩ := id hSi
  have i75 : rIn T 75 0 (nI a) := rIn_at (mt_75 hm) ha (by decide)
  have i76 : rIn T 76 0 (nI a) := rIn_at (mt_76 hm) ha (by decide)
  simp only [reduceCtorEq, if_false, gX7_reaches_7]
  refine s_within ?_
  simp only [Option.toList_some, List.cons_append, List.nil_append, gX7_reaches_14, ne_eq, if10]
  cases g2 : inB w 1 8 with
  | false =>
    simp only [not_true_eq_false, if_false]
    exact bad (fun c => absurd c.2 (by rw [g2]; simp))
  | true =>
  obtain ⟨w1, w2⟩ := of_decide_eq_true g2
  have w0 : ¬ w < 0 := z_nlt0 (j := 1) (by decide) w1
  rw [if_pos ⟨g1, g2⟩, ca] at no k
  simp only [reduceCtorEq, not_false_eq_true, if_true, gX7_reaches_19, t0, true_and, mr_34 hm, rf_some, i75, ca, a0, ne_eq]
  by_cases e1 : sh.1 a = -1
  · have := no (fun c => absurd c.2 (by rw [e1]; decide))
    rw [if_pos e1] at this
    simp only [e1, not_true_eq_false, if_false, gX7_reaches_29]
    exact this
  rw [if_neg e1] at no k
  simp only [e1, not_false_eq_true, if_true, gX7_reaches_31, t0, true_and, mr_34 hm, rf_some, i75, ca, a0]
  by_cases e2 : sh.1 a = 0
  rotate_left
  · have := no (fun c => e2 c.2)
    rw [if_neg e2] at this
    simp only [e2, if_false, gX7_reaches_40]
    exact this
  rw [if_pos e2] at k
  unfold rsV at k
  rw [ca, if_pos ⟨⟨g1, g2⟩, e2⟩] at k
  obtain ⟨N, hN, rfl⟩ := nI_of2 (x := w) (M := 8) (n := 8) (by decide) w0 (Int32.not_lt.mp w2)
  have cN : (nI N).toNatClampNeg = N := nI_clamp (by omega)
  have hN1 : 1 ≤ N := by
    rw [show (1 : Int32) = nI 1 from rfl, nI_ltI (by omega) (by omega)] at w1
    omega
  unfold rsR at k
  rw [ca, cN] at k
  have z0 : (0 : Int64).toInt = 0 := by decide
  have la : (nI (sh.2.1 a)).toInt64.toInt = (sh.2.1 a : Int) := by rw [Int32.toInt_toInt64, nI_toInt (by omega)]
  simp only [e2, if_true, gX7_reaches_43]
  have e3 : (3 : Int64) = lN 3 := by decide
  by_cases gi : inB i 0 60 = true
  · rw [if_pos gi] at k
    obtain ⟨p0, hp0, rfl⟩ := inB_n (m := 60) (by decide) gi
    rw [nI_clamp (show p0 < 2 ^ 31 by omega)] at k
    have loop : ∀ (m c : Nat) (n1 : Nat) (r1 : Nat → Nat → Int32) (I1 : tI) (v6 v8 : Value), c + m = N → (∀ x, x ≠ 54 → x ≠ 55 → I1 x = I x) → (∀ y, y ≠ 0 → I1 54 y = I 54 y) → MS T I1 R n1 l r1 → (∀ I' : tI, (∀ x, x ≠ 54 → x ≠ 55 → I' x = I x) → (∀ y, y ≠ 0 → I' 54 y = I 54 y) → MS T I' R (rcF (sh.2.1 a) (sh.2.2 a) m c (p0 + 3 * c) (n1, r1)).2.1 l (rcF (sh.2.1 a) (sh.2.2 a) m c (p0 + 3 * c) (n1, r1)).2.2 → Q (some (.int (nI (rcF (sh.2.1 a) (sh.2.2 a) m c (p0 + 3 * c) (n1, r1)).1))) (T, I', J, R)) → Ex X (d + 6) mX7_reaches 49 [.ref 54, .int (nI a), .int (nI p0), .int (nI N), .int (nI c), .int (nI c), v6, rU, v8] [] (T, I1, J, R) Q := by
      intro m
      induction m with
      | zero =>
        intro c n1 r1 I1 v6 v8 hc f1 f2 hM1 k
        simp only [gX7_reaches_49, nI_le (show N ≤ c by omega) (by omega), if_true, gX7_reaches_202]
        exact k I1 f1 f2 hM1
      | succ m ih =>
        intro c n1 r1 I1 v6 v8 hc f1 f2 hM1 k
        rw [rcF] at k
        have hS1 : MSh I1 J a (sh.1 a) (sh.2.1 a) (sh.2.2 a) := MSh_f hSi (f1 75 (by decide) (by decide)) (f1 76 (by decide) (by decide)) rfl
        have n18 := MS_8 hM1
        have en : I1 54 0 = nI n1 := hM1.2.2.1
        have a1' : I1 76 a = nI (sh.2.1 a) := hS1.2.1
        have ef : (nI p0).toInt64 + 3 * (nI c).toInt64 = lN (p0 + 3 * c) := by rw [nI_l (by omega), nI_l (by omega), e3, lN_mul, lN_add]
        have ef3 : lN (p0 + 3 * c) + 3 = lN (p0 + 3 * c + 3) := lN_add _ 3
        have n0 : ¬ lg_cmp (lN (p0 + 3 * c)) 0 < 0 := by
          rw [lg_l, lN_toInt (by omega), z0]
          omega
        have np : (0 < lg_cmp (lN (p0 + 3 * c + 3)) (nI (sh.2.1 a)).toInt64) ↔ sh.2.1 a < p0 + 3 * c + 3 := by
          rw [lg_p, la, lN_toInt (by omega)]
          omega
        have ret : ¬ (n1 < 8 ∧ p0 + 3 * c + 3 ≤ sh.2.1 a ∧ f3B (sh.2.2 a) (p0 + 3 * c) = true) → Q (some (.int (nI c))) (T, I1, J, R) := by
          intro z
          rw [if_neg z] at k
          exact k I1 f1 f2 hM1
        simp only [gX7_reaches_49, nI_ge (show c < N by omega) (by omega), if_false]
        simp only [gX7_reaches_55, ef, n0, if_false, gX7_reaches_74, ef3, t0, true_and, mr_35 hm, rf_some, i76, ca, a1', np]
        by_cases d1 : sh.2.1 a < p0 + 3 * c + 3
        · simp only [d1, if_true, gX7_reaches_100]
          exact ret (fun z => by omega)
        simp only [d1, if_false, gX7_reaches_91, t0, true_and, en, ne_eq]
        by_cases d2 : n1 = 8
        · simp only [d2, show nI 8 = 8 by decide, not_true_eq_false, if_false, gX7_reaches_100]
          exact ret (fun z => by omega)
        have ne8 : ¬ nI n1 = 8 := fun z => d2 ((nI_eq (by omega) (by decide)).mp (show nI n1 = nI 8 from z))
        generalize hP : p0 + 3 * c = P at k d1 ret ef ef3 n0 np
        have n2 : nI P + 2 = nI (P + 2) := nI_add P 2
        simp only [ne8, not_false_eq_true, if_true, gX7_reaches_103, lN_i, t0, true_and]
        refine m_toldAt hm hS1 ha (show P < sh.2.1 a by omega) ?_
        simp only [Option.toList_some, List.cons_append, List.nil_append, gX7_reaches_115]
        refine s_within ?_
        simp only [Option.toList_some, List.cons_append, List.nil_append, gX7_reaches_121, if10]
        cases g1 : inB (sh.2.2 a P).toInt32 0 99 with
        | false =>
          simp only [if_true, gX7_reaches_160]
          exact ret (fun z => absurd z.2.2 (by unfold f3B; rw [g1]; simp))
        | true =>
        simp only [reduceCtorEq, if_false, gX7_reaches_124, t0, true_and, nI_1]
        refine m_toldAt hm hS1 ha (show P + 1 < sh.2.1 a by omega) ?_
        simp only [Option.toList_some, List.cons_append, List.nil_append, gX7_reaches_133]
        refine s_within ?_
        simp only [Option.toList_some, List.cons_append, List.nil_append, gX7_reaches_139, if10]
        cases g2 : inB (sh.2.2 a (P + 1)).toInt32 1 99 with
        | false =>
          simp only [if_true, gX7_reaches_160]
          exact ret (fun z => absurd z.2.2 (by unfold f3B; rw [g2]; simp))
        | true =>
        simp only [reduceCtorEq, if_false, gX7_reaches_142, t0, true_and, n2]
        refine m_toldAt hm hS1 ha (show P + 2 < sh.2.1 a by omega) ?_
        simp only [Option.toList_some, List.cons_append, List.nil_append, gX7_reaches_151]
        refine s_within ?_
        simp only [Option.toList_some, List.cons_append, List.nil_append, gX7_reaches_157, ne_eq, if10]
        cases g3 : inB (sh.2.2 a (P + 2)).toInt32 0 9 with
        | false =>
          simp only [not_true_eq_false, if_false, gX7_reaches_160]
          exact ret (fun z => absurd z.2.2 (by unfold f3B; rw [g3]; simp))
        | true =>
        have f3 : f3B (sh.2.2 a) P = true := by unfold f3B; rw [g1, g2, g3]; rfl
        rw [if_pos ⟨by show n1 < 8; omega, by omega, f3⟩] at k
        obtain ⟨y1, y2⟩ := of_decide_eq_true g1
        simp only [reduceCtorEq, not_false_eq_true, if_true, gX7_reaches_163, t0, true_and]
        refine m_toldAt hm hS1 ha (show P < sh.2.1 a by omega) ?_
        simp only [Option.toList_some, List.cons_append, List.nil_append, gX7_reaches_171, t0, true_and, nI_1]
        refine m_toldAt hm hS1 ha (show P + 1 < sh.2.1 a by omega) ?_
        simp only [Option.toList_some, List.cons_append, List.nil_append, gX7_reaches_180, t0, true_and, n2]
        refine m_toldAt hm hS1 ha (show P + 2 < sh.2.1 a by omega) ?_
        simp only [Option.toList_some, List.cons_append, List.nil_append, gX7_reaches_189, t0, true_and]
        refine m_newOne hM1 (by omega) ⟨y1, Int32.not_lt.mp y2⟩ (fun I2 b1 b2 hM2 => ?_)
        simp only [Option.toList_some, List.cons_append, List.nil_append]
        simp only [gX7_reaches_192, nI_1]
        rw [← hP, show p0 + 3 * c + 3 = p0 + 3 * (c + 1) by omega] at k
        rw [← hP] at hM2
        exact ih (c + 1) (n1 + 1) _ I2 _ _ (by omega) (fun x x1 x2 => by rw [b1 x x1 x2, f1 x x1 x2]) (fun y hy => by rw [b2 y hy, f2 y hy]) hM2 k
    exact loop N 0 n r I _ _ (by omega) (fun _ _ _ => rfl) (fun _ _ => rfl) h k
  · rw [if_neg gi] at k
    have kk := k I (fun _ _ _ => rfl) (fun _ _ => rfl) h
    have ez : i.toInt64 + 3 * (0 : Int32).toInt64 = i.toInt64 := by rw [show (0 : Int32).toInt64 = 0 by decide, Int64.mul_zero, Int64.add_zero]
    have e30 : i.toInt64 + 3 = i.toInt64 + (3 : Int32).toInt64 := by rw [show (3 : Int32).toInt64 = 3 by decide]
    have nl : (lg_cmp i.toInt64 0 < 0) ↔ i.toInt < 0 := by rw [lg_l, Int32.toInt_toInt64, z0]
    have np : (0 < lg_cmp (i.toInt64 + 3) (nI (sh.2.1 a)).toInt64) ↔ (sh.2.1 a : Int) < i.toInt + 3 := by
      rw [lg_p, e30, z_ladd, la, show (3 : Int32).toInt = 3 by decide]
    simp only [gX7_reaches_49, show ¬ nI N ≤ 0 from nI_nle (by omega) (by omega), if_false]
    simp only [gX7_reaches_55, ez, nl]
    by_cases d1 : i.toInt < 0
    · simp only [d1, if_true, gX7_reaches_100]
      exact kk
    · simp only [d1, if_false, gX7_reaches_74, t0, true_and, mr_35 hm, rf_some, i76, ca, a1, np]
      have d2 : (sh.2.1 a : Int) < i.toInt + 3 := by
        have g := of_decide_eq_false (by simpa using gi : inB i 0 60 = false)
        rw [Int32.lt_iff_toInt_lt, Int32.lt_iff_toInt_lt, show (0 : Int32).toInt = 0 by decide, show (60 : Int32).toInt = 60 by decide] at g
        omega
      simp only [d2, if_true, gX7_reaches_100]
      exact kk
theorem j_reaches {s : Int32} : Jn (rX L0 xs) (d + 50) (d + 50) mX6_reaches [.ref 0, .int s, .int i, .int w, rU, rU] mX7_reaches [.ref 54, .int s, .int i, .int w, rU, rU, rU, rU, rU] := by
  rintro T I J R ⟨ht1, ht2, b, b2, n, l, r, sh, ld, im, tp, ch, st, hb, hH, hC, hM, hA, hP⟩
  obtain ⟨p1, p2, p3, p4, p5, p6⟩ := hP
  have h8 := HS_8 hH
  have bb := hb.2
  refine ⟨rsZ n r sh s i w, c_reaches (d := d + 44) hH p1 hC.1 (fun I1 f1 hH1 => ⟨rfl, rfl, ?_⟩)⟩
  refine m_reaches (d := d + 44) (MS_fr hM (fun x hx => f1 x (by omega))) p1 (fun s hs => MSh_f (hA.1 s hs) (f1 75 (by omega)) (f1 76 (by omega)) rfl) (fun I2 e1 e2 hM2 => ⟨rfl, ?_⟩)
  obtain ⟨q1, q2, q3⟩ := rsV_n (i := i) (w := w) (sh := sh) (s := s) h8 p1
  have al : ∀ x, (x < 1 ∨ 5 < x) → x ≠ 54 → x ≠ 55 → I2 x = I x := fun x x1 x2 x3 => by rw [e1 x x2 x3, f1 x x1]
  have sl : ∀ y, y ≠ 0 → I2 54 y = I 54 y := fun y hy => by rw [e2 y hy, f1 54 (by omega)]
  exact Rel_mk ⟨ht1, ht2⟩ hb hC hA (HS_f2 hH1 (fun x hx => e1 x (by omega) (by omega))) hM2 (fun x hx => al x (by omega) (by omega) (by omega)) (CLd_f hC.2.1 (al _ (by omega) (by omega) (by omega))) (CCh_f hC.2.2.2.2.1 (fun x hx => al x (by omega) (by omega) (by omega))) (fun y hy => sl y (by omega)) (fun x hx => al x (by omega) (by omega) (by omega)) (fun y hy => by rw [al 69 (by omega) (by omega) (by omega)]; exact hA.2.1 y hy) (MCh_f hA.2.2.2.2.1 (sl _ (by omega)) (sl _ (by omega)) (al _ (by omega) (by omega) (by omega))) ⟨q3, okIm_mono q1 p2, okCh_mono q1 p3, p4, p5, p6⟩
end D15
