/-! PURE: byTurns, on both sides -/
def btP (n : Nat) (ab nt w : Int32) : Prop := (¬ ab < 0 ∧ ¬ nt < 0 ∧ inB w 0 1 = true) ∧ isR n (ab / 10) = true ∧ isR n (ab - ab / 10 * 10) = true ∧ ¬ ab / 10 = ab - ab / 10 * 10 ∧ inB (nt / 100) 1 5 = true ∧ ¬ 20 < nt - nt / 100 * 100
def btV (w c2 c0 c1 : Int32) : Int32 := if w = 0 then (if c1 ≤ (if c0 ≤ c2 then c2 else c0) then (if c0 ≤ c2 then c2 else c0) else c1) else (if c1 ≤ (if c0 ≤ c2 then c2 else c0) then (if c0 ≤ c2 then 2 else 0) else 1)
def btF (n : Nat) (l : tL) (r : Nat → Nat → Int32) (A B D N : Nat) (w : Int32) : Int32 := btV w (plS l n r A B D (N - 1) false (r 0 A) (r 0 B)) (plS l n r A B D (N - 1) false (hdS (r 0 A) 0) (r 0 B)) (plS l n r A B D (N - 1) false (hdS (r 0 A) 1) (r 0 B))
def byTurnsS (n : Nat) (l : tL) (r : Nat → Nat → Int32) (ab nt w : Int32) : Int32 :=
  if (¬ ab < 0 ∧ ¬ nt < 0 ∧ inB w 0 1 = true) ∧ isR n (ab / 10) = true ∧ isR n (ab - ab / 10 * 10) = true ∧ ¬ ab / 10 = ab - ab / 10 * 10 ∧ inB (nt / 100) 1 5 = true ∧ ¬ 20 < nt - nt / 100 * 100 then btF n l r (ab / 10).toNatClampNeg (ab - ab / 10 * 10).toNatClampNeg (nt - nt / 100 * 100).toNatClampNeg (nt / 100).toNatClampNeg w else -2000000000
theorem bt_neg {n : Nat} {l : tL} {r : Nat → Nat → Int32} {ab nt w : Int32} (c : ¬ btP n ab nt w) : byTurnsS n l r ab nt w = -2000000000 := if_neg c
theorem bt_pos {n : Nat} {l : tL} {r : Nat → Nat → Int32} {ab nt w : Int32} (c : btP n ab nt w) : byTurnsS n l r ab nt w = btF n l r (ab / 10).toNatClampNeg (ab - ab / 10 * 10).toNatClampNeg (nt - nt / 100 * 100).toNatClampNeg (nt / 100).toNatClampNeg w := if_pos c
theorem bt_get {n : Nat} {ab nt w : Int32} (h8 : n ≤ 8) (c : btP n ab nt w) : ∃ A B D N : Nat, A < n ∧ B < n ∧ A ≠ B ∧ D ≤ 20 ∧ 1 ≤ N ∧ N ≤ 5 ∧ ab / 10 = nI A ∧ ab - ab / 10 * 10 = nI B ∧ nt - nt / 100 * 100 = nI D ∧ nt / 100 = nI N := by
  obtain ⟨⟨a0, n0, w0⟩, gA, gB, gn, gN, gD⟩ := c
  obtain ⟨A, hA, eA⟩ := isR_t gA h8
  obtain ⟨B, hB, eB⟩ := isR_t gB h8
  obtain ⟨K, hK, eK⟩ := nI_of n0
  obtain ⟨N, hN1, hN, eN⟩ := inB_N (a := 1) (b := 5) gN (by decide) (by decide)
  have eD : nt - nt / 100 * 100 = nI (K % 100) := by rw [eK]; exact z_mod (b := 100) hK (by decide)
  refine ⟨A, B, K % 100, N, hA, hB, fun z => gn (by rw [eB, eA, z]), ?_, hN1, hN, eA, eB, eD, eN⟩
  rw [eD] at gD
  have := mt (nI_lt (a := 20) (b := K % 100) · (by omega)) gD
  omega
section BY
variable {X : tX} {T : tT} {I I' : tI} {J : tJ} {R : tR} {Q : tQ} {d a b c p n t D A B : Nat} {σ : rS} {l : tL} {r q : Nat → Nat → Int32}
theorem c_byTurns {ab nt w : Int32} (h : HS T I R b n l r) (k : ∀ I' : tI, frC b I I' → Q (some (.int (byTurnsS n l r ab nt w))) (T, I', J, R)) : Ex X (d + 20) mX6_byTurns 0 [.ref 0, .int ab, .int nt, .int w, rU, rU, rU, rU, rU, rU, rU, rU] [] (T, I, J, R) Q := by
  have h' := h
  have h8 := HS_8 h
  obtain ⟨h0, r0, r1, r8, hb, hb2, hv, hC⟩ := h
  have n10 : ¬ (10 : Int32) = 0 := by decide
  have n100 : ¬ (100 : Int32) = 0 := by decide
  by_cases c : btP n ab nt w
  · obtain ⟨A, B, D, N, hA, hB, hAB, hD, hN1, hN, eA, eB, eD, eN⟩ := bt_get h8 c
    rw [bt_pos c, eB, eA, eD, eN, nI_clamp (show A < 2 ^ 31 by omega), nI_clamp (show B < 2 ^ 31 by omega), nI_clamp (show D < 2 ^ 31 by omega), nI_clamp (show N < 2 ^ 31 by omega)] at k
    have eA' := eA
    have eB' := eB
    obtain ⟨⟨a0, n0, w0⟩, gA, gB, gn, gN, gD⟩ := c
    obtain ⟨w1, w2⟩ := of_decide_eq_true w0
    obtain ⟨N1, N2⟩ := of_decide_eq_true gN
    simp only [gX6_byTurns_0, a0, if_false, gX6_byTurns_4, n0, gX6_byTurns_8, w1, gX6_byTurns_12, Int32.not_lt.mp w2, if_true, gX6_byTurns_20, n10, n100, not_false_eq_true, true_and, h0]
    refine c_isReach h' ?_
    simp only [Option.toList_some, List.cons_append, List.nil_append, gX6_byTurns_50, if10, gA, reduceCtorEq, if_false, gX6_byTurns_53, h0, true_and]
    refine c_isReach h' ?_
    simp only [Option.toList_some, List.cons_append, List.nil_append, gX6_byTurns_59, if10, gB, reduceCtorEq, if_false, gX6_byTurns_62, gn, gX6_byTurns_69, N1, gX6_byTurns_75, N2, gX6_byTurns_81, Int32.not_lt.mp gD, if_true]
    rw [eB, eA, eD, eN]
    obtain ⟨rok, _⟩ := CS_ok hC
    have lo := rok A hA
    have lt := rok B hB
    have play : ∀ (o : Int32) (I1 : tI) (Q : tQ), lvB o → frC b I I1 → (∀ I2 : tI, frC b I I2 → Q (some (.int (plS l n r A B D (N - 1) false o (r 0 B)))) (T, I2, J, R)) → Ex X (d + 19) mX6_played 0 [.ref 0, .int ab, .int o, .int (r 0 B), .int 1, .int (nI N), .int (nI D), rU, rU, rU, rU] [] (T, I1, J, R) Q := by
      intro o I1 Q hlo hf1 k
      obtain ⟨e, he⟩ : ∃ e, d + 19 = e + 6 + (N - 1) := ⟨d + 13 - (N - 1), by omega⟩
      rw [he]
      exact c_played (N := N) eA' eB' hA hB (by omega) hN (N - 1) 1 o (r 0 B) I1 e Q (by omega) hlo lt (HS_fr h' hf1) (fun I2 hf2 => k I2 (frC_t hf1 hf2))
    have hl1 : ∀ I1 : tI, frC b I I1 → ∀ p, p < n → I1 (1 + 1) p = r 0 p := fun I1 hf1 p hp => CS_lv (HS_fr h' hf1).2.2.2.2.2.2.2 hp
    have rA : rIn T (1 + 1) 0 (nI A) := rIn_at hC.2.1.2.1 (show A < 8 by omega) (by decide)
    have rB : rIn T (1 + 1) 0 (nI B) := rIn_at hC.2.1.2.1 (show B < 8 by omega) (by decide)
    have cA : (nI A).toNatClampNeg = A := nI_clamp (by omega)
    have cB : (nI B).toNatClampNeg = B := nI_clamp (by omega)
    simp only [gX6_byTurns_91, h0, true_and, r0, rf_some, hC.2.1.1, riv_lv hC.2.1, rA, rB, cA, cB, hl1 I (frC_r b I) A hA, hl1 I (frC_r b I) B hB]
    refine play _ I _ lo (frC_r b I) (fun I1 hf1 => ?_)
    simp only [Option.toList_some, List.cons_append, List.nil_append, gX6_byTurns_124]
    -- one way
    have one : ∀ (way : Nat), way ≤ 1 → ∀ (I1 : tI) (fs bs : Int32) (v11 : Value), frC b I I1 → (∀ (I2 : tI) (v11 : Value), frC b I I2 → Ex X (d + 20) mX6_byTurns 129 [.ref 0, .int ab, .int nt, .int w, .int (nI A), .int (nI B), .int (nI N), .int (nI D), .int (if plS l n r A B D (N - 1) false (hdS (r 0 A) way) (r 0 B) ≤ bs then fs else nI way), .int (if plS l n r A B D (N - 1) false (hdS (r 0 A) way) (r 0 B) ≤ bs then bs else plS l n r A B D (N - 1) false (hdS (r 0 A) way) (r 0 B)), .int (nI (way + 1)), v11] [] (T, I2, J, R) Q) →
        Ex X (d + 20) mX6_byTurns 129 [.ref 0, .int ab, .int nt, .int w, .int (nI A), .int (nI B), .int (nI N), .int (nI D), .int fs, .int bs, .int (nI way), v11] [] (T, I1, J, R) Q := by
      intro way hway I1 fs bs v11 hf1 next
      simp only [gX6_byTurns_129, show ¬ (1 : Int32) < nI way from nI_nlt (a := 1) (b := way) hway (by decide), if_false]
      simp only [gX6_byTurns_135, h0, true_and, r0, rf_some, hC.2.1.1, riv_lv hC.2.1, rA, cA, hl1 I1 hf1 A hA]
      refine c_handled (by omega) ?_
      simp only [Option.toList_some, List.cons_append, List.nil_append, gX6_byTurns_152, h0, true_and, r0, rf_some, hC.2.1.1, riv_lv hC.2.1, rB, cB, hl1 I1 hf1 B hB]
      refine play _ I1 _ (lv_hd _ _) hf1 (fun I2 hf2 => ?_)
      have := next I2
      generalize plS l n r A B D (N - 1) false (hdS (r 0 A) way) (r 0 B) = cm at this ⊢
      simp only [Option.toList_some, List.cons_append, List.nil_append, gX6_byTurns_170]
      by_cases g : cm ≤ bs
      · simp only [g, if_true, gX6_byTurns_187, nI_1] at this ⊢
        exact this _ hf2
      · simp only [g, if_false, gX6_byTurns_179, gX6_byTurns_187, nI_1] at this ⊢
        exact this _ hf2
    refine one 0 (by decide) I1 2 _ rU hf1 (fun I2 v2 hf2 => ?_)
    refine one 1 (by decide) I2 _ _ v2 hf2 (fun I3 v3 hf3 => ?_)
    have := k I3 hf3
    unfold btF btV at this
    simp only [gX6_byTurns_129, show (1 : Int32) < nI (1 + 1) by decide, if_true, gX6_byTurns_193, ne_eq]
    by_cases e : w = 0
    · simp only [e, not_true_eq_false, if_true, if_false, gX6_byTurns_197, gX6_byTurns_204] at this ⊢
      exact this
    · simp only [e, not_false_eq_true, if_true, if_false, gX6_byTurns_202, gX6_byTurns_204] at this ⊢
      exact this
  · rw [bt_neg c] at k
    have k0 := k I (frC_r b I)
    have bad1 : Ex X (d + 20) mX6_byTurns 17 [.ref 0, .int ab, .int nt, .int w, rU, rU, rU, rU, rU, rU, rU, rU] [] (T, I, J, R) Q := by
      simp only [gX6_byTurns_17]
      exact k0
    have bad2 : Ex X (d + 20) mX6_byTurns 88 [.ref 0, .int ab, .int nt, .int w, .int (ab / 10), .int (ab - ab / 10 * 10), .int (nt / 100), .int (nt - nt / 100 * 100), rU, rU, rU, rU] [] (T, I, J, R) Q := by
      simp only [gX6_byTurns_88]
      exact k0
    simp only [gX6_byTurns_0, gX6_byTurns_4, gX6_byTurns_8, gX6_byTurns_12]
    by_cases g1 : ¬ ab < 0 ∧ ¬ nt < 0 ∧ inB w 0 1 = true
    · obtain ⟨w1, w2⟩ := of_decide_eq_true g1.2.2
      simp only [g1.1, g1.2.1, w1, Int32.not_lt.mp w2, if_false, if_true, gX6_byTurns_20, n10, n100, not_false_eq_true, true_and, h0]
      refine c_isReach h' ?_
      simp only [Option.toList_some, List.cons_append, List.nil_append, gX6_byTurns_50, if10]
      cases gA : isR n (ab / 10) with
      | false =>
        simp only [if_true]
        exact bad2
      | true =>
      simp only [reduceCtorEq, if_false, gX6_byTurns_53, h0, true_and]
      refine c_isReach h' ?_
      simp only [Option.toList_some, List.cons_append, List.nil_append, gX6_byTurns_59, if10]
      cases gB : isR n (ab - ab / 10 * 10) with
      | false =>
        simp only [if_true]
        exact bad2
      | true =>
      simp only [reduceCtorEq, if_false, gX6_byTurns_62, gX6_byTurns_69, gX6_byTurns_75, gX6_byTurns_81]
      repeat' first | exact bad2 | split
      rename_i x1 x2 x3 x4
      exact absurd ⟨g1, gA, gB, x1, decide_eq_true ⟨x2, x3⟩, Int32.not_lt.mpr x4⟩ c
    · repeat' first | exact bad1 | split
      rename_i x1 x2 x3 x4
      exact absurd ⟨x1, x2, decide_eq_true ⟨x3, Int32.not_lt.mpr x4⟩⟩ g1
theorem m_byTurns {ab nt w : Int32} (h : MS T I R n l r) (k : ∀ I' : tI, frM I I' → MS T I' R n l r → Q (some (.int (byTurnsS n l r ab nt w))) (T, I', J, R)) : Ex X (d + 30) mX7_byTurns 0 [.ref 54, .int ab, .int nt, .int w, rU, rU, rU, rU] [] (T, I, J, R) Q := by
  have h8 := MS_8 h
  have hm := h.1
  have t0 := mt_54 hm
  have n10 : ¬ (10 : Int32) = 0 := by decide
  have n100 : ¬ (100 : Int32) = 0 := by decide
  by_cases c : btP n ab nt w
  · obtain ⟨A, B, D, N, hA, hB, hAB, hD, hN1, hN, eA, eB, eD, eN⟩ := bt_get h8 c
    rw [bt_pos c, eB, eA, eD, eN, nI_clamp (show A < 2 ^ 31 by omega), nI_clamp (show B < 2 ^ 31 by omega), nI_clamp (show D < 2 ^ 31 by omega), nI_clamp (show N < 2 ^ 31 by omega)] at k
    obtain ⟨⟨a0, n0, w0⟩, gA, gB, gn, gN, gD⟩ := c
    obtain ⟨rok, _⟩ := MS_ok h
    have lo := rok A hA
    have lt := rok B hB
    have by_ : ∀ (way : Nat) (I1 : tI) (Q : tQ), way ≤ 2 → MS T I1 R n l r → (∀ I' : tI, frM I1 I' → MS T I' R n l r → Q (some (.int (plS l n r A B D (N - 1) false (hdS (r 0 A) way) (r 0 B)))) (T, I', J, R)) → Ex X (d + 29) mX7_turnBy 0 [.ref 54, .int 0, .int (nI N), .int ab, .int (nI D), .int (nI way), rU, rU, rU] [] (T, I1, J, R) Q := by
      intro way I1 Q hw hM k
      obtain ⟨e, he⟩ : ∃ e, d + 28 = e + 6 + 2 * (N - 1) := ⟨d + 22 - 2 * (N - 1), by omega⟩
      have := m_turnBy (X := X) (d := d + 28) (Q := Q) (J := J) (I := I1) (T := T) (R := R) (l := l) (n := n) (r := r) (A := A) (B := B) (D := D) (ab := ab) (N := N) (i := 0) (m := N - 1) (way := way) (o := r 0 A) (t := r 0 B) hAB eA eB hA hB (by decide) hw lo lt (fun o t I Q ho ht hM k => by rw [he]; exact m_turnFrom hAB eA eB hA hB (by omega) hN (N - 1) 1 o t I e Q (by omega) ho ht hM k) (by rw [tu_r]; exact hM) (by rw [tu_r]; exact k)
      exact this
    simp only [gX7_byTurns_0, a0, if_false, gX7_byTurns_4, n10, not_false_eq_true, true_and, t0]
    refine s_isOne h ?_
    simp only [Option.toList_some, List.cons_append, List.nil_append, gX7_byTurns_12, if10, gA, reduceCtorEq, if_false, gX7_byTurns_15, n10, not_false_eq_true, t0, true_and]
    refine s_isOne h ?_
    simp only [Option.toList_some, List.cons_append, List.nil_append, gX7_byTurns_23, if10, gB, reduceCtorEq, if_false, gX7_byTurns_26, n10, not_false_eq_true, true_and, gn, gX7_byTurns_37, n0, gX7_byTurns_41, n100]
    refine s_within ?_
    simp only [Option.toList_some, List.cons_append, List.nil_append, gX7_byTurns_50, if10, gN, reduceCtorEq, if_false, gX7_byTurns_53, n100, not_false_eq_true, true_and, gD, gX7_byTurns_62]
    refine s_within ?_
    simp only [Option.toList_some, List.cons_append, List.nil_append, gX7_byTurns_68, ne_eq, if10, w0, reduceCtorEq, not_false_eq_true, if_true, gX7_byTurns_75, n100, true_and, t0]
    rw [eD, eN]
    refine by_ 2 I _ (by decide) h (fun I1 hf1 hM1 => ?_)
    rw [hd_2 lo]
    simp only [Option.toList_some, List.cons_append, List.nil_append, gX7_byTurns_90]
    have one : ∀ (way : Nat), way ≤ 1 → ∀ (I1 : tI) (fs bs : Int32) (v7 : Value), frM I I1 → MS T I1 R n l r → (∀ (I2 : tI) (v7 : Value), frM I I2 → MS T I2 R n l r → Ex X (d + 30) mX7_byTurns 98 [.ref 54, .int ab, .int nt, .int w, .int (if plS l n r A B D (N - 1) false (hdS (r 0 A) way) (r 0 B) ≤ bs then bs else plS l n r A B D (N - 1) false (hdS (r 0 A) way) (r 0 B)), .int (if plS l n r A B D (N - 1) false (hdS (r 0 A) way) (r 0 B) ≤ bs then fs else nI way), .int (nI (way + 1)), v7] [] (T, I2, J, R) Q) →
        Ex X (d + 30) mX7_byTurns 98 [.ref 54, .int ab, .int nt, .int w, .int bs, .int fs, .int (nI way), v7] [] (T, I1, J, R) Q := by
      intro way hway I1 fs bs v7 hf1 hM1 next
      simp only [gX7_byTurns_98, show ¬ (2 : Int32) ≤ nI way from nI_ge (b := 2) (by omega) (by decide), if_false]
      simp only [gX7_byTurns_104, n100, not_false_eq_true, true_and, t0]
      rw [eD, eN]
      refine by_ way I1 _ (by omega) hM1 (fun I2 hf2 hM2 => ?_)
      have := next I2
      generalize plS l n r A B D (N - 1) false (hdS (r 0 A) way) (r 0 B) = cm at this ⊢
      simp only [Option.toList_some, List.cons_append, List.nil_append, gX7_byTurns_120]
      by_cases g : cm ≤ bs
      · simp only [g, if_true, show ¬ bs < cm from Int32.not_lt.mpr g, if_false, gX7_byTurns_129, gX7_byTurns_140, nI_1] at this ⊢
        exact this _ (frM_t hf1 hf2) hM2
      · simp only [g, if_false, Int32.not_le.mp g, if_true, gX7_byTurns_132, gX7_byTurns_140, nI_1] at this ⊢
        exact this _ (frM_t hf1 hf2) hM2
    refine one 0 (by decide) I1 2 _ rU hf1 hM1 (fun I2 v2 hf2 hM2 => ?_)
    refine one 1 (by decide) I2 _ _ v2 hf2 hM2 (fun I3 v3 hf3 hM3 => ?_)
    have := k I3 hf3 hM3
    unfold btF btV at this
    simp only [gX7_byTurns_98, show (2 : Int32) ≤ nI (1 + 1) by decide, if_true, gX7_byTurns_146, ne_eq]
    by_cases e : w = 0
    · simp only [e, not_true_eq_false, if_true, if_false, gX7_byTurns_150, gX7_byTurns_157] at this ⊢
      exact this
    · simp only [e, not_false_eq_true, if_true, if_false, gX7_byTurns_155, gX7_byTurns_157] at this ⊢
      exact this
  · rw [bt_neg c] at k
    have k0 := k I (frM_r I) h
    have bad : Ex X (d + 30) mX7_byTurns 71 [.ref 54, .int ab, .int nt, .int w, rU, rU, rU, rU] [] (T, I, J, R) Q := by
      simp only [gX7_byTurns_71]
      exact k0
    simp only [gX7_byTurns_0]
    by_cases a0 : ab < 0
    · simp only [a0, if_true]
      exact bad
    simp only [a0, if_false, gX7_byTurns_4, n10, not_false_eq_true, true_and, t0]
    refine s_isOne h ?_
    simp only [Option.toList_some, List.cons_append, List.nil_append, gX7_byTurns_12, if10]
    cases gA : isR n (ab / 10) with
    | false =>
      simp only [if_true]
      exact bad
    | true =>
    simp only [reduceCtorEq, if_false, gX7_byTurns_15, n10, not_false_eq_true, t0, true_and]
    refine s_isOne h ?_
    simp only [Option.toList_some, List.cons_append, List.nil_append, gX7_byTurns_23, if10]
    cases gB : isR n (ab - ab / 10 * 10) with
    | false =>
      simp only [if_true]
      exact bad
    | true =>
    simp only [reduceCtorEq, if_false, gX7_byTurns_26, n10, not_false_eq_true, true_and]
    by_cases gn : ab / 10 = ab - ab / 10 * 10
    · rw [if_pos gn]
      exact bad
    rw [if_neg gn]
    simp only [gX7_byTurns_37]
    by_cases n0 : nt < 0
    · simp only [n0, if_true]
      exact bad
    simp only [n0, if_false, gX7_byTurns_41, n100, not_false_eq_true, true_and]
    refine s_within ?_
    simp only [Option.toList_some, List.cons_append, List.nil_append, gX7_byTurns_50, if10]
    cases gN : inB (nt / 100) 1 5 with
    | false =>
      simp only [if_true]
      exact bad
    | true =>
    simp only [reduceCtorEq, if_false, gX7_byTurns_53, n100, not_false_eq_true, true_and]
    by_cases gD : 20 < nt - nt / 100 * 100
    · simp only [gD, if_true]
      exact bad
    simp only [gD, if_false, gX7_byTurns_62]
    refine s_within ?_
    simp only [Option.toList_some, List.cons_append, List.nil_append, gX7_byTurns_68, ne_eq, if10]
    cases w0 : inB w 0 1 with
    | false =>
      simp only [not_true_eq_false, if_false]
      exact bad
    | true => exact absurd ⟨⟨a0, n0, w0⟩, gA, gB, gn, gN, gD⟩ c
end BY
