/-! PURE: the reference's reader: B, O -/
section M2
variable {X : tX} {T : tT} {I I' I1 I2 I3 I4 I5 : tI} {J : tJ} {R : tR} {Q : tQ} {d a sz N : Nat} {tp : Nat → Int32} {z y : tZ} {f : Nat → tZ} {c ov v w : Int32}
theorem m_isB (hm : IsMod T R) (hf : Gd N f) (h : mM X d T J R N tp ov mX7_isS [.ref 54, rU] f) : mM X (d + 1) T J R N tp ov mX7_isB [.ref 54, rU] (fun a => chS opB (sxS tp N) f 1 (f a)) := by
  intro I a sz Q hD hs hsa hov k
  have t0 := mt_54 hm
  have ha : a ≤ N := hD.2.2.2.2
  have hN : N ≤ 120 := hD.2.1
  simp only [gX7_isB_0, t0, true_and]
  refine h I a sz _ hD hs hsa hov (fun I1 hP => ?_)
  simp only [Option.toList_some, List.cons_append, List.nil_append, gX7_isB_4, ne_eq]
  have hg := hf a ha
  have k : ∀ I' : tI, mP I I' sz (chS opB (sxS tp N) f 1 (f a)) → Q (some (.int (if (chS opB (sxS tp N) f 1 (f a)).1 = true then 1 else 0))) (T, I', J, R) := k
  rcases hz : f a with ⟨zb, za, zc⟩
  rw [hz] at hP k hg
  cases zb with
  | false =>
    rw [chS_no (fun q => absurd q.1 (by simp))] at k
    have kk := k I1 hP
    simp only [Bool.false_eq_true, if_false, not_true_eq_false, gX7_isB_7, true_or, true_and]
    exact kk
  | true =>
  have hD1 : ND I1 N tp za := ND_mP hD hP hg.2.1
  have e4 : I1 54 12 = nI za := hP.2.2.1
  simp only [if_true, show ¬ (1 : Int32) = 0 by decide, not_false_eq_true, gX7_isB_9, t0, true_and]
  by_cases hop : opB (sxS tp N za) = true
  · rw [chS_yes ⟨rfl, hop⟩] at k
    have lt : za < N := op_lt ooB hop
    obtain ⟨g4, g5, g6, g7⟩ := hg.2.2 rfl
    have g5' : zc.length + a ≤ za := g5
    obtain ⟨f1, f2, f3⟩ := hP.2.2.2 rfl
    have atO : ∀ mu : Int32, muS (-(sxS tp N za)) = mu → 0 ≤ mu → Ex X (d + 1) mX7_isB 52 [.ref 54, rU] [.int mu] (T, I1, J, R) Q := by
      intro mu emu hmu
      have hm2 := mw_up e4
      simp only [gX7_isB_52, hmu, if_true, gX7_isB_59, t0, true_and, e4, nI_1]
      generalize hI2 : va_up I1 54 (va_up (I1 54) 12 (nI (za + 1))) = I2 at hm2 ⊢
      have o2 : I2 54 13 = ov := by rw [hm2.2.1 13 (by decide), hP.2.1 13 (by decide) (by decide)]; exact hov
      refine h I2 (za + 1) (sz + zc.length) _ (ND_mv hD1 hm2 (by omega)) (by rw [hm2.2.1 14 (by decide)]; exact f1) (by omega) o2 (fun I3 hP3 => ?_)
      simp only [Option.toList_some, List.cons_append, List.nil_append, gX7_isB_73, ne_eq]
      have hcat := mP_cat hP rfl hm2 hP3
      have gf := hf (za + 1) (by omega)
      rcases hy : f (za + 1) with ⟨yb, ya, yc⟩
      rw [hy] at hcat k gf
      cases yb with
      | false =>
        have kk := k I3 (mP_no hcat)
        simp only [Bool.false_eq_true, if_false, if_true, gX7_isB_88, gX7_isB_89, true_or, true_and]
        exact kk
      | true =>
        obtain ⟨y4, y5, -⟩ := gf.2.2 rfl
        have y5' : yc.length + (za + 1) ≤ ya := y5
        have y2 : ya ≤ N := gf.2.1
        have s3' : I3 54 14 = nI (sz + (zc ++ yc).length) := (hcat.2.2.2 rfl).1
        simp only [if_true, show ¬ (1 : Int32) = 0 by decide, if_false, gX7_isB_76, t0, true_and]
        refine m_codes hm s3' (by rw [List.length_append]; omega) (fun I4 hA => ?_)
        simp only [Option.toList_some, List.cons_append, List.nil_append, gX7_isB_81, show ¬ (1 : Int32) = 0 by decide, if_false, gX7_isB_84, gX7_isB_89, or_true, true_and]
        rw [← emu] at hA
        exact k I4 (mP_ad (z := (true, ya, zc ++ yc)) (c := -(sxS tp N za)) hcat hA)
    rcases op_B.mp hop with (e | e) | e
    · refine m_sign hm hD1 ?_
      simp only [Option.toList_some, List.cons_append, List.nil_append, gX7_isB_13, ne_eq, e, not_true_eq_false, if_false, gX7_isB_18]
      exact atO 8 (by rw [e]; decide +kernel) (by decide)
    · refine m_sign hm hD1 ?_
      simp only [Option.toList_some, List.cons_append, List.nil_append, gX7_isB_13, ne_eq, e, show ¬ (61 : Int32) = 60 by decide, not_false_eq_true, if_true, gX7_isB_23, t0, true_and]
      refine m_sign hm hD1 ?_
      simp only [Option.toList_some, List.cons_append, List.nil_append, gX7_isB_27, ne_eq, e, not_true_eq_false, if_false, gX7_isB_32]
      exact atO 9 (by rw [e]; decide +kernel) (by decide)
    · refine m_sign hm hD1 ?_
      simp only [Option.toList_some, List.cons_append, List.nil_append, gX7_isB_13, ne_eq, e, show ¬ (62 : Int32) = 60 by decide, not_false_eq_true, if_true, gX7_isB_23, t0, true_and]
      refine m_sign hm hD1 ?_
      simp only [Option.toList_some, List.cons_append, List.nil_append, gX7_isB_27, ne_eq, e, show ¬ (62 : Int32) = 61 by decide, not_false_eq_true, if_true, gX7_isB_37, t0, true_and]
      refine m_sign hm hD1 ?_
      simp only [Option.toList_some, List.cons_append, List.nil_append, gX7_isB_41, ne_eq, e, not_true_eq_false, if_false, gX7_isB_46]
      exact atO 10 (by rw [e]; decide +kernel) (by decide)
  · have n1 : ¬ sxS tp N za = 60 := fun q => hop (op_B.mpr (Or.inl (Or.inl q)))
    have n2 : ¬ sxS tp N za = 61 := fun q => hop (op_B.mpr (Or.inl (Or.inr q)))
    have n3 : ¬ sxS tp N za = 62 := fun q => hop (op_B.mpr (Or.inr q))
    rw [chS_no (fun q => hop q.2)] at k
    have kk := k I1 hP
    refine m_sign hm hD1 ?_
    simp only [Option.toList_some, List.cons_append, List.nil_append, gX7_isB_13, ne_eq, n1, not_false_eq_true, if_true, gX7_isB_23, t0, true_and]
    refine m_sign hm hD1 ?_
    simp only [Option.toList_some, List.cons_append, List.nil_append, gX7_isB_27, ne_eq, n2, not_false_eq_true, if_true, gX7_isB_37, t0, true_and]
    refine m_sign hm hD1 ?_
    simp only [Option.toList_some, List.cons_append, List.nil_append, gX7_isB_41, ne_eq, n3, not_false_eq_true, if_true, gX7_isB_51, gX7_isB_52, show ¬ (0 : Int32) ≤ -1 by decide, if_false, gX7_isB_57, or_true, true_and]
    exact kk
theorem m_E (hm : IsMod T R) (hf : Gd N f) (h : mM X d T J R N tp ov mX7_isO [.ref 54, rU, rU] f) : mM X (d + 5) T J R N tp ov mX7_isE [.ref 54] (pzE (sxS tp N) f) := by
  have h1 := m_isP hm hf h
  have h2 := m_isS hm (gd_P (t := tp) hf) h1
  have h3 := m_isB hm (gd_S (t := tp) hf) h2
  have h4 := m_isA (d := d + 2) hm (gd_B (t := tp) hf) h3
  exact m_isE (d := d + 3) hm (gd_A (t := tp) hf) h4
theorem mP_open (h : mP (va_up I 54 (va_up (I 54) 13 v)) I5 sz z) (hw : w = I 54 13) : mP I (va_up I5 54 (va_up (I5 54) 13 w)) sz z := by
  obtain ⟨p1, p2, p3, p5⟩ := h
  refine ⟨fun x x1 x2 => by rw [up_ne _ _ x1, p1 x x1 x2, up_ne _ _ x1], fun i i1 i2 => ?_, by rw [up_self, up_ne _ _ (by decide)]; exact p3, fun e => ?_⟩
  · rw [up_self]
    by_cases e : i = 13
    · subst e
      rw [up_self, hw]
    · rw [up_ne _ _ e, p2 i i1 i2, up_self, up_ne _ _ e]
  · obtain ⟨q1, q2, q3⟩ := p5 e
    rw [up_self, up_ne _ _ (by decide), up_ne _ _ (by decide)]
    refine ⟨q1, fun i hi => ?_, q3⟩
    rw [q2 i hi, up_ne _ _ (by decide)]
theorem mv_t {a' : Nat} (h : mvM I1 I2 a) (h' : mvM I2 I3 a') : mvM I1 I3 a' := ⟨fun x hx => by rw [h'.1 x hx]; exact h.1 x hx, fun i hi => by rw [h'.2.1 i hi]; exact h.2.1 i hi, h'.2.2⟩
theorem mP_of (h : mvM I1 I2 a) (hs : I1 54 14 = nI sz) (wb : Bool) : mP I1 I2 sz (wb, a, []) := ⟨fun x x1 _ => h.1 x x1, fun i i1 _ => h.2.1 i i1, h.2.2, fun _ => ⟨by rw [h.2.1 14 (by decide)]; exact hs, fun i _ => by rw [h.1 66 (by decide)], trivial⟩⟩
set_option maxHeartbeats 4000000 in
theorem m_isO (hm : IsMod T R) : ∀ o, o ≤ 6 → ∀ d, mM X (d + 3 + 6 * o) T J R N tp (nI (6 - o)) mX7_isO [.ref 54, rU, rU] (pzO (sxS tp N) o) := by
  have t0 := mt_54 hm
  have num : ∀ (e : Nat) (I : tI) (a sz : Nat) (Q : tQ), ND I N tp a → I 54 14 = nI sz → sz ≤ a → isD (sxS tp N a) = true → (∀ I' : tI, mP I I' sz (true, (nuS (sxS tp N) 4 a 0).1, [(nuS (sxS tp N) 4 a 0).2]) → Q (some (.int 1)) (T, I', J, R)) → Ex X (e + 2) mX7_isO 0 [.ref 54, rU, rU] [] (T, I, J, R) Q := by
    intro e I a sz Q hD hs hsa hd k
    have hN : N ≤ 120 := hD.2.1
    have ha : a ≤ N := hD.2.2.2.2
    have loop : ∀ (m i a1 : Nat) (v : Int32) (I1 : tI), i + m = 4 → mvM I I1 a1 → ND I1 N tp a1 → (∃ w' : Nat, w' ≤ 9999 ∧ (nuS (sxS tp N) m a1 v).2 = nI w') → (∀ I' : tI, mP I I' sz (true, (nuS (sxS tp N) m a1 v).1, [(nuS (sxS tp N) m a1 v).2]) → Q (some (.int 1)) (T, I', J, R)) → Ex X (e + 2) mX7_isO 11 [.ref 54, .int v, .int (nI i)] [] (T, I1, J, R) Q := by
      have fin : ∀ (a1 : Nat) (v w : Int32) (I1 : tI), mvM I I1 a1 → (∃ w' : Nat, w' ≤ 9999 ∧ v = nI w') → (∀ I' : tI, mP I I' sz (true, a1, [v]) → Q (some (.int 1)) (T, I', J, R)) → Ex X (e + 2) mX7_isO 57 [.ref 54, .int v, .int w] [] (T, I1, J, R) Q := by
        intro a1 v w I1 hm1 hv k
        have hs1 : I1 54 14 = nI (sz + 0) := by rw [hm1.2.1 14 (by decide)]; exact hs
        have emu : (18 : Int32) + v = muS v := by
          obtain ⟨w', h1, rfl⟩ := hv
          unfold muS
          rw [if_pos (nI_pos' (by omega))]
        simp only [gX7_isO_57, t0, true_and, emu]
        refine m_codes hm hs1 (by omega) (fun I2 hA => ?_)
        simp only [Option.toList_some, List.cons_append, List.nil_append, gX7_isO_65, or_true, true_and]
        exact k I2 (mP_ad (z := (true, a1, [])) (c := v) (mP_of hm1 hs true) hA)
      intro m
      induction m with
      | zero =>
        intro i a1 v I1 hi hm1 hD1 hv k
        simp only [gX7_isO_11, show (4 : Int32) ≤ nI i from nI_le (a := 4) (by omega) (by omega), if_true]
        exact fin a1 v _ I1 hm1 hv k
      | succ m ih =>
        intro i a1 v I1 hi hm1 hD1 hv k
        simp only [gX7_isO_11, show ¬ (4 : Int32) ≤ nI i from nI_ge (b := 4) (by omega) (by decide), if_false, gX7_isO_16, t0, true_and]
        refine m_isDigit hm hD1 ?_
        simp only [Option.toList_some, List.cons_append, List.nil_append, gX7_isO_20, if10]
        rw [nuS] at k hv
        cases e1 : isD (sxS tp N a1) with
        | false =>
          rw [if_neg (by rw [e1]; simp)] at k hv
          simp only [if_true]
          exact fin a1 v _ I1 hm1 hv k
        | true =>
          rw [if_pos e1] at k hv
          have lt : a1 < N := sg_lt (P := fun c => isD c = true) e1 (by decide +kernel)
          have e4 : I1 54 12 = nI a1 := hm1.2.2
          have es : I1 58 a1 = sxS tp N a1 := by
            unfold sxS
            rw [if_pos lt]
            exact hD1.2.2.1 a1 lt
          simp only [reduceCtorEq, if_false, gX7_isO_23, t0, true_and, mr_5 hm, rf_some, e4, rIn_at (mt_58 hm) (show a1 < 120 by omega) (by decide), nI_clamp (show a1 < 2 ^ 31 by omega), es, nI_1]
          have hm2 := mw_up e4
          exact ih (i + 1) (a1 + 1) _ _ (by omega) (mv_t hm1 hm2) (ND_mv hD1 hm2 (by omega)) hv k
    simp only [gX7_isO_0, t0, true_and]
    refine m_isDigit hm hD ?_
    simp only [Option.toList_some, List.cons_append, List.nil_append, gX7_isO_4, hd, if_true, show ¬ (1 : Int32) = 0 by decide, if_false, gX7_isO_7]
    obtain ⟨w', h1, h2, -⟩ := nu_ok (t := tp) 4 a 0 ha (by decide)
    exact loop 4 0 a 0 I (by omega) (mw_r hD.2.2.2.1) hD ⟨w', h1, h2⟩ k
  have nam : ∀ (e : Nat) (I : tI) (a sz : Nat) (Q : tQ), ND I N tp a → I 54 14 = nI sz → sz ≤ a → ¬ isD (sxS tp N a) = true → isN (sxS tp N a) = true → (∀ I' : tI, mP I I' sz (true, a + 1, [-(sxS tp N a)]) → Q (some (.int 1)) (T, I', J, R)) → Ex X (e + 2) mX7_isO 0 [.ref 54, rU, rU] [] (T, I, J, R) Q := by
    intro e I a sz Q hD hs hsa hd hn k
    have hN : N ≤ 120 := hD.2.1
    have lt : a < N := sg_lt (P := fun c => isN c = true) hn (by decide +kernel)
    have e4 : I 54 12 = nI a := hD.2.2.2.1
    have g0 : ¬ muS (-(sxS tp N a)) < 0 := by
      rcases isN_c hn with q | q | q | q | q | q <;> rw [q] <;> decide +kernel
    simp only [gX7_isO_0, t0, true_and]
    refine m_isDigit hm hD ?_
    simp only [Option.toList_some, List.cons_append, List.nil_append, gX7_isO_4, hd, if_true, if_false, gX7_isO_66, t0, true_and, Bool.false_eq_true]
    refine m_sign hm hD ?_
    simp only [Option.toList_some, List.cons_append, List.nil_append, gX7_isO_70]
    refine m_nameOf ?_
    have en : nmN (sxS tp N a) = muS (-(sxS tp N a)) := by unfold nmN; rw [if_pos hn]
    simp only [Option.toList_some, List.cons_append, List.nil_append, gX7_isO_73, en, g0, if_false, gX7_isO_78, t0, true_and, e4, nI_1]
    have hm2 := mw_up e4
    generalize hI2 : va_up I 54 (va_up (I 54) 12 (nI (a + 1))) = I2 at hm2 ⊢
    have hs2 : I2 54 14 = nI (sz + 0) := by rw [hm2.2.1 14 (by decide)]; exact hs
    refine m_codes hm hs2 (by omega) (fun I3 hA => ?_)
    simp only [Option.toList_some, List.cons_append, List.nil_append, gX7_isO_93, or_true, true_and]
    exact k I3 (mP_ad (z := (true, a + 1, [])) (c := -(sxS tp N a)) (mP_of hm2 hs true) hA)
  have oth : ∀ (e : Nat) (I : tI) (a : Nat) (Q : tQ), ND I N tp a → ¬ isD (sxS tp N a) = true → ¬ isN (sxS tp N a) = true → Ex X (e + 2) mX7_isO 94 [.ref 54, .int (-1), rU] [] (T, I, J, R) Q → Ex X (e + 2) mX7_isO 0 [.ref 54, rU, rU] [] (T, I, J, R) Q := by
    intro e I a Q hD hd hn k
    simp only [gX7_isO_0, t0, true_and]
    refine m_isDigit hm hD ?_
    simp only [Option.toList_some, List.cons_append, List.nil_append, gX7_isO_4, hd, if_true, if_false, gX7_isO_66, t0, true_and, Bool.false_eq_true]
    refine m_sign hm hD ?_
    simp only [Option.toList_some, List.cons_append, List.nil_append, gX7_isO_70]
    refine m_nameOf ?_
    have en : nmN (sxS tp N a) = -1 := by unfold nmN; rw [if_neg hn]
    simp only [Option.toList_some, List.cons_append, List.nil_append, gX7_isO_73, en, show (-1 : Int32) < 0 by decide, if_true]
    exact k
  intro o
  induction o with
  | zero =>
    intro _ d I a sz Q hD hs hsa hov k
    rw [pzO] at k
    by_cases h1 : isD (sxS tp N a) = true
    · rw [if_pos h1] at k
      exact num (d + 1) I a sz Q hD hs hsa h1 k
    · rw [if_neg h1] at k
      by_cases h2 : isN (sxS tp N a) = true
      · rw [if_pos h2] at k
        exact nam (d + 1) I a sz Q hD hs hsa h1 h2 k
      · rw [if_neg h2] at k
        refine oth (d + 1) I a Q hD h1 h2 ?_
        have hov' : I 54 13 = 6 := hov
        simp only [gX7_isO_94, t0, true_and, hov', ne_eq, not_true_eq_false, if_false, gX7_isO_103, true_or]
        exact k I (mP_of (mw_r hD.2.2.2.1) hs false)
  | succ o ih =>
    intro ho d I a sz Q hD hs hsa hov k
    have hN : N ≤ 120 := hD.2.1
    have ha : a ≤ N := hD.2.2.2.2
    rw [show d + 3 + 6 * (o + 1) = d + 3 + 6 * o + 6 by omega]
    rw [pzO] at k
    by_cases h1 : isD (sxS tp N a) = true
    · rw [if_pos h1] at k
      exact num (d + 3 + 6 * o + 4) I a sz Q hD hs hsa h1 k
    · rw [if_neg h1] at k
      by_cases h2 : isN (sxS tp N a) = true
      · rw [if_pos h2] at k
        exact nam (d + 3 + 6 * o + 4) I a sz Q hD hs hsa h1 h2 k
      · rw [if_neg h2] at k
        refine oth (d + 3 + 6 * o + 4) I a Q hD h1 h2 ?_
        have n6 : ¬ nI (6 - (o + 1)) = 6 := fun q => by
          have := (nI_eq (a := 6 - (o + 1)) (b := 6) (by omega) (by omega)).mp q
          omega
        have eo : nI (6 - (o + 1)) + 1 = nI (6 - o) := by rw [nI_1, show 6 - (o + 1) + 1 = 6 - o by omega]
        have eo2 : nI (6 - o) - 1 = nI (6 - (o + 1)) := by rw [← eo, Int32.add_sub_cancel]
        simp only [gX7_isO_94, t0, true_and, hov, ne_eq, n6, not_false_eq_true, if_true, gX7_isO_105, eo]
        have hD2 : ND (va_up I 54 (va_up (I 54) 13 (nI (6 - o)))) N tp a := ⟨by rw [up_self, up_ne _ _ (by decide)]; exact hD.1, hN, fun i hi => by rw [up_ne _ _ (by decide)]; exact hD.2.2.1 i hi, by rw [up_self, up_ne _ _ (by decide)]; exact hD.2.2.2.1, ha⟩
        have hs2 : va_up I 54 (va_up (I 54) 13 (nI (6 - o))) 54 14 = nI sz := by rw [up_self, up_ne _ _ (by decide)]; exact hs
        have ho2 : va_up I 54 (va_up (I 54) 13 (nI (6 - o))) 54 13 = nI (6 - o) := by rw [up_self, up_self]
        have fin : ∀ (zb : Bool) (za : Nat) (zc : List Int32) (v1 : Int32) (I5 : tI), mP (va_up I 54 (va_up (I 54) 13 (nI (6 - o)))) I5 sz (zb, za, zc) → (∀ I' : tI, mP I I' sz (zb, za, zc) → Q (some (.int (if zb = true then 1 else 0))) (T, I', J, R)) → Ex X (d + 3 + 6 * o + 4 + 2) mX7_isO 214 [.ref 54, .int v1, .int (if zb = true then 1 else 0)] [] (T, I5, J, R) Q := by
          intro zb za zc v1 I5 hP k
          have o5 : I5 54 13 = nI (6 - o) := by rw [hP.2.1 13 (by decide) (by decide)]; exact ho2
          simp only [gX7_isO_214, t0, true_and, o5, eo2]
          refine ⟨by cases zb <;> simp, ?_⟩
          exact k _ (mP_open hP hov.symm)
        generalize hI2 : va_up I 54 (va_up (I 54) 13 (nI (6 - o))) = I2 at hD2 hs2 ho2 fin ⊢
        have up : mM X (d + 3 + 6 * o + 5) T J R N tp (nI (6 - o)) mX7_isO [.ref 54, rU, rU] (pzO (sxS tp N) o) := by
          have := ih (by omega) (d + 5)
          rw [show d + 5 + 3 + 6 * o = d + 3 + 6 * o + 5 by omega] at this
          exact this
        refine m_is hm hD2 (fun I3 hm3 => ?_)
        simp only [Option.toList_some, List.cons_append, List.nil_append, gX7_isO_121]
        by_cases h33 : sxS tp N a = 33
        · have lt : a < N := sg_lt (P := fun c => c = 33) h33 (by decide +kernel)
          rw [if_neg (by rw [h33]; decide), if_pos (Or.inl h33)] at k
          rw [if_pos h33] at hm3
          simp only [h33, if_true, show ¬ (1 : Int32) = 0 by decide, if_false, gX7_isO_124, t0, true_and]
          refine up I3 (a + 1) sz _ (ND_mv hD2 hm3 lt) (by rw [hm3.2.1 14 (by decide)]; exact hs2) (by omega) (by rw [hm3.2.1 13 (by decide)]; exact ho2) (fun I4 hP4 => ?_)
          simp only [Option.toList_some, List.cons_append, List.nil_append, gX7_isO_128]
          have hcat := mP_cat (mP_of hm3 hs2 true) rfl (mw_r hm3.2.2) hP4
          have gO := gd_O (t := tp) o (a + 1) lt
          unfold pzN at k
          rcases hz : pzO (sxS tp N) o (a + 1) with ⟨zb, za, zc⟩
          rw [hz] at hcat k gO
          cases zb with
          | false =>
            have := fin false za (zc ++ [if sxS tp N a = 45 then -126 else -33]) (-1) I4 (mP_no hcat) k
            simp only [Bool.false_eq_true, if_false, if_true, gX7_isO_144, gX7_isO_145]
            exact this
          | true =>
            obtain ⟨y4, y5, -⟩ := gO.2.2 rfl
            have y5' : zc.length + (a + 1) ≤ za := y5
            have y2 : za ≤ N := gO.2.1
            have s4 : I4 54 14 = nI (sz + zc.length) := (hcat.2.2.2 rfl).1
            simp only [if_true, show ¬ (1 : Int32) = 0 by decide, if_false, gX7_isO_131, t0, true_and]
            refine m_codes hm s4 (by omega) (fun I5 hA => ?_)
            have e45 : ¬ sxS tp N a = 45 := by rw [h33]; decide
            rw [if_neg e45] at k
            have hA' : adM I4 I5 (sz + zc.length) (muS (-33)) := hA
            have := fin true za (zc ++ [-33]) (-1) I5 (mP_ad (z := (true, za, zc)) (c := -33) hcat hA') k
            simp only [Option.toList_some, List.cons_append, List.nil_append, gX7_isO_137, show ¬ (1 : Int32) = 0 by decide, if_false, gX7_isO_140, gX7_isO_145]
            exact this
        · rw [if_neg h33] at hm3
          have hD3 := ND_mv hD2 hm3 ha
          simp only [h33, if_false, if_true, gX7_isO_149, t0, true_and]
          refine m_is hm hD3 (fun I4 hm4 => ?_)
          simp only [Option.toList_some, List.cons_append, List.nil_append, gX7_isO_155]
          by_cases h45 : sxS tp N a = 45
          · have lt : a < N := sg_lt (P := fun c => c = 45) h45 (by decide +kernel)
            rw [if_neg (by rw [h45]; decide), if_pos (Or.inr h45)] at k
            rw [if_pos h45] at hm4
            have hm24 := mv_t hm3 hm4
            simp only [h45, if_true, show ¬ (1 : Int32) = 0 by decide, if_false, gX7_isO_158, t0, true_and]
            refine up I4 (a + 1) sz _ (ND_mv hD2 hm24 lt) (by rw [hm24.2.1 14 (by decide)]; exact hs2) (by omega) (by rw [hm24.2.1 13 (by decide)]; exact ho2) (fun I5 hP5 => ?_)
            simp only [Option.toList_some, List.cons_append, List.nil_append, gX7_isO_162]
            have hcat := mP_cat (mP_of hm24 hs2 true) rfl (mw_r hm24.2.2) hP5
            have gO := gd_O (t := tp) o (a + 1) lt
            unfold pzN at k
            rcases hz : pzO (sxS tp N) o (a + 1) with ⟨zb, za, zc⟩
            rw [hz] at hcat k gO
            cases zb with
            | false =>
              have := fin false za (zc ++ [if sxS tp N a = 45 then -126 else -33]) (-1) I5 (mP_no hcat) k
              simp only [Bool.false_eq_true, if_false, if_true, gX7_isO_178, gX7_isO_179]
              exact this
            | true =>
              obtain ⟨y4, y5, -⟩ := gO.2.2 rfl
              have y5' : zc.length + (a + 1) ≤ za := y5
              have y2 : za ≤ N := gO.2.1
              have s4 : I5 54 14 = nI (sz + zc.length) := (hcat.2.2.2 rfl).1
              simp only [if_true, show ¬ (1 : Int32) = 0 by decide, if_false, gX7_isO_165, t0, true_and]
              refine m_codes hm s4 (by omega) (fun I6 hA => ?_)
              rw [if_pos h45] at k
              have hA' : adM I5 I6 (sz + zc.length) (muS (-126)) := hA
              have := fin true za (zc ++ [-126]) (-1) I6 (mP_ad (z := (true, za, zc)) (c := -126) hcat hA') k
              simp only [Option.toList_some, List.cons_append, List.nil_append, gX7_isO_171, show ¬ (1 : Int32) = 0 by decide, if_false, gX7_isO_174, gX7_isO_179]
              exact this
          · rw [if_neg h45] at hm4
            have hD4 := ND_mv hD3 hm4 ha
            simp only [h45, if_false, if_true, gX7_isO_183, t0, true_and]
            refine m_is hm hD4 (fun I5 hm5 => ?_)
            simp only [Option.toList_some, List.cons_append, List.nil_append, gX7_isO_189]
            by_cases h40 : sxS tp N a = 40
            · have lt : a < N := sg_lt (P := fun c => c = 40) h40 (by decide +kernel)
              rw [if_pos h40] at k
              rw [if_pos h40] at hm5
              have hm25 := mv_t (mv_t hm3 hm4) hm5
              simp only [h40, if_true, show ¬ (1 : Int32) = 0 by decide, if_false, gX7_isO_192, t0, true_and]
              have gE := gd_E (t := tp) (gd_O (t := tp) o) (a + 1) lt
              refine m_E hm (gd_O o) (ih (by omega) d) I5 (a + 1) sz _ (ND_mv hD2 hm25 lt) (by rw [hm25.2.1 14 (by decide)]; exact hs2) (by omega) (by rw [hm25.2.1 13 (by decide)]; exact ho2) (fun I6 hP6 => ?_)
              simp only [Option.toList_some, List.cons_append, List.nil_append, gX7_isO_196]
              have hcat := mP_cat (mP_of hm25 hs2 true) rfl (mw_r hm25.2.2) hP6
              unfold pzR at k
              rcases hz : pzE (sxS tp N) (pzO (sxS tp N) o) (a + 1) with ⟨zb, za, zc⟩
              rw [hz] at hcat k gE
              cases zb with
              | false =>
                rw [if_neg (fun q => absurd q.1 (by simp))] at k
                have := fin false za [] (-1) I6 (mP_no hcat) k
                simp only [Bool.false_eq_true, if_false, if_true, gX7_isO_212, gX7_isO_213]
                exact this
              | true =>
                have hcat' : mP I2 I6 sz (true, za, zc) := hcat
                have hD6 : ND I6 N tp za := ND_mP hD2 hcat' gE.2.1
                simp only [if_true, show ¬ (1 : Int32) = 0 by decide, if_false, gX7_isO_199, t0, true_and]
                refine m_is hm hD6 (fun I7 hm7 => ?_)
                simp only [Option.toList_some, List.cons_append, List.nil_append, gX7_isO_205]
                by_cases e41 : sxS tp N za = 41
                · rw [if_pos ⟨rfl, e41⟩] at k
                  rw [if_pos e41] at hm7
                  have hP7 : mP I2 I7 sz (true, za + 1, zc) := by
                    obtain ⟨p1, p2, p3, p5⟩ := hcat'
                    obtain ⟨m1, m2, m3⟩ := hm7
                    refine ⟨fun x x1 x2 => by rw [m1 x x1]; exact p1 x x1 x2, fun i i1 i2 => by rw [m2 i i1]; exact p2 i i1 i2, m3, fun _ => ?_⟩
                    rw [m2 14 (by decide), m1 66 (by decide)]
                    exact p5 rfl
                  have := fin true (za + 1) zc (-1) I7 hP7 k
                  simp only [e41, if_true, show ¬ (1 : Int32) = 0 by decide, if_false, gX7_isO_208, gX7_isO_213]
                  exact this
                · rw [if_neg (fun q => e41 q.2)] at k
                  rw [if_neg e41] at hm7
                  have hP7 : mP I2 I7 sz (false, za, []) := mP_no (mP_mv hcat' hm7)
                  have := fin false za [] (-1) I7 hP7 k
                  simp only [e41, if_false, if_true, gX7_isO_212, gX7_isO_213]
                  exact this
            · rw [if_neg h40, if_neg (fun q => q.elim h33 h45)] at k
              rw [if_neg h40] at hm5
              have hm25 := mv_t (mv_t hm3 hm4) hm5
              have := fin false a [] (-1) I5 (mP_of hm25 hs2 false) k
              simp only [h40, if_false, if_true, gX7_isO_212, gX7_isO_213]
              exact this
end M2
