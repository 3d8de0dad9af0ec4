/-! PURE: bridges -/
def bitS (w : Int32) (i : Nat) : Int32 := (w >>> (nI i &&& 31)) &&& 1
def brS (w : Int32) : Nat → (Nat → Nat → Int32) → Nat → Nat → Int32
  | 0, r => r
  | i + 1, r => stS (brS w i r) 2 i (bitS w i)
def betP (o lv way few low wh : Int32) : Prop := o < few ∨ (o = few ∧ (lv < low ∨ (lv = low ∧ bcS way < bcS wh)))
def betS (o lv way few low wh : Int32) : Bool := decide (o < few ∨ (o = few ∧ (lv < low ∨ (lv = low ∧ bcS way < bcS wh))))
theorem bet_iff {o lv way few low wh : Int32} : betS o lv way few low wh = true ↔ betP o lv way few low wh := by
  unfold betS betP
  exact decide_eq_true_iff
def brgS (l : tL) (n D : Nat) (r : Nat → Nat → Int32) (w : Int32) : Nat → Nat → Int32 → Int32 → Int32 → Int32
  | 0, _, few, _, wh => if w = 0 then few else wh
  | m + 1, i, few, low, wh => if betS (bcS (ovS n (itS l n D (brS (nI i) n r)) n)) (smS (itS l n D (brS (nI i) n r)) n) (nI i) few low wh = true then brgS l n D r w m (i + 1) (bcS (ovS n (itS l n D (brS (nI i) n r)) n)) (smS (itS l n D (brS (nI i) n r)) n) (nI i) else brgS l n D r w m (i + 1) few low wh
def bridgesS (n : Nat) (l : tL) (r : Nat → Nat → Int32) (D w : Int32) : Int32 := if inB D 0 20 = true ∧ inB w 0 1 = true then brgS l n D.toNatClampNeg r w (2 ^ n) 0 9 0 0 else -1
theorem pow_n : ∀ n : Fin 9, (1 : Int32) <<< (nI n.val &&& 31) = nI (2 ^ n.val) := by decide +kernel
theorem pow_le : ∀ n : Fin 9, 2 ^ n.val ≤ 256 := by decide +kernel
theorem br_sB {n : Nat} {w : Int32} {r : Nat → Nat → Int32} : ∀ i, sB n (brS w i r) r
  | 0 => sB_r n r
  | i + 1 => sB_st (br_sB i) (Or.inr (Or.inl rfl))
section BR
variable {X : tX} {T : tT} {I I' : tI} {J : tJ} {R : tR} {Q : tQ} {d a b c p n t D : Nat} {σ : rS} {l : tL} {r q : Nat → Nat → Int32}
theorem c_thinkBridged {w : Int32} (h : HS T I R b n l r) (hD : D < 2 ^ 31) (k : ∀ I' : tI, frC b I I' → CS T I' R 8 b n l (itS l n D (brS w n r)) → Q none (T, I', J, R)) : Ex X (d + 5) mX6_thinkBridged 0 [.ref 0, .int w, .int (nI D), rU] [] (T, I, J, R) Q := by
  have h' := h
  have h8 := HS_8 h
  obtain ⟨h0, r0, r1, r8, hb, hb2, hv, hC⟩ := h
  have hbr : R 8 2 = some (8 + 3) := hv.2.2.2.2.2.2.2.2.2.1
  simp only [gX6_thinkBridged_0, h0, true_and, r0, r1, rf_some, hv.1]
  refine c_take h' (fun I1 hf1 hC1 => ?_)
  simp only [Option.toList_none, List.nil_append, gX6_thinkBridged_11]
  have loop : ∀ i, i ≤ n → ∀ (I2 : tI), frC b I I2 → CS T I2 R 8 b n l (brS w i r) → Ex X (d + 5) mX6_thinkBridged 13 [.ref 0, .int w, .int (nI D), .int (nI i)] [] (T, I2, J, R) Q := by
    refine loop_up (P := fun i => ∀ (I2 : tI), frC b I I2 → CS T I2 R 8 b n l (brS w i r) → Ex X (d + 5) mX6_thinkBridged 13 [.ref 0, .int w, .int (nI D), .int (nI i)] [] (T, I2, J, R) Q) (n := n) ?_ ?_
    · intro I2 hf2 hC2
      simp only [gX6_thinkBridged_13, h0, true_and, r1, rf_some, hv.1, hC2.2.2.2.2.2.1, nI_le (Nat.le_refl n) (by omega), if_true]
      simp only [gX6_thinkBridged_44, h0, true_and, r1, r8, rf_some, hv.1]
      refine c_pass hC2 hD (fun I3 hf3 hC3 _ => ?_)
      simp only [Option.toList_none, List.nil_append, gX6_thinkBridged_56]
      exact k I3 (frC_t hf2 (frC_p hb hf3)) hC3
    · intro i hi ih I2 hf2 hC2
      simp only [gX6_thinkBridged_13, h0, true_and, r1, rf_some, hv.1, hC2.2.2.2.2.2.1, nI_ge hi (by omega), if_false]
      simp only [gX6_thinkBridged_24, h0, true_and, r1, rf_some, hv.1, hbr, rIn_at hv.2.2.2.1 (show i < 8 by omega) (by decide), nI_clamp (show i < 2 ^ 31 by omega), nI_1]
      generalize hI3 : va_up I2 (8 + 3) (va_up (I2 (8 + 3)) i ((w >>> (nI i &&& 31)) &&& 1)) = I3
      have f23 : ∀ x, x ≠ 8 + 1 + 2 → I3 x = I2 x := fun x hx => by rw [← hI3, up_ne _ _ hx]
      refine ih I3 (frC_t hf2 (fun x hx _ => f23 x (by omega))) (CS_set (k := 2) hC2 (by decide) hi (fun z => absurd z (by decide)) ?_ f23)
      rw [← hI3]
      exact up_self _ _ _
  exact loop 0 (by omega) I1 hf1 hC1
theorem c_bridges {D w : Int32} (h : HS T I R b n l r) (k : ∀ I' : tI, frC b I I' → Q (some (.int (bridgesS n l r D w))) (T, I', J, R)) : Ex X (d + 6) mX6_bridges 0 [.ref 0, .int D, .int w, rU, rU, rU, rU, rU, rU, rU, rU] [] (T, I, J, R) Q := by
  have h' := h
  have h8 := HS_8 h
  obtain ⟨h0, r0, r1, r8, hb, hb2, hv, hC⟩ := h
  have bad : ∀ c : ¬ (inB D 0 20 = true ∧ inB w 0 1 = true), Ex X (d + 6) mX6_bridges 19 [.ref 0, .int D, .int w, rU, rU, rU, rU, rU, rU, rU, rU] [] (T, I, J, R) Q := by
    intro c
    simp only [gX6_bridges_19]
    have := k I (frC_r b I)
    rw [bridgesS, if_neg c] at this
    exact this
  simp only [gX6_bridges_0, gX6_bridges_4, gX6_bridges_10, gX6_bridges_14]
  by_cases c : inB D 0 20 = true ∧ inB w 0 1 = true
  · obtain ⟨d1, d2⟩ := of_decide_eq_true c.1
    obtain ⟨w1, w2⟩ := of_decide_eq_true c.2
    simp only [d1, d2, w1, Int32.not_lt.mp w2, if_false, if_true]
    obtain ⟨D, hD, rfl⟩ := nI_of2 (x := D) (M := 20) (n := 20) (by decide) d1 (Int32.not_lt.mp d2)
    rw [bridgesS, if_pos c, nI_clamp (show D < 2 ^ 31 by omega)] at k
    have hp : (1 : Int32) <<< (nI n &&& 31) = nI (2 ^ n) := pow_n ⟨n, by omega⟩
    have hp2 : 2 ^ n ≤ 256 := pow_le ⟨n, by omega⟩
    generalize 2 ^ n = N at k hp hp2
    have loop : ∀ (m i : Nat) (I1 : tI) (few low wh : Int32) (v7 v8 v9 v10 : Value), i + m = N → frC b I I1 → (∀ I' : tI, frC b I I' → Q (some (.int (brgS l n D r w m i few low wh))) (T, I', J, R)) →
        Ex X (d + 6) mX6_bridges 33 [.ref 0, .int (nI D), .int w, .int few, .int low, .int wh, .int (nI i), v7, v8, v9, v10] [] (T, I1, J, R) Q := by
      intro m
      induction m with
      | zero =>
        intro i I1 few low wh v7 v8 v9 v10 hi hf1 k
        have hn := (HS_fr h' hf1).2.2.2.2.2.2.2.2.2.2.2.2.1
        simp only [gX6_bridges_33, h0, true_and, r0, rf_some, hC.2.1.1, hn, hp, nI_le (show N ≤ i by omega) (by omega), if_true, gX6_bridges_161, ne_eq]
        have := k I1 hf1
        rw [brgS] at this
        by_cases e : w = 0
        · simp only [e, not_true_eq_false, if_false, if_true, gX6_bridges_165, gX6_bridges_171] at this ⊢
          exact this
        · simp only [e, not_false_eq_true, if_false, if_true, gX6_bridges_169, gX6_bridges_171] at this ⊢
          exact this
      | succ m ih =>
        intro i I1 few low wh v7 v8 v9 v10 hi hf1 k
        have hH1 := HS_fr h' hf1
        have hn := hH1.2.2.2.2.2.2.2.2.2.2.2.2.1
        simp only [gX6_bridges_33, h0, true_and, r0, rf_some, hC.2.1.1, hn, hp, nI_ge (show i < N by omega) (by omega), if_false]
        simp only [gX6_bridges_47, h0, true_and]
        refine c_thinkBridged hH1 (by omega) (fun I2 hf2 hC2 => ?_)
        have f2 := frC_t hf1 hf2
        simp only [Option.toList_none, List.nil_append, gX6_bridges_54, h0, true_and, r1, rf_some, hv.1]
        refine c_overBits hC2 ?_
        simp only [Option.toList_some, List.cons_append, List.nil_append, gX6_bridges_61]
        refine j_bitCount ?_
        simp only [Option.toList_some, List.cons_append, List.nil_append, gX6_bridges_64, h0, true_and, r1, rf_some, hv.1]
        refine c_levelOfAll hC2 ?_
        rw [brgS] at k
        generalize bcS (ovS n (itS l n D (brS (nI i) n r)) n) = o at k ⊢
        generalize smS (itS l n D (brS (nI i) n r)) n = lv at k ⊢
        have take : ∀ v9 v10 : Int32, betP o lv (nI i) few low wh → Ex X (d + 6) mX6_bridges 144 [.ref 0, .int (nI D), .int w, .int few, .int low, .int wh, .int (nI i), .int o, .int lv, .int v9, .int v10] [] (T, I2, J, R) Q := by
          intro v9 v10 hbt
          rw [if_pos (show betS o lv (nI i) few low wh = true from bet_iff.mpr hbt)] at k
          simp only [gX6_bridges_144, gX6_bridges_155, nI_1]
          exact ih (i + 1) I2 _ _ _ _ _ _ _ (by omega) f2 k
        have skip : ∀ v9 v10 : Int32, ¬ betP o lv (nI i) few low wh → Ex X (d + 6) mX6_bridges 155 [.ref 0, .int (nI D), .int w, .int few, .int low, .int wh, .int (nI i), .int o, .int lv, .int v9, .int v10] [] (T, I2, J, R) Q := by
          intro v9 v10 hbt
          rw [if_neg (show ¬ betS o lv (nI i) few low wh = true from fun z => hbt (bet_iff.mp z))] at k
          simp only [gX6_bridges_155, nI_1]
          exact ih (i + 1) I2 _ _ _ _ _ _ _ (by omega) f2 k
        simp only [Option.toList_some, List.cons_append, List.nil_append, gX6_bridges_73, gX6_bridges_81, gX6_bridges_87, gX6_bridges_94, gX6_bridges_98, gX6_bridges_99, gX6_bridges_107, gX6_bridges_114, gX6_bridges_118, gX6_bridges_119, gX6_bridges_126, ne_eq, show ¬ (1 : Int32) = 0 by decide, not_false_eq_true, not_true_eq_false, if_true, if_false]
        have ff : ¬ few < few := fun z => Int32.lt_irrefl z
        by_cases e1 : o < few
        · have e2 : ¬ o = few := fun z => Int32.lt_irrefl (by rw [z] at e1; exact e1)
          simp only [e1, e2, if_true, if_false, not_false_eq_true]
          exact take _ _ (Or.inl e1)
        · by_cases e2 : o = few
          · by_cases e3 : lv < low
            · have e4 : ¬ lv = low := fun z => Int32.lt_irrefl (by rw [z] at e3; exact e3)
              simp only [e1, e2, e4, if_true, if_false, not_false_eq_true, not_true_eq_false, Int32.not_le.mpr e3, ff]
              rw [e2] at take
              exact take _ _ (Or.inr ⟨rfl, Or.inl e3⟩)
            · by_cases e4 : lv = low
              · simp only [e1, e2, e4, if_true, if_false, not_false_eq_true, not_true_eq_false, Int32.le_refl, ff, gX6_bridges_131]
                rw [e2, e4] at take skip
                refine j_bitCount ?_
                simp only [Option.toList_some, List.cons_append, List.nil_append, gX6_bridges_136]
                refine j_bitCount ?_
                simp only [Option.toList_some, List.cons_append, List.nil_append, gX6_bridges_141]
                by_cases e5 : bcS wh ≤ bcS (nI i)
                · simp only [e5, if_true]
                  exact skip _ _ (fun z => z.elim (fun z => Int32.lt_irrefl z) (fun z => z.2.elim (fun z => Int32.lt_irrefl z) (fun z => Int32.not_lt.mpr e5 z.2)))
                · simp only [e5, if_false]
                  exact take _ _ (Or.inr ⟨rfl, Or.inr ⟨rfl, Int32.not_le.mp e5⟩⟩)
              · simp only [e1, e2, e4, if_true, if_false, not_false_eq_true, not_true_eq_false, Int32.not_lt.mp e3, ff]
                rw [e2] at skip
                exact skip _ _ (fun z => z.elim (fun z => Int32.lt_irrefl z) (fun z => z.2.elim e3 (fun z => e4 z.1)))
          · simp only [e1, e2, if_true, if_false, not_false_eq_true]
            exact skip _ _ (fun z => z.elim e1 (fun z => e2 z.1))
    simp only [gX6_bridges_21]
    exact loop N 0 I 9 0 0 rU rU rU rU (by omega) (frC_r b I) k
  · have b := bad c
    repeat' first | exact b | split
    exact absurd ⟨decide_eq_true ⟨‹_›, ‹_›⟩, decide_eq_true ⟨‹_›, Int32.not_lt.mpr ‹_›⟩⟩ c
theorem m_bridges {D w : Int32} (h : MS T I R n l r) (k : ∀ I' : tI, frM I I' → MS T I' R n l r → Q (some (.int (bridgesS n l r D w))) (T, I', J, R)) : Ex X (d + 6) mX7_bridges 0 [.ref 54, .int D, .int w, rU, rU, rU, rU, rU, rU] [] (T, I, J, R) Q := by
  have h8 := MS_8 h
  have hm := h.1
  have t0 := mt_54 hm
  have bad : ∀ c : ¬ (inB D 0 20 = true ∧ inB w 0 1 = true), Ex X (d + 6) mX7_bridges 19 [.ref 54, .int D, .int w, rU, rU, rU, rU, rU, rU] [] (T, I, J, R) Q := by
    intro c
    simp only [gX7_bridges_19]
    have := k I (frM_r I) h
    rw [bridgesS, if_neg c] at this
    exact this
  simp only [gX7_bridges_0]
  refine s_within ?_
  simp only [Option.toList_some, List.cons_append, List.nil_append, gX7_bridges_7, if10]
  cases g1 : inB D 0 20 with
  | false =>
    simp only [if_true]
    exact bad (by rw [g1]; simp)
  | true =>
  simp only [reduceCtorEq, if_false, gX7_bridges_10]
  refine s_within ?_
  simp only [Option.toList_some, List.cons_append, List.nil_append, gX7_bridges_16, ne_eq, if10]
  cases g2 : inB w 0 1 with
  | false =>
    simp only [not_true_eq_false, if_false]
    exact bad (by rw [g2]; simp)
  | true =>
  simp only [reduceCtorEq, not_false_eq_true, if_true]
  obtain ⟨d1, d2⟩ := of_decide_eq_true g1
  obtain ⟨D, hD, rfl⟩ := nI_of2 (x := D) (M := 20) (n := 20) (by decide) d1 (Int32.not_lt.mp d2)
  rw [bridgesS, if_pos ⟨g1, g2⟩, nI_clamp (show D < 2 ^ 31 by omega)] at k
  have hp : (1 : Int32) <<< (nI n &&& 31) = nI (2 ^ n) := pow_n ⟨n, by omega⟩
  have hp2 : 2 ^ n ≤ 256 := pow_le ⟨n, by omega⟩
  generalize 2 ^ n = N at k hp hp2
  have loop : ∀ (m i : Nat) (I1 : tI) (few low wh : Int32) (v7 v8 : Value), i + m = N → frM I I1 → MS T I1 R n l r → Kp I1 79 n r → (∀ I' : tI, frM I I' → MS T I' R n l r → Q (some (.int (brgS l n D r w m i few low wh))) (T, I', J, R)) →
      Ex X (d + 6) mX7_bridges 41 [.ref 54, .int (nI D), .int w, .int wh, .int few, .int low, .int (nI i), v7, v8] [] (T, I1, J, R) Q := by
    intro m
    induction m with
    | zero =>
      intro i I1 few low wh v7 v8 hi hf1 hM1 hK1 k
      simp only [gX7_bridges_41, t0, true_and, hM1.2.2.1, hp, nI_le (show N ≤ i by omega) (by omega), if_true, gX7_bridges_177, ne_eq]
      have := k I1 hf1 hM1
      rw [brgS] at this
      by_cases e : w = 0
      · simp only [e, not_true_eq_false, if_false, if_true, gX7_bridges_181, gX7_bridges_187] at this ⊢
        exact this
      · simp only [e, not_false_eq_true, if_false, if_true, gX7_bridges_186, gX7_bridges_187] at this ⊢
        exact this
    | succ m ih =>
      intro i I1 few low wh v7 v8 hi hf1 hM1 hK1 k
      simp only [gX7_bridges_41, t0, true_and, hM1.2.2.1, hp, nI_ge (show i < N by omega) (by omega), if_false]
      simp only [gX7_bridges_52]
      have lay : ∀ j, j ≤ n → ∀ (I2 : tI), frM I I2 → MS T I2 R n l (brS (nI i) j r) → Kp I2 79 n r → Ex X (d + 6) mX7_bridges 55 [.ref 54, .int (nI D), .int w, .int wh, .int few, .int low, .int (nI i), .int (nI j), v8] [] (T, I2, J, R) Q := by
        refine loop_up (P := fun j => ∀ (I2 : tI), frM I I2 → MS T I2 R n l (brS (nI i) j r) → Kp I2 79 n r → Ex X (d + 6) mX7_bridges 55 [.ref 54, .int (nI D), .int w, .int wh, .int few, .int low, .int (nI i), .int (nI j), v8] [] (T, I2, J, R) Q) (n := n) ?_ ?_
        · intro I2 hf2 hM2 hK2
          simp only [gX7_bridges_55, t0, true_and, hM2.2.2.1, nI_le (Nat.le_refl n) (by omega), if_true]
          simp only [gX7_bridges_87, t0, true_and]
          refine s_goesOn hM2 (by omega) (fun I3 hf3 hM3 => ?_)
          simp only [Option.toList_none, List.nil_append, gX7_bridges_92, t0, true_and]
          refine s_over hM3 ?_
          simp only [Option.toList_some, List.cons_append, List.nil_append, gX7_bridges_96]
          refine j_bitCount ?_
          simp only [Option.toList_some, List.cons_append, List.nil_append, gX7_bridges_99, t0, true_and]
          refine s_allLevel hM3 ?_
          simp only [Option.toList_some, List.cons_append, List.nil_append, gX7_bridges_105, t0, true_and, mr_38 hm, rf_some]
          have f3 := frM_t hf2 (frM_p hf3)
          have hK3 := Kp_p hK2 (Or.inl rfl) hf3
          refine s_laysBack hM3 hK3 (sB_it _ (br_sB n)) (MS_can h) (MS_ok h) (mt_79 hm) (by decide) (fun I4 hf4 hM4 => ?_)
          have f4 := frM_t f3 (frM_b hf4)
          have hK4 := Kp_fr hK3 (hf4 79 (by decide) (by decide))
          rw [brgS] at k
          generalize bcS (ovS n (itS l n D (brS (nI i) n r)) n) = o at k ⊢
          generalize smS (itS l n D (brS (nI i) n r)) n = lv at k ⊢
          have take : betP o lv (nI i) few low wh → Ex X (d + 6) mX7_bridges 160 [.ref 54, .int (nI D), .int w, .int wh, .int few, .int low, .int (nI i), .int o, .int lv] [] (T, I4, J, R) Q := by
            intro hbt
            rw [if_pos (show betS o lv (nI i) few low wh = true from bet_iff.mpr hbt)] at k
            simp only [gX7_bridges_160, gX7_bridges_171, nI_1]
            exact ih (i + 1) I4 _ _ _ _ _ (by omega) f4 hM4 hK4 k
          have skip : ¬ betP o lv (nI i) few low wh → Ex X (d + 6) mX7_bridges 171 [.ref 54, .int (nI D), .int w, .int wh, .int few, .int low, .int (nI i), .int o, .int lv] [] (T, I4, J, R) Q := by
            intro hbt
            rw [if_neg (show ¬ betS o lv (nI i) few low wh = true from fun z => hbt (bet_iff.mp z))] at k
            simp only [gX7_bridges_171, nI_1]
            exact ih (i + 1) I4 _ _ _ _ _ (by omega) f4 hM4 hK4 k
          simp only [Option.toList_none, List.nil_append, gX7_bridges_117, gX7_bridges_124, gX7_bridges_131, gX7_bridges_138, ne_eq]
          by_cases e1 : few < o
          · simp only [e1, if_true]
            exact skip (fun z => z.elim (fun z => Int32.lt_irrefl (Int32.lt_trans z e1)) (fun z => Int32.lt_irrefl (by rw [z.1] at e1; exact e1)))
          · by_cases e2 : o = few
            · simp only [e1, e2, if_false, not_true_eq_false, show ¬ few < few from fun z => Int32.lt_irrefl z]
              rw [e2] at take skip
              by_cases e3 : low < lv
              · simp only [e3, if_true]
                exact skip (fun z => z.elim (fun z => Int32.lt_irrefl z) (fun z => z.2.elim (fun z => Int32.lt_irrefl (Int32.lt_trans z e3)) (fun z => Int32.lt_irrefl (by rw [z.1] at e3; exact e3))))
              · by_cases e4 : lv = low
                · simp only [e3, e4, if_false, not_true_eq_false, show ¬ low < low from fun z => Int32.lt_irrefl z, gX7_bridges_145]
                  rw [e4] at take skip
                  refine j_bitCount ?_
                  simp only [Option.toList_some, List.cons_append, List.nil_append, gX7_bridges_150]
                  refine j_bitCount ?_
                  simp only [Option.toList_some, List.cons_append, List.nil_append, gX7_bridges_154]
                  by_cases e5 : bcS (nI i) < bcS wh
                  · simp only [e5, if_true]
                    exact take (Or.inr ⟨rfl, Or.inr ⟨rfl, e5⟩⟩)
                  · simp only [e5, if_false, gX7_bridges_157]
                    exact skip (fun z => z.elim (fun z => Int32.lt_irrefl z) (fun z => z.2.elim (fun z => Int32.lt_irrefl z) (fun z => e5 z.2)))
                · simp only [e3, e4, if_false, not_false_eq_true, if_true]
                  exact take (Or.inr ⟨rfl, Or.inl (Int32.lt_of_le_of_ne (Int32.not_lt.mp e3) e4)⟩)
            · simp only [e1, e2, if_false, not_false_eq_true, if_true]
              exact take (Or.inl (Int32.lt_of_le_of_ne (Int32.not_lt.mp e1) e2))
        · intro j hj ihj I2 hf2 hM2 hK2
          simp only [gX7_bridges_55, t0, true_and, hM2.2.2.1, nI_ge hj (by omega), if_false]
          simp only [gX7_bridges_64, t0, true_and, mr_1 hm, rf_some, z_16, rIn_at (mt_55 hm) (show 16 + j < 32 by omega) (by decide), nI_clamp (show 16 + j < 2 ^ 31 by omega), nI_1]
          generalize hI3 : va_up I2 55 (va_up (I2 55) (16 + j) ((nI i >>> (nI j &&& 31)) &&& 1)) = I3
          have f23 : ∀ x, x ≠ 55 → I3 x = I2 x := fun x hx => by rw [← hI3, up_ne _ _ hx]
          refine ihj I3 (frM_t hf2 (fun x hx => f23 x (by omega))) (MS_set (k := 2) hM2 (by decide) hj (fun z => absurd z (by decide)) ?_ f23) (Kp_fr hK2 (f23 79 (by decide)))
          rw [← hI3]
          exact up_self _ _ _
      exact lay 0 (by omega) I1 hf1 hM1 hK1
  simp only [gX7_bridges_21, t0, true_and, mr_38 hm, rf_some]
  refine s_keeps h (mt_79 hm) (by decide) (fun I1 hf1 hK1 => ?_)
  simp only [Option.toList_none, List.nil_append, gX7_bridges_29]
  exact loop N 0 I1 9 0 0 rU rU (by omega) (frM_k hf1 (Or.inl rfl)) (MS_k h hf1 (by decide)) hK1 k
end BR
