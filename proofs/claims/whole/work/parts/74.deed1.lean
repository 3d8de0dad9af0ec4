/-! PURE: law, feed, of, led, count, trace, body joined -/
section D1
variable {X : tX} {T : tT} {I I' I1 I2 : tI} {J J' : tJ} {R R' : tR} {Q : tQ} {d b b2 n L0 : Nat} {xs : Nat → Int32} {l : tL} {r : Nat → Nat → Int32} {sh : tSh} {ld : Nat → Int32} {im : tIm} {tp : tTp} {ch : tCh} {st : tSt}
theorem IsMod_R (h : IsMod T R) (hR : R' 54 = R 54) : IsMod T R' := by
  unfold IsMod at h ⊢
  rw [hR]
  exact h
theorem MS_R (h : MS T I R n l r) (hR : R' 54 = R 54) : MS T I R' n l r := ⟨IsMod_R h.1 hR, h.2⟩
theorem CSh_R {s : Nat} {hk : Int32} {ln : Nat} {el : Nat → Int64} (h : CSh T I J R s hk ln el) (hR : R' (42 + 2 * s) = R (42 + 2 * s)) : CSh T I J R' s hk ln el := by
  unfold CSh
  rw [hR]
  exact h
/-- the TAPE emptied, another Law in force -/
theorem CA_law {b3 : Nat} (h : CA T I J R b2 sh ld im tp ch st) (hf : ∀ x, x = 0 ∨ (15 ≤ x ∧ x ≤ 24) ∨ (33 ≤ x ∧ x ≤ 53) → I' x = I x) (h25 : I' 25 1 = nI 0) (hR : ∀ x, x ≠ 25 → x ≠ 0 → R' x = R x) (h0 : ∀ i, i ≠ 8 → R' 0 i = R 0 i) (hK : RK T R' b3) : CA T I' J R' b3 sh ld im (0, tp.2) ch st := by
  obtain ⟨⟨⟨s1, s2, s3⟩, a2⟩, ⟨c1, c2, c3⟩, ⟨i1, i2, i3, i4, i5⟩, ⟨p1, p2⟩, ⟨q1, q2, q3⟩, ⟨t1, t2, t3⟩, a8, a9⟩ := h
  refine ⟨⟨⟨s1, by rw [h0 11 (by decide)]; exact s2, fun s hs => by rw [hR 41 (by decide) (by decide)]; exact s3 s hs⟩, fun s hs => CSh_R (CSh_f2 (a2 s hs) (hf _ (by omega)) rfl) (hR _ (by omega) (by omega))⟩, CLd_f (I := I) ⟨c1, by rw [h0 3 (by decide)]; exact c2, c3⟩ (hf _ (by omega)), CIm_f (I := I) ⟨?_, by rw [h0 2 (by decide)]; exact i2, i3, by rw [h0 4 (by decide)]; exact i4, i5⟩ (fun x hx => hf _ (by omega)), ⟨by rw [h0 7 (by decide)]; exact p1, hK, h25, fun i hi => absurd hi (Nat.not_lt_zero i)⟩, CCh_f (I := I) ⟨by rw [h0 9 (by decide)]; exact q1, ?_, q3⟩ (fun x hx => hf _ (by omega)), CSt_f (I := I) ⟨by rw [h0 10 (by decide)]; exact t1, ?_, t3⟩ (fun x hx => hf _ (by omega)), a8, by rw [h0 6 (by decide)]; exact a9⟩
  · unfold IsRiv
    rw [hR 15 (by decide) (by decide)]
    exact i1
  · unfold CK
    rw [hR 33 (by decide) (by decide)]
    exact q2
  · unfold SK
    rw [hR 38 (by decide) (by decide)]
    exact t2
theorem j_law : Jn X (d + 50) (d + 50) mX6_law [.ref 0, rU] mX7_law [.ref 54, rU, rU, rU] := by
  rintro T I J R ⟨ht1, ht2, b, b2, n, l, r, sh, ld, im, tp, ch, st, hb, hH, hC, hM, hA, hP⟩
  obtain ⟨p1, p2, p3, p4⟩ := hC.2.2.2.1
  obtain ⟨f1, f2, f3, f4, f5, f6⟩ := hP
  refine ⟨lwA (pxA tp.2 tp.1), c_law (d := d + 2) hH p2 p1 hb.1 hb.2 hH.2.2.2.2.2.2.2.1 p3 f6 p4 (fun I1 R1 c1 c2 g1 g2 g3 g4 gH gK gc gb gL => ⟨rfl, rfl, ?_⟩)⟩
  have hb2 : b2 = 27 ∨ b2 = 30 := p2.2.2.2.2.2
  have far : ∀ x, 53 < x → I1 x = I x := fun x hx => g1 x (by omega) (by omega) (by omega)
  have hM1 : MS T I1 R1 n l r := MS_R (MS_fr hM (fun x hx => far x (by omega))) (g3 54 (by decide) (by decide))
  obtain ⟨m1, m2⟩ := hA.2.2.2.1
  refine m_law (d := d + 4) hM1 (by rw [far 54 (by omega)]; exact m1) f6 (fun i hi => by rw [far 58 (by omega)]; exact m2 i hi) (fun I2 e1 e2 e3 hM2 => ⟨rfl, ?_⟩)
  have nr : ∀ x, x < 54 → I2 x = I1 x := fun x hx => e1 x (by omega) (by omega)
  refine ⟨ht1, ht2, c1, c2, n, _, r, sh, ld, im, (0, tp.2), ch, st, ⟨gc, gb⟩, HS_f2 gH (fun x hx => nr x (by omega)), CA_law hC (fun x hx => ?_) ?_ g3 g4 gK, hM2, ?_, f1, f2, f3, f4, f5, by show (0 : Nat) ≤ 120; omega⟩
  · show I2 x = I x
    rw [nr x (by omega), g1 x (by omega) (by omega) (by omega)]
  · show I2 25 1 = nI 0
    rw [nr 25 (by omega)]
    exact g2
  · obtain ⟨a1, a2, a3, a4, a5, a6⟩ := hA
    have q : ∀ x, 69 ≤ x → x ≤ 76 → I2 x = I x := fun x x1 x2 => by rw [e1 x (by omega) (by omega), far x (by omega)]
    have s : ∀ i, i = 23 ∨ i = 24 ∨ i = 27 ∨ i = 28 ∨ i = 30 ∨ i = 32 → I2 54 i = I 54 i := fun i hi => by rw [e2 i (by omega) (by omega) (by omega) (by omega), far 54 (by omega)]
    exact ⟨fun s' hs' => MSh_f (a1 s' hs') (q 75 (by omega) (by omega)) (q 76 (by omega) (by omega)) rfl, fun i hi => by show I2 69 i = _; rw [q 69 (by omega) (by omega)]; exact a2 i hi, MIm_f a3 (s _ (by omega)) (s _ (by omega)) (q _ (by omega) (by omega)) (q _ (by omega) (by omega)), ⟨e3, fun i hi => absurd hi (Nat.not_lt_zero i)⟩, MCh_f a5 (s _ (by omega)) (s _ (by omega)) (q _ (by omega) (by omega)), MSt_f a6 (s _ (by omega)) (s _ (by omega)) (q _ (by omega) (by omega)) (q _ (by omega) (by omega))⟩
def feedS (N : Nat) (v : Int32) : Int32 := if inB v 0 255 = true then (if N = 120 then -3 else nI (N + 1)) else -1
theorem j_feed {v : Int32} : Jn X (d + 50) (d + 50) mX6_feed [.ref 0, .int v] mX7_feed [.ref 54, .int v] := by
  rintro T I J R ⟨ht1, ht2, b, b2, n, l, r, sh, ld, im, tp, ch, st, hb, hH, hC, hM, hA, hP⟩
  have hC' := hC
  have hA' := hA
  obtain ⟨⟨a1, a2⟩, a3, a4, ⟨p1, p2, p3, p4⟩, a6, a7, a8, a9⟩ := hC
  obtain ⟨m1, m2, m3, ⟨q1, q2⟩, m5, m6⟩ := hA
  obtain ⟨f1, f2, f3, f4, f5, f6⟩ := id hP
  obtain ⟨t25, k0, t26, k3, kL, kb⟩ := id p2
  have h0 := hH.1
  have hm := hM.1
  have t0 := mt_54 hm
  have bb := hb.2
  refine ⟨feedS tp.1 v, ?_⟩
  have stay : Rl (T, I, J, R) := ⟨ht1, ht2, b, b2, n, l, r, sh, ld, im, tp, ch, st, hb, hH, hC', hM, hA', hP⟩
  unfold feedS
  by_cases c : inB v 0 255 = true
  · obtain ⟨w1, w2⟩ := of_decide_eq_true c
    simp only [gX6_feed_0, w1, if_false, gX6_feed_4, Int32.not_lt.mp w2, if_true, gX6_feed_13, h0, true_and, p1, rf_some, t25, gX2_takes_0, p3, c]
    by_cases e : tp.1 = 120
    · have ge : ¬ nI tp.1 < 120 := by rw [e]; decide
      simp only [ge, if_false, gX2_takes_9, Option.toList_some, List.cons_append, List.nil_append, gX6_feed_21, if_true, gX6_feed_34, gX6_feed_36, true_or, true_and, e]
      simp only [gX7_feed_0]
      refine s_within ?_
      simp only [Option.toList_some, List.cons_append, List.nil_append, gX7_feed_8, c, if_true, ne_eq, show ¬ (1 : Int32) = 0 by decide, not_false_eq_true, gX7_feed_13, t0, true_and, q1, e, show nI 120 = 120 by decide, not_true_eq_false, if_false, gX7_feed_22]
      exact stay
    · have lt : tp.1 < 120 := by omega
      simp only [show nI tp.1 < 120 from nI_lt (b := 120) lt (by decide), if_true, gX2_takes_11, t25, true_and, k0, rf_some, p3, nI_1, rIn_at t26 lt (by decide), nI_clamp (show tp.1 < 2 ^ 31 by omega), or_true, Option.toList_some, List.cons_append, List.nil_append, gX6_feed_21, show ¬ (1 : Int32) = 0 by decide, if_false, gX6_feed_24, h0, p1, up_ne _ _ (show (25 : Nat) ≠ 26 by decide), up_self, gX6_feed_36, e]
      generalize hI1 : va_up (va_up I 25 (va_up (I 25) 1 (nI (tp.1 + 1)))) 26 (va_up (va_up I 25 (va_up (I 25) 1 (nI (tp.1 + 1))) 26) tp.1 v) = I1
      have g1 : ∀ x, x ≠ 25 → x ≠ 26 → I1 x = I x := fun x x1 x2 => by rw [← hI1, up_ne _ _ x2, up_ne _ _ x1]
      have g2 : I1 25 1 = nI (tp.1 + 1) := by rw [← hI1, up_ne _ _ (by decide), up_self, up_self]
      have g3 : I1 26 = va_up (I 26) tp.1 v := by rw [← hI1, up_self, up_ne _ _ (by decide)]
      have s54 : I1 54 = I 54 := g1 54 (by decide) (by decide)
      simp only [gX7_feed_0]
      refine s_within ?_
      have ne : ¬ nI tp.1 = 120 := fun z => e ((nI_eq (by omega) (by decide)).mp (show nI tp.1 = nI 120 from z))
      have q1' : I1 54 4 = nI tp.1 := by rw [s54]; exact q1
      simp only [Option.toList_some, List.cons_append, List.nil_append, gX7_feed_8, c, if_true, ne_eq, show ¬ (1 : Int32) = 0 by decide, not_false_eq_true, gX7_feed_13, t0, true_and, q1', ne, gX7_feed_25, mr_5 hm, rf_some, nI_1, rIn_at (mt_58 hm) lt (by decide), nI_clamp (show tp.1 < 2 ^ 31 by omega), up_ne _ _ (show (54 : Nat) ≠ 58 by decide), up_self]
      generalize hI2 : va_up (va_up I1 54 (va_up (I1 54) 4 (nI (tp.1 + 1)))) 58 (va_up (va_up I1 54 (va_up (I1 54) 4 (nI (tp.1 + 1))) 58) tp.1 v) = I2
      have e1 : ∀ x, x ≠ 54 → x ≠ 58 → I2 x = I1 x := fun x x1 x2 => by rw [← hI2, up_ne _ _ x2, up_ne _ _ x1]
      have e2 : ∀ i, i ≠ 4 → I2 54 i = I1 54 i := fun i hi => by rw [← hI2, up_ne _ _ (by decide), up_self, up_ne _ _ hi]
      have e3 : I2 54 4 = nI (tp.1 + 1) := by rw [← hI2, up_ne _ _ (by decide), up_self, up_self]
      have e4 : I2 58 = va_up (I 58) tp.1 v := by rw [← hI2, up_self, up_ne _ _ (by decide), g1 58 (by decide) (by decide)]
      have all : ∀ x, x ≠ 25 → x ≠ 26 → x ≠ 54 → x ≠ 58 → I2 x = I x := fun x x1 x2 x3 x4 => by rw [e1 x x3 x4, g1 x x1 x2]
      have sl : ∀ i, i ≠ 4 → I2 54 i = I 54 i := fun i hi => by rw [e2 i hi, s54]
      have up : ∀ i, i < tp.1 + 1 → va_up tp.2 tp.1 v i = va_up tp.2 tp.1 v i := fun _ _ => rfl
      refine ⟨ht1, ht2, b, b2, n, l, r, sh, ld, im, (tp.1 + 1, va_up tp.2 tp.1 v), ch, st, hb, HS_f2 hH (fun x hx => all x (by omega) (by omega) (by omega) (by omega)), ⟨⟨a1, fun s hs => CSh_f2 (a2 s hs) (all _ (by omega) (by omega) (by omega) (by omega)) rfl⟩, CLd_f a3 (all _ (by omega) (by omega) (by omega) (by omega)), CIm_f a4 (fun x hx => all _ (by omega) (by omega) (by omega) (by omega)), ⟨p1, p2, ?_, fun i hi => ?_⟩, CCh_f a6 (fun x hx => all _ (by omega) (by omega) (by omega) (by omega)), CSt_f a7 (fun x hx => all _ (by omega) (by omega) (by omega) (by omega)), a8, a9⟩, MS_fs hM (fun x hx => all x (by omega) (by omega) (by omega) (by omega)) (sl 0 (by decide)) (sl 6 (by decide)) (sl 7 (by decide)), ⟨fun s hs => MSh_f (m1 s hs) (all _ (by omega) (by omega) (by omega) (by omega)) (all _ (by omega) (by omega) (by omega) (by omega)) rfl, fun i hi => by show I2 69 i = _; rw [all 69 (by omega) (by omega) (by omega) (by omega)]; exact m2 i hi, MIm_f m3 (sl _ (by omega)) (sl _ (by omega)) (all _ (by omega) (by omega) (by omega) (by omega)) (all _ (by omega) (by omega) (by omega) (by omega)), ⟨e3, fun i hi => ?_⟩, MCh_f m5 (sl _ (by omega)) (sl _ (by omega)) (all _ (by omega) (by omega) (by omega) (by omega)), MSt_f m6 (sl _ (by omega)) (sl _ (by omega)) (all _ (by omega) (by omega) (by omega) (by omega)) (all _ (by omega) (by omega) (by omega) (by omega))⟩, f1, f2, f3, f4, f5, by show tp.1 + 1 ≤ 120; omega⟩
      · show I2 25 1 = nI (tp.1 + 1)
        rw [e1 25 (by decide) (by decide)]
        exact g2
      · have hi' : i < tp.1 + 1 := hi
        show I2 26 i = va_up tp.2 tp.1 v i
        rw [e1 26 (by decide) (by decide), g3]
        by_cases ei : i = tp.1
        · rw [ei, up_self, up_self]
        · rw [up_ne _ _ ei, up_ne _ _ ei]
          exact p4 i (by omega)
      · have hi' : i < tp.1 + 1 := hi
        show I2 58 i = va_up tp.2 tp.1 v i
        rw [e4]
        by_cases ei : i = tp.1
        · rw [ei, up_self, up_self]
        · rw [up_ne _ _ ei, up_ne _ _ ei]
          exact q2 i (by omega)
  · have mm : Ex X (d + 50) mX7_feed 0 [.ref 54, .int v] [] (T, I, J, R) (fun v2 σ2 => v2 = some (.int (-1)) ∧ Rl σ2) := by
      simp only [gX7_feed_0]
      refine s_within ?_
      simp only [Option.toList_some, List.cons_append, List.nil_append, gX7_feed_8, c, if_false, ne_eq, not_true_eq_false, gX7_feed_11, Bool.false_eq_true]
      exact ⟨trivial, stay⟩
    have b' : Ex X (d + 50) mX6_feed 11 [.ref 0, .int v] [] (T, I, J, R) (fun v1 σ1 => v1 = some (.int (-1)) ∧ σ1.1 = T ∧ Ex X (d + 50) mX7_feed 0 [.ref 54, .int v] [] σ1 (fun v2 σ2 => v2 = some (.int (-1)) ∧ Rl σ2)) := by
      simp only [gX6_feed_11]
      exact ⟨trivial, trivial, mm⟩
    rw [if_neg c]
    simp only [gX6_feed_0, gX6_feed_4]
    repeat' first | exact b' | split
    exact absurd (decide_eq_true ⟨‹_›, Int32.not_lt.mpr ‹_›⟩) c
end D1
