/-! PURE: image, back joined -/
def bkS (n0 : Nat) (q r : Nat → Nat → Int32) : Nat → Nat → Int32 := fun k i => if (k = 0 ∨ k = 2 ∨ k = 3) ∧ i < n0 then q k i else if k = 5 ∧ i = 1 then q 5 1 else r k i
section D14
variable {X : tX} {T : tT} {I I' I1 I2 : tI} {J J' J1 J2 : tJ} {R R' : tR} {Q : tQ} {d b b2 n n' n0 L0 p : Nat} {xs : Nat → Int32} {l : tL} {r r' q : Nat → Nat → Int32} {sh sh' : tSh} {ld ld' : Nat → Int32} {im : tIm} {tp : tTp} {ch ch' : tCh} {st : tSt}
theorem c_image (h : HS T I R b n l r) (hL : CLd T I R ld) (hI : CIm T I R im) (k : ∀ I' : tI, (∀ x, (1 ≤ x ∧ x ≤ 14) ∨ x = 21 ∨ x = 22 ∨ 23 < x → I' x = I x) → CIm T I' R (true, n, r, ld) → Q (some (.int (ld 0))) (T, I', J, R)) : Ex X (d + 6) mX6_image 0 [.ref 0] [] (T, I, J, R) Q := by
  have h8 := HS_8 h
  obtain ⟨h0, r0, r1, r8, hb, hb2, hv, hC⟩ := id h
  obtain ⟨c1, c2, c3⟩ := hL
  obtain ⟨v15, m2, t23, m4, m5, -⟩ := hI
  have n5 : (5 : Int32).toNatClampNeg = 5 := by decide
  simp only [gX6_image_0, h0, true_and, r0, m2, rf_some, v15.1]
  refine p_take v15 hC.2.1 (Or.inr (by decide)) hC.2.2.2.2.2.1 h8 (fun I1 f1 e8 e7 hc => ?_)
  simp only [Option.toList_none, List.nil_append, gX6_image_11, h0, true_and, c2, m4, rf_some]
  rw [cX6_image_22 c1 t23 ⟨z_lt0, z_lt0, by decide⟩ (by rw [n5, clamp_0]; omega)]
  have L22 : I1 22 = I 22 := f1 22 (by omega)
  have i0 : rIn T 22 0 0 := rIn_at (k := 0) c1 (by decide) (by decide)
  simp only [gX6_image_11, h0, true_and, or_true, c2, rf_some, i0, n5, clamp_0, up_ne _ _ (show (22 : Nat) ≠ 0 by decide), up_ne _ _ (show (22 : Nat) ≠ 23 by decide), L22, c3 0 (by decide)]
  have hr : can n (vw I 1) = r := hC.2.2.2.2.2.2.2.1
  rw [hr] at hc
  refine k _ (fun x hx => by rw [up_ne _ _ (by omega), up_ne _ _ (by omega)]; exact f1 x (by omega)) ⟨v15, m2, t23, m4, by rw [up_self, up_self]; rfl, fun _ => ?_⟩
  have g : ∀ x, x ≠ 0 → x ≠ 23 → va_up (va_up I1 23 (va_cpy (I 22) (I1 23) 0 0 5)) 0 (va_up (va_up I1 23 (va_cpy (I 22) (I1 23) 0 0 5) 0) 5 1) x = I1 x := fun x x1 x2 => by rw [up_ne _ _ x1, up_ne _ _ x2]
  refine ⟨by rw [g 15 (by decide) (by decide)]; exact e8, fun p hp => ?_, ?_, fun i hi => ?_⟩
  · rw [g 16 (by decide) (by decide), g 18 (by decide) (by decide), g 19 (by decide) (by decide)]
    show I1 16 p = r 0 p ∧ I1 18 p = r 2 p ∧ I1 19 p = r 3 p
    rw [← hc, can_lt (by decide) hp, can_lt (by decide) hp, can_lt (by decide) hp]
    exact ⟨rfl, rfl, rfl⟩
  · rw [g 15 (by decide) (by decide)]
    show I1 15 7 = r 5 1
    rw [← hc, can_5 (by decide)]
    rfl
  · rw [up_ne _ _ (by decide), up_self, cpy_lt hi]
    exact c3 i hi
theorem m_image (h : MS T I R n l r) (hL : ∀ i, i < 5 → I 69 i = ld i) (k : ∀ I' : tI, (∀ x, x ≠ 54 → x ≠ 70 → x ≠ 71 → I' x = I x) → (∀ y, y ≠ 23 → y ≠ 24 → I' 54 y = I 54 y) → MIm I' (true, n, r, ld) → Q (some (.int (ld 0))) (T, I', J, R)) : Ex X (d + 6) mX7_image 0 [.ref 54, rU] [] (T, I, J, R) Q := by
  have h8 := MS_8 h
  have hm := h.1
  have t0 := mt_54 hm
  have hn : I 54 0 = nI n := h.2.2.1
  simp only [gX7_image_0, t0, true_and, or_true, up_self, up_ne _ _ (show (0 : Nat) ≠ 23 by decide), hn, mr_25 hm, rf_some]
  generalize hI1 : va_up (va_up I 54 (va_up (I 54) 23 1)) 54 (va_up (va_up (I 54) 23 1) 24 (nI n)) = I1
  have g1 : ∀ x, x ≠ 54 → I1 x = I x := fun x hx => by rw [← hI1, up_ne _ _ hx, up_ne _ _ hx]
  have g2 : ∀ y, y ≠ 23 → y ≠ 24 → I1 54 y = I 54 y := fun y y1 y2 => by rw [← hI1, up_self, up_ne _ _ y2, up_ne _ _ y1]
  have g3 : I1 54 23 = 1 := by rw [← hI1, up_self, up_ne _ _ (by decide), up_self]
  have g4 : I1 54 24 = nI n := by rw [← hI1, up_self, up_self]
  have hM1 : MS T I1 R n l r := MS_fs h (fun x hx => g1 x (by omega)) (g2 0 (by decide) (by decide)) (g2 6 (by decide) (by decide)) (g2 7 (by decide) (by decide))
  refine s_keeps hM1 (mt_70 hm) (by decide) (fun I2 f2 hK2 => ?_)
  simp only [Option.toList_none, List.nil_append, gX7_image_21]
  have L69 : I2 69 = I 69 := by rw [f2 69 (by decide), g1 69 (by decide)]
  have loop : ∀ i, i ≤ 5 → ∀ I3 : tI, (∀ x, x ≠ 71 → I3 x = I2 x) → (∀ y, y < i → I3 71 y = ld y) → Ex X (d + 6) mX7_image 23 [.ref 54, .int (nI i)] [] (T, I3, J, R) Q := by
    refine loop_up (P := fun i => ∀ I3 : tI, (∀ x, x ≠ 71 → I3 x = I2 x) → (∀ y, y < i → I3 71 y = ld y) → Ex X (d + 6) mX7_image 23 [.ref 54, .int (nI i)] [] (T, I3, J, R) Q) (n := 5) ?_ ?_
    · intro I3 a1 a2
      have i0 : rIn T 69 0 0 := rIn_at (k := 0) (mt_69 hm) (by decide) (by decide)
      have e0 : I3 69 0 = ld 0 := by rw [a1 69 (by decide), L69]; exact hL 0 (by decide)
      simp only [gX7_image_23, show (5 : Int32) ≤ nI 5 by decide, if_true, gX7_image_46, t0, true_and, mr_22 hm, rf_some, i0, clamp_0, e0]
      have s54 : I3 54 = I1 54 := by rw [a1 54 (by decide), f2 54 (by decide)]
      refine k I3 (fun x x1 x2 x3 => by rw [a1 x x3, f2 x x2, g1 x x1]) (fun y y1 y2 => by rw [s54, g2 y y1 y2]) ⟨by rw [s54, g3]; rfl, fun _ => ⟨by rw [s54]; exact g4, Kp_fr hK2 (a1 70 (by decide)), a2⟩⟩
    · intro i hi ih I3 a1 a2
      have e0 : I3 69 i = ld i := by rw [a1 69 (by decide), L69]; exact hL i hi
      simp only [gX7_image_23, show ¬ (5 : Int32) ≤ nI i from nI_ge (b := 5) hi (by decide), if_false]
      simp only [gX7_image_28, t0, true_and, mr_22 hm, mr_26 hm, rf_some, rIn_at (mt_69 hm) hi (by decide), rIn_at (mt_71 hm) hi (by decide), nI_clamp (show i < 2 ^ 31 by omega), e0, nI_1]
      refine ih _ (fun x hx => by rw [up_ne _ _ hx]; exact a1 x hx) (fun y hy => ?_)
      rw [up_self]
      by_cases ey : y = i
      · rw [ey, up_self]
      · rw [up_ne _ _ ey]; exact a2 y (by omega)
  exact loop 0 (by omega) I2 (fun _ _ => rfl) (fun y hy => absurd hy (Nat.not_lt_zero y))
theorem j_image : Jn X (d + 50) (d + 50) mX6_image [.ref 0] mX7_image [.ref 54, rU] := by
  rintro T I J R ⟨ht1, ht2, b, b2, n, l, r, sh, ld, im, tp, ch, st, hb, hH, hC, hM, hA, hP⟩
  have bb := hb.2
  obtain ⟨p1, p2, p3, p4, p5, p6⟩ := hP
  obtain ⟨⟨a1, a2⟩, a3, a4, a5, a6, a7, a8, a9⟩ := hC
  obtain ⟨m1, m2, m3, m4, m5, m6⟩ := hA
  refine ⟨ld 0, c_image (d := d + 44) hH a3 a4 (fun I1 f1 hI1 => ⟨rfl, rfl, ?_⟩)⟩
  refine m_image (ld := ld) (d := d + 44) (MS_fr hM (fun x hx => f1 x (by omega))) (fun i hi => by rw [f1 69 (by omega)]; exact m2 i hi) (fun I2 f2 g2 hI2 => ⟨rfl, ?_⟩)
  have al : ∀ x, ((1 ≤ x ∧ x ≤ 14) ∨ x = 21 ∨ x = 22 ∨ 23 < x) → x ≠ 54 → x ≠ 70 → x ≠ 71 → I2 x = I x := fun x x1 x2 x3 x4 => by rw [f2 x x2 x3 x4, f1 x x1]
  have sl : ∀ y, y ≠ 23 → y ≠ 24 → I2 54 y = I 54 y := fun y y1 y2 => by rw [g2 y y1 y2, f1 54 (by omega)]
  refine ⟨ht1, ht2, b, b2, n, l, r, sh, ld, (true, n, r, ld), tp, ch, st, hb, HS_f2 hH (fun x hx => al x (by omega) (by omega) (by omega) (by omega)), ⟨⟨a1, fun s hs => CSh_f2 (a2 s hs) (al _ (by omega) (by omega) (by omega) (by omega)) rfl⟩, CLd_f a3 (al _ (by omega) (by omega) (by omega) (by omega)), CIm_f hI1 (fun x hx => f2 x (by omega) (by omega) (by omega)), CTp_f a5 (al _ (by omega) (by omega) (by omega) (by omega)) (al _ (by omega) (by omega) (by omega) (by omega)), CCh_f a6 (fun x hx => al x (by omega) (by omega) (by omega) (by omega)), CSt_f a7 (fun x hx => al x (by omega) (by omega) (by omega) (by omega)), a8, a9⟩, MS_fs hM (fun x hx => al x (by omega) (by omega) (by omega) (by omega)) (sl 0 (by decide) (by decide)) (sl 6 (by decide) (by decide)) (sl 7 (by decide) (by decide)), ⟨fun s hs => MSh_f (m1 s hs) (al _ (by omega) (by omega) (by omega) (by omega)) (al _ (by omega) (by omega) (by omega) (by omega)) rfl, fun i hi => by show I2 69 i = _; rw [al 69 (by omega) (by omega) (by omega) (by omega)]; exact m2 i hi, hI2, MTp_f m4 (sl _ (by omega) (by omega)) (al _ (by omega) (by omega) (by omega) (by omega)), MCh_f m5 (sl _ (by omega) (by omega)) (sl _ (by omega) (by omega)) (al _ (by omega) (by omega) (by omega) (by omega)), MSt_f m6 (sl _ (by omega) (by omega)) (sl _ (by omega) (by omega)) (al _ (by omega) (by omega) (by omega) (by omega)) (al _ (by omega) (by omega) (by omega) (by omega))⟩, p1, fun _ => ⟨Nat.le_refl n, fun p hp => ?_, (MS_ok hM).2⟩, p3, p4, p5, p6⟩
  have e0 := p1 0 p (by decide) hp
  have e2 := p1 2 p (by decide) hp
  have e3 := p1 3 p (by decide) hp
  rw [fitB_j (by decide)] at e0 e2 e3
  exact ⟨e0, e2, e3⟩
theorem bk_fit (h : fitR n r) (h1 : n0 ≤ n) (h2 : ∀ p, p < n0 → inB (q 0 p) 0 99 = true ∧ inB (q 2 p) 0 1 = true ∧ inB (q 3 p) 0 9 = true) (h3 : ∃ t : Nat, t < 7 ∧ q 5 1 = nI t) : fitR n (bkS n0 q r) := by
  intro j i hj hi
  have key : getS (bkS n0 q r) j i = (if (j = 0 ∨ j = 2 ∨ j = 3) ∧ i < n0 then q j i else if j = 6 then q 5 1 else getS r j i) := by
    unfold getS bkS
    by_cases h4 : j ≤ 4
    · rw [if_pos h4, if_pos h4, if_neg (show ¬ (j = 5 ∧ i = 1) by omega), if_neg (show ¬ j = 6 by omega)]
    · rw [if_neg h4, if_neg h4, if_neg (show ¬ (((5 : Nat) = 0 ∨ (5 : Nat) = 2 ∨ (5 : Nat) = 3) ∧ j - 5 < n0) by omega), if_neg (show ¬ ((j = 0 ∨ j = 2 ∨ j = 3) ∧ i < n0) by omega)]
      by_cases h6 : j = 6
      · rw [if_pos (show (5 : Nat) = 5 ∧ j - 5 = 1 by omega), if_pos h6]
      · rw [if_neg (show ¬ ((5 : Nat) = 5 ∧ j - 5 = 1) by omega), if_neg h6]
  rw [key]
  by_cases e : (j = 0 ∨ j = 2 ∨ j = 3) ∧ i < n0
  · rw [if_pos e, fitB_j hj]
    obtain ⟨a, b, c⟩ := h2 i e.2
    rcases e.1 with rfl | rfl | rfl
    · exact a
    · exact b
    · exact c
  · rw [if_neg e]
    by_cases h6 : j = 6
    · subst h6
      obtain ⟨t, ht, et⟩ := h3
      rw [if_pos rfl, et, fitB_j (by decide)]
      exact decide_eq_true ⟨nI_pos (by omega), nI_nlt (a := 6) (by omega) (by decide)⟩
    · rw [if_neg h6]
      exact h j i hj hi
theorem bk_ok (h : fitR n (bkS n0 q r)) (h3 : ∃ t : Nat, t < 7 ∧ q 5 1 = nI t) : rvOk n (bkS n0 q r) := by
  refine ⟨fun p hp => ?_, ?_⟩
  · have := h 0 p (by decide) hp
    rw [fitB_j (by decide)] at this
    obtain ⟨z1, z2⟩ := of_decide_eq_true this
    exact ⟨z1, Int32.not_lt.mp z2⟩
  · exact h3
def imS (n : Nat) (im : tIm) (r : Nat → Nat → Int32) : Nat → Nat → Int32 := if im.1 = true then bkS im.2.1 im.2.2.1 r else r
def imL (im : tIm) (ld : Nat → Int32) : Nat → Int32 := if im.1 = true then im.2.2.2 else ld
def imZ (im : tIm) : Int32 := if im.1 = true then im.2.2.2 0 else -5
theorem bk_can {f g : Nat → Nat → Int32} (hr : can n f = r) (h1 : n0 ≤ n) (hg : ∀ k i, ((k < 4 ∧ i < n) ∨ (k = 4 ∧ i < 7) ∨ (k = 5 ∧ i < 2)) → g k i = (if (k = 0 ∨ k = 2 ∨ k = 3) ∧ i < n0 then q k i else if k = 5 ∧ i = 1 then q 5 1 else f k i)) : can n g = bkS n0 q r := by
  funext k i
  unfold bkS
  rw [← hr]
  by_cases hval : (k < 4 ∧ i < n) ∨ (k = 4 ∧ i < 7) ∨ (k = 5 ∧ i < 2)
  · unfold can
    rw [if_pos hval, if_pos hval]
    exact hg k i hval
  · unfold can
    rw [if_neg hval, if_neg hval, if_neg (show ¬ ((k = 0 ∨ k = 2 ∨ k = 3) ∧ i < n0) by omega), if_neg (show ¬ (k = 5 ∧ i = 1) by omega)]
theorem c_back (h : HS T I R b n l r) (hL : CLd T I R ld) (hI : CIm T I R im) (ho : okIm n im) (hf : fitR n r) (k : ∀ I' : tI, (∀ x, x < 1 ∨ 5 < x → x ≠ 22 → I' x = I x) → HS T I' R b n l (imS n im r) → CLd T I' R (imL im ld) → Q (some (.int (imZ im))) (T, I', J, R)) : Ex X (d + 6) mX6_back 0 [.ref 0] [] (T, I, J, R) Q := by
  have h8 := HS_8 h
  obtain ⟨h0, r0, r1, r8, hb, hb2, hv, hC⟩ := id h
  obtain ⟨c1, c2, c3⟩ := id hL
  obtain ⟨v15, m2, t23, m4, m5, m6⟩ := hI
  unfold imS imL imZ at k
  simp only [gX6_back_0, h0, true_and, m5, ne_eq]
  cases e : im.1 with
  | false =>
    rw [if_neg (by rw [e]; simp), if_neg (by rw [e]; simp), if_neg (by rw [e]; simp)] at k
    simp only [Bool.false_eq_true, if_false, not_true_eq_false, gX6_back_7]
    exact k I (fun _ _ _ => rfl) h hL
  | true =>
    rw [if_pos e, if_pos e, if_pos e] at k
    obtain ⟨o1, o2, o3⟩ := ho e
    obtain ⟨x1, x2, x3, x4⟩ := m6 e
    have n5 : (5 : Int32).toNatClampNeg = 5 := by decide
    simp only [if_true, show ¬ (1 : Int32) = 0 by decide, not_false_eq_true, gX6_back_10, h0, true_and, r0, m2, rf_some, hC.2.1.1]
    refine p_takeWhat hC.2.1 v15 (Or.inl (by decide)) x1 (by omega) (fun I1 f1 g1 g2 g3 g4 => ?_)
    simp only [Option.toList_none, List.nil_append, gX6_back_21, h0, true_and, c2, m4, rf_some]
    rw [cX6_back_32 t23 c1 ⟨z_lt0, z_lt0, by decide⟩ (by rw [n5, clamp_0]; omega)]
    have L23 : I1 23 = I 23 := f1 23 (by omega) (by omega) (by omega) (by omega)
    have i0 : rIn T 22 0 0 := rIn_at (k := 0) c1 (by decide) (by decide)
    simp only [gX6_back_21, h0, true_and, c2, rf_some, i0, n5, clamp_0, up_self, L23, cpy_lt (show 0 < 5 by decide), x4 0 (by decide)]
    have hfit := bk_fit hf o1 o2 o3
    refine k _ (fun x y1 y2 => by rw [up_ne _ _ y2]; exact f1 x (by omega) (by omega) (by omega) (by omega)) (HS_f2 (HS_cs h ?_) (fun x hx => up_ne _ _ (by omega))) ⟨c1, c2, fun i hi => by rw [up_self, cpy_lt hi]; exact x4 i hi⟩
    obtain ⟨hw, hv1, hab, hs, hl, hn, h8', hr, hkk⟩ := hC
    have fb := f1 b (by omega) (by omega) (by omega) (by omega)
    refine ⟨hw, hv1, hab, by rw [fb]; exact hs, by rw [cLw_eq fb (f1 (b + 1) (by omega) (by omega) (by omega) (by omega))]; exact hl, by rw [g3 8 (by decide)]; exact hn, h8', ?_, bk_ok hfit o3⟩
    refine bk_can hr o1 (fun k i hval => ?_)
    by_cases ek : (k = 0 ∨ k = 2 ∨ k = 3) ∧ i < im.2.1
    · rw [if_pos ek]
      obtain ⟨y1, y2, y3⟩ := g1 i ek.2
      obtain ⟨z1, z2, z3⟩ := x2 i ek.2
      rcases ek.1 with rfl | rfl | rfl
      · show I1 2 i = _
        exact y1.trans z1
      · show I1 4 i = _
        exact y2.trans z2
      · show I1 5 i = _
        exact y3.trans z3
    · rw [if_neg ek]
      by_cases e5 : k = 5 ∧ i = 1
      · rw [if_pos e5]
        obtain ⟨rfl, rfl⟩ := e5
        show I1 1 7 = _
        rw [g4]
        exact x3
      · rw [if_neg e5]
        have hk : k = 0 ∨ k = 1 ∨ k = 2 ∨ k = 3 ∨ k = 4 ∨ k = 5 := by omega
        rcases hk with rfl | rfl | rfl | rfl | rfl | rfl
        · exact (g2 i (by omega)).1
        · show I1 3 i = I 3 i
          rw [f1 3 (by omega) (by omega) (by omega) (by omega)]
        · exact (g2 i (by omega)).2.1
        · exact (g2 i (by omega)).2.2
        · show I1 6 i = I 6 i
          rw [f1 6 (by omega) (by omega) (by omega) (by omega)]
        · show I1 1 (6 + i) = I 1 (6 + i)
          exact g3 _ (by omega)
theorem m_back (h : MS T I R n l r) (hL : ∀ i, i < 5 → I 69 i = ld i) (hI : MIm I im) (ho : okIm n im) (hf : fitR n r) (k : ∀ I' : tI, (∀ x, x ≠ 55 → x ≠ 57 → x ≠ 69 → I' x = I x) → MS T I' R n l (imS n im r) → (∀ i, i < 5 → I' 69 i = imL im ld i) → Q (some (.int (imZ im))) (T, I', J, R)) : Ex X (d + 6) mX7_back 0 [.ref 54, rU] [] (T, I, J, R) Q := by
  have h8 := MS_8 h
  have hm := h.1
  have t0 := mt_54 hm
  obtain ⟨m5, m6⟩ := hI
  unfold imS imL imZ at k
  simp only [gX7_back_0, t0, true_and, m5, ne_eq]
  cases e : im.1 with
  | false =>
    rw [if_neg (by rw [e]; simp), if_neg (by rw [e]; simp), if_neg (by rw [e]; simp)] at k
    simp only [Bool.false_eq_true, if_false, not_true_eq_false, gX7_back_7]
    exact k I (fun _ _ _ _ => rfl) h hL
  | true =>
    rw [if_pos e, if_pos e, if_pos e] at k
    obtain ⟨o1, o2, o3⟩ := ho e
    obtain ⟨x1, ⟨x2, x3⟩, x4⟩ := m6 e
    simp only [if_true, show ¬ (1 : Int32) = 0 by decide, not_false_eq_true, gX7_back_10, t0, true_and, mr_25 hm, rf_some, x1]
    refine s_lays hm (N := im.2.1) (by omega) (mt_70 hm) (by decide) (fun I1 f1 g1 g2 g3 g4 g5 => ?_)
    simp only [Option.toList_none, List.nil_append, gX7_back_22]
    have hfit := bk_fit hf o1 o2 o3
    have hM1 : MS T I1 R n l (bkS im.2.1 im.2.2.1 r) := by
      obtain ⟨hm', hok, hn, h8', hl, hr, hkk⟩ := id h
      have f54 := f1 54 (by decide) (by decide)
      have f59 := f1 59 (by decide) (by decide)
      have f60 := f1 60 (by decide) (by decide)
      have f61 := f1 61 (by decide) (by decide)
      have f62 := f1 62 (by decide) (by decide)
      refine ⟨hm, fun z => mOk_eq f54 f59 f60 f61 f62 (hok (by rw [f54] at z; exact z)), by rw [f54]; exact hn, h8', by rw [mLw_eq f54 f59 f60 f61 f62]; exact hl, ?_, bk_ok hfit o3⟩
      refine bk_can hr o1 (fun k i hval => ?_)
      by_cases ek : (k = 0 ∨ k = 2 ∨ k = 3) ∧ i < im.2.1
      · rw [if_pos ek]
        obtain ⟨y1, y2, y3⟩ := g1 i ek.2
        obtain ⟨z1, z2, z3⟩ := x2 i ek.2
        rcases ek.1 with rfl | rfl | rfl
        · exact y1.trans z1
        · exact y2.trans z2
        · exact y3.trans z3
      · rw [if_neg ek]
        by_cases e5 : k = 5 ∧ i = 1
        · rw [if_pos e5]
          obtain ⟨rfl, rfl⟩ := e5
          exact g4.trans x3
        · rw [if_neg e5]
          have hk : k = 0 ∨ k = 1 ∨ k = 2 ∨ k = 3 ∨ k = 4 ∨ k = 5 := by omega
          rcases hk with rfl | rfl | rfl | rfl | rfl | rfl
          · exact (g2 i (by omega) (by omega)).1
          · exact g3 i (by omega)
          · exact (g2 i (by omega) (by omega)).2.1
          · exact (g2 i (by omega) (by omega)).2.2
          · show I1 56 i = I 56 i
            rw [f1 56 (by decide) (by decide)]
          · obtain rfl : i = 0 := by omega
            exact g5
    have loop : ∀ i, i ≤ 5 → ∀ I3 : tI, (∀ x, x ≠ 69 → I3 x = I1 x) → (∀ y, y < i → I3 69 y = im.2.2.2 y) → Ex X (d + 6) mX7_back 24 [.ref 54, .int (nI i)] [] (T, I3, J, R) Q := by
      refine loop_up (P := fun i => ∀ I3 : tI, (∀ x, x ≠ 69 → I3 x = I1 x) → (∀ y, y < i → I3 69 y = im.2.2.2 y) → Ex X (d + 6) mX7_back 24 [.ref 54, .int (nI i)] [] (T, I3, J, R) Q) (n := 5) ?_ ?_
      · intro I3 a1 a2
        have i0 : rIn T 69 0 0 := rIn_at (k := 0) (mt_69 hm) (by decide) (by decide)
        simp only [gX7_back_24, show (5 : Int32) ≤ nI 5 by decide, if_true, gX7_back_47, t0, true_and, mr_22 hm, rf_some, i0, clamp_0, a2 0 (by decide)]
        exact k I3 (fun x x1 x2 x3 => by rw [a1 x x3, f1 x x1 x2]) (MS_fr hM1 (fun x hx => a1 x (by omega))) a2
      · intro i hi ih I3 a1 a2
        have e0 : I3 71 i = im.2.2.2 i := by rw [a1 71 (by decide), f1 71 (by decide) (by decide)]; exact x4 i hi
        simp only [gX7_back_24, show ¬ (5 : Int32) ≤ nI i from nI_ge (b := 5) hi (by decide), if_false]
        simp only [gX7_back_29, t0, true_and, mr_22 hm, mr_26 hm, rf_some, rIn_at (mt_69 hm) hi (by decide), rIn_at (mt_71 hm) hi (by decide), nI_clamp (show i < 2 ^ 31 by omega), e0, nI_1]
        refine ih _ (fun x hx => by rw [up_ne _ _ hx]; exact a1 x hx) (fun y hy => ?_)
        rw [up_self]
        by_cases ey : y = i
        · rw [ey, up_self]
        · rw [up_ne _ _ ey]; exact a2 y (by omega)
    exact loop 0 (by omega) I1 (fun _ _ => rfl) (fun y hy => absurd hy (Nat.not_lt_zero y))
theorem j_back : Jn X (d + 50) (d + 50) mX6_back [.ref 0] mX7_back [.ref 54, rU] := by
  rintro T I J R ⟨ht1, ht2, b, b2, n, l, r, sh, ld, im, tp, ch, st, hb, hH, hC, hM, hA, hP⟩
  obtain ⟨p1, p2, p3, p4, p5, p6⟩ := hP
  have bb := hb.2
  refine ⟨imZ im, c_back (d := d + 44) hH hC.2.1 hC.2.2.1 p2 p1 (fun I1 f1 hH1 hL1 => ⟨rfl, rfl, ?_⟩)⟩
  have s54' : I1 54 = I 54 := f1 54 (by omega) (by omega)
  refine m_back (ld := ld) (d := d + 44) (MS_fr hM (fun x hx => f1 x (by omega) (by omega))) (fun i hi => by rw [f1 69 (by omega) (by omega)]; exact hA.2.1 i hi) (MIm_f hA.2.2.1 (congrFun s54' _) (congrFun s54' _) (f1 70 (by omega) (by omega)) (f1 71 (by omega) (by omega))) p2 p1 (fun I2 f2 hM2 hL2 => ⟨rfl, ?_⟩)
  have al : ∀ x, (x < 1 ∨ 5 < x) → x ≠ 22 → x ≠ 55 → x ≠ 57 → x ≠ 69 → I2 x = I x := fun x x1 x2 x3 x4 x5 => by rw [f2 x x3 x4 x5, f1 x x1 x2]
  have s54 : ∀ i, I2 54 i = I 54 i := fun i => congrFun (al 54 (by omega) (by omega) (by omega) (by omega) (by omega)) i
  refine Rel_mk ⟨ht1, ht2⟩ hb hC hA (HS_f2 hH1 (fun x hx => f2 x (by omega) (by omega) (by omega))) hM2 (fun x hx => al x (by omega) (by omega) (by omega) (by omega) (by omega)) (CLd_f hL1 (f2 22 (by omega) (by omega) (by omega))) (CCh_f hC.2.2.2.2.1 (fun x hx => al x (by omega) (by omega) (by omega) (by omega) (by omega))) (fun i hi => s54 i) (fun x hx => al x (by omega) (by omega) (by omega) (by omega) (by omega)) hL2 (MCh_f hA.2.2.2.2.1 (s54 _) (s54 _) (al _ (by omega) (by omega) (by omega) (by omega) (by omega))) ⟨?_, p2, p3, p4, p5, p6⟩
  unfold imS
  split
  · rename_i c
    obtain ⟨o1, o2, o3⟩ := p2 c
    exact bk_fit p1 o1 o2 o3
  · exact p1
end D14
