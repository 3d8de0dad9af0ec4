/-! PURE: reach, build, gift joined -/
theorem vwN_mono {n n' j i : Nat} (h : n ≤ n') (hi : i < vwN n j) : i < vwN n' j := by
  unfold vwN at *
  (repeat' split) <;> (repeat' split at hi) <;> omega
theorem okIm_mono {n n' : Nat} {im : tIm} (h : n ≤ n') (ho : okIm n im) : okIm n' im := fun e => by
  obtain ⟨a, b, c⟩ := ho e
  exact ⟨by omega, b, c⟩
theorem okCh_mono {n n' : Nat} {ch : tCh} (h : n ≤ n') (ho : okCh n ch) : okCh n' ch := by
  obtain ⟨a, b, c⟩ := ho
  refine ⟨a, b, fun j hj => ?_⟩
  obtain ⟨i, w, h1, h2, h3, h4, h5⟩ := c j hj
  exact ⟨i, w, h1, h2, h3, vwN_mono h h4, h5⟩
theorem len_get {n : Nat} {r : Nat → Nat → Int32} {lv bk gf : Int32} {j i : Nat} (hj : j ≤ 6) (hi : i < vwN (n + 1) j) : getS (lenS n r lv bk gf) j i = (if j < 4 ∧ i = n then (if j = 0 then lv else if j = 1 then bk else if j = 2 then 0 else gf) else getS r j i) := by
  unfold getS
  unfold vwN at hi
  by_cases h4 : j ≤ 4
  · rw [if_pos h4, if_pos h4]
    unfold lenS
    by_cases h3 : j ≤ 3
    · rw [if_pos h3] at hi
      rw [can_lt (by omega) hi]
    · obtain rfl : j = 4 := by omega
      rw [if_neg (by decide), if_pos rfl] at hi
      rw [can_4 hi]
  · rw [if_neg h4, if_neg h4, if_neg (by omega)]
    unfold lenS
    rw [can_5 (by omega), if_neg (by omega)]
theorem fitR_len {n : Nat} {r : Nat → Nat → Int32} {lv bk gf : Int32} (h : fitR n r) (h1 : inB lv 0 99 = true) (h2 : inB bk 1 99 = true) (h3 : inB gf 0 9 = true) : fitR (n + 1) (lenS n r lv bk gf) := by
  intro j i hj hi
  rw [len_get hj hi]
  by_cases e : j < 4 ∧ i = n
  · rw [if_pos e, fitB_j hj]
    have e4 : j = 0 ∨ j = 1 ∨ j = 2 ∨ j = 3 := by omega
    rcases e4 with rfl | rfl | rfl | rfl
    · exact h1
    · exact h2
    · show inB 0 0 1 = true
      decide +kernel
    · exact h3
  · rw [if_neg e]
    refine h j i hj ?_
    unfold vwN at *
    (repeat' split) <;> (repeat' split at hi) <;> omega
theorem get_put {r : Nat → Nat → Int32} {w k j i : Nat} {v : Int32} : getS (putS r w k v) j i = (if j = w ∧ (4 < j ∨ i = k) then v else getS r j i) := by
  unfold getS
  rw [putS_st]
  by_cases h4 : j ≤ 4
  · rw [if_pos h4, if_pos h4]
    by_cases ej : j = w
    · subst ej
      rw [if_pos h4, if_pos h4]
      by_cases ei : i = k
      · subst ei
        rw [st_at, if_pos ⟨rfl, Or.inr rfl⟩]
      · rw [st_i ei, if_neg (fun q => q.2.elim (fun z => by omega) ei)]
    · rw [if_neg (show ¬ (j = w ∧ (4 < j ∨ i = k)) from fun q => ej q.1)]
      by_cases hw : w ≤ 4
      · rw [if_pos hw, if_pos hw, st_k ej]
      · rw [if_neg hw, if_neg hw, st_k (by omega)]
  · rw [if_neg h4, if_neg h4]
    by_cases ej : j = w
    · subst ej
      rw [if_neg h4, if_neg h4, st_at, if_pos ⟨rfl, Or.inl (by omega)⟩]
    · rw [if_neg (show ¬ (j = w ∧ (4 < j ∨ i = k)) from fun q => ej q.1)]
      by_cases hw : w ≤ 4
      · rw [if_pos hw, if_pos hw, st_k (by omega)]
      · rw [if_neg hw, if_neg hw, st_i (by omega)]
theorem fitR_put {n : Nat} {r : Nat → Nat → Int32} {w k : Nat} {v : Int32} (h : fitR n r) (hv : fitB (nI w) v = true) : fitR n (putS r w k v) := by
  intro j i hj hi
  rw [get_put]
  by_cases e : j = w ∧ (4 < j ∨ i = k)
  · rw [if_pos e, e.1]
    exact hv
  · rw [if_neg e]
    exact h j i hj hi
section D9
variable {X : tX} {T : tT} {I I' I1 I2 : tI} {J J' J1 J2 : tJ} {R R' : tR} {Q : tQ} {d b b2 n n' L0 s ln : Nat} {xs : Nat → Int32} {l : tL} {r r' : Nat → Nat → Int32} {sh sh' : tSh} {ld ld' : Nat → Int32} {im : tIm} {tp : tTp} {ch ch' : tCh} {st : tSt} {v w x hk lv bk gf : Int32}
/-- the river, what is led, the CHANGES have changed, on both sides -/
theorem Rel_mk (hT : T.length ≤ 600000 ∧ rSl T ≤ 7302250) (hb : b ≠ b2 ∧ (b = 27 ∨ b = 30)) (hC : CA T I J R b2 sh ld im tp ch st) (hA : MA I J sh ld im tp ch st) (hH : HS T I2 R b n' l r') (hM : MS T I2 R n' l r') (fC : ∀ x, x = 0 ∨ (15 ≤ x ∧ x ≤ 21) ∨ (23 ≤ x ∧ x ≤ 26) ∨ (38 ≤ x ∧ x ≤ 53) → I2 x = I x) (hL : CLd T I2 R ld') (hCh : CCh T I2 R ch') (fS : ∀ i, i = 4 ∨ i = 23 ∨ i = 24 ∨ i = 30 ∨ i = 32 → I2 54 i = I 54 i) (fM : ∀ x, x = 58 ∨ x = 70 ∨ x = 71 ∨ (73 ≤ x ∧ x ≤ 76) → I2 x = I x) (hL' : ∀ i, i < 5 → I2 69 i = ld' i) (hCh' : MCh I2 ch') (hP : PA n' r' sh im tp ch' st) : Rl (T, I2, J, R) := by
  obtain ⟨⟨a1, a2⟩, a3, a4, a5, a6, a7, a8, a9⟩ := hC
  obtain ⟨m1, m2, m3, m4, m5, m6⟩ := hA
  refine ⟨hT.1, hT.2, b, b2, n', l, r', sh, ld', im, tp, ch', st, hb, hH, ⟨⟨a1, fun s hs => CSh_f2 (a2 s hs) (fC _ (by omega)) rfl⟩, hL, ?_, CTp_f a5 (fC _ (by omega)) (fC _ (by omega)), hCh, CSt_f a7 (fun x hx => fC x (by omega)), a8, a9⟩, hM, ⟨fun s hs => MSh_f (m1 s hs) (fM _ (by omega)) (fM _ (by omega)) rfl, hL', MIm_f m3 (fS _ (by omega)) (fS _ (by omega)) (fM _ (by omega)) (fM _ (by omega)), MTp_f m4 (fS _ (by omega)) (fM _ (by omega)), hCh', MSt_f m6 (fS _ (by omega)) (fS _ (by omega)) (fM _ (by omega)) (fM _ (by omega))⟩, hP⟩
  show CIm T I2 R im
  unfold CIm
  rw [fC 0 (by decide), fC 15 (by decide), fC 16 (by decide), fC 18 (by decide), fC 19 (by decide), fC 23 (by decide)]
  exact a4
theorem len_ok (h : rvOk n r) (h1 : ¬ lv < 0 ∧ lv ≤ 99) : rvOk (n + 1) (lenS n r lv bk gf) := by
  obtain ⟨a1, t, a2, a3⟩ := h
  refine ⟨fun p hp => ?_, t, a2, ?_⟩
  · unfold lenS
    rw [can_lt (by decide) hp]
    by_cases e : p = n
    · rw [if_pos ⟨by decide, e⟩, if_pos rfl]; exact h1
    · rw [if_neg (fun q => e q.2)]; exact a1 p (by omega)
  · unfold lenS
    rw [can_5 (by decide), if_neg (by omega)]
    exact a3
theorem c_len (h : HS T I R b n l r) (h8 : n < 8) (h1 : ¬ lv < 0 ∧ lv ≤ 99) (k : ∀ I' : tI, (∀ x, x < 1 ∨ 5 < x → I' x = I x) → HS T I' R b (n + 1) l (lenS n r lv bk gf) → Q (some (.int (nI n))) (T, I', J, R)) : Ex X (d + 1) mX3_lengthen 0 [.ref 1, .int lv, .int bk, .int gf] [] (T, I, J, R) Q := by
  obtain ⟨h0, r0, r1, r8, hb, hb2, hv, hw, hv1, hab, hs, hl, hn, h8', hr, hkk⟩ := h
  refine p_lengthen hv1 hn h8 (fun I1 f1 e8 f8 hc => k I1 (fun x hx => f1 x (by omega)) ?_)
  have fb := f1 b (by omega)
  exact ⟨h0, r0, r1, r8, hb, hb2, hv, hw, hv1, hab, by rw [fb]; exact hs, by rw [cLw_eq fb (f1 (b + 1) (by omega))]; exact hl, e8, by omega, by rw [hc, hr], len_ok hkk h1⟩
theorem m_newOne (h : MS T I R n l r) (h8 : n < 8) (h1 : ¬ lv < 0 ∧ lv ≤ 99) (k : ∀ I' : tI, (∀ x, x ≠ 54 → x ≠ 55 → I' x = I x) → (∀ i, i ≠ 0 → I' 54 i = I 54 i) → MS T I' R (n + 1) l (lenS n r lv bk gf) → Q (some (.int (nI n))) (T, I', J, R)) : Ex X d mX7_newOne 0 [.ref 54, .int lv, .int bk, .int gf] [] (T, I, J, R) Q := by
  obtain ⟨hm, hok, hn, h8', hl, hr, hkk⟩ := id h
  have t0 := mt_54 hm
  have t55 := mt_55 hm
  simp only [gX7_newOne_0, t0, true_and, mr_1 hm, rf_some, hn, z_8, z_16, z_24, rIn_at t55 (show n < 32 by omega) (by decide), rIn_at t55 (show 8 + n < 32 by omega) (by decide), rIn_at t55 (show 16 + n < 32 by omega) (by decide), rIn_at t55 (show 24 + n < 32 by omega) (by decide), nI_clamp (show n < 2 ^ 31 by omega), nI_clamp (show 8 + n < 2 ^ 31 by omega), nI_clamp (show 16 + n < 2 ^ 31 by omega), nI_clamp (show 24 + n < 2 ^ 31 by omega), up_ne _ _ (show (54 : Nat) ≠ 55 by decide), up_self, nI_1]
  generalize hI1 : va_up (va_up (va_up (va_up (va_up I 55 (va_up (I 55) n lv)) 55 (va_up (va_up (I 55) n lv) (8 + n) bk)) 55 (va_up (va_up (va_up (I 55) n lv) (8 + n) bk) (16 + n) 0)) 55 (va_up (va_up (va_up (va_up (I 55) n lv) (8 + n) bk) (16 + n) 0) (24 + n) gf)) 54 (va_up (I 54) 0 (nI (n + 1))) = I1
  have g1 : ∀ x, x ≠ 54 → x ≠ 55 → I1 x = I x := fun x x1 x2 => by rw [← hI1, up_ne _ _ x1, up_ne _ _ x2, up_ne _ _ x2, up_ne _ _ x2, up_ne _ _ x2]
  have g2 : ∀ i, i ≠ 0 → I1 54 i = I 54 i := fun i hi => by rw [← hI1, up_self, up_ne _ _ hi]
  have g3 : I1 54 0 = nI (n + 1) := by rw [← hI1, up_self, up_self]
  have g4 : I1 55 = va_up (va_up (va_up (va_up (I 55) n lv) (8 + n) bk) (16 + n) 0) (24 + n) gf := by rw [← hI1, up_ne _ _ (by decide), up_self]
  refine k I1 g1 g2 ?_
  have hM0 := MS_fs (I' := I1) (R := R) (n := n) (l := l) (r := r) (T := T) (I := I)
  refine ⟨hm, fun z => ?_, g3, by omega, ?_, ?_, len_ok hkk h1⟩
  · unfold mOk
    rw [g2 7 (by decide), g1 59 (by decide) (by decide), g1 60 (by decide) (by decide), g1 61 (by decide) (by decide), g1 62 (by decide) (by decide)]
    exact hok (by rw [g2 6 (by decide)] at z; exact z)
  · unfold mLw
    rw [g2 6 (by decide), g2 7 (by decide), g1 59 (by decide) (by decide), g1 60 (by decide) (by decide), g1 61 (by decide) (by decide), g1 62 (by decide) (by decide)]
    exact hl
  · funext q i
    unfold lenS
    by_cases hval : (q < 4 ∧ i < n + 1) ∨ (q = 4 ∧ i < 7) ∨ (q = 5 ∧ i < 2)
    · unfold can
      rw [if_pos hval, if_pos hval]
      dsimp only
      rcases hval with ⟨hq, hi⟩ | ⟨rfl, hi⟩ | ⟨rfl, hi⟩
      · rw [vm_row _ hq, g4]
        have hq' : q = 0 ∨ q = 1 ∨ q = 2 ∨ q = 3 := by omega
        by_cases e : i = n
        · subst e
          rw [if_pos ⟨hq, rfl⟩]
          rcases hq' with rfl | rfl | rfl | rfl
          · rw [up_ne _ _ (by omega), up_ne _ _ (by omega), up_ne _ _ (by omega), show 8 * 0 + i = i by omega, up_self]
            rfl
          · rw [up_ne _ _ (by omega), up_ne _ _ (by omega), show 8 * 1 + i = 8 + i by omega, up_self]
            rfl
          · rw [up_ne _ _ (by omega), show 8 * 2 + i = 16 + i by omega, up_self]
            rfl
          · rw [show 8 * 3 + i = 24 + i by omega, up_self]
            rfl
        · rw [if_neg (fun z => e z.2), ← hr, can_lt hq (by omega), vm_row _ hq, up_ne _ _ (by omega), up_ne _ _ (by omega), up_ne _ _ (by omega), up_ne _ _ (by omega)]
      · rw [if_neg (by omega), ← hr, can_4 hi]
        show I1 56 i = I 56 i
        rw [g1 56 (by decide) (by decide)]
      · rw [if_neg (by omega), ← hr, can_5 hi]
        show I1 57 i = I 57 i
        rw [g1 57 (by decide) (by decide)]
    · unfold can
      rw [if_neg hval, if_neg hval]
def rcZ (n : Nat) (v : Int32) : Int32 := if inB v 1 99 = true then (if n = 8 then -3 else nI n) else -1
theorem j_reach : Jn (rX L0 xs) (d + 50) (d + 50) mX6_reach [.ref 0, .int v] mX7_reach [.ref 54, .int v] := by
  rintro T I J R ⟨ht1, ht2, b, b2, n, l, r, sh, ld, im, tp, ch, st, hb, hH, hC, hM, hA, hP⟩
  have h8 := HS_8 hH
  have stay : Rl (T, I, J, R) := ⟨ht1, ht2, b, b2, n, l, r, sh, ld, im, tp, ch, st, hb, hH, hC, hM, hA, hP⟩
  have t0 := mt_54 hM.1
  have hn : I 54 0 = nI n := hM.2.2.1
  refine ⟨rcZ n v, ?_⟩
  have key : ∀ Q : tQ, (inB v 1 99 = true ∧ ¬ n = 8 → ∀ I' : tI, (∀ x, x < 1 ∨ 5 < x → I' x = I x) → HS T I' R b (n + 1) l (lenS n r 30 v 0) → Q (some (.int (rcZ n v))) (T, I', J, R)) → (¬ (inB v 1 99 = true ∧ ¬ n = 8) → Q (some (.int (rcZ n v))) (T, I, J, R)) → Ex (rX L0 xs) (d + 50) mX6_reach 0 [.ref 0, .int v] [] (T, I, J, R) Q := by
    intro Q k1 k2
    obtain ⟨h0, r0, r1, r8, hbb, hb2, hv, hCS⟩ := id hH
    have n8 : I 1 8 = nI n := hCS.2.2.2.2.2.1
    unfold rcZ at k1 k2
    simp only [gX6_reach_0]
    refine p_fitsIn ?_
    rw [show (1 : Int32) = nI 1 from rfl, fitB_j (by decide)]
    simp only [Option.toList_some, List.cons_append, List.nil_append, gX6_reach_5, ne_eq, if10]
    cases g : inB v (loF 1) (hiF 1) with
    | false =>
      have g' : inB v 1 99 = false := g
      have := k2 (fun q => absurd q.1 (by rw [g']; simp))
      rw [if_neg (by rw [g']; simp)] at this
      simp only [not_true_eq_false, if_false, gX6_reach_8]
      exact this
    | true =>
      have g' : inB v 1 99 = true := g
      rw [if_pos g'] at k1 k2
      simp only [reduceCtorEq, not_false_eq_true, if_true, gX6_reach_10, h0, true_and, r0, rf_some, hCS.2.1.1]
      refine p_isFull hCS.2.1 n8 h8 ?_
      simp only [Option.toList_some, List.cons_append, List.nil_append, gX6_reach_17]
      by_cases e : n = 8
      · have := k2 (fun q => q.2 e)
        rw [if_pos e] at this
        simp only [e, if_true, show ¬ (1 : Int32) = 0 by decide, if_false, gX6_reach_20]
        exact this
      · rw [if_neg e] at k1
        simp only [e, if_true, if_false, gX6_reach_23, h0, true_and, r0, rf_some, hCS.2.1.1]
        refine c_len hH (by omega) (by decide) (fun I1 f1 hH1 => ?_)
        simp only [Option.toList_some, List.cons_append, List.nil_append, gX6_reach_34]
        exact k1 ⟨g', e⟩ I1 f1 hH1
  have keyM : ∀ (Q : tQ) (I1 : tI), MS T I1 R n l r → (inB v 1 99 = true ∧ ¬ n = 8 → ∀ I' : tI, (∀ x, x ≠ 54 → x ≠ 55 → I' x = I1 x) → (∀ i, i ≠ 0 → I' 54 i = I1 54 i) → MS T I' R (n + 1) l (lenS n r 30 v 0) → Q (some (.int (rcZ n v))) (T, I', J, R)) → (¬ (inB v 1 99 = true ∧ ¬ n = 8) → Q (some (.int (rcZ n v))) (T, I1, J, R)) → Ex (rX L0 xs) (d + 50) mX7_reach 0 [.ref 54, .int v] [] (T, I1, J, R) Q := by
    intro Q I1 hM1 k1 k2
    have hn : I1 54 0 = nI n := hM1.2.2.1
    unfold rcZ at k1 k2
    simp only [gX7_reach_0]
    refine s_within ?_
    simp only [Option.toList_some, List.cons_append, List.nil_append, gX7_reach_7, ne_eq, if10]
    cases g' : inB v 1 99 with
    | false =>
      have := k2 (fun q => absurd q.1 (by rw [g']; simp))
      rw [if_neg (by rw [g']; simp)] at this
      simp only [not_true_eq_false, if_false, gX7_reach_10]
      exact this
    | true =>
      rw [if_pos g'] at k1 k2
      simp only [reduceCtorEq, not_false_eq_true, if_true, gX7_reach_12, t0, true_and, hn, ne_eq]
      by_cases e : n = 8
      · have := k2 (fun q => q.2 e)
        rw [if_pos e] at this
        simp only [e, show nI 8 = 8 by decide, not_true_eq_false, if_false, gX7_reach_21, gX7_reach_34]
        exact this
      · rw [if_neg e] at k1
        have ne : ¬ nI n = 8 := fun z => e ((nI_eq (by omega) (by decide)).mp (show nI n = nI 8 from z))
        simp only [ne, not_false_eq_true, if_true, gX7_reach_26, t0, true_and]
        refine m_newOne hM1 (by omega) (by decide) (fun I2 f1 f2 hM2 => ?_)
        simp only [Option.toList_some, List.cons_append, List.nil_append, gX7_reach_34]
        exact k1 ⟨g', e⟩ I2 f1 f2 hM2
  refine key _ (fun c I1 f1 hH1 => ⟨rfl, rfl, ?_⟩) (fun c => ⟨rfl, rfl, ?_⟩)
  · refine keyM _ I1 (MS_fr hM (fun x hx => f1 x (by omega))) (fun _ I2 e1 e2 hM2 => ⟨rfl, ?_⟩) (fun c' => absurd c c')
    obtain ⟨p1, p2, p3, p4, p5, p6⟩ := hP
    have al : ∀ x, (x < 1 ∨ 5 < x) → x ≠ 54 → x ≠ 55 → I2 x = I x := fun x x1 x2 x3 => by rw [e1 x x2 x3, f1 x x1]
    have bb := hb.2
    have sl : ∀ i, i ≠ 0 → I2 54 i = I 54 i := fun i hi => by rw [e2 i hi, f1 54 (by omega)]
    exact Rel_mk ⟨ht1, ht2⟩ hb hC hA (HS_f2 hH1 (fun x hx => e1 x (by omega) (by omega))) hM2 (fun x hx => al x (by omega) (by omega) (by omega)) (CLd_f hC.2.1 (al _ (by omega) (by omega) (by omega))) (CCh_f hC.2.2.2.2.1 (fun x hx => al x (by omega) (by omega) (by omega))) (fun i hi => sl i (by omega)) (fun x hx => al x (by omega) (by omega) (by omega)) (fun i hi => by rw [al 69 (by omega) (by omega) (by omega)]; exact hA.2.1 i hi) (MCh_f hA.2.2.2.2.1 (sl _ (by omega)) (sl _ (by omega)) (al _ (by omega) (by omega) (by omega))) ⟨fitR_len p1 (by decide +kernel) c.1 (by decide +kernel), okIm_mono (Nat.le_succ n) p2, okCh_mono (Nat.le_succ n) p3, p4, p5, p6⟩
  · exact keyM _ I hM (fun c' => absurd c' c) (fun _ => ⟨rfl, stay⟩)
end D9
