/-! PURE: law, on both sides -/
def lwA (Z : tV) : Int32 := if Z.1 = true then 1 else -100 - nI Z.2.1
def lwL (l : tL) (Z : tV) : tL := if Z.1 = true then some (fun nm => vlS nm Z.2.2) else l
theorem fl_ne : ∀ ls : tLn, ¬ ls.length = 0 → 0 < (flS ls).length
  | [], h => absurd rfl h
  | e :: r, _ => by
    show 0 < (flE e ++ flS r).length
    unfold flE
    rw [List.length_append, List.length_append]
    show 0 < _ + 1 + _
    omega
section LW
variable {X : tX} {T : tT} {I I' I1 I2 I3 I4 I5 : tI} {J : tJ} {R : tR} {Q : tQ} {d a b b0 sz ln N n : Nat} {tp : Nat → Int32} {l : tL} {r : Nat → Nat → Int32}
theorem c_law (h : HS T I R b0 n l r) (hK : RK T R b) (h7 : R 0 7 = some 25) (hbb : b0 ≠ b) (hb0 : b0 = 27 ∨ b0 = 30) (hL0 : IsLaw T R b0) (h1 : I 25 1 = nI N) (hN : N ≤ 120) (htp : ∀ i, i < N → I 26 i = tp i)
    (k : ∀ (I' : tI) (R' : tR) (b1 b2 : Nat), (∀ x, x ≠ 25 → x ≠ b → x ≠ b + 1 → I' x = I x) → I' 25 1 = nI 0 → (∀ x, x ≠ 25 → x ≠ 0 → R' x = R x) → (∀ i, i ≠ 8 → R' 0 i = R 0 i) → HS T I' R' b1 n (lwL l (pxA tp N)) r → RK T R' b2 → b1 ≠ b2 → (b1 = 27 ∨ b1 = 30) → IsLaw T R' b1 → Q (some (.int (lwA (pxA tp N)))) (T, I', J, R')) : Ex X (d + 48) mX6_law 0 [.ref 0, rU] [] (T, I, J, R) Q := by
  obtain ⟨h0, r0, r1, r8, hb, hb2, hv, hC⟩ := id h
  obtain ⟨t25, s0, t26, s3, hL, hbK⟩ := id hK
  simp only [gX6_law_0, h0, true_and, h7, rf_some, t25]
  refine c_read (d := d) hK h1 hN htp (fun I1 f1 hsz hok => ?_)
  simp only [Option.toList_some, List.cons_append, List.nil_append, gX6_law_7, h0, true_and, h7, rf_some, t25, gX2_clear_0, Option.toList_none, gX6_law_15]
  generalize hI2 : va_up I1 25 (va_up (I1 25) 1 0) = I2
  have f2 : ∀ x, x ≠ 25 → I2 x = I1 x := fun x hx => by rw [← hI2, up_ne _ _ hx]
  have e2 : I2 25 1 = nI 0 := by rw [← hI2, up_self, up_self]; rfl
  have far : ∀ x, x ≠ 25 → x ≠ b → x ≠ b + 1 → I2 x = I x := fun x x1 x2 x3 => by rw [f2 x x1, f1 x x1 x2 x3]
  obtain ⟨g1, g2⟩ := gV_A tp N
  have hC' := hC
  obtain ⟨hw, hv1, hab, ⟨sz0, hs0, hz0⟩, hl, hn, h8, hr, hkk⟩ := hC
  cases hz : (pxA tp N).1 with
  | false =>
    have nn : ¬ nI (pxA tp N).2.1 = -1 := fun q => by
      have := nI_pos (n := (pxA tp N).2.1) (by omega)
      rw [q] at this
      exact this (by decide)
    have eA : lwA (pxA tp N) = -100 - nI (pxA tp N).2.1 := by unfold lwA; rw [if_neg (by rw [hz]; simp)]
    have eL : lwL l (pxA tp N) = l := by unfold lwL; rw [if_neg (by rw [hz]; simp)]
    rw [eA, eL] at k
    simp only [Bool.false_eq_true, if_false, nn, gX6_law_20]
    refine k I2 R b0 b far e2 (fun _ _ _ => rfl) (fun _ _ => rfl) ?_ hK hbb hb0 hL0
    exact ⟨h0, r0, r1, r8, hb, hb2, hv, CS_fr hC' (fun x hx => far x (by omega) (by omega) (by omega))⟩
  | true =>
    obtain ⟨v1, v2, v3, v4, v5⟩ := g2 hz
    obtain ⟨o1, o2⟩ := hok hz
    have eA : lwA (pxA tp N) = 1 := by unfold lwA; rw [if_pos hz]
    have eL : lwL l (pxA tp N) = some (fun nm => vlS nm (pxA tp N).2.2) := by unfold lwL; rw [if_pos hz]
    rw [eA, eL] at k
    have t1 := hL0.1
    simp only [if_true, gX6_law_25, h0, true_and, h7, r8, rf_some, t25, gX2_handOver_0, s3, Option.toList_some, List.cons_append, List.nil_append, gX6_law_37]
    refine k I2 _ b b0 far e2 (fun x x1 x2 => by rw [up_ne _ _ x2, up_ne _ _ x1]) (fun i hi => by rw [up_self, up_ne _ _ hi, up_ne _ _ (by decide)]) ?_ ?_ (Ne.symm hbb) hbK ?_
    · have rb : ∀ x, x ≠ 25 → x ≠ 0 → va_up (va_up R 25 (va_up (R 25) 3 (some b0))) 0 (va_up (va_up R 25 (va_up (R 25) 3 (some b0)) 0) 8 (some b)) x = R x := fun x x1 x2 => by rw [up_ne _ _ x2, up_ne _ _ x1]
      have rz : ∀ i, i ≠ 8 → va_up (va_up R 25 (va_up (R 25) 3 (some b0))) 0 (va_up (va_up R 25 (va_up (R 25) 3 (some b0)) 0) 8 (some b)) 0 i = R 0 i := fun i hi => by rw [up_self, up_ne _ _ hi, up_ne _ _ (by decide)]
      have q1 := rb 1 (by decide) (by decide)
      have q8 := rb 8 (by decide) (by decide)
      have qb := rb b (by omega) (by omega)
      have s2 : I2 b 2 = nI (flS (pxA tp N).2.2).length := by rw [f2 b (by omega)]; exact o1
      have w2 : rwA (I2 (b + 1)) 0 (flS (pxA tp N).2.2) := by rw [f2 (b + 1) (by omega)]; exact o2
      refine ⟨h0, by rw [rz 0 (by decide)]; exact r0, by rw [rz 1 (by decide)]; exact r1, by rw [up_self, up_self], by omega, by omega, ?_, ?_, ?_, by omega, ⟨_, s2, by omega⟩, ?_, ?_, h8, ?_, hkk⟩
      · unfold IsRiv
        rw [q8]
        exact hv
      · unfold IsLaw
        rw [qb]
        exact hL
      · unfold IsRiv
        rw [q1]
        exact hv1
      · unfold cLw
        rw [s2, if_neg (nI_ne0 (fl_ne _ v5) (by omega)), nI_clamp (by omega)]
        refine congrArg some (funext fun nm => ?_)
        exact wk_lines (pxA tp N).2.2 0 w2 v4 (by omega)
      · rw [far 1 (by decide) (by omega) (by omega)]; exact hn
      · rw [vw_eq (I := I) (fun x x1 x2 => far x (by omega) (by omega) (by omega))]; exact hr
    · refine ⟨t25, ?_, t26, ?_, ?_, hb0⟩
      · rw [up_ne _ _ (by decide), up_self, up_ne _ _ (by decide)]; exact s0
      · rw [up_ne _ _ (by decide), up_self, up_self]
      · unfold IsLaw
        rw [up_ne _ _ (by omega), up_ne _ _ (by omega)]
        exact hL0
    · unfold IsLaw
      rw [up_ne _ _ (by omega), up_ne _ _ (by omega)]
      exact hL
set_option maxHeartbeats 4000000 in
theorem m_law (h : MS T I R n l r) (h1 : I 54 4 = nI N) (hN : N ≤ 120) (htp : ∀ i, i < N → I 58 i = tp i)
    (k : ∀ I' : tI, (∀ x, x ≠ 54 → ¬ (59 ≤ x ∧ x ≤ 66) → I' x = I x) → (∀ i, i ≠ 4 → i ≠ 6 → i ≠ 7 → ¬ (12 ≤ i ∧ i ≤ 15) → I' 54 i = I 54 i) → I' 54 4 = nI 0 → MS T I' R n (lwL l (pxA tp N)) r → Q (some (.int (lwA (pxA tp N)))) (T, I', J, R)) : Ex X (d + 46) mX7_law 0 [.ref 54, rU, rU, rU] [] (T, I, J, R) Q := by
  have hm := h.1
  have t0 := mt_54 hm
  -- the end: what has been read becomes the LAW, or not
  have fin : ∀ (I1 I2 : tI) (v1 : Int32) (Z : tV), (∀ x, x ≠ 54 → I1 x = I x) → (∀ i, ¬ (12 ≤ i ∧ i ≤ 15) → I1 54 i = I 54 i) → LV I1 I2 Z → gV N Z → (∀ I' : tI, (∀ x, x ≠ 54 → ¬ (59 ≤ x ∧ x ≤ 66) → I' x = I x) → (∀ i, i ≠ 4 → i ≠ 6 → i ≠ 7 → ¬ (12 ≤ i ∧ i ≤ 15) → I' 54 i = I 54 i) → I' 54 4 = nI 0 → MS T I' R n (lwL l Z) r → Q (some (.int (lwA Z))) (T, I', J, R)) → Ex X (d + 46) mX7_law 66 [.ref 54, .int v1, rU, rU] [.int (if Z.1 = true then 1 else 0)] (T, I2, J, R) Q := by
    intro I1 I2 v1 Z f1 s1 hV hg k
    obtain ⟨zb, za, ls⟩ := Z
    obtain ⟨w1, w2, w3, w4⟩ := hV
    have w3' : I2 54 12 = nI za := w3
    have far : ∀ x, x ≠ 54 → ¬ (59 ≤ x ∧ x ≤ 66) → I2 x = I x := fun x x1 x2 => by rw [w1 x x1 (by omega) (by omega) (by omega) (by omega), f1 x x1]
    have slo : ∀ i, ¬ (12 ≤ i ∧ i ≤ 15) → I2 54 i = I 54 i := fun i hi => by rw [w2 i (by omega) (by omega) (by omega), s1 i hi]
    have old : ∀ x, 59 ≤ x → x ≤ 62 → I2 x = I x := fun x x1 x2 => by rw [w1 x (by omega) (by omega) (by omega) (by omega) (by omega), f1 x (by omega)]
    cases zb with
    | false =>
      simp only [Bool.false_eq_true, if_false, gX7_law_66, t0, true_and, ne_eq, not_true_eq_false, gX7_law_76, up_self, up_ne _ _ (show (12 : Nat) ≠ 4 by decide), w3']
      have kk := k (va_up I2 54 (va_up (I2 54) 4 0)) (fun x x1 x2 => by rw [up_ne _ _ x1]; exact far x x1 x2) (fun i i1 i2 i3 i4 => by rw [up_self, up_ne _ _ i1]; exact slo i i4) (by rw [up_self, up_self]; rfl) (by
        refine MS_fs h (fun x hx => ?_) ?_ ?_ ?_
        · rw [up_ne _ _ (by omega)]
          rcases hx with hx | hx
          · exact far x (by omega) (by omega)
          · exact old x hx.1 hx.2
        · rw [up_self, up_ne _ _ (by decide)]; exact slo 0 (by decide)
        · rw [up_self, up_ne _ _ (by decide)]; exact slo 6 (by decide)
        · rw [up_self, up_ne _ _ (by decide)]; exact slo 7 (by decide))
      exact kk
    | true =>
      obtain ⟨c1, c2, c3⟩ := w4 rfl
      obtain ⟨v1', v2, v3, v4, v5⟩ := hg.2 rfl
      have za8 : za ≤ N := hg.1
      have c1' : I2 54 14 = nI (szL ls) := c1
      have c2' : I2 54 15 = nI ls.length := c2
      have c3' : lnA (I2 63) (I2 64) (I2 65) (I2 66) 0 0 ls := c3
      have v2' : szL ls ≤ za := v2
      have v3' : 2 * ls.length ≤ za + 1 := v3
      -- codes
      have two : ∀ i, i ≤ szL ls → ∀ I4 : tI, (∀ x, x ≠ 54 → ¬ (59 ≤ x ∧ x ≤ 62) → I4 x = I2 x) → (∀ i, i ≠ 4 → i ≠ 6 → i ≠ 7 → I4 54 i = I2 54 i) → I4 54 4 = nI 0 → I4 54 6 = 1 → I4 54 7 = nI ls.length → (∀ j, j < ls.length → I4 59 j = I2 63 j ∧ I4 60 j = I2 64 j ∧ I4 61 j = I2 65 j) → (∀ j, j < i → I4 62 j = I2 66 j) → Ex X (d + 46) mX7_law 151 [.ref 54, .int v1, .int 1, .int (nI i)] [] (T, I4, J, R) Q := by
        refine loop_up (P := fun i => ∀ I4 : tI, (∀ x, x ≠ 54 → ¬ (59 ≤ x ∧ x ≤ 62) → I4 x = I2 x) → (∀ i, i ≠ 4 → i ≠ 6 → i ≠ 7 → I4 54 i = I2 54 i) → I4 54 4 = nI 0 → I4 54 6 = 1 → I4 54 7 = nI ls.length → (∀ j, j < ls.length → I4 59 j = I2 63 j ∧ I4 60 j = I2 64 j ∧ I4 61 j = I2 65 j) → (∀ j, j < i → I4 62 j = I2 66 j) → Ex X (d + 46) mX7_law 151 [.ref 54, .int v1, .int 1, .int (nI i)] [] (T, I4, J, R) Q) (n := szL ls) ?_ ?_
        · intro I4 g1 g2 g3 g4 g5 g6 g7
          have g14 : I4 54 14 = nI (szL ls) := by rw [g2 14 (by decide) (by decide) (by decide)]; exact c1'
          simp only [gX7_law_151, t0, true_and, g14, nI_le (Nat.le_refl (szL ls)) (by omega), if_true, gX7_law_177]
          have hl : lnA (I4 59) (I4 60) (I4 61) (I4 62) 0 0 ls := lnA_fr ls 0 0 (fun j _ hj => g6 j (by omega)) (fun j _ hj => g7 j (by omega)) c3'
          refine k I4 (fun x x1 x2 => by rw [g1 x x1 (by omega)]; exact far x x1 x2) (fun i i1 i2 i3 i4 => by rw [g2 i i1 i2 i3]; exact slo i i4) g3 ?_
          obtain ⟨hm', hok, hn, h8, hl', hr, hkk⟩ := id h
          refine ⟨hm, fun _ => ⟨ls.length, g5, by omega, fun i hi => ?_⟩, by rw [g2 0 (by decide) (by decide) (by decide), slo 0 (by decide)]; exact hn, h8, ?_, ?_, hkk⟩
          · have := ok_lines ls 0 0 hl v4 (by omega) i hi
            rw [Nat.zero_add] at this
            exact this
          · unfold mLw lwL
            rw [g4, if_neg (by decide), if_pos rfl, g5, nI_clamp (by omega)]
            exact congrArg some (funext fun nm => bl_lines ls 0 0 hl v4 (by omega))
          · rw [vm_eq (I := I) (by rw [g1 55 (by decide) (by decide)]; exact far 55 (by decide) (by decide)) (by rw [g1 56 (by decide) (by decide)]; exact far 56 (by decide) (by decide)) (by rw [g1 57 (by decide) (by decide)]; exact far 57 (by decide) (by decide))]
            exact hr
        · intro i hi ih I4 g1 g2 g3 g4 g5 g6 g7
          have g14 : I4 54 14 = nI (szL ls) := by rw [g2 14 (by decide) (by decide) (by decide)]; exact c1'
          simp only [gX7_law_151, t0, true_and, g14, nI_ge hi (by omega), if_false]
          simp only [gX7_law_159, t0, true_and, mr_11 hm, mr_19 hm, rf_some, rIn_at (mt_66 hm) (show i < 200 by omega) (by decide), rIn_at (mt_62 hm) (show i < 200 by omega) (by decide), nI_clamp (show i < 2 ^ 31 by omega), g1 66 (by decide) (by decide), nI_1]
          refine ih _ (fun x x1 x2 => by rw [up_ne _ _ (by omega)]; exact g1 x x1 x2) (fun i i1 i2 i3 => by rw [up_ne _ _ (by decide)]; exact g2 i i1 i2 i3) (by rw [up_ne _ _ (by decide)]; exact g3) (by rw [up_ne _ _ (by decide)]; exact g4) (by rw [up_ne _ _ (by decide)]; exact g5) (fun j hj => by rw [up_ne _ _ (by decide), up_ne _ _ (by decide), up_ne _ _ (by decide)]; exact g6 j hj) (fun j hj => ?_)
          rw [up_self]
          by_cases e : j = i
          · subst e; rw [up_self]
          · rw [up_ne _ _ e]; exact g7 j (by omega)
      -- lines
      have one : ∀ i, i ≤ ls.length → ∀ I4 : tI, (∀ x, x ≠ 54 → ¬ (59 ≤ x ∧ x ≤ 62) → I4 x = I2 x) → (∀ i, i ≠ 4 → i ≠ 6 → i ≠ 7 → I4 54 i = I2 54 i) → I4 54 4 = nI 0 → I4 54 6 = 1 → I4 54 7 = nI ls.length → (∀ j, j < i → I4 59 j = I2 63 j ∧ I4 60 j = I2 64 j ∧ I4 61 j = I2 65 j) → Ex X (d + 46) mX7_law 99 [.ref 54, .int v1, .int 1, .int (nI i)] [] (T, I4, J, R) Q := by
        refine loop_up (P := fun i => ∀ I4 : tI, (∀ x, x ≠ 54 → ¬ (59 ≤ x ∧ x ≤ 62) → I4 x = I2 x) → (∀ i, i ≠ 4 → i ≠ 6 → i ≠ 7 → I4 54 i = I2 54 i) → I4 54 4 = nI 0 → I4 54 6 = 1 → I4 54 7 = nI ls.length → (∀ j, j < i → I4 59 j = I2 63 j ∧ I4 60 j = I2 64 j ∧ I4 61 j = I2 65 j) → Ex X (d + 46) mX7_law 99 [.ref 54, .int v1, .int 1, .int (nI i)] [] (T, I4, J, R) Q) (n := ls.length) ?_ ?_
        · intro I4 g1 g2 g3 g4 g5 g6
          simp only [gX7_law_99, t0, true_and, g5, nI_le (Nat.le_refl ls.length) (by omega), if_true, gX7_law_149]
          exact two 0 (by omega) I4 g1 g2 g3 g4 g5 g6 (fun j hj => absurd hj (by omega))
        · intro i hi ih I4 g1 g2 g3 g4 g5 g6
          simp only [gX7_law_99, t0, true_and, g5, nI_ge hi (by omega), if_false]
          simp only [gX7_law_107, t0, true_and, mr_8 hm, mr_9 hm, mr_10 hm, mr_16 hm, mr_17 hm, mr_18 hm, rf_some, rIn_at (mt_59 hm) (show i < 60 by omega) (by decide), rIn_at (mt_60 hm) (show i < 60 by omega) (by decide), rIn_at (mt_61 hm) (show i < 60 by omega) (by decide), rIn_at (mt_63 hm) (show i < 61 by omega) (by decide), rIn_at (mt_64 hm) (show i < 61 by omega) (by decide), rIn_at (mt_65 hm) (show i < 61 by omega) (by decide), nI_clamp (show i < 2 ^ 31 by omega), up_ne _ _ (show (64 : Nat) ≠ 59 by decide), up_ne _ _ (show (65 : Nat) ≠ 59 by decide), up_ne _ _ (show (65 : Nat) ≠ 60 by decide), up_ne _ _ (show (60 : Nat) ≠ 59 by decide), up_ne _ _ (show (61 : Nat) ≠ 59 by decide), up_ne _ _ (show (61 : Nat) ≠ 60 by decide), g1 63 (by decide) (by decide), g1 64 (by decide) (by decide), g1 65 (by decide) (by decide), nI_1]
          refine ih _ (fun x x1 x2 => by rw [up_ne _ _ (by omega), up_ne _ _ (by omega), up_ne _ _ (by omega)]; exact g1 x x1 x2) (fun i i1 i2 i3 => by rw [up_ne _ _ (by decide), up_ne _ _ (by decide), up_ne _ _ (by decide)]; exact g2 i i1 i2 i3) (by rw [up_ne _ _ (by decide), up_ne _ _ (by decide), up_ne _ _ (by decide)]; exact g3) (by rw [up_ne _ _ (by decide), up_ne _ _ (by decide), up_ne _ _ (by decide)]; exact g4) (by rw [up_ne _ _ (by decide), up_ne _ _ (by decide), up_ne _ _ (by decide)]; exact g5) (fun j hj => ?_)
          rw [up_ne _ _ (show (59 : Nat) ≠ 61 by decide), up_ne _ _ (show (59 : Nat) ≠ 60 by decide), up_self, up_ne _ _ (show (60 : Nat) ≠ 61 by decide), up_self, up_self]
          by_cases e : j = i
          · subst e; rw [up_self, up_self, up_self]; exact ⟨rfl, rfl, rfl⟩
          · rw [up_ne _ _ e, up_ne _ _ e, up_ne _ _ e]; exact g6 j (by omega)
      simp only [if_true, gX7_law_66, t0, true_and, ne_eq, show ¬ (1 : Int32) = 0 by decide, not_false_eq_true, gX7_law_84, or_true, up_self, up_ne _ _ (show (15 : Nat) ≠ 6 by decide), up_ne _ _ (show (15 : Nat) ≠ 4 by decide), c2']
      refine one 0 (by omega) _ (fun x x1 x2 => ?_) (fun i i1 i2 i3 => ?_) ?_ ?_ ?_ (fun j hj => absurd hj (by omega))
      · rw [up_ne _ _ x1, up_ne _ _ x1, up_ne _ _ x1]
      · rw [up_self, up_ne _ _ i3, up_ne _ _ i2, up_ne _ _ i1]
      · rw [up_self, up_ne _ _ (by decide), up_ne _ _ (by decide), up_self]; rfl
      · rw [up_self, up_ne _ _ (by decide), up_self]
      · rw [up_self, up_self]
  have key : ∀ I1 : tI, (∀ x, x ≠ 54 → I1 x = I x) → (∀ i, ¬ (12 ≤ i ∧ i ≤ 15) → I1 54 i = I 54 i) → I1 54 12 = nI 0 → I1 54 13 = 0 → I1 54 14 = nI 0 → I1 54 15 = nI 0 → Ex X (d + 45) mX7_isLine 0 [.ref 54] [] (T, I1, J, R) (fun v σ1 => Ex X (d + 46) mX7_law 24 [.ref 54, rU, rU, rU] (v.toList ++ []) σ1 Q) := by
    intro I1 f1 s1 s12 s13 s14 s15
    have hD1 : ND I1 N tp 0 := ⟨by rw [s1 4 (by decide)]; exact h1, hN, fun i hi => by rw [f1 58 (by decide)]; exact htp i hi, s12, by omega⟩
    have loop : ∀ (m : Nat) (zb : Bool) (za : Nat) (ls : tLn) (I2 : tI), N ≤ za + m → LV I1 I2 (zb, za, ls) → gV N (zb, za, ls) → (∀ I' : tI, (∀ x, x ≠ 54 → ¬ (59 ≤ x ∧ x ≤ 66) → I' x = I x) → (∀ i, i ≠ 4 → i ≠ 6 → i ≠ 7 → ¬ (12 ≤ i ∧ i ≤ 15) → I' 54 i = I 54 i) → I' 54 4 = nI 0 → MS T I' R n (lwL l (pxS (sxS tp N) N m (zb, za, ls))) r → Q (some (.int (lwA (pxS (sxS tp N) N m (zb, za, ls))))) (T, I', J, R)) → Ex X (d + 46) mX7_law 25 [.ref 54, .int (if zb = true then 1 else 0), rU, rU] [] (T, I2, J, R) Q := by
      intro m
      -- it is not there
      have bad : ∀ (za : Nat) (ls : tLn) (I2 : tI), LV I1 I2 (false, za, ls) → gV N (false, za, ls) → (∀ I' : tI, (∀ x, x ≠ 54 → ¬ (59 ≤ x ∧ x ≤ 66) → I' x = I x) → (∀ i, i ≠ 4 → i ≠ 6 → i ≠ 7 → ¬ (12 ≤ i ∧ i ≤ 15) → I' 54 i = I 54 i) → I' 54 4 = nI 0 → MS T I' R n (lwL l (false, za, ls)) r → Q (some (.int (lwA (false, za, ls)))) (T, I', J, R)) → Ex X (d + 46) mX7_law 25 [.ref 54, .int (if false = true then 1 else 0), rU, rU] [] (T, I2, J, R) Q := by
        intro za ls I2 hV hg k
        have := fin I1 I2 0 (false, za, ls) f1 s1 hV hg k
        simp only [Bool.false_eq_true, if_false, if_true, gX7_law_25, gX7_law_46, gX7_law_65] at this ⊢
        exact this
      -- it is there, and ends
      have good : ∀ (za : Nat) (ls : tLn) (I2 : tI), za = N → LV I1 I2 (true, za, ls) → gV N (true, za, ls) → (∀ I' : tI, (∀ x, x ≠ 54 → ¬ (59 ≤ x ∧ x ≤ 66) → I' x = I x) → (∀ i, i ≠ 4 → i ≠ 6 → i ≠ 7 → ¬ (12 ≤ i ∧ i ≤ 15) → I' 54 i = I 54 i) → I' 54 4 = nI 0 → MS T I' R n (lwL l (true, za, ls)) r → Q (some (.int (lwA (true, za, ls)))) (T, I', J, R)) → Ex X (d + 46) mX7_law 25 [.ref 54, .int (if true = true then 1 else 0), rU, rU] [] (T, I2, J, R) Q := by
        intro za ls I2 eN hV hg k
        have hD2 : ND I2 N tp za := ⟨by rw [hV.2.1 4 (by decide) (by decide) (by decide)]; exact hD1.1, hN, fun i hi => by rw [hV.1 58 (by decide) (by decide) (by decide) (by decide) (by decide)]; exact hD1.2.2.1 i hi, hV.2.2.1, hg.1⟩
        have e : ¬ sxS tp N za = 59 := fun q => absurd (sg_lt (P := fun c => c = 59) q (by decide +kernel)) (by omega)
        simp only [if_true, gX7_law_25, show ¬ (1 : Int32) = 0 by decide, if_false, gX7_law_29, t0, true_and]
        refine m_is hm hD2 (fun I3 hm3 => ?_)
        rw [if_neg e] at hm3
        have hV3 := LV_mv hV hm3
        have e12 : I3 54 12 = nI N := by rw [hm3.2.2, eN]
        have e4 : I3 54 4 = nI N := by rw [hm3.2.1 4 (by decide)]; exact hD2.1
        have := fin I1 I3 1 (true, za, ls) f1 s1 hV3 hg k
        simp only [Option.toList_some, List.cons_append, List.nil_append, e, if_false, gX7_law_35, if_true, gX7_law_46, show ¬ (1 : Int32) = 0 by decide, gX7_law_50, t0, true_and, e12, e4, ne_eq, not_true_eq_false, gX7_law_61] at this ⊢
        exact this
      induction m with
      | zero =>
        intro zb za ls I2 hi hV hg k
        have hg1 : za ≤ N := hg.1
        cases zb with
        | false => exact bad za ls I2 hV hg k
        | true => exact good za ls I2 (by omega) hV hg k
      | succ m ih =>
        intro zb za ls I2 hi hV hg k
        have hg1 : za ≤ N := hg.1
        cases zb with
        | false =>
          rw [pxS, if_neg (fun q => absurd q.1 (by simp))] at k
          exact bad za ls I2 hV hg k
        | true =>
          by_cases lt : za < N
          · rw [pxS, if_pos ⟨rfl, lt⟩] at k
            have hD2 : ND I2 N tp za := ⟨by rw [hV.2.1 4 (by decide) (by decide) (by decide)]; exact hD1.1, hN, fun i hi => by rw [hV.1 58 (by decide) (by decide) (by decide) (by decide) (by decide)]; exact hD1.2.2.1 i hi, hV.2.2.1, hg.1⟩
            simp only [if_true, gX7_law_25, show ¬ (1 : Int32) = 0 by decide, if_false, gX7_law_29, t0, true_and]
            refine m_is hm hD2 (fun I3 hm3 => ?_)
            by_cases e : sxS tp N za = 59
            · rw [if_pos e] at hm3 k
              obtain ⟨v1, v2, v3, v4, v5⟩ := hg.2 rfl
              obtain ⟨c1, c2, c3⟩ := hV.2.2.2 rfl
              have v2' : szL ls ≤ za := v2
              have v3' : 2 * ls.length ≤ za + 1 := v3
              simp only [Option.toList_some, List.cons_append, List.nil_append, e, if_true, gX7_law_35, show ¬ (1 : Int32) = 0 by decide, if_false, gX7_law_38, t0, true_and]
              refine m_isLine (d := d) (sz := szL ls) (ln := ls.length) hm (ND_mv hD2 hm3 lt) (by rw [hm3.2.1 14 (by decide)]; exact c1) (by omega) (by rw [hm3.2.1 13 (by decide), hV.2.1 13 (by decide) (by decide) (by decide)]; exact s13) (by rw [hm3.2.1 15 (by decide)]; exact c2) (by omega) (fun I4 hn4 => ?_)
              simp only [Option.toList_some, List.cons_append, List.nil_append, gX7_law_42]
              have hD3 := ND_mv hD2 hm3 lt
              have gl := gd_L (tp := tp) (N := N) (a := za + 1) lt
              exact ih _ _ _ I4 (by have := gl.1; omega) (LV_1 hV hm3 hn4) (gV_1 hg lt) k
            · rw [if_neg e] at hm3 k
              have hV3 := LV_mv hV hm3
              have e12 : I3 54 12 = nI za := hm3.2.2
              have e4 : I3 54 4 = nI N := by rw [hm3.2.1 4 (by decide)]; exact hD2.1
              have ne : ¬ nI za = nI N := fun q => by
                rw [nI_eq (by omega) (by omega)] at q
                omega
              have := fin I1 I3 1 (false, za, []) f1 s1 ⟨hV3.1, hV3.2.1, hV3.2.2.1, fun q => absurd q (by simp)⟩ ⟨hg1, fun q => absurd q (by simp)⟩ k
              simp only [Option.toList_some, List.cons_append, List.nil_append, e, if_false, gX7_law_35, if_true, gX7_law_46, show ¬ (1 : Int32) = 0 by decide, gX7_law_50, t0, true_and, e12, e4, ne_eq, ne, not_false_eq_true, gX7_law_65, Bool.false_eq_true] at this ⊢
              exact this
          · rw [pxS, if_neg (fun q => lt q.2)] at k
            exact good za ls I2 (by omega) hV hg k
    refine m_isLine (d := d) (sz := 0) (ln := 0) hm hD1 s14 (Nat.le_refl 0) s13 s15 (by omega) (fun I2 hn2 => ?_)
    simp only [Option.toList_some, List.cons_append, List.nil_append, gX7_law_24]
    have hV0 : LV I1 I1 (true, 0, []) := ⟨fun _ _ _ _ _ _ => rfl, fun _ _ _ _ => rfl, s12, fun _ => ⟨s14, s15, trivial⟩⟩
    exact loop 120 _ _ _ I2 (by omega) (LV_1 hV0 (mw_r s12) hn2) gV_0 k
  simp only [gX7_law_0, t0, true_and]
  refine key _ (fun x hx => ?_) (fun i hi => ?_) ?_ ?_ ?_ ?_
  · rw [up_ne _ _ hx, up_ne _ _ hx, up_ne _ _ hx, up_ne _ _ hx]
  · simp only [up_self]
    rw [up_ne _ _ (by omega), up_ne _ _ (by omega), up_ne _ _ (by omega), up_ne _ _ (by omega)]
  · simp only [up_self]
    rw [up_ne _ _ (by decide), up_ne _ _ (by decide), up_ne _ _ (by decide), up_self]
    rfl
  · simp only [up_self]
    rw [up_ne _ _ (by decide), up_ne _ _ (by decide), up_self]
  · simp only [up_self]
    rw [up_ne _ _ (by decide), up_self]
    rfl
  · simp only [up_self]
    rfl
end LW
