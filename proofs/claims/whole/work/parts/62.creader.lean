/-! PURE: the class's reader -/
def RK (T : tT) (R : tR) (b : Nat) : Prop := T[25]? = some (3, 2) ∧ R 25 0 = some 26 ∧ T[26]? = some (0, 120) ∧ R 25 3 = some b ∧ IsLaw T R b ∧ (b = 27 ∨ b = 30)
def RD (I : tI) (N : Nat) (tp : Nat → Int32) (b a : Nat) : Prop := I 25 1 = nI N ∧ N ≤ 120 ∧ (∀ i, i < N → I 26 i = tp i) ∧ I 25 2 = nI a ∧ a ≤ N ∧ ∃ s : Nat, s ≤ 121 ∧ I b 2 = nI s
/-- only the place has moved -/
def mvC (I I' : tI) (a : Nat) : Prop := (∀ x, x ≠ 25 → I' x = I x) ∧ I' 25 1 = I 25 1 ∧ I' 25 2 = nI a
/-- a code has been added, if there was room -/
def adC (b : Nat) (I I' : tI) (c : Int32) : Prop := (∀ x, x ≠ b → x ≠ b + 1 → I' x = I x) ∧ (∃ s : Nat, s ≤ 121 ∧ I' b 2 = nI s) ∧ ∀ s : Nat, I b 2 = nI s → s < 121 → I' b 2 = nI (s + 1) ∧ I' (b + 1) = va_up (I (b + 1)) s c
def cP (b : Nat) (I I' : tI) (sz : Nat) (z : tZ) : Prop := (∀ x, x ≠ 25 → x ≠ b → x ≠ b + 1 → I' x = I x) ∧ I' 25 1 = I 25 1 ∧ I' 25 2 = nI z.2.1 ∧ (∃ s : Nat, s ≤ 121 ∧ I' b 2 = nI s) ∧ (z.1 = true → I' b 2 = nI (sz + z.2.2.length) ∧ (∀ i, i < sz → I' (b + 1) i = I (b + 1) i) ∧ rwA (I' (b + 1)) sz z.2.2)
theorem op_O {c : Int32} : opO c = true ↔ c = 124 := by unfold opO; rw [beq_iff_eq]
theorem op_N {c : Int32} : opN c = true ↔ c = 38 := by unfold opN; rw [beq_iff_eq]
theorem op_A {c : Int32} : opA c = true ↔ c = 43 ∨ c = 45 := by unfold opA; rw [Bool.or_eq_true, beq_iff_eq, beq_iff_eq]
theorem op_M {c : Int32} : opM c = true ↔ (c = 42 ∨ c = 47) ∨ c = 37 := by unfold opM; rw [Bool.or_eq_true, Bool.or_eq_true, beq_iff_eq, beq_iff_eq, beq_iff_eq]
theorem op_B {c : Int32} : opB c = true ↔ (c = 60 ∨ c = 61) ∨ c = 62 := by unfold opB; rw [Bool.or_eq_true, Bool.or_eq_true, beq_iff_eq, beq_iff_eq, beq_iff_eq]
section RD
variable {X : tX} {T : tT} {I I' I1 I2 I3 I4 : tI} {J : tJ} {R : tR} {Q : tQ} {d b a sz N : Nat} {tp : Nat → Int32} {z y : tZ} {f : Nat → tZ} {c ov : Int32}
theorem RD_cP (hb : b = 27 ∨ b = 30) (hD : RD I N tp b a) (hP : cP b I I' sz z) (hz : z.2.1 ≤ N) : RD I' N tp b z.2.1 := by
  obtain ⟨d1, d2, d3, d4, d5, d6⟩ := hD
  obtain ⟨p1, p2, p3, p4, p5⟩ := hP
  exact ⟨by rw [p2]; exact d1, d2, fun i hi => by rw [p1 26 (by decide) (by omega) (by omega)]; exact d3 i hi, p3, hz, p4⟩
theorem RD_mv' {a' : Nat} (hb : b = 27 ∨ b = 30) (hD : RD I N tp b a) (hm : mvC I I' a') (hz : a' ≤ N) : RD I' N tp b a' := by
  obtain ⟨d1, d2, d3, d4, d5, d6⟩ := hD
  obtain ⟨p1, p2, p3⟩ := hm
  exact ⟨by rw [p2]; exact d1, d2, fun i hi => by rw [p1 26 (by decide)]; exact d3 i hi, p3, hz, by rw [p1 b (by omega)]; exact d6⟩
theorem mv_up (h : I 25 2 = nI a) : mvC I (va_up I 25 (va_up (I 25) 2 (nI (a + 1)))) (a + 1) := ⟨fun x hx => up_ne _ _ hx, by rw [up_self, up_ne _ _ (by decide)], by rw [up_self, up_self]⟩
theorem cP_mv (hb : b = 27 ∨ b = 30) (hP : cP b I I1 sz z) (hm : mvC I1 I2 z.2.1) : cP b I I2 sz z := by
  obtain ⟨p1, p2, p3, p4, p5⟩ := hP
  obtain ⟨m1, m2, m3⟩ := hm
  refine ⟨fun x h1 h2 h3 => by rw [m1 x h1]; exact p1 x h1 h2 h3, by rw [m2]; exact p2, m3, by rw [m1 b (by omega)]; exact p4, ?_⟩
  rw [m1 b (by omega), m1 (b + 1) (by omega)]
  exact p5
/-- the same state, seen as a reading that has not begun -/
theorem cP_bad (hb : b = 27 ∨ b = 30) {a' : Nat} {l : List Int32} (hm : mvC I I' a') (h : ∃ s : Nat, s ≤ 121 ∧ I b 2 = nI s) : cP b I I' sz (false, a', l) := by
  obtain ⟨m1, m2, m3⟩ := hm
  exact ⟨fun x h1 _ _ => m1 x h1, m2, m3, by rw [m1 b (by omega)]; exact h, fun h => absurd h (by simp)⟩
theorem mv_r (h : I 25 2 = nI a) : mvC I I a := ⟨fun _ _ => rfl, rfl, h⟩
theorem cP_ad (hb : b = 27 ∨ b = 30) (h1 : cP b I I1 sz z) (hA : adC b I1 I2 c) (hl : z.1 = true → sz + z.2.2.length < 121) : cP b I I2 sz (z.1, z.2.1, z.2.2 ++ [c]) := by
  obtain ⟨p1, p2, p3, p4, p5⟩ := h1
  obtain ⟨a1, a2, a3⟩ := hA
  refine ⟨fun x x1 x2 x3 => by rw [a1 x x2 x3]; exact p1 x x1 x2 x3, by rw [a1 25 (by omega) (by omega)]; exact p2, by rw [a1 25 (by omega) (by omega)]; exact p3, a2, fun e => ?_⟩
  obtain ⟨q1, q2, q3⟩ := p5 e
  obtain ⟨e1, e2⟩ := a3 _ q1 (hl e)
  refine ⟨?_, fun i hi => ?_, ?_⟩
  · rw [e1]
    show _ = nI (sz + (z.2.2 ++ [c]).length)
    rw [List.length_append]
    rfl
  · rw [e2, up_ne _ _ (by omega)]
    exact q2 i hi
  · show rwA (I2 (b + 1)) sz (z.2.2 ++ [c])
    refine rwA_app.mpr ⟨rwA_fr (fun j h1 h2 => ?_) q3, ?_, trivial⟩
    · rw [e2, up_ne _ _ (by omega)]
    · rw [e2, up_self]
/-- one reading behind another -/
theorem cP_cat (hb : b = 27 ∨ b = 30) (h1 : cP b I I1 sz z) (e : z.1 = true) (hm : mvC I1 I2 a) (h3 : cP b I2 I3 (sz + z.2.2.length) y) : cP b I I3 sz (y.1, y.2.1, z.2.2 ++ y.2.2) := by
  obtain ⟨p1, p2, p3, p4, p5⟩ := h1
  obtain ⟨m1, m2, m3⟩ := hm
  obtain ⟨q1, q2, q3, q4, q5⟩ := h3
  refine ⟨fun x x1 x2 x3 => by rw [q1 x x1 x2 x3, m1 x x1]; exact p1 x x1 x2 x3, by rw [q2, m2]; exact p2, q3, q4, fun e2 => ?_⟩
  obtain ⟨f1, f2, f3⟩ := p5 e
  obtain ⟨g1, g2, g3⟩ := q5 e2
  have mb : I2 (b + 1) = I1 (b + 1) := m1 _ (by omega)
  refine ⟨?_, fun i hi => ?_, ?_⟩
  · rw [g1]
    show _ = nI (sz + (z.2.2 ++ y.2.2).length)
    rw [List.length_append, Nat.add_assoc]
  · rw [g2 i (by omega), mb]
    exact f2 i hi
  · show rwA (I3 (b + 1)) sz (z.2.2 ++ y.2.2)
    refine rwA_app.mpr ⟨rwA_fr (fun j h1 h2 => ?_) f3, g3⟩
    rw [g2 j (by omega), mb]
theorem c_next (hK : RK T R b) (hD : RD I N tp b a) (k : Q (some (.int (sxS tp N a))) (T, I, J, R)) : Ex X d mX2_next 0 [.ref 25] [] (T, I, J, R) Q := by
  obtain ⟨t25, r0, t26, r3, hL, hb⟩ := hK
  obtain ⟨d1, d2, d3, d4, d5, d6⟩ := hD
  unfold sxS at k
  simp only [gX2_next_0, t25, true_and, d4, nI_pos (show a < 2 ^ 31 by omega), if_false, gX2_next_7, d1]
  by_cases h : a < N
  · rw [if_pos h] at k
    simp only [nI_ge h (by omega), if_false, gX2_next_18, t25, true_and, r0, rf_some, d4, rIn_at t26 (show a < 120 by omega) (by decide), nI_clamp (show a < 2 ^ 31 by omega), d3 a h, gX2_next_31]
    exact k
  · rw [if_neg h] at k
    simp only [nI_le (show N ≤ a by omega) (by omega), if_true, gX2_next_30, gX2_next_31]
    exact k
theorem c_passes (hK : RK T R b) (hD : RD I N tp b a) (k : ∀ I' : tI, mvC I I' (if sxS tp N a = c then a + 1 else a) → Q (some (.int (if sxS tp N a = c then 1 else 0))) (T, I', J, R)) : Ex X (d + 1) mX2_passes 0 [.ref 25, .int c, rU] [] (T, I, J, R) Q := by
  have d4 : I 25 2 = nI a := hD.2.2.2.1
  have t25 := hK.1
  simp only [gX2_passes_0, t25, true_and]
  refine c_next hK hD ?_
  simp only [Option.toList_some, List.cons_append, List.nil_append, gX2_passes_4, ne_eq]
  by_cases h : sxS tp N a = c
  · simp only [h, not_true_eq_false, if_false, if_true, gX2_passes_8, gX2_passes_13, t25, true_and, show ¬ (1 : Int32) = 0 by decide, gX2_passes_23, gX2_passes_28, d4, nI_1, or_true] at k ⊢
    exact k _ (mv_up d4)
  · simp only [h, not_false_eq_true, if_false, if_true, gX2_passes_12, gX2_passes_13, t25, true_and, gX2_passes_27, gX2_passes_28, d4, Int32.add_zero, true_or] at k ⊢
    refine k _ ⟨fun x hx => up_ne _ _ hx, by rw [up_self, up_ne _ _ (by decide)], by rw [up_self, up_self]⟩
theorem c_add (hL : IsLaw T R b) (h : ∃ s : Nat, s ≤ 121 ∧ I b 2 = nI s) (k : ∀ I' : tI, adC b I I' c → Q none (T, I', J, R)) : Ex X d mX1_add 0 [.ref b, .int c] [] (T, I, J, R) Q := by
  obtain ⟨t0, t1, t2, r0, r1⟩ := hL
  obtain ⟨s, h1, h2⟩ := h
  simp only [gX1_add_0, t0, true_and, h2]
  by_cases e : 121 ≤ s
  · simp only [show (121 : Int32) ≤ nI s from nI_le (a := 121) e (by omega), if_true, gX1_add_26]
    refine k I ⟨fun _ _ _ => rfl, ⟨s, h1, h2⟩, fun s' q q2 => ?_⟩
    rw [h2, nI_eq (by omega) (by omega)] at q
    omega
  · simp only [show ¬ (121 : Int32) ≤ nI s from nI_ge (b := 121) (by omega) (by decide), if_false, gX1_add_9, t0, true_and, r0, rf_some, h2, nI_1, rIn_at t1 (show s < 121 by omega) (by decide), nI_clamp (show s < 2 ^ 31 by omega), gX1_add_26]
    refine k _ ⟨fun x x1 x2 => by rw [up_ne _ _ x2, up_ne _ _ x1], ⟨s + 1, by omega, by rw [up_ne _ _ (by omega), up_self, up_self]⟩, fun s' q q2 => ?_⟩
    rw [h2, nI_eq (by omega) (by omega)] at q
    subst q
    refine ⟨by rw [up_ne _ _ (by omega), up_self, up_self], ?_⟩
    rw [up_self, up_ne _ _ (by omega)]
/-- what a part of the reader owes -/
def cM (X : tX) (d : Nat) (T : tT) (J : tJ) (R : tR) (N : Nat) (tp : Nat → Int32) (b : Nat) (M : rM) (L : List Value) (f : Nat → tZ) : Prop := ∀ (I : tI) (a sz : Nat) (Q : tQ), RD I N tp b a → I b 2 = nI sz → sz ≤ a → (∀ I' : tI, cP b I I' sz (f a) → Q (some (.int (if (f a).1 = true then 1 else 0))) (T, I', J, R)) → Ex X d M 0 L [] (T, I, J, R) Q
theorem gz_1 {op : Int32 → Bool} (ho : okOp op) (hf : Gd N f) {za : Nat} {zc : List Int32} (hg : gZ N a (true, za, zc)) (hop : op (sxS tp N za) = true) : gZ N a ((f (za + 1)).1, (f (za + 1)).2.1, zc ++ (f (za + 1)).2.2 ++ [-(sxS tp N za)]) := by
  have := gd_ch (t := tp) ho hf 1 (true, za, zc) a hg
  rw [chS_yes ⟨rfl, hop⟩] at this
  exact this
theorem c_both (hK : RK T R b) (hf : Gd N f) (h : cM X (d + 1) T J R N tp b mX2_compared [.ref 25, .int ov, rU, rU] f) : cM X (d + 2) T J R N tp b mX2_both [.ref 25, .int ov, rU, rU] (fun a => chS opN (sxS tp N) f 120 (f a)) := by
  intro I a sz Q hD hs hsa k
  obtain ⟨t25, r0, t26, r3, hL, hb⟩ := id hK
  have ha : a ≤ N := hD.2.2.2.2.1
  have hN : N ≤ 120 := hD.2.1
  have loop : ∀ (m i : Nat) (zb : Bool) (za : Nat) (zc : List Int32) (I1 : tI), i + m = 120 → cP b I I1 sz (zb, za, zc) → gZ N a (zb, za, zc) → (∀ I' : tI, cP b I I' sz (chS opN (sxS tp N) f m (zb, za, zc)) → Q (some (.int (if (chS opN (sxS tp N) f m (zb, za, zc)).1 = true then 1 else 0))) (T, I', J, R)) → Ex X (d + 2) mX2_both 8 [.ref 25, .int ov, .int (if zb = true then 1 else 0), .int (nI i)] [] (T, I1, J, R) Q := by
    intro m
    induction m with
    | zero =>
      intro i zb za zc I1 hi hP hg k
      have kk := k I1 hP
      cases zb with
      | false =>
        simp only [gX2_both_8, Bool.false_eq_true, if_false, if_true, gX2_both_48, true_or, true_and]
        exact kk
      | true =>
        simp only [gX2_both_8, if_true, show ¬ (1 : Int32) = 0 by decide, if_false, gX2_both_12, show (120 : Int32) ≤ nI i from nI_le (a := 120) (by omega) (by omega), gX2_both_48, or_true, true_and]
        exact kk
    | succ m ih =>
      intro i zb za zc I1 hi hP hg k
      cases zb with
      | false =>
        rw [chS_no (fun q => absurd q.1 (by simp))] at k
        have kk := k I1 hP
        simp only [gX2_both_8, Bool.false_eq_true, if_false, if_true, gX2_both_48, true_or, true_and]
        exact kk
      | true =>
        have hD1 : RD I1 N tp b za := RD_cP hb hD hP hg.2.1
        simp only [gX2_both_8, if_true, show ¬ (1 : Int32) = 0 by decide, if_false, gX2_both_12, show ¬ (120 : Int32) ≤ nI i from nI_ge (b := 120) (by omega) (by decide), gX2_both_18, t25, true_and]
        refine c_passes hK hD1 (fun I2 hm2 => ?_)
        simp only [Option.toList_some, List.cons_append, List.nil_append, gX2_both_24]
        by_cases e : sxS tp N za = 38
        · rw [if_pos e] at hm2
          have hop : opN (sxS tp N za) = true := op_N.mpr e
          rw [chS_yes ⟨rfl, hop⟩] at k
          have lt : za < N := op_lt ooN hop
          obtain ⟨g4, g5, g6, g7⟩ := hg.2.2 rfl
          have g5' : zc.length + a ≤ za := g5
          obtain ⟨f1, f2, f3⟩ := hP.2.2.2.2 rfl
          simp only [e, if_true, show ¬ (1 : Int32) = 0 by decide, if_false, gX2_both_27, t25, true_and]
          refine h I2 (za + 1) (sz + zc.length) _ (RD_mv' hb hD1 hm2 (by omega)) (by rw [hm2.1 b (by omega)]; exact f1) (by omega) (fun I3 hP3 => ?_)
          simp only [Option.toList_some, List.cons_append, List.nil_append, gX2_both_32, t25, true_and, r3, rf_some, hL.1]
          refine c_add hL hP3.2.2.2.1 (fun I4 hA => ?_)
          simp only [Option.toList_none, List.nil_append, gX2_both_42, nI_1]
          have gg := gz_1 (tp := tp) ooN hf hg hop
          refine ih (i + 1) _ _ _ I4 (by omega) ?_ gg k
          have hcat := cP_cat hb hP rfl hm2 hP3
          rw [e]
          refine cP_ad hb hcat hA (fun q => ?_)
          obtain ⟨y1, y2, y3⟩ := hf (za + 1) (by omega)
          obtain ⟨y4, y5, -⟩ := y3 q
          show sz + (zc ++ (f (za + 1)).2.2).length < 121
          rw [List.length_append]
          omega
        · rw [if_neg e] at hm2
          rw [chS_no (fun q => e (op_N.mp q.2))] at k
          have kk := k I2 (cP_mv hb hP hm2)
          simp only [e, if_false, if_true, gX2_both_48, or_true, true_and]
          exact kk
  simp only [gX2_both_0, t25, true_and]
  refine h I a sz _ hD hs hsa (fun I1 hP1 => ?_)
  simp only [Option.toList_some, List.cons_append, List.nil_append, gX2_both_5]
  exact loop 120 0 _ _ _ I1 rfl hP1 (hf a ha) k
theorem c_either (hK : RK T R b) (hf : Gd N f) (h : cM X (d + 1) T J R N tp b mX2_both [.ref 25, .int ov, rU, rU] f) : cM X (d + 2) T J R N tp b mX2_either [.ref 25, .int ov, rU, rU] (fun a => chS opO (sxS tp N) f 120 (f a)) := by
  intro I a sz Q hD hs hsa k
  obtain ⟨t25, r0, t26, r3, hL, hb⟩ := id hK
  have ha : a ≤ N := hD.2.2.2.2.1
  have hN : N ≤ 120 := hD.2.1
  have loop : ∀ (m i : Nat) (zb : Bool) (za : Nat) (zc : List Int32) (I1 : tI), i + m = 120 → cP b I I1 sz (zb, za, zc) → gZ N a (zb, za, zc) → (∀ I' : tI, cP b I I' sz (chS opO (sxS tp N) f m (zb, za, zc)) → Q (some (.int (if (chS opO (sxS tp N) f m (zb, za, zc)).1 = true then 1 else 0))) (T, I', J, R)) → Ex X (d + 2) mX2_either 8 [.ref 25, .int ov, .int (if zb = true then 1 else 0), .int (nI i)] [] (T, I1, J, R) Q := by
    intro m
    induction m with
    | zero =>
      intro i zb za zc I1 hi hP hg k
      have kk := k I1 hP
      cases zb with
      | false =>
        simp only [gX2_either_8, Bool.false_eq_true, if_false, if_true, gX2_either_48, true_or, true_and]
        exact kk
      | true =>
        simp only [gX2_either_8, if_true, show ¬ (1 : Int32) = 0 by decide, if_false, gX2_either_12, show (120 : Int32) ≤ nI i from nI_le (a := 120) (by omega) (by omega), gX2_either_48, or_true, true_and]
        exact kk
    | succ m ih =>
      intro i zb za zc I1 hi hP hg k
      cases zb with
      | false =>
        rw [chS_no (fun q => absurd q.1 (by simp))] at k
        have kk := k I1 hP
        simp only [gX2_either_8, Bool.false_eq_true, if_false, if_true, gX2_either_48, true_or, true_and]
        exact kk
      | true =>
        have hD1 : RD I1 N tp b za := RD_cP hb hD hP hg.2.1
        simp only [gX2_either_8, if_true, show ¬ (1 : Int32) = 0 by decide, if_false, gX2_either_12, show ¬ (120 : Int32) ≤ nI i from nI_ge (b := 120) (by omega) (by decide), gX2_either_18, t25, true_and]
        refine c_passes hK hD1 (fun I2 hm2 => ?_)
        simp only [Option.toList_some, List.cons_append, List.nil_append, gX2_either_24]
        by_cases e : sxS tp N za = 124
        · rw [if_pos e] at hm2
          have hop : opO (sxS tp N za) = true := op_O.mpr e
          rw [chS_yes ⟨rfl, hop⟩] at k
          have lt : za < N := op_lt ooO hop
          obtain ⟨g4, g5, g6, g7⟩ := hg.2.2 rfl
          have g5' : zc.length + a ≤ za := g5
          obtain ⟨f1, f2, f3⟩ := hP.2.2.2.2 rfl
          simp only [e, if_true, show ¬ (1 : Int32) = 0 by decide, if_false, gX2_either_27, t25, true_and]
          refine h I2 (za + 1) (sz + zc.length) _ (RD_mv' hb hD1 hm2 (by omega)) (by rw [hm2.1 b (by omega)]; exact f1) (by omega) (fun I3 hP3 => ?_)
          simp only [Option.toList_some, List.cons_append, List.nil_append, gX2_either_32, t25, true_and, r3, rf_some, hL.1]
          refine c_add hL hP3.2.2.2.1 (fun I4 hA => ?_)
          simp only [Option.toList_none, List.nil_append, gX2_either_42, nI_1]
          have gg := gz_1 (tp := tp) ooO hf hg hop
          refine ih (i + 1) _ _ _ I4 (by omega) ?_ gg k
          have hcat := cP_cat hb hP rfl hm2 hP3
          rw [e]
          refine cP_ad hb hcat hA (fun q => ?_)
          obtain ⟨y1, y2, y3⟩ := hf (za + 1) (by omega)
          obtain ⟨y4, y5, -⟩ := y3 q
          show sz + (zc ++ (f (za + 1)).2.2).length < 121
          rw [List.length_append]
          omega
        · rw [if_neg e] at hm2
          rw [chS_no (fun q => e (op_O.mp q.2))] at k
          have kk := k I2 (cP_mv hb hP hm2)
          simp only [e, if_false, if_true, gX2_either_48, or_true, true_and]
          exact kk
  simp only [gX2_either_0, t25, true_and]
  refine h I a sz _ hD hs hsa (fun I1 hP1 => ?_)
  simp only [Option.toList_some, List.cons_append, List.nil_append, gX2_either_5]
  exact loop 120 0 _ _ _ I1 rfl hP1 (hf a ha) k
theorem c_product (hK : RK T R b) (hf : Gd N f) (h : cM X d T J R N tp b mX2_operand [.ref 25, .int ov, rU, rU] f) : cM X (d + 1) T J R N tp b mX2_product [.ref 25, .int ov, rU, rU, rU] (fun a => chS opM (sxS tp N) f 120 (f a)) := by
  intro I a sz Q hD hs hsa k
  obtain ⟨t25, r0, t26, r3, hL, hb⟩ := id hK
  have ha : a ≤ N := hD.2.2.2.2.1
  have hN : N ≤ 120 := hD.2.1
  have loop : ∀ (m i : Nat) (zb : Bool) (za : Nat) (zc : List Int32) (I1 : tI), i + m = 120 → cP b I I1 sz (zb, za, zc) → gZ N a (zb, za, zc) → (∀ I' : tI, cP b I I' sz (chS opM (sxS tp N) f m (zb, za, zc)) → Q (some (.int (if (chS opM (sxS tp N) f m (zb, za, zc)).1 = true then 1 else 0))) (T, I', J, R)) → Ex X (d + 1) mX2_product 14 [.ref 25, .int ov, .int (if zb = true then 1 else 0), .int (sxS tp N za), .int (nI i)] [] (T, I1, J, R) Q := by
    intro m
    induction m with
    | zero =>
      intro i zb za zc I1 hi hP hg k
      have kk := k I1 hP
      cases zb with
      | false =>
        simp only [gX2_product_14, Bool.false_eq_true, if_false, if_true, gX2_product_79, true_or, true_and]
        exact kk
      | true =>
        have atE : ∀ c : Int32, Ex X (d + 1) mX2_product 79 [.ref 25, .int ov, .int 1, .int c, .int (nI i)] [] (T, I1, J, R) Q := by
          intro c
          simp only [gX2_product_79, or_true, true_and]
          exact kk
        have atB : ∀ c : Int32, Ex X (d + 1) mX2_product 36 [.ref 25, .int ov, .int 1, .int c, .int (nI i)] [] (T, I1, J, R) Q := by
          intro c
          simp only [gX2_product_36, show (120 : Int32) ≤ nI i from nI_le (a := 120) (by omega) (by omega), if_true]
          exact atE c
        simp only [gX2_product_14, if_true, show ¬ (1 : Int32) = 0 by decide, if_false, gX2_product_18, gX2_product_24, gX2_product_30, ne_eq]
        repeat' first | exact atE _ | exact atB _ | split
    | succ m ih =>
      intro i zb za zc I1 hi hP hg k
      cases zb with
      | false =>
        rw [chS_no (fun q => absurd q.1 (by simp))] at k
        have kk := k I1 hP
        simp only [gX2_product_14, Bool.false_eq_true, if_false, if_true, gX2_product_79, true_or, true_and]
        exact kk
      | true =>
        have hD1 : RD I1 N tp b za := RD_cP hb hD hP hg.2.1
        have e4 : I1 25 2 = nI za := hP.2.2.1
        simp only [gX2_product_14, if_true, show ¬ (1 : Int32) = 0 by decide, if_false, gX2_product_18, gX2_product_24, gX2_product_30, ne_eq]
        by_cases hop : opM (sxS tp N za) = true
        · rw [chS_yes ⟨rfl, hop⟩] at k
          have lt : za < N := op_lt ooM hop
          obtain ⟨g4, g5, g6, g7⟩ := hg.2.2 rfl
          have g5' : zc.length + a ≤ za := g5
          obtain ⟨f1, f2, f3⟩ := hP.2.2.2.2 rfl
          have hm2 := mv_up e4
          have atB : Ex X (d + 1) mX2_product 36 [.ref 25, .int ov, .int 1, .int (sxS tp N za), .int (nI i)] [] (T, I1, J, R) Q := by
            simp only [gX2_product_36, show ¬ (120 : Int32) ≤ nI i from nI_ge (b := 120) (by omega) (by decide), if_false, gX2_product_43, t25, true_and, e4, nI_1]
            generalize hI2 : va_up I1 25 (va_up (I1 25) 2 (nI (za + 1))) = I2 at hm2 ⊢
            refine h I2 (za + 1) (sz + zc.length) _ (RD_mv' hb hD1 hm2 (by omega)) (by rw [hm2.1 b (by omega)]; exact f1) (by omega) (fun I3 hP3 => ?_)
            simp only [Option.toList_some, List.cons_append, List.nil_append, gX2_product_58, t25, true_and, r3, rf_some, hL.1]
            refine c_add hL hP3.2.2.2.1 (fun I4 hA => ?_)
            have gg := gz_1 (tp := tp) ooM hf hg hop
            have hcat := cP_cat hb hP rfl hm2 hP3
            have hP4 := cP_ad hb hcat hA (fun q => by
              obtain ⟨y1, y2, y3⟩ := hf (za + 1) (by omega)
              obtain ⟨y4, y5, -⟩ := y3 q
              show sz + (zc ++ (f (za + 1)).2.2).length < 121
              rw [List.length_append]
              omega)
            simp only [Option.toList_none, List.nil_append, gX2_product_68, t25, true_and]
            refine c_next hK (RD_cP hb hD hP4 gg.2.1) ?_
            simp only [Option.toList_some, List.cons_append, List.nil_append, gX2_product_72, nI_1]
            exact ih (i + 1) _ _ _ I4 (by omega) hP4 gg k
          rcases op_M.mp hop with (e | e) | e
          · simp only [e, if_true]
            rw [e] at atB
            exact atB
          · simp only [e, show ¬ (47 : Int32) = 42 by decide, if_true, if_false]
            rw [e] at atB
            exact atB
          · simp only [e, show ¬ (37 : Int32) = 42 by decide, show ¬ (37 : Int32) = 47 by decide, not_true_eq_false, if_true, if_false]
            rw [e] at atB
            exact atB
        · have n1 : ¬ sxS tp N za = 42 := fun q => hop (op_M.mpr (Or.inl (Or.inl q)))
          have n2 : ¬ sxS tp N za = 47 := fun q => hop (op_M.mpr (Or.inl (Or.inr q)))
          have n3 : ¬ sxS tp N za = 37 := fun q => hop (op_M.mpr (Or.inr q))
          rw [chS_no (fun q => hop q.2)] at k
          have kk := k I1 hP
          simp only [n1, n2, n3, not_false_eq_true, if_true, if_false, gX2_product_79, or_true, true_and]
          exact kk
  simp only [gX2_product_0, t25, true_and]
  refine h I a sz _ hD hs hsa (fun I1 hP1 => ?_)
  simp only [Option.toList_some, List.cons_append, List.nil_append, gX2_product_5, t25, true_and]
  refine c_next hK (RD_cP hb hD hP1 (hf a ha).2.1) ?_
  simp only [Option.toList_some, List.cons_append, List.nil_append, gX2_product_10]
  exact loop 120 0 _ _ _ I1 rfl hP1 (hf a ha) k
theorem c_sum (hK : RK T R b) (hf : Gd N f) (h : cM X d T J R N tp b mX2_product [.ref 25, .int ov, rU, rU, rU] f) : cM X (d + 1) T J R N tp b mX2_sum [.ref 25, .int ov, rU, rU, rU] (fun a => chS opA (sxS tp N) f 120 (f a)) := by
  intro I a sz Q hD hs hsa k
  obtain ⟨t25, r0, t26, r3, hL, hb⟩ := id hK
  have ha : a ≤ N := hD.2.2.2.2.1
  have hN : N ≤ 120 := hD.2.1
  have loop : ∀ (m i : Nat) (zb : Bool) (za : Nat) (zc : List Int32) (I1 : tI), i + m = 120 → cP b I I1 sz (zb, za, zc) → gZ N a (zb, za, zc) → (∀ I' : tI, cP b I I' sz (chS opA (sxS tp N) f m (zb, za, zc)) → Q (some (.int (if (chS opA (sxS tp N) f m (zb, za, zc)).1 = true then 1 else 0))) (T, I', J, R)) → Ex X (d + 1) mX2_sum 14 [.ref 25, .int ov, .int (if zb = true then 1 else 0), .int (sxS tp N za), .int (nI i)] [] (T, I1, J, R) Q := by
    intro m
    induction m with
    | zero =>
      intro i zb za zc I1 hi hP hg k
      have kk := k I1 hP
      cases zb with
      | false =>
        simp only [gX2_sum_14, Bool.false_eq_true, if_false, if_true, gX2_sum_73, true_or, true_and]
        exact kk
      | true =>
        have atE : ∀ c : Int32, Ex X (d + 1) mX2_sum 73 [.ref 25, .int ov, .int 1, .int c, .int (nI i)] [] (T, I1, J, R) Q := by
          intro c
          simp only [gX2_sum_73, or_true, true_and]
          exact kk
        have atB : ∀ c : Int32, Ex X (d + 1) mX2_sum 30 [.ref 25, .int ov, .int 1, .int c, .int (nI i)] [] (T, I1, J, R) Q := by
          intro c
          simp only [gX2_sum_30, show (120 : Int32) ≤ nI i from nI_le (a := 120) (by omega) (by omega), if_true]
          exact atE c
        simp only [gX2_sum_14, if_true, show ¬ (1 : Int32) = 0 by decide, if_false, gX2_sum_18, gX2_sum_24, ne_eq]
        repeat' first | exact atE _ | exact atB _ | split
    | succ m ih =>
      intro i zb za zc I1 hi hP hg k
      cases zb with
      | false =>
        rw [chS_no (fun q => absurd q.1 (by simp))] at k
        have kk := k I1 hP
        simp only [gX2_sum_14, Bool.false_eq_true, if_false, if_true, gX2_sum_73, true_or, true_and]
        exact kk
      | true =>
        have hD1 : RD I1 N tp b za := RD_cP hb hD hP hg.2.1
        have e4 : I1 25 2 = nI za := hP.2.2.1
        simp only [gX2_sum_14, if_true, show ¬ (1 : Int32) = 0 by decide, if_false, gX2_sum_18, gX2_sum_24, ne_eq]
        by_cases hop : opA (sxS tp N za) = true
        · rw [chS_yes ⟨rfl, hop⟩] at k
          have lt : za < N := op_lt ooA hop
          obtain ⟨g4, g5, g6, g7⟩ := hg.2.2 rfl
          have g5' : zc.length + a ≤ za := g5
          obtain ⟨f1, f2, f3⟩ := hP.2.2.2.2 rfl
          have hm2 := mv_up e4
          have atB : Ex X (d + 1) mX2_sum 30 [.ref 25, .int ov, .int 1, .int (sxS tp N za), .int (nI i)] [] (T, I1, J, R) Q := by
            simp only [gX2_sum_30, show ¬ (120 : Int32) ≤ nI i from nI_ge (b := 120) (by omega) (by decide), if_false, gX2_sum_37, t25, true_and, e4, nI_1]
            generalize hI2 : va_up I1 25 (va_up (I1 25) 2 (nI (za + 1))) = I2 at hm2 ⊢
            refine h I2 (za + 1) (sz + zc.length) _ (RD_mv' hb hD1 hm2 (by omega)) (by rw [hm2.1 b (by omega)]; exact f1) (by omega) (fun I3 hP3 => ?_)
            simp only [Option.toList_some, List.cons_append, List.nil_append, gX2_sum_52, t25, true_and, r3, rf_some, hL.1]
            refine c_add hL hP3.2.2.2.1 (fun I4 hA => ?_)
            have gg := gz_1 (tp := tp) ooA hf hg hop
            have hcat := cP_cat hb hP rfl hm2 hP3
            have hP4 := cP_ad hb hcat hA (fun q => by
              obtain ⟨y1, y2, y3⟩ := hf (za + 1) (by omega)
              obtain ⟨y4, y5, -⟩ := y3 q
              show sz + (zc ++ (f (za + 1)).2.2).length < 121
              rw [List.length_append]
              omega)
            simp only [Option.toList_none, List.nil_append, gX2_sum_62, t25, true_and]
            refine c_next hK (RD_cP hb hD hP4 gg.2.1) ?_
            simp only [Option.toList_some, List.cons_append, List.nil_append, gX2_sum_66, nI_1]
            exact ih (i + 1) _ _ _ I4 (by omega) hP4 gg k
          rcases op_A.mp hop with e | e
          · simp only [e, if_true]
            rw [e] at atB
            exact atB
          · simp only [e, show ¬ (45 : Int32) = 43 by decide, not_true_eq_false, if_true, if_false]
            rw [e] at atB
            exact atB
        · have n1 : ¬ sxS tp N za = 43 := fun q => hop (op_A.mpr (Or.inl q))
          have n2 : ¬ sxS tp N za = 45 := fun q => hop (op_A.mpr (Or.inr q))
          rw [chS_no (fun q => hop q.2)] at k
          have kk := k I1 hP
          simp only [n1, n2, not_false_eq_true, if_true, if_false, gX2_sum_73, or_true, true_and]
          exact kk
  simp only [gX2_sum_0, t25, true_and]
  refine h I a sz _ hD hs hsa (fun I1 hP1 => ?_)
  simp only [Option.toList_some, List.cons_append, List.nil_append, gX2_sum_5, t25, true_and]
  refine c_next hK (RD_cP hb hD hP1 (hf a ha).2.1) ?_
  simp only [Option.toList_some, List.cons_append, List.nil_append, gX2_sum_10]
  exact loop 120 0 _ _ _ I1 rfl hP1 (hf a ha) k
theorem c_compared (hK : RK T R b) (hf : Gd N f) (h : cM X d T J R N tp b mX2_sum [.ref 25, .int ov, rU, rU, rU] f) : cM X (d + 1) T J R N tp b mX2_compared [.ref 25, .int ov, rU, rU] (fun a => chS opB (sxS tp N) f 1 (f a)) := by
  intro I a sz Q hD hs hsa k
  obtain ⟨t25, r0, t26, r3, hL, hb⟩ := id hK
  have ha : a ≤ N := hD.2.2.2.2.1
  have hN : N ≤ 120 := hD.2.1
  simp only [gX2_compared_0, t25, true_and]
  refine h I a sz _ hD hs hsa (fun I1 hP => ?_)
  have hg := hf a ha
  simp only [Option.toList_some, List.cons_append, List.nil_append, gX2_compared_5, ne_eq]
  rcases hz : f a with ⟨zb, za, zc⟩
  rw [hz] at hP hg
  have k : ∀ I' : tI, cP b I I' sz (chS opB (sxS tp N) f 1 (f a)) → Q (some (.int (if (chS opB (sxS tp N) f 1 (f a)).1 = true then 1 else 0))) (T, I', J, R) := k
  rw [hz] at k
  cases zb with
  | false =>
    rw [chS_no (fun q => absurd q.1 (by simp))] at k
    have kk := k I1 hP
    simp only [Bool.false_eq_true, if_false, not_true_eq_false, gX2_compared_8, true_or, true_and]
    exact kk
  | true =>
  have hD1 : RD I1 N tp b za := RD_cP hb hD hP hg.2.1
  have e4 : I1 25 2 = nI za := hP.2.2.1
  simp only [if_true, show ¬ (1 : Int32) = 0 by decide, not_false_eq_true, gX2_compared_10, t25, true_and]
  refine c_next hK hD1 ?_
  simp only [Option.toList_some, List.cons_append, List.nil_append, gX2_compared_14, gX2_compared_21, gX2_compared_27]
  by_cases hop : opB (sxS tp N za) = true
  · rw [chS_yes ⟨rfl, hop⟩] at k
    have lt : za < N := op_lt ooB hop
    obtain ⟨g4, g5, g6, g7⟩ := hg.2.2 rfl
    have g5' : zc.length + a ≤ za := g5
    obtain ⟨f1, f2, f3⟩ := hP.2.2.2.2 rfl
    have hm2 := mv_up e4
    have atB : Ex X (d + 1) mX2_compared 35 [.ref 25, .int ov, .int (sxS tp N za), rU] [] (T, I1, J, R) Q := by
      simp only [gX2_compared_35, t25, true_and, e4, nI_1]
      generalize hI2 : va_up I1 25 (va_up (I1 25) 2 (nI (za + 1))) = I2 at hm2 ⊢
      refine h I2 (za + 1) (sz + zc.length) _ (RD_mv' hb hD1 hm2 (by omega)) (by rw [hm2.1 b (by omega)]; exact f1) (by omega) (fun I3 hP3 => ?_)
      simp only [Option.toList_some, List.cons_append, List.nil_append, gX2_compared_50, t25, true_and, r3, rf_some, hL.1]
      refine c_add hL hP3.2.2.2.1 (fun I4 hA => ?_)
      have hcat := cP_cat hb hP rfl hm2 hP3
      have hP4 := cP_ad hb hcat hA (fun q => by
        obtain ⟨y1, y2, y3⟩ := hf (za + 1) (by omega)
        obtain ⟨y4, y5, -⟩ := y3 q
        show sz + (zc ++ (f (za + 1)).2.2).length < 121
        rw [List.length_append]
        omega)
      have kk := k I4 hP4
      simp only [Option.toList_none, List.nil_append, gX2_compared_60]
      refine ⟨?_, kk⟩
      cases (f (za + 1)).1 <;> simp
    rcases op_B.mp hop with (e | e) | e
    · simp only [e, if_true]
      rw [e] at atB
      exact atB
    · simp only [e, show ¬ (61 : Int32) = 60 by decide, if_true, if_false]
      rw [e] at atB
      exact atB
    · simp only [e, show ¬ (62 : Int32) = 60 by decide, show ¬ (62 : Int32) = 61 by decide, if_true, if_false]
      rw [e] at atB
      exact atB
  · have n1 : ¬ sxS tp N za = 60 := fun q => hop (op_B.mpr (Or.inl (Or.inl q)))
    have n2 : ¬ sxS tp N za = 61 := fun q => hop (op_B.mpr (Or.inl (Or.inr q)))
    have n3 : ¬ sxS tp N za = 62 := fun q => hop (op_B.mpr (Or.inr q))
    rw [chS_no (fun q => hop q.2)] at k
    have kk := k I1 hP
    simp only [n1, n2, n3, if_false, gX2_compared_33, or_true, true_and]
    exact kk
theorem c_isDigit {σ : rS} (k : Q (some (.int (if isD c = true then 1 else 0))) σ) : Ex X d mX2_isDigit 0 [.int c] [] σ Q := by
  simp only [gX2_isDigit_0, gX2_isDigit_6, gX2_isDigit_12, gX2_isDigit_16, gX2_isDigit_17]
  unfold isD inB at k
  by_cases g1 : c < 48
  · simpa [g1] using k
  by_cases g2 : 57 < c
  · simpa [g1, g2] using k
  simpa [g1, g2] using k
theorem c_number (hK : RK T R b) (hD : RD I N tp b a) (hs : I b 2 = nI sz) (hz : sz < 121) (k : ∀ I' : tI, cP b I I' sz (true, (nuS (sxS tp N) 4 a 0).1, [(nuS (sxS tp N) 4 a 0).2]) → Q none (T, I', J, R)) : Ex X (d + 1) mX2_number 0 [.ref 25, rU, rU] [] (T, I, J, R) Q := by
  obtain ⟨t25, r0, t26, r3, hL, hb⟩ := id hK
  have loop : ∀ (m i a1 : Nat) (v : Int32) (I1 : tI), i + m = 4 → mvC I I1 a1 → RD I1 N tp b a1 → (∀ I' : tI, cP b I I' sz (true, (nuS (sxS tp N) m a1 v).1, [(nuS (sxS tp N) m a1 v).2]) → Q none (T, I', J, R)) → Ex X (d + 1) mX2_number 4 [.ref 25, .int v, .int (nI i)] [] (T, I1, J, R) Q := by
    have fin : ∀ (a1 : Nat) (v w : Int32) (I1 : tI), mvC I I1 a1 → RD I1 N tp b a1 → (∀ I' : tI, cP b I I' sz (true, a1, [v]) → Q none (T, I', J, R)) → Ex X (d + 1) mX2_number 48 [.ref 25, .int v, .int w] [] (T, I1, J, R) Q := by
      intro a1 v w I1 hm hD1 k
      simp only [gX2_number_48, t25, true_and, r3, rf_some, hL.1]
      refine c_add hL hD1.2.2.2.2.2 (fun I2 hA => ?_)
      simp only [Option.toList_none, List.nil_append, gX2_number_56]
      have h0 : cP b I I1 sz (true, a1, []) := ⟨fun x x1 _ _ => hm.1 x x1, hm.2.1, hm.2.2, hD1.2.2.2.2.2, fun _ => ⟨by rw [hm.1 b (by omega)]; exact hs, fun i _ => by rw [hm.1 (b + 1) (by omega)], trivial⟩⟩
      exact k I2 (cP_ad hb h0 hA (fun _ => hz))
    intro m
    induction m with
    | zero =>
      intro i a1 v I1 hi hm hD1 k
      simp only [gX2_number_4, show (4 : Int32) ≤ nI i from nI_le (a := 4) (by omega) (by omega), if_true]
      exact fin a1 v _ I1 hm hD1 k
    | succ m ih =>
      intro i a1 v I1 hi hm hD1 k
      simp only [gX2_number_4, show ¬ (4 : Int32) ≤ nI i from nI_ge (b := 4) (by omega) (by decide), if_false, gX2_number_9, t25, true_and]
      refine c_next hK hD1 ?_
      simp only [Option.toList_some, List.cons_append, List.nil_append, gX2_number_13]
      refine c_isDigit ?_
      simp only [Option.toList_some, List.cons_append, List.nil_append, gX2_number_16, if10]
      rw [nuS] at k
      cases e : isD (sxS tp N a1) with
      | false =>
        rw [if_neg (by rw [e]; simp)] at k
        simp only [if_true]
        exact fin a1 v _ I1 hm hD1 k
      | true =>
        rw [if_pos e] at k
        have lt : a1 < N := sg_lt (P := fun c => isD c = true) e (by decide +kernel)
        have e4 : I1 25 2 = nI a1 := hm.2.2
        simp only [reduceCtorEq, if_false, gX2_number_19, t25, true_and]
        refine c_next hK hD1 ?_
        simp only [Option.toList_some, List.cons_append, List.nil_append, gX2_number_27, t25, true_and, e4, nI_1]
        have hm2 := mv_up e4
        exact ih (i + 1) (a1 + 1) _ _ (by omega) ⟨fun x hx => by rw [hm2.1 x hx]; exact hm.1 x hx, by rw [hm2.2.1]; exact hm.2.1, hm2.2.2⟩ (RD_mv' hb hD1 hm2 (by omega)) k
  simp only [gX2_number_0]
  exact loop 4 0 a 0 I (by omega) (mv_r hD.2.2.2.1) hD k
end RD
