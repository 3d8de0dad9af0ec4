/-! PURE: the reference's reader -/
def ND (I : tI) (N : Nat) (tp : Nat → Int32) (a : Nat) : Prop := I 54 4 = nI N ∧ N ≤ 120 ∧ (∀ i, i < N → I 58 i = tp i) ∧ I 54 12 = nI a ∧ a ≤ N
/-- only the place has moved -/
def mvM (I I' : tI) (a : Nat) : Prop := (∀ x, x ≠ 54 → I' x = I x) ∧ (∀ i, i ≠ 12 → I' 54 i = I 54 i) ∧ I' 54 12 = nI a
def adM (I I' : tI) (s : Nat) (c : Int32) : Prop := (∀ x, x ≠ 54 → x ≠ 66 → I' x = I x) ∧ (∀ i, i ≠ 14 → I' 54 i = I 54 i) ∧ I' 54 14 = nI (s + 1) ∧ I' 66 = va_up (I 66) s c
def mP (I I' : tI) (sz : Nat) (z : tZ) : Prop := (∀ x, x ≠ 54 → x ≠ 66 → I' x = I x) ∧ (∀ i, i ≠ 12 → i ≠ 14 → I' 54 i = I 54 i) ∧ I' 54 12 = nI z.2.1 ∧ (z.1 = true → I' 54 14 = nI (sz + z.2.2.length) ∧ (∀ i, i < sz → I' 66 i = I 66 i) ∧ rwA (I' 66) sz (z.2.2.map muS))
section MR
variable {X : tX} {T : tT} {I I' I1 I2 I3 I4 : tI} {J : tJ} {R : tR} {Q : tQ} {d a sz N : Nat} {tp : Nat → Int32} {z y : tZ} {f : Nat → tZ} {c ov : Int32}
theorem ND_mP (hD : ND I N tp a) (hP : mP I I' sz z) (hz : z.2.1 ≤ N) : ND I' N tp z.2.1 := by
  obtain ⟨d1, d2, d3, d4, d5⟩ := hD
  obtain ⟨p1, p2, p3, p4⟩ := hP
  exact ⟨by rw [p2 4 (by decide) (by decide)]; exact d1, d2, fun i hi => by rw [p1 58 (by decide) (by decide)]; exact d3 i hi, p3, hz⟩
theorem ND_mv {a' : Nat} (hD : ND I N tp a) (hm : mvM I I' a') (hz : a' ≤ N) : ND I' N tp a' := by
  obtain ⟨d1, d2, d3, d4, d5⟩ := hD
  obtain ⟨p1, p2, p3⟩ := hm
  exact ⟨by rw [p2 4 (by decide)]; exact d1, d2, fun i hi => by rw [p1 58 (by decide)]; exact d3 i hi, p3, hz⟩
theorem mw_up (h : I 54 12 = nI a) : mvM I (va_up I 54 (va_up (I 54) 12 (nI (a + 1)))) (a + 1) := ⟨fun x hx => up_ne _ _ hx, fun i hi => by rw [up_self, up_ne _ _ hi], by rw [up_self, up_self]⟩
theorem mw_r (h : I 54 12 = nI a) : mvM I I a := ⟨fun _ _ => rfl, fun _ _ => rfl, h⟩
theorem mP_mv (hP : mP I I1 sz z) (hm : mvM I1 I2 z.2.1) : mP I I2 sz z := by
  obtain ⟨p1, p2, p3, p5⟩ := hP
  obtain ⟨m1, m2, m3⟩ := hm
  refine ⟨fun x h1 h2 => by rw [m1 x h1]; exact p1 x h1 h2, fun i h1 h2 => by rw [m2 i h1]; exact p2 i h1 h2, m3, ?_⟩
  rw [m2 14 (by decide), m1 66 (by decide)]
  exact p5
theorem mP_bad {l : List Int32} (h : mP I I' sz (true, a, l)) : mP I I' sz (false, a, []) := ⟨h.1, h.2.1, h.2.2.1, fun q => absurd q (by simp)⟩
theorem mP_no {l l' : List Int32} {w : Bool} (h : mP I I' sz (w, a, l)) : mP I I' sz (false, a, l') := ⟨h.1, h.2.1, h.2.2.1, fun q => absurd q (by simp)⟩
theorem mP_ad (h1 : mP I I1 sz (true, z.2)) (hA : adM I1 I2 (sz + z.2.2.length) (muS c)) : mP I I2 sz (true, z.2.1, z.2.2 ++ [c]) := by
  obtain ⟨p1, p2, p3, p5⟩ := h1
  obtain ⟨a1, a2, a3, a4⟩ := hA
  refine ⟨fun x x1 x2 => by rw [a1 x x1 x2]; exact p1 x x1 x2, fun i i1 i2 => by rw [a2 i i2]; exact p2 i i1 i2, by rw [a2 12 (by decide)]; exact p3, fun _ => ?_⟩
  obtain ⟨q1, q2, q3⟩ := p5 rfl
  have ll : (z.2.2.map muS).length = z.2.2.length := List.length_map _
  refine ⟨?_, fun i hi => ?_, ?_⟩
  · rw [a3]
    show _ = nI (sz + (z.2.2 ++ [c]).length)
    rw [List.length_append]
    rfl
  · rw [a4, up_ne _ _ (by omega)]
    exact q2 i hi
  · show rwA (I2 66) sz ((z.2.2 ++ [c]).map muS)
    rw [List.map_append]
    refine rwA_app.mpr ⟨rwA_fr (fun j h1 h2 => ?_) q3, ?_, trivial⟩
    · rw [ll] at h2
      rw [a4, up_ne _ _ (by omega)]
    · rw [ll, a4, up_self]
theorem mP_cat (h1 : mP I I1 sz z) (e : z.1 = true) (hm : mvM I1 I2 a) (h3 : mP I2 I3 (sz + z.2.2.length) y) : mP I I3 sz (y.1, y.2.1, z.2.2 ++ y.2.2) := by
  obtain ⟨p1, p2, p3, p5⟩ := h1
  obtain ⟨m1, m2, m3⟩ := hm
  obtain ⟨q1, q2, q3, q5⟩ := h3
  refine ⟨fun x x1 x2 => by rw [q1 x x1 x2, m1 x x1]; exact p1 x x1 x2, fun i i1 i2 => by rw [q2 i i1 i2, m2 i i1]; exact p2 i i1 i2, q3, fun e2 => ?_⟩
  obtain ⟨f1, f2, f3⟩ := p5 e
  obtain ⟨g1, g2, g3⟩ := q5 e2
  have mb : I2 66 = I1 66 := m1 _ (by decide)
  have ll : (z.2.2.map muS).length = z.2.2.length := List.length_map _
  refine ⟨?_, fun i hi => ?_, ?_⟩
  · rw [g1]
    show _ = nI (sz + (z.2.2 ++ y.2.2).length)
    rw [List.length_append, Nat.add_assoc]
  · rw [g2 i (by omega), mb]
    exact f2 i hi
  · show rwA (I3 66) sz ((z.2.2 ++ y.2.2).map muS)
    rw [List.map_append]
    refine rwA_app.mpr ⟨rwA_fr (fun j h1 h2 => ?_) f3, by rw [ll]; exact g3⟩
    rw [ll] at h2
    rw [g2 j (by omega), mb]
theorem m_sign (hm : IsMod T R) (hD : ND I N tp a) (k : Q (some (.int (sxS tp N a))) (T, I, J, R)) : Ex X d mX7_sign 0 [.ref 54] [] (T, I, J, R) Q := by
  have t0 := mt_54 hm
  obtain ⟨d1, d2, d3, d4, d5⟩ := hD
  unfold sxS at k
  simp only [gX7_sign_0, t0, true_and, d4, d1]
  by_cases h : a < N
  · rw [if_pos h] at k
    simp only [nI_ge h (by omega), if_false, gX7_sign_11, t0, true_and, mr_5 hm, rf_some, d4, rIn_at (mt_58 hm) (show a < 120 by omega) (by decide), nI_clamp (show a < 2 ^ 31 by omega), d3 a h, gX7_sign_24]
    exact k
  · rw [if_neg h] at k
    simp only [nI_le (show N ≤ a by omega) (by omega), if_true, gX7_sign_23, gX7_sign_24]
    exact k
theorem m_is (hm : IsMod T R) (hD : ND I N tp a) (k : ∀ I' : tI, mvM I I' (if sxS tp N a = c then a + 1 else a) → Q (some (.int (if sxS tp N a = c then 1 else 0))) (T, I', J, R)) : Ex X (d + 1) mX7_is 0 [.ref 54, .int c] [] (T, I, J, R) Q := by
  have t0 := mt_54 hm
  have d4 : I 54 12 = nI a := hD.2.2.2.1
  simp only [gX7_is_0, t0, true_and]
  refine m_sign hm hD ?_
  simp only [Option.toList_some, List.cons_append, List.nil_append, gX7_is_4]
  by_cases h : sxS tp N a = c
  · simp only [h, if_true, gX7_is_10, t0, true_and, d4, nI_1, or_true] at k ⊢
    exact k _ (mw_up d4)
  · simp only [h, if_false, gX7_is_8, true_or, true_and] at k ⊢
    exact k I (mw_r d4)
theorem m_codes {s : Nat} (hm : IsMod T R) (hs : I 54 14 = nI s) (h2 : s < 200) (k : ∀ I' : tI, adM I I' s c → Q (some (.int 1)) (T, I', J, R)) : Ex X d mX7_codes 0 [.ref 54, .int c] [] (T, I, J, R) Q := by
  have t0 := mt_54 hm
  simp only [gX7_codes_0, t0, true_and, mr_19 hm, rf_some, hs, nI_1, rIn_at (mt_66 hm) h2 (by decide), nI_clamp (show s < 2 ^ 31 by omega), or_true]
  exact k _ ⟨fun x x1 x2 => by rw [up_ne _ _ x2, up_ne _ _ x1], fun i hi => by rw [up_ne _ _ (by decide), up_self, up_ne _ _ hi], by rw [up_ne _ _ (by decide), up_self, up_self], by rw [up_self, up_ne _ _ (by decide)]⟩
theorem m_isDigit (hm : IsMod T R) (hD : ND I N tp a) (k : Q (some (.int (if isD (sxS tp N a) = true then 1 else 0))) (T, I, J, R)) : Ex X (d + 1) mX7_isDigit 0 [.ref 54] [] (T, I, J, R) Q := by
  have t0 := mt_54 hm
  unfold isD inB at k
  simp only [gX7_isDigit_0, t0, true_and]
  refine m_sign hm hD ?_
  simp only [Option.toList_some, List.cons_append, List.nil_append, gX7_isDigit_4]
  by_cases g1 : sxS tp N a < 48
  · simpa [g1, gX7_isDigit_22, gX7_isDigit_23] using k
  · simp only [g1, if_false, gX7_isDigit_9, t0, true_and]
    refine m_sign hm hD ?_
    simp only [Option.toList_some, List.cons_append, List.nil_append, gX7_isDigit_13]
    by_cases g2 : 57 < sxS tp N a
    · simpa [g1, g2, gX7_isDigit_22, gX7_isDigit_23] using k
    · simpa [g1, g2, gX7_isDigit_18, gX7_isDigit_23] using k
def nmN (c : Int32) : Int32 := if isN c = true then muS (-c) else -1
theorem m_nameOf {σ : rS} (k : Q (some (.int (nmN c))) σ) : Ex X d mX7_nameOf 0 [.int c] [] σ Q := by
  unfold nmN at k
  simp only [gX7_nameOf_0, sX7_nameOf_1]
  by_cases h : isN c = true
  · rw [if_pos h] at k
    rcases isN_c h with rfl | rfl | rfl | rfl | rfl | rfl
    · simp only [show ¬ (108 : Int32) = 98 by decide, show ¬ (108 : Int32) = 99 by decide, show ¬ (108 : Int32) = 100 by decide, show ¬ (108 : Int32) = 101 by decide, show ¬ (108 : Int32) = 102 by decide, show ¬ (108 : Int32) = 103 by decide, show ¬ (108 : Int32) = 104 by decide, show ¬ (108 : Int32) = 105 by decide, show ¬ (108 : Int32) = 106 by decide, show ¬ (108 : Int32) = 107 by decide, if_true, if_false, gX7_nameOf_84]
      exact k
    · simp only [show ¬ (110 : Int32) = 98 by decide, show ¬ (110 : Int32) = 99 by decide, show ¬ (110 : Int32) = 100 by decide, show ¬ (110 : Int32) = 101 by decide, show ¬ (110 : Int32) = 102 by decide, show ¬ (110 : Int32) = 103 by decide, show ¬ (110 : Int32) = 104 by decide, show ¬ (110 : Int32) = 105 by decide, show ¬ (110 : Int32) = 106 by decide, show ¬ (110 : Int32) = 107 by decide, show ¬ (110 : Int32) = 108 by decide, show ¬ (110 : Int32) = 109 by decide, if_true, if_false, gX7_nameOf_86]
      exact k
    · simp only [show ¬ (114 : Int32) = 98 by decide, show ¬ (114 : Int32) = 99 by decide, show ¬ (114 : Int32) = 100 by decide, show ¬ (114 : Int32) = 101 by decide, show ¬ (114 : Int32) = 102 by decide, show ¬ (114 : Int32) = 103 by decide, show ¬ (114 : Int32) = 104 by decide, show ¬ (114 : Int32) = 105 by decide, show ¬ (114 : Int32) = 106 by decide, show ¬ (114 : Int32) = 107 by decide, show ¬ (114 : Int32) = 108 by decide, show ¬ (114 : Int32) = 109 by decide, show ¬ (114 : Int32) = 110 by decide, show ¬ (114 : Int32) = 111 by decide, show ¬ (114 : Int32) = 112 by decide, show ¬ (114 : Int32) = 113 by decide, if_true, if_false, gX7_nameOf_88]
      exact k
    · simp only [show ¬ (103 : Int32) = 98 by decide, show ¬ (103 : Int32) = 99 by decide, show ¬ (103 : Int32) = 100 by decide, show ¬ (103 : Int32) = 101 by decide, show ¬ (103 : Int32) = 102 by decide, if_true, if_false, gX7_nameOf_90]
      exact k
    · simp only [if_true, gX7_nameOf_92]
      exact k
    · simp only [show ¬ (100 : Int32) = 98 by decide, show ¬ (100 : Int32) = 99 by decide, if_true, if_false, gX7_nameOf_94]
      exact k
  · rw [if_neg h] at k
    have n : ∀ v : Int32, isN v = true → ¬ c = v := fun v hv q => h (by rw [q]; exact hv)
    simp only [n 98 (by decide +kernel), n 100 (by decide +kernel), n 103 (by decide +kernel), n 108 (by decide +kernel), n 110 (by decide +kernel), n 114 (by decide +kernel), if_false, gX7_nameOf_96, ite_self]
    exact k
/-- what a part of the reader owes -/
def mM (X : tX) (d : Nat) (T : tT) (J : tJ) (R : tR) (N : Nat) (tp : Nat → Int32) (ov : Int32) (M : rM) (L : List Value) (f : Nat → tZ) : Prop := ∀ (I : tI) (a sz : Nat) (Q : tQ), ND I N tp a → I 54 14 = nI sz → sz ≤ a → I 54 13 = ov → (∀ I' : tI, mP I I' sz (f a) → Q (some (.int (if (f a).1 = true then 1 else 0))) (T, I', J, R)) → Ex X d M 0 L [] (T, I, J, R) Q
theorem m_isA (hm : IsMod T R) (hf : Gd N f) (h : mM X (d + 1) T J R N tp ov mX7_isB [.ref 54, rU] f) : mM X (d + 2) T J R N tp ov mX7_isA [.ref 54] (fun a => chS opN (sxS tp N) f 120 (f a)) := by
  intro I a sz Q hD hs hsa hov k
  have t0 := mt_54 hm
  have ha : a ≤ N := hD.2.2.2.2
  have hN : N ≤ 120 := hD.2.1
  have loop : ∀ (m : Nat) (za : Nat) (zc : List Int32) (I1 : tI), N ≤ za + m → mP I I1 sz (true, za, zc) → gZ N a (true, za, zc) → (∀ I' : tI, mP I I' sz (chS opN (sxS tp N) f m (true, za, zc)) → Q (some (.int (if (chS opN (sxS tp N) f m (true, za, zc)).1 = true then 1 else 0))) (T, I', J, R)) → Ex X (d + 2) mX7_isA 9 [.ref 54] [] (T, I1, J, R) Q := by
    intro m
    induction m with
    | zero =>
      intro za zc I1 hi hP hg k
      have hD1 : ND I1 N tp za := ND_mP hD hP hg.2.1
      have e : ¬ sxS tp N za = 38 := fun q => absurd (op_lt ooN (op_N.mpr q)) (by omega)
      simp only [gX7_isA_9, t0, true_and]
      refine m_is hm hD1 (fun I2 hm2 => ?_)
      rw [if_neg e] at hm2
      have kk := k I2 (mP_mv hP hm2)
      simp only [Option.toList_some, List.cons_append, List.nil_append, gX7_isA_15, e, if_false, if_true, gX7_isA_37, or_true, true_and]
      exact kk
    | succ m ih =>
      intro za zc I1 hi hP hg k
      have hD1 : ND I1 N tp za := ND_mP hD hP hg.2.1
      simp only [gX7_isA_9, t0, true_and]
      refine m_is hm hD1 (fun I2 hm2 => ?_)
      simp only [Option.toList_some, List.cons_append, List.nil_append, gX7_isA_15]
      by_cases e : sxS tp N za = 38
      · rw [if_pos e] at hm2
        have hop : opN (sxS tp N za) = true := op_N.mpr e
        rw [chS_yes ⟨rfl, hop⟩] at k
        have lt : za < N := op_lt ooN hop
        obtain ⟨g4, g5, g6, g7⟩ := hg.2.2 rfl
        have g5' : zc.length + a ≤ za := g5
        obtain ⟨f1, f2, f3⟩ := hP.2.2.2 rfl
        simp only [e, if_true, show ¬ (1 : Int32) = 0 by decide, if_false, gX7_isA_18, t0, true_and]
        have o2 : I2 54 13 = ov := by rw [hm2.2.1 13 (by decide), hP.2.1 13 (by decide) (by decide)]; exact hov
        refine h I2 (za + 1) (sz + zc.length) _ (ND_mv hD1 hm2 (by omega)) (by rw [hm2.2.1 14 (by decide)]; exact f1) (by omega) o2 (fun I3 hP3 => ?_)
        simp only [Option.toList_some, List.cons_append, List.nil_append, gX7_isA_22, ne_eq]
        have gg := gz_1 (tp := tp) ooN hf hg hop
        have hcat := mP_cat hP rfl hm2 hP3
        have gf := hf (za + 1) (by omega)
        rcases hy : f (za + 1) with ⟨yb, ya, yc⟩
        rw [hy] at hcat k gg gf
        cases yb with
        | false =>
          rw [chS_no (fun q => absurd q.1 (by simp))] at k
          have kk := k I3 (mP_no hcat)
          simp only [Bool.false_eq_true, if_false, not_true_eq_false, gX7_isA_25, true_or, true_and]
          exact kk
        | true =>
          obtain ⟨y4, y5, -⟩ := gf.2.2 rfl
          have y5' : yc.length + (za + 1) ≤ ya := y5
          have y2 : ya ≤ N := gf.2.1
          have s3 := (hcat.2.2.2 rfl).1
          have s3' : I3 54 14 = nI (sz + (zc ++ yc).length) := s3
          simp only [if_true, show ¬ (1 : Int32) = 0 by decide, not_false_eq_true, gX7_isA_27, t0, true_and]
          refine m_codes hm s3' (by rw [List.length_append]; omega) (fun I4 hA => ?_)
          simp only [Option.toList_some, List.cons_append, List.nil_append, gX7_isA_33]
          refine ih ya (zc ++ yc ++ [-(sxS tp N za)]) I4 (by omega) ?_ gg k
          rw [e]
          exact mP_ad (z := (true, ya, zc ++ yc)) (c := -38) hcat hA
      · rw [if_neg e] at hm2
        rw [chS_no (fun q => e (op_N.mp q.2))] at k
        have kk := k I2 (mP_mv hP hm2)
        simp only [e, if_false, if_true, gX7_isA_37, or_true, true_and]
        exact kk
  simp only [gX7_isA_0, t0, true_and]
  refine h I a sz _ hD hs hsa hov (fun I1 hP1 => ?_)
  simp only [Option.toList_some, List.cons_append, List.nil_append, gX7_isA_4, ne_eq]
  have gf := hf a ha
  have k : ∀ I' : tI, mP I I' sz (chS opN (sxS tp N) f 120 (f a)) → Q (some (.int (if (chS opN (sxS tp N) f 120 (f a)).1 = true then 1 else 0))) (T, I', J, R) := k
  rcases hz : f a with ⟨zb, za, zc⟩
  rw [hz] at hP1 k gf
  cases zb with
  | false =>
    rw [chS_no (fun q => absurd q.1 (by simp))] at k
    have kk := k I1 hP1
    simp only [Bool.false_eq_true, if_false, not_true_eq_false, gX7_isA_7, true_or, true_and]
    exact kk
  | true =>
    simp only [if_true, show ¬ (1 : Int32) = 0 by decide, not_false_eq_true]
    exact loop 120 za zc I1 (by omega) hP1 gf k
theorem m_isE (hm : IsMod T R) (hf : Gd N f) (h : mM X (d + 1) T J R N tp ov mX7_isA [.ref 54] f) : mM X (d + 2) T J R N tp ov mX7_isE [.ref 54] (fun a => chS opO (sxS tp N) f 120 (f a)) := by
  intro I a sz Q hD hs hsa hov k
  have t0 := mt_54 hm
  have ha : a ≤ N := hD.2.2.2.2
  have hN : N ≤ 120 := hD.2.1
  have loop : ∀ (m : Nat) (za : Nat) (zc : List Int32) (I1 : tI), N ≤ za + m → mP I I1 sz (true, za, zc) → gZ N a (true, za, zc) → (∀ I' : tI, mP I I' sz (chS opO (sxS tp N) f m (true, za, zc)) → Q (some (.int (if (chS opO (sxS tp N) f m (true, za, zc)).1 = true then 1 else 0))) (T, I', J, R)) → Ex X (d + 2) mX7_isE 9 [.ref 54] [] (T, I1, J, R) Q := by
    intro m
    induction m with
    | zero =>
      intro za zc I1 hi hP hg k
      have hD1 : ND I1 N tp za := ND_mP hD hP hg.2.1
      have e : ¬ sxS tp N za = 124 := fun q => absurd (op_lt ooO (op_O.mpr q)) (by omega)
      simp only [gX7_isE_9, t0, true_and]
      refine m_is hm hD1 (fun I2 hm2 => ?_)
      rw [if_neg e] at hm2
      have kk := k I2 (mP_mv hP hm2)
      simp only [Option.toList_some, List.cons_append, List.nil_append, gX7_isE_15, e, if_false, if_true, gX7_isE_37, or_true, true_and]
      exact kk
    | succ m ih =>
      intro za zc I1 hi hP hg k
      have hD1 : ND I1 N tp za := ND_mP hD hP hg.2.1
      simp only [gX7_isE_9, t0, true_and]
      refine m_is hm hD1 (fun I2 hm2 => ?_)
      simp only [Option.toList_some, List.cons_append, List.nil_append, gX7_isE_15]
      by_cases e : sxS tp N za = 124
      · rw [if_pos e] at hm2
        have hop : opO (sxS tp N za) = true := op_O.mpr e
        rw [chS_yes ⟨rfl, hop⟩] at k
        have lt : za < N := op_lt ooO hop
        obtain ⟨g4, g5, g6, g7⟩ := hg.2.2 rfl
        have g5' : zc.length + a ≤ za := g5
        obtain ⟨f1, f2, f3⟩ := hP.2.2.2 rfl
        simp only [e, if_true, show ¬ (1 : Int32) = 0 by decide, if_false, gX7_isE_18, t0, true_and]
        have o2 : I2 54 13 = ov := by rw [hm2.2.1 13 (by decide), hP.2.1 13 (by decide) (by decide)]; exact hov
        refine h I2 (za + 1) (sz + zc.length) _ (ND_mv hD1 hm2 (by omega)) (by rw [hm2.2.1 14 (by decide)]; exact f1) (by omega) o2 (fun I3 hP3 => ?_)
        simp only [Option.toList_some, List.cons_append, List.nil_append, gX7_isE_22, ne_eq]
        have gg := gz_1 (tp := tp) ooO hf hg hop
        have hcat := mP_cat hP rfl hm2 hP3
        have gf := hf (za + 1) (by omega)
        rcases hy : f (za + 1) with ⟨yb, ya, yc⟩
        rw [hy] at hcat k gg gf
        cases yb with
        | false =>
          rw [chS_no (fun q => absurd q.1 (by simp))] at k
          have kk := k I3 (mP_no hcat)
          simp only [Bool.false_eq_true, if_false, not_true_eq_false, gX7_isE_25, true_or, true_and]
          exact kk
        | true =>
          obtain ⟨y4, y5, -⟩ := gf.2.2 rfl
          have y5' : yc.length + (za + 1) ≤ ya := y5
          have y2 : ya ≤ N := gf.2.1
          have s3 := (hcat.2.2.2 rfl).1
          have s3' : I3 54 14 = nI (sz + (zc ++ yc).length) := s3
          simp only [if_true, show ¬ (1 : Int32) = 0 by decide, not_false_eq_true, gX7_isE_27, t0, true_and]
          refine m_codes hm s3' (by rw [List.length_append]; omega) (fun I4 hA => ?_)
          simp only [Option.toList_some, List.cons_append, List.nil_append, gX7_isE_33]
          refine ih ya (zc ++ yc ++ [-(sxS tp N za)]) I4 (by omega) ?_ gg k
          rw [e]
          exact mP_ad (z := (true, ya, zc ++ yc)) (c := -124) hcat hA
      · rw [if_neg e] at hm2
        rw [chS_no (fun q => e (op_O.mp q.2))] at k
        have kk := k I2 (mP_mv hP hm2)
        simp only [e, if_false, if_true, gX7_isE_37, or_true, true_and]
        exact kk
  simp only [gX7_isE_0, t0, true_and]
  refine h I a sz _ hD hs hsa hov (fun I1 hP1 => ?_)
  simp only [Option.toList_some, List.cons_append, List.nil_append, gX7_isE_4, ne_eq]
  have gf := hf a ha
  have k : ∀ I' : tI, mP I I' sz (chS opO (sxS tp N) f 120 (f a)) → Q (some (.int (if (chS opO (sxS tp N) f 120 (f a)).1 = true then 1 else 0))) (T, I', J, R) := k
  rcases hz : f a with ⟨zb, za, zc⟩
  rw [hz] at hP1 k gf
  cases zb with
  | false =>
    rw [chS_no (fun q => absurd q.1 (by simp))] at k
    have kk := k I1 hP1
    simp only [Bool.false_eq_true, if_false, not_true_eq_false, gX7_isE_7, true_or, true_and]
    exact kk
  | true =>
    simp only [if_true, show ¬ (1 : Int32) = 0 by decide, not_false_eq_true]
    exact loop 120 za zc I1 (by omega) hP1 gf k
theorem m_isP (hm : IsMod T R) (hf : Gd N f) (h : mM X d T J R N tp ov mX7_isO [.ref 54, rU, rU] f) : mM X (d + 1) T J R N tp ov mX7_isP [.ref 54, rU] (fun a => chS opM (sxS tp N) f 120 (f a)) := by
  intro I a sz Q hD hs hsa hov k
  have t0 := mt_54 hm
  have ha : a ≤ N := hD.2.2.2.2
  have hN : N ≤ 120 := hD.2.1
  have loop : ∀ (m : Nat) (za : Nat) (zc : List Int32) (I1 : tI) (v1 : Value), N ≤ za + m → mP I I1 sz (true, za, zc) → gZ N a (true, za, zc) → (∀ I' : tI, mP I I' sz (chS opM (sxS tp N) f m (true, za, zc)) → Q (some (.int (if (chS opM (sxS tp N) f m (true, za, zc)).1 = true then 1 else 0))) (T, I', J, R)) → Ex X (d + 1) mX7_isP 9 [.ref 54, v1] [] (T, I1, J, R) Q := by
    intro m
    induction m with
    | zero =>
      intro za zc I1 v1 hi hP hg k
      have hD1 : ND I1 N tp za := ND_mP hD hP hg.2.1
      have hop : ¬ opM (sxS tp N za) = true := fun q => absurd (op_lt ooM q) (by omega)
      have kk := k I1 hP
      have noE : Ex X (d + 1) mX7_isP 9 [.ref 54, v1] [] (T, I1, J, R) Q := by
        have n1 : ¬ sxS tp N za = 42 := fun q => hop (op_M.mpr (Or.inl (Or.inl q)))
        have n2 : ¬ sxS tp N za = 47 := fun q => hop (op_M.mpr (Or.inl (Or.inr q)))
        have n3 : ¬ sxS tp N za = 37 := fun q => hop (op_M.mpr (Or.inr q))
        simp only [gX7_isP_9, t0, true_and]
        refine m_sign hm hD1 ?_
        simp only [Option.toList_some, List.cons_append, List.nil_append, gX7_isP_13, ne_eq, n1, not_false_eq_true, if_true, gX7_isP_23, t0, true_and]
        refine m_sign hm hD1 ?_
        simp only [Option.toList_some, List.cons_append, List.nil_append, gX7_isP_27, ne_eq, n2, not_false_eq_true, if_true, gX7_isP_37, t0, true_and]
        refine m_sign hm hD1 ?_
        simp only [Option.toList_some, List.cons_append, List.nil_append, gX7_isP_41, ne_eq, n3, not_false_eq_true, if_true, gX7_isP_51, gX7_isP_52, show ¬ (0 : Int32) ≤ -1 by decide, if_false, gX7_isP_57, or_true, true_and]
        exact kk
      exact noE
    | succ m ih =>
      intro za zc I1 v1 hi hP hg k
      have hD1 : ND I1 N tp za := ND_mP hD hP hg.2.1
      have e4 : I1 54 12 = nI za := hP.2.2.1
      by_cases hop : opM (sxS tp N za) = true
      · rw [chS_yes ⟨rfl, hop⟩] at k
        have lt : za < N := op_lt ooM hop
        obtain ⟨g4, g5, g6, g7⟩ := hg.2.2 rfl
        have g5' : zc.length + a ≤ za := g5
        obtain ⟨f1, f2, f3⟩ := hP.2.2.2 rfl
        have atO : ∀ ch mu : Int32, sxS tp N za = ch → muS (-(sxS tp N za)) = mu → 0 ≤ mu → Ex X (d + 1) mX7_isP 52 [.ref 54, v1] [.int mu] (T, I1, J, R) Q := by
          intro ch mu e emu hmu
          have hm2 := mw_up e4
          simp only [gX7_isP_52, hmu, if_true, gX7_isP_59, t0, true_and, e4, nI_1]
          generalize hI2 : va_up I1 54 (va_up (I1 54) 12 (nI (za + 1))) = I2 at hm2 ⊢
          have o2 : I2 54 13 = ov := by rw [hm2.2.1 13 (by decide), hP.2.1 13 (by decide) (by decide)]; exact hov
          refine h I2 (za + 1) (sz + zc.length) _ (ND_mv hD1 hm2 (by omega)) (by rw [hm2.2.1 14 (by decide)]; exact f1) (by omega) o2 (fun I3 hP3 => ?_)
          simp only [Option.toList_some, List.cons_append, List.nil_append, gX7_isP_73, ne_eq]
          have gg := gz_1 (tp := tp) ooM hf hg hop
          have hcat := mP_cat hP rfl hm2 hP3
          have gf := hf (za + 1) (by omega)
          rcases hy : f (za + 1) with ⟨yb, ya, yc⟩
          rw [hy] at hcat k gg gf
          cases yb with
          | false =>
            rw [chS_no (fun q => absurd q.1 (by simp))] at k
            have kk := k I3 (mP_no hcat)
            simp only [Bool.false_eq_true, if_false, not_true_eq_false, gX7_isP_76, true_or, true_and]
            exact kk
          | true =>
            obtain ⟨y4, y5, -⟩ := gf.2.2 rfl
            have y5' : yc.length + (za + 1) ≤ ya := y5
            have y2 : ya ≤ N := gf.2.1
            have s3' : I3 54 14 = nI (sz + (zc ++ yc).length) := (hcat.2.2.2 rfl).1
            simp only [if_true, show ¬ (1 : Int32) = 0 by decide, not_false_eq_true, gX7_isP_78, t0, true_and]
            refine m_codes hm s3' (by rw [List.length_append]; omega) (fun I4 hA => ?_)
            simp only [Option.toList_some, List.cons_append, List.nil_append, gX7_isP_83]
            refine ih ya (zc ++ yc ++ [-(sxS tp N za)]) I4 _ (by omega) ?_ gg k
            rw [← emu] at hA
            exact mP_ad (z := (true, ya, zc ++ yc)) (c := -(sxS tp N za)) hcat hA
        rcases op_M.mp hop with (e | e) | e
        · simp only [gX7_isP_9, t0, true_and]
          refine m_sign hm hD1 ?_
          simp only [Option.toList_some, List.cons_append, List.nil_append, gX7_isP_13, ne_eq, e, not_true_eq_false, if_false, gX7_isP_18]
          exact atO 42 13 e (by rw [e]; decide +kernel) (by decide)
        · simp only [gX7_isP_9, t0, true_and]
          refine m_sign hm hD1 ?_
          simp only [Option.toList_some, List.cons_append, List.nil_append, gX7_isP_13, ne_eq, e, show ¬ (47 : Int32) = 42 by decide, not_false_eq_true, if_true, gX7_isP_23, t0, true_and]
          refine m_sign hm hD1 ?_
          simp only [Option.toList_some, List.cons_append, List.nil_append, gX7_isP_27, ne_eq, e, not_true_eq_false, if_false, gX7_isP_32]
          exact atO 47 14 e (by rw [e]; decide +kernel) (by decide)
        · simp only [gX7_isP_9, t0, true_and]
          refine m_sign hm hD1 ?_
          simp only [Option.toList_some, List.cons_append, List.nil_append, gX7_isP_13, ne_eq, e, show ¬ (37 : Int32) = 42 by decide, not_false_eq_true, if_true, gX7_isP_23, t0, true_and]
          refine m_sign hm hD1 ?_
          simp only [Option.toList_some, List.cons_append, List.nil_append, gX7_isP_27, ne_eq, e, show ¬ (37 : Int32) = 47 by decide, not_false_eq_true, if_true, gX7_isP_37, t0, true_and]
          refine m_sign hm hD1 ?_
          simp only [Option.toList_some, List.cons_append, List.nil_append, gX7_isP_41, ne_eq, e, not_true_eq_false, if_false, gX7_isP_46]
          exact atO 37 15 e (by rw [e]; decide +kernel) (by decide)
      · rw [chS_no (fun q => hop q.2)] at k
        have kk := k I1 hP
        have n1 : ¬ sxS tp N za = 42 := fun q => hop (op_M.mpr (Or.inl (Or.inl q)))
        have n2 : ¬ sxS tp N za = 47 := fun q => hop (op_M.mpr (Or.inl (Or.inr q)))
        have n3 : ¬ sxS tp N za = 37 := fun q => hop (op_M.mpr (Or.inr q))
        simp only [gX7_isP_9, t0, true_and]
        refine m_sign hm hD1 ?_
        simp only [Option.toList_some, List.cons_append, List.nil_append, gX7_isP_13, ne_eq, n1, not_false_eq_true, if_true, gX7_isP_23, t0, true_and]
        refine m_sign hm hD1 ?_
        simp only [Option.toList_some, List.cons_append, List.nil_append, gX7_isP_27, ne_eq, n2, not_false_eq_true, if_true, gX7_isP_37, t0, true_and]
        refine m_sign hm hD1 ?_
        simp only [Option.toList_some, List.cons_append, List.nil_append, gX7_isP_41, ne_eq, n3, not_false_eq_true, if_true, gX7_isP_51, gX7_isP_52, show ¬ (0 : Int32) ≤ -1 by decide, if_false, gX7_isP_57, or_true, true_and]
        exact kk
  simp only [gX7_isP_0, t0, true_and]
  refine h I a sz _ hD hs hsa hov (fun I1 hP1 => ?_)
  simp only [Option.toList_some, List.cons_append, List.nil_append, gX7_isP_4, ne_eq]
  have gf := hf a ha
  have k : ∀ I' : tI, mP I I' sz (chS opM (sxS tp N) f 120 (f a)) → Q (some (.int (if (chS opM (sxS tp N) f 120 (f a)).1 = true then 1 else 0))) (T, I', J, R) := k
  rcases hz : f a with ⟨zb, za, zc⟩
  rw [hz] at hP1 k gf
  cases zb with
  | false =>
    rw [chS_no (fun q => absurd q.1 (by simp))] at k
    have kk := k I1 hP1
    simp only [Bool.false_eq_true, if_false, not_true_eq_false, gX7_isP_7, true_or, true_and]
    exact kk
  | true =>
    simp only [if_true, show ¬ (1 : Int32) = 0 by decide, not_false_eq_true]
    exact loop 120 za zc I1 _ (by omega) hP1 gf k
theorem m_isS (hm : IsMod T R) (hf : Gd N f) (h : mM X d T J R N tp ov mX7_isP [.ref 54, rU] f) : mM X (d + 1) T J R N tp ov mX7_isS [.ref 54, rU] (fun a => chS opA (sxS tp N) f 120 (f a)) := by
  intro I a sz Q hD hs hsa hov k
  have t0 := mt_54 hm
  have ha : a ≤ N := hD.2.2.2.2
  have hN : N ≤ 120 := hD.2.1
  have loop : ∀ (m : Nat) (za : Nat) (zc : List Int32) (I1 : tI) (v1 : Value), N ≤ za + m → mP I I1 sz (true, za, zc) → gZ N a (true, za, zc) → (∀ I' : tI, mP I I' sz (chS opA (sxS tp N) f m (true, za, zc)) → Q (some (.int (if (chS opA (sxS tp N) f m (true, za, zc)).1 = true then 1 else 0))) (T, I', J, R)) → Ex X (d + 1) mX7_isS 9 [.ref 54, v1] [] (T, I1, J, R) Q := by
    intro m
    induction m with
    | zero =>
      intro za zc I1 v1 hi hP hg k
      have hD1 : ND I1 N tp za := ND_mP hD hP hg.2.1
      have hop : ¬ opA (sxS tp N za) = true := fun q => absurd (op_lt ooA q) (by omega)
      have kk := k I1 hP
      have noE : Ex X (d + 1) mX7_isS 9 [.ref 54, v1] [] (T, I1, J, R) Q := by
        have n1 : ¬ sxS tp N za = 43 := fun q => hop (op_A.mpr (Or.inl q))
        have n2 : ¬ sxS tp N za = 45 := fun q => hop (op_A.mpr (Or.inr q))
        simp only [gX7_isS_9, t0, true_and]
        refine m_sign hm hD1 ?_
        simp only [Option.toList_some, List.cons_append, List.nil_append, gX7_isS_13, ne_eq, n1, not_false_eq_true, if_true, gX7_isS_23, t0, true_and]
        refine m_sign hm hD1 ?_
        simp only [Option.toList_some, List.cons_append, List.nil_append, gX7_isS_27, ne_eq, n2, not_false_eq_true, if_true, gX7_isS_37, gX7_isS_38, show ¬ (0 : Int32) ≤ -1 by decide, if_false, gX7_isS_43, or_true, true_and]
        exact kk
      exact noE
    | succ m ih =>
      intro za zc I1 v1 hi hP hg k
      have hD1 : ND I1 N tp za := ND_mP hD hP hg.2.1
      have e4 : I1 54 12 = nI za := hP.2.2.1
      by_cases hop : opA (sxS tp N za) = true
      · rw [chS_yes ⟨rfl, hop⟩] at k
        have lt : za < N := op_lt ooA hop
        obtain ⟨g4, g5, g6, g7⟩ := hg.2.2 rfl
        have g5' : zc.length + a ≤ za := g5
        obtain ⟨f1, f2, f3⟩ := hP.2.2.2 rfl
        have atO : ∀ ch mu : Int32, sxS tp N za = ch → muS (-(sxS tp N za)) = mu → 0 ≤ mu → Ex X (d + 1) mX7_isS 38 [.ref 54, v1] [.int mu] (T, I1, J, R) Q := by
          intro ch mu e emu hmu
          have hm2 := mw_up e4
          simp only [gX7_isS_38, hmu, if_true, gX7_isS_45, t0, true_and, e4, nI_1]
          generalize hI2 : va_up I1 54 (va_up (I1 54) 12 (nI (za + 1))) = I2 at hm2 ⊢
          have o2 : I2 54 13 = ov := by rw [hm2.2.1 13 (by decide), hP.2.1 13 (by decide) (by decide)]; exact hov
          refine h I2 (za + 1) (sz + zc.length) _ (ND_mv hD1 hm2 (by omega)) (by rw [hm2.2.1 14 (by decide)]; exact f1) (by omega) o2 (fun I3 hP3 => ?_)
          simp only [Option.toList_some, List.cons_append, List.nil_append, gX7_isS_59, ne_eq]
          have gg := gz_1 (tp := tp) ooA hf hg hop
          have hcat := mP_cat hP rfl hm2 hP3
          have gf := hf (za + 1) (by omega)
          rcases hy : f (za + 1) with ⟨yb, ya, yc⟩
          rw [hy] at hcat k gg gf
          cases yb with
          | false =>
            rw [chS_no (fun q => absurd q.1 (by simp))] at k
            have kk := k I3 (mP_no hcat)
            simp only [Bool.false_eq_true, if_false, not_true_eq_false, gX7_isS_62, true_or, true_and]
            exact kk
          | true =>
            obtain ⟨y4, y5, -⟩ := gf.2.2 rfl
            have y5' : yc.length + (za + 1) ≤ ya := y5
            have y2 : ya ≤ N := gf.2.1
            have s3' : I3 54 14 = nI (sz + (zc ++ yc).length) := (hcat.2.2.2 rfl).1
            simp only [if_true, show ¬ (1 : Int32) = 0 by decide, not_false_eq_true, gX7_isS_64, t0, true_and]
            refine m_codes hm s3' (by rw [List.length_append]; omega) (fun I4 hA => ?_)
            simp only [Option.toList_some, List.cons_append, List.nil_append, gX7_isS_69]
            refine ih ya (zc ++ yc ++ [-(sxS tp N za)]) I4 _ (by omega) ?_ gg k
            rw [← emu] at hA
            exact mP_ad (z := (true, ya, zc ++ yc)) (c := -(sxS tp N za)) hcat hA
        rcases op_A.mp hop with e | e
        · simp only [gX7_isS_9, t0, true_and]
          refine m_sign hm hD1 ?_
          simp only [Option.toList_some, List.cons_append, List.nil_append, gX7_isS_13, ne_eq, e, not_true_eq_false, if_false, gX7_isS_18]
          exact atO 43 11 e (by rw [e]; decide +kernel) (by decide)
        · simp only [gX7_isS_9, t0, true_and]
          refine m_sign hm hD1 ?_
          simp only [Option.toList_some, List.cons_append, List.nil_append, gX7_isS_13, ne_eq, e, show ¬ (45 : Int32) = 43 by decide, not_false_eq_true, if_true, gX7_isS_23, t0, true_and]
          refine m_sign hm hD1 ?_
          simp only [Option.toList_some, List.cons_append, List.nil_append, gX7_isS_27, ne_eq, e, not_true_eq_false, if_false, gX7_isS_32]
          exact atO 45 12 e (by rw [e]; decide +kernel) (by decide)
      · rw [chS_no (fun q => hop q.2)] at k
        have kk := k I1 hP
        have n1 : ¬ sxS tp N za = 43 := fun q => hop (op_A.mpr (Or.inl q))
        have n2 : ¬ sxS tp N za = 45 := fun q => hop (op_A.mpr (Or.inr q))
        simp only [gX7_isS_9, t0, true_and]
        refine m_sign hm hD1 ?_
        simp only [Option.toList_some, List.cons_append, List.nil_append, gX7_isS_13, ne_eq, n1, not_false_eq_true, if_true, gX7_isS_23, t0, true_and]
        refine m_sign hm hD1 ?_
        simp only [Option.toList_some, List.cons_append, List.nil_append, gX7_isS_27, ne_eq, n2, not_false_eq_true, if_true, gX7_isS_37, gX7_isS_38, show ¬ (0 : Int32) ≤ -1 by decide, if_false, gX7_isS_43, or_true, true_and]
        exact kk
  simp only [gX7_isS_0, t0, true_and]
  refine h I a sz _ hD hs hsa hov (fun I1 hP1 => ?_)
  simp only [Option.toList_some, List.cons_append, List.nil_append, gX7_isS_4, ne_eq]
  have gf := hf a ha
  have k : ∀ I' : tI, mP I I' sz (chS opA (sxS tp N) f 120 (f a)) → Q (some (.int (if (chS opA (sxS tp N) f 120 (f a)).1 = true then 1 else 0))) (T, I', J, R) := k
  rcases hz : f a with ⟨zb, za, zc⟩
  rw [hz] at hP1 k gf
  cases zb with
  | false =>
    rw [chS_no (fun q => absurd q.1 (by simp))] at k
    have kk := k I1 hP1
    simp only [Bool.false_eq_true, if_false, not_true_eq_false, gX7_isS_7, true_or, true_and]
    exact kk
  | true =>
    simp only [if_true, show ¬ (1 : Int32) = 0 by decide, not_false_eq_true]
    exact loop 120 za zc I1 _ (by omega) hP1 gf k
end MR
