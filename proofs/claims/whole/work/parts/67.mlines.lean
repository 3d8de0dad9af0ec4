/-! PURE: LINES read by the reference -/
def nP (I I' : tI) (sz ln : Nat) (z : tY) : Prop := (∀ x, x ≠ 54 → x ≠ 63 → x ≠ 64 → x ≠ 65 → x ≠ 66 → I' x = I x) ∧ (∀ i, i ≠ 12 → i ≠ 14 → i ≠ 15 → I' 54 i = I 54 i) ∧ I' 54 12 = nI z.2.1 ∧ (z.1 = true → I' 54 14 = nI (sz + z.2.2.1.length + z.2.2.2.length) ∧ I' 54 15 = nI (ln + 1) ∧ (∀ j, j < ln → I' 63 j = I 63 j ∧ I' 64 j = I 64 j ∧ I' 65 j = I 65 j) ∧ (∀ j, j < sz → I' 66 j = I 66 j) ∧ I' 63 ln = nI sz ∧ I' 64 ln = nI (sz + z.2.2.1.length) ∧ I' 65 ln = nI (sz + z.2.2.1.length + z.2.2.2.length) ∧ rwA (I' 66) sz (z.2.2.1.map muS) ∧ rwA (I' 66) (sz + z.2.2.1.length) (z.2.2.2.map muS))
theorem lnA_fr {as sy en cd as' sy' en' cd' : Nat → Int32} : ∀ (ls : tLn) (i A : Nat), (∀ j, i ≤ j → j < i + ls.length → as' j = as j ∧ sy' j = sy j ∧ en' j = en j) → (∀ j, A ≤ j → j < A + szL ls → cd' j = cd j) → lnA as sy en cd i A ls → lnA as' sy' en' cd' i A ls
  | [], _, _, _, _, _ => trivial
  | e :: r, i, A, h1, h2, ⟨q1, q2, q3, q4, q5, q6⟩ => by
    have hl : (e :: r).length = r.length + 1 := rfl
    have hs : szL (e :: r) = e.1.length + e.2.length + szL r := rfl
    obtain ⟨a1, a2, a3⟩ := h1 i (Nat.le_refl i) (by omega)
    have m1 : (e.1.map muS).length = e.1.length := List.length_map _
    have m2 : (e.2.map muS).length = e.2.length := List.length_map _
    exact ⟨by rw [a1]; exact q1, by rw [a2]; exact q2, by rw [a3]; exact q3, rwA_fr (fun j b1 b2 => h2 j (by omega) (by omega)) q4, rwA_fr (fun j b1 b2 => h2 j (by omega) (by omega)) q5, lnA_fr r (i + 1) _ (fun j b1 b2 => h1 j (by omega) (by omega)) (fun j b1 b2 => h2 j (by omega) (by omega)) q6⟩
theorem lnA_snoc {as sy en cd : Nat → Int32} (e : List Int32 × List Int32) : ∀ (ls : tLn) (i A : Nat), lnA as sy en cd i A ls → as (i + ls.length) = nI (A + szL ls) → sy (i + ls.length) = nI (A + szL ls + e.1.length) → en (i + ls.length) = nI (A + szL ls + e.1.length + e.2.length) → rwA cd (A + szL ls) (e.1.map muS) → rwA cd (A + szL ls + e.1.length) (e.2.map muS) → lnA as sy en cd i A (ls ++ [e])
  | [], i, A, _, h1, h2, h3, h4, h5 => ⟨h1, h2, h3, h4, h5, trivial⟩
  | x :: r, i, A, ⟨q1, q2, q3, q4, q5, q6⟩, h1, h2, h3, h4, h5 => by
    have hl : i + (x :: r).length = i + 1 + r.length := by show i + (r.length + 1) = _; omega
    have hs : A + szL (x :: r) = A + x.1.length + x.2.length + szL r := by show A + (x.1.length + x.2.length + szL r) = _; omega
    rw [hl, hs] at h1 h2 h3
    rw [hs] at h4 h5
    exact ⟨q1, q2, q3, q4, q5, lnA_snoc e r (i + 1) _ q6 h1 h2 h3 h4 h5⟩
section MK
variable {X : tX} {T : tT} {I I' I1 I2 I3 I4 I5 : tI} {J : tJ} {R : tR} {Q : tQ} {d a sz ln N n : Nat} {tp : Nat → Int32} {z y : tZ} {f : Nat → tZ} {c ov v w : Int32} {l : tL} {r : Nat → Nat → Int32}
set_option maxHeartbeats 4000000 in
theorem m_isLine (hm : IsMod T R) (hD : ND I N tp a) (hs : I 54 14 = nI sz) (hsa : sz ≤ a) (ho : I 54 13 = 0) (hln : I 54 15 = nI ln) (hl60 : ln ≤ 60) (k : ∀ I' : tI, nP I I' sz ln (pxL (sxS tp N) a) → Q (some (.int (if (pxL (sxS tp N) a).1 = true then 1 else 0))) (T, I', J, R)) : Ex X (d + 45) mX7_isLine 0 [.ref 54] [] (T, I, J, R) Q := by
  have t0 := mt_54 hm
  have hN : N ≤ 120 := hD.2.1
  have ha : a ≤ N := hD.2.2.2.2
  have E : mM X (d + 44) T J R N tp (nI 0) mX7_isE [.ref 54] (pxE (sxS tp N)) := m_E (d := d + 39) hm (gd_O 6) (m_isO hm 6 (by omega) d)
  have cl : (nI ln).toNatClampNeg = ln := nI_clamp (by omega)
  have i63 : rIn T 63 0 (nI ln) := rIn_at (mt_63 hm) (by omega) (by decide)
  have i64 : rIn T 64 0 (nI ln) := rIn_at (mt_64 hm) (by omega) (by decide)
  have i65 : rIn T 65 0 (nI ln) := rIn_at (mt_65 hm) (by omega) (by decide)
  simp only [gX7_isLine_0, t0, true_and, mr_16 hm, rf_some, hln, hs, i63, cl]
  generalize hI1 : va_up I 63 (va_up (I 63) ln (nI sz)) = I1
  have f1 : ∀ x, x ≠ 63 → I1 x = I x := fun x hx => by rw [← hI1, up_ne _ _ hx]
  have e1 : I1 63 ln = nI sz := by rw [← hI1, up_self, up_self]
  have g1 : ∀ j, j < ln → I1 63 j = I 63 j := fun j hj => by rw [← hI1, up_self, up_ne _ _ (by omega)]
  have s1 : I1 54 = I 54 := f1 54 (by decide)
  have hD1 : ND I1 N tp a := ⟨by rw [s1]; exact hD.1, hN, fun i hi => by rw [f1 58 (by decide)]; exact hD.2.2.1 i hi, by rw [s1]; exact hD.2.2.2.1, ha⟩
  refine E I1 a sz _ hD1 (by rw [s1]; exact hs) hsa (by rw [s1]; exact ho) (fun I2 hP => ?_)
  simp only [Option.toList_some, List.cons_append, List.nil_append, gX7_isLine_17, ne_eq]
  have g := gd_x tp N a ha
  unfold pxL at k
  rcases hz : pxE (sxS tp N) a with ⟨zb, za, zc⟩
  rw [hz] at g hP k
  cases zb with
  | false =>
    rw [if_neg (by simp)] at k
    simp only [Bool.false_eq_true, if_false, not_true_eq_false, gX7_isLine_20, true_or, true_and]
    refine k I2 ⟨fun x x1 x2 x3 x4 x5 => by rw [hP.1 x x1 x5, f1 x x2], fun i i1 i2 i3 => by rw [hP.2.1 i i1 i2, s1], hP.2.2.1, fun q => absurd q (by simp)⟩
  | true =>
    obtain ⟨g4, g5, g6, g7⟩ := g.2.2 rfl
    have g5' : zc.length + a ≤ za := g5
    have g2' : za ≤ N := g.2.1
    obtain ⟨c1, c2, c3⟩ := hP.2.2.2 rfl
    have c1' : I2 54 14 = nI (sz + zc.length) := c1
    have c3' : rwA (I2 66) sz (zc.map muS) := c3
    have ll : (zc.map muS).length = zc.length := List.length_map _
    rw [if_pos rfl] at k
    dsimp only at k
    have l2 : I2 54 15 = nI ln := by rw [hP.2.1 15 (by decide) (by decide), s1]; exact hln
    have e2 : I2 63 ln = nI sz := by rw [hP.1 63 (by decide) (by decide)]; exact e1
    simp only [if_true, show ¬ (1 : Int32) = 0 by decide, not_false_eq_true, gX7_isLine_22, t0, true_and, mr_16 hm, mr_17 hm, rf_some, l2, i63, i64, cl, e2]
    generalize hI3 : va_up I2 64 (va_up (I2 64) ln (nI sz)) = I3
    have f3 : ∀ x, x ≠ 64 → I3 x = I2 x := fun x hx => by rw [← hI3, up_ne _ _ hx]
    have e3 : I3 64 ln = nI sz := by rw [← hI3, up_self, up_self]
    have g3 : ∀ j, j < ln → I3 64 j = I2 64 j := fun j hj => by rw [← hI3, up_self, up_ne _ _ (by omega)]
    have s3 : I3 54 = I2 54 := f3 54 (by decide)
    have hD2 : ND I2 N tp za := ND_mP hD1 hP g2'
    have hD3 : ND I3 N tp za := ⟨by rw [s3]; exact hD2.1, hN, fun i hi => by rw [f3 58 (by decide)]; exact hD2.2.2.1 i hi, by rw [s3]; exact hD2.2.2.2.1, g2'⟩
    refine m_is hm hD3 (fun I4 hm4 => ?_)
    have s4 : ∀ i, i ≠ 12 → I4 54 i = I2 54 i := fun i hi => by rw [hm4.2.1 i hi, s3]
    have f4 : ∀ x, x ≠ 54 → x ≠ 64 → I4 x = I2 x := fun x x1 x2 => by rw [hm4.1 x x1, f3 x x2]
    have r64 : I4 64 = I3 64 := hm4.1 64 (by decide)
    simp only [Option.toList_some, List.cons_append, List.nil_append, gX7_isLine_46]
    by_cases e : sxS tp N za = 63
    · have lt : za < N := sg_lt (P := fun c => c = 63) e (by decide +kernel)
      rw [if_pos e] at hm4 k
      have l4 : I4 54 15 = nI ln := by rw [s4 15 (by decide)]; exact l2
      have c4 : I4 54 14 = nI (sz + zc.length) := by rw [s4 14 (by decide)]; exact c1'
      simp only [e, if_true, show ¬ (1 : Int32) = 0 by decide, if_false, gX7_isLine_49, t0, true_and, mr_17 hm, rf_some, l4, i64, cl, c4]
      generalize hI5 : va_up I4 64 (va_up (I4 64) ln (nI (sz + zc.length))) = I5
      have f5 : ∀ x, x ≠ 64 → I5 x = I4 x := fun x hx => by rw [← hI5, up_ne _ _ hx]
      have e5 : I5 64 ln = nI (sz + zc.length) := by rw [← hI5, up_self, up_self]
      have g5'' : ∀ j, j < ln → I5 64 j = I4 64 j := fun j hj => by rw [← hI5, up_self, up_ne _ _ (by omega)]
      have s5 : I5 54 = I4 54 := f5 54 (by decide)
      have hD4 := ND_mv hD3 hm4 lt
      have hD5 : ND I5 N tp (za + 1) := ⟨by rw [s5]; exact hD4.1, hN, fun i hi => by rw [f5 58 (by decide)]; exact hD4.2.2.1 i hi, by rw [s5]; exact hD4.2.2.2.1, lt⟩
      have o5 : I5 54 13 = nI 0 := by rw [s5, s4 13 (by decide), hP.2.1 13 (by decide) (by decide), s1]; exact ho
      refine E I5 (za + 1) (sz + zc.length) _ hD5 (by rw [s5]; exact c4) (by omega) o5 (fun I6 hP6 => ?_)
      simp only [Option.toList_some, List.cons_append, List.nil_append, gX7_isLine_66, ne_eq]
      have gy := gd_x tp N (za + 1) lt
      rcases hy : pxE (sxS tp N) (za + 1) with ⟨yb, ya, yc⟩
      rw [hy] at hP6 k gy
      have far : ∀ x, x ≠ 54 → x ≠ 63 → x ≠ 64 → x ≠ 65 → x ≠ 66 → I6 x = I x := fun x x1 x2 x3 x4 x5 => by rw [hP6.1 x x1 x5, f5 x x3, f4 x x1 x3, hP.1 x x1 x5, f1 x x2]
      have slo : ∀ i, i ≠ 12 → i ≠ 14 → I6 54 i = I 54 i := fun i i1 i2 => by rw [hP6.2.1 i i1 i2, s5, s4 i i1, hP.2.1 i i1 i2, s1]
      cases yb with
      | false =>
        simp only [Bool.false_eq_true, if_false, not_true_eq_false, gX7_isLine_69, true_or, true_and]
        exact k I6 ⟨far, fun i i1 i2 i3 => slo i i1 i2, hP6.2.2.1, fun q => absurd q (by simp)⟩
      | true =>
        obtain ⟨d1, d2, d3⟩ := hP6.2.2.2 rfl
        have d1' : I6 54 14 = nI (sz + zc.length + yc.length) := d1
        have d3' : rwA (I6 66) (sz + zc.length) (yc.map muS) := d3
        have l6 : I6 54 15 = nI ln := by rw [slo 15 (by decide) (by decide)]; exact hln
        simp only [if_true, show ¬ (1 : Int32) = 0 by decide, not_false_eq_true, gX7_isLine_71, t0, true_and, mr_18 hm, rf_some, l6, nI_1, up_self, up_ne _ _ (show (14 : Nat) ≠ 15 by decide), d1', i65, cl, or_true]
        refine k _ ⟨fun x x1 x2 x3 x4 x5 => by rw [up_ne _ _ x4, up_ne _ _ x1]; exact far x x1 x2 x3 x4 x5, fun i i1 i2 i3 => by rw [up_ne _ _ (by decide), up_self, up_ne _ _ i3]; exact slo i i1 i2, by rw [up_ne _ _ (by decide), up_self, up_ne _ _ (by decide)]; exact hP6.2.2.1, fun _ => ⟨?_, ?_, ?_, ?_, ?_, ?_, ?_, ?_, ?_⟩⟩
        · rw [up_ne _ _ (by decide), up_self, up_ne _ _ (by decide)]; exact d1'
        · rw [up_ne _ _ (by decide), up_self, up_self]
        · intro j hj
          rw [up_ne _ _ (by decide), up_ne _ _ (by decide), up_ne _ _ (by decide), up_ne _ _ (by decide), up_self, up_ne _ _ (by omega), up_ne _ _ (by decide)]
          refine ⟨?_, ?_, ?_⟩
          · rw [hP6.1 63 (by decide) (by decide), f5 63 (by decide), f4 63 (by decide) (by decide), hP.1 63 (by decide) (by decide)]; exact g1 j hj
          · rw [hP6.1 64 (by decide) (by decide), g5'' j hj, r64, g3 j hj, hP.1 64 (by decide) (by decide), f1 64 (by decide)]
          · rw [hP6.1 65 (by decide) (by decide), f5 65 (by decide), f4 65 (by decide) (by decide), hP.1 65 (by decide) (by decide), f1 65 (by decide)]
        · intro j hj
          rw [up_ne _ _ (by decide), up_ne _ _ (by decide), d2 j (by omega), f5 66 (by decide), f4 66 (by decide) (by decide), c2 j hj, f1 66 (by decide)]
        · rw [up_ne _ _ (by decide), up_ne _ _ (by decide), hP6.1 63 (by decide) (by decide), f5 63 (by decide), f4 63 (by decide) (by decide)]; exact e2
        · rw [up_ne _ _ (by decide), up_ne _ _ (by decide), hP6.1 64 (by decide) (by decide)]; exact e5
        · rw [up_self, up_self]
        · rw [up_ne _ _ (by decide), up_ne _ _ (by decide)]
          refine rwA_fr (fun j b1 b2 => ?_) c3'
          have b2' : j < sz + zc.length := by rw [ll] at b2; exact b2
          rw [d2 j b2', f5 66 (by decide), f4 66 (by decide) (by decide)]
        · rw [up_ne _ _ (by decide), up_ne _ _ (by decide)]
          exact d3'
    · rw [if_neg e] at hm4 k
      have l4 : I4 54 15 = nI ln := by rw [s4 15 (by decide)]; exact l2
      have c4 : I4 54 14 = nI (sz + zc.length) := by rw [s4 14 (by decide)]; exact c1'
      have far : ∀ x, x ≠ 54 → x ≠ 63 → x ≠ 64 → x ≠ 65 → x ≠ 66 → I4 x = I x := fun x x1 x2 x3 x4 x5 => by rw [f4 x x1 x3, hP.1 x x1 x5, f1 x x2]
      have slo : ∀ i, i ≠ 12 → i ≠ 14 → I4 54 i = I 54 i := fun i i1 i2 => by rw [s4 i i1, hP.2.1 i i1 i2, s1]
      simp only [e, if_false, if_true, gX7_isLine_71, t0, true_and, mr_18 hm, rf_some, l4, nI_1, up_self, up_ne _ _ (show (14 : Nat) ≠ 15 by decide), c4, i65, cl, or_true]
      refine k _ ⟨fun x x1 x2 x3 x4 x5 => by rw [up_ne _ _ x4, up_ne _ _ x1]; exact far x x1 x2 x3 x4 x5, fun i i1 i2 i3 => by rw [up_ne _ _ (by decide), up_self, up_ne _ _ i3]; exact slo i i1 i2, by rw [up_ne _ _ (by decide), up_self, up_ne _ _ (by decide)]; exact hm4.2.2, fun _ => ⟨?_, ?_, ?_, ?_, ?_, ?_, ?_, ?_, ?_⟩⟩
      · rw [up_ne _ _ (by decide), up_self, up_ne _ _ (by decide)]; exact c4
      · rw [up_ne _ _ (by decide), up_self, up_self]
      · intro j hj
        rw [up_ne _ _ (by decide), up_ne _ _ (by decide), up_ne _ _ (by decide), up_ne _ _ (by decide), up_self, up_ne _ _ (by omega), up_ne _ _ (by decide)]
        refine ⟨?_, ?_, ?_⟩
        · rw [f4 63 (by decide) (by decide), hP.1 63 (by decide) (by decide)]; exact g1 j hj
        · rw [r64, g3 j hj, hP.1 64 (by decide) (by decide), f1 64 (by decide)]
        · rw [f4 65 (by decide) (by decide), hP.1 65 (by decide) (by decide), f1 65 (by decide)]
      · intro j hj
        rw [up_ne _ _ (by decide), up_ne _ _ (by decide), f4 66 (by decide) (by decide), c2 j hj, f1 66 (by decide)]
      · rw [up_ne _ _ (by decide), up_ne _ _ (by decide), f4 63 (by decide) (by decide)]; exact e2
      · rw [up_ne _ _ (by decide), up_ne _ _ (by decide), r64]; exact e3
      · rw [up_self, up_self]; rfl
      · exact trivial
      · rw [up_ne _ _ (by decide), up_ne _ _ (by decide), f4 66 (by decide) (by decide)]
        exact c3'
theorem MS_fs (h : MS T I R n l r) (hf : ∀ x, (55 ≤ x ∧ x ≤ 57) ∨ (59 ≤ x ∧ x ≤ 62) → I' x = I x) (h0 : I' 54 0 = I 54 0) (h6 : I' 54 6 = I 54 6) (h7 : I' 54 7 = I 54 7) : MS T I' R n l r := by
  obtain ⟨hm, hok, hn, h8, hl, hr, hk⟩ := h
  have f59 := hf 59 (by decide)
  have f60 := hf 60 (by decide)
  have f61 := hf 61 (by decide)
  have f62 := hf 62 (by decide)
  refine ⟨hm, fun z => ?_, by rw [h0]; exact hn, h8, ?_, by rw [vm_eq (hf 55 (by decide)) (hf 56 (by decide)) (hf 57 (by decide))]; exact hr, hk⟩
  · unfold mOk
    rw [h7, f59, f60, f61, f62]
    exact hok (by rw [h6] at z; exact z)
  · unfold mLw
    rw [h6, h7, f59, f60, f61, f62]
    exact hl
/-- LINES read so far -/
def LV (I I1 : tI) (z : tV) : Prop := (∀ x, x ≠ 54 → x ≠ 63 → x ≠ 64 → x ≠ 65 → x ≠ 66 → I1 x = I x) ∧ (∀ i, i ≠ 12 → i ≠ 14 → i ≠ 15 → I1 54 i = I 54 i) ∧ I1 54 12 = nI z.2.1 ∧ (z.1 = true → I1 54 14 = nI (szL z.2.2) ∧ I1 54 15 = nI z.2.2.length ∧ lnA (I1 63) (I1 64) (I1 65) (I1 66) 0 0 z.2.2)
theorem LV_1 {za : Nat} {ls : tLn} {e : tY} (h : LV I I1 (true, za, ls)) (hm : mvM I1 I2 a) (hn : nP I2 I3 (szL ls) ls.length e) : LV I I3 (e.1, e.2.1, ls ++ [e.2.2]) := by
  obtain ⟨v1, v2, v3, v4⟩ := h
  obtain ⟨m1, m2, m3⟩ := hm
  obtain ⟨n1, n2, n3, n4⟩ := hn
  obtain ⟨v5, v6, v7⟩ := v4 rfl
  refine ⟨fun x x1 x2 x3 x4 x5 => by rw [n1 x x1 x2 x3 x4 x5, m1 x x1]; exact v1 x x1 x2 x3 x4 x5, fun i i1 i2 i3 => by rw [n2 i i1 i2 i3, m2 i i1]; exact v2 i i1 i2 i3, n3, fun q => ?_⟩
  obtain ⟨o1, o2, o3, o4, o5, o6, o7, o8, o9⟩ := n4 q
  have q63 : I2 63 = I1 63 := m1 63 (by decide)
  have q64 : I2 64 = I1 64 := m1 64 (by decide)
  have q65 : I2 65 = I1 65 := m1 65 (by decide)
  have q66 : I2 66 = I1 66 := m1 66 (by decide)
  refine ⟨?_, ?_, ?_⟩
  · rw [o1]
    show _ = nI (szL (ls ++ [e.2.2]))
    rw [sz_snoc]
  · rw [o2]
    show _ = nI (ls ++ [e.2.2]).length
    rw [List.length_append]
    rfl
  · have v7' : lnA (I1 63) (I1 64) (I1 65) (I1 66) 0 0 ls := v7
    refine lnA_snoc e.2.2 ls 0 0 (lnA_fr ls 0 0 (fun j _ hj => ?_) (fun j _ hj => ?_) v7') ?_ ?_ ?_ ?_ ?_
    · rw [← q63, ← q64, ← q65]
      exact o3 j (by omega)
    · rw [← q66]
      exact o4 j (by omega)
    · rw [Nat.zero_add, Nat.zero_add]; exact o5
    · rw [Nat.zero_add, Nat.zero_add]; exact o6
    · rw [Nat.zero_add, Nat.zero_add]; exact o7
    · rw [Nat.zero_add]; exact o8
    · rw [Nat.zero_add]; exact o9
theorem LV_mv {za : Nat} {ls : tLn} {wb : Bool} (h : LV I I1 (wb, za, ls)) (hm : mvM I1 I2 za) : LV I I2 (wb, za, ls) := by
  obtain ⟨v1, v2, v3, v4⟩ := h
  obtain ⟨m1, m2, m3⟩ := hm
  refine ⟨fun x x1 x2 x3 x4 x5 => by rw [m1 x x1]; exact v1 x x1 x2 x3 x4 x5, fun i i1 i2 i3 => by rw [m2 i i1]; exact v2 i i1 i2 i3, m3, fun q => ?_⟩
  rw [m2 14 (by decide), m2 15 (by decide), m1 63 (by decide), m1 64 (by decide), m1 65 (by decide), m1 66 (by decide)]
  exact v4 q
end MK
