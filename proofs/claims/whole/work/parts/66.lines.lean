/-! PURE: LINES read: what comes of it; the class's side -/
abbrev tY : Type := Bool × Nat × (List Int32 × List Int32)
abbrev tV : Type := Bool × Nat × tLn
def pxE (s : Nat → Int32) (a : Nat) : tZ := pzE s (pzO s 6) a
def pxL (s : Nat → Int32) (a : Nat) : tY := if (pxE s a).1 = true then (if s (pxE s a).2.1 = 63 then ((pxE s ((pxE s a).2.1 + 1)).1, (pxE s ((pxE s a).2.1 + 1)).2.1, ((pxE s a).2.2, (pxE s ((pxE s a).2.1 + 1)).2.2)) else (true, (pxE s a).2.1, ([], (pxE s a).2.2))) else (false, (pxE s a).2.1, ([], []))
def pxS (s : Nat → Int32) (N : Nat) : Nat → tV → tV
  | 0, z => z
  | m + 1, z => if z.1 = true ∧ z.2.1 < N then (if s z.2.1 = 59 then pxS s N m ((pxL s (z.2.1 + 1)).1, (pxL s (z.2.1 + 1)).2.1, z.2.2 ++ [(pxL s (z.2.1 + 1)).2.2]) else (false, z.2.1, [])) else z
def pxA (tp : Nat → Int32) (N : Nat) : tV := pxS (sxS tp N) N 120 ((pxL (sxS tp N) 0).1, (pxL (sxS tp N) 0).2.1, [(pxL (sxS tp N) 0).2.2])
def gL (N a : Nat) (z : tY) : Prop := a ≤ z.2.1 ∧ z.2.1 ≤ N ∧ (z.1 = true → a < z.2.1 ∧ z.2.2.1.length + z.2.2.2.length + a ≤ z.2.1 ∧ (flE z.2.2).length + a ≤ z.2.1 + 1 ∧ (z.2.2.1 = [] ∨ okE z.2.2.1) ∧ okE z.2.2.2)
theorem bal_ne {L : List Int32} (h : balS L) : ¬ L.length = 0 := by
  intro q
  have := h 0
  rw [List.length_eq_zero_iff.mp q] at this
  cases this
theorem gd_x (tp : Nat → Int32) (N : Nat) : Gd N (pxE (sxS tp N)) := gd_E (gd_O 6)
theorem gd_L {tp : Nat → Int32} {N a : Nat} (ha : a ≤ N) : gL N a (pxL (sxS tp N) a) := by
  unfold pxL
  have g := gd_x tp N a ha
  rcases hz : pxE (sxS tp N) a with ⟨zb, za, zc⟩
  rw [hz] at g
  obtain ⟨g1, g2, g3⟩ := g
  cases zb with
  | false =>
    rw [if_neg (by simp)]
    exact ⟨g1, g2, fun h => absurd h (by simp)⟩
  | true =>
    obtain ⟨g4, g5, g6, g7⟩ := g3 rfl
    have g4' : a < za := g4
    have g5' : zc.length + a ≤ za := g5
    have g2' : za ≤ N := g2
    rw [if_pos rfl]
    dsimp only
    by_cases e : sxS tp N za = 63
    · rw [if_pos e]
      have lt : za < N := sg_lt (P := fun c => c = 63) e (by decide +kernel)
      obtain ⟨y1, y2, y3⟩ := gd_x tp N (za + 1) lt
      refine ⟨by show a ≤ (pxE (sxS tp N) (za + 1)).2.1; omega, y2, fun q => ?_⟩
      obtain ⟨y4, y5, y6, y7⟩ := y3 q
      have n0 := bal_ne g7
      have n0' : ¬ zc.length = 0 := n0
      refine ⟨by show a < (pxE (sxS tp N) (za + 1)).2.1; omega, by show zc.length + (pxE (sxS tp N) (za + 1)).2.2.length + a ≤ (pxE (sxS tp N) (za + 1)).2.1; omega, ?_, Or.inr ⟨g6, g7⟩, ⟨y6, y7⟩⟩
      show (flE (zc, (pxE (sxS tp N) (za + 1)).2.2)).length + a ≤ (pxE (sxS tp N) (za + 1)).2.1 + 1
      unfold flE
      rw [if_neg n0, List.length_append, List.length_append, List.length_append]
      show zc.length + 1 + (pxE (sxS tp N) (za + 1)).2.2.length + 1 + a ≤ _
      omega
    · rw [if_neg e]
      refine ⟨g1, g2, fun _ => ⟨g4, by show 0 + zc.length + a ≤ za; omega, ?_, Or.inl rfl, ⟨g6, g7⟩⟩⟩
      show (zc ++ [(-59 : Int32)]).length + a ≤ za + 1
      rw [List.length_append]
      show zc.length + 1 + a ≤ za + 1
      omega
theorem fl_snoc (e : List Int32 × List Int32) : ∀ ls : tLn, flS (ls ++ [e]) = flS ls ++ flE e
  | [] => by
    show flE e ++ [] = [] ++ flE e
    rw [List.append_nil, List.nil_append]
  | x :: r => by
    show flE x ++ flS (r ++ [e]) = flE x ++ flS r ++ flE e
    rw [fl_snoc e r, List.append_assoc]
/-- what is known of LINES that are there -/
def gV (N : Nat) (z : tV) : Prop := z.2.1 ≤ N ∧ (z.1 = true → (flS z.2.2).length ≤ z.2.1 + 1 ∧ szL z.2.2 ≤ z.2.1 ∧ 2 * z.2.2.length ≤ z.2.1 + 1 ∧ okLn z.2.2 ∧ ¬ z.2.2.length = 0)
theorem sz_snoc (e : List Int32 × List Int32) : ∀ ls : tLn, szL (ls ++ [e]) = szL ls + e.1.length + e.2.length
  | [] => by
    show e.1.length + e.2.length + 0 = 0 + e.1.length + e.2.length
    omega
  | x :: r => by
    show x.1.length + x.2.length + szL (r ++ [e]) = x.1.length + x.2.length + szL r + e.1.length + e.2.length
    rw [sz_snoc e r]
    omega
theorem gV_1 {tp : Nat → Int32} {N za : Nat} {ls : tLn} (h : gV N (true, za, ls)) (lt : za < N) : gV N ((pxL (sxS tp N) (za + 1)).1, (pxL (sxS tp N) (za + 1)).2.1, ls ++ [(pxL (sxS tp N) (za + 1)).2.2]) := by
  obtain ⟨g1, g2, g3⟩ := gd_L (tp := tp) (N := N) (a := za + 1) lt
  obtain ⟨h1, h2⟩ := h
  obtain ⟨h3, h4, h5, h6, h7⟩ := h2 rfl
  refine ⟨g2, fun q => ?_⟩
  obtain ⟨g4, g5, g6, g7, g8⟩ := g3 q
  have h3' : (flS ls).length ≤ za + 1 := h3
  have h4' : szL ls ≤ za := h4
  have h5' : 2 * ls.length ≤ za + 1 := h5
  refine ⟨?_, ?_, ?_, ?_, ?_⟩
  · show (flS (ls ++ [(pxL (sxS tp N) (za + 1)).2.2])).length ≤ (pxL (sxS tp N) (za + 1)).2.1 + 1
    rw [fl_snoc, List.length_append]
    omega
  · show szL (ls ++ [(pxL (sxS tp N) (za + 1)).2.2]) ≤ (pxL (sxS tp N) (za + 1)).2.1
    rw [sz_snoc]
    omega
  · show 2 * (ls ++ [(pxL (sxS tp N) (za + 1)).2.2]).length ≤ (pxL (sxS tp N) (za + 1)).2.1 + 1
    rw [List.length_append]
    show 2 * (ls.length + 1) ≤ _
    omega
  · intro e he
    rcases List.mem_append.mp he with q | q
    · exact h6 e q
    · rw [List.mem_singleton.mp q]
      exact ⟨g7, g8⟩
  · show ¬ (ls ++ [(pxL (sxS tp N) (za + 1)).2.2]).length = 0
    rw [List.length_append]
    show ¬ ls.length + 1 = 0
    omega
theorem gV_0 {tp : Nat → Int32} {N : Nat} : gV N ((pxL (sxS tp N) 0).1, (pxL (sxS tp N) 0).2.1, [(pxL (sxS tp N) 0).2.2]) := by
  obtain ⟨g1, g2, g3⟩ := gd_L (tp := tp) (N := N) (a := 0) (by omega)
  refine ⟨g2, fun q => ?_⟩
  obtain ⟨g4, g5, g6, g7, g8⟩ := g3 q
  refine ⟨?_, ?_, ?_, ?_, ?_⟩
  · show (flE (pxL (sxS tp N) 0).2.2 ++ []).length ≤ (pxL (sxS tp N) 0).2.1 + 1
    rw [List.append_nil]
    omega
  · show (pxL (sxS tp N) 0).2.2.1.length + (pxL (sxS tp N) 0).2.2.2.length + 0 ≤ (pxL (sxS tp N) 0).2.1
    omega
  · show 2 * 1 ≤ (pxL (sxS tp N) 0).2.1 + 1
    omega
  · intro e he
    rw [List.mem_singleton.mp he]
    exact ⟨g7, g8⟩
  · show ¬ 1 = 0
    decide
theorem gV_S {tp : Nat → Int32} {N : Nat} : ∀ (m : Nat) (z : tV), gV N z → gV N (pxS (sxS tp N) N m z)
  | 0, _, h => h
  | m + 1, (zb, za, ls), h => by
    rw [pxS]
    by_cases c : zb = true ∧ za < N
    · rw [if_pos c]
      dsimp only
      by_cases e : sxS tp N za = 59
      · rw [if_pos e]
        obtain ⟨rfl, lt⟩ := c
        exact gV_S m _ (gV_1 h lt)
      · rw [if_neg e]
        exact ⟨h.1, fun q => absurd q (by simp)⟩
    · rw [if_neg c]
      exact h
theorem gV_A (tp : Nat → Int32) (N : Nat) : gV N (pxA tp N) := gV_S 120 _ gV_0
section LC
variable {X : tX} {T : tT} {I I' I1 I2 I3 I4 : tI} {J : tJ} {R : tR} {Q : tQ} {d b b0 a sz N : Nat} {tp : Nat → Int32} {z y : tZ} {f : Nat → tZ} {c ov : Int32}
theorem cP_no {l l' : List Int32} {w : Bool} (h : cP b I I' sz (w, a, l)) : cP b I I' sz (false, a, l') := ⟨h.1, h.2.1, h.2.2.1, h.2.2.2.1, fun q => absurd q (by simp)⟩
theorem cP_mv2 {a' : Nat} {l : List Int32} {w : Bool} (hb : b = 27 ∨ b = 30) (hP : cP b I I1 sz (w, a, l)) (hm : mvC I1 I2 a') : cP b I I2 sz (w, a', l) := by
  obtain ⟨p1, p2, p3, p4, p5⟩ := hP
  obtain ⟨m1, m2, m3⟩ := hm
  refine ⟨fun x h1 h2 h3 => by rw [m1 x h1]; exact p1 x h1 h2 h3, by rw [m2]; exact p2, m3, by rw [m1 b (by omega)]; exact p4, ?_⟩
  rw [m1 b (by omega), m1 (b + 1) (by omega)]
  exact p5
theorem c_line (hK : RK T R b) : cM X (d + 45) T J R N tp b mX2_line [.ref 25, rU] (fun a => ((pxL (sxS tp N) a).1, (pxL (sxS tp N) a).2.1, flE (pxL (sxS tp N) a).2.2)) := by
  intro I a sz Q hD hs hsa k
  obtain ⟨t25, r0, t26, r3, hL, hb⟩ := id hK
  have ha : a ≤ N := hD.2.2.2.2.1
  have hN : N ≤ 120 := hD.2.1
  have E : cM X (d + 44) T J R N tp b mX2_either [.ref 25, .int 0, rU, rU] (pxE (sxS tp N)) := c_E (d := d + 39) hK (gd_O 6) (c_operand hK 6 (by omega) d)
  have k : ∀ I' : tI, cP b I I' sz ((pxL (sxS tp N) a).1, (pxL (sxS tp N) a).2.1, flE (pxL (sxS tp N) a).2.2) → Q (some (.int (if (pxL (sxS tp N) a).1 = true then 1 else 0))) (T, I', J, R) := k
  have fin : ∀ (zb : Bool) (za : Nat) (zc : List Int32) (I1 : tI), cP b I I1 sz (zb, za, zc) → (zb = true → sz + zc.length < 121) → (∀ I' : tI, cP b I I' sz (zb, za, zc ++ [-59]) → Q (some (.int (if zb = true then 1 else 0))) (T, I', J, R)) → Ex X (d + 45) mX2_line 34 [.ref 25, .int (if zb = true then 1 else 0)] [] (T, I1, J, R) Q := by
    intro zb za zc I1 hP hl k
    simp only [gX2_line_34, t25, true_and, r3, rf_some, hL.1]
    refine c_add hL hP.2.2.2.1 (fun I2 hA => ?_)
    simp only [Option.toList_none, List.nil_append, gX2_line_43]
    refine ⟨by cases zb <;> simp, ?_⟩
    exact k I2 (cP_ad hb hP hA hl)
  simp only [gX2_line_0, t25, true_and]
  refine E I a sz _ hD hs hsa (fun I1 hP => ?_)
  simp only [Option.toList_some, List.cons_append, List.nil_append, gX2_line_5]
  have g := gd_x tp N a ha
  unfold pxL at k
  rcases hz : pxE (sxS tp N) a with ⟨zb, za, zc⟩
  rw [hz] at g hP k
  cases zb with
  | false =>
    rw [if_neg (by simp)] at k
    have := fin false za zc I1 hP (fun q => absurd q (by simp)) (fun I' hp => k I' (cP_no hp))
    simp only [Bool.false_eq_true, if_false, if_true] at this ⊢
    exact this
  | true =>
    obtain ⟨g4, g5, g6, g7⟩ := g.2.2 rfl
    have g5' : zc.length + a ≤ za := g5
    have g2' : za ≤ N := g.2.1
    obtain ⟨f1, f2, f3⟩ := hP.2.2.2.2 rfl
    rw [if_pos rfl] at k
    dsimp only at k
    simp only [if_true, show ¬ (1 : Int32) = 0 by decide, if_false, gX2_line_10, t25, true_and]
    have hD1 : RD I1 N tp b za := RD_cP hb hD hP g2'
    refine c_passes hK hD1 (fun I2 hm2 => ?_)
    simp only [Option.toList_some, List.cons_append, List.nil_append, gX2_line_16]
    by_cases e : sxS tp N za = 63
    · rw [if_pos e] at hm2
      have lt : za < N := sg_lt (P := fun c => c = 63) e (by decide +kernel)
      have hP2 : cP b I I2 sz (true, za + 1, zc) := cP_mv2 hb hP hm2
      simp only [e, if_true, show ¬ (1 : Int32) = 0 by decide, if_false, gX2_line_19, t25, true_and, r3, rf_some, hL.1]
      refine c_add hL hP2.2.2.2.1 (fun I3 hA => ?_)
      have hP3 : cP b I I3 sz (true, za + 1, zc ++ [-63]) := cP_ad hb hP2 hA (fun _ => by show sz + zc.length < 121; omega)
      have hl3 : (zc ++ [(-63 : Int32)]).length = zc.length + 1 := List.length_append
      simp only [Option.toList_none, List.nil_append, gX2_line_28, t25, true_and]
      obtain ⟨q1, q2, q3⟩ := hP3.2.2.2.2 rfl
      refine E I3 (za + 1) (sz + (zc ++ [(-63 : Int32)]).length) _ (RD_cP hb hD hP3 lt) q1 (by rw [hl3]; omega) (fun I4 hP4 => ?_)
      simp only [Option.toList_some, List.cons_append, List.nil_append, gX2_line_33]
      have hcat := cP_cat hb hP3 rfl (mv_r hP3.2.2.1) hP4
      have y := gd_x tp N (za + 1) lt
      have n0 : ¬ zc.length = 0 := bal_ne g7
      rw [if_pos e] at k
      rcases hy : pxE (sxS tp N) (za + 1) with ⟨yb, ya, yc⟩
      rw [hy] at hcat k y
      dsimp only at k hcat
      refine fin yb ya _ I4 hcat (fun q => ?_) (fun I' hp => ?_)
      · obtain ⟨y4, y5, -⟩ := y.2.2 q
        have y5' : yc.length + (za + 1) ≤ ya := y5
        have y2' : ya ≤ N := y.2.1
        rw [List.length_append, hl3]
        omega
      · refine k I' ?_
        unfold flE
        rw [if_neg n0]
        exact hp
    · rw [if_neg e] at hm2 k
      have := fin true za zc I2 (cP_mv2 hb hP hm2) (fun _ => by omega) k
      simp only [e, if_false, if_true] at this ⊢
      exact this
theorem c_lines (hK : RK T R b) (hD : RD I N tp b 0) (hs : I b 2 = nI 0) (k : ∀ I' : tI, cP b I I' 0 ((pxA tp N).1, (pxA tp N).2.1, flS (pxA tp N).2.2) → Q (some (.int (if (pxA tp N).1 = true then 1 else 0))) (T, I', J, R)) : Ex X (d + 46) mX2_lines 0 [.ref 25, rU, rU] [] (T, I, J, R) Q := by
  obtain ⟨t25, r0, t26, r3, hL, hb⟩ := id hK
  have hN : N ≤ 120 := hD.2.1
  have loop : ∀ (m i : Nat) (zb : Bool) (za : Nat) (ls : tLn) (I1 : tI), i + m = 120 → cP b I I1 0 (zb, za, flS ls) → gV N (zb, za, ls) → (∀ I' : tI, cP b I I' 0 ((pxS (sxS tp N) N m (zb, za, ls)).1, (pxS (sxS tp N) N m (zb, za, ls)).2.1, flS (pxS (sxS tp N) N m (zb, za, ls)).2.2) → Q (some (.int (if (pxS (sxS tp N) N m (zb, za, ls)).1 = true then 1 else 0))) (T, I', J, R)) → Ex X (d + 46) mX2_lines 7 [.ref 25, .int (if zb = true then 1 else 0), .int (nI i)] [] (T, I1, J, R) Q := by
    intro m
    induction m with
    | zero =>
      intro i zb za ls I1 hi hP hg k
      have kk := k I1 hP
      have e56 : Ex X (d + 46) mX2_lines 56 [.ref 25, .int (if zb = true then 1 else 0), .int (nI i)] [] (T, I1, J, R) Q := by
        simp only [gX2_lines_56]
        exact ⟨by cases zb <;> simp, kk⟩
      cases zb with
      | false =>
        simp only [Bool.false_eq_true, if_false, if_true, gX2_lines_7] at e56 ⊢
        exact e56
      | true =>
        simp only [if_true] at e56
        simp only [gX2_lines_7, if_true, show ¬ (1 : Int32) = 0 by decide, if_false, gX2_lines_11, t25, true_and, gX2_lines_22, show (120 : Int32) ≤ nI i from nI_le (a := 120) (by omega) (by omega)]
        split <;> exact e56
    | succ m ih =>
      intro i zb za ls I1 hi hP hg k
      rw [pxS] at k
      cases zb with
      | false =>
        rw [if_neg (fun q => absurd q.1 (by simp))] at k
        have kk := k I1 hP
        simp only [gX2_lines_7, Bool.false_eq_true, if_false, if_true, gX2_lines_56, true_or, true_and]
        exact kk
      | true =>
        have h1 : I1 25 1 = nI N := by rw [hP.2.1]; exact hD.1
        have h2 : I1 25 2 = nI za := hP.2.2.1
        have g1 : za ≤ N := hg.1
        simp only [gX2_lines_7, if_true, show ¬ (1 : Int32) = 0 by decide, if_false, gX2_lines_11, t25, true_and, h1, h2]
        by_cases lt : za < N
        · rw [if_pos ⟨rfl, lt⟩] at k
          have hD1 : RD I1 N tp b za := RD_cP hb hD hP g1
          simp only [nI_ge lt (by omega), if_false, gX2_lines_22, show ¬ (120 : Int32) ≤ nI i from nI_ge (b := 120) (by omega) (by decide), gX2_lines_28, t25, true_and]
          refine c_passes hK hD1 (fun I2 hm2 => ?_)
          simp only [Option.toList_some, List.cons_append, List.nil_append, gX2_lines_34]
          by_cases e : sxS tp N za = 59
          · rw [if_pos e] at hm2 k
            have hP2 := cP_mv2 hb hP hm2
            obtain ⟨q1, q2, q3⟩ := hP2.2.2.2.2 rfl
            obtain ⟨v1, v2, v3, v4, v5⟩ := hg.2 rfl
            have v1' : (flS ls).length ≤ za + 1 := v1
            simp only [e, if_true, show ¬ (1 : Int32) = 0 by decide, if_false, gX2_lines_37, t25, true_and]
            refine c_line (d := d) hK I2 (za + 1) (0 + (flS ls).length) _ (RD_cP hb hD hP2 lt) q1 (by omega) (fun I3 hP3 => ?_)
            simp only [Option.toList_some, List.cons_append, List.nil_append, gX2_lines_41]
            have hcat := cP_cat hb hP2 rfl (mv_r hP2.2.2.1) hP3
            have gg := gV_1 (tp := tp) hg lt
            rw [← fl_snoc] at hcat
            have := ih (i + 1) _ _ _ I3 (by omega) hcat gg k
            dsimp only at this
            cases hy : (pxL (sxS tp N) (za + 1)).1 with
            | false =>
              rw [hy] at this
              simp only [Bool.false_eq_true, if_false, if_true, gX2_lines_48, gX2_lines_49, nI_1] at this ⊢
              exact this
            | true =>
              rw [hy] at this
              simp only [if_false, if_true, gX2_lines_44, gX2_lines_49, nI_1, show ¬ (1 : Int32) = 0 by decide] at this ⊢
              exact this
          · rw [if_neg e] at hm2 k
            have kk := k I2 (cP_no (cP_mv2 hb hP hm2))
            simp only [e, if_false, if_true, gX2_lines_48, gX2_lines_49, gX2_lines_7, gX2_lines_56, true_or, true_and]
            exact kk
        · rw [if_neg (fun q => lt q.2)] at k
          have kk := k I1 hP
          simp only [nI_le (show N ≤ za by omega) (by omega), if_true, gX2_lines_56, or_true, true_and]
          exact kk
  simp only [gX2_lines_0, t25, true_and]
  refine c_line (d := d) hK I 0 0 _ hD hs (Nat.le_refl 0) (fun I1 hP1 => ?_)
  simp only [Option.toList_some, List.cons_append, List.nil_append, gX2_lines_4]
  have e1 : flS [(pxL (sxS tp N) 0).2.2] = flE (pxL (sxS tp N) 0).2.2 := List.append_nil _
  exact loop 120 0 _ _ [(pxL (sxS tp N) 0).2.2] I1 rfl (by rw [e1]; exact hP1) gV_0 k
/-- the spare Law cleared, the TAPE read -/
theorem c_read (hK : RK T R b) (h1 : I 25 1 = nI N) (hN : N ≤ 120) (htp : ∀ i, i < N → I 26 i = tp i) (k : ∀ I' : tI, (∀ x, x ≠ 25 → x ≠ b → x ≠ b + 1 → I' x = I x) → (∃ s : Nat, s ≤ 121 ∧ I' b 2 = nI s) → ((pxA tp N).1 = true → I' b 2 = nI (flS (pxA tp N).2.2).length ∧ rwA (I' (b + 1)) 0 (flS (pxA tp N).2.2)) → Q (some (.int (if (pxA tp N).1 = true then -1 else nI (pxA tp N).2.1))) (T, I', J, R)) : Ex X (d + 47) mX2_read 0 [.ref 25] [] (T, I, J, R) Q := by
  obtain ⟨t25, r0, t26, r3, hL, hb⟩ := id hK
  simp only [gX2_read_0, t25, true_and, r3, rf_some, hL.1, gX1_clear_0, Option.toList_none, List.nil_append, gX2_read_7]
  generalize hI1 : va_up (va_up I b (va_up (I b) 2 0)) 25 (va_up (va_up I b (va_up (I b) 2 0) 25) 2 0) = I1
  have f1 : ∀ x, x ≠ 25 → x ≠ b → I1 x = I x := fun x x1 x2 => by rw [← hI1, up_ne _ _ x1, up_ne _ _ x2]
  have s1 : I1 25 1 = nI N := by rw [← hI1, up_self, up_ne _ _ (by decide), up_ne _ _ (by omega)]; exact h1
  have s2 : I1 25 2 = nI 0 := by rw [← hI1, up_self, up_self]; rfl
  have s3 : I1 b 2 = nI 0 := by rw [← hI1, up_ne _ _ (by omega), up_self, up_self]; rfl
  refine c_lines (tp := tp) (d := d) hK ⟨s1, hN, fun i hi => by rw [f1 26 (by decide) (by omega)]; exact htp i hi, s2, by omega, 0, by omega, s3⟩ s3 (fun I2 hP => ?_)
  obtain ⟨p1, p2, p3, p4, p5⟩ := hP
  have kk := k I2 (fun x x1 x2 x3 => by rw [p1 x x1 x2 x3, f1 x x1 x2]) p4 (fun e => by
    obtain ⟨q1, q2, q3⟩ := p5 e
    exact ⟨by rw [q1]; show nI (0 + (flS (pxA tp N).2.2).length) = _; rw [Nat.zero_add], q3⟩)
  simp only [Option.toList_some, List.cons_append, List.nil_append, gX2_read_16]
  cases hz : (pxA tp N).1 with
  | false =>
    rw [hz] at kk
    simp only [Bool.false_eq_true, if_false, if_true, gX2_read_23, gX2_read_27, t25, true_and] at kk ⊢
    have p3' : I2 25 2 = nI (pxA tp N).2.1 := p3
    rw [p3']
    exact kk
  | true =>
    rw [hz] at kk
    simp only [if_false, if_true, gX2_read_19, gX2_read_27, show ¬ (1 : Int32) = 0 by decide] at kk ⊢
    exact kk
end LC
