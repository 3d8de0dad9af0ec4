/-! PURE: the class's reader: O, E, LINE, LINES -/
section R2
variable {X : tX} {T : tT} {I I' I1 I2 I3 I4 : tI} {J : tJ} {R : tR} {Q : tQ} {d b a sz N : Nat} {tp : Nat → Int32} {z y : tZ} {f : Nat → tZ} {c ov : Int32}
theorem c_E (hK : RK T R b) (hf : Gd N f) (h : cM X d T J R N tp b mX2_operand [.ref 25, .int ov, rU, rU] f) : cM X (d + 5) T J R N tp b mX2_either [.ref 25, .int ov, rU, rU] (pzE (sxS tp N) f) := by
  have h1 := c_product hK hf h
  have h2 := c_sum hK (gd_P (t := tp) hf) h1
  have h3 := c_compared hK (gd_S (t := tp) hf) h2
  have h4 := c_both (d := d + 2) hK (gd_B (t := tp) hf) h3
  exact c_either (d := d + 3) hK (gd_A (t := tp) hf) h4
theorem cP_r (hD : RD I N tp b a) (w : Bool) (hs : I b 2 = nI sz) : cP b I I sz (w, a, []) := ⟨fun _ _ _ _ => rfl, rfl, hD.2.2.2.1, hD.2.2.2.2.2, fun _ => ⟨hs, fun _ _ => rfl, trivial⟩⟩
theorem c_operand (hK : RK T R b) : ∀ o, o ≤ 6 → ∀ d, cM X (d + 3 + 6 * o) T J R N tp b mX2_operand [.ref 25, .int (nI (6 - o)), rU, rU] (pzO (sxS tp N) o) := by
  obtain ⟨t25, r0, t26, r3, hL, hb⟩ := id hK
  -- what all depths have in common
  have num : ∀ (o e : Nat) (I : tI) (a sz : Nat) (Q : tQ), RD I N tp b a → I b 2 = nI sz → sz ≤ a → isD (sxS tp N a) = true → (∀ I' : tI, cP b I I' sz (true, (nuS (sxS tp N) 4 a 0).1, [(nuS (sxS tp N) 4 a 0).2]) → Q (some (.int 1)) (T, I', J, R)) → Ex X (e + 2) mX2_operand 0 [.ref 25, .int (nI o), rU, rU] [] (T, I, J, R) Q := by
    intro o e I a sz Q hD hs hsa hd k
    have lt : a < N := sg_lt (P := fun c => isD c = true) hd (by decide +kernel)
    have hN : N ≤ 120 := hD.2.1
    simp only [gX2_operand_0, t25, true_and]
    refine c_next hK hD ?_
    simp only [Option.toList_some, List.cons_append, List.nil_append, gX2_operand_4]
    refine c_isDigit ?_
    simp only [Option.toList_some, List.cons_append, List.nil_append, gX2_operand_9, hd, if_true, show ¬ (1 : Int32) = 0 by decide, if_false, gX2_operand_12, t25, true_and]
    refine c_number hK hD hs (by omega) (fun I1 hP => ?_)
    simp only [Option.toList_none, List.nil_append, gX2_operand_16, or_true, true_and]
    exact k I1 hP
  have nam : ∀ (o e : Nat) (I : tI) (a sz : Nat) (Q : tQ), RD I N tp b a → I b 2 = nI sz → sz ≤ a → ¬ isD (sxS tp N a) = true → isN (sxS tp N a) = true → (∀ I' : tI, cP b I I' sz (true, a + 1, [-(sxS tp N a)]) → Q (some (.int 1)) (T, I', J, R)) → Ex X (e + 2) mX2_operand 0 [.ref 25, .int (nI o), rU, rU] [] (T, I, J, R) Q := by
    intro o e I a sz Q hD hs hsa hd hn k
    have lt : a < N := sg_lt (P := fun c => isN c = true) hn (by decide +kernel)
    have hN : N ≤ 120 := hD.2.1
    have e4 : I 25 2 = nI a := hD.2.2.2.1
    simp only [gX2_operand_0, t25, true_and]
    refine c_next hK hD ?_
    simp only [Option.toList_some, List.cons_append, List.nil_append, gX2_operand_4]
    refine c_isDigit ?_
    simp only [Option.toList_some, List.cons_append, List.nil_append, gX2_operand_9, hd, if_true, if_false, gX2_operand_18, Bool.false_eq_true]
    refine p_isName ?_
    simp only [Option.toList_some, List.cons_append, List.nil_append, gX2_operand_22, hn, if_true, show ¬ (1 : Int32) = 0 by decide, if_false, gX2_operand_25, t25, true_and, e4, nI_1, r3, rf_some, hL.1]
    have hm2 := mv_up e4
    generalize hI2 : va_up I 25 (va_up (I 25) 2 (nI (a + 1))) = I2 at hm2 ⊢
    have hs2 : I2 b 2 = nI sz := by rw [hm2.1 b (by omega)]; exact hs
    refine c_add hL ⟨sz, by omega, hs2⟩ (fun I3 hA => ?_)
    simp only [Option.toList_none, List.nil_append, gX2_operand_44, or_true, true_and]
    have h0 : cP b I I2 sz (true, a + 1, []) := ⟨fun x x1 _ _ => hm2.1 x x1, hm2.2.1, hm2.2.2, ⟨sz, by omega, hs2⟩, fun _ => ⟨hs2, fun i _ => by rw [hm2.1 (b + 1) (by omega)], trivial⟩⟩
    exact k I3 (cP_ad hb h0 hA (fun _ => by show sz + 0 < 121; omega))
  have oth : ∀ (o e : Nat) (I : tI) (a : Nat) (Q : tQ), RD I N tp b a → ¬ isD (sxS tp N a) = true → ¬ isN (sxS tp N a) = true → Ex X (e + 2) mX2_operand 46 [.ref 25, .int (nI o), .int (sxS tp N a), rU] [] (T, I, J, R) Q → Ex X (e + 2) mX2_operand 0 [.ref 25, .int (nI o), rU, rU] [] (T, I, J, R) Q := by
    intro o e I a Q hD hd hn k
    simp only [gX2_operand_0, t25, true_and]
    refine c_next hK hD ?_
    simp only [Option.toList_some, List.cons_append, List.nil_append, gX2_operand_4]
    refine c_isDigit ?_
    simp only [Option.toList_some, List.cons_append, List.nil_append, gX2_operand_9, hd, if_true, if_false, gX2_operand_18, Bool.false_eq_true]
    refine p_isName ?_
    simp only [Option.toList_some, List.cons_append, List.nil_append, gX2_operand_22, hn, if_true, if_false, Bool.false_eq_true]
    exact k
  intro o
  induction o with
  | zero =>
    intro _ d I a sz Q hD hs hsa k
    rw [pzO] at k
    by_cases h1 : isD (sxS tp N a) = true
    · rw [if_pos h1] at k
      exact num 6 (d + 1) I a sz Q hD hs hsa h1 k
    · rw [if_neg h1] at k
      by_cases h2 : isN (sxS tp N a) = true
      · rw [if_pos h2] at k
        exact nam 6 (d + 1) I a sz Q hD hs hsa h1 h2 k
      · rw [if_neg h2] at k
        refine oth 6 (d + 1) I a Q hD h1 h2 ?_
        simp only [gX2_operand_46, show (6 : Int32) ≤ nI 6 by decide, if_true, gX2_operand_70, true_or, true_and]
        exact k I (cP_r hD false hs)
  | succ o ih =>
    intro ho d I a sz Q hD hs hsa k
    have ihO := ih (by omega) d
    have hN : N ≤ 120 := hD.2.1
    have ha : a ≤ N := hD.2.2.2.2.1
    have e4 : I 25 2 = nI a := hD.2.2.2.1
    have eo : nI (6 - (o + 1)) + 1 = nI (6 - o) := by rw [nI_1, show 6 - (o + 1) + 1 = 6 - o by omega]
    rw [show d + 3 + 6 * (o + 1) = d + 3 + 6 * o + 6 by omega]
    rw [pzO] at k
    by_cases h1 : isD (sxS tp N a) = true
    · rw [if_pos h1] at k
      exact num _ (d + 3 + 6 * o + 4) I a sz Q hD hs hsa h1 k
    · rw [if_neg h1] at k
      by_cases h2 : isN (sxS tp N a) = true
      · rw [if_pos h2] at k
        exact nam _ (d + 3 + 6 * o + 4) I a sz Q hD hs hsa h1 h2 k
      · rw [if_neg h2] at k
        refine oth _ (d + 3 + 6 * o + 4) I a Q hD h1 h2 ?_
        have n6 : ¬ (6 : Int32) ≤ nI (6 - (o + 1)) := nI_ge (b := 6) (by omega) (by decide)
        have hm2 := mv_up e4
        have hs2 : ∀ I2 : tI, mvC I I2 (a + 1) → I2 b 2 = nI sz := fun I2 hm2 => by rw [hm2.1 b (by omega)]; exact hs
        simp only [gX2_operand_46, n6, if_false, gX2_operand_52, gX2_operand_58, gX2_operand_64]
        by_cases h3 : sxS tp N a = 40
        · rw [if_pos h3] at k
          have lt : a < N := sg_lt (P := fun c => c = 40) h3 (by decide +kernel)
          simp only [h3, if_true, gX2_operand_72, t25, true_and, e4, nI_1, ne_eq, not_true_eq_false, if_false, gX2_operand_88]
          generalize hI2 : va_up I 25 (va_up (I 25) 2 (nI (a + 1))) = I2 at hm2 ⊢
          rw [show 6 - (o + 1) + 1 = 6 - o by omega]
          have hD2 := RD_mv' hb hD hm2 (by omega)
          have gE := gd_E (t := tp) (gd_O (t := tp) o) (a + 1) lt
          refine c_E hK (gd_O o) ihO I2 (a + 1) sz _ hD2 (hs2 I2 hm2) (by omega) (fun I3 hP3 => ?_)
          simp only [Option.toList_some, List.cons_append, List.nil_append, gX2_operand_95]
          have base : cP b I I2 sz (true, a + 1, []) := ⟨fun x x1 _ _ => hm2.1 x x1, hm2.2.1, hm2.2.2, ⟨sz, by omega, hs2 I2 hm2⟩, fun _ => ⟨hs2 I2 hm2, fun i _ => by rw [hm2.1 (b + 1) (by omega)], trivial⟩⟩
          rcases hz : pzE (sxS tp N) (pzO (sxS tp N) o) (a + 1) with ⟨zb, za, zc⟩
          rw [hz] at hP3 k gE
          have hP : cP b I I3 sz (zb, za, zc) := cP_cat hb base rfl (mv_r hm2.2.2) hP3
          unfold pzR at k
          cases zb with
          | false =>
            rw [if_neg (fun q => absurd q.1 (by simp))] at k
            simp only [Bool.false_eq_true, if_false, if_true, gX2_operand_111, gX2_operand_112, true_or, true_and]
            obtain ⟨p1, p2, p3, p4, p5⟩ := hP
            exact k I3 ⟨p1, p2, p3, p4, fun q => absurd q (by simp)⟩
          | true =>
            simp only [if_true, show ¬ (1 : Int32) = 0 by decide, if_false, gX2_operand_98, t25, true_and]
            have hD3 : RD I3 N tp b za := RD_cP hb hD hP gE.2.1
            refine c_passes hK hD3 (fun I4 hm4 => ?_)
            simp only [Option.toList_some, List.cons_append, List.nil_append, gX2_operand_104]
            by_cases e : sxS tp N za = 41
            · rw [if_pos ⟨rfl, e⟩] at k
              rw [if_pos e] at hm4
              simp only [e, if_true, show ¬ (1 : Int32) = 0 by decide, if_false, gX2_operand_107, gX2_operand_112, or_true, true_and]
              obtain ⟨p1, p2, p3, p4, p5⟩ := hP
              obtain ⟨m1, m2, m3⟩ := hm4
              refine k I4 ⟨fun x x1 x2 x3 => by rw [m1 x x1]; exact p1 x x1 x2 x3, by rw [m2]; exact p2, m3, by rw [m1 b (by omega)]; exact p4, fun _ => ?_⟩
              rw [m1 b (by omega), m1 (b + 1) (by omega)]
              exact p5 rfl
            · rw [if_neg (fun q => e q.2)] at k
              rw [if_neg e] at hm4
              simp only [e, if_false, if_true, gX2_operand_111, gX2_operand_112, true_or, true_and]
              obtain ⟨p1, p2, p3, p4, p5⟩ := hP
              obtain ⟨m1, m2, m3⟩ := hm4
              exact k I4 ⟨fun x x1 x2 x3 => by rw [m1 x x1]; exact p1 x x1 x2 x3, by rw [m2]; exact p2, m3, by rw [m1 b (by omega)]; exact p4, fun q => absurd q (by simp)⟩
        · rw [if_neg h3] at k
          by_cases h4 : sxS tp N a = 33 ∨ sxS tp N a = 45
          · rw [if_pos h4] at k
            have lt : a < N := sg_lt (P := fun c => c = 33 ∨ c = 45) h4 (by decide +kernel)
            have at72 : Ex X (d + 3 + 6 * o + 4 + 2) mX2_operand 72 [.ref 25, .int (nI (6 - (o + 1))), .int (sxS tp N a), rU] [] (T, I, J, R) Q := by
              simp only [gX2_operand_72, t25, true_and, e4, nI_1, ne_eq, h3, not_false_eq_true, if_true, gX2_operand_113]
              generalize hI2 : va_up I 25 (va_up (I 25) 2 (nI (a + 1))) = I2 at hm2 ⊢
              rw [show 6 - (o + 1) + 1 = 6 - o by omega]
              have hD2 := RD_mv' hb hD hm2 (by omega)
              have gO := gd_O (t := tp) o (a + 1) lt
              have up : cM X (d + 3 + 6 * o + 5) T J R N tp b mX2_operand [.ref 25, .int (nI (6 - o)), rU, rU] (pzO (sxS tp N) o) := by
                have := ih (by omega) (d + 5)
                rw [show d + 5 + 3 + 6 * o = d + 3 + 6 * o + 5 by omega] at this
                exact this
              refine up I2 (a + 1) sz _ hD2 (hs2 I2 hm2) (by omega) (fun I3 hP3 => ?_)
              have base : cP b I I2 sz (true, a + 1, []) := ⟨fun x x1 _ _ => hm2.1 x x1, hm2.2.1, hm2.2.2, ⟨sz, by omega, hs2 I2 hm2⟩, fun _ => ⟨hs2 I2 hm2, fun i _ => by rw [hm2.1 (b + 1) (by omega)], trivial⟩⟩
              have hP := cP_cat hb base rfl (mv_r hm2.2.2) hP3
              have fin : ∀ cc : Int32, cc = (if sxS tp N a = 45 then -126 else -33) → Ex X (d + 3 + 6 * o + 4 + 2) mX2_operand 138 [.ref 25, .int (nI (6 - (o + 1))), .int (sxS tp N a), .int (if (pzO (sxS tp N) o (a + 1)).1 = true then 1 else 0)] [.int cc, .ref b] (T, I3, J, R) Q := by
                intro cc hcc
                simp only [gX2_operand_138, hL.1, true_and]
                refine c_add hL hP3.2.2.2.1 (fun I4 hA => ?_)
                simp only [Option.toList_none, List.nil_append, gX2_operand_141]
                have hP4 := cP_ad hb hP hA (fun q => by
                  obtain ⟨y4, y5, -⟩ := gO.2.2 q
                  show sz + ([] ++ (pzO (sxS tp N) o (a + 1)).2.2).length < 121
                  rw [List.nil_append]
                  have := gO.2.1
                  omega)
                refine ⟨by cases (pzO (sxS tp N) o (a + 1)).1 <;> simp, ?_⟩
                refine k I4 ?_
                unfold pzN
                rw [← hcc]
                exact hP4
              simp only [Option.toList_some, List.cons_append, List.nil_append, gX2_operand_120, t25, true_and, r3, rf_some, ne_eq]
              by_cases e5 : sxS tp N a = 45
              · simp only [e5, not_true_eq_false, if_false, gX2_operand_131]
                have := fin (-126) (by rw [if_pos e5])
                rw [e5] at this
                exact this
              · simp only [e5, not_false_eq_true, if_true, gX2_operand_136]
                exact fin (-33) (by rw [if_neg e5])
            rcases h4 with e | e
            · rw [e] at at72
              simp only [e, show ¬ (33 : Int32) = 40 by decide, if_true, if_false]
              exact at72
            · rw [e] at at72
              simp only [e, show ¬ (45 : Int32) = 40 by decide, show ¬ (45 : Int32) = 33 by decide, if_true, if_false]
              exact at72
          · rw [if_neg h4] at k
            have n1 : ¬ sxS tp N a = 33 := fun q => h4 (Or.inl q)
            have n2 : ¬ sxS tp N a = 45 := fun q => h4 (Or.inr q)
            simp only [h3, n1, n2, if_false, gX2_operand_70, true_or, true_and]
            exact k I (cP_r hD false hs)
end R2
