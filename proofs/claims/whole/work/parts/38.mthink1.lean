/-! PURE: the reference thinks: river, over, signs, ring -/
section M1
variable {X : tX} {T : tT} {I I' : tI} {J : tJ} {R : tR} {Q : tQ} {d a b c p n t D : Nat} {σ : rS} {l : tL} {r q : Nat → Nat → Int32}
theorem m_river {D w : Int32} (h : MS T I R n l r) (k : ∀ I' : tI, frM I I' → MS T I' R n l r → Q (some (.int (riverS n l r D w))) (T, I', J, R)) : Ex X (d + 6) mX7_river 0 [.ref 54, .int D, .int w, rU] [] (T, I, J, R) Q := by
  have h8 := MS_8 h
  have hm := h.1
  have t0 := mt_54 hm
  have bad : ∀ c : ¬ (inB D 0 60 = true ∧ inB w 0 1 = true), Ex X (d + 6) mX7_river 16 [.ref 54, .int D, .int w, rU] [] (T, I, J, R) Q := by
    intro c
    simp only [gX7_river_16]
    have := k I (frM_r I) h
    rw [riverS, if_neg c] at this
    exact this
  simp only [gX7_river_0]
  refine s_isTime ?_
  simp only [Option.toList_some, List.cons_append, List.nil_append, gX7_river_4, if10]
  cases g1 : inB D 0 60 with
  | false =>
    simp only [if_true]
    exact bad (by rw [g1]; simp)
  | true =>
  simp only [reduceCtorEq, if_false, gX7_river_7]
  refine s_within ?_
  simp only [Option.toList_some, List.cons_append, List.nil_append, gX7_river_13, ne_eq, if10]
  cases g2 : inB w 0 1 with
  | false =>
    simp only [not_true_eq_false, if_false]
    exact bad (by rw [g2]; simp)
  | true =>
  simp only [reduceCtorEq, not_false_eq_true, if_true]
  obtain ⟨d1, d2⟩ := of_decide_eq_true g1
  obtain ⟨D, hD, rfl⟩ := nI_of2 (x := D) (M := 60) (n := 60) (by decide) d1 (Int32.not_lt.mp d2)
  rw [riverS, if_pos ⟨g1, g2⟩, nI_clamp (show D < 2 ^ 31 by omega)] at k
  simp only [gX7_river_18, t0, true_and, mr_38 hm, rf_some]
  refine s_keeps h (mt_79 hm) (by decide) (fun I1 hf1 hK1 => ?_)
  have hM1 := MS_k h hf1 (by decide)
  simp only [Option.toList_none, List.nil_append, gX7_river_26, t0, true_and]
  refine s_goesOn hM1 (by omega) (fun I2 hf2 hM2 => ?_)
  have hK2 := Kp_p hK1 (Or.inl rfl) hf2
  have f2 := frM_t (frM_k hf1 (Or.inl rfl)) (frM_p hf2)
  have fin : ∀ (v : Int32), (∀ I' : tI, frM I I' → MS T I' R n l r → Q (some (.int v)) (T, I', J, R)) → Ex X (d + 6) mX7_river 46 [.ref 54, .int (nI D), .int w, rU] [.int v] (T, I2, J, R) Q := by
    intro v k
    simp only [gX7_river_46, t0, true_and, mr_38 hm, rf_some]
    refine s_laysBack hM2 hK2 (sB_it _ (sB_r n r)) (MS_can h) (MS_ok h) (mt_79 hm) (by decide) (fun I4 hf4 hM4 => ?_)
    simp only [Option.toList_none, List.nil_append, gX7_river_57]
    exact k I4 (frM_t f2 (frM_b hf4)) hM4
  simp only [Option.toList_none, List.nil_append, gX7_river_31]
  by_cases g : w = 0
  · simp only [g, ne_eq, not_true_eq_false, if_true, if_false, gX7_river_35, t0, true_and] at k ⊢
    refine s_over hM2 ?_
    simp only [Option.toList_some, List.cons_append, List.nil_append, gX7_river_39]
    rw [g] at fin
    exact fin _ k
  · simp only [g, ne_eq, not_false_eq_true, if_true, if_false, gX7_river_42, t0, true_and] at k ⊢
    refine s_allLevel hM2 ?_
    simp only [Option.toList_some, List.cons_append, List.nil_append]
    exact fin _ k
theorem m_over {v : Int32} (h : MS T I R n l r) (k : ∀ I' : tI, frM I I' → MS T I' R n l r → Q (some (.int (overS n l r v))) (T, I', J, R)) : Ex X (d + 6) mX7_over_ 0 [.ref 54, .int v, rU, rU] [] (T, I, J, R) Q := by
  have h8 := MS_8 h
  have hm := h.1
  have t0 := mt_54 hm
  have fin : ∀ (v' i : Int32) (I3 : tI) (q : Nat → Nat → Int32), frM I I3 → MS T I3 R n l q → sB n q r → Kp I3 79 n r → (∀ I' : tI, frM I I' → MS T I' R n l r → Q (some (.int v')) (T, I', J, R)) → Ex X (d + 6) mX7_over_ 89 [.ref 54, .int v, .int v', .int i] [] (T, I3, J, R) Q := by
    intro v' i I3 q hf3 hM3 hs3 hK3 k
    simp only [gX7_over__89, t0, true_and, mr_38 hm, rf_some]
    refine s_laysBack hM3 hK3 hs3 (MS_can h) (MS_ok h) (mt_79 hm) (by decide) (fun I4 hf4 hM4 => ?_)
    simp only [Option.toList_none, List.nil_append, gX7_over__99]
    exact k I4 (frM_t hf3 (frM_b hf4)) hM4
  -- a day's look: from 48 on, found is NOT
  have look : ∀ (m i : Nat), i + m = 60 → (v = -1 ∨ isR n v = true) →
      (∀ (I1 : tI) (q : Nat → Nat → Int32), frM I I1 → MS T I1 R n l q → sB n q r → Kp I1 79 n r → (∀ I' : tI, frM I I' → MS T I' R n l r → Q (some (.int (fstS (ovF n v) l n m (i + 1) (dayS l n q)))) (T, I', J, R)) → Ex X (d + 6) mX7_over_ 28 [.ref 54, .int v, .int (-2), .int (nI (i + 1))] [] (T, I1, J, R) Q) →
      ∀ (I1 : tI) (q : Nat → Nat → Int32), frM I I1 → MS T I1 R n l q → sB n q r → Kp I1 79 n r → (∀ I' : tI, frM I I' → MS T I' R n l r → Q (some (.int (fstS (ovF n v) l n (m + 1) i q))) (T, I', J, R)) → Ex X (d + 6) mX7_over_ 48 [.ref 54, .int v, .int (-2), .int (nI i)] [] (T, I1, J, R) Q := by
    intro m i hi hv next I1 q hf1 hM1 hs1 hK1 k
    have gone : ∀ (v' : Int32), ¬ v' = -2 → (∀ I' : tI, frM I I' → MS T I' R n l r → Q (some (.int v')) (T, I', J, R)) → Ex X (d + 6) mX7_over_ 83 [.ref 54, .int v, .int v', .int (nI i)] [] (T, I1, J, R) Q := by
      intro v' hv' k
      simp only [gX7_over__83, nI_1]
      simp only [gX7_over__28]
      by_cases g : (60 : Int32) < nI (i + 1)
      · simp only [g, if_true]
        exact fin v' _ I1 q hf1 hM1 hs1 hK1 k
      · simp only [g, if_false, gX7_over__34, ne_eq, hv', not_false_eq_true, if_true]
        exact fin v' _ I1 q hf1 hM1 hs1 hK1 k
    have stay : (∀ I' : tI, frM I I' → MS T I' R n l r → Q (some (.int (fstS (ovF n v) l n m (i + 1) (dayS l n q)))) (T, I', J, R)) → Ex X (d + 6) mX7_over_ 83 [.ref 54, .int v, .int (-2), .int (nI i)] [] (T, I1, J, R) Q := by
      intro k
      simp only [gX7_over__83, nI_1]
      exact next I1 q hf1 hM1 hs1 hK1 k
    rw [fstS] at k
    simp only [gX7_over__48]
    by_cases g : v = -1
    · simp only [ovF, g, if_true] at k
      simp only [g, ne_eq, not_true_eq_false, if_false, gX7_over__53, t0, true_and]
      refine s_over hM1 ?_
      simp only [Option.toList_some, List.cons_append, List.nil_append, gX7_over__57]
      rw [g] at stay gone
      by_cases g2 : ovS n q n = 0
      · simp only [g2, if_true] at k ⊢
        simp only [gX7_over__68, if_true]
        exact stay k
      · simp only [g2, if_false] at k ⊢
        simp only [gX7_over__60, t0, true_and]
        refine s_over hM1 ?_
        simp only [Option.toList_some, List.cons_append, List.nil_append, gX7_over__64]
        refine j_trailing ?_
        simp only [Option.toList_some, List.cons_append, List.nil_append, gX7_over__67, gX7_over__68, if_true]
        obtain ⟨z, hz, he⟩ := ov_256 n q n h8
        exact gone _ (by rw [he]; exact tz_ne2 ⟨z, hz⟩) k
    · simp only [ovF, g, if_false] at k
      simp only [g, ne_eq, not_false_eq_true, if_true, gX7_over__68, if_false, gX7_over__73, t0, true_and]
      obtain ⟨p, hp, rfl⟩ := isR_t (hv.resolve_left g) h8
      rw [nI_clamp (show p < 2 ^ 31 by omega)] at k
      refine s_isOver hM1 hp ?_
      simp only [Option.toList_some, List.cons_append, List.nil_append, gX7_over__78]
      by_cases g2 : q 0 p < q 1 p
      · simp only [g2, if_true] at k ⊢
        exact stay k
      · simp only [g2, if_false, show ¬ (1 : Int32) = 0 by decide, gX7_over__81] at k ⊢
        refine gone _ (fun z => ?_) k
        have := nI_pos (show i < 2 ^ 31 by omega)
        rw [z] at this
        exact this (by decide)
  have loop : (v = -1 ∨ isR n v = true) → ∀ (m i : Nat) (I1 : tI) (q : Nat → Nat → Int32), i + 1 + m = 61 → frM I I1 → MS T I1 R n l q → sB n q r → Kp I1 79 n r → (∀ I' : tI, frM I I' → MS T I' R n l r → Q (some (.int (fstS (ovF n v) l n m (i + 1) (dayS l n q)))) (T, I', J, R)) → Ex X (d + 6) mX7_over_ 28 [.ref 54, .int v, .int (-2), .int (nI (i + 1))] [] (T, I1, J, R) Q := by
    intro hv m
    induction m with
    | zero =>
      intro i I1 q hi hf1 hM1 hs1 hK1 k
      obtain rfl : i = 60 := by omega
      simp only [gX7_over__28, show (60 : Int32) < nI (60 + 1) by decide, if_true]
      exact fin _ _ I1 q hf1 hM1 hs1 hK1 k
    | succ m ih =>
      intro i I1 q hi hf1 hM1 hs1 hK1 k
      simp only [gX7_over__28, show ¬ (60 : Int32) < nI (i + 1) from nI_nlt (a := 60) (b := i + 1) (by omega) (by decide), if_false]
      simp only [gX7_over__34, ne_eq, not_true_eq_false, if_false, gX7_over__40, nI_nle (show 0 < i + 1 by omega) (by omega), gX7_over__44, t0, true_and]
      refine s_passes hM1 (fun I2 hf2 hM2 => ?_)
      simp only [Option.toList_none, List.nil_append]
      exact look m (i + 1) (by omega) hv (fun I3 q3 a1 a2 a3 a4 a5 => ih (i + 1) I3 q3 (by omega) a1 a2 a3 a4 a5) I2 _ (frM_t hf1 (frM_p hf2)) hM2 (sB_day hs1) (Kp_p hK1 (Or.inl rfl) hf2) k
  have go : (v = -1 ∨ isR n v = true) → Ex X (d + 6) mX7_over_ 15 [.ref 54, .int v, rU, rU] [] (T, I, J, R) Q := by
    intro hv
    rw [overS, if_pos hv] at k
    simp only [gX7_over__15, t0, true_and, mr_38 hm, rf_some]
    refine s_keeps h (mt_79 hm) (by decide) (fun I1 hf1 hK1 => ?_)
    have hM1 := MS_k h hf1 (by decide)
    simp only [Option.toList_none, List.nil_append, gX7_over__23]
    simp only [gX7_over__28, show ¬ (60 : Int32) < 0 by decide, if_false]
    simp only [gX7_over__34, ne_eq, not_true_eq_false, if_false, gX7_over__40, show (0 : Int32) ≤ 0 by decide, if_true]
    exact look 60 0 (by omega) hv (fun I3 q3 a1 a2 a3 a4 a5 => loop hv 60 0 I3 q3 (by omega) a1 a2 a3 a4 a5) I1 r (frM_k hf1 (Or.inl rfl)) hM1 (sB_r n r) hK1 k
  simp only [gX7_over__0]
  by_cases g : v = -1
  · have := go (Or.inl g)
    rw [g] at this
    simp only [g, if_true]
    exact this
  · simp only [g, if_false, gX7_over__5, t0, true_and]
    refine s_isOne h ?_
    simp only [Option.toList_some, List.cons_append, List.nil_append, gX7_over__10, ne_eq, if10]
    cases g2 : isR n v with
    | false =>
      simp only [not_true_eq_false, if_false, gX7_over__13]
      have := k I (frM_r I) h
      rw [overS, if_neg (by simp [g, g2])] at this
      exact this
    | true =>
      simp only [reduceCtorEq, not_false_eq_true, if_true]
      exact go (Or.inr g2)
theorem m_signs {D p w : Int32} (h : MS T I R n l r) (k : ∀ I' : tI, frM I I' → MS T I' R n l r → Q (some (.int (signsS n l r D p w))) (T, I', J, R)) : Ex X (d + 6) mX7_signs 0 [.ref 54, .int D, .int p, .int w, rU, rU, rU, rU, rU] [] (T, I, J, R) Q := by
  have h8 := MS_8 h
  have hm := h.1
  have t0 := mt_54 hm
  have bad : ∀ c : ¬ (inB D 0 60 = true ∧ isR n p = true ∧ inB w 0 2 = true), Ex X (d + 6) mX7_signs 24 [.ref 54, .int D, .int p, .int w, rU, rU, rU, rU, rU] [] (T, I, J, R) Q := by
    intro c
    simp only [gX7_signs_24]
    have := k I (frM_r I) h
    rw [signsS, if_neg c] at this
    exact this
  simp only [gX7_signs_0]
  refine s_isTime ?_
  simp only [Option.toList_some, List.cons_append, List.nil_append, gX7_signs_4, if10]
  cases g1 : inB D 0 60 with
  | false =>
    simp only [if_true]
    exact bad (by rw [g1]; simp)
  | true =>
  simp only [reduceCtorEq, if_false, gX7_signs_7, t0, true_and]
  refine s_isOne h ?_
  simp only [Option.toList_some, List.cons_append, List.nil_append, gX7_signs_12, if10]
  cases g : isR n p with
  | false =>
    simp only [if_true]
    exact bad (by rw [g]; simp)
  | true =>
  simp only [reduceCtorEq, if_false, gX7_signs_15]
  refine s_within ?_
  simp only [Option.toList_some, List.cons_append, List.nil_append, gX7_signs_21, ne_eq, if10]
  cases g2 : inB w 0 2 with
  | false =>
    simp only [not_true_eq_false, if_false]
    exact bad (by rw [g2]; simp)
  | true =>
  simp only [reduceCtorEq, not_false_eq_true, if_true]
  obtain ⟨d1, d2⟩ := of_decide_eq_true g1
  obtain ⟨p, hp, rfl⟩ := isR_t g h8
  obtain ⟨D, hD, rfl⟩ := nI_of2 (x := D) (M := 60) (n := 60) (by decide) d1 (Int32.not_lt.mp d2)
  rw [signsS, if_pos ⟨g1, g, g2⟩, nI_clamp (show D < 2 ^ 31 by omega), nI_clamp (show p < 2 ^ 31 by omega)] at k
  have loop : ∀ (m i : Nat) (I1 : tI) (q : Nat → Nat → Int32) (a4 a5 a6 : Int32) (v8 : Value), i + m = D → frM I I1 → MS T I1 R n l q → sB n q r → Kp I1 79 n r → (∀ I' : tI, frM I I' → MS T I' R n l r → Q (some (.int (if w = 2 then runS l n p m q a5 a6 else cntS l n p (w + 1) m q a4))) (T, I', J, R)) →
      Ex X (d + 6) mX7_signs 46 [.ref 54, .int (nI D), .int (nI p), .int w, .int a4, .int a5, .int a6, .int (nI i), v8] [] (T, I1, J, R) Q := by
    intro m
    induction m with
    | zero =>
      intro i I1 q a4 a5 a6 v8 hi hf1 hM1 hs1 hK1 k
      simp only [gX7_signs_46, nI_le (show D ≤ i by omega) (by omega), if_true, gX7_signs_101, t0, true_and, mr_38 hm, rf_some]
      refine s_laysBack hM1 hK1 hs1 (MS_can h) (MS_ok h) (mt_79 hm) (by decide) (fun I4 hf4 hM4 => ?_)
      have := k I4 (frM_t hf1 (frM_b hf4)) hM4
      rw [runS, cntS] at this
      simp only [Option.toList_none, List.nil_append, gX7_signs_111, ne_eq]
      by_cases e : w = 2
      · simp only [e, not_true_eq_false, if_false, if_true, gX7_signs_116, gX7_signs_123] at this ⊢
        exact this
      · simp only [e, not_false_eq_true, if_false, if_true, gX7_signs_121, gX7_signs_123] at this ⊢
        exact this
    | succ m ih =>
      intro i I1 q a4 a5 a6 v8 hi hf1 hM1 hs1 hK1 k
      simp only [gX7_signs_46, nI_ge (show i < D by omega) (by omega), if_false]
      simp only [gX7_signs_52, t0, true_and]
      refine s_signOf hM1 hp (fun I2 hf2 hM2 => ?_)
      rw [runS, cntS] at k
      have f2 := frM_t hf1 (frM_p hf2)
      have hK2 := Kp_p hK1 (Or.inl rfl) hf2
      generalize sgS q (dayS l n q) p = s at k ⊢
      simp only [Option.toList_some, List.cons_append, List.nil_append, gX7_signs_57, ne_eq]
      have rest : ∀ a4' : Int32, a4' = (if s = w + 1 then a4 + 1 else a4) → Ex X (d + 6) mX7_signs 70 [.ref 54, .int (nI D), .int (nI p), .int w, .int a4', .int a5, .int a6, .int (nI i), .int s] [] (T, I2, J, R) Q := by
        intro a4' he
        rw [← he] at k
        simp only [gX7_signs_70, ne_eq]
        by_cases s1 : s = 1
        · simp only [s1, not_true_eq_false, if_false, if_true, gX7_signs_76, gX7_signs_84, nI_1] at k ⊢
          exact ih (i + 1) I2 _ _ _ _ _ (by omega) f2 hM2 (sB_day hs1) hK2 k
        · simp only [s1, not_false_eq_true, if_false, if_true, gX7_signs_83, gX7_signs_84, nI_1] at k ⊢
          exact ih (i + 1) I2 _ _ _ _ _ (by omega) f2 hM2 (sB_day hs1) hK2 k
      by_cases e : s = w + 1
      · simp only [e, not_true_eq_false, if_false, gX7_signs_67]
        rw [e] at rest
        exact rest _ (by rw [if_pos rfl])
      · simp only [e, not_false_eq_true, if_true]
        exact rest _ (by rw [if_neg e])
  simp only [gX7_signs_26, t0, true_and, mr_38 hm, rf_some]
  refine s_keeps h (mt_79 hm) (by decide) (fun I1 hf1 hK1 => ?_)
  have hM1 := MS_k h hf1 (by decide)
  simp only [Option.toList_none, List.nil_append, gX7_signs_34]
  exact loop D 0 I1 r 0 0 0 rU (by omega) (frM_k hf1 (Or.inl rfl)) hM1 (sB_r n r) hK1 k
theorem s_goesFrom (h : MS T I R n l r) (hp : p < n) (k : ∀ I' : tI, (∀ x, x ≠ 67 → x ≠ 68 → I' x = I x) → MS T I' R n l r → Q (some (.int (goS l n r p))) (T, I', J, R)) : Ex X (d + 3) mX7_goesFrom 0 [.ref 54, .int (nI p), rU] [] (T, I, J, R) Q := by
  have h' := h
  obtain ⟨hm, hok, hn, h8, hl, hr, hk, t, h7, h5⟩ := h
  refine q_goesFrom hm hok hn h8 hp (by rw [MS_lv h' hp]; exact (hk p hp).1) (by rw [← hr, can_5 (by decide)] at h5; exact h5) h7 (fun I' hf => ?_)
  rw [hl, hr]
  exact k I' hf (MS_fr h' (fun x hx => hf x (by omega) (by omega)))
theorem m_ring {p D : Int32} (h : MS T I R n l r) (k : ∀ I' : tI, frM I I' → MS T I' R n l r → Q (some (.int (ringS n l r p D))) (T, I', J, R)) : Ex X (d + 6) mX7_ring 0 [.ref 54, .int p, .int D, rU, rU, rU, rU, rU] [] (T, I, J, R) Q := by
  have h8 := MS_8 h
  have hm := h.1
  have t0 := mt_54 hm
  have hn : I 54 0 = nI n := h.2.2.1
  have bad : ∀ c : ¬ (isR n p = true ∧ inB D (-1) 60 = true), Ex X (d + 6) mX7_ring 18 [.ref 54, .int p, .int D, rU, rU, rU, rU, rU] [] (T, I, J, R) Q := by
    intro c
    simp only [gX7_ring_18]
    have := k I (frM_r I) h
    rw [ringS, if_neg c] at this
    exact this
  simp only [gX7_ring_0, t0, true_and]
  refine s_isOne h ?_
  simp only [Option.toList_some, List.cons_append, List.nil_append, gX7_ring_5, if10]
  cases g : isR n p with
  | false =>
    simp only [if_true]
    exact bad (by rw [g]; simp)
  | true =>
  simp only [reduceCtorEq, if_false, gX7_ring_8]
  refine s_within ?_
  simp only [Option.toList_some, List.cons_append, List.nil_append, gX7_ring_15, ne_eq, if10]
  cases g2 : inB D (-1) 60 with
  | false =>
    simp only [not_true_eq_false, if_false]
    exact bad (by rw [g2]; simp)
  | true =>
  simp only [reduceCtorEq, not_false_eq_true, if_true]
  obtain ⟨w1, w2⟩ := of_decide_eq_true g2
  obtain ⟨p, hp, rfl⟩ := isR_t g h8
  rw [ringS, if_pos ⟨g, g2⟩, nI_clamp (show p < 2 ^ 31 by omega)] at k
  simp only [gX7_ring_20, t0, true_and, mr_38 hm, rf_some]
  refine s_keeps h (mt_79 hm) (by decide) (fun I1 hf1 hK1 => ?_)
  have hM1 := MS_k h hf1 (by decide)
  have f1 := frM_k hf1 (Or.inl rfl)
  have fin : ∀ (as : Bool) (A i : Int32) (v7 : Value) (gn : Int32) (p' : Nat) (I3 : tI) (q : Nat → Nat → Int32), as = decide (D = -1) → frM I I3 → MS T I3 R n l q → sB n q r → Kp I3 79 n r → (∀ I' : tI, frM I I' → MS T I' R n l r → Q (some (.int (if as = true then gn else if gn = -2 then nI p' else 8))) (T, I', J, R)) → Ex X (d + 6) mX7_ring 113 [.ref 54, .int (nI p), .int D, .int (nI p'), .int gn, .int A, .int i, v7] [] (T, I3, J, R) Q := by
    intro as A i v7 gn p' I3 q has hf3 hM3 hs3 hK3 k
    simp only [gX7_ring_113, t0, true_and, mr_38 hm, rf_some]
    refine s_laysBack hM3 hK3 hs3 (MS_can h) (MS_ok h) (mt_79 hm) (by decide) (fun I4 hf4 hM4 => ?_)
    have := k I4 (frM_t hf3 (frM_b hf4)) hM4
    simp only [Option.toList_none, List.nil_append, gX7_ring_123, ne_eq]
    rw [has] at this
    by_cases e : D = -1
    · simp only [e, not_true_eq_false, if_false, gX7_ring_128, gX7_ring_146, decide_true, if_true] at this ⊢
      exact this
    · simp only [e, not_false_eq_true, if_true, gX7_ring_133, decide_false, Bool.false_eq_true, if_false, ne_eq] at this ⊢
      by_cases e2 : gn = -2
      · simp only [e2, not_true_eq_false, if_false, if_true, gX7_ring_140, gX7_ring_146] at this ⊢
        exact this
      · simp only [e2, not_false_eq_true, if_false, if_true, gX7_ring_144, gX7_ring_146] at this ⊢
        exact this
  have loop : ∀ (as : Bool) (A : Nat), as = decide (D = -1) → A ≤ 60 → ∀ (m i p' : Nat) (I1 : tI) (q : Nat → Nat → Int32) (v7 : Value), 1 ≤ i → i + m = A + 1 → p' < n → frM I I1 → MS T I1 R n l q → sB n q r → Kp I1 79 n r → (∀ I' : tI, frM I I' → MS T I' R n l r → Q (some (.int (rngS l n as m i p' q))) (T, I', J, R)) →
      Ex X (d + 6) mX7_ring 50 [.ref 54, .int (nI p), .int D, .int (nI p'), .int (-2), .int (nI A), .int (nI i), v7] [] (T, I1, J, R) Q := by
    intro as A has hA m
    induction m with
    | zero =>
      intro i p' I1 q v7 hi1 hi hp' hf1 hM1 hs1 hK1 k
      simp only [gX7_ring_50, nI_lt (show A < i by omega) (by omega), if_true]
      exact fin as _ _ _ _ p' I1 q has hf1 hM1 hs1 hK1 (by rw [rngS] at k; simpa using k)
    | succ m ih =>
      intro i p' I1 q v7 hi1 hi hp' hf1 hM1 hs1 hK1 k
      simp only [gX7_ring_50, show ¬ nI A < nI i from nI_nlt (show i ≤ A by omega) (by omega), if_false]
      simp only [gX7_ring_57, ne_eq, not_true_eq_false, if_false, gX7_ring_64, t0, true_and]
      refine s_goesFrom hM1 hp' (fun I2 hf2 hM2 => ?_)
      simp only [Option.toList_some, List.cons_append, List.nil_append, gX7_ring_69]
      rw [rngS] at k
      have f2 : frM I I2 := fun x hx => (hf2 x (by omega) (by omega)).trans (hf1 x hx)
      have hK2 := Kp_fr hK1 (hf2 79 (by decide) (by decide))
      by_cases g5 : goS l n q p' < 5
      · simp only [g5, if_true, gX7_ring_77, gX7_ring_78, t0, true_and] at k ⊢
        refine s_passes hM2 (fun I3 hf3 hM3 => ?_)
        rw [if_neg (show ¬ n ≤ p' by omega)] at k
        simp only [Option.toList_none, List.nil_append, gX7_ring_84, ne_eq, not_true_eq_false, if_false, gX7_ring_89, gX7_ring_107, nI_1]
        exact ih (i + 1) p' I3 _ _ (by omega) (by omega) hp' (frM_t f2 (frM_p hf3)) hM3 (sB_day hs1) (Kp_p hK2 (Or.inl rfl) hf3) k
      · simp only [g5, if_false, gX7_ring_73, gX7_ring_78, t0, true_and] at k ⊢
        refine s_passes hM2 (fun I3 hf3 hM3 => ?_)
        have f3 := frM_t f2 (frM_p hf3)
        have hK3 := Kp_p hK2 (Or.inl rfl) hf3
        simp only [Option.toList_none, List.nil_append, gX7_ring_84, ne_eq, show ¬ (1 : Int32) = 0 by decide, not_false_eq_true, if_true, gX7_ring_92, nI_1, t0, true_and, hM3.2.2.1]
        by_cases g6 : p' + 1 = n
        · rw [if_pos (by omega)] at k
          simp only [g6, not_true_eq_false, if_false, gX7_ring_103, gX7_ring_107, nI_1]
          have ne2 : ¬ nI i = -2 := fun z => by
            have := nI_pos (show i < 2 ^ 31 by omega)
            rw [z] at this
            exact this (by decide)
          have k2 : ∀ I' : tI, frM I I' → MS T I' R n l r → Q (some (.int (if as = true then nI i else if nI i = -2 then nI n else 8))) (T, I', J, R) := by
            intro I' a1 a2
            rw [if_neg ne2]
            exact k I' a1 a2
          simp only [gX7_ring_50]
          by_cases g7 : nI A < nI (i + 1)
          · simp only [g7, if_true]
            exact fin as _ _ _ _ n I3 _ has f3 hM3 (sB_day hs1) hK3 k2
          · simp only [g7, if_false, gX7_ring_57, ne_eq, ne2, not_false_eq_true, if_true]
            exact fin as _ _ _ _ n I3 _ has f3 hM3 (sB_day hs1) hK3 k2
        · rw [if_neg (by omega)] at k
          have : ¬ nI (p' + 1) = nI n := by rw [nI_eq (by omega) (by omega)]; exact g6
          simp only [this, not_false_eq_true, if_true, gX7_ring_107, nI_1]
          exact ih (i + 1) (p' + 1) I3 _ _ (by omega) (by omega) (by omega) f3 hM3 (sB_day hs1) hK3 k
  simp only [Option.toList_none, List.nil_append, gX7_ring_28, ne_eq]
  by_cases gm : D = -1
  · simp only [gm, not_true_eq_false, if_false, if_true, gX7_ring_39, gX7_ring_45] at k ⊢
    have := loop true 60 (by rw [gm]; rfl) (by decide) 60 1 p I1 r rU (by decide) (by decide) hp f1 hM1 (sB_r n r) hK1 k
    rw [gm] at this
    exact this
  · simp only [gm, not_false_eq_true, if_true, if_false, gX7_ring_44, gX7_ring_45] at k ⊢
    have d0 : ¬ D < 0 := by
      intro z
      apply gm
      rw [Int32.lt_iff_toInt_lt] at w1 z
      apply Int32.toInt_inj.mp
      have e1 : (-1 : Int32).toInt = -1 := by decide
      have e2 : (0 : Int32).toInt = 0 := by decide
      omega
    obtain ⟨A, hA, rfl⟩ := nI_of2 (x := D) (M := 60) (n := 60) (by decide) d0 (Int32.not_lt.mp w2)
    rw [nI_clamp (show A < 2 ^ 31 by omega)] at k
    exact loop false A (by simp [gm]) hA A 1 p I1 r rU (by decide) (by omega) hp f1 hM1 (sB_r n r) hK1 k
end M1
