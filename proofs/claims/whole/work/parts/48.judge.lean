/-! PURE: judge: a gauge read -/
def ulS (l : tL) (n : Nat) (el : Nat → Int64) (p : Nat) : Nat → Nat → (Nat → Nat → Int32) → Int32
  | 0, _, _ => -2
  | m + 1, i, q => if ¬ (el i).toInt32 = 100 ∧ ¬ (el i).toInt32 = q 0 p then nI i else ulS l n el p m (i + 1) (dayS l n q)
section JU
variable {X : tX} {T : tT} {I I' : tI} {J : tJ} {R : tR} {Q : tQ} {d a b c p n s ln : Nat} {σ : rS} {hk : Int32} {el : Nat → Int64} {l : tL} {r q : Nat → Nat → Int32}
theorem CSh_fr (h : CSh T I J R s hk ln el) (hb : b ≤ 30) (hf : frC b I I') : CSh T I' J R s hk ln el := by
  unfold CSh
  rw [hf (42 + 2 * s) (by omega) (by omega)]
  exact h
theorem c_firstUnlike (h : HS T I R b n l r) (hC : CS T I R 8 b n l q) (hS : CSh T I J R s (nI 0) ln el) (hp : p < n) (k : ∀ I' : tI, frC b I I' → Q (some (.int (ulS l n el p (min ln 41) 0 q))) (T, I', J, R)) : Ex X (d + 5) mX6_firstUnlike 0 [.ref 0, .ref (42 + 2 * s), .int (nI p), rU, rU, rU] [] (T, I, J, R) Q := by
  have h8 := HS_8 h
  obtain ⟨h0, r0, r1, r8, hb, hb2, hv, _⟩ := h
  have hS' := hS
  obtain ⟨t0, t1, r4, hh⟩ := hS
  have e3 : I (42 + 2 * s) 3 = nI ln ∧ ln ≤ 60 := by
    rcases hh with ⟨z, e0⟩ | ⟨j', hj', ej, e0, e2, e3, hl, hel⟩ | ⟨j', hj', ej, e0, e1⟩
    · exact absurd z (by decide)
    · exact ⟨e3, hl⟩
    · rw [nI_eq (by omega) (by omega)] at ej
      omega
  obtain ⟨e3, hl⟩ := e3
  have emin : (if (41 : Int32) < nI ln then 41 else nI ln) = nI (min ln 41) := by
    by_cases e : 41 < ln
    · rw [if_pos (show (41 : Int32) < nI ln from nI_lt (a := 41) e (by omega)), Nat.min_eq_right (by omega)]
      rfl
    · rw [if_neg (show ¬ (41 : Int32) < nI ln from nI_nlt (a := 41) (by omega) (by decide)), Nat.min_eq_left (by omega)]
  have hM1 : min ln 41 ≤ ln := Nat.min_le_left _ _
  have hM2 : min ln 41 ≤ 41 := Nat.min_le_right _ _
  simp only [gX6_firstUnlike_0, t0, true_and, e3, emin]
  generalize min ln 41 = M at k hM1 hM2
  have loop : ∀ (m i : Nat) (I1 : tI) (q : Nat → Nat → Int32) (v5 : Value), i + m = M → frC b I I1 → CS T I1 R 8 b n l q → (∀ I' : tI, frC b I I' → Q (some (.int (ulS l n el p m i q))) (T, I', J, R)) →
      Ex X (d + 5) mX6_firstUnlike 13 [.ref 0, .ref (42 + 2 * s), .int (nI p), .int (nI M), .int (nI i), v5] [] (T, I1, J, R) Q := by
    intro m
    induction m with
    | zero =>
      intro i I1 q v5 hi hf1 hC1 k
      simp only [gX6_firstUnlike_13, nI_le (show M ≤ i by omega) (by omega), if_true, gX6_firstUnlike_69]
      exact k I1 hf1
    | succ m ih =>
      intro i I1 q v5 hi hf1 hC1 k
      simp only [gX6_firstUnlike_13, nI_ge (show i < M by omega) (by omega), if_false]
      simp only [gX6_firstUnlike_19, t0, true_and]
      refine c_small (CSh_fr hS' hb2 hf1) (by decide) (show i < ln by omega) ?_
      rw [ulS] at k
      generalize (el i).toInt32 = u at k ⊢
      have next : ¬ (¬ u = 100 ∧ ¬ u = q 0 p) → Ex X (d + 5) mX6_firstUnlike 51 [.ref 0, .ref (42 + 2 * s), .int (nI p), .int (nI M), .int (nI i), .int u] [] (T, I1, J, R) Q := by
        intro hno
        rw [if_neg hno] at k
        simp only [gX6_firstUnlike_51, h0, true_and, r1, r8, rf_some, hv.1]
        refine c_pass1 hC1 (fun I2 hf2 hC2 _ => ?_)
        simp only [Option.toList_none, List.nil_append, gX6_firstUnlike_63, nI_1]
        exact ih (i + 1) I2 _ _ (by omega) (frC_t hf1 (frC_p hb hf2)) hC2 k
      simp only [Option.toList_some, List.cons_append, List.nil_append, gX6_firstUnlike_25]
      by_cases g1 : u = 100
      · have := next (fun z => z.1 g1)
        rw [g1] at this
        simp only [g1, if_true]
        exact this
      · simp only [g1, if_false, gX6_firstUnlike_34, h0, true_and, r1, rf_some, hv.1, riv_lv hv, rIn_at hv.2.1 (show p < 8 by omega) (by decide), nI_clamp (show p < 2 ^ 31 by omega), CS_lv hC1 hp]
        by_cases g2 : u = q 0 p
        · have := next (fun z => z.2 g2)
          rw [g2] at this
          simp only [g2, if_true]
          exact this
        · simp only [g2, if_false, gX6_firstUnlike_48]
          rw [if_pos ⟨g1, g2⟩] at k
          exact k I1 hf1
  exact loop M 0 I q rU (by omega) (frC_r b I) hC k
theorem m_unlike (h : MS T I R n l r) (hS : MSh I J s hk ln el) (hs : s < 6) (hp : p < n) (k : ∀ I' : tI, frM I I' → MS T I' R n l r → Q (some (.int (ulS l n el p (min ln 41) 0 r))) (T, I', J, R)) : Ex X (d + 6) mX7_unlike 0 [.ref 54, .int (nI s), .int (nI p), rU, rU] [] (T, I, J, R) Q := by
  have h8 := MS_8 h
  have hm := h.1
  have t0 := mt_54 hm
  obtain ⟨e1, e2, hl, hel⟩ := hS
  have hSf : ∀ I1 : tI, frM I I1 → MSh I1 J s hk ln el := fun I1 hf => ⟨by rw [hf 75 (by omega)]; exact e1, by rw [hf 76 (by omega)]; exact e2, hl, hel⟩
  have h76 : ∀ I1 : tI, frM I I1 → I1 76 s = nI ln := fun I1 hf => by rw [hf 76 (by omega)]; exact e2
  have i76 : rIn T 76 0 (nI s) := rIn_at (mt_76 hm) hs (by decide)
  have cs : (nI s).toNatClampNeg = s := nI_clamp (by omega)
  have hM1 : min ln 41 ≤ ln := Nat.min_le_left _ _
  have hM2 : min ln 41 ≤ 41 := Nat.min_le_right _ _
  have hM3 : min ln 41 = ln ∨ min ln 41 = 41 := by omega
  generalize min ln 41 = M at k hM1 hM2 hM3
  have fin : ∀ (v' i : Int32) (I3 : tI) (q : Nat → Nat → Int32), frM I I3 → MS T I3 R n l q → sB n q r → Kp I3 79 n r → (∀ I' : tI, frM I I' → MS T I' R n l r → Q (some (.int v')) (T, I', J, R)) → Ex X (d + 6) mX7_unlike 84 [.ref 54, .int (nI s), .int (nI p), .int v', .int i] [] (T, I3, J, R) Q := by
    intro v' i I3 q hf3 hM3 hs3 hK3 k
    simp only [gX7_unlike_84, t0, true_and, mr_38 hm, rf_some]
    refine s_laysBack hM3 hK3 hs3 (MS_can h) (MS_ok h) (mt_79 hm) (by decide) (fun I4 hf4 hM4 => ?_)
    simp only [Option.toList_none, List.nil_append, gX7_unlike_94]
    exact k I4 (frM_t hf3 (frM_b hf4)) hM4
  have loop : ∀ (m i : Nat) (I1 : tI) (q1 : Nat → Nat → Int32), i + m = M → frM I I1 → MS T I1 R n l q1 → sB n q1 r → Kp I1 79 n r →
      (∀ I' : tI, frM I I' → MS T I' R n l r → Q (some (.int (ulS l n el p m i (if i = 0 then q1 else dayS l n q1)))) (T, I', J, R)) →
      Ex X (d + 6) mX7_unlike 14 [.ref 54, .int (nI s), .int (nI p), .int (-2), .int (nI i)] [] (T, I1, J, R) Q := by
    intro m
    induction m with
    | zero =>
      intro i I1 q1 hi hf1 hM1' hs1 hK1 k
      simp only [gX7_unlike_14, t0, true_and, mr_35 hm, rf_some, i76, cs, h76 I1 hf1]
      by_cases g : nI ln ≤ nI i
      · simp only [g, if_true]
        exact fin _ _ I1 q1 hf1 hM1' hs1 hK1 k
      · have : (41 : Int32) ≤ nI i := by
          rw [nI_leI (by omega) (by omega)] at g
          exact nI_le (a := 41) (by omega) (by omega)
        simp only [g, if_false, gX7_unlike_25, this, if_true]
        exact fin _ _ I1 q1 hf1 hM1' hs1 hK1 k
    | succ m ih =>
      intro i I1 q1 hi hf1 hM1' hs1 hK1 k
      simp only [gX7_unlike_14, t0, true_and, mr_35 hm, rf_some, i76, cs, h76 I1 hf1, nI_ge (show i < ln by omega) (by omega), if_false]
      simp only [gX7_unlike_25, show ¬ (41 : Int32) ≤ nI i from nI_ge (b := 41) (by omega) (by decide), if_false, gX7_unlike_32, ne_eq, not_true_eq_false, gX7_unlike_38]
      have look : ∀ (I2 : tI) (q2 : Nat → Nat → Int32), q2 = (if i = 0 then q1 else dayS l n q1) → frM I I2 → MS T I2 R n l q2 → sB n q2 r → Kp I2 79 n r → Ex X (d + 6) mX7_unlike 47 [.ref 54, .int (nI s), .int (nI p), .int (-2), .int (nI i)] [] (T, I2, J, R) Q := by
        intro I2 q2 eq2 hf2 hM2 hs2 hK2
        rw [← eq2, ulS] at k
        simp only [gX7_unlike_47, t0, true_and]
        refine m_toldAt hm (hSf I2 hf2) hs (show i < ln by omega) ?_
        have stay : ¬ (¬ (el i).toInt32 = 100 ∧ ¬ (el i).toInt32 = q2 0 p) → Ex X (d + 6) mX7_unlike 78 [.ref 54, .int (nI s), .int (nI p), .int (-2), .int (nI i)] [] (T, I2, J, R) Q := by
          intro hno
          rw [if_neg hno] at k
          simp only [gX7_unlike_78, nI_1]
          exact ih (i + 1) I2 q2 (by omega) hf2 hM2 hs2 hK2 (by rw [if_neg (show ¬ i + 1 = 0 by omega)]; exact k)
        simp only [Option.toList_some, List.cons_append, List.nil_append, gX7_unlike_54]
        by_cases g1 : (el i).toInt32 = 100
        · simp only [g1, if_true]
          exact stay (fun z => z.1 g1)
        · simp only [g1, if_false, gX7_unlike_59, t0, true_and]
          refine m_toldAt hm (hSf I2 hf2) hs (show i < ln by omega) ?_
          simp only [Option.toList_some, List.cons_append, List.nil_append, gX7_unlike_66, t0, true_and, mr_1 hm, rf_some, rIn_at (mt_55 hm) (show p < 32 by omega) (by decide), nI_clamp (show p < 2 ^ 31 by omega), MS_lv hM2 hp]
          by_cases g2 : (el i).toInt32 = q2 0 p
          · rw [if_pos g2]
            exact stay (fun z => z.2 g2)
          · rw [if_neg g2]
            rw [if_pos ⟨g1, g2⟩] at k
            have ne2 : ¬ nI i = -2 := fun z => by
              have := nI_pos (show i < 2 ^ 31 by omega)
              rw [z] at this
              exact this (by decide)
            simp only [gX7_unlike_75, gX7_unlike_78, nI_1]
            simp only [gX7_unlike_14, t0, true_and, mr_35 hm, rf_some, i76, cs, h76 I2 hf2]
            by_cases g3 : nI ln ≤ nI (i + 1)
            · simp only [g3, if_true]
              exact fin _ _ I2 q2 hf2 hM2 hs2 hK2 k
            · simp only [g3, if_false, gX7_unlike_25]
              by_cases g4 : (41 : Int32) ≤ nI (i + 1)
              · simp only [g4, if_true]
                exact fin _ _ I2 q2 hf2 hM2 hs2 hK2 k
              · simp only [g4, if_false, gX7_unlike_32, ne_eq, ne2, not_false_eq_true, if_true]
                exact fin _ _ I2 q2 hf2 hM2 hs2 hK2 k
      by_cases i0 : i = 0
      · subst i0
        simp only [show nI 0 ≤ 0 by decide, if_true]
        exact look I1 q1 (by rw [if_pos rfl]) hf1 hM1' hs1 hK1
      · simp only [nI_nle (show 0 < i by omega) (by omega), if_false, gX7_unlike_43, t0, true_and]
        refine s_passes hM1' (fun I2 hf2 hM2 => ?_)
        simp only [Option.toList_none, List.nil_append]
        exact look I2 _ (by rw [if_neg i0]) (frM_t hf1 (frM_p hf2)) hM2 (sB_day hs1) (Kp_p hK1 (Or.inl rfl) hf2)
  simp only [gX7_unlike_0, t0, true_and, mr_38 hm, rf_some]
  refine s_keeps h (mt_79 hm) (by decide) (fun I1 hf1 hK1 => ?_)
  simp only [Option.toList_none, List.nil_append, gX7_unlike_8]
  exact loop M 0 I1 r (by omega) (frM_k hf1 (Or.inl rfl)) (MS_k h hf1 (by decide)) (sB_r n r) hK1 k
def judgeS (n : Nat) (l : tL) (r : Nat → Nat → Int32) (hk : Int32) (ln : Nat) (el : Nat → Int64) (p : Nat) : Int32 := if hk = 0 then ulS l n el p (min ln 41) 0 r else if hk = -1 then -11 else -12
end JU
