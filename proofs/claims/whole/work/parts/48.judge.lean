/-! PURE: judge: a gauge read -/
def ulS (l : tL) (n : Nat) (el : Nat → Int64) (p : Nat) : Nat → Nat → (Nat → Nat → Int32) → Int32
  | 0, _, _ => -2
  | m + 1, i, q => if ¬ (el i).toInt32 = 100 ∧ ¬ (el i).toInt32 = q 0 p then nI i else ulS l n el p m (i + 1) (dayS l n q)
section JU
variable {X : tX} {T : tT} {I I' : tI} {J : tJ} {R : tR} {Q : tQ} {d a b c p n s ln : Nat} {σ : rS} {hk : Int32} {el : Nat → Int64} {l : tL} {r q : Nat → Nat → Int32}
theorem CSh_fr (h : CSh T I J R s hk ln el) (hb : b ≤ 30) (hf : frC b I I') : CSh T I' J R s hk ln el := by
  unfold CSh
  rw [hf (42 + 2 * s) (by omega) (by omega)]
  exact h
theorem c_firstUnlike (h : HS T I R b n l r) (hC : CS T I R 8 b n l q) (hS : CSh T I J R s (nI 0) ln el) (hp : p < n) (k : ∀ I' : tI, frC b I I' → Q (some (.int (ulS l n el p (min ln 41) 0 q))) (T, I', J, R)) : Ex X (d + 5) mX6_firstUnlike 0 [.ref 0, .ref (42 + 2 * s), .int (nI p), rU, rU, rU] [] (T, I, J, R) Q := by
  have h8 := HS_8 h
  obtain ⟨h0, r0, r1, r8, hb, hb2, hv, _⟩ := h
  have hS' := hS
  obtain ⟨t0, t1, r4, hh⟩ := hS
  have e3 : I (42 + 2 * s) 3 = nI ln ∧ ln ≤ 60 := by
    rcases hh with ⟨z, e0⟩ | ⟨j', hj', ej, e0, e2, e3, hl, hel⟩ | ⟨j', hj', ej, e0, e1⟩
    · exact absurd z (by decide)
    · exact ⟨e3, hl⟩
    · rw [nI_eq (by omega) (by omega)] at ej
      omega
  obtain ⟨e3, hl⟩ := e3
  have emin : (if (41 : Int32) < nI ln then 41 else nI ln) = nI (min ln 41) := by
    by_cases e : 41 < ln
    · rw [if_pos (show (41 : Int32) < nI ln from nI_lt (a := 41) e (by omega)), Nat.min_eq_right (by omega)]
      rfl
    · rw [if_neg (show ¬ (41 : Int32) < nI ln from nI_nlt (a := 41) (by omega) (by decide)), Nat.min_eq_left (by omega)]
  have hM1 : min ln 41 ≤ ln := Nat.min_le_left _ _
  have hM2 : min ln 41 ≤ 41 := Nat.min_le_right _ _
  simp only [gX6_firstUnlike_0, t0, true_and, e3, emin]
  generalize min ln 41 = M at k hM1 hM2
  have loop : ∀ (m i : Nat) (I1 : tI) (q : Nat → Nat → Int32) (v5 : Value), i + m = M → frC b I I1 → CS T I1 R 8 b n l q → (∀ I' : tI, frC b I I' → Q (some (.int (ulS l n el p m i q))) (T, I', J, R)) →
      Ex X (d + 5) mX6_firstUnlike 13 [.ref 0, .ref (42 + 2 * s), .int (nI p), .int (nI M), .int (nI i), v5] [] (T, I1, J, R) Q := by
    intro m
    induction m with
    | zero =>
      intro i I1 q v5 hi hf1 hC1 k
      simp only [gX6_firstUnlike_13, nI_le (show M ≤ i by omega) (by omega), if_true, gX6_firstUnlike_69]
      exact k I1 hf1
    | succ m ih =>
      intro i I1 q v5 hi hf1 hC1 k
      simp only [gX6_firstUnlike_13, nI_ge (show i < M by omega) (by omega), if_false]
      simp only [gX6_firstUnlike_19, t0, true_and]
      refine c_small (CSh_fr hS' hb2 hf1) (by decide) (show i < ln by omega) ?_
      rw [ulS] at k
      generalize (el i).toInt32 = u at k ⊢
      have next : ¬ (¬ u = 100 ∧ ¬ u = q 0 p) → Ex X (d + 5) mX6_firstUnlike 51 [.ref 0, .ref (42 + 2 * s), .int (nI p), .int (nI M), .int (nI i), .int u] [] (T, I1, J, R) Q := by
        intro hno
        rw [if_neg hno] at k
        simp only [gX6_firstUnlike_51, h0, true_and, r1, r8, rf_some, hv.1]
        refine c_pass1 hC1 (fun I2 hf2 hC2 _ => ?_)
        simp only [Option.toList_none, List.nil_append, gX6_firstUnlike_63, nI_1]
        exact ih (i + 1) I2 _ _ (by omega) (frC_t hf1 (frC_p hb hf2)) hC2 k
      simp only [Option.toList_some, List.cons_append, List.nil_append, gX6_firstUnlike_25]
      by_cases g1 : u = 100
      · have := next (fun z => z.1 g1)
        rw [g1] at this
        simp only [g1, if_true]
        exact this
      · simp only [g1, if_false, gX6_firstUnlike_34, h0, true_and, r1, rf_some, hv.1, riv_lv hv, rIn_at hv.2.1 (show p < 8 by omega) (by decide), nI_clamp (show p < 2 ^ 31 by omega), CS_lv hC1 hp]
        by_cases g2 : u = q 0 p
        · have := next (fun z => z.2 g2)
          rw [g2] at this
          simp only [g2, if_true]
          exact this
        · simp only [g2, if_false, gX6_firstUnlike_48]
          rw [if_pos ⟨g1, g2⟩] at k
          exact k I1 hf1
  exact loop M 0 I q rU (by omega) (frC_r b I) hC k
def judgeS (n : Nat) (l : tL) (r : Nat → Nat → Int32) (hk : Int32) (ln : Nat) (el : Nat → Int64) (p : Nat) : Int32 := if hk = 0 then ulS l n el p (min ln 41) 0 r else if hk = -1 then -11 else -12
end JU
