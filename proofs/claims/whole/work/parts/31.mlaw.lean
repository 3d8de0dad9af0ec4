/-! PURE: a LAW worked out, by the reference -/
/-- a name's place as its sign -/
def chN (c : Int32) : Int32 := if c = 0 then 108 else if c = 1 then 110 else if c = 2 then 114 else if c = 3 then 103 else if c = 4 then 98 else 100
def jnM (c x y : Int32) : Int32 :=
  if c = 6 then (if x = 0 then (if y = 0 then 0 else 1) else 1) else if c = 7 then (if x = 0 then 0 else if y = 0 then 0 else 1) else if c = 8 then (if y ≤ x then 0 else 1) else if c = 9 then (if x = y then 1 else 0)
  else if c = 10 then (if x ≤ y then 0 else 1) else if c = 11 then x + y else if c = 12 then x - y else if c = 13 then x * y else if c = 14 then (if y = 0 then 0 else x / y) else (if y = 0 then 0 else x - x / y * y)
/-- m codes from i on, worked on a stack -/
def wkM (cd : Nat → Int32) (nm : Int32 → Int32) : Nat → Nat → List Int32 → List Int32
  | 0, _, st => st
  | m + 1, i, st =>
    if 18 ≤ cd i ∨ cd i ≤ 5 then wkM cd nm m (i + 1) ((if cd i < 18 then nm (chN (cd i)) else cd i - 18) :: st)
    else if cd i = 16 ∨ cd i = 17 then wkM cd nm m (i + 1) (match st with
      | [] => []
      | x :: r => (if cd i = 17 then -x else if x = 0 then 1 else 0) :: r)
    else wkM cd nm m (i + 1) (match st with
      | y :: x :: r => jnM (cd i) x y :: r
      | s => s)
theorem wkM_succ (cd : Nat → Int32) (nm : Int32 → Int32) (m i : Nat) (st : List Int32) : wkM cd nm (m + 1) i st = (if 18 ≤ cd i ∨ cd i ≤ 5 then wkM cd nm m (i + 1) ((if cd i < 18 then nm (chN (cd i)) else cd i - 18) :: st)
    else if cd i = 16 ∨ cd i = 17 then wkM cd nm m (i + 1) (match st with
      | [] => []
      | x :: r => (if cd i = 17 then -x else if x = 0 then 1 else 0) :: r)
    else wkM cd nm m (i + 1) (match st with
      | y :: x :: r => jnM (cd i) x y :: r
      | s => s)) := rfl
/-- m codes from i on are well made for a stack of t, and leave one -/
def dpM (cd : Nat → Int32) : Nat → Nat → Nat → Prop
  | 0, _, t => t = 1
  | m + 1, i, t => 0 ≤ cd i ∧ (if 18 ≤ cd i ∨ cd i ≤ 5 then dpM cd m (i + 1) (t + 1) else if cd i = 16 ∨ cd i = 17 then 1 ≤ t ∧ dpM cd m (i + 1) t else 2 ≤ t ∧ dpM cd m (i + 1) (t - 1))
theorem stk_last (f : Nat → Int32) : ∀ t, 0 < t → (stk f t).getLast? = some (f 0)
  | 1, _ => rfl
  | t + 2, _ => by
    show (f (t + 1) :: stk f (t + 1)).getLast? = some (f 0)
    rw [List.getLast?_cons, stk_last f (t + 1) (by omega)]
    rfl
section ML
variable {X : tX} {T : tT} {I : tI} {J : tJ} {R : tR} {Q : tQ} {d p n fr to_ : Nat} {σ : rS}
theorem q_within {v l m : Int32} (k : Q (some (.int (if v < l then 0 else if m < v then 0 else 1))) σ) : Ex X d mX7_within 0 [.int v, .int l, .int m] [] σ Q := by
  simp only [gX7_within_0]
  by_cases h1 : v < l
  · simp only [h1, if_true, gX7_within_14, gX7_within_15, true_or, true_and] at k ⊢
    exact k
  · simp only [h1, if_false, gX7_within_5] at k ⊢
    by_cases h2 : m < v
    · simp only [h2, if_true, gX7_within_14, gX7_within_15, true_or, true_and] at k ⊢
      exact k
    · simp only [h2, if_false, gX7_within_10, gX7_within_15, or_true, true_and] at k ⊢
      exact k
theorem q_both {c x y : Int32} (k : Q (some (.int (jnM c x y))) σ) : Ex X d mX7_both 0 [.int c, .int x, .int y] [] σ Q := by
  simp only [gX7_both_0, sX7_both_1]
  unfold jnM at k
  by_cases h1 : c = 6
  · simp only [h1, if_true] at k ⊢
    simp only [gX7_both_52, gX7_both_56, gX7_both_60, gX7_both_64, gX7_both_65]
    by_cases c1 : x = 0 <;> by_cases c2 : y = 0 <;> simpa [c1, c2] using k
  simp only [h1, if_false] at k ⊢
  by_cases h2 : c = 7
  · simp only [h2, if_true] at k ⊢
    simp only [gX7_both_66, gX7_both_70, gX7_both_74, gX7_both_78, gX7_both_79]
    by_cases c1 : x = 0 <;> by_cases c2 : y = 0 <;> simpa [c1, c2] using k
  simp only [h2, if_false] at k ⊢
  by_cases h3 : c = 8
  · simp only [h3, if_true] at k ⊢
    simp only [gX7_both_80, gX7_both_85, gX7_both_89, gX7_both_90]
    by_cases c2 : y ≤ x
    · simp only [c2, if_true] at k ⊢
      exact k
    · simp only [c2, if_false] at k ⊢
      exact k
  simp only [h3, if_false] at k ⊢
  by_cases h4 : c = 9
  · simp only [h4, if_true] at k ⊢
    simp only [gX7_both_91, gX7_both_96, gX7_both_100, gX7_both_101]
    by_cases c2 : x = y
    · simp only [c2, if_true] at k ⊢
      exact k
    · simp only [c2, if_false] at k ⊢
      exact k
  simp only [h4, if_false] at k ⊢
  by_cases h5 : c = 10
  · simp only [h5, if_true] at k ⊢
    simp only [gX7_both_102, gX7_both_107, gX7_both_111, gX7_both_112]
    by_cases c2 : x ≤ y
    · simp only [c2, if_true] at k ⊢
      exact k
    · simp only [c2, if_false] at k ⊢
      exact k
  simp only [h5, if_false] at k ⊢
  by_cases h6 : c = 11
  · simp only [h6, if_true] at k ⊢
    simp only [gX7_both_113]
    exact k
  simp only [h6, if_false] at k ⊢
  by_cases h7 : c = 12
  · simp only [h7, if_true] at k ⊢
    simp only [gX7_both_117]
    exact k
  simp only [h7, if_false] at k ⊢
  by_cases h8 : c = 13
  · simp only [h8, if_true] at k ⊢
    simp only [gX7_both_121]
    exact k
  simp only [h8, if_false] at k ⊢
  by_cases h9 : c = 14
  · simp only [h9, if_true] at k ⊢
    simp only [gX7_both_125, gX7_both_129, gX7_both_133, gX7_both_136]
    by_cases c2 : y = 0
    · simpa [c2] using k
    · simp only [c2, if_false, not_false_eq_true, true_and] at k ⊢
      exact k
  simp only [h9, if_false] at k ⊢
  simp only [gX7_both_137, gX7_both_141, gX7_both_145, gX7_both_148]
  by_cases c2 : y = 0
  · simpa [c2] using k
  · simp only [c2, if_false, not_false_eq_true, true_and] at k ⊢
    exact k
set_option maxHeartbeats 4000000 in
theorem q_worked {nm : Int32 → Int32} (hm : IsMod T R) (hft : fr ≤ to_) (ht : to_ ≤ 200) (hdp : dpM (I 62) (to_ - fr) fr 0) (hnm : ∀ j, j < 6 → I 68 j = nm (chN (nI j)))
    (k : ∀ I' : tI, (∀ x, x ≠ 67 → I' x = I x) → Q (some (.int ((wkM (I 62) nm (to_ - fr) fr []).headD 0))) (T, I', J, R)) : Ex X (d + 1) mX7_worked 0 [.ref 54, .int (nI fr), .int (nI to_), rU, rU, rU] [] (T, I, J, R) Q := by
  have t0 := mt_54 hm
  have t62 := mt_62 hm
  have t67 := mt_67 hm
  have t68 := mt_68 hm
  have r11 := mr_11 hm
  have r20 := mr_20 hm
  have r21 := mr_21 hm
  have key : ∀ (m i top : Nat) (I' : tI) (v5 : Value), i + m = to_ → top + m ≤ 200 → dpM (I 62) m i top → (∀ x, x ≠ 67 → I' x = I x) → (∀ I'' : tI, (∀ x, x ≠ 67 → I'' x = I x) → Q (some (.int ((wkM (I 62) nm m i (stk (I' 67) top)).headD 0))) (T, I'', J, R)) →
      Ex X (d + 1) mX7_worked 5 [.ref 54, .int (nI fr), .int (nI to_), .int (nI top), .int (nI i), v5] [] (T, I', J, R) Q := by
    intro m
    induction m with
    | zero =>
      intro i top I' v5 hi htop hd hfr k
      have h1 : top = 1 := hd
      subst h1
      simp only [gX7_worked_5, nI_le (show to_ ≤ i by omega) (by omega), if_true]
      simp only [gX7_worked_163, t0, true_and, r20, rf_some, show rIn T 67 0 0 from rIn_at (k := 0) t67 (by decide) (by decide), clamp_0]
      exact k I' hfr
    | succ m ih =>
      intro i top I' v5 hi htop hd hfr k
      have e62 : I' 62 = I 62 := hfr 62 (by decide)
      have e68 : I' 68 = I 68 := hfr 68 (by decide)
      have hcl : (nI i).toNatClampNeg = i := nI_clamp (by omega)
      obtain ⟨hc0, hd⟩ := hd
      simp only [gX7_worked_5, nI_ge (show i < to_ by omega) (by omega), if_false]
      simp only [gX7_worked_11, t0, true_and, r11, rf_some, rIn_at t62 (show i < 200 by omega) (by decide), hcl, e62]
      generalize hcd : I 62 i = cd at *
      by_cases c1 : 18 ≤ cd ∨ cd ≤ 5
      · rw [if_pos c1] at hd
        have h33 : Ex X (d + 1) mX7_worked 33 [.ref 54, .int (nI fr), .int (nI to_), .int (nI top), .int (nI i), .int cd] [] (T, I', J, R) Q := by
          have go : ∀ w : Int32, w = (if cd < 18 then nm (chN cd) else cd - 18) → Ex X (d + 1) mX7_worked 63 [.ref 54, .int (nI fr), .int (nI to_), .int (nI (top + 1)), .int (nI i), .int cd] [.int w, .int (nI top), .ref 67] (T, I', J, R) Q := by
            intro w hw
            simp only [gX7_worked_63, gX7_worked_157, rIn_at t67 (show top < 200 by omega) (by decide), true_and, nI_clamp (show top < 2 ^ 31 by omega), nI_1]
            refine ih (i + 1) (top + 1) _ _ (by omega) (by omega) hd (fun x hx => by rw [up_ne _ _ hx]; exact hfr x hx) (fun I'' h'' => ?_)
            have := k I'' h''
            rw [wkM_succ, hcd, if_pos c1] at this
            simp only [stk]
            rw [up_self, up_self, stk_up (Nat.le_refl top), hw]
            exact this
          simp only [gX7_worked_33, t0, true_and, r20, rf_some, nI_1]
          by_cases c2 : cd < 18
          · simp only [c2, if_true]
            have c3 : cd ≤ 5 := c1.resolve_left (fun q => absurd c2 (Int32.not_lt.mpr q))
            obtain ⟨j, hj, rfl⟩ := nI_of2 (M := 5) (n := 5) (by decide) (Int32.not_lt.mpr hc0) c3
            simp only [gX7_worked_56, t0, true_and, r21, rf_some, rIn_at t68 (show j < 6 by omega) (by decide), nI_clamp (show j < 2 ^ 31 by omega), e68, hnm j (by omega)]
            exact go _ (by rw [if_pos c2])
          · simp only [c2, if_false, gX7_worked_48]
            exact go _ (by rw [if_neg c2])
        by_cases c2 : 18 ≤ cd
        · simp only [c2, if_true]
          exact h33
        · have c3 : cd ≤ 5 := c1.resolve_left c2
          simp only [c2, if_false, gX7_worked_27, show ¬ 5 < cd from Int32.not_lt.mpr c3]
          exact h33
      · rw [if_neg c1] at hd
        have c2 : ¬ 18 ≤ cd := fun q => c1 (Or.inl q)
        have c3 : 5 < cd := Int32.not_le.mp (fun q => c1 (Or.inr q))
        simp only [c2, if_false, gX7_worked_27, c3, if_true]
        by_cases c4 : cd = 16 ∨ cd = 17
        · rw [if_pos c4] at hd
          obtain ⟨t, rfl⟩ : ∃ t, top = t + 1 := ⟨top - 1, by omega⟩
          have h81 : Ex X (d + 1) mX7_worked 81 [.ref 54, .int (nI fr), .int (nI to_), .int (nI (t + 1)), .int (nI i), .int cd] [] (T, I', J, R) Q := by
            have go : ∀ w : Int32, w = (if cd = 17 then -(I' 67 t) else if I' 67 t = 0 then 1 else 0) → Ex X (d + 1) mX7_worked 123 [.ref 54, .int (nI fr), .int (nI to_), .int (nI (t + 1)), .int (nI i), .int cd] [.int w, .int (nI t), .ref 67] (T, I', J, R) Q := by
              intro w hw
              simp only [gX7_worked_123, gX7_worked_157, rIn_at t67 (show t < 200 by omega) (by decide), true_and, nI_clamp (show t < 2 ^ 31 by omega), nI_1]
              refine ih (i + 1) (t + 1) _ _ (by omega) (by omega) hd.2 (fun x hx => by rw [up_ne _ _ hx]; exact hfr x hx) (fun I'' h'' => ?_)
              have := k I'' h''
              rw [wkM_succ, hcd, if_neg c1, if_pos c4] at this
              simp only [stk] at this ⊢
              rw [up_self, up_self, stk_up (Nat.le_refl t), hw]
              exact this
            simp only [gX7_worked_81, t0, true_and, r20, rf_some, nI_pred]
            by_cases c5 : cd = 17
            · simp only [c5, if_true, gX7_worked_95, t0, true_and, r20, rf_some, nI_pred, rIn_at t67 (show t < 200 by omega) (by decide), nI_clamp (show t < 2 ^ 31 by omega)]
              subst c5
              exact go _ (by simp)
            · simp only [c5, if_false, gX7_worked_107, t0, true_and, r20, rf_some, nI_pred, rIn_at t67 (show t < 200 by omega) (by decide), nI_clamp (show t < 2 ^ 31 by omega)]
              by_cases c6 : I' 67 t = 0
              · simp only [c6, if_true, gX7_worked_118]
                exact go _ (by simp [c5, c6])
              · simp only [c6, if_false, gX7_worked_122]
                exact go _ (by simp [c5, c6])
          simp only [gX7_worked_67]
          by_cases c5 : cd = 16
          · simp only [c5, if_true]
            subst c5
            exact h81
          · have c6 : cd = 17 := c4.resolve_left c5
            simp only [c5, if_false, gX7_worked_74]
            simp only [c6, if_true]
            subst c6
            exact h81
        · rw [if_neg c4] at hd
          obtain ⟨t, rfl⟩ : ∃ t, top = t + 2 := ⟨top - 2, by omega⟩
          have c5 : ¬ cd = 16 := fun q => c4 (Or.inl q)
          have c6 : ¬ cd = 17 := fun q => c4 (Or.inr q)
          simp only [gX7_worked_67, c5, if_false, gX7_worked_74, c6]
          simp only [gX7_worked_127, nI_m1, t0, true_and, r20, rf_some, nI_pred, rIn_at t67 (show t < 200 by omega) (by decide), rIn_at t67 (show t + 1 < 200 by omega) (by decide), nI_clamp (show t < 2 ^ 31 by omega), nI_clamp (show t + 1 < 2 ^ 31 by omega)]
          refine q_both ?_
          simp only [Option.toList_some, List.cons_append, List.nil_append, gX7_worked_156, gX7_worked_157, rIn_at t67 (show t < 200 by omega) (by decide), true_and, nI_clamp (show t < 2 ^ 31 by omega), nI_1]
          refine ih (i + 1) (t + 1) _ _ (by omega) (by omega) hd.2 (fun x hx => by rw [up_ne _ _ hx]; exact hfr x hx) (fun I'' h'' => ?_)
          have := k I'' h''
          rw [wkM_succ, hcd, if_neg c1, if_neg c4] at this
          simp only [stk] at this ⊢
          rw [up_self, up_self, stk_up (Nat.le_refl t)]
          exact this
  simp only [gX7_worked_0]
  exact key (to_ - fr) fr 0 I _ (by omega) (by omega) hdp (fun _ _ => rfl) k
end ML
