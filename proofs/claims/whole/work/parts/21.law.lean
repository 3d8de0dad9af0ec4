/-! PURE: a LAW worked out, by the class -/
def stk (f : Nat → Int32) : Nat → List Int32
  | 0 => []
  | t + 1 => f t :: stk f t
theorem stk_up {f : Nat → Int32} {k : Nat} {v : Int32} : ∀ {t : Nat}, t ≤ k → stk (va_up f k v) t = stk f t
  | 0, _ => rfl
  | t + 1, h => by
    have h1 : t ≠ k := by omega
    show va_up f k v t :: stk (va_up f k v) t = f t :: stk f t
    rw [stk_up (t := t) (by omega)]
    simp [va_up, h1]
theorem stk_len (f : Nat → Int32) : ∀ t, (stk f t).length = t
  | 0 => rfl
  | t + 1 => by show (stk f t).length + 1 = t + 1; rw [stk_len f t]
theorem up_self {α : Type} (f : Nat → α) (k : Nat) (v : α) : va_up f k v k = v := by simp [va_up]
theorem up_ne {α : Type} (f : Nat → α) {k j : Nat} (v : α) (h : j ≠ k) : va_up f k v j = f j := by simp [va_up, h]
def wk (cd : Nat → Int32) (nm : Int32 → Int32) : Nat → Nat → List Int32 → Bool → Int32
  | 0, _, _, _ => 0
  | m + 1, i, st, c =>
    if c = false then wk cd nm m (i + 1) st (decide (cd i = -59))
    else if cd i = -59 then st.headD 0
    else if cd i = -63 then wk cd nm m (i + 1) [] (match st with
      | [] => false
      | x :: _ => decide (¬ x = 0))
    else if cd i = -126 ∨ cd i = -33 then wk cd nm m (i + 1) (match st with
      | [] => []
      | x :: r => (if cd i = -126 then -x else if x = 0 then 1 else 0) :: r) true
    else if 0 ≤ cd i ∨ isN (-(cd i)) = true then wk cd nm m (i + 1) (if st.length < 121 then (if 0 ≤ cd i then cd i else nm (-(cd i))) :: st else st) true
    else wk cd nm m (i + 1) (match st with
      | y :: x :: r => jn x (-(cd i)) y :: r
      | s => s) true
theorem wk_succ (cd : Nat → Int32) (nm : Int32 → Int32) (m i : Nat) (st : List Int32) (c : Bool) : wk cd nm (m + 1) i st c = (if c = false then wk cd nm m (i + 1) st (decide (cd i = -59))
    else if cd i = -59 then st.headD 0
    else if cd i = -63 then wk cd nm m (i + 1) [] (match st with
      | [] => false
      | x :: _ => decide (¬ x = 0))
    else if cd i = -126 ∨ cd i = -33 then wk cd nm m (i + 1) (match st with
      | [] => []
      | x :: r => (if cd i = -126 then -x else if x = 0 then 1 else 0) :: r) true
    else if 0 ≤ cd i ∨ isN (-(cd i)) = true then wk cd nm m (i + 1) (if st.length < 121 then (if 0 ≤ cd i then cd i else nm (-(cd i))) :: st else st) true
    else wk cd nm m (i + 1) (match st with
      | y :: x :: r => jn x (-(cd i)) y :: r
      | s => s) true) := rfl
theorem ofI_m1 : Int32.ofInt (-1) = -1 := by decide
theorem nI_m1 (n : Nat) : nI (n + 1) + Int32.ofInt (-1) = nI n := by rw [ofI_m1]; exact pk_m1 n
theorem nI_p0 {n : Nat} (h : n < 2 ^ 31 - 1) : ¬ nI (n + 1) ≤ 0 := nI_nle (by omega) (by omega)
section PL
variable {X : tX} {T : tT} {I : tI} {J : tJ} {R : tR} {Q : tQ} {d a b p n sz : Nat} {σ : rS}
set_option maxHeartbeats 4000000 in
theorem p_workedOut (hw : IsLaw T R b) (hv : IsRiv T R a) (hab : a + 6 < b) (hs : I b 2 = nI sz) (hsz : sz ≤ 121) (hn : I a 8 = nI n) (h8 : n ≤ 8) (hp : p < n) (htd : (I a 7).toNatClampNeg < 7) (htd0 : ¬ I a 7 < 0)
    (k : ∀ I' : tI, (∀ x, x ≠ b + 2 → I' x = I x) → Q (some (.int (wk (I (b + 1)) (nmC I a p) sz 0 [] true))) (T, I', J, R)) : Ex X (d + 1) mX1_workedOut 0 [.ref b, .ref a, .int (nI p), rU, rU, rU, rU] [] (T, I, J, R) Q := by
  obtain ⟨t0, t1, t2, r0, r1⟩ := hw
  have key : ∀ (m i top : Nat) (c : Bool) (I' : tI) (v6 : Value), i + m = sz → top ≤ 121 → (∀ x, x ≠ b + 2 → I' x = I x) → (∀ I'' : tI, (∀ x, x ≠ b + 2 → I'' x = I x) → Q (some (.int (wk (I (b + 1)) (nmC I a p) m i (stk (I' (b + 2)) top) c))) (T, I'', J, R)) →
      Ex X (d + 1) mX1_workedOut 8 [.ref b, .ref a, .int (nI p), .int (nI top), .int (if c = true then 1 else 0), .int (nI i), v6] [] (T, I', J, R) Q := by
    intro m
    induction m with
    | zero =>
      intro i top c I' v6 hi htop hfr k
      have e1 : I' b = I b := hfr b (by omega)
      simp only [gX1_workedOut_8, t0, true_and, e1, hs, nI_le (show sz ≤ i by omega) (by omega), if_true]
      simp only [gX1_workedOut_262]
      exact k I' hfr
    | succ m ih =>
      intro i top c I' v6 hi htop hfr k
      have e1 : I' b = I b := hfr b (by omega)
      have e2 : I' (b + 1) = I (b + 1) := hfr (b + 1) (by omega)
      have hcl : (nI i).toNatClampNeg = i := nI_clamp (by omega)
      simp only [gX1_workedOut_8, t0, true_and, e1, hs, nI_ge (show i < sz by omega) (by omega), if_false]
      simp only [gX1_workedOut_17, t0, true_and, r0, rf_some, rIn_at t1 (show i < 121 by omega) (by decide), hcl, e2]
      generalize hcd : I (b + 1) i = cd at *
      cases c with
      | false =>
        simp only [Bool.false_eq_true, if_false, if_true]
        simp only [gX1_workedOut_31]
        by_cases c1 : cd = -59
        · simp only [c1, if_true, gX1_workedOut_38, gX1_workedOut_43, gX1_workedOut_256, nI_1]
          refine ih (i + 1) top true I' _ (by omega) htop hfr (fun I'' h'' => ?_)
          have := k I'' h''
          simpa [wk, hcd, c1] using this
        · simp only [c1, if_false, gX1_workedOut_42, gX1_workedOut_43, gX1_workedOut_256, nI_1]
          refine ih (i + 1) top false I' _ (by omega) htop hfr (fun I'' h'' => ?_)
          have := k I'' h''
          simpa [wk, hcd, c1] using this
      | true =>
        simp only [if_true, show ¬ (1 : Int32) = 0 by decide, if_false]
        simp only [gX1_workedOut_48]
        by_cases c1 : cd = -59
        · simp only [c1, if_true]
          simp only [gX1_workedOut_55]
          cases top with
          | zero =>
            simp only [show nI 0 ≤ 0 by decide, if_true, gX1_workedOut_70, gX1_workedOut_71]
            have := k I' hfr
            simpa [wk, hcd, c1, stk] using this
          | succ t =>
            simp only [nI_p0 (show t < 2 ^ 31 - 1 by omega), if_false]
            simp only [gX1_workedOut_59, gX1_workedOut_71, t0, true_and, r1, rf_some, nI_pred, rIn_at t2 (show t < 121 by omega) (by decide), nI_clamp (show t < 2 ^ 31 by omega)]
            have := k I' hfr
            simpa [wk, hcd, c1, stk] using this
        simp only [c1, if_false]
        simp only [gX1_workedOut_72]
        by_cases c2 : cd = -63
        · simp only [c2, if_true]
          simp only [gX1_workedOut_79]
          cases top with
          | zero =>
            simp only [show nI 0 ≤ 0 by decide, if_true, gX1_workedOut_98, gX1_workedOut_99, gX1_workedOut_256, nI_1]
            refine ih (i + 1) 0 false I' _ (by omega) (by omega) hfr (fun I'' h'' => ?_)
            have := k I'' h''
            simpa [wk, hcd, c2, stk] using this
          | succ t =>
            simp only [nI_p0 (show t < 2 ^ 31 - 1 by omega), if_false]
            simp only [gX1_workedOut_83, t0, true_and, r1, rf_some, nI_pred, rIn_at t2 (show t < 121 by omega) (by decide), nI_clamp (show t < 2 ^ 31 by omega)]
            by_cases c3 : I' (b + 2) t = 0
            · simp only [c3, if_true, gX1_workedOut_98, gX1_workedOut_99, gX1_workedOut_256, nI_1]
              refine ih (i + 1) 0 false I' _ (by omega) (by omega) hfr (fun I'' h'' => ?_)
              have := k I'' h''
              simpa [wk, hcd, c2, stk, c3] using this
            · simp only [c3, if_false, gX1_workedOut_94, gX1_workedOut_99, gX1_workedOut_256, nI_1]
              refine ih (i + 1) 0 true I' _ (by omega) (by omega) hfr (fun I'' h'' => ?_)
              have := k I'' h''
              simpa [wk, hcd, c2, stk, c3] using this
        simp only [c2, if_false]
        by_cases c3 : cd = -126 ∨ cd = -33
        · have h120 : Ex X (d + 1) mX1_workedOut 120 [.ref b, .ref a, .int (nI p), .int (nI top), .int 1, .int (nI i), .int cd] [] (T, I', J, R) Q := by
            simp only [gX1_workedOut_120]
            cases top with
            | zero =>
              simp only [show nI 0 ≤ 0 by decide, if_true, gX1_workedOut_256, nI_1]
              refine ih (i + 1) 0 true I' _ (by omega) (by omega) hfr (fun I'' h'' => ?_)
              have := k I'' h''
              rw [wk_succ, hcd, if_neg (by decide), if_neg c1, if_neg c2, if_pos c3] at this
              exact this
            | succ t =>
              simp only [nI_p0 (show t < 2 ^ 31 - 1 by omega), if_false]
              simp only [gX1_workedOut_124, t0, true_and, r1, rf_some, nI_pred]
              have go : ∀ w : Int32, w = (if cd = -126 then -(I' (b + 2) t) else if I' (b + 2) t = 0 then 1 else 0) → Ex X (d + 1) mX1_workedOut 166 [.ref b, .ref a, .int (nI p), .int (nI (t + 1)), .int 1, .int (nI i), .int cd] [.int w, .int (nI t), .ref (b + 2)] (T, I', J, R) Q := by
                intro w hw
                simp only [gX1_workedOut_166, gX1_workedOut_256, rIn_at t2 (show t < 121 by omega) (by decide), true_and, nI_clamp (show t < 2 ^ 31 by omega), nI_1]
                refine ih (i + 1) (t + 1) true _ _ (by omega) htop (fun x hx => by rw [up_ne _ _ hx]; exact hfr x hx) (fun I'' h'' => ?_)
                have := k I'' h''
                rw [wk_succ, hcd, if_neg (by decide), if_neg c1, if_neg c2, if_pos c3] at this
                simp only [stk] at this ⊢
                rw [up_self, up_self, stk_up (Nat.le_refl t), hw]
                exact this
              by_cases c4 : cd = -126
              · simp only [c4, if_true]
                simp only [gX1_workedOut_138, t0, true_and, r1, rf_some, nI_pred, rIn_at t2 (show t < 121 by omega) (by decide), nI_clamp (show t < 2 ^ 31 by omega)]
                subst c4
                exact go _ (by simp)
              · simp only [c4, if_false]
                simp only [gX1_workedOut_150, t0, true_and, r1, rf_some, nI_pred, rIn_at t2 (show t < 121 by omega) (by decide), nI_clamp (show t < 2 ^ 31 by omega)]
                by_cases c5 : I' (b + 2) t = 0
                · simp only [c5, if_true, gX1_workedOut_161]
                  exact go _ (by simp [c4, c5])
                · simp only [c5, if_false, gX1_workedOut_165]
                  exact go _ (by simp [c4, c5])
          simp only [gX1_workedOut_106]
          by_cases c4 : cd = -126
          · simp only [c4, if_true]
            subst c4
            exact h120
          · have c5 : cd = -33 := c3.resolve_left c4
            simp only [c4, if_false, gX1_workedOut_113]
            simp only [c5, if_true]
            subst c5
            exact h120
        · have c4 : ¬ cd = -126 := fun q => c3 (Or.inl q)
          have c5 : ¬ cd = -33 := fun q => c3 (Or.inr q)
          simp only [gX1_workedOut_106, c4, if_false, gX1_workedOut_113, c5]
          have h184 : (0 ≤ cd ∨ isN (-cd) = true) → Ex X (d + 1) mX1_workedOut 184 [.ref b, .ref a, .int (nI p), .int (nI top), .int 1, .int (nI i), .int cd] [] (T, I', J, R) Q := by
            intro c6
            simp only [gX1_workedOut_184]
            by_cases c7 : 121 ≤ top
            · simp only [show (121 : Int32) ≤ nI top from nI_le (a := 121) c7 (by omega), if_true, gX1_workedOut_256, nI_1]
              refine ih (i + 1) top true I' _ (by omega) htop hfr (fun I'' h'' => ?_)
              have := k I'' h''
              rw [wk_succ, hcd, if_neg (by decide), if_neg c1, if_neg c2, if_neg c3, if_pos c6, stk_len, if_neg (by omega)] at this
              exact this
            · simp only [show ¬ (121 : Int32) ≤ nI top from nI_ge (b := 121) (by omega) (by decide), if_false]
              simp only [gX1_workedOut_190, t0, true_and, r1, rf_some, nI_1]
              have go : ∀ w : Int32, w = (if 0 ≤ cd then cd else nmC I a p (-cd)) → Ex X (d + 1) mX1_workedOut 216 [.ref b, .ref a, .int (nI p), .int (nI (top + 1)), .int 1, .int (nI i), .int cd] [.int w, .int (nI top), .ref (b + 2)] (T, I', J, R) Q := by
                intro w hw
                simp only [gX1_workedOut_216, gX1_workedOut_256, rIn_at t2 (show top < 121 by omega) (by decide), true_and, nI_clamp (show top < 2 ^ 31 by omega), nI_1]
                refine ih (i + 1) (top + 1) true _ _ (by omega) (by omega) (fun x hx => by rw [up_ne _ _ hx]; exact hfr x hx) (fun I'' h'' => ?_)
                have := k I'' h''
                rw [wk_succ, hcd, if_neg (by decide), if_neg c1, if_neg c2, if_neg c3, if_pos c6, stk_len, if_pos (by omega)] at this
                simp only [stk]
                rw [up_self, up_self, stk_up (Nat.le_refl top), hw]
                exact this
              by_cases c8 : 0 ≤ cd
              · simp only [show ¬ cd < 0 from Int32.not_lt.mpr c8, if_false, gX1_workedOut_203]
                exact go _ (by simp [c8])
              · simp only [show cd < 0 from Int32.not_le.mp c8, if_true, gX1_workedOut_208]
                have n1 : I' a = I a := hfr a (by omega)
                have n2 : I' (a + 1) = I (a + 1) := hfr _ (by omega)
                have n3 : I' (a + 3) = I (a + 3) := hfr _ (by omega)
                have n4 : I' (a + 4) = I (a + 4) := hfr _ (by omega)
                have n5 : I' (a + 5) = I (a + 5) := hfr _ (by omega)
                have hnm : nmC I' a p (-cd) = nmC I a p (-cd) := by unfold nmC; rw [n1, n2, n3, n4, n5]
                refine p_named hv (by rw [n1]; exact hn) h8 hp (by rw [n1]; exact htd) (by rw [n1]; exact htd0) ?_
                rw [hnm]
                exact go _ (by simp [c8])
          simp only [gX1_workedOut_170]
          by_cases c6 : 0 ≤ cd
          · simp only [c6, if_true]
            exact h184 (Or.inl c6)
          · simp only [c6, if_false]
            simp only [gX1_workedOut_175]
            refine p_isName ?_
            by_cases c7 : isN (-cd) = true
            · simp only [c7, if_true, Option.toList_some, List.cons_append, List.nil_append, gX1_workedOut_181, show ¬ (1 : Int32) = 0 by decide, if_false]
              exact h184 (Or.inr c7)
            · simp only [c7, if_false, Option.toList_some, List.cons_append, List.nil_append, gX1_workedOut_181, if_true, Bool.false_eq_true]
              have c8 : ¬ (0 ≤ cd ∨ isN (-cd) = true) := fun q => q.elim c6 c7
              simp only [gX1_workedOut_220]
              match top, htop with
              | 0, htop =>
                simp only [show nI 0 ≤ 1 by decide, if_true, gX1_workedOut_256, nI_1]
                refine ih (i + 1) 0 true I' _ (by omega) htop hfr (fun I'' h'' => ?_)
                have := k I'' h''
                rw [wk_succ, hcd, if_neg (by decide), if_neg c1, if_neg c2, if_neg c3, if_neg c8] at this
                exact this
              | 1, htop =>
                simp only [show nI 1 ≤ 1 by decide, if_true, gX1_workedOut_256, nI_1]
                refine ih (i + 1) 1 true I' _ (by omega) htop hfr (fun I'' h'' => ?_)
                have := k I'' h''
                rw [wk_succ, hcd, if_neg (by decide), if_neg c1, if_neg c2, if_neg c3, if_neg c8] at this
                exact this
              | t + 2, htop =>
                simp only [show ¬ nI (t + 2) ≤ (1 : Int32) from nI_ge (a := 1) (by omega) (by omega), if_false]
                simp only [gX1_workedOut_225, nI_m1, t0, true_and, r1, rf_some, nI_pred, rIn_at t2 (show t < 121 by omega) (by decide), rIn_at t2 (show t + 1 < 121 by omega) (by decide), nI_clamp (show t < 2 ^ 31 by omega), nI_clamp (show t + 1 < 2 ^ 31 by omega)]
                refine p_joined ?_
                simp only [Option.toList_some, List.cons_append, List.nil_append, gX1_workedOut_255, gX1_workedOut_256, rIn_at t2 (show t < 121 by omega) (by decide), true_and, nI_clamp (show t < 2 ^ 31 by omega), nI_1]
                refine ih (i + 1) (t + 1) true _ _ (by omega) (by omega) (fun x hx => by rw [up_ne _ _ hx]; exact hfr x hx) (fun I'' h'' => ?_)
                have := k I'' h''
                rw [wk_succ, hcd, if_neg (by decide), if_neg c1, if_neg c2, if_neg c3, if_neg c8] at this
                simp only [stk] at this ⊢
                rw [up_self, up_self, stk_up (Nat.le_refl t)]
                exact this
  simp only [gX1_workedOut_0]
  exact key sz 0 0 true I _ (by omega) (by omega) (fun _ _ => rfl) k
end PL
