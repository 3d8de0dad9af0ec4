/-! PURE: the River grows, is taken -/
def lenS (n : Nat) (r : Nat → Nat → Int32) (lv bk gf : Int32) : Nat → Nat → Int32 := can (n + 1) (fun k i => if k < 4 ∧ i = n then (if k = 0 then lv else if k = 1 then bk else if k = 2 then 0 else gf) else r k i)
section PT
variable {X : tX} {T : tT} {I : tI} {J : tJ} {R : tR} {Q : tQ} {d a b c p n sz t D L0 : Nat} {σ : rS} {xs : Nat → Int32}
theorem p_isFull (hv : IsRiv T R a) (hn : I a 8 = nI n) (h8 : n ≤ 8) (k : Q (some (.int (if n = 8 then 1 else 0))) (T, I, J, R)) : Ex X d mX3_isFull 0 [.ref a] [] (T, I, J, R) Q := by
  obtain ⟨t0, -⟩ := hv
  simp only [gX3_isFull_0, t0, true_and, hn]
  by_cases h : n = 8
  · subst h
    simp only [show ¬ nI 8 < 8 by decide, if_false, gX3_isFull_9, gX3_isFull_14, or_true, true_and, if_true] at k ⊢
    exact k
  · simp only [show nI n < 8 from nI_lt (b := 8) (by omega) (by decide), if_true, gX3_isFull_13, gX3_isFull_14, true_or, true_and, h, if_false] at k ⊢
    exact k
theorem p_lengthen {lv bk gf : Int32} (hv : IsRiv T R a) (hn : I a 8 = nI n) (h8 : n < 8)
    (k : ∀ I' : tI, (∀ x, x < a ∨ a + 4 < x → I' x = I x) → I' a 8 = nI (n + 1) → (∀ i, i ≠ 8 → I' a i = I a i) → can (n + 1) (vw I' a) = lenS n (can n (vw I a)) lv bk gf → Q (some (.int (nI n))) (T, I', J, R)) :
    Ex X (d + 1) mX3_lengthen 0 [.ref a, .int lv, .int bk, .int gf] [] (T, I, J, R) Q := by
  obtain ⟨t0, t1, t2, t3, t4, t5, t6, r0, r1, r2, r3, r4, r5⟩ := id hv
  have hcl : (nI n).toNatClampNeg = n := nI_clamp (by omega)
  simp only [gX3_lengthen_0, t0, true_and]
  refine p_isFull hv hn (by omega) ?_
  simp only [show ¬ n = 8 by omega, if_false, Option.toList_some, List.cons_append, List.nil_append, gX3_lengthen_4, if_true]
  simp only [gX3_lengthen_10, t0, true_and, r0, r1, r2, r3, rf_some, hn, hcl, nI_1, rIn_at t1 h8 (by decide), rIn_at t2 h8 (by decide), rIn_at t3 h8 (by decide), rIn_at t4 h8 (by decide), up_ne _ _ (show a ≠ a + 1 by omega), up_ne _ _ (show a ≠ a + 2 by omega), up_ne _ _ (show a ≠ a + 3 by omega), up_ne _ _ (show a ≠ a + 4 by omega), up_ne _ _ (show a + 2 ≠ a + 1 by omega), up_ne _ _ (show a + 3 ≠ a + 1 by omega), up_ne _ _ (show a + 4 ≠ a + 1 by omega), up_ne _ _ (show a + 3 ≠ a + 2 by omega), up_ne _ _ (show a + 4 ≠ a + 2 by omega), up_ne _ _ (show a + 4 ≠ a + 3 by omega)]
  refine k _ ?_ ?_ ?_ ?_
  · intro x hx
    rw [up_ne _ _ (by omega), up_ne _ _ (by omega), up_ne _ _ (by omega), up_ne _ _ (by omega), up_ne _ _ (by omega)]
  · rw [up_self, up_self]
  · intro i hi
    rw [up_self, up_ne _ _ hi]
  · funext q i
    unfold lenS
    by_cases hval : (q < 4 ∧ i < n + 1) ∨ (q = 4 ∧ i < 7) ∨ (q = 5 ∧ i < 2)
    · unfold can
      rw [if_pos hval, if_pos hval]
      dsimp only
      rcases hval with ⟨hq, hi⟩ | ⟨rfl, hi⟩ | ⟨rfl, hi⟩
      · have hq' : q = 0 ∨ q = 1 ∨ q = 2 ∨ q = 3 := by omega
        by_cases hin : i = n
        · subst hin
          rw [if_pos ⟨hq, rfl⟩]
          rcases hq' with rfl | rfl | rfl | rfl
          · show (va_up _ a _ : tI) (a + 1) i = lv
            rw [up_ne _ _ (by omega), up_ne _ _ (by omega), up_ne _ _ (by omega), up_ne _ _ (by omega), up_self, up_self]
          · show (va_up _ a _ : tI) (a + 2) i = bk
            rw [up_ne _ _ (by omega), up_ne _ _ (by omega), up_ne _ _ (by omega), up_self, up_self]
          · show (va_up _ a _ : tI) (a + 3) i = 0
            rw [up_ne _ _ (by omega), up_ne _ _ (by omega), up_self, up_self]
          · show (va_up _ a _ : tI) (a + 4) i = gf
            rw [up_ne _ _ (by omega), up_self, up_self]
        · rw [if_neg (by omega), if_pos (Or.inl ⟨hq, by omega⟩)]
          rcases hq' with rfl | rfl | rfl | rfl
          · show (va_up _ a _ : tI) (a + 1) i = I (a + 1) i
            rw [up_ne _ _ (by omega), up_ne _ _ (by omega), up_ne _ _ (by omega), up_ne _ _ (by omega), up_self, up_ne _ _ hin]
          · show (va_up _ a _ : tI) (a + 2) i = I (a + 2) i
            rw [up_ne _ _ (by omega), up_ne _ _ (by omega), up_ne _ _ (by omega), up_self, up_ne _ _ hin]
          · show (va_up _ a _ : tI) (a + 3) i = I (a + 3) i
            rw [up_ne _ _ (by omega), up_ne _ _ (by omega), up_self, up_ne _ _ hin]
          · show (va_up _ a _ : tI) (a + 4) i = I (a + 4) i
            rw [up_ne _ _ (by omega), up_self, up_ne _ _ hin]
      · rw [if_neg (by omega), if_pos (Or.inr (Or.inl ⟨rfl, hi⟩))]
        show (va_up _ a _ : tI) (a + 5) i = I (a + 5) i
        rw [up_ne _ _ (by omega), up_ne _ _ (by omega), up_ne _ _ (by omega), up_ne _ _ (by omega), up_ne _ _ (by omega)]
      · rw [if_neg (by omega), if_pos (Or.inr (Or.inr ⟨rfl, hi⟩))]
        show (va_up _ a _ : tI) a (6 + i) = I a (6 + i)
        rw [up_self, up_ne _ _ (by omega)]
    · unfold can
      rw [if_neg hval, if_neg hval]
theorem p_take (hv : IsRiv T R a) (hv2 : IsRiv T R c) (hac : a + 6 < c ∨ c + 6 < a) (hn : I c 8 = nI n) (h8 : n ≤ 8)
    (k : ∀ I' : tI, (∀ x, x < a ∨ a + 5 < x → I' x = I x) → I' a 8 = nI n → I' a 7 = I c 7 → can n (vw I' a) = can n (vw I c) → Q none (T, I', J, R)) :
    Ex X (d + 2) mX3_take 0 [.ref a, .ref c] [] (T, I, J, R) Q := by
  obtain ⟨t0, t1, t2, t3, t4, t5, t6, r0, r1, r2, r3, r4, r5⟩ := id hv
  obtain ⟨u0, u1, u2, u3, u4, u5, u6, s0, s1, s2, s3, s4, s5⟩ := id hv2
  have hc : (nI n).toNatClampNeg = n := nI_clamp (by omega)
  have hp : ¬ nI n < 0 := nI_pos (by omega)
  have c7 : (7 : Int32).toNatClampNeg = 7 := by decide
  simp only [gX3_take_0, t0, u0, true_and, hn]
  refine p_takeWhat hv hv2 hac (by rw [up_ne _ _ (by omega)]; exact hn) h8 (fun I1 f1 lo hi f7 e7 => ?_)
  have e8 : I1 a 8 = nI n := by rw [f7 8 (by decide), up_self, up_self]
  simp only [Option.toList_none, List.nil_append, gX3_take_13, t0, u0, true_and, r1, s1, rf_some, e8]
  rw [cX3_take_27 u2 t2 ⟨z_lt0, z_lt0, hp⟩ (by rw [hc, clamp_0]; omega)]
  simp only [gX3_take_13, t0, u0, true_and, r4, s4, rf_some]
  rw [cX3_take_42 u5 t5 ⟨z_lt0, z_lt0, by decide⟩ (by rw [c7, clamp_0]; omega)]
  simp only [gX3_take_13, t0, u0, true_and, hc, c7, clamp_0]
  have fc : ∀ x, c ≤ x → x ≤ c + 5 → I1 x = I x := fun x h1 h2 => by rw [f1 x (by omega) (by omega) (by omega) (by omega), up_ne _ _ (by omega)]
  refine k _ ?_ ?_ ?_ ?_
  · intro x hx
    rw [up_ne _ _ (by omega), up_ne _ _ (by omega), up_ne _ _ (by omega), f1 x (by omega) (by omega) (by omega) (by omega), up_ne _ _ (by omega)]
  · rw [up_self, up_ne _ _ (by decide), up_ne _ _ (by omega), up_ne _ _ (by omega)]
    exact e8
  · rw [up_self, up_ne _ _ (by decide), up_ne _ _ (by omega), up_ne _ _ (by omega), e7, up_ne _ _ (by omega)]
  · funext q i
    by_cases hval : (q < 4 ∧ i < n) ∨ (q = 4 ∧ i < 7) ∨ (q = 5 ∧ i < 2)
    · unfold can
      rw [if_pos hval, if_pos hval]
      rcases hval with ⟨hq, hi'⟩ | ⟨rfl, hi'⟩ | ⟨rfl, hi'⟩
      · have hq' : q = 0 ∨ q = 1 ∨ q = 2 ∨ q = 3 := by omega
        obtain ⟨l1, l3, l4⟩ := lo i hi'
        rcases hq' with rfl | rfl | rfl | rfl
        · show (va_up _ a _ : tI) (a + 1) i = I (c + 1) i
          rw [up_ne _ _ (by omega), up_ne _ _ (by omega), up_ne _ _ (by omega), l1, up_ne _ _ (by omega)]
        · show (va_up _ a _ : tI) (a + 2) i = I (c + 2) i
          rw [up_ne _ _ (by omega), up_ne _ _ (by omega), up_self, cpy_lt hi', fc (c + 2) (by omega) (by omega)]
        · show (va_up _ a _ : tI) (a + 3) i = I (c + 3) i
          rw [up_ne _ _ (by omega), up_ne _ _ (by omega), up_ne _ _ (by omega), l3, up_ne _ _ (by omega)]
        · show (va_up _ a _ : tI) (a + 4) i = I (c + 4) i
          rw [up_ne _ _ (by omega), up_ne _ _ (by omega), up_ne _ _ (by omega), l4, up_ne _ _ (by omega)]
      · show (va_up _ a _ : tI) (a + 5) i = I (c + 5) i
        rw [up_ne _ _ (by omega), up_self, cpy_lt hi', up_ne _ _ (by omega), fc (c + 5) (by omega) (by omega)]
      · have hi2 : i = 0 ∨ i = 1 := by omega
        rcases hi2 with rfl | rfl
        · show (va_up _ a _ : tI) a 6 = I c 6
          rw [up_self, up_self, up_ne _ _ (by omega), up_ne _ _ (by omega), fc c (by omega) (by omega)]
        · show (va_up _ a _ : tI) a 7 = I c 7
          rw [up_self, up_ne _ _ (by decide), up_ne _ _ (by omega), up_ne _ _ (by omega), e7, up_ne _ _ (by omega)]
    · unfold can
      rw [if_neg hval, if_neg hval]
end PT
