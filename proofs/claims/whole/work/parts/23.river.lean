/-! PURE: the River's other methods -/
def ovS (n : Nat) (r : Nat → Nat → Int32) : Nat → Int32
  | 0 => 0
  | i + 1 => ovS n r i ||| (if r 0 i < r 1 i then 0 else (1 : Int32) <<< (nI i &&& 31))
def tgS (r : Nat → Nat → Int32) : Nat → Int64
  | 0 => 0
  | i + 1 => (tgS r i <<< ((7 : Int32).toInt64 &&& 63)) ||| (r 0 i).toInt64
def smS (r : Nat → Nat → Int32) : Nat → Int32
  | 0 => 0
  | i + 1 => smS r i + r 0 i
section PR
variable {X : tX} {T : tT} {I : tI} {J : tJ} {R : tR} {Q : tQ} {d a b c p n sz t D : Nat} {σ : rS}
theorem p_pass (hw : IsLaw T R b) (hv : IsRiv T R a) (hab : a + 6 < b) (hs : I b 2 = nI sz) (hsz : sz ≤ 121) (hn : I a 8 = nI n) (h8 : n ≤ 8) (ht : I a 7 = nI t) (h7 : t < 7) (hD : D < 2 ^ 31)
    (k : ∀ (I' : tI) (t' : Nat), (∀ x, x ≠ a → x ≠ a + 1 → x ≠ a + 6 → x ≠ b + 2 → I' x = I x) → I' a 8 = nI n → I' a 7 = nI t' → t' < 7 → can n (vw I' a) = itS (cLw I b) n D (can n (vw I a)) → (∀ i, i < n → D ≠ 0 → I' (a + 6) i = goS (cLw I b) n (itS (cLw I b) n (D - 1) (can n (vw I a))) i) → Q none (T, I', J, R)) :
    Ex X (d + 3) mX3_pass 0 [.ref a, .int (nI D), .ref b, rU, rU, rU] [] (T, I, J, R) Q := by
  generalize hr : can n (vw I a) = r at k
  generalize hl : cLw I b = l at k
  have key : ∀ j, j ≤ D → ∀ (I1 : tI) (v4 v5 : Value) (t1 : Nat), (∀ x, x ≠ a → x ≠ a + 1 → x ≠ a + 6 → x ≠ b + 2 → I1 x = I x) → I1 a 8 = nI n → I1 a 7 = nI t1 → t1 < 7 → can n (vw I1 a) = itS l n j r → (∀ i, i < n → j ≠ 0 → I1 (a + 6) i = goS l n (itS l n (j - 1) r) i) →
      Ex X (d + 3) mX3_pass 2 [.ref a, .int (nI D), .ref b, .int (nI j), v4, v5] [] (T, I1, J, R) Q := by
    refine loop_up (P := fun j => ∀ (I1 : tI) (v4 v5 : Value) (t1 : Nat), (∀ x, x ≠ a → x ≠ a + 1 → x ≠ a + 6 → x ≠ b + 2 → I1 x = I x) → I1 a 8 = nI n → I1 a 7 = nI t1 → t1 < 7 → can n (vw I1 a) = itS l n j r → (∀ i, i < n → j ≠ 0 → I1 (a + 6) i = goS l n (itS l n (j - 1) r) i) →
      Ex X (d + 3) mX3_pass 2 [.ref a, .int (nI D), .ref b, .int (nI j), v4, v5] [] (T, I1, J, R) Q) (n := D) ?_ ?_
    · intro I1 v4 v5 t1 hf hn1 ht1 h71 hc hw1
      simp only [gX3_pass_2, nI_le (Nat.le_refl D) hD, if_true, gX3_pass_132]
      exact k I1 t1 hf hn1 ht1 h71 hc hw1
    · intro j hj ih I1 v4 v5 t1 hf hn1 ht1 h71 hc hw1
      simp only [gX3_pass_2, nI_ge hj hD, if_false]
      have eL : cLw I1 b = l := by rw [← hl]; exact cLw_eq (hf b (by omega) (by omega) (by omega) (by omega)) (hf (b + 1) (by omega) (by omega) (by omega) (by omega))
      refine p_day hw hv hab (by rw [hf b (by omega) (by omega) (by omega) (by omega)]; exact hs) hsz hn1 h8 ht1 h71 (fun I2 w4 w5 hf2 hn2 ht2 hc2 hw2 => ?_)
      rw [nI_1]
      rw [eL, hc] at hc2 hw2
      refine ih I2 w4 w5 ((t1 + 1) % 7) (fun x x0 x1 x6 xb => (hf2 x x0 x1 x6 xb).trans (hf x x0 x1 x6 xb)) hn2 ht2 (by omega) (by rw [hc2, it_succ]) (fun i hi _ => hw2 i hi)
  simp only [gX3_pass_0]
  exact key 0 (by omega) I _ _ t (fun _ _ _ _ _ => rfl) hn ht h7 hr (fun _ _ h => absurd rfl h)
theorem p_overBits (hv : IsRiv T R a) (hn : I a 8 = nI n) (h8 : n ≤ 8) (k : Q (some (.int (ovS n (can n (vw I a)) n))) (T, I, J, R)) : Ex X d mX3_overBits 0 [.ref a, rU, rU] [] (T, I, J, R) Q := by
  obtain ⟨t0, t1, t2, t3, t4, t5, t6, r0, r1, r2, r3, r4, r5⟩ := hv
  simp only [gX3_overBits_0]
  refine loop_up (P := fun i => Ex X d mX3_overBits 4 [.ref a, .int (ovS n (can n (vw I a)) i), .int (nI i)] [] (T, I, J, R) Q) (n := n) ?_ ?_ 0 (by omega)
  · simp only [gX3_overBits_4, gX3_overBits_43, t0, hn, true_and, nI_le (Nat.le_refl n) (by omega), if_true]
    exact k
  · intro i hi ih
    have e0 : can n (vw I a) 0 i = I (a + 1) i := by rw [can_lt (by decide) hi]; rfl
    have e1 : can n (vw I a) 1 i = I (a + 2) i := by rw [can_lt (by decide) hi]; rfl
    simp only [gX3_overBits_4, t0, hn, true_and, nI_ge hi (by omega), if_false]
    simp only [gX3_overBits_12, t0, true_and, r0, r1, rf_some, rIn_at t1 (show i < 8 by omega) (by decide), rIn_at t2 (show i < 8 by omega) (by decide), nI_clamp (show i < 2 ^ 31 by omega)]
    rw [ovS, e0, e1] at ih
    by_cases h : I (a + 1) i < I (a + 2) i
    · simp only [h, if_true] at ih ⊢
      simp only [gX3_overBits_34, gX3_overBits_35, nI_1]
      exact ih
    · simp only [h, if_false] at ih ⊢
      simp only [gX3_overBits_28, gX3_overBits_35, nI_1]
      exact ih
theorem p_levelAll (hv : IsRiv T R a) (hn : I a 8 = nI n) (h8 : n ≤ 8) (k : Q (some (.int (smS (can n (vw I a)) n))) (T, I, J, R)) : Ex X d mX3_levelOfAll 0 [.ref a, rU, rU] [] (T, I, J, R) Q := by
  refine p_levelOfAll hv hn h8 ?_
  have : ∀ i, i ≤ n → sumF (I (a + 1)) i = smS (can n (vw I a)) i := by
    intro i
    induction i with
    | zero => intro _; rfl
    | succ i ih =>
      intro hi
      rw [sumF, smS, ih (by omega), can_lt (by decide) (by omega)]
      rfl
  rw [this n (Nat.le_refl n)]
  exact k
theorem p_levelsTogether (hv : IsRiv T R a) (hn : I a 8 = nI n) (h8 : n ≤ 8) (k : Q (some (.long (tgS (can n (vw I a)) n))) (T, I, J, R)) : Ex X d mX3_levelsTogether 0 [.ref a, rU, rU, rU] [] (T, I, J, R) Q := by
  obtain ⟨t0, t1, t2, t3, t4, t5, t6, r0, r1, r2, r3, r4, r5⟩ := hv
  simp only [gX3_levelsTogether_0]
  refine loop_up (P := fun i => Ex X d mX3_levelsTogether 4 [.ref a, .long (tgS (can n (vw I a)) i), rU, .int (nI i)] [] (T, I, J, R) Q) (n := n) ?_ ?_ 0 (by omega)
  · simp only [gX3_levelsTogether_4, gX3_levelsTogether_31, t0, hn, true_and, nI_le (Nat.le_refl n) (by omega), if_true]
    exact k
  · intro i hi ih
    have e0 : can n (vw I a) 0 i = I (a + 1) i := by rw [can_lt (by decide) hi]; rfl
    simp only [gX3_levelsTogether_4, t0, hn, true_and, nI_ge hi (by omega), if_false]
    simp only [gX3_levelsTogether_12, t0, true_and, r0, rf_some, rIn_at t1 (show i < 8 by omega) (by decide), nI_clamp (show i < 2 ^ 31 by omega), nI_1]
    rw [tgS, e0] at ih
    exact ih
theorem clamp_0 : (0 : Int32).toNatClampNeg = 0 := by decide
theorem z_lt0 : ¬ (0 : Int32) < 0 := by decide
theorem cpy_lt {f g : Nat → Int32} {n i : Nat} (h : i < n) : va_cpy f g 0 0 n i = f i := by
  unfold va_cpy
  rw [if_pos ⟨Nat.zero_le _, by omega⟩]
  simp
theorem p_takeWhat (hv : IsRiv T R a) (hv2 : IsRiv T R c) (hac : a + 6 < c ∨ c + 6 < a) (hn : I c 8 = nI n) (h8 : n ≤ 8)
    (k : ∀ I' : tI, (∀ x, x ≠ a → x ≠ a + 1 → x ≠ a + 3 → x ≠ a + 4 → I' x = I x) → (∀ i, i < n → I' (a + 1) i = I (c + 1) i ∧ I' (a + 3) i = I (c + 3) i ∧ I' (a + 4) i = I (c + 4) i) → (∀ i, n ≤ i → I' (a + 1) i = I (a + 1) i ∧ I' (a + 3) i = I (a + 3) i ∧ I' (a + 4) i = I (a + 4) i) → (∀ i, i ≠ 7 → I' a i = I a i) → I' a 7 = I c 7 → Q none (T, I', J, R)) :
    Ex X (d + 1) mX3_takeWhatDeedsChange 0 [.ref a, .ref c] [] (T, I, J, R) Q := by
  obtain ⟨t0, t1, t2, t3, t4, t5, t6, r0, r1, r2, r3, r4, r5⟩ := hv
  obtain ⟨u0, u1, u2, u3, u4, u5, u6, s0, s1, s2, s3, s4, s5⟩ := hv2
  have hc : (nI n).toNatClampNeg = n := nI_clamp (by omega)
  have hp : ¬ nI n < 0 := nI_pos (by omega)
  simp only [gX3_takeWhatDeedsChange_0, t0, u0, true_and, r0, s0, rf_some, hn]
  rw [cX3_takeWhatDeedsChange_14 u1 t1 ⟨z_lt0, z_lt0, hp⟩ (by rw [hc, clamp_0]; omega)]
  have n1 : va_up I (a + 1) (va_cpy (I (c + 1)) (I (a + 1)) (0 : Int32).toNatClampNeg (0 : Int32).toNatClampNeg (nI n).toNatClampNeg) c = I c := up_ne _ _ (by omega)
  simp only [gX3_takeWhatDeedsChange_0, t0, u0, true_and, r2, s2, rf_some, n1, hn]
  rw [cX3_takeWhatDeedsChange_31 u3 t3 ⟨z_lt0, z_lt0, hp⟩ (by rw [hc, clamp_0]; omega)]
  simp only [gX3_takeWhatDeedsChange_0, t0, u0, true_and, r3, s3, rf_some, up_ne _ _ (show c ≠ a + 3 by omega), n1, hn]
  rw [cX3_takeWhatDeedsChange_48 u4 t4 ⟨z_lt0, z_lt0, hp⟩ (by rw [hc, clamp_0]; omega)]
  simp only [gX3_takeWhatDeedsChange_0, t0, u0, true_and, hc, clamp_0]
  refine k _ ?_ ?_ ?_ ?_ ?_
  · intro x x0 x1 x3 x4
    rw [up_ne _ _ x0, up_ne _ _ x4, up_ne _ _ x3, up_ne _ _ x1]
  · intro i hi
    refine ⟨?_, ?_, ?_⟩
    · rw [up_ne _ _ (by omega), up_ne _ _ (by omega), up_ne _ _ (by omega), up_self, cpy_lt hi]
    · rw [up_ne _ _ (by omega), up_ne _ _ (by omega), up_self, cpy_lt hi, up_ne _ _ (by omega)]
    · rw [up_ne _ _ (by omega), up_self, cpy_lt hi, up_ne _ _ (by omega), up_ne _ _ (by omega)]
  · intro i hi
    have e : ∀ f g : Nat → Int32, va_cpy f g 0 0 n i = g i := fun f g => by unfold va_cpy; rw [if_neg (by omega)]
    refine ⟨?_, ?_, ?_⟩
    · rw [up_ne _ _ (by omega), up_ne _ _ (by omega), up_ne _ _ (by omega), up_self, e]
    · rw [up_ne _ _ (by omega), up_ne _ _ (by omega), up_self, e, up_ne _ _ (by omega)]
    · rw [up_ne _ _ (by omega), up_self, e, up_ne _ _ (by omega), up_ne _ _ (by omega)]
  · intro i hi
    rw [up_self, up_ne _ _ hi, up_ne _ _ (by omega), up_ne _ _ (by omega), up_ne _ _ (by omega)]
  · rw [up_self, up_self, up_ne _ _ (by omega), up_ne _ _ (by omega), up_ne _ _ (by omega)]
end PR
