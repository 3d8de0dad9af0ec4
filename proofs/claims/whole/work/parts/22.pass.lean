/-! PURE: a day passes, by the class -/
/-- a River's numbers: 0 levels, 1 banks, 2 bridges, 3 gifts, 4 rain, 5 spring and today -/
def vw (I : tI) (a : Nat) : Nat → Nat → Int32 := fun k i => if k = 0 then I (a + 1) i else if k = 1 then I (a + 2) i else if k = 2 then I (a + 3) i else if k = 3 then I (a + 4) i else if k = 4 then I (a + 5) i else if k = 5 then I a (6 + i) else 0
/-- those that count, of n reaches -/
def can (n : Nat) (r : Nat → Nat → Int32) : Nat → Nat → Int32 := fun k i => if (k < 4 ∧ i < n) ∨ (k = 4 ∧ i < 7) ∨ (k = 5 ∧ i < 2) then r k i else 0
def nmS (n : Nat) (r : Nat → Nat → Int32) (p : Nat) (c : Int32) : Int32 :=
  if c = 98 then r 2 p else if c = 103 then r 3 p else if c = 108 then r 0 p else if c = 110 then (if n ≤ p + 1 then 0 else r 0 (p + 1)) else if c = 114 then r 4 (r 5 1).toNatClampNeg else r 5 1
abbrev tL : Type := Option ((Int32 → Int32) → Int32)
def tdS (l : tL) (n : Nat) (r : Nat → Nat → Int32) (p : Nat) : Int32 := match l with
  | none => r 0 p / 5 - 2 * r 2 p - r 3 p / 3
  | some f => f (nmS n r p)
def goS (l : tL) (n : Nat) (r : Nat → Nat → Int32) (p : Nat) : Int32 := if r 0 p < wi (tdS l n r p) 0 20 then r 0 p else wi (tdS l n r p) 0 20
def cLw (I : tI) (b : Nat) : tL := if I b 2 = 0 then none else some (fun nm => wk (I (b + 1)) nm (I b 2).toNatClampNeg 0 [] true)
def dayS (l : tL) (n : Nat) (r : Nat → Nat → Int32) : Nat → Nat → Int32 := can n (fun k i => if k = 0 then wi (r 0 i + r 4 (r 5 1).toNatClampNeg + (if i = 0 then r 5 0 else goS l n r (i - 1)) - goS l n r i) 0 99 else if k = 5 ∧ i = 1 then r 5 1 + 1 - (r 5 1 + 1) / 7 * 7 else r k i)
def itS (l : tL) (n : Nat) : Nat → (Nat → Nat → Int32) → Nat → Nat → Int32
  | 0, r => r
  | m + 1, r => itS l n m (dayS l n r)
theorem can_can (n : Nat) (r : Nat → Nat → Int32) : can n (can n r) = can n r := by
  funext k i
  unfold can
  split <;> rfl
theorem can_lt {n : Nat} {r : Nat → Nat → Int32} {k i : Nat} (hk : k < 4) (hi : i < n) : can n r k i = r k i := by
  unfold can
  rw [if_pos (Or.inl ⟨hk, hi⟩)]
theorem can_4 {n : Nat} {r : Nat → Nat → Int32} {i : Nat} (hi : i < 7) : can n r 4 i = r 4 i := by
  unfold can
  rw [if_pos (Or.inr (Or.inl ⟨rfl, hi⟩))]
theorem can_5 {n : Nat} {r : Nat → Nat → Int32} {i : Nat} (hi : i < 2) : can n r 5 i = r 5 i := by
  unfold can
  rw [if_pos (Or.inr (Or.inr ⟨rfl, hi⟩))]
theorem can_day (l : tL) (n : Nat) (r : Nat → Nat → Int32) : can n (dayS l n r) = dayS l n r := can_can n _
theorem can_it (l : tL) (n : Nat) : ∀ (m : Nat) {r : Nat → Nat → Int32}, can n r = r → can n (itS l n m r) = itS l n m r
  | 0, _, h => h
  | m + 1, r, _ => can_it l n m (can_day l n r)
theorem it_succ (l : tL) (n : Nat) : ∀ (m : Nat) (r : Nat → Nat → Int32), itS l n (m + 1) r = dayS l n (itS l n m r)
  | 0, _ => rfl
  | m + 1, r => by
    show itS l n (m + 1) (dayS l n r) = dayS l n (itS l n m (dayS l n r))
    exact it_succ l n m (dayS l n r)
theorem nmC_S {I : tI} {a n p t : Nat} (hn : I a 8 = nI n) (h8 : n ≤ 8) (hp : p < n) (ht : I a 7 = nI t) (h7 : t < 7) : nmC I a p = nmS n (can n (vw I a)) p := by
  have e5 : can n (vw I a) 5 1 = nI t := by rw [can_5 (by decide), ← ht]; rfl
  have hcl : (nI t).toNatClampNeg = t := nI_clamp (by omega)
  funext c
  unfold nmC nmS
  rw [e5, hcl, can_lt (by decide) hp, can_lt (by decide) hp, can_lt (by decide) hp, can_4 h7, hn, ht, hcl]
  have h1 : (nI n ≤ nI (p + 1)) ↔ n ≤ p + 1 := nI_leI (by omega) (by omega)
  simp only [h1]
  by_cases h2 : n ≤ p + 1
  · simp only [h2, if_true]
    rfl
  · simp only [h2, if_false]
    rw [can_lt (by decide) (show p + 1 < n by omega)]
    rfl
theorem cLw_eq {I I' : tI} {b : Nat} (h0 : I' b = I b) (h1 : I' (b + 1) = I (b + 1)) : cLw I' b = cLw I b := by
  unfold cLw
  rw [h0, h1]
theorem vw_eq {I I' : tI} {a : Nat} (h : ∀ x, a ≤ x → x ≤ a + 5 → I' x = I x) : vw I' a = vw I a := by
  funext k i
  unfold vw
  rw [h a (by omega) (by omega), h (a + 1) (by omega) (by omega), h (a + 2) (by omega) (by omega), h (a + 3) (by omega) (by omega), h (a + 4) (by omega) (by omega), h (a + 5) (by omega) (by omega)]
theorem rem7 {t : Nat} (h : t < 7) : nI t + 1 - (nI t + 1) / 7 * 7 = nI ((t + 1) % 7) := by
  rw [nI_1]
  exact pk_rem (d := 7) (by omega) (by decide) (by decide)
section PP
variable {X : tX} {T : tT} {I : tI} {J : tJ} {R : tR} {Q : tQ} {d a b p n sz t : Nat} {σ : rS}
theorem p_outOf (hw : IsLaw T R b) (hv : IsRiv T R a) (hab : a + 6 < b) (hs : I b 2 = nI sz) (hsz : sz ≤ 121) (hn : I a 8 = nI n) (h8 : n ≤ 8) (hp : p < n) (ht : I a 7 = nI t) (h7 : t < 7)
    (k : ∀ I' : tI, (∀ x, x ≠ b + 2 → I' x = I x) → Q (some (.int (goS (cLw I b) n (can n (vw I a)) p))) (T, I', J, R)) : Ex X (d + 2) mX1_outOf 0 [.ref b, .ref a, .int (nI p), rU] [] (T, I, J, R) Q := by
  have hcl : (nI t).toNatClampNeg = t := nI_clamp (by omega)
  obtain ⟨t0, t1, t2, r0, r1⟩ := id hw
  have fin : ∀ (w : Int32) (I' : tI), (∀ x, x ≠ b + 2 → I' x = I x) → w = tdS (cLw I b) n (can n (vw I a)) p → Ex X (d + 2) mX1_outOf 21 [.ref b, .ref a, .int (nI p), rU] [.int w] (T, I', J, R) Q := by
    intro w I' hfr hw2
    obtain ⟨v0, v1, -, -, -, -, -, s0, -⟩ := id hv
    simp only [gX1_outOf_21]
    refine p_within ?_
    simp only [Option.toList_some, List.cons_append, List.nil_append, gX1_outOf_29, v0, true_and, s0, rf_some, rIn_at v1 (show p < 8 by omega) (by decide), nI_clamp (show p < 2 ^ 31 by omega)]
    have := k I' hfr
    unfold goS at this
    rw [← hw2, can_lt (by decide) hp] at this
    rw [hfr (a + 1) (by omega)]
    exact this
  simp only [gX1_outOf_0, t0, true_and, hs]
  by_cases hz : nI sz = 0
  · simp only [hz, if_true]
    simp only [gX1_outOf_7]
    refine p_withoutText hv (by omega) ?_
    simp only [Option.toList_some, List.cons_append, List.nil_append, gX1_outOf_12]
    refine fin _ I (fun _ _ => rfl) ?_
    unfold cLw
    rw [hs, if_pos hz]
    show _ = can n (vw I a) 0 p / 5 - 2 * can n (vw I a) 2 p - can n (vw I a) 3 p / 3
    rw [can_lt (by decide) hp, can_lt (by decide) hp, can_lt (by decide) hp]
    rfl
  · simp only [hz, if_false]
    simp only [gX1_outOf_15, t0, true_and]
    refine p_workedOut hw hv hab hs hsz hn h8 hp (by rw [ht, hcl]; exact h7) (by rw [ht]; exact nI_pos (by omega)) (fun I' hfr => ?_)
    simp only [Option.toList_some, List.cons_append, List.nil_append]
    refine fin _ I' hfr ?_
    unfold cLw
    rw [hs, if_neg hz]
    show _ = wk (I (b + 1)) (nmS n (can n (vw I a)) p) (nI sz).toNatClampNeg 0 [] true
    rw [nI_clamp (by omega), nmC_S hn h8 hp ht h7]
set_option maxHeartbeats 4000000 in
/-- one day, from the head of the class's outer loop -/
theorem p_day {D w : Int32} {v4 v5 : Value} (hw : IsLaw T R b) (hv : IsRiv T R a) (hab : a + 6 < b) (hs : I b 2 = nI sz) (hsz : sz ≤ 121) (hn : I a 8 = nI n) (h8 : n ≤ 8) (ht : I a 7 = nI t) (h7 : t < 7)
    (k : ∀ (I' : tI) (v4 v5 : Value), (∀ x, x ≠ a → x ≠ a + 1 → x ≠ a + 6 → x ≠ b + 2 → I' x = I x) → I' a 8 = nI n → I' a 7 = nI ((t + 1) % 7) → can n (vw I' a) = dayS (cLw I b) n (can n (vw I a)) → (∀ i, i < n → I' (a + 6) i = goS (cLw I b) n (can n (vw I a)) i) → Ex X (d + 3) mX3_pass 2 [.ref a, .int D, .ref b, .int (w + 1), v4, v5] [] (T, I', J, R) Q) :
    Ex X (d + 3) mX3_pass 7 [.ref a, .int D, .ref b, .int w, v4, v5] [] (T, I, J, R) Q := by
  obtain ⟨t0, t1, t2, t3, t4, t5, t6, r0, r1, r2, r3, r4, r5⟩ := id hv
  obtain ⟨l0, l1, l2, -, -⟩ := id hw
  have hcl : (nI t).toNatClampNeg = t := nI_clamp (by omega)
  have e5 : can n (vw I a) 5 1 = nI t := by rw [can_5 (by decide), ← ht]; rfl
  generalize hr : can n (vw I a) = r at k e5
  generalize hl : cLw I b = l at k
  -- the second loop and what follows
  have two : ∀ (i : Nat), i ≤ n → ∀ (I2 : tI) (cm : Int32), (∀ x, x ≠ a + 1 → x ≠ a + 6 → x ≠ b + 2 → I2 x = I x) → (∀ j, j < n → I2 (a + 6) j = goS l n r j) → (∀ j, j < i → I2 (a + 1) j = dayS l n r 0 j) → (∀ j, i ≤ j → I2 (a + 1) j = I (a + 1) j) → cm = (if i = 0 then r 5 0 else goS l n r (i - 1)) →
      Ex X (d + 3) mX3_pass 48 [.ref a, .int D, .ref b, .int w, .int cm, .int (nI i)] [] (T, I2, J, R) Q := by
    refine loop_up (P := fun i => ∀ (I2 : tI) (cm : Int32), (∀ x, x ≠ a + 1 → x ≠ a + 6 → x ≠ b + 2 → I2 x = I x) → (∀ j, j < n → I2 (a + 6) j = goS l n r j) → (∀ j, j < i → I2 (a + 1) j = dayS l n r 0 j) → (∀ j, i ≤ j → I2 (a + 1) j = I (a + 1) j) → cm = (if i = 0 then r 5 0 else goS l n r (i - 1)) →
      Ex X (d + 3) mX3_pass 48 [.ref a, .int D, .ref b, .int w, .int cm, .int (nI i)] [] (T, I2, J, R) Q) (n := n) ?_ ?_
    · intro I2 cm hf h6 hlo hhi hcm
      have ea : I2 a = I a := hf a (by omega) (by omega) (by omega)
      simp only [gX3_pass_48, t0, true_and, ea, hn, nI_le (Nat.le_refl n) (by omega), if_true]
      simp only [gX3_pass_113, t0, true_and, show ¬ (7 : Int32) = 0 by decide, not_false_eq_true, ea, ht, rem7 h7]
      refine k _ _ _ (fun x x0 x1 x6 xb => by rw [up_ne _ _ x0]; exact hf x x1 x6 xb) ?_ ?_ ?_ ?_
      · rw [up_self, up_ne _ _ (by decide)]
        exact hn
      · rw [up_self, up_self]
      · funext q i
        unfold dayS
        by_cases hval : (q < 4 ∧ i < n) ∨ (q = 4 ∧ i < 7) ∨ (q = 5 ∧ i < 2)
        · unfold can
          rw [if_pos hval, if_pos hval]
          dsimp only
          rcases hval with ⟨hq, hi⟩ | ⟨rfl, hi⟩ | ⟨rfl, hi⟩
          · by_cases hq0 : q = 0
            · subst hq0
              rw [if_pos rfl]
              show va_up I2 a _ (a + 1) i = _
              rw [up_ne _ _ (by omega), hlo i hi]
              unfold dayS
              rw [can_lt (by decide) hi, if_pos rfl]
            · rw [if_neg hq0, if_neg (by omega)]
              rw [← hr, can_lt hq hi]
              unfold vw
              rw [if_neg hq0, if_neg hq0, up_ne _ _ (show a + 2 ≠ a by omega), up_ne _ _ (show a + 3 ≠ a by omega), up_ne _ _ (show a + 4 ≠ a by omega), up_ne _ _ (show a + 5 ≠ a by omega), hf (a + 2) (by omega) (by omega) (by omega), hf (a + 3) (by omega) (by omega) (by omega), hf (a + 4) (by omega) (by omega) (by omega), hf (a + 5) (by omega) (by omega) (by omega)]
              by_cases hq1 : q = 1
              · subst hq1; rfl
              by_cases hq2 : q = 2
              · subst hq2; rfl
              have hq3 : q = 3 := by omega
              subst hq3; rfl
          · rw [if_neg (by decide), if_neg (by omega), ← hr, can_4 hi]
            show va_up I2 a _ (a + 5) i = I (a + 5) i
            rw [up_ne _ _ (by omega), hf (a + 5) (by omega) (by omega) (by omega)]
          · rw [if_neg (by decide)]
            by_cases hi1 : i = 1
            · subst hi1
              rw [if_pos ⟨rfl, rfl⟩, e5, rem7 h7]
              show va_up I2 a _ a 7 = _
              rw [up_self, up_self]
            · have hi0 : i = 0 := by omega
              subst hi0
              rw [if_neg (by omega), ← hr, can_5 hi]
              show va_up I2 a _ a 6 = I a 6
              rw [up_self, up_ne _ _ (by decide)]
        · unfold can
          rw [if_neg hval, if_neg hval]
      · intro i hi
        rw [up_ne _ _ (by omega)]
        exact h6 i hi
    · intro i hi ih I2 cm hf h6 hlo hhi hcm
      have ea : I2 a = I a := hf a (by omega) (by omega) (by omega)
      have e5' : I2 (a + 5) = I (a + 5) := hf (a + 5) (by omega) (by omega) (by omega)
      have hci : (nI i).toNatClampNeg = i := nI_clamp (by omega)
      simp only [gX3_pass_48, t0, true_and, ea, hn, nI_ge hi (by omega), if_false]
      simp only [gX3_pass_57, t0, true_and, r0, r4, r5, rf_some, ea, ht, rIn_at t1 (show i < 8 by omega) (by decide), rIn_at t5 h7 (by decide), rIn_at t6 (show i < 8 by omega) (by decide), hci, hcl]
      refine p_within ?_
      simp only [Option.toList_none, Option.toList_some, List.cons_append, List.nil_append]
      simp only [gX3_pass_97, t0, true_and, r5, rf_some, rIn_at t1 (show i < 8 by omega) (by decide), rIn_at t6 (show i < 8 by omega) (by decide), hci, nI_1]
      rw [up_ne _ _ (show a + 6 ≠ a + 1 by omega), h6 i hi]
      refine ih _ _ (fun x x1 x6 xb => by rw [up_ne _ _ x1]; exact hf x x1 x6 xb) (fun j hj => by rw [up_ne _ _ (by omega)]; exact h6 j hj) ?_ ?_ (by rw [if_neg (by omega)]; rfl)
      · intro j hj
        rw [up_self]
        by_cases hji : j = i
        · subst hji
          rw [up_self, hhi j (Nat.le_refl j), e5', hcm]
          unfold dayS
          rw [can_lt (by decide) hi, if_pos rfl, e5, hcl, ← hr, can_lt (by decide) hi, can_4 h7]
          rfl
        · rw [up_ne _ _ hji]
          exact hlo j (by omega)
      · intro j hj
        rw [up_self, up_ne _ _ (by omega)]
        exact hhi j (by omega)
  -- the first loop
  have one : ∀ (i : Nat), i ≤ n → ∀ (I1 : tI) (v5 : Value), (∀ x, x ≠ a + 6 → x ≠ b + 2 → I1 x = I x) → (∀ j, j < i → I1 (a + 6) j = goS l n r j) →
      Ex X (d + 3) mX3_pass 10 [.ref a, .int D, .ref b, .int w, .int (nI i), v5] [] (T, I1, J, R) Q := by
    refine loop_up (P := fun i => ∀ (I1 : tI) (v5 : Value), (∀ x, x ≠ a + 6 → x ≠ b + 2 → I1 x = I x) → (∀ j, j < i → I1 (a + 6) j = goS l n r j) →
      Ex X (d + 3) mX3_pass 10 [.ref a, .int D, .ref b, .int w, .int (nI i), v5] [] (T, I1, J, R) Q) (n := n) ?_ ?_
    · intro I1 v5 hf h6
      have ea : I1 a = I a := hf a (by omega) (by omega)
      simp only [gX3_pass_10, t0, true_and, ea, hn, nI_le (Nat.le_refl n) (by omega), if_true]
      simp only [gX3_pass_39, t0, true_and, ea]
      refine two 0 (by omega) I1 _ (fun x _ x6 xb => hf x x6 xb) h6 (fun j hj => absurd hj (by omega)) (fun j _ => by rw [hf (a + 1) (by omega) (by omega)]) ?_
      rw [if_pos rfl, ← hr, can_5 (by decide)]
      rfl
    · intro i hi ih I1 v5 hf h6
      have ea : I1 a = I a := hf a (by omega) (by omega)
      simp only [gX3_pass_10, t0, true_and, ea, hn, nI_ge hi (by omega), if_false]
      simp only [gX3_pass_19, t0, l0, true_and, r5, rf_some]
      refine p_outOf hw hv hab (by rw [hf b (by omega) (by omega)]; exact hs) hsz (by rw [ea]; exact hn) h8 hi (by rw [ea]; exact ht) h7 (fun I' hf' => ?_)
      have eL : cLw I1 b = l := by rw [← hl]; exact cLw_eq (hf b (by omega) (by omega)) (hf (b + 1) (by omega) (by omega))
      have eV : vw I1 a = vw I a := vw_eq (fun x h1 h2 => hf x (by omega) (by omega))
      rw [eL, eV, hr]
      simp only [Option.toList_some, List.cons_append, List.nil_append, gX3_pass_32, true_and, rIn_at t6 (show i < 8 by omega) (by decide), nI_clamp (show i < 2 ^ 31 by omega), nI_1]
      refine ih _ _ (fun x x6 xb => by rw [up_ne _ _ x6, hf' x xb]; exact hf x x6 xb) (fun j hj => ?_)
      rw [up_self]
      by_cases hji : j = i
      · subst hji
        rw [up_self]
      · rw [up_ne _ _ hji, hf' (a + 6) (by omega)]
        exact h6 j (by omega)
  simp only [gX3_pass_7]
  exact one 0 (by omega) I _ (fun _ _ _ => rfl) (fun j hj => absurd hj (by omega))
end PP
