/-! PURE: goes, throwIn -/
def goesS (n : Nat) (l : tL) (r : Nat → Nat → Int32) (p : Int32) : Int32 := if isR n p = true then goS l n r p.toNatClampNeg else -1
def safS (l : tL) (n p : Nat) (x : Int32) : Nat → (Nat → Nat → Int32) → Bool → Bool
  | 0, _, a => a
  | m + 1, r, a => if ovS n r n = 0 then safS l n p x m (dayS l n r) (a || decide (¬ r 0 p < x)) else false
def lstS (ok : Nat → Bool) : Nat → Nat → Int32
  | 0, _ => -2
  | m + 1, i => if ok i = true then nI i else lstS ok m (i + 1)
theorem lst_succ (ok : Nat → Bool) (m i : Nat) : lstS ok (m + 1) i = if ok i = true then nI i else lstS ok m (i + 1) := rfl
theorem lst_same {ok : Nat → Bool} : ∀ (m i k : Nat), (∀ j, i + m ≤ j → j ≤ i + m + k → ok j = ok (i + m)) → lstS ok (m + 1) i = lstS ok (m + 1 + k) i
  | 0, i, k, h => by
    have all : ∀ (k j : Nat), i ≤ j → (∀ j', j ≤ j' → j' < j + k → ok j' = ok i) → ok i = false → lstS ok k j = -2 := by
      intro k
      induction k with
      | zero => intro j _ _ _; rfl
      | succ k ih =>
        intro j hj h hk
        rw [lstS, h j (Nat.le_refl j) (by omega), hk]
        simp only [Bool.false_eq_true, if_false]
        exact ih (j + 1) (by omega) (fun j' a1 a2 => h j' (by omega) (by omega)) hk
    rw [show 0 + 1 + k = k + 1 by omega, lst_succ ok 0 i, lst_succ ok k i]
    by_cases g : ok i = true
    · rw [if_pos g, if_pos g]
    · rw [if_neg g, if_neg g, lstS, all k (i + 1) (by omega) (fun j' a1 a2 => h j' (by omega) (by omega)) (by simpa using g)]
  | m + 1, i, k, h => by
    rw [show m + 1 + 1 + k = (m + 1 + k) + 1 by omega, lst_succ ok (m + 1) i, lst_succ ok (m + 1 + k) i, lst_same m (i + 1) k (fun j a1 a2 => by rw [h j (by omega) (by omega), show i + 1 + m = i + (m + 1) by omega])]
/-- v thrown in at p, and told behind it -/
def thrS (l : tL) (n : Nat) (r : Nat → Nat → Int32) (p q D : Nat) (x : Int32) (v : Nat) : Bool := safS l n q x (D + 1) (stS r 0 p (if r 0 p + nI v < 99 then r 0 p + nI v else 99)) false
def throwS (n : Nat) (l : tL) (r : Nat → Nat → Int32) (f x : Int32) : Int32 :=
  if (¬ f < 0 ∧ ¬ x < 0) ∧ isR n (f / 10) = true ∧ isR n (f - f / 10 * 10) = true ∧ x / 100 ≤ 20 then lstS (thrS l n r (f / 10).toNatClampNeg (f - f / 10 * 10).toNatClampNeg (x / 100).toNatClampNeg (x - x / 100 * 100)) 100 0 else -1
section TH
variable {X : tX} {T : tT} {I I' : tI} {J : tJ} {R : tR} {Q : tQ} {d a b c p n t D : Nat} {σ : rS} {l : tL} {r q : Nat → Nat → Int32}
theorem c_goes {v : Int32} (h : HS T I R b n l r) (k : ∀ I' : tI, frC b I I' → Q (some (.int (goesS n l r v))) (T, I', J, R)) : Ex X (d + 4) mX6_goes 0 [.ref 0, .int v] [] (T, I, J, R) Q := by
  have h' := h
  have h8 := HS_8 h
  obtain ⟨h0, r0, r1, r8, hb, hb2, hv, hC⟩ := h
  simp only [gX6_goes_0, h0, true_and]
  refine c_isReach h' ?_
  simp only [Option.toList_some, List.cons_append, List.nil_append, gX6_goes_5, if10]
  rw [goesS] at k
  cases g : isR n v with
  | false =>
    simp only [g, Bool.false_eq_true, if_false, if_true, gX6_goes_23, gX6_goes_24] at k ⊢
    exact k I (frC_r b I)
  | true =>
    obtain ⟨p, hp, rfl⟩ := isR_t g h8
    simp only [g, if_true, reduceCtorEq, if_false, nI_clamp (show p < 2 ^ 31 by omega)] at k ⊢
    obtain ⟨hw, hv1, hab, ⟨sz, hs, hz⟩, hl, hn, _, hr, hk, t, h7, h5⟩ := hC
    simp only [gX6_goes_8, h0, true_and, r0, r8, rf_some, hw.1]
    refine p_outOf hw hv1 hab hs hz hn h8 hp (by rw [← hr, can_5 (by decide)] at h5; exact h5) h7 (fun I1 hf1 => ?_)
    rw [hl, hr]
    simp only [Option.toList_some, List.cons_append, List.nil_append, gX6_goes_20, gX6_goes_24]
    exact k I1 (fun x _ hx => hf1 x hx)
theorem m_goes {v : Int32} (h : MS T I R n l r) (k : ∀ I' : tI, frM I I' → MS T I' R n l r → Q (some (.int (goesS n l r v))) (T, I', J, R)) : Ex X (d + 6) mX7_goes 0 [.ref 54, .int v] [] (T, I, J, R) Q := by
  have h8 := MS_8 h
  have t0 := mt_54 h.1
  simp only [gX7_goes_0, t0, true_and]
  refine s_isOne h ?_
  simp only [Option.toList_some, List.cons_append, List.nil_append, gX7_goes_5, if10]
  rw [goesS] at k
  cases g : isR n v with
  | false =>
    simp only [g, Bool.false_eq_true, if_false, if_true, gX7_goes_16, gX7_goes_17] at k ⊢
    exact k I (frM_r I) h
  | true =>
    obtain ⟨p, hp, rfl⟩ := isR_t g h8
    simp only [g, if_true, reduceCtorEq, if_false, nI_clamp (show p < 2 ^ 31 by omega), gX7_goes_8, t0, true_and] at k ⊢
    refine s_goesFrom h hp (fun I1 hf1 hM1 => ?_)
    simp only [Option.toList_some, List.cons_append, List.nil_append, gX7_goes_13, gX7_goes_17]
    exact k I1 (fun x hx => hf1 x (by omega) (by omega)) hM1
theorem c_safely {x : Int32} (h : HS T I R b n l r) (hC : CS T I R 8 b n l q) (hp : p < n) (hD : D ≤ 20) (k : ∀ I' : tI, frC b I I' → Q (some (.int (if safS l n p x (D + 1) q false = true then 1 else 0))) (T, I', J, R)) : Ex X (d + 5) mX6_comesSafelyTo 0 [.ref 0, .int x, .int (nI p), .int (nI D), rU, rU] [] (T, I, J, R) Q := by
  have h8 := HS_8 h
  obtain ⟨h0, r0, r1, r8, hb, hb2, hv, _⟩ := h
  have loop : ∀ (m i : Nat) (I1 : tI) (q : Nat → Nat → Int32) (a : Bool), i + m = D + 1 → frC b I I1 → CS T I1 R 8 b n l q → (∀ I' : tI, frC b I I' → Q (some (.int (if safS l n p x m q a = true then 1 else 0))) (T, I', J, R)) →
      Ex X (d + 5) mX6_comesSafelyTo 6 [.ref 0, .int x, .int (nI p), .int (nI D), .int (if a = true then 1 else 0), .int (nI i)] [] (T, I1, J, R) Q := by
    intro m
    induction m with
    | zero =>
      intro i I1 q a hi hf1 hC1 k
      simp only [gX6_comesSafelyTo_6, nI_lt (show D < i by omega) (by omega), if_true, gX6_comesSafelyTo_67]
      have := k I1 hf1
      rw [safS] at this
      exact ⟨by cases a <;> simp, this⟩
    | succ m ih =>
      intro i I1 q a hi hf1 hC1 k
      simp only [gX6_comesSafelyTo_6, show ¬ nI D < nI i from nI_nlt (show i ≤ D by omega) (by omega), if_false]
      simp only [gX6_comesSafelyTo_12, h0, true_and, r1, rf_some, hv.1]
      refine c_overBits hC1 ?_
      simp only [Option.toList_some, List.cons_append, List.nil_append, gX6_comesSafelyTo_19]
      rw [safS] at k
      by_cases g : ovS n q n = 0
      · simp only [g, if_true, gX6_comesSafelyTo_24] at k ⊢
        have rest : ∀ a' : Bool, a' = (a || decide (¬ q 0 p < x)) → Ex X (d + 5) mX6_comesSafelyTo 47 [.ref 0, .int x, .int (nI p), .int (nI D), .int (if a = true then 1 else 0), .int (nI i)] [.int (if a' = true then 1 else 0)] (T, I1, J, R) Q := by
          intro a' he
          rw [← he] at k
          simp only [gX6_comesSafelyTo_47, h0, true_and, r1, r8, rf_some, hv.1]
          refine c_pass1 hC1 (fun I2 hf2 hC2 _ => ?_)
          simp only [Option.toList_none, List.nil_append, gX6_comesSafelyTo_61, nI_1]
          exact ih (i + 1) I2 _ _ (by omega) (frC_t hf1 (frC_p hb hf2)) hC2 k
        cases a with
        | true =>
          simp only [if_true, ne_eq, show ¬ (1 : Int32) = 0 by decide, not_false_eq_true, gX6_comesSafelyTo_42] at rest ⊢
          exact rest true rfl
        | false =>
          simp only [Bool.false_eq_true, if_false, ne_eq, not_true_eq_false, gX6_comesSafelyTo_29, h0, true_and, r1, rf_some, hv.1, riv_lv hv, rIn_at hv.2.1 (show p < 8 by omega) (by decide), nI_clamp (show p < 2 ^ 31 by omega), CS_lv hC1 hp] at rest ⊢
          by_cases g2 : q 0 p < x
          · simp only [g2, if_true, gX6_comesSafelyTo_46]
            exact rest false (by simp [g2])
          · simp only [g2, if_false, gX6_comesSafelyTo_42]
            exact rest true (by simp [g2])
      · simp only [g, if_false, gX6_comesSafelyTo_22] at k ⊢
        have := k I1 hf1
        simpa using this
  simp only [gX6_comesSafelyTo_0]
  exact loop (D + 1) 0 I q false (by omega) (frC_r b I) hC k
theorem CS_ok (h : CS T I R a b n l r) : rvOk n r := h.2.2.2.2.2.2.2.2
theorem c_throwIn {f x : Int32} (h : HS T I R b n l r) (k : ∀ I' : tI, frC b I I' → Q (some (.int (throwS n l r f x))) (T, I', J, R)) : Ex X (d + 6) mX6_throwIn 0 [.ref 0, .int f, .int x, rU, rU, rU, rU, rU] [] (T, I, J, R) Q := by
  have h' := h
  have h8 := HS_8 h
  obtain ⟨h0, r0, r1, r8, hb, hb2, hv, hC⟩ := h
  simp only [gX6_throwIn_0, gX6_throwIn_4]
  have bad1 : ¬ (¬ f < 0 ∧ ¬ x < 0) → Ex X (d + 6) mX6_throwIn 8 [.ref 0, .int f, .int x, rU, rU, rU, rU, rU] [] (T, I, J, R) Q := by
    intro c
    simp only [gX6_throwIn_8]
    have := k I (frC_r b I)
    rw [throwS, if_neg (fun z => c z.1)] at this
    exact this
  by_cases f0 : f < 0
  · simp only [f0, if_true]
    exact bad1 (fun z => z.1 f0)
  by_cases x0 : x < 0
  · simp only [f0, if_false, show ¬ (0 : Int32) ≤ x from Int32.not_le.mpr x0]
    exact bad1 (fun z => z.2 x0)
  simp only [f0, if_false, show (0 : Int32) ≤ x from Int32.not_lt.mp x0, if_true]
  simp only [gX6_throwIn_10, show ¬ (10 : Int32) = 0 by decide, show ¬ (100 : Int32) = 0 by decide, not_false_eq_true, true_and, h0]
  rw [throwS] at k
  have bad : ¬ (isR n (f / 10) = true ∧ isR n (f - f / 10 * 10) = true ∧ x / 100 ≤ 20) → Ex X (d + 6) mX6_throwIn 51 [.ref 0, .int f, .int x, .int (f / 10), .int (f - f / 10 * 10), .int (x / 100), rU, rU] [] (T, I, J, R) Q := by
    intro c
    simp only [gX6_throwIn_51]
    have := k I (frC_r b I)
    rw [if_neg (fun z => c z.2)] at this
    exact this
  refine c_isReach h' ?_
  simp only [Option.toList_some, List.cons_append, List.nil_append, gX6_throwIn_32, if10]
  cases g1 : isR n (f / 10) with
  | false =>
    simp only [if_true]
    exact bad (by rw [g1]; simp)
  | true =>
  simp only [reduceCtorEq, if_false, gX6_throwIn_35, h0, true_and]
  refine c_isReach h' ?_
  simp only [Option.toList_some, List.cons_append, List.nil_append, gX6_throwIn_41, if10]
  cases g2 : isR n (f - f / 10 * 10) with
  | false =>
    simp only [if_true]
    exact bad (by rw [g2]; simp)
  | true =>
  simp only [reduceCtorEq, if_false, gX6_throwIn_44]
  by_cases g3 : x / 100 ≤ 20
  · rw [if_pos ⟨⟨f0, x0⟩, g1, g2, g3⟩] at k
    simp only [g3, if_true]
    obtain ⟨p, hp, ep⟩ := isR_t g1 h8
    obtain ⟨u, hu, eu⟩ := isR_t g2 h8
    obtain ⟨N, hN, eN⟩ := nI_of x0
    have eD : x / 100 = nI (N / 100) := by rw [eN]; exact z_div hN (b := 100) (by decide)
    rw [eD] at g3
    have hD : N / 100 ≤ 20 := (nI_leI (a := N / 100) (b := 20) (by omega) (by decide)).mp g3
    generalize N / 100 = D at eD hD g3
    generalize ey : x - x / 100 * 100 = y at k
    rw [eu, ep, eD, nI_clamp (show p < 2 ^ 31 by omega), nI_clamp (show u < 2 ^ 31 by omega), nI_clamp (show D < 2 ^ 31 by omega)] at k
    rw [eu, ep, eD]
    obtain ⟨lv0, lv9⟩ := (CS_ok hC).1 p hp
    obtain ⟨lv, hlv, elv⟩ := nI_of2 (x := r 0 p) (M := 99) (n := 99) (by decide) lv0 lv9
    obtain ⟨rm, hrm⟩ : ∃ rm, 99 = lv + rm := ⟨99 - lv, by omega⟩
    have hmin : ∀ j, j ≤ rm → (if r 0 p + nI j < 99 then r 0 p + nI j else 99) = nI (lv + j) := by
      intro j hj
      rw [elv, nI_add]
      by_cases e : lv + j < 99
      · rw [if_pos (show nI (lv + j) < 99 from nI_lt (b := 99) e (by decide))]
      · rw [if_neg (show ¬ nI (lv + j) < 99 from nI_nlt (a := lv + j) (b := 99) (by omega) (by omega)), show lv + j = 99 by omega]
        rfl
    have hmin2 : ∀ j, rm ≤ j → j ≤ 99 → (if r 0 p + nI j < 99 then r 0 p + nI j else 99) = 99 := by
      intro j hj hj9
      rw [elv, nI_add, if_neg (show ¬ nI (lv + j) < 99 from nI_nlt (a := lv + j) (b := 99) (by omega) (by omega))]
    generalize hok : thrS l n r p u D y = ok at k
    have hsame : lstS ok 100 0 = lstS ok (rm + 1) 0 := by
      have := lst_same (ok := ok) rm 0 lv (fun j a1 a2 => by
        rw [← hok]
        unfold thrS
        rw [hmin2 j (by omega) (by omega), hmin2 (0 + rm) (by omega) (by omega)])
      rw [this, show rm + 1 + lv = 100 by omega]
    rw [hsame] at k
    have loop : ∀ (m i : Nat) (I1 : tI), i + m = rm + 1 → frC b I I1 → (∀ I' : tI, frC b I I' → Q (some (.int (lstS ok m i))) (T, I', J, R)) →
        Ex X (d + 6) mX6_throwIn 70 [.ref 0, .int f, .int x, .int (nI p), .int (nI u), .int (nI D), .int (nI rm), .int (nI i)] [] (T, I1, J, R) Q := by
      intro m
      induction m with
      | zero =>
        intro i I1 hi hf1 k
        simp only [gX6_throwIn_70, nI_lt (show rm < i by omega) (by omega), if_true, gX6_throwIn_126]
        exact k I1 hf1
      | succ m ih =>
        intro i I1 hi hf1 k
        simp only [gX6_throwIn_70, show ¬ nI rm < nI i from nI_nlt (show i ≤ rm by omega) (by omega), if_false]
        simp only [gX6_throwIn_77, h0, true_and, r0, r1, rf_some, hv.1]
        refine c_take (HS_fr h' hf1) (fun I2 hf2 hC2 => ?_)
        simp only [Option.toList_none, List.nil_append, gX6_throwIn_88, h0, true_and, r1, rf_some, hv.1, riv_lv hv, rIn_at hv.2.1 (show p < 8 by omega) (by decide), nI_clamp (show p < 2 ^ 31 by omega), CS_lv hC2 hp, show ¬ (100 : Int32) = 0 by decide, not_false_eq_true]
        rw [← eD, ey, elv, nI_add]
        generalize hI3 : va_up I2 (8 + 1) (va_up (I2 (8 + 1)) p (nI (lv + i))) = I3
        have f23 : ∀ x, x ≠ 8 + 1 + 0 → I3 x = I2 x := fun x hx => by rw [← hI3, up_ne _ _ hx]
        have f3 : frC b I I3 := frC_t (frC_t hf1 hf2) (fun x hx _ => f23 x (by omega))
        have hC3 := CS_set (v := nI (lv + i)) (p := p) (I' := I3) hC2 (k := 0) (by decide) hp (fun _ => ⟨nI_pos (by omega), nI_le (b := 99) (by omega) (by decide)⟩) (by rw [← hI3, up_self]) f23
        rw [eD]
        refine c_safely (HS_fr h' f3) hC3 hu hD (fun I4 hf4 => ?_)
        have e : safS l n u y (D + 1) (stS r 0 p (nI (lv + i))) false = ok i := by
          rw [← hok]
          unfold thrS
          rw [hmin i (by omega)]
        rw [e]
        have f4 := frC_t f3 hf4
        rw [lst_succ] at k
        simp only [Option.toList_some, List.cons_append, List.nil_append, gX6_throwIn_114, if10]
        cases g : ok i with
        | false =>
          simp only [g, Bool.false_eq_true, if_false, if_true, gX6_throwIn_120, nI_1] at k ⊢
          exact ih (i + 1) I4 (by omega) f4 k
        | true =>
          simp only [g, reduceCtorEq, if_false, if_true, gX6_throwIn_117] at k ⊢
          exact k I4 f4
    simp only [gX6_throwIn_53, h0, true_and, r0, rf_some, hC.2.1.1, riv_lv hC.2.1, rIn_at hC.2.1.2.1 (show p < 8 by omega) (by decide), nI_clamp (show p < 2 ^ 31 by omega), CS_lv hC hp, elv]
    have e99 : (99 : Int32) - nI lv = nI rm := by
      have := z_sub (a := 99) (b := lv) (by omega)
      rw [show 99 - lv = rm by omega] at this
      exact this
    rw [e99]
    exact loop (rm + 1) 0 I (by omega) (frC_r b I) k
  · simp only [g3, if_false]
    exact bad (fun z => g3 z.2.2)
def frP (I I' : tI) : Prop := ∀ x, x ≠ 55 → x ≠ 57 → x ≠ 67 → x ≠ 68 → x ≠ 78 → I' x = I x
theorem frP_r (I : tI) : frP I I := fun _ _ _ _ _ _ => rfl
theorem frP_t {I1 I2 I3 : tI} (h : frP I1 I2) (h' : frP I2 I3) : frP I1 I3 := fun x a1 a2 a3 a4 a5 => (h' x a1 a2 a3 a4 a5).trans (h x a1 a2 a3 a4 a5)
theorem s_isThrown {x : Int32} (h : MS T I R n l q) (hp : p < n) (hD : D ≤ 20) (k : ∀ (I' : tI) (q' : Nat → Nat → Int32), frP I I' → MS T I' R n l q' → sB n q' q → Q (some (.int (if safS l n p x (D + 1) q false = true then 1 else 0))) (T, I', J, R)) : Ex X (d + 6) mX7_isThrown 0 [.ref 54, .int (nI p), .int x, .int (nI D), rU, rU] [] (T, I, J, R) Q := by
  have h8 := MS_8 h
  have hm := h.1
  have t0 := mt_54 hm
  have loop : ∀ (m i : Nat) (I1 : tI) (q1 : Nat → Nat → Int32) (a : Bool), i + m = D + 1 → frP I I1 → MS T I1 R n l q1 → sB n q1 q →
      (∀ (I' : tI) (q' : Nat → Nat → Int32), frP I I' → MS T I' R n l q' → sB n q' q → Q (some (.int (if safS l n p x m (if i = 0 then q1 else dayS l n q1) a = true then 1 else 0))) (T, I', J, R)) →
      Ex X (d + 6) mX7_isThrown 6 [.ref 54, .int (nI p), .int x, .int (nI D), .int (if a = true then 1 else 0), .int (nI i)] [] (T, I1, J, R) Q := by
    intro m
    induction m with
    | zero =>
      intro i I1 q1 a hi hf1 hM1 hs1 k
      simp only [gX7_isThrown_6, nI_lt (show D < i by omega) (by omega), if_true, gX7_isThrown_49]
      have := k I1 q1 hf1 hM1 hs1
      rw [safS] at this
      exact ⟨by cases a <;> simp, this⟩
    | succ m ih =>
      intro i I1 q1 a hi hf1 hM1 hs1 k
      simp only [gX7_isThrown_6, show ¬ nI D < nI i from nI_nlt (show i ≤ D by omega) (by omega), if_false]
      simp only [gX7_isThrown_12]
      have look : ∀ (I2 : tI) (q2 : Nat → Nat → Int32), q2 = (if i = 0 then q1 else dayS l n q1) → frP I I2 → MS T I2 R n l q2 → sB n q2 q → Ex X (d + 6) mX7_isThrown 21 [.ref 54, .int (nI p), .int x, .int (nI D), .int (if a = true then 1 else 0), .int (nI i)] [] (T, I2, J, R) Q := by
        intro I2 q2 e2 hf2 hM2 hs2
        rw [← e2, safS] at k
        simp only [gX7_isThrown_21, t0, true_and]
        refine s_over hM2 ?_
        simp only [Option.toList_some, List.cons_append, List.nil_append, gX7_isThrown_25]
        by_cases g : ovS n q2 n = 0
        · simp only [g, if_true] at k ⊢
          simp only [gX7_isThrown_30, t0, true_and, mr_1 hm, rf_some, rIn_at (mt_55 hm) (show p < 32 by omega) (by decide), nI_clamp (show p < 2 ^ 31 by omega), MS_lv hM2 hp]
          have rest : ∀ a' : Bool, a' = (a || decide (¬ q2 0 p < x)) → Ex X (d + 6) mX7_isThrown 43 [.ref 54, .int (nI p), .int x, .int (nI D), .int (if a' = true then 1 else 0), .int (nI i)] [] (T, I2, J, R) Q := by
            intro a' he
            rw [← he] at k
            simp only [gX7_isThrown_43, nI_1]
            exact ih (i + 1) I2 q2 a' (by omega) hf2 hM2 hs2 (by rw [if_neg (show ¬ i + 1 = 0 by omega)]; exact k)
          by_cases g2 : q2 0 p < x
          · simp only [g2, if_true]
            exact rest a (by simp [g2])
          · simp only [g2, if_false, gX7_isThrown_40]
            exact rest true (by simp [g2])
        · simp only [g, if_false, gX7_isThrown_28] at k ⊢
          have := k I2 q2 hf2 hM2 hs2
          simpa using this
      by_cases i0 : i = 0
      · subst i0
        simp only [show nI 0 ≤ 0 by decide, if_true]
        exact look I1 q1 (by rw [if_pos rfl]) hf1 hM1 hs1
      · simp only [nI_nle (show 0 < i by omega) (by omega), if_false, gX7_isThrown_17, t0, true_and]
        refine s_passes hM1 (fun I2 hf2 hM2 => ?_)
        simp only [Option.toList_none, List.nil_append]
        exact look I2 _ (by rw [if_neg i0]) (frP_t hf1 hf2) hM2 (sB_day hs1)
  simp only [gX7_isThrown_0]
  exact loop (D + 1) 0 I q false (by omega) (frP_r I) h (sB_r n q) k
theorem sB_t {q1 q2 q3 : Nat → Nat → Int32} (h : sB n q1 q2) (h' : sB n q2 q3) : sB n q1 q3 := ⟨fun i hi => (h.1 i hi).trans (h'.1 i hi), fun i hi => (h.2.1 i hi).trans (h'.2.1 i hi), h.2.2.trans h'.2.2⟩
theorem m_throwIn {f x : Int32} (h : MS T I R n l r) (k : ∀ I' : tI, frM I I' → MS T I' R n l r → Q (some (.int (throwS n l r f x))) (T, I', J, R)) : Ex X (d + 7) mX7_throwIn 0 [.ref 54, .int f, .int x, rU, rU] [] (T, I, J, R) Q := by
  have h8 := MS_8 h
  have hm := h.1
  have t0 := mt_54 hm
  have bad : ¬ ((¬ f < 0 ∧ ¬ x < 0) ∧ isR n (f / 10) = true ∧ isR n (f - f / 10 * 10) = true ∧ x / 100 ≤ 20) → Ex X (d + 7) mX7_throwIn 39 [.ref 54, .int f, .int x, rU, rU] [] (T, I, J, R) Q := by
    intro c
    simp only [gX7_throwIn_39]
    have := k I (frM_r I) h
    rw [throwS, if_neg c] at this
    exact this
  have n10 : ¬ (10 : Int32) = 0 := by decide
  have n100 : ¬ (100 : Int32) = 0 := by decide
  simp only [gX7_throwIn_0]
  by_cases f0 : f < 0
  · simp only [f0, if_true]
    exact bad (fun z => z.1.1 f0)
  simp only [f0, if_false, gX7_throwIn_4, n10, not_false_eq_true, true_and, t0]
  refine s_isOne h ?_
  simp only [Option.toList_some, List.cons_append, List.nil_append, gX7_throwIn_12, if10]
  cases g1 : isR n (f / 10) with
  | false =>
    simp only [if_true]
    exact bad (by rw [g1]; simp)
  | true =>
  simp only [reduceCtorEq, if_false, gX7_throwIn_15, n10, not_false_eq_true, t0, true_and]
  refine s_isOne h ?_
  simp only [Option.toList_some, List.cons_append, List.nil_append, gX7_throwIn_23, if10]
  cases g2 : isR n (f - f / 10 * 10) with
  | false =>
    simp only [if_true]
    exact bad (by rw [g2]; simp)
  | true =>
  simp only [reduceCtorEq, if_false, gX7_throwIn_26]
  by_cases x0 : x < 0
  · simp only [x0, if_true]
    exact bad (fun z => z.1.2 x0)
  simp only [x0, if_false, gX7_throwIn_30, n100, not_false_eq_true, true_and]
  by_cases g3 : x / 100 ≤ 20
  · rw [throwS, if_pos ⟨⟨f0, x0⟩, g1, g2, g3⟩] at k
    simp only [g3, if_true]
    obtain ⟨p, hp, ep⟩ := isR_t g1 h8
    obtain ⟨u, hu, eu⟩ := isR_t g2 h8
    obtain ⟨N, hN, eN⟩ := nI_of x0
    have eD : x / 100 = nI (N / 100) := by rw [eN]; exact z_div hN (b := 100) (by decide)
    rw [eD] at g3
    have hD : N / 100 ≤ 20 := (nI_leI (a := N / 100) (b := 20) (by omega) (by decide)).mp g3
    generalize N / 100 = D at eD hD g3
    generalize ey : x - x / 100 * 100 = y at k
    rw [eu, ep, eD, nI_clamp (show p < 2 ^ 31 by omega), nI_clamp (show u < 2 ^ 31 by omega), nI_clamp (show D < 2 ^ 31 by omega)] at k
    generalize hok : thrS l n r p u D y = ok at k
    have loop : ∀ (i : Nat) (I1 : tI), i ≤ 100 → frM I I1 → MS T I1 R n l r → Kp I1 79 n r → Ex X (d + 7) mX7_throwIn 56 [.ref 54, .int f, .int x, .int (lstS ok (100 - i) i), .int (nI i - 1)] [] (T, I1, J, R) Q := by
      intro i
      induction i with
      | zero =>
        intro I1 hi hf1 hM1 hK1
        simp only [gX7_throwIn_56, show nI 0 - 1 < 0 by decide, if_true, gX7_throwIn_125]
        exact k I1 hf1 hM1
      | succ i ih =>
        intro I1 hi hf1 hM1 hK1
        obtain ⟨lv0, lv9⟩ := (MS_ok h).1 p hp
        obtain ⟨lv, hlv, elv⟩ := nI_of2 (x := r 0 p) (M := 99) (n := 99) (by decide) lv0 lv9
        simp only [gX7_throwIn_56, nI_pred, nI_pos (show i < 2 ^ 31 by omega), if_false]
        simp only [gX7_throwIn_61, t0, true_and, mr_1 hm, rf_some, n10, n100, not_false_eq_true, ep, rIn_at (mt_55 hm) (show p < 32 by omega) (by decide), nI_clamp (show p < 2 ^ 31 by omega), MS_lv hM1 hp]
        rw [ep] at eu
        rw [eu, ey, eD]
        have hb : ¬ (if r 0 p + nI i < 99 then r 0 p + nI i else 99) < 0 ∧ (if r 0 p + nI i < 99 then r 0 p + nI i else 99) ≤ 99 := by
          rw [elv, nI_add]
          by_cases e : nI (lv + i) < 99
          · rw [if_pos e]
            exact ⟨nI_pos (by omega), Int32.le_of_lt e⟩
          · rw [if_neg e]
            decide
        have e0 : safS l n u y (D + 1) (stS r 0 p (if r 0 p + nI i < 99 then r 0 p + nI i else 99)) false = ok i := by rw [← hok]; rfl
        generalize (if r 0 p + nI i < 99 then r 0 p + nI i else 99) = v9 at hb e0 ⊢
        generalize hI3 : va_up I1 55 (va_up (I1 55) p v9) = I3
        have f13 : ∀ x, x ≠ 55 → I3 x = I1 x := fun x hx => by rw [← hI3, up_ne _ _ hx]
        have hM3 := MS_set (v := v9) (p := p) (I' := I3) hM1 (k := 0) (by decide) hp (fun _ => hb) (by rw [← hI3, up_self, Nat.mul_zero, Nat.zero_add]) f13
        have hK3 := Kp_fr hK1 (f13 79 (by decide))
        have f3 : frM I I3 := frM_t hf1 (fun x hx => f13 x (by omega))
        refine s_isThrown hM3 hu hD (fun I4 q4 hf4 hM4 hs4 => ?_)
        rw [e0]
        have hs5 : sB n q4 r := sB_t hs4 (sB_st (sB_r n r) (Or.inl rfl))
        have hK4 := Kp_p hK3 (Or.inl rfl) hf4
        have f4 := frM_t f3 (frM_p hf4)
        have rest : ∀ v' : Int32, v' = lstS ok (100 - i) i → Ex X (d + 7) mX7_throwIn 109 [.ref 54, .int f, .int x, .int v', .int (nI i)] [] (T, I4, J, R) Q := by
          intro v' he
          simp only [gX7_throwIn_109, t0, true_and, mr_38 hm, rf_some]
          refine s_laysBack hM4 hK4 hs5 (MS_can h) (MS_ok h) (mt_79 hm) (by decide) (fun I5 hf5 hM5 => ?_)
          simp only [Option.toList_none, List.nil_append, gX7_throwIn_119, ofI_m1, ← Int32.sub_eq_add_neg]
          rw [he]
          exact ih I5 (by omega) (frM_t f4 (frM_b hf5)) hM5 (Kp_fr hK4 (hf5 79 (by decide) (by decide)))
        rw [show 100 - i = (100 - (i + 1)) + 1 by omega, lst_succ] at rest
        simp only [Option.toList_some, List.cons_append, List.nil_append, gX7_throwIn_103, if10]
        cases g : ok i with
        | false =>
          simp only [g, Bool.false_eq_true, if_false, if_true] at rest ⊢
          exact rest _ rfl
        | true =>
          simp only [g, reduceCtorEq, if_false, if_true, gX7_throwIn_106] at rest ⊢
          exact rest _ rfl
    simp only [gX7_throwIn_41, t0, true_and, mr_38 hm, rf_some]
    refine s_keeps h (mt_79 hm) (by decide) (fun I1 hf1 hK1 => ?_)
    simp only [Option.toList_none, List.nil_append, gX7_throwIn_49]
    exact loop 100 I1 (by decide) (frM_k hf1 (Or.inl rfl)) (MS_k h hf1 (by decide)) hK1
  · simp only [g3, if_false]
    exact bad (fun z => g3 z.2.2.2)
end TH
