/-! PURE: the reference's turns -/
section TF
variable {X : tX} {T : tT} {I I' : tI} {J : tJ} {R : tR} {Q : tQ} {d a b c p n t D A B : Nat} {σ : rS} {l : tL} {r q : Nat → Nat → Int32}
theorem z_9 : (9 : Int32).toInt = 9 := by decide
theorem hd_2 {v : Int32} (h : lvB v) : hdS v 2 = v := by
  obtain ⟨h1, h2⟩ := h
  unfold hdS wi
  simp only [show ¬ (2 : Nat) = 0 by decide, show ¬ (2 : Nat) = 1 by decide, if_false, Int32.add_zero]
  by_cases e : (99 : Int32) < v
  · exact absurd e (Int32.not_lt.mpr h2)
  · rw [if_neg e]
    by_cases e2 : 0 < v
    · rw [if_pos e2]
    · rw [if_neg e2]
      exact Int32.le_antisymm (Int32.not_lt.mp h1) (Int32.not_lt.mp e2)
theorem hd_nat : ∀ v : Fin 100, (if nI v.val + 9 < 99 then nI v.val + 9 else 99) = hdS (nI v.val) 0 ∧ (if 0 < nI v.val - 9 then nI v.val - 9 else 0) = hdS (nI v.val) 1 := by decide +kernel
theorem hd_01 {v : Int32} (h : lvB v) : (if v + 9 < 99 then v + 9 else 99) = hdS v 0 ∧ (if 0 < v - 9 then v - 9 else 0) = hdS v 1 := by
  obtain ⟨j, hj, rfl⟩ := nI_of2 (x := v) (M := 99) (n := 99) (by decide) h.1 h.2
  exact hd_nat ⟨j, by omega⟩
theorem tu_A {o t v : Int32} (h : A ≠ B) : stS (tuS r A B o t) 0 A v = tuS r A B v t := by
  unfold tuS
  funext x i
  by_cases e : x = 0
  · subst e
    by_cases e2 : i = A
    · subst e2
      rw [st_at, st_i h, st_at]
    · rw [st_i e2]
      by_cases e3 : i = B
      · subst e3
        rw [st_at, st_at]
      · rw [st_i e3, st_i e2, st_i e3, st_i e2]
  · rw [st_k e, st_k e, st_k e, st_k e, st_k e]
theorem tu_B {o t v : Int32} : stS (tuS r A B o t) 0 B v = tuS r A B o v := by
  unfold tuS
  funext x i
  by_cases e : x = 0
  · subst e
    by_cases e2 : i = B
    · subst e2
      rw [st_at, st_at]
    · rw [st_i e2, st_i e2, st_i e2]
  · rw [st_k e, st_k e, st_k e, st_k e, st_k e]
theorem tu_0A {o t : Int32} (h : A ≠ B) : tuS r A B o t 0 A = o := by
  unfold tuS
  rw [st_i h, st_at]
theorem tu_0B {o t : Int32} : tuS r A B o t 0 B = t := by
  unfold tuS
  rw [st_at]
theorem tu_r : tuS r A B (r 0 A) (r 0 B) = r := by
  unfold tuS
  funext x i
  by_cases e : x = 0
  · subst e
    by_cases e2 : i = B
    · subst e2
      rw [st_at]
    · rw [st_i e2]
      by_cases e3 : i = A
      · subst e3
        rw [st_at]
      · rw [st_i e3]
  · rw [st_k e, st_k e]
theorem bs_3 (ev : Bool) (x y z : Int32) : bsS ev (bsS ev x y) z = bsS ev (bsS ev z x) y := by
  unfold bsS
  apply Int32.toInt_inj.mp
  cases ev <;> simp only [if_true, Bool.false_eq_true, if_false, apply_ite Int32.toInt, Int32.le_iff_toInt_le] <;> (repeat' split) <;> omega
theorem bs_max (x y : Int32) : (if x < y then y else x) = bsS true x y := by
  unfold bsS
  simp only [if_true]
  by_cases g : x < y
  · rw [if_pos g, if_neg (Int32.not_le.mpr g)]
  · rw [if_neg g, if_pos (Int32.not_lt.mp g)]
theorem bs_min (x y : Int32) : (if y < x then y else x) = bsS false x y := by
  unfold bsS
  simp only [Bool.false_eq_true, if_false]
  by_cases g : y < x
  · rw [if_pos g, if_neg (Int32.not_le.mpr g)]
  · rw [if_neg g, if_pos (Int32.not_lt.mp g)]
theorem m_turnBy {ab : Int32} {N i m way : Nat} {o t : Int32} (hAB : A ≠ B) (eA : ab / 10 = nI A) (eB : ab - ab / 10 * 10 = nI B) (hA : A < n) (hB : B < n) (hi : i ≤ 10) (hw : way ≤ 2) (ho : lvB o) (ht : lvB t)
    (call : ∀ (o t : Int32) (I : tI) (Q : tQ), lvB o → lvB t → MS T I R n l (tuS r A B o t) → (∀ I' : tI, frM I I' → MS T I' R n l (tuS r A B o t) → Q (some (.int (plS l n r A B D m (decide ((i + 1) % 2 = 0)) o t))) (T, I', J, R)) → Ex X d mX7_turnFrom 0 [.ref 54, .int (nI (i + 1)), .int (nI N), .int ab, .int (nI D), rU, rU, rU] [] (T, I, J, R) Q)
    (h : MS T I R n l (tuS r A B o t)) (k : ∀ I' : tI, frM I I' → MS T I' R n l (tuS r A B o t) → Q (some (.int (plS l n r A B D m (decide ((i + 1) % 2 = 0)) (if i % 2 = 0 then hdS o way else o) (if i % 2 = 0 then t else hdS t way)))) (T, I', J, R)) :
    Ex X (d + 1) mX7_turnBy 0 [.ref 54, .int (nI i), .int (nI N), .int ab, .int (nI D), .int (nI way), rU, rU, rU] [] (T, I, J, R) Q := by
  have h8 := MS_8 h
  have hm := h.1
  have t0 := mt_54 hm
  have n2 : ¬ (2 : Int32) = 0 := by decide
  have n10 : ¬ (10 : Int32) = 0 := by decide
  have em : nI i - nI i / 2 * 2 = nI (i % 2) := z_mod (b := 2) (by omega) (by decide)
  -- from 17 on, the place p known, with what it holds
  have go : ∀ (p : Nat) (v : Int32) (f : Int32 → Nat → Nat → Int32), p < n → lvB v → f v = tuS r A B o t → (∀ u u', stS (f u) 0 p u' = f u') → (∀ u, f u 0 p = u) →
      (∀ (u : Int32) (I : tI) (Q : tQ), lvB u → MS T I R n l (f u) → (∀ (I' : tI), frM I I' → MS T I' R n l (f u) → Q (some (.int (if i % 2 = 0 then plS l n r A B D m (decide ((i + 1) % 2 = 0)) u t else plS l n r A B D m (decide ((i + 1) % 2 = 0)) o u))) (T, I', J, R)) → Ex X d mX7_turnFrom 0 [.ref 54, .int (nI (i + 1)), .int (nI N), .int ab, .int (nI D), rU, rU, rU] [] (T, I, J, R) Q) →
      (∀ I' : tI, frM I I' → MS T I' R n l (f v) → Q (some (.int (if i % 2 = 0 then plS l n r A B D m (decide ((i + 1) % 2 = 0)) (hdS v way) t else plS l n r A B D m (decide ((i + 1) % 2 = 0)) o (hdS v way)))) (T, I', J, R)) →
      Ex X (d + 1) mX7_turnBy 17 [.ref 54, .int (nI i), .int (nI N), .int ab, .int (nI D), .int (nI way), rU, rU, rU] [.int (nI p)] (T, I, J, R) Q := by
    intro p v f hp hv ef fs f0 call k
    rw [← ef] at h
    have hin : rIn T 55 0 (nI p) := rIn_at (mt_55 hm) (show p < 32 by omega) (by decide)
    have hcp : (nI p).toNatClampNeg = p := nI_clamp (by omega)
    have ev : I 55 p = v := by rw [MS_lv h hp, f0]
    -- the end, from 72
    have last : ∀ (I1 : tI) (u : Int32), u = hdS v way → lvB u → frM I I1 → MS T I1 R n l (f u) → Ex X (d + 1) mX7_turnBy 72 [.ref 54, .int (nI i), .int (nI N), .int ab, .int (nI D), .int (nI way), .int (nI p), .int v, rU] [] (T, I1, J, R) Q := by
      intro I1 u eu hu hf1 hM1
      rw [← eu] at k
      simp only [gX7_turnBy_72, nI_1, t0, true_and]
      refine call u I1 _ hu hM1 (fun I2 hf2 hM2 => ?_)
      simp only [Option.toList_some, List.cons_append, List.nil_append, gX7_turnBy_83, t0, true_and, mr_1 hm, rf_some, hin, hcp]
      generalize hI3 : va_up I2 55 (va_up (I2 55) p v) = I3
      have f23 : ∀ x, x ≠ 55 → I3 x = I2 x := fun x hx => by rw [← hI3, up_ne _ _ hx]
      have hM3 := MS_set (v := v) (p := p) (I' := I3) hM2 (k := 0) (by decide) hp (fun _ => hv) (by rw [← hI3, up_self, Nat.mul_zero, Nat.zero_add]) f23
      rw [fs] at hM3
      exact k I3 (frM_t (frM_t hf1 hf2) (fun x hx => f23 x (by omega))) hM3
    have write : ∀ u : Int32, lvB u → ∀ I1 : tI, I1 = va_up I 55 (va_up (I 55) p u) → frM I I1 ∧ MS T I1 R n l (f u) := by
      intro u hu I1 e1
      have f01 : ∀ x, x ≠ 55 → I1 x = I x := fun x hx => by rw [e1, up_ne _ _ hx]
      have hM1 := MS_set (v := u) (p := p) (I' := I1) h (k := 0) (by decide) hp (fun _ => hu) (by rw [e1, up_self, Nat.mul_zero, Nat.zero_add]) f01
      rw [fs] at hM1
      exact ⟨fun x hx => f01 x (by omega), hM1⟩
    simp only [gX7_turnBy_17, t0, true_and, mr_1 hm, rf_some, hin, hcp, ev]
    have hw3 : way = 0 ∨ way = 1 ∨ way = 2 := by omega
    rcases hw3 with rfl | rfl | rfl
    · simp only [show ¬ nI 0 ≠ 0 by decide, if_false, gX7_turnBy_33, t0, true_and, mr_1 hm, rf_some, hin, hcp, gX7_turnBy_50, show nI 0 ≠ 1 by decide, if_true]
      rw [(hd_01 hv).1]
      obtain ⟨a1, a2⟩ := write (hdS v 0) (lv_hd v 0) _ rfl
      exact last _ _ rfl (lv_hd v 0) a1 a2
    · simp only [show nI 1 ≠ 0 by decide, if_true, gX7_turnBy_50, show ¬ nI 1 ≠ 1 by decide, if_false, gX7_turnBy_56, t0, true_and, mr_1 hm, rf_some, hin, hcp]
      rw [(hd_01 hv).2]
      obtain ⟨a1, a2⟩ := write (hdS v 1) (lv_hd v 1) _ rfl
      exact last _ _ rfl (lv_hd v 1) a1 a2
    · simp only [show nI 2 ≠ 0 by decide, if_true, gX7_turnBy_50, show nI 2 ≠ 1 by decide]
      exact last I v (hd_2 hv).symm hv (frM_r I) h
  simp only [gX7_turnBy_0, n2, not_false_eq_true, true_and, em]
  by_cases e : i % 2 = 0
  · simp only [e, show ¬ nI 0 ≠ 0 by decide, if_false, if_true, gX7_turnBy_6, n10, not_false_eq_true, true_and, eA] at go k ⊢
    exact go A o (fun u => tuS r A B u t) hA ho rfl (fun u u' => tu_A hAB) (fun u => tu_0A hAB) (fun u I Q hu hM kk => call u t I Q hu ht hM kk) k
  · simp only [show i % 2 = 1 by omega, show nI 1 ≠ 0 by decide, show ¬ (1 : Nat) = 0 by decide, if_true, if_false, gX7_turnBy_13, n10, not_false_eq_true, true_and] at go k ⊢
    rw [eB]
    exact go B t (fun u => tuS r A B o u) hB ht rfl (fun u u' => tu_B) (fun u => tu_0B) (fun u I Q hu hM kk => call o u I Q ho hu hM kk) k
theorem m_turnFrom {ab : Int32} {N : Nat} (hAB : A ≠ B) (eA : ab / 10 = nI A) (eB : ab - ab / 10 * 10 = nI B) (hA : A < n) (hB : B < n) (hD : D < 2 ^ 31) (hN : N ≤ 5) : ∀ (m i : Nat) (o t : Int32) (I : tI) (d : Nat) (Q : tQ), i + m = N → lvB o → lvB t → MS T I R n l (tuS r A B o t) → (∀ I' : tI, frM I I' → MS T I' R n l (tuS r A B o t) → Q (some (.int (plS l n r A B D m (decide (i % 2 = 0)) o t))) (T, I', J, R)) →
    Ex X (d + 6 + 2 * m) mX7_turnFrom 0 [.ref 54, .int (nI i), .int (nI N), .int ab, .int (nI D), rU, rU, rU] [] (T, I, J, R) Q := by
  intro m
  induction m with
  | zero =>
    intro i o t I d Q hi ho ht h k
    have h8 := MS_8 h
    have hm := h.1
    have t0 := mt_54 hm
    have n10 : ¬ (10 : Int32) = 0 := by decide
    rw [show i = N by omega]
    simp only [gX7_turnFrom_0, ne_eq, not_true_eq_false, if_false, gX7_turnFrom_5, t0, true_and, mr_38 hm, rf_some]
    refine s_keeps h (mt_79 hm) (by decide) (fun I1 hf1 hK1 => ?_)
    simp only [Option.toList_none, List.nil_append, gX7_turnFrom_13, t0, true_and]
    refine s_goesOn (MS_k h hf1 (by decide)) hD (fun I2 hf2 hM2 => ?_)
    rw [eA] at eB
    simp only [Option.toList_none, List.nil_append, gX7_turnFrom_19, t0, true_and, mr_1 hm, mr_38 hm, rf_some, n10, not_false_eq_true, eA, eB, rIn_at (mt_55 hm) (show A < 32 by omega) (by decide), rIn_at (mt_55 hm) (show B < 32 by omega) (by decide), nI_clamp (show A < 2 ^ 31 by omega), nI_clamp (show B < 2 ^ 31 by omega), MS_lv hM2 hA, MS_lv hM2 hB]
    refine s_laysBack hM2 (Kp_p hK1 (Or.inl rfl) hf2) (sB_it _ (sB_r n _)) (MS_can h) (MS_ok h) (mt_79 hm) (by decide) (fun I4 hf4 hM4 => ?_)
    simp only [Option.toList_none, List.nil_append, gX7_turnFrom_50]
    exact k I4 (frM_t (frM_t (frM_k hf1 (Or.inl rfl)) (frM_p hf2)) (frM_b hf4)) hM4
  | succ m ih =>
    intro i o t I d Q hi ho ht h k
    have h8 := MS_8 h
    have hm := h.1
    have t0 := mt_54 hm
    have n2 : ¬ (2 : Int32) = 0 := by decide
    have em : nI i - nI i / 2 * 2 = nI (i % 2) := z_mod (b := 2) (by omega) (by decide)
    rw [show d + 6 + 2 * (m + 1) = (d + 6 + 2 * m + 1) + 1 by omega]
    have by_ : ∀ (way : Nat) (I : tI) (Q : tQ), way ≤ 2 → MS T I R n l (tuS r A B o t) → (∀ I' : tI, frM I I' → MS T I' R n l (tuS r A B o t) → Q (some (.int (plS l n r A B D m (decide ((i + 1) % 2 = 0)) (if i % 2 = 0 then hdS o way else o) (if i % 2 = 0 then t else hdS t way)))) (T, I', J, R)) → Ex X (d + 6 + 2 * m + 1) mX7_turnBy 0 [.ref 54, .int (nI i), .int (nI N), .int ab, .int (nI D), .int (nI way), rU, rU, rU] [] (T, I, J, R) Q := by
      intro way I Q hw hM k
      exact m_turnBy hAB eA eB hA hB (by omega) hw ho ht (fun o t I Q ho ht hM k => ih (i + 1) o t I d Q (by omega) ho ht hM k) hM k
    have hev2 : decide ((i + 1) % 2 = 0) = !decide (i % 2 = 0) := by
      by_cases e : i % 2 = 0
      · have : ¬ (i + 1) % 2 = 0 := by omega
        simp [e, this]
      · have : (i + 1) % 2 = 0 := by omega
        simp [e, this]
    have hne : ¬ nI i = nI N := by rw [nI_eq (by omega) (by omega)]; omega
    have eo : ∀ x y : Int32, (if decide (i % 2 = 0) = true then x else y) = (if i % 2 = 0 then x else y) := fun x y => by simp
    rw [plS, bs_3, ← hev2] at k
    simp only [eo] at k
    generalize hcw : (fun way : Nat => plS l n r A B D m (decide ((i + 1) % 2 = 0)) (if i % 2 = 0 then hdS o way else o) (if i % 2 = 0 then t else hdS t way)) = cw
    have ecw : ∀ way : Nat, plS l n r A B D m (decide ((i + 1) % 2 = 0)) (if i % 2 = 0 then hdS o way else o) (if i % 2 = 0 then t else hdS t way) = cw way := fun way => by rw [← hcw]
    simp only [ecw] at k by_
    -- one way's choice, from 85
    have pick : ∀ (way : Nat) (fd c : Int32) (v7 : Value) (I1 : tI), way ≤ 1 → (∀ v7 : Value, Ex X (d + 6 + 2 * m + 1 + 1) mX7_turnFrom 68 [.ref 54, .int (nI i), .int (nI N), .int ab, .int (nI D), .int (bsS (decide (i % 2 = 0)) fd c), .int (nI (way + 1)), v7] [] (T, I1, J, R) Q) → Ex X (d + 6 + 2 * m + 1 + 1) mX7_turnFrom 85 [.ref 54, .int (nI i), .int (nI N), .int ab, .int (nI D), .int fd, .int (nI way), v7] [.int c] (T, I1, J, R) Q := by
      intro way fd c v7 I1 hway next
      simp only [gX7_turnFrom_85, n2, not_false_eq_true, true_and, em]
      by_cases e : i % 2 = 0
      · simp only [e, decide_true, show ¬ nI 0 ≠ 0 by decide, if_false, gX7_turnFrom_93, gX7_turnFrom_110, bs_max, nI_1] at next ⊢
        exact next _
      · simp only [show i % 2 = 1 by omega, show ¬ (1 : Nat) = 0 by decide, decide_false, show nI 1 ≠ 0 by decide, if_true, gX7_turnFrom_103, gX7_turnFrom_110, bs_min, nI_1] at next ⊢
        exact next _
    simp only [gX7_turnFrom_0, ne_eq, hne, not_false_eq_true, if_true, gX7_turnFrom_53, t0, true_and]
    refine by_ 2 I _ (by decide) h (fun I1 hf1 hM1 => ?_)
    simp only [Option.toList_some, List.cons_append, List.nil_append, gX7_turnFrom_63]
    simp only [gX7_turnFrom_68, show ¬ (2 : Int32) ≤ 0 by decide, if_false, gX7_turnFrom_74, t0, true_and]
    refine by_ 0 I1 _ (by decide) hM1 (fun I2 hf2 hM2 => ?_)
    simp only [Option.toList_some, List.cons_append, List.nil_append]
    refine pick 0 _ _ _ I2 (by decide) (fun v7 => ?_)
    simp only [gX7_turnFrom_68, show ¬ (2 : Int32) ≤ nI (0 + 1) by decide, if_false, gX7_turnFrom_74, t0, true_and]
    refine by_ 1 I2 _ (by decide) hM2 (fun I3 hf3 hM3 => ?_)
    simp only [Option.toList_some, List.cons_append, List.nil_append]
    refine pick 1 _ _ _ I3 (by decide) (fun v7 => ?_)
    simp only [gX7_turnFrom_68, show (2 : Int32) ≤ nI (1 + 1) by decide, if_true, gX7_turnFrom_118]
    exact k I3 (frM_t hf1 (frM_t hf2 hf3)) hM3
end TF
