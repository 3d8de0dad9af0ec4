/-! PURE: byTurns -/
def hdS (v : Int32) (way : Nat) : Int32 := wi (v + (if way = 0 then 9 else if way = 1 then -9 else 0)) 0 99
def tuS (r : Nat → Nat → Int32) (A B : Nat) (o t : Int32) : Nat → Nat → Int32 := stS (stS r 0 A o) 0 B t
def fiS (l : tL) (n : Nat) (r : Nat → Nat → Int32) (A B D : Nat) (o t : Int32) : Int32 := itS l n D (tuS r A B o t) 0 A - itS l n D (tuS r A B o t) 0 B
/-- the better for him who is on -/
def bsS (ev : Bool) (x y : Int32) : Int32 := if ev = true then (if y ≤ x then x else y) else (if x ≤ y then x else y)
def plS (l : tL) (n : Nat) (r : Nat → Nat → Int32) (A B D : Nat) : Nat → Bool → Int32 → Int32 → Int32
  | 0, _, o, t => fiS l n r A B D o t
  | m + 1, ev, o, t => bsS ev (bsS ev (plS l n r A B D m (!ev) (if ev = true then hdS o 0 else o) (if ev = true then t else hdS t 0)) (plS l n r A B D m (!ev) (if ev = true then hdS o 1 else o) (if ev = true then t else hdS t 1))) (plS l n r A B D m (!ev) (if ev = true then hdS o 2 else o) (if ev = true then t else hdS t 2))
def lvB (v : Int32) : Prop := ¬ v < 0 ∧ v ≤ 99
section TU
variable {X : tX} {T : tT} {I I' : tI} {J : tJ} {R : tR} {Q : tQ} {d a b c p n t D A B : Nat} {σ : rS} {l : tL} {r q : Nat → Nat → Int32}
theorem c_handled {v : Int32} {way : Nat} (hw : way ≤ 2) (k : Q (some (.int (hdS v way))) σ) : Ex X (d + 2) mX6_handled 0 [.int v, .int (nI way), rU] [] σ Q := by
  have hw3 : way = 0 ∨ way = 1 ∨ way = 2 := by omega
  unfold hdS at k
  rcases hw3 with rfl | rfl | rfl
  · simp only [gX6_handled_0, show ¬ nI 0 ≠ 0 by decide, if_false, gX6_handled_4, gX6_handled_20]
    refine p_within ?_
    simp only [Option.toList_some, List.cons_append, List.nil_append, gX6_handled_30]
    exact k
  · simp only [gX6_handled_0, show nI 1 ≠ 0 by decide, if_true, gX6_handled_9, show ¬ nI 1 ≠ 1 by decide, if_false, gX6_handled_14, gX6_handled_20]
    refine p_within ?_
    simp only [Option.toList_some, List.cons_append, List.nil_append, gX6_handled_30]
    exact k
  · simp only [gX6_handled_0, show nI 2 ≠ 0 by decide, if_true, gX6_handled_9, show nI 2 ≠ 1 by decide, gX6_handled_19, gX6_handled_20]
    refine p_within ?_
    simp only [Option.toList_some, List.cons_append, List.nil_append, gX6_handled_30]
    exact k
theorem c_difference {ab o t : Int32} (h : HS T I R b n l r) (eA : ab / 10 = nI A) (eB : ab - ab / 10 * 10 = nI B) (hA : A < n) (hB : B < n) (ho : lvB o) (ht : lvB t) (hD : D < 2 ^ 31) (k : ∀ I' : tI, frC b I I' → Q (some (.int (fiS l n r A B D o t))) (T, I', J, R)) : Ex X (d + 5) mX6_differenceBehind 0 [.ref 0, .int ab, .int o, .int t, .int (nI D)] [] (T, I, J, R) Q := by
  have h' := h
  have h8 := HS_8 h
  obtain ⟨h0, r0, r1, r8, hb, hb2, hv, hC⟩ := h
  have n10 : ¬ (10 : Int32) = 0 := by decide
  rw [eA] at eB
  simp only [gX6_differenceBehind_0, h0, true_and, r0, r1, rf_some, hv.1]
  refine c_take h' (fun I1 hf1 hC1 => ?_)
  simp only [Option.toList_none, List.nil_append, gX6_differenceBehind_11, h0, true_and, r1, r8, rf_some, hv.1, riv_lv hv, n10, not_false_eq_true, eA, eB, rIn_at hv.2.1 (show A < 8 by omega) (by decide), rIn_at hv.2.1 (show B < 8 by omega) (by decide), nI_clamp (show A < 2 ^ 31 by omega), nI_clamp (show B < 2 ^ 31 by omega)]
  generalize hI2 : va_up I1 (8 + 1) (va_up (I1 (8 + 1)) A o) = I2
  have f12 : ∀ x, x ≠ 8 + 1 + 0 → I2 x = I1 x := fun x hx => by rw [← hI2, up_ne _ _ hx]
  have hC2 := CS_set (v := o) (p := A) (I' := I2) hC1 (k := 0) (by decide) hA (fun _ => ho) (by rw [← hI2]; exact up_self _ _ _) f12
  generalize hI3 : va_up I2 (8 + 1) (va_up (I2 (8 + 1)) B t) = I3
  have f23 : ∀ x, x ≠ 8 + 1 + 0 → I3 x = I2 x := fun x hx => by rw [← hI3, up_ne _ _ hx]
  have hC3 := CS_set (v := t) (p := B) (I' := I3) hC2 (k := 0) (by decide) hB (fun _ => ht) (by rw [← hI3]; exact up_self _ _ _) f23
  refine c_pass hC3 hD (fun I4 hf4 hC4 _ => ?_)
  simp only [Option.toList_none, List.nil_append, gX6_differenceBehind_50, h0, true_and, r1, r8, rf_some, hv.1, riv_lv hv, n10, not_false_eq_true, eA, eB, rIn_at hv.2.1 (show A < 8 by omega) (by decide), rIn_at hv.2.1 (show B < 8 by omega) (by decide), nI_clamp (show A < 2 ^ 31 by omega), nI_clamp (show B < 2 ^ 31 by omega), CS_lv hC4 hA, CS_lv hC4 hB]
  exact k I4 (frC_t (frC_t hf1 (fun x hx _ => (f23 x (by omega)).trans (f12 x (by omega)))) (frC_p hb hf4))
theorem lv_hd (v : Int32) (way : Nat) : lvB (hdS v way) := wi_99 _
theorem c_played {ab : Int32} {N : Nat} (eA : ab / 10 = nI A) (eB : ab - ab / 10 * 10 = nI B) (hA : A < n) (hB : B < n) (hD : D < 2 ^ 31) (hN : N ≤ 5) : ∀ (m i : Nat) (o t : Int32) (I : tI) (d : Nat) (Q : tQ), i + m = N → lvB o → lvB t → HS T I R b n l r → (∀ I' : tI, frC b I I' → Q (some (.int (plS l n r A B D m (decide (i % 2 = 0)) o t))) (T, I', J, R)) →
    Ex X (d + 6 + m) mX6_played 0 [.ref 0, .int ab, .int o, .int t, .int (nI i), .int (nI N), .int (nI D), rU, rU, rU, rU] [] (T, I, J, R) Q := by
  intro m
  induction m with
  | zero =>
    intro i o t I d Q hi ho ht h k
    have h0 := h.1
    simp only [gX6_played_0, nI_le (show N ≤ i by omega) (by omega), if_true, gX6_played_13, h0, true_and]
    refine c_difference h eA eB hA hB ho ht hD (fun I1 hf1 => ?_)
    simp only [Option.toList_some, List.cons_append, List.nil_append, gX6_played_22]
    exact k I1 hf1
  | succ m ih =>
    intro i o t I d Q hi ho ht h k
    have h0 := h.1
    have n2 : ¬ (2 : Int32) = 0 := by decide
    have em : nI i - nI i / 2 * 2 = nI (i % 2) := z_mod (b := 2) (by omega) (by decide)
    rw [show d + 6 + (m + 1) = (d + 6 + m) + 1 by omega]
    simp only [gX6_played_0, nI_ge (show i < N by omega) (by omega), if_false]
    simp only [gX6_played_7, show nI i < 5 from nI_lt (b := 5) (by omega) (by decide), if_true]
    simp only [gX6_played_23, n2, not_false_eq_true, true_and, em]
    rw [plS] at k
    generalize hev : decide (i % 2 = 0) = ev at k
    have hev2 : decide ((i + 1) % 2 = 0) = !ev := by
      rw [← hev]
      by_cases e : i % 2 = 0
      · have : ¬ (i + 1) % 2 = 0 := by omega
        simp [e, this]
      · have : (i + 1) % 2 = 0 := by omega
        simp [e, this]
    -- one way, from 49
    have one : ∀ (way : Nat), way ≤ 2 → ∀ (I1 : tI) (bs : Int32) (v10 : Value), frC b I I1 → (∀ (I2 : tI), frC b I I2 → Ex X (d + 6 + m + 1) mX6_played 97 [.ref 0, .int ab, .int o, .int t, .int (nI i), .int (nI N), .int (nI D), .int (if ev = true then 1 else 0), .int bs, .int (nI way), v10] [.int (plS l n r A B D m (!ev) (if ev = true then hdS o way else o) (if ev = true then t else hdS t way))] (T, I2, J, R) Q) →
        Ex X (d + 6 + m + 1) mX6_played 49 [.ref 0, .int ab, .int o, .int t, .int (nI i), .int (nI N), .int (nI D), .int (if ev = true then 1 else 0), .int bs, .int (nI way), v10] [] (T, I1, J, R) Q := by
      intro way hway I1 bs v10 hf1 next
      simp only [gX6_played_49, if10]
      cases ev with
      | true =>
        simp only [reduceCtorEq, if_false, if_true, gX6_played_54] at next ⊢
        rw [show d + 6 + m = (d + 4 + m) + 2 by omega]
        refine c_handled hway ?_
        rw [show (d + 4 + m) + 2 = d + 6 + m by omega]
        simp only [Option.toList_some, List.cons_append, List.nil_append, gX6_played_62, nI_1, h0, true_and]
        refine ih (i + 1) _ _ I1 d _ (by omega) (lv_hd _ _) ht (HS_fr h hf1) (fun I2 hf2 => ?_)
        rw [hev2]
        simp only [Option.toList_some, List.cons_append, List.nil_append, gX6_played_74]
        exact next I2 (frC_t hf1 hf2)
      | false =>
        simp only [Bool.false_eq_true, if_false, if_true, gX6_played_77] at next ⊢
        rw [show d + 6 + m = (d + 4 + m) + 2 by omega]
        refine c_handled hway ?_
        rw [show (d + 4 + m) + 2 = d + 6 + m by omega]
        simp only [Option.toList_some, List.cons_append, List.nil_append, gX6_played_86, nI_1, h0, true_and]
        refine ih (i + 1) _ _ I1 d _ (by omega) ho (lv_hd _ _) (HS_fr h hf1) (fun I2 hf2 => ?_)
        rw [hev2]
        simp only [Option.toList_some, List.cons_append, List.nil_append]
        exact next I2 (frC_t hf1 hf2)
    -- the choice, from 97, way > 0
    have pick : ∀ (way : Nat), 0 < way → way ≤ 2 → ∀ (I1 : tI) (bs c : Int32) (v10 : Value), (∀ v10 : Value, Ex X (d + 6 + m + 1) mX6_played 43 [.ref 0, .int ab, .int o, .int t, .int (nI i), .int (nI N), .int (nI D), .int (if ev = true then 1 else 0), .int (bsS ev bs c), .int (nI (way + 1)), v10] [] (T, I1, J, R) Q) →
        Ex X (d + 6 + m + 1) mX6_played 97 [.ref 0, .int ab, .int o, .int t, .int (nI i), .int (nI N), .int (nI D), .int (if ev = true then 1 else 0), .int bs, .int (nI way), v10] [.int c] (T, I1, J, R) Q := by
      intro way h0w hway I1 bs c v10 next
      unfold bsS at next
      simp only [gX6_played_97, nI_ne0 h0w (show way < 2 ^ 31 by omega), if_false, gX6_played_104, if10]
      cases ev with
      | true =>
        simp only [reduceCtorEq, if_false, if_true, gX6_played_109] at next ⊢
        by_cases g : c ≤ bs
        · simp only [g, if_true, gX6_played_130, nI_1] at next ⊢
          exact next _
        · simp only [g, if_false, gX6_played_116, gX6_played_126, gX6_played_130, nI_1] at next ⊢
          exact next _
      | false =>
        simp only [Bool.false_eq_true, if_false, if_true, gX6_played_119] at next ⊢
        by_cases g : bs ≤ c
        · simp only [g, if_true, gX6_played_130, nI_1] at next ⊢
          exact next _
        · simp only [g, if_false, gX6_played_126, gX6_played_130, nI_1] at next ⊢
          exact next _
    have go : Ex X (d + 6 + m + 1) mX6_played 35 [.ref 0, .int ab, .int o, .int t, .int (nI i), .int (nI N), .int (nI D), rU, rU, rU, rU] [.int (if ev = true then 1 else 0)] (T, I, J, R) Q := by
      simp only [gX6_played_35]
      simp only [gX6_played_43, show ¬ (2 : Int32) < 0 by decide, if_false]
      refine one 0 (by decide) I 0 rU (frC_r b I) (fun I1 hf1 => ?_)
      simp only [gX6_played_97, show nI 0 = 0 by decide, if_true, gX6_played_126, gX6_played_130, show (0 : Int32) + 1 = nI 1 by decide]
      simp only [gX6_played_43, show ¬ (2 : Int32) < nI 1 by decide, if_false]
      refine one 1 (by decide) I1 _ _ hf1 (fun I2 hf2 => ?_)
      refine pick 1 (by decide) (by decide) I2 _ _ _ (fun v10 => ?_)
      simp only [gX6_played_43, show ¬ (2 : Int32) < nI (1 + 1) by decide, if_false]
      refine one 2 (by decide) I2 _ _ hf2 (fun I3 hf3 => ?_)
      refine pick 2 (by decide) (by decide) I3 _ _ _ (fun v10 => ?_)
      simp only [gX6_played_43, show (2 : Int32) < nI (2 + 1) by decide, if_true, gX6_played_136]
      exact k I3 hf3
    by_cases e : i % 2 = 0
    · have hev' : ev = true := by rw [← hev]; simp [e]
      rw [hev'] at go
      simp only [e, show ¬ nI 0 ≠ 0 by decide, if_false, gX6_played_30]
      exact go
    · have hev' : ev = false := by rw [← hev]; simp [e]
      rw [hev'] at go
      simp only [show i % 2 = 1 by omega, show nI 1 ≠ 0 by decide, if_true, gX6_played_34]
      exact go
end TU
