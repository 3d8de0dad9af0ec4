/-! PURE: the reference thinks: later, river -/
section ML
variable {X : tX} {T : tT} {I I' : tI} {J : tJ} {R : tR} {Q : tQ} {d a b c p n t D : Nat} {σ : rS} {l : tL} {r q : Nat → Nat → Int32}
theorem MS_k (h : MS T I R n l r) (hf : ∀ x, x ≠ c → I' x = I x) (hc : 63 ≤ c) : MS T I' R n l r := MS_fr h (fun x hx => hf x (by omega))
theorem frM_k (hf : ∀ x, x ≠ c → I' x = I x) (hc : c = 79 ∨ c = 80) : frM I I' := fun x hx => hf x (by omega)
theorem frM_p (hf : ∀ x, x ≠ 55 → x ≠ 57 → x ≠ 67 → x ≠ 68 → x ≠ 78 → I' x = I x) : frM I I' := fun x hx => hf x (by omega) (by omega) (by omega) (by omega) (by omega)
theorem frM_b (hf : ∀ x, x ≠ 55 → x ≠ 57 → I' x = I x) : frM I I' := fun x hx => hf x (by omega) (by omega)
theorem MS_8 (h : MS T I R n l r) : n ≤ 8 := h.2.2.2.1
theorem MS_ok (h : MS T I R n l r) : rvOk n r := h.2.2.2.2.2.2
theorem Kp_p (hK : Kp I c n r) (hc : c = 79 ∨ c = 80) (hf : ∀ x, x ≠ 55 → x ≠ 57 → x ≠ 67 → x ≠ 68 → x ≠ 78 → I' x = I x) : Kp I' c n r := Kp_fr hK (hf c (by omega) (by omega) (by omega) (by omega) (by omega))
theorem m_later {D p w : Int32} (h : MS T I R n l r) (k : ∀ I' : tI, frM I I' → MS T I' R n l r → Q (some (.int (laterS n l r D p w))) (T, I', J, R)) : Ex X (d + 6) mX7_later 0 [.ref 54, .int D, .int p, .int w, rU] [] (T, I, J, R) Q := by
  have h8 := MS_8 h
  have hm := h.1
  have t0 := mt_54 hm
  have bad : ∀ c : ¬ (isR n p = true ∧ inB w 0 1 = true ∧ inB D w 60 = true), Ex X (d + 6) mX7_later 27 [.ref 54, .int D, .int p, .int w, rU] [] (T, I, J, R) Q := by
    intro c
    simp only [gX7_later_27]
    have := k I (frM_r I) h
    rw [laterS, if_neg c] at this
    exact this
  simp only [gX7_later_0]
  refine s_within ?_
  simp only [Option.toList_some, List.cons_append, List.nil_append, gX7_later_6, if10]
  cases g1 : inB w 0 1 with
  | false =>
    simp only [if_true]
    exact bad (by rw [g1]; simp)
  | true =>
  simp only [reduceCtorEq, if_false, gX7_later_9]
  refine s_within ?_
  simp only [Option.toList_some, List.cons_append, List.nil_append, gX7_later_16, if10]
  cases g2 : inB D w 60 with
  | false =>
    simp only [if_true]
    exact bad (by rw [g2]; simp)
  | true =>
  simp only [reduceCtorEq, if_false, gX7_later_19, t0, true_and]
  refine s_isOne h ?_
  simp only [Option.toList_some, List.cons_append, List.nil_append, gX7_later_24, if10]
  cases g : isR n p with
  | false =>
    simp only [if_true]
    exact bad (by rw [g]; simp)
  | true =>
  simp only [reduceCtorEq, if_false]
  obtain ⟨p, hp, rfl⟩ := isR_t g h8
  obtain ⟨w1, w2⟩ := of_decide_eq_true g1
  obtain ⟨d1, d2⟩ := of_decide_eq_true g2
  obtain ⟨j, hj, rfl⟩ := nI_of2 (M := 1) (n := 1) (by decide) w1 (Int32.not_lt.mp w2)
  obtain ⟨D, hD, rfl⟩ := nI_of2 (x := D) (M := 60) (n := 60) (by decide) (z_nlt0 (by omega) d1) (Int32.not_lt.mp d2)
  rw [nI_ltI (by omega) (by omega)] at d1
  rw [laterS, if_pos ⟨g, g1, g2⟩, z_sub (by omega), nI_clamp (show D - j < 2 ^ 31 by omega), nI_clamp (show p < 2 ^ 31 by omega)] at k
  simp only [gX7_later_29, t0, true_and, mr_38 hm, rf_some]
  refine s_keeps h (mt_79 hm) (by decide) (fun I1 hf1 hK1 => ?_)
  have hM1 := MS_k h hf1 (by decide)
  simp only [Option.toList_none, List.nil_append, gX7_later_37, t0, true_and, z_sub (show j ≤ D by omega)]
  refine s_goesOn hM1 (by omega) (fun I2 hf2 hM2 => ?_)
  have hK2 := Kp_p hK1 (Or.inl rfl) hf2
  simp only [Option.toList_none, List.nil_append, gX7_later_44]
  have fin : ∀ (v : Int32) (I3 : tI) (q : Nat → Nat → Int32), frM I I3 → MS T I3 R n l q → sB n q r → Kp I3 79 n r → (∀ I' : tI, frM I I' → MS T I' R n l r → Q (some (.int v)) (T, I', J, R)) → Ex X (d + 6) mX7_later 62 [.ref 54, .int (nI D), .int (nI p), .int (nI j), rU] [.int v] (T, I3, J, R) Q := by
    intro v I3 q hf3 hM3 hs3 hK3 k
    simp only [gX7_later_62, t0, true_and, mr_38 hm, rf_some]
    refine s_laysBack hM3 hK3 hs3 (MS_can h) (MS_ok h) (mt_79 hm) (by decide) (fun I4 hf4 hM4 => ?_)
    simp only [Option.toList_none, List.nil_append, gX7_later_74]
    exact k I4 (frM_t hf3 (frM_b hf4)) hM4
  have f2 := frM_t (frM_k hf1 (Or.inl rfl)) (frM_p hf2)
  have hj2 : j = 0 ∨ j = 1 := by omega
  rcases hj2 with rfl | rfl
  · simp only [show ¬ nI 0 ≠ 0 by decide, show nI 0 = 0 by decide, if_true, if_false, gX7_later_48, t0, true_and, mr_1 hm, rf_some, rIn_at (mt_55 hm) (show p < 32 by omega) (by decide), nI_clamp (show p < 2 ^ 31 by omega), MS_lv hM2 hp] at k ⊢
    exact fin _ I2 _ f2 hM2 (sB_it _ (sB_r n r)) hK2 k
  · simp only [show nI 1 ≠ 0 by decide, show ¬ nI 1 = 0 by decide, if_true, if_false, gX7_later_57, t0, true_and] at k ⊢
    refine s_signOf hM2 hp (fun I3 hf3 hM3 => ?_)
    simp only [Option.toList_some, List.cons_append, List.nil_append]
    rw [it_succ] at k
    exact fin _ I3 _ (frM_t f2 (frM_p hf3)) hM3 (sB_day (sB_it _ (sB_r n r))) (Kp_p hK2 (Or.inl rfl) hf3) k
end ML
