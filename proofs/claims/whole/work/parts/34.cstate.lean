/-! PURE: the class's state while it thinks -/
theorem z_sub {a b : Nat} (h : b ≤ a) : nI a - nI b = nI (a - b) := by
  obtain ⟨c, rfl⟩ := Nat.exists_eq_add_of_le h
  rw [Nat.add_sub_cancel_left, Nat.add_comm, ← nI_add, Int32.add_sub_cancel]
theorem z_nlt0 {D : Int32} {j : Nat} (hj : j < 2 ^ 31) (h : ¬ D < nI j) : ¬ D < 0 := by
  rw [Int32.lt_iff_toInt_lt, nI_toInt hj] at h
  rw [Int32.lt_iff_toInt_lt, show (0 : Int32).toInt = 0 by decide]
  omega
section CT
variable {X : tX} {T : tT} {I I' : tI} {J : tJ} {R : tR} {Q : tQ} {d a b c p n t D : Nat} {σ : rS} {l : tL} {r q : Nat → Nat → Int32}
/-- a River at a, under the Law at b -/
def CS (T : tT) (I : tI) (R : tR) (a b n : Nat) (l : tL) (r : Nat → Nat → Int32) : Prop := IsLaw T R b ∧ IsRiv T R a ∧ a + 6 < b ∧ (∃ sz : Nat, I b 2 = nI sz ∧ sz ≤ 121) ∧ cLw I b = l ∧ I a 8 = nI n ∧ n ≤ 8 ∧ can n (vw I a) = r ∧ rvOk n r
theorem CS_fr (h : CS T I R a b n l r) (hf : ∀ x, (a ≤ x ∧ x ≤ a + 5) ∨ x = b ∨ x = b + 1 → I' x = I x) : CS T I' R a b n l r := by
  obtain ⟨hw, hv, hab, hs, hl, hn, h8, hr, hk⟩ := h
  have fb := hf b (by omega)
  have fa := hf a (by omega)
  exact ⟨hw, hv, hab, by rw [fb]; exact hs, by rw [cLw_eq fb (hf (b + 1) (by omega))]; exact hl, by rw [fa]; exact hn, h8, by rw [vw_eq (fun x h1 h2 => hf x (Or.inl ⟨h1, h2⟩))]; exact hr, hk⟩
theorem CS_lv (h : CS T I R a b n l r) (hp : p < n) : I (a + 1) p = r 0 p := by
  obtain ⟨hw, hv, hab, hs, hl, hn, h8, hr, hk⟩ := h
  rw [← hr, can_lt (by decide) hp]
  rfl
theorem CS_can (h : CS T I R a b n l r) : can n r = r := by
  obtain ⟨hw, hv, hab, hs, hl, hn, h8, hr, hk⟩ := h
  rw [← hr, can_can]
theorem c_pass (h : CS T I R a b n l r) (hD : D < 2 ^ 31) (k : ∀ I' : tI, (∀ x, x ≠ a → x ≠ a + 1 → x ≠ a + 6 → x ≠ b + 2 → I' x = I x) → CS T I' R a b n l (itS l n D r) → (∀ i, i < n → D ≠ 0 → I' (a + 6) i = goS l n (itS l n (D - 1) r) i) → Q none (T, I', J, R)) : Ex X (d + 3) mX3_pass 0 [.ref a, .int (nI D), .ref b, rU, rU, rU] [] (T, I, J, R) Q := by
  obtain ⟨hw, hv, hab, ⟨sz, hs, hz⟩, hl, hn, h8, hr, hk, t, h7, h5⟩ := h
  refine p_pass hw hv hab hs hz hn h8 (by rw [← hr, can_5 (by decide)] at h5; exact h5) h7 hD (fun I' t' hf hn' ht' h7' hc hwt => ?_)
  rw [hl, hr] at hc hwt
  have fb := hf b (by omega) (by omega) (by omega) (by omega)
  exact k I' hf ⟨hw, hv, hab, ⟨sz, by rw [fb]; exact hs, hz⟩, by rw [cLw_eq fb (hf (b + 1) (by omega) (by omega) (by omega) (by omega))]; exact hl, hn', h8, hc, rvOk_it D ⟨hk, t, h7, h5⟩⟩ hwt
theorem c_pass1 (h : CS T I R a b n l r) (k : ∀ I' : tI, (∀ x, x ≠ a → x ≠ a + 1 → x ≠ a + 6 → x ≠ b + 2 → I' x = I x) → CS T I' R a b n l (dayS l n r) → (∀ i, i < n → I' (a + 6) i = goS l n r i) → Q none (T, I', J, R)) : Ex X (d + 3) mX3_pass 0 [.ref a, .int 1, .ref b, rU, rU, rU] [] (T, I, J, R) Q :=
  c_pass (D := 1) h (by decide) (fun I' hf hC hw => k I' hf hC (fun i hi => hw i hi (by decide)))
theorem c_overBits (h : CS T I R a b n l r) (k : Q (some (.int (ovS n r n))) (T, I, J, R)) : Ex X d mX3_overBits 0 [.ref a, rU, rU] [] (T, I, J, R) Q := by
  obtain ⟨hw, hv, hab, hs, hl, hn, h8, hr, hk⟩ := h
  exact p_overBits hv hn h8 (by rw [hr]; exact k)
theorem c_levelOfAll (h : CS T I R a b n l r) (k : Q (some (.int (smS r n))) (T, I, J, R)) : Ex X d mX3_levelOfAll 0 [.ref a, rU, rU] [] (T, I, J, R) Q := by
  obtain ⟨hw, hv, hab, hs, hl, hn, h8, hr, hk⟩ := h
  exact p_levelAll hv hn h8 (by rw [hr]; exact k)
theorem c_levelsTogether (h : CS T I R a b n l r) (k : Q (some (.long (tgS r n))) (T, I, J, R)) : Ex X d mX3_levelsTogether 0 [.ref a, rU, rU, rU] [] (T, I, J, R) Q := by
  obtain ⟨hw, hv, hab, hs, hl, hn, h8, hr, hk⟩ := h
  exact p_levelsTogether hv hn h8 (by rw [hr]; exact k)
/-- the class, thinking: now at 1, thought at 8, the Law in force at b -/
def HS (T : tT) (I : tI) (R : tR) (b n : Nat) (l : tL) (r : Nat → Nat → Int32) : Prop := T[0]? = some (3, 6) ∧ R 0 0 = some 1 ∧ R 0 1 = some 8 ∧ R 0 8 = some b ∧ 27 ≤ b ∧ b ≤ 30 ∧ IsRiv T R 8 ∧ CS T I R 1 b n l r
/-- what the class may change while it thinks -/
def frC (b : Nat) (I I' : tI) : Prop := ∀ x, x < 8 ∨ 14 < x → x ≠ b + 2 → I' x = I x
theorem frC_r (b : Nat) (I : tI) : frC b I I := fun _ _ _ => rfl
theorem frC_t {I1 I2 I3 : tI} (h : frC b I1 I2) (h' : frC b I2 I3) : frC b I1 I3 := fun x hx hb => (h' x hx hb).trans (h x hx hb)
theorem frC_p (hb : 27 ≤ b) (h : ∀ x, x ≠ 8 → x ≠ 8 + 1 → x ≠ 8 + 6 → x ≠ b + 2 → I' x = I x) : frC b I I' := fun x hx hb => h x (by omega) (by omega) (by omega) hb
theorem HS_fr (h : HS T I R b n l r) (hf : frC b I I') : HS T I' R b n l r := by
  obtain ⟨h0, r0, r1, r8, hb, hb2, hv, hC⟩ := h
  exact ⟨h0, r0, r1, r8, hb, hb2, hv, CS_fr hC (fun x hx => hf x (by omega) (by omega))⟩
theorem c_take (h : HS T I R b n l r) (k : ∀ I' : tI, frC b I I' → CS T I' R 8 b n l r → Q none (T, I', J, R)) : Ex X (d + 2) mX3_take 0 [.ref 8, .ref 1] [] (T, I, J, R) Q := by
  obtain ⟨h0, r0, r1, r8, hb, hb2, hv, hw, hv1, hab, hs, hl, hn, h8, hr, hk⟩ := h
  refine p_take hv hv1 (Or.inr (by decide)) hn h8 (fun I' hf hn' h7 hc => k I' (fun x hx _ => hf x (by omega)) ?_)
  have fb := hf b (by omega)
  exact ⟨hw, hv, by omega, by rw [fb]; exact hs, by rw [cLw_eq fb (hf (b + 1) (by omega))]; exact hl, hn', h8, by rw [hc]; exact hr, hk⟩
theorem c_think (h : HS T I R b n l r) (hD : D < 2 ^ 31) (k : ∀ I' : tI, frC b I I' → CS T I' R 8 b n l (itS l n D r) → Q none (T, I', J, R)) : Ex X (d + 4) mX6_think 0 [.ref 0, .int (nI D)] [] (T, I, J, R) Q := by
  have h' := h
  obtain ⟨h0, r0, r1, r8, hb, hb2, hv, hC⟩ := h
  simp only [gX6_think_0, h0, true_and, r0, r1, rf_some, hv.1]
  refine c_take h' (fun I1 hf1 hC1 => ?_)
  simp only [Option.toList_none, List.nil_append, gX6_think_11, h0, true_and, r8, r1, rf_some, hv.1]
  refine c_pass hC1 hD (fun I2 hf2 hC2 _ => ?_)
  simp only [Option.toList_none, List.nil_append, gX6_think_23]
  exact k I2 (frC_t hf1 (frC_p hb hf2)) hC2
theorem c_isReach {v : Int32} (h : HS T I R b n l r) (k : Q (some (.int (if isR n v = true then 1 else 0))) (T, I, J, R)) : Ex X d mX6_isReach 0 [.ref 0, .int v] [] (T, I, J, R) Q := by
  obtain ⟨h0, r0, r1, r8, hb, hb2, hv, hw, hv1, hab, hs, hl, hn, h8, hr, hk⟩ := h
  simp only [gX6_isReach_0, gX6_isReach_4, gX6_isReach_15, gX6_isReach_19, gX6_isReach_20, h0, true_and, r0, rf_some, hv1.1, hn]
  unfold isR at k
  by_cases g1 : v < 0
  · simpa [g1] using k
  by_cases g2 : nI n ≤ v
  · simpa [g1, g2] using k
  simpa [g1, g2] using k
theorem c_signOf {v w : Int32} (k : Q (some (.int (if w ≤ v then (if v ≤ w then 0 else 2) else 1))) σ) : Ex X d mX6_signOf 0 [.int v, .int w] [] σ Q := by
  simp only [gX6_signOf_0, gX6_signOf_5, gX6_signOf_9, gX6_signOf_14, gX6_signOf_18, gX6_signOf_19]
  by_cases g1 : w ≤ v
  · by_cases g2 : v ≤ w
    · simpa [g1, g2] using k
    · simpa [g1, g2] using k
  · simpa [g1] using k
/-- later -/
def laterS (n : Nat) (l : tL) (r : Nat → Nat → Int32) (D p w : Int32) : Int32 :=
  if isR n p = true ∧ inB w 0 1 = true ∧ inB D w 60 = true then (if w = 0 then itS l n (D - w).toNatClampNeg r 0 p.toNatClampNeg else sgS (itS l n (D - w).toNatClampNeg r) (itS l n ((D - w).toNatClampNeg + 1) r) p.toNatClampNeg) else -1
theorem c_later {D p w : Int32} (h : HS T I R b n l r) (k : ∀ I' : tI, frC b I I' → Q (some (.int (laterS n l r D p w))) (T, I', J, R)) : Ex X (d + 5) mX6_later 0 [.ref 0, .int D, .int p, .int w, rU] [] (T, I, J, R) Q := by
  have h' := h
  obtain ⟨h0, r0, r1, r8, hb, hb2, hv, hC⟩ := h
  have bad : ∀ c : ¬ (isR n p = true ∧ inB w 0 1 = true ∧ inB D w 60 = true), Ex X (d + 5) mX6_later 28 [.ref 0, .int D, .int p, .int w, rU] [] (T, I, J, R) Q := by
    intro c
    simp only [gX6_later_28]
    have := k I (frC_r b I)
    rw [laterS, if_neg c] at this
    exact this
  simp only [gX6_later_0, h0, true_and]
  refine c_isReach h' ?_
  simp only [Option.toList_some, List.cons_append, List.nil_append, gX6_later_5, if10]
  cases g : isR n p with
  | false =>
    simp only [if_true]
    exact bad (by rw [g]; simp)
  | true =>
    simp only [reduceCtorEq, if_false]
    have h8 : n ≤ 8 := hC.2.2.2.2.2.2.1
    obtain ⟨p, hp, rfl⟩ := isR_t g h8
    simp only [gX6_later_8, gX6_later_12, gX6_later_17, gX6_later_22]
    by_cases c : isR n (nI p) = true ∧ inB w 0 1 = true ∧ inB D w 60 = true
    · obtain ⟨w1, w2⟩ := of_decide_eq_true c.2.1
      obtain ⟨d1, d2⟩ := of_decide_eq_true c.2.2
      simp only [w1, w2, d1, if_false, Int32.not_lt.mp d2, if_true]
      obtain ⟨j, hj, rfl⟩ := nI_of2 (M := 1) (n := 1) (by decide) w1 (Int32.not_lt.mp w2)
      obtain ⟨D, hD, rfl⟩ := nI_of2 (x := D) (M := 60) (n := 60) (by decide) (z_nlt0 (by omega) d1) (Int32.not_lt.mp d2)
      rw [nI_ltI (by omega) (by omega)] at d1
      rw [laterS, if_pos c, z_sub (by omega), nI_clamp (show D - j < 2 ^ 31 by omega), nI_clamp (show p < 2 ^ 31 by omega)] at k
      simp only [gX6_later_30, z_sub (show j ≤ D by omega), h0, true_and]
      refine c_think h' (by omega) (fun I1 hf1 hC1 => ?_)
      simp only [Option.toList_none, List.nil_append, gX6_later_37, h0, true_and, r1, rf_some, hv.1, hv.2.2.2.2.2.2.2.1, rIn_at hv.2.1 (show p < 8 by omega) (by decide), nI_clamp (show p < 2 ^ 31 by omega), CS_lv hC1 hp]
      have hj2 : j = 0 ∨ j = 1 := by omega
      rcases hj2 with rfl | rfl
      · simp only [show ¬ nI 0 ≠ 0 by decide, show nI 0 = 0 by decide, if_true, if_false, gX6_later_52] at k ⊢
        exact k I1 hf1
      · simp only [show nI 1 ≠ 0 by decide, show ¬ nI 1 = 0 by decide, if_true, if_false] at k ⊢
        simp only [gX6_later_55, h0, true_and, r1, r8, rf_some, hv.1]
        refine c_pass1 hC1 (fun I2 hf2 hC2 _ => ?_)
        simp only [Option.toList_none, List.nil_append, gX6_later_67, h0, true_and, r1, rf_some, hv.1, hv.2.2.2.2.2.2.2.1, rIn_at hv.2.1 (show p < 8 by omega) (by decide), nI_clamp (show p < 2 ^ 31 by omega), CS_lv hC2 hp]
        refine c_signOf ?_
        simp only [Option.toList_some, List.cons_append, List.nil_append, gX6_later_81]
        have := k I2 (frC_t hf1 (frC_p hb hf2))
        rw [it_succ] at this
        exact this
    · have b := bad c
      repeat' first | exact b | split
      exact absurd ⟨g, decide_eq_true ⟨‹_›, ‹_›⟩, decide_eq_true ⟨‹_›, Int32.not_lt.mpr ‹_›⟩⟩ c
end CT
