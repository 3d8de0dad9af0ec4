/-! PURE: still -/
def tgN (r : Nat → Nat → Int32) : Nat → Nat
  | 0 => 0
  | i + 1 => tgN r i * 128 + (r 0 i).toNatClampNeg
theorem tg_step {x y : Nat} (hx : x < 2 ^ 49) (hy : y < 128) : (lN x <<< ((7 : Int32).toInt64 &&& 63)) ||| lN y = lN (x * 128 + y) := by
  apply Int64.toBitVec_inj.mp
  rw [Int64.toBitVec_or, Int64.toBitVec_shiftLeft]
  rw [show (((7 : Int32).toInt64 &&& 63).toBitVec.smod 64) = 7#64 by decide +kernel]
  show (BitVec.ofNat 64 x <<< 7#64) ||| BitVec.ofNat 64 y = BitVec.ofNat 64 (x * 128 + y)
  apply BitVec.eq_of_toNat_eq
  rw [BitVec.toNat_or, BitVec.shiftLeft_eq', BitVec.toNat_shiftLeft, show (7#64 : BitVec 64).toNat = 7 by decide, BitVec.toNat_ofNat, BitVec.toNat_ofNat, BitVec.toNat_ofNat, Nat.mod_eq_of_lt (show x < 2 ^ 64 by omega), Nat.mod_eq_of_lt (show y < 2 ^ 64 by omega), Nat.shiftLeft_eq, Nat.mod_eq_of_lt (show x * 2 ^ 7 < 2 ^ 64 by omega), Nat.mod_eq_of_lt (show x * 128 + y < 2 ^ 64 by omega), ← Nat.shiftLeft_eq, ← Nat.shiftLeft_add_eq_or_of_lt hy, Nat.shiftLeft_eq]
theorem tg_N {n : Nat} {r : Nat → Nat → Int32} (h : rvOk n r) (h8 : n ≤ 8) : ∀ i, i ≤ n → tgS r i = lN (tgN r i) ∧ tgN r i < 128 ^ i := by
  intro i
  induction i with
  | zero => intro _; exact ⟨rfl, Nat.one_pos⟩
  | succ i ih =>
    intro hi
    obtain ⟨e, hlt⟩ := ih (by omega)
    obtain ⟨a0, a9⟩ := h.1 i (by omega)
    obtain ⟨v, hv, ev⟩ := nI_of2 (x := r 0 i) (M := 99) (n := 99) (by decide) a0 a9
    have h7 : 128 ^ i ≤ 2 ^ 49 := by
      have : 128 ^ i ≤ 128 ^ 7 := Nat.pow_le_pow_right (by decide) (by omega)
      exact this
    rw [tgS, tgN, e, ev, nI_l (by omega), nI_clamp (by omega)]
    refine ⟨tg_step (by omega) (by omega), ?_⟩
    rw [Nat.pow_succ]
    omega
theorem tgN_inj {n : Nat} {a b : Nat → Nat → Int32} (ha : rvOk n a) (hb : rvOk n b) : ∀ i, i ≤ n → tgN a i = tgN b i → ∀ p, p < i → a 0 p = b 0 p := by
  intro i
  induction i with
  | zero => intro _ _ p hp; omega
  | succ i ih =>
    intro hi he p hp
    obtain ⟨a0, a9⟩ := ha.1 i (by omega)
    obtain ⟨v, hv, ev⟩ := nI_of2 (x := a 0 i) (M := 99) (n := 99) (by decide) a0 a9
    obtain ⟨b0, b9⟩ := hb.1 i (by omega)
    obtain ⟨u, hu, eu⟩ := nI_of2 (x := b 0 i) (M := 99) (n := 99) (by decide) b0 b9
    rw [tgN, tgN, ev, eu, nI_clamp (by omega), nI_clamp (by omega)] at he
    by_cases e : p = i
    · rw [e, ev, eu]
      congr 1
      omega
    · exact ih (by omega) (by omega) p (by omega)
theorem tg_eq {n : Nat} {a b : Nat → Nat → Int32} (ha : rvOk n a) (hb : rvOk n b) (h8 : n ≤ 8) : tgS a n = tgS b n ↔ ∀ p, p < n → a 0 p = b 0 p := by
  constructor
  · intro h p hp
    obtain ⟨e1, l1⟩ := tg_N ha h8 n (Nat.le_refl n)
    obtain ⟨e2, l2⟩ := tg_N hb h8 n (Nat.le_refl n)
    have h7 : 128 ^ n ≤ 2 ^ 56 := by
      have : 128 ^ n ≤ 128 ^ 8 := Nat.pow_le_pow_right (by decide) h8
      exact this
    refine tgN_inj ha hb n (Nat.le_refl n) ?_ p hp
    rw [e1, e2] at h
    have := congrArg (fun x => x.toBitVec.toNat) h
    have t : ∀ x : Nat, (lN x).toBitVec.toNat = x % 2 ^ 64 := fun x => by
      show (BitVec.ofNat 64 x).toNat = _
      rw [BitVec.toNat_ofNat]
    rw [t, t] at this
    omega
  · intro h
    have : ∀ i, i ≤ n → tgS a i = tgS b i := by
      intro i
      induction i with
      | zero => intro _; rfl
      | succ i ih => intro hi; rw [tgS, tgS, ih (by omega), h i (by omega)]
    exact this n (Nat.le_refl n)
theorem lg_0 (x y : Int64) : lg_cmp x y = 0 ↔ x = y := by
  unfold lg_cmp
  by_cases h1 : x = y
  · simp [h1, Int64.lt_irrefl]
  · simp [h1]
    split <;> decide
def eqL (n : Nat) (a b : Nat → Nat → Int32) : Bool := decide (∀ p, p < n → a 0 p = b 0 p)
def stF (l : tL) (n : Nat) (r : Nat → Nat → Int32) (i : Nat) (q : Nat → Nat → Int32) : Option Int32 := if 7 ≤ i ∧ eqL n (itS l n (i - 7) r) q = true then some (nI i) else none
def stillS (n : Nat) (l : tL) (r : Nat → Nat → Int32) : Int32 := fstS (stF l n r) l n 61 0 r
section SL
variable {X : tX} {T : tT} {I I' : tI} {J : tJ} {R : tR} {Q : tQ} {d a b c p n t D : Nat} {σ : rS} {l : tL} {r q : Nat → Nat → Int32}
theorem c_still (h : HS T I R b n l r) (t24 : T[24]? = some (1, 7)) (r6 : R 0 6 = some 24) (k : ∀ (I' : tI) (J' : tJ), frC b I I' → (∀ x, x ≠ 24 → J' x = J x) → Q (some (.int (stillS n l r))) (T, I', J', R)) : Ex X (d + 5) mX6_still 0 [.ref 0, rU, rU, rU] [] (T, I, J, R) Q := by
  have h' := h
  have h8 := HS_8 h
  obtain ⟨h0, r0, r1, r8, hb, hb2, hv, hC⟩ := h
  have n7 : ¬ (7 : Int32) = 0 := by decide
  have loop : ∀ (m i : Nat) (I1 : tI) (J1 : tJ) (v2 : Value), i + m = 61 → frC b I I1 → (∀ x, x ≠ 24 → J1 x = J x) → CS T I1 R 8 b n l (itS l n i r) → (∀ j, j < i → i ≤ j + 7 → J1 24 (j % 7) = tgS (itS l n j r) n) → (∀ (I' : tI) (J' : tJ), frC b I I' → (∀ x, x ≠ 24 → J' x = J x) → Q (some (.int (fstS (stF l n r) l n m i (itS l n i r)))) (T, I', J', R)) →
      Ex X (d + 5) mX6_still 13 [.ref 0, .int (nI i), v2, rU] [] (T, I1, J1, R) Q := by
    intro m
    induction m with
    | zero =>
      intro i I1 J1 v2 hi hf1 hj1 hC1 hw k
      obtain rfl : i = 61 := by omega
      simp only [gX6_still_13, show (60 : Int32) < nI 61 by decide, if_true, gX6_still_77]
      exact k I1 J1 hf1 hj1
    | succ m ih =>
      intro i I1 J1 v2 hi hf1 hj1 hC1 hw k
      simp only [gX6_still_13, show ¬ (60 : Int32) < nI i from nI_nlt (a := 60) (b := i) (by omega) (by decide), if_false]
      simp only [gX6_still_19, h0, true_and, r1, rf_some, hv.1]
      refine c_levelsTogether hC1 ?_
      rw [fstS] at k
      have em : nI i - nI i / 7 * 7 = nI (i % 7) := z_mod (b := 7) (by omega) (by decide)
      have h49 : ¬ (7 ≤ i ∧ eqL n (itS l n (i - 7) r) (itS l n i r) = true) → Ex X (d + 5) mX6_still 49 [.ref 0, .int (nI i), .long (tgS (itS l n i r) n), rU] [] (T, I1, J1, R) Q := by
        intro hno
        rw [stF, if_neg hno] at k
        simp only [gX6_still_49, h0, true_and, r1, r6, r8, rf_some, hv.1, n7, not_false_eq_true, em, rIn_at t24 (show i % 7 < 7 by omega) (by decide), nI_clamp (show i % 7 < 2 ^ 31 by omega)]
        refine c_pass1 hC1 (fun I2 hf2 hC2 _ => ?_)
        simp only [Option.toList_none, List.nil_append, gX6_still_71, nI_1]
        rw [← it_succ] at hC2
        refine ih (i + 1) I2 _ _ (by omega) (frC_t hf1 (frC_p hb hf2)) (fun x hx => by rw [up_ne _ _ hx]; exact hj1 x hx) hC2 (fun j hj hj7 => ?_) (by rw [it_succ]; exact k)
        rw [up_self]
        by_cases e : j = i
        · rw [e, up_self]
        · rw [up_ne _ _ (show j % 7 ≠ i % 7 by omega)]
          exact hw j (by omega) (by omega)
      simp only [Option.toList_some, List.cons_append, List.nil_append, gX6_still_26]
      by_cases g : i < 7
      · simp only [show nI i < 7 from nI_lt (b := 7) g (by decide), if_true]
        exact h49 (fun z => by omega)
      · simp only [show ¬ nI i < 7 from nI_nlt (a := i) (b := 7) (by omega) (by omega), if_false]
        simp only [gX6_still_33, h0, true_and, r6, rf_some, n7, not_false_eq_true, em, rIn_at t24 (show i % 7 < 7 by omega) (by decide), nI_clamp (show i % 7 < 2 ^ 31 by omega)]
        have ej : J1 24 (i % 7) = tgS (itS l n (i - 7) r) n := by
          have := hw (i - 7) (by omega) (by omega)
          rw [show (i - 7) % 7 = i % 7 by omega] at this
          exact this
        rw [ej]
        have hok : ∀ j, rvOk n (itS l n j r) := fun j => rvOk_it j (CS_ok hC)
        have key : (lg_cmp (tgS (itS l n (i - 7) r) n) (tgS (itS l n i r) n) = 0) ↔ eqL n (itS l n (i - 7) r) (itS l n i r) = true := by
          rw [eqL, decide_eq_true_iff, ← tg_eq (hok _) (hok _) h8]
          exact lg_0 _ _
        by_cases g2 : eqL n (itS l n (i - 7) r) (itS l n i r) = true
        · rw [if_pos (key.mpr g2)]
          simp only [gX6_still_47]
          rw [stF, if_pos ⟨by omega, g2⟩] at k
          exact k I1 J1 hf1 hj1
        · rw [if_neg (fun z => g2 (key.mp z))]
          exact h49 (fun z => g2 z.2)
  simp only [gX6_still_0, h0, true_and, r0, r1, rf_some, hv.1]
  refine c_take h' (fun I1 hf1 hC1 => ?_)
  simp only [Option.toList_none, List.nil_append, gX6_still_11]
  exact loop 61 0 I1 J rU (by omega) hf1 (fun _ _ => rfl) hC1 (fun j hj => absurd hj (by omega)) k
theorem s_isAsThen {i : Nat} {q7 : Nat → Nat → Int32} (h : MS T I R n l q) (hi : i ≤ 60) (hd : 7 ≤ i → ∀ p, p < n → I 81 (8 * ((i - 7) % 8) + p) = q7 0 p)
    (k : ∀ I' : tI, (∀ x, x ≠ 81 → I' x = I x) → (∀ p, p < n → I' 81 (8 * (i % 8) + p) = q 0 p) → (∀ x, (∀ p, p < n → x ≠ 8 * (i % 8) + p) → I' 81 x = I 81 x) → Q (some (.int (if 7 ≤ i ∧ eqL n q7 q = true then 1 else 0))) (T, I', J, R)) : Ex X d mX7_isAsThen 0 [.ref 54, .int (nI i), rU, rU] [] (T, I, J, R) Q := by
  have h8 := MS_8 h
  have hm := h.1
  have t0 := mt_54 hm
  have t81 := mt_81 hm
  have n8 : ¬ (8 : Int32) = 0 := by decide
  have em : nI i - nI i / 8 * 8 = nI (i % 8) := z_mod (b := 8) (by omega) (by decide)
  have e8 : ∀ x : Nat, (8 : Int32) * nI x = nI (8 * x) := fun x => z_mul 8 x
  have loop : ∀ p, p ≤ n → ∀ (I1 : tI) (a : Bool), (∀ x, x ≠ 81 → I1 x = I x) → (∀ p', p' < p → I1 81 (8 * (i % 8) + p') = q 0 p') → (∀ x, (∀ p', p' < p → x ≠ 8 * (i % 8) + p') → I1 81 x = I 81 x) → (a = true ↔ 7 ≤ i ∧ ∀ p', p' < p → q7 0 p' = q 0 p') →
      Ex X d mX7_isAsThen 14 [.ref 54, .int (nI i), .int (if a = true then 1 else 0), .int (nI p)] [] (T, I1, J, R) Q := by
    refine loop_up (P := fun p => ∀ (I1 : tI) (a : Bool), (∀ x, x ≠ 81 → I1 x = I x) → (∀ p', p' < p → I1 81 (8 * (i % 8) + p') = q 0 p') → (∀ x, (∀ p', p' < p → x ≠ 8 * (i % 8) + p') → I1 81 x = I 81 x) → (a = true ↔ 7 ≤ i ∧ ∀ p', p' < p → q7 0 p' = q 0 p') →
      Ex X d mX7_isAsThen 14 [.ref 54, .int (nI i), .int (if a = true then 1 else 0), .int (nI p)] [] (T, I1, J, R) Q) (n := n) ?_ ?_
    · intro I1 a hf1 hw1 ho1 ha
      simp only [gX7_isAsThen_14, t0, true_and, hf1 54 (by decide), h.2.2.1, nI_le (Nat.le_refl n) (by omega), if_true, gX7_isAsThen_82]
      refine ⟨by cases a <;> simp, ?_⟩
      have := k I1 hf1 hw1 ho1
      have e : (7 ≤ i ∧ eqL n q7 q = true) ↔ a = true := by rw [ha, eqL, decide_eq_true_iff]
      simp only [e] at this
      exact this
    · intro p hp ih I1 a hf1 hw1 ho1 ha
      simp only [gX7_isAsThen_14, t0, true_and, hf1 54 (by decide), h.2.2.1, nI_ge hp (by omega), if_false]
      simp only [gX7_isAsThen_22]
      have f55 := hf1 55 (by decide)
      have n5581 : (55 : Nat) ≠ 81 := by decide
      have rest : ∀ a' : Bool, (a' = true ↔ 7 ≤ i ∧ ∀ p', p' < p + 1 → q7 0 p' = q 0 p') → Ex X d mX7_isAsThen 56 [.ref 54, .int (nI i), .int (if a' = true then 1 else 0), .int (nI p)] [] (T, I1, J, R) Q := by
        intro a' ha'
        simp only [gX7_isAsThen_56, t0, true_and, mr_1 hm, mr_40 hm, rf_some, n8, not_false_eq_true, em, e8, nI_add, rIn_at (mt_55 hm) (show p < 32 by omega) (by decide), rIn_at t81 (show 8 * (i % 8) + p < 64 by omega) (by decide), nI_clamp (show p < 2 ^ 31 by omega), nI_clamp (show 8 * (i % 8) + p < 2 ^ 31 by omega), f55, MS_lv h hp, nI_1]
        refine ih _ a' (fun x hx => by rw [up_ne _ _ hx]; exact hf1 x hx) (fun p' hp' => ?_) (fun x hx => ?_) ha'
        · rw [up_self]
          by_cases e : p' = p
          · rw [e, up_self]
          · rw [up_ne _ _ (by omega)]
            exact hw1 p' (by omega)
        · rw [up_self, up_ne _ _ (hx p (by omega))]
          exact ho1 x (fun p' hp' => hx p' (by omega))
      by_cases g : i < 7
      · simp only [show nI i < 7 from nI_lt (b := 7) g (by decide), if_true]
        refine rest a ?_
        rw [ha]
        constructor
        · intro z; omega
        · intro z; omega
      · simp only [show ¬ nI i < 7 from nI_nlt (a := i) (b := 7) (by omega) (by omega), if_false]
        have es : nI i - 7 = nI (i - 7) := z_sub (b := 7) (by omega)
        have em2 : nI (i - 7) - nI (i - 7) / 8 * 8 = nI ((i - 7) % 8) := z_mod (b := 8) (by omega) (by decide)
        have e81 : I1 81 (8 * ((i - 7) % 8) + p) = q7 0 p := by
          rw [ho1 _ (fun p' hp' => by omega)]
          exact hd (by omega) p hp
        simp only [gX7_isAsThen_28, t0, true_and, mr_1 hm, mr_40 hm, rf_some, n8, not_false_eq_true, es, em2, e8, nI_add, rIn_at (mt_55 hm) (show p < 32 by omega) (by decide), rIn_at t81 (show 8 * ((i - 7) % 8) + p < 64 by omega) (by decide), nI_clamp (show p < 2 ^ 31 by omega), nI_clamp (show 8 * ((i - 7) % 8) + p < 2 ^ 31 by omega), f55, MS_lv h hp, e81]
        by_cases g2 : q7 0 p = q 0 p
        · simp only [g2, if_true]
          refine rest a ?_
          rw [ha]
          constructor
          · intro z
            refine ⟨z.1, fun p' hp' => ?_⟩
            by_cases e : p' = p
            · rw [e]; exact g2
            · exact z.2 p' (by omega)
          · intro z
            exact ⟨z.1, fun p' hp' => z.2 p' (by omega)⟩
        · simp only [g2, if_false, gX7_isAsThen_54]
          refine rest false ?_
          constructor
          · intro z; cases z
          · intro z; exact absurd (z.2 p (by omega)) g2
  simp only [gX7_isAsThen_0]
  by_cases g : i < 7
  · simp only [show nI i < 7 from nI_lt (b := 7) g (by decide), if_true, gX7_isAsThen_10, gX7_isAsThen_11]
    exact loop 0 (by omega) I false (fun _ _ => rfl) (fun p' hp' => absurd hp' (by omega)) (fun _ _ => rfl) ⟨fun z => (by cases z), fun z => by omega⟩
  · simp only [show ¬ nI i < 7 from nI_nlt (a := i) (b := 7) (by omega) (by omega), if_false, gX7_isAsThen_6, gX7_isAsThen_11]
    exact loop 0 (by omega) I true (fun _ _ => rfl) (fun p' hp' => absurd hp' (by omega)) (fun _ _ => rfl) ⟨fun _ => ⟨by omega, fun p' hp' => absurd hp' (by omega)⟩, fun _ => rfl⟩
theorem m_still (h : MS T I R n l r) (k : ∀ I' : tI, frM I I' → MS T I' R n l r → Q (some (.int (stillS n l r))) (T, I', J, R)) : Ex X (d + 6) mX7_still 0 [.ref 54, rU, rU] [] (T, I, J, R) Q := by
  have h8 := MS_8 h
  have hm := h.1
  have t0 := mt_54 hm
  have fin : ∀ (v' i : Int32) (I3 : tI) (q : Nat → Nat → Int32), frM I I3 → MS T I3 R n l q → sB n q r → Kp I3 79 n r → (∀ I' : tI, frM I I' → MS T I' R n l r → Q (some (.int v')) (T, I', J, R)) → Ex X (d + 6) mX7_still 49 [.ref 54, .int v', .int i] [] (T, I3, J, R) Q := by
    intro v' i I3 q hf3 hM3 hs3 hK3 k
    simp only [gX7_still_49, t0, true_and, mr_38 hm, rf_some]
    refine s_laysBack hM3 hK3 hs3 (MS_can h) (MS_ok h) (mt_79 hm) (by decide) (fun I4 hf4 hM4 => ?_)
    simp only [Option.toList_none, List.nil_append, gX7_still_59]
    exact k I4 (frM_t hf3 (frM_b hf4)) hM4
  have loop : ∀ (m i : Nat) (I1 : tI), i + m = 61 → frM I I1 → MS T I1 R n l (itS l n (i - 1) r) → Kp I1 79 n r → (∀ j, j < i → i ≤ j + 7 → ∀ p, p < n → I1 81 (8 * (j % 8) + p) = itS l n j r 0 p) → (∀ I' : tI, frM I I' → MS T I' R n l r → Q (some (.int (fstS (stF l n r) l n m i (itS l n i r)))) (T, I', J, R)) → Ex X (d + 6) mX7_still 13 [.ref 54, .int (-2), .int (nI i)] [] (T, I1, J, R) Q := by
    intro m
    induction m with
    | zero =>
      intro i I1 hi hf1 hM1 hK1 hd1 k
      obtain rfl : i = 61 := by omega
      simp only [gX7_still_13, show (60 : Int32) < nI 61 by decide, if_true]
      exact fin _ _ I1 _ hf1 hM1 (sB_it _ (sB_r n r)) hK1 k
    | succ m ih =>
      intro i I1 hi hf1 hM1 hK1 hd1 k
      simp only [gX7_still_13, show ¬ (60 : Int32) < nI i from nI_nlt (a := 60) (b := i) (by omega) (by decide), if_false]
      simp only [gX7_still_19, ne_eq, not_true_eq_false, if_false, gX7_still_25]
      have look : ∀ I2 : tI, frM I I2 → MS T I2 R n l (itS l n i r) → Kp I2 79 n r → I2 81 = I1 81 → Ex X (d + 6) mX7_still 33 [.ref 54, .int (-2), .int (nI i)] [] (T, I2, J, R) Q := by
        intro I2 hf2 hM2 hK2 e81
        simp only [gX7_still_33, t0, true_and]
        refine s_isAsThen (q7 := itS l n (i - 7) r) hM2 (by omega) (fun h7 p hp => by rw [e81]; exact hd1 (i - 7) (by omega) (by omega) p hp) (fun I3 hf3 hw3 ho3 => ?_)
        have f3 : frM I I3 := frM_t hf2 (fun x hx => hf3 x (by omega))
        have hM3 : MS T I3 R n l (itS l n i r) := MS_fr hM2 (fun x hx => hf3 x (by omega))
        have hK3 : Kp I3 79 n r := Kp_fr hK2 (hf3 79 (by decide))
        rw [fstS, stF] at k
        simp only [Option.toList_some, List.cons_append, List.nil_append, gX7_still_38]
        by_cases g : 7 ≤ i ∧ eqL n (itS l n (i - 7) r) (itS l n i r) = true
        · simp only [if_pos g] at k ⊢
          simp only [show ¬ (1 : Int32) = 0 by decide, if_false, gX7_still_41, gX7_still_43, nI_1]
          have ne2 : ¬ nI i = -2 := fun z => by
            have := nI_pos (show i < 2 ^ 31 by omega)
            rw [z] at this
            exact this (by decide)
          simp only [gX7_still_13]
          by_cases g7 : (60 : Int32) < nI (i + 1)
          · simp only [g7, if_true]
            exact fin _ _ I3 _ f3 hM3 (sB_it _ (sB_r n r)) hK3 k
          · simp only [g7, if_false, gX7_still_19, ne_eq, ne2, not_false_eq_true, if_true]
            exact fin _ _ I3 _ f3 hM3 (sB_it _ (sB_r n r)) hK3 k
        · simp only [if_neg g] at k ⊢
          simp only [if_true, gX7_still_43, nI_1]
          refine ih (i + 1) I3 (by omega) f3 hM3 hK3 (fun j hj hj7 p hp => ?_) (by rw [it_succ]; exact k)
          by_cases e : j = i
          · rw [e]
            exact hw3 p hp
          · rw [ho3 _ (fun p' hp' => by omega), e81]
            exact hd1 j (by omega) (by omega) p hp
      by_cases i0 : i = 0
      · subst i0
        simp only [show nI 0 ≤ 0 by decide, if_true]
        exact look I1 hf1 hM1 hK1 rfl
      · simp only [nI_nle (show 0 < i by omega) (by omega), if_false, gX7_still_29, t0, true_and]
        refine s_passes hM1 (fun I2 hf2 hM2 => ?_)
        rw [← it_succ, show i - 1 + 1 = i by omega] at hM2
        simp only [Option.toList_none, List.nil_append]
        exact look I2 (frM_t hf1 (frM_p hf2)) hM2 (Kp_p hK1 (Or.inl rfl) hf2) (hf2 81 (by decide) (by decide) (by decide) (by decide) (by decide))
  simp only [gX7_still_0, t0, true_and, mr_38 hm, rf_some]
  refine s_keeps h (mt_79 hm) (by decide) (fun I1 hf1 hK1 => ?_)
  simp only [Option.toList_none, List.nil_append, gX7_still_8]
  exact loop 61 0 I1 (by omega) (frM_k hf1 (Or.inl rfl)) (MS_k h hf1 (by decide)) hK1 (fun j hj => absurd hj (by omega)) k
end SL
