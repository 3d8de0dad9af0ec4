/-! PURE: acts: what both sides come to, and which bodies run -/
def wrT : (Nat → Int32) → Nat → List Int32 → (Nat → Int32)
  | f, _, [] => f
  | f, q, c :: t => wrT (if q < 24 then va_up f q c else f) (q + 1) t
theorem wr_app : ∀ (t t' : List Int32) (f : Nat → Int32) (q : Nat), wrT f q (t ++ t') = wrT (wrT f q t) (q + t.length) t'
  | [], _, _, _ => rfl
  | c :: t, t', f, q => by
    show wrT (if q < 24 then va_up f q c else f) (q + 1) (t ++ t') = wrT (wrT (if q < 24 then va_up f q c else f) (q + 1) t) (q + (t.length + 1)) t'
    rw [wr_app t t', show q + 1 + t.length = q + (t.length + 1) by omega]
def abN (k : Nat) : Nat := if k = 3 then 2 else if k = 4 then 1 else if k = 5 then 3 else if k = 7 then 4 else 0
def rsF (a : Nat) : Nat → Nat → Nat
  | 0, k => k
  | m + 1, k => if (rTb 3).getD (4 * k + a) 0 = 0 then rsF a m (abN k) else k
/-- the KIND whose body an act of a KIND has -/
def rsK (a k : Nat) : Nat := rsF a 8 k
abbrev tP : Type := Int32 → Int32 × List Int32
def pf0 (n : Nat) : tP := fun x => (x + nI n, [1])
def pf1 (n : Nat) : tP := fun x => ((pf0 n x).1 + 3, 20 :: (pf0 n x).2)
def pf6 (n : Nat) : tP := fun x => ((pf0 n x).1 * 2, 70 :: (pf0 n x).2)
def pfK (n k : Nat) : tP := if rsK 0 k = 1 then pf1 n else if rsK 0 k = 6 then pf6 n else pf0 n
def pd0 (n : Nat) : tP := fun x => (x ^^^ nI n, [11])
def pd3 (n : Nat) : tP := fun x => ((pd0 n x).1 * 3, 40 :: (pd0 n x).2)
def pd4 (n κ : Nat) : tP := fun x => ((pd0 n x).1 - (pfK n κ 2).1, 50 :: ((pd0 n x).2 ++ (pfK n κ 2).2))
def pdK (n κ k : Nat) : tP := if rsK 2 k = 3 then pd3 n else if rsK 2 k = 4 then pd4 n κ else pd0 n
def ps0 (n κ : Nat) : tP := fun x => ((pfK n κ x).1 * 2, 10 :: (pfK n κ x).2)
def ps2 (n κ : Nat) : tP := fun x => (-(ps0 n κ x).1, 30 :: (ps0 n κ x).2)
def ps3 (n κ : Nat) : tP := fun x => ((ps2 n κ (x + 1)).1, 41 :: (ps2 n κ (x + 1)).2)
def ps7 (n κ : Nat) : tP := fun x => ((ps0 n κ x).1 + (pdK n κ κ 2).1, 80 :: ((ps0 n κ x).2 ++ (pdK n κ κ 2).2))
def psK (n κ k : Nat) : tP := if rsK 1 k = 2 then ps2 n κ else if rsK 1 k = 3 then ps3 n κ else if rsK 1 k = 7 then ps7 n κ else ps0 n κ
def pt0 (n κ : Nat) : tP := fun x => ((psK n κ κ x).1 - (pdK n κ κ 1).1, 2 :: ((psK n κ κ x).2 ++ (pdK n κ κ 1).2))
def pt5 (n κ : Nat) : tP := fun x => ((pt0 n κ x).1 ^^^ 5, 60 :: (pt0 n κ x).2)
def pt7 (n κ : Nat) : tP := fun x => ((pt0 n κ x).1 - 1, 81 :: (pt0 n κ x).2)
def ptK (n κ k : Nat) : tP := if rsK 3 k = 5 then pt5 n κ else if rsK 3 k = 7 then pt7 n κ else pt0 n κ
def eM (I I' : tI) (q : Nat) (t : List Int32) : Prop := (∀ x, x ≠ 54 → x ≠ 74 → I' x = I x) ∧ (∀ i, i ≠ 32 → I' 54 i = I 54 i) ∧ I' 54 32 = nI (q + t.length) ∧ I' 74 = wrT (I 74) q t
def eC (I I' : tI) (q : Nat) (t : List Int32) : Prop := (∀ x, x ≠ 38 → x ≠ 40 → I' x = I x) ∧ (∀ i, i ≠ 3 → I' 38 i = I 38 i) ∧ I' 38 3 = nI (q + t.length) ∧ I' 40 = wrT (I 40) q t
section AC
variable {X : tX} {T : tT} {I I' I1 I2 : tI} {J : tJ} {R : tR} {Q : tQ} {d q n κ L0 : Nat} {xs : Nat → Int32} {c : Int32} {t t' : List Int32}
theorem eM_t (h : eM I I1 q t) (h' : eM I1 I2 (q + t.length) t') : eM I I2 q (t ++ t') := by
  obtain ⟨a1, a2, a3, a4⟩ := h
  obtain ⟨b1, b2, b3, b4⟩ := h'
  exact ⟨fun x x1 x2 => by rw [b1 x x1 x2, a1 x x1 x2], fun i hi => by rw [b2 i hi, a2 i hi], by rw [b3, List.length_append, Nat.add_assoc], by rw [b4, a4, wr_app]⟩
theorem eC_t (h : eC I I1 q t) (h' : eC I1 I2 (q + t.length) t') : eC I I2 q (t ++ t') := by
  obtain ⟨a1, a2, a3, a4⟩ := h
  obtain ⟨b1, b2, b3, b4⟩ := h'
  exact ⟨fun x x1 x2 => by rw [b1 x x1 x2, a1 x x1 x2], fun i hi => by rw [b2 i hi, a2 i hi], by rw [b3, List.length_append, Nat.add_assoc], by rw [b4, a4, wr_app]⟩
theorem m_ran (hm : IsMod T R) (hq : I 54 32 = nI q) (hq2 : q ≤ 1000) (k : ∀ I' : tI, eM I I' q [c] → Q none (T, I', J, R)) : Ex X d mX7_ran 0 [.ref 54, .int c] [] (T, I, J, R) Q := by
  have t0 := mt_54 hm
  simp only [gX7_ran_0, t0, true_and, hq]
  by_cases h : q < 24
  · simp only [show ¬ (24 : Int32) ≤ nI q from nI_ge (b := 24) h (by decide), if_false, gX7_ran_9, t0, true_and, mr_33 hm, rf_some, hq, rIn_at (mt_74 hm) h (by decide), nI_clamp (show q < 2 ^ 31 by omega), gX7_ran_19, up_ne _ _ (show (54 : Nat) ≠ 74 by decide), nI_1]
    refine k _ ⟨fun x x1 x2 => by rw [up_ne _ _ x1, up_ne _ _ x2], fun i hi => by rw [up_self, up_ne _ _ hi], by rw [up_self, up_self]; rfl, ?_⟩
    rw [up_ne _ _ (by decide), up_self]
    show _ = (if q < 24 then va_up (I 74) q c else I 74)
    rw [if_pos h]
  · simp only [show (24 : Int32) ≤ nI q from nI_le (a := 24) (by omega) (by omega), if_true, gX7_ran_19, t0, true_and, hq, nI_1]
    refine k _ ⟨fun x x1 x2 => by rw [up_ne _ _ x1], fun i hi => by rw [up_self, up_ne _ _ hi], by rw [up_self, up_self]; rfl, ?_⟩
    rw [up_ne _ _ (by decide)]
    show _ = (if q < 24 then va_up (I 74) q c else I 74)
    rw [if_neg h]
/-- the STEPS, by the class -/
def SK (T : tT) (R : tR) : Prop := T[38]? = some (3, 5) ∧ T[39]? = some (0, 50) ∧ T[40]? = some (0, 24) ∧ R 38 0 = some 39 ∧ R 38 1 = some 40
theorem c_note (hS : SK T R) (hq : I 38 3 = nI q) (hq2 : q ≤ 1000) (k : ∀ I' : tI, eC I I' q [c] → Q none (T, I', J, R)) : Ex X d mX5_note 0 [.ref 38, .int c] [] (T, I, J, R) Q := by
  obtain ⟨t0, t39, t40, r0, r1⟩ := hS
  simp only [gX5_note_0, t0, true_and, hq]
  by_cases h : q < 24
  · simp only [show ¬ (24 : Int32) ≤ nI q from nI_ge (b := 24) h (by decide), if_false, gX5_note_9, t0, true_and, r1, rf_some, hq, rIn_at t40 h (by decide), nI_clamp (show q < 2 ^ 31 by omega), gX5_note_19, up_ne _ _ (show (38 : Nat) ≠ 40 by decide), nI_1]
    refine k _ ⟨fun x x1 x2 => by rw [up_ne _ _ x1, up_ne _ _ x2], fun i hi => by rw [up_self, up_ne _ _ hi], by rw [up_self, up_self]; rfl, ?_⟩
    rw [up_ne _ _ (by decide), up_self]
    show _ = (if q < 24 then va_up (I 40) q c else I 40)
    rw [if_pos h]
  · simp only [show (24 : Int32) ≤ nI q from nI_le (a := 24) (by omega) (by omega), if_true, gX5_note_19, t0, true_and, hq, nI_1]
    refine k _ ⟨fun x x1 x2 => by rw [up_ne _ _ x1], fun i hi => by rw [up_self, up_ne _ _ hi], by rw [up_self, up_self]; rfl, ?_⟩
    rw [up_ne _ _ (by decide)]
    show _ = (if q < 24 then va_up (I 40) q c else I 40)
    rw [if_neg h]
theorem c_isKind {σ : rS} {v : Int32} (k : Q (some (.int (if inB v 0 7 = true then 1 else 0))) σ) : Ex X d mX5_isKind 0 [.int v] [] σ Q := by
  have e : (8 : Int32) ≤ v ↔ 7 < v := by
    rw [Int32.le_iff_toInt_le, Int32.lt_iff_toInt_lt, show (8 : Int32).toInt = 8 by decide, show (7 : Int32).toInt = 7 by decide]
    omega
  simp only [gX5_isKind_0, gX5_isKind_4, gX5_isKind_10, gX5_isKind_14, gX5_isKind_15, e]
  unfold inB at k
  by_cases g1 : v < 0
  · simpa [g1] using k
  by_cases g2 : 7 < v
  · simpa [g1, g2] using k
  simpa [g1, g2] using k
theorem inB_7 {k : Nat} (h : k < 8) : inB (nI k) 0 7 = true := decide_eq_true ⟨nI_pos (by omega), nI_nlt (a := 7) (by omega) (by decide)⟩
theorem c_hasS {sz : Nat} (hS : SK T R) (hz : I 38 2 = nI sz) (hn : n < sz) (h50 : sz ≤ 50) (k : Q (some (.int 1)) (T, I, J, R)) : Ex X d mX5_has 0 [.ref 38, .int (nI n)] [] (T, I, J, R) Q := by
  simp only [gX5_has_0, nI_pos (show n < 2 ^ 31 by omega), if_false, gX5_has_4, hS.1, true_and, hz, nI_ge hn (by omega), gX5_has_12, gX5_has_17, or_true]
  exact k
theorem c_kindOf {sz : Nat} (hS : SK T R) (hz : I 38 2 = nI sz) (hn : n < sz) (h50 : sz ≤ 50) (hκ : I 39 n = nI κ) (k : Q (some (.int (nI κ))) (T, I, J, R)) : Ex X (d + 1) mX5_kindOf 0 [.ref 38, .int (nI n)] [] (T, I, J, R) Q := by
  obtain ⟨t0, t39, t40, r0, r1⟩ := id hS
  simp only [gX5_kindOf_0, t0, true_and]
  refine c_hasS hS hz hn h50 ?_
  simp only [Option.toList_some, List.cons_append, List.nil_append, gX5_kindOf_5, show ¬ (1 : Int32) = 0 by decide, if_false, gX5_kindOf_8, t0, true_and, r0, rf_some, rIn_at t39 (show n < 50 by omega) (by decide), nI_clamp (show n < 2 ^ 31 by omega), hκ, gX5_kindOf_18]
  exact k
theorem rs_ok : ∀ (a : Fin 4) (k : Fin 8), ((rTb 3).getD (4 * k.val + a.val) 0 = 0 → (rTb 2).getD k.val 0 = nI (abN k.val) ∧ abN k.val < 8) ∧ rsK a.val k.val < 8 ∧ ¬ (rTb 3).getD (4 * rsK a.val k.val + a.val) 0 = 0 := by decide +kernel
/-- an act of a STEP begins: the body is found, and noted -/
theorem c_pf {a k e : Nat} {x : Int32} (hS : SK T R) (ha : a < 4) (hk : k < 8) (he : e ≤ 40) (hq : I 38 3 = nI q) (hq2 : q ≤ 1000)
    (kk : ∀ I1 : tI, eC I I1 q [(rTb 3).getD (4 * rsK a k + a) 0] → Ex (rX L0 xs) d mX5_run 0 [.ref 38, .int ((rTb 3).getD (4 * rsK a k + a) 0), .int (nI n), .int ((rTb 2).getD (rsK a k) 0), .int x, .int (nI (e + 1)), rU] [] (T, I1, J, R) (fun v σ1 => Ex (rX L0 xs) (d + 1) mX5_perform 102 [.ref 38, .int (nI n), .int (nI a), .int (nI k), .int x, .int (nI e), .int (nI (rsK a k)), .int ((rTb 3).getD (4 * rsK a k + a) 0)] (v.toList ++ []) σ1 Q)) :
    Ex (rX L0 xs) (d + 1) mX5_perform 0 [.ref 38, .int (nI n), .int (nI a), .int (nI k), .int x, .int (nI e), rU, rU] [] (T, I, J, R) Q := by
  have x2 : rX L0 xs 2 = (8, fun q => (rTb 2).getD q 0) := rfl
  have x3 : rX L0 xs 3 = (32, fun q => (rTb 3).getD q 0) := rfl
  have t0 := hS.1
  have ix : ∀ j, j < 8 → ¬ (nI (4 * j + a) < 0 ∨ 32 ≤ 4 * j + a) := fun j hj => by
    rintro (z | z)
    · exact nI_pos (by omega) z
    · omega
  have iy : ∀ j, j < 8 → ¬ (nI j < 0 ∨ 8 ≤ j) := fun j hj => by
    rintro (z | z)
    · exact nI_pos (by omega) z
    · omega
  have em : ∀ j : Nat, (4 : Int32) * nI j = nI (4 * j) := fun j => z_mul 4 j
  have at48 : ∀ (i : Int32), Ex (rX L0 xs) (d + 1) mX5_perform 48 [.ref 38, .int (nI n), .int (nI a), .int (nI k), .int x, .int (nI e), .int (nI (rsK a k)), .int i] [] (T, I, J, R) Q := by
    intro i
    obtain ⟨-, h8, -⟩ := rs_ok ⟨a, ha⟩ ⟨k, hk⟩
    have h8' : rsK a k < 8 := h8
    simp only [gX5_perform_48]
    refine c_isKind ?_
    simp only [Option.toList_some, List.cons_append, List.nil_append, gX5_perform_53, inB_7 h8', if_true, show ¬ (1 : Int32) = 0 by decide, if_false, gX5_perform_56, show nI e ≤ 40 from nI_le (b := 40) he (by decide), gX5_perform_65, em, nI_add, x3, ix _ h8', not_false_eq_true, true_and, nI_clamp (show 4 * rsK a k + a < 2 ^ 31 by omega), t0]
    refine c_note hS hq hq2 (fun I1 h1 => ?_)
    simp only [Option.toList_none, List.nil_append, gX5_perform_83, x2, iy _ h8', not_false_eq_true, true_and, nI_clamp (show rsK a k < 2 ^ 31 by omega), nI_1, t0]
    exact kk I1 h1
  have loop : ∀ (m i k1 : Nat), i + m = 8 → k1 < 8 → rsF a m k1 = rsK a k → Ex (rX L0 xs) (d + 1) mX5_perform 6 [.ref 38, .int (nI n), .int (nI a), .int (nI k), .int x, .int (nI e), .int (nI k1), .int (nI i)] [] (T, I, J, R) Q := by
    intro m
    induction m with
    | zero =>
      intro i k1 hi h8 hr
      have hr' : k1 = rsK a k := hr
      simp only [gX5_perform_6, show (8 : Int32) ≤ nI i from nI_le (a := 8) (by omega) (by omega), if_true]
      rw [hr']
      exact at48 _
    | succ m ih =>
      intro i k1 hi h8 hr
      simp only [gX5_perform_6, show ¬ (8 : Int32) ≤ nI i from nI_ge (b := 8) (by omega) (by decide), if_false, gX5_perform_13]
      refine c_isKind ?_
      simp only [Option.toList_some, List.cons_append, List.nil_append, gX5_perform_18, inB_7 h8, if_true, show ¬ (1 : Int32) = 0 by decide, if_false, gX5_perform_21, em, nI_add, x3, ix _ h8, not_false_eq_true, true_and, nI_clamp (show 4 * k1 + a < 2 ^ 31 by omega), ne_eq]
      rw [rsF] at hr
      by_cases h0 : (rTb 3).getD (4 * k1 + a) 0 = 0
      · rw [if_pos h0] at hr
        obtain ⟨hab, -⟩ := rs_ok ⟨a, ha⟩ ⟨k1, h8⟩
        obtain ⟨b1, b2⟩ := hab h0
        have b1' : (rTb 2).getD k1 0 = nI (abN k1) := b1
        simp only [h0, not_true_eq_false, if_false, if_true]
        simp only [gX5_perform_34, x2, iy _ h8, not_false_eq_true, true_and, nI_clamp (show k1 < 2 ^ 31 by omega), b1', nI_1]
        exact ih (i + 1) (abN k1) (by omega) b2 hr
      · rw [if_neg h0] at hr
        simp only [h0, not_false_eq_true, if_false, if_true]
        rw [hr]
        exact at48 _
  simp only [gX5_perform_0]
  exact loop 8 0 k rfl hk rfl
/-- what an act owes, by the class -/
def aC (L0 : Nat) (xs : Nat → Int32) (d : Nat) (T : tT) (J : tJ) (R : tR) (n κ E a k : Nat) (p : tP) : Prop := ∀ (I : tI) (q e sz : Nat) (x : Int32) (Q : tQ), I 38 3 = nI q → q + (p x).2.length ≤ 1000 → e ≤ E → I 38 2 = nI sz → n < sz → sz ≤ 50 → I 39 n = nI κ → (∀ I' : tI, eC I I' q (p x).2 → Q (some (.int (p x).1)) (T, I', J, R)) → Ex (rX L0 xs) d mX5_perform 0 [.ref 38, .int (nI n), .int (nI a), .int (nI k), .int x, .int (nI e), rU, rU] [] (T, I, J, R) Q
/-- what an act owes, by the reference -/
def aM (X : tX) (d : Nat) (T : tT) (J : tJ) (R : tR) (n κ : Nat) (M : rM) (U : List Value) (k : Nat) (p : tP) : Prop := ∀ (I : tI) (q : Nat) (x : Int32) (Q : tQ), I 54 32 = nI q → q + (p x).2.length ≤ 1000 → I 73 n = nI κ → (∀ I' : tI, eM I I' q (p x).2 → Q (some (.int (p x).1)) (T, I', J, R)) → Ex X d M 0 (.ref 54 :: .int (nI n) :: .int (nI k) :: .int x :: U) [] (T, I, J, R) Q
theorem m_above {k : Nat} {σ : rS} (hk : k < 8) (kk : Q (some (.int (nI (abN k)))) σ) : Ex X d mX7_above 0 [.int (nI k)] [] σ Q := by
  have h : k = 0 ∨ k = 1 ∨ k = 2 ∨ k = 3 ∨ k = 4 ∨ k = 5 ∨ k = 6 ∨ k = 7 := by omega
  simp only [gX7_above_0, sX7_above_1]
  rcases h with rfl | rfl | rfl | rfl | rfl | rfl | rfl | rfl
  · simp only [show nI 0 = 0 by decide, show ¬ (0 : Int32) = 3 by decide, show ¬ (0 : Int32) = 4 by decide, show ¬ (0 : Int32) = 5 by decide, show ¬ (0 : Int32) = 6 by decide, show ¬ (0 : Int32) = 7 by decide, if_true, if_false, gX7_above_44]
    exact kk
  · simp only [show nI 1 = 1 by decide, show ¬ (1 : Int32) = 3 by decide, show ¬ (1 : Int32) = 4 by decide, show ¬ (1 : Int32) = 5 by decide, show ¬ (1 : Int32) = 6 by decide, show ¬ (1 : Int32) = 7 by decide, if_true, if_false, gX7_above_44]
    exact kk
  · simp only [show nI 2 = 2 by decide, show ¬ (2 : Int32) = 3 by decide, show ¬ (2 : Int32) = 4 by decide, show ¬ (2 : Int32) = 5 by decide, show ¬ (2 : Int32) = 6 by decide, show ¬ (2 : Int32) = 7 by decide, if_true, if_false, gX7_above_44]
    exact kk
  · simp only [show nI 3 = 3 by decide, show ¬ (3 : Int32) = 4 by decide, show ¬ (3 : Int32) = 5 by decide, show ¬ (3 : Int32) = 6 by decide, show ¬ (3 : Int32) = 7 by decide, if_true, if_false, gX7_above_36]
    exact kk
  · simp only [show nI 4 = 4 by decide, show ¬ (4 : Int32) = 3 by decide, show ¬ (4 : Int32) = 5 by decide, show ¬ (4 : Int32) = 6 by decide, show ¬ (4 : Int32) = 7 by decide, if_true, if_false, gX7_above_38]
    exact kk
  · simp only [show nI 5 = 5 by decide, show ¬ (5 : Int32) = 3 by decide, show ¬ (5 : Int32) = 4 by decide, show ¬ (5 : Int32) = 6 by decide, show ¬ (5 : Int32) = 7 by decide, if_true, if_false, gX7_above_40]
    exact kk
  · simp only [show nI 6 = 6 by decide, show ¬ (6 : Int32) = 3 by decide, show ¬ (6 : Int32) = 4 by decide, show ¬ (6 : Int32) = 5 by decide, show ¬ (6 : Int32) = 7 by decide, if_true, if_false, gX7_above_44]
    exact kk
  · simp only [show nI 7 = 7 by decide, show ¬ (7 : Int32) = 3 by decide, show ¬ (7 : Int32) = 4 by decide, show ¬ (7 : Int32) = 5 by decide, show ¬ (7 : Int32) = 6 by decide, if_true, if_false, gX7_above_42]
    exact kk
theorem c_f0 (hS : SK T R) {k : Nat} (hk : k < 8) (hr : rsK 0 k = 0) : aC L0 xs (d + 3) T J R n κ 38 0 k (pf0 n) := by
  intro I q e sz x Q hq hl he hz hn h50 hκ kk
  have l0 : q + 1 + 0 ≤ q + (pf0 n x).2.length := Nat.add_le_add_left (Nat.succ_le_succ (Nat.zero_le _)) q
  refine c_pf (d := d + 2) hS (by decide) hk (by omega) hq (by omega) (fun I1 h1 => ?_)
  rw [hr] at h1 ⊢
  have en : (rTb 3).getD (4 * 0 + 0) 0 = 1 := by decide +kernel
  have ea : (rTb 2).getD 0 0 = -1 := by decide +kernel
  rw [en] at h1 ⊢
  rw [ea]
  simp only [gX5_run_0, hS.1, true_and]
  have f1 : I1 38 2 = nI sz := by rw [h1.2.1 2 (by decide)]; exact hz
  have f2 : I1 39 n = nI κ := by rw [h1.1 39 (by decide) (by decide)]; exact hκ
  refine c_kindOf hS f1 hn h50 f2 ?_
  simp only [Option.toList_some, List.cons_append, List.nil_append, gX5_run_5, sX5_run_8, if_true, if_false, gX5_run_116, hS.1, true_and]
  simp only [Option.toList_some, List.cons_append, List.nil_append, gX5_perform_102]
  exact kk I1 h1
theorem c_f1 (hS : SK T R) (hy0 : aC L0 xs (d + 3) T J R n κ 38 0 0 (pf0 n)) {k : Nat} (hk : k < 8) (hr : rsK 0 k = 1) : aC L0 xs (d + 5) T J R n κ 37 0 k (pf1 n) := by
  intro I q e sz x Q hq hl he hz hn h50 hκ kk
  have l0 : q + 1 + 0 ≤ q + (pf1 n x).2.length := Nat.add_le_add_left (Nat.succ_le_succ (Nat.zero_le _)) q
  refine c_pf (d := d + 4) hS (by decide) hk (by omega) hq (by omega) (fun I1 h1 => ?_)
  rw [hr] at h1 ⊢
  have en : (rTb 3).getD (4 * 1 + 0) 0 = 20 := by decide +kernel
  have ea : (rTb 2).getD 1 0 = nI 0 := by decide +kernel
  rw [en] at h1 ⊢
  rw [ea]
  simp only [gX5_run_0, hS.1, true_and]
  have f1 : I1 38 2 = nI sz := by rw [h1.2.1 2 (by decide)]; exact hz
  have f2 : I1 39 n = nI κ := by rw [h1.1 39 (by decide) (by decide)]; exact hκ
  refine c_kindOf hS f1 hn h50 f2 ?_
  simp only [Option.toList_some, List.cons_append, List.nil_append, gX5_run_5, sX5_run_8, show ¬ (20 : Int32) = 1 by decide, show ¬ (20 : Int32) = 2 by decide, show ¬ (20 : Int32) = 10 by decide, show ¬ (20 : Int32) = 11 by decide, if_true, if_false, gX5_run_166, hS.1, true_and]
  have len0 : (pf1 n x).2.length = (pf0 n x).2.length + 1 := rfl
  refine hy0 I1 (q + ([20] : List Int32).length) (e + 1) sz x _ h1.2.2.1 (by rw [show ([20] : List Int32).length = 1 from rfl]; omega) (by omega) (by rw [h1.2.1 2 (by decide)]; exact hz) hn h50 (by rw [h1.1 39 (by decide) (by decide)]; exact hκ) (fun I2 g0 => ?_)
  have a0 := eC_t h1 g0
  simp only [Option.toList_some, List.cons_append, List.nil_append, gX5_run_177, hS.1, true_and]
  simp only [Option.toList_some, List.cons_append, List.nil_append, gX5_perform_102]
  exact kk I2 a0
theorem c_f6 (hS : SK T R) (hy0 : aC L0 xs (d + 3) T J R n κ 38 0 0 (pf0 n)) {k : Nat} (hk : k < 8) (hr : rsK 0 k = 6) : aC L0 xs (d + 5) T J R n κ 37 0 k (pf6 n) := by
  intro I q e sz x Q hq hl he hz hn h50 hκ kk
  have l0 : q + 1 + 0 ≤ q + (pf6 n x).2.length := Nat.add_le_add_left (Nat.succ_le_succ (Nat.zero_le _)) q
  refine c_pf (d := d + 4) hS (by decide) hk (by omega) hq (by omega) (fun I1 h1 => ?_)
  rw [hr] at h1 ⊢
  have en : (rTb 3).getD (4 * 6 + 0) 0 = 70 := by decide +kernel
  have ea : (rTb 2).getD 6 0 = nI 0 := by decide +kernel
  rw [en] at h1 ⊢
  rw [ea]
  simp only [gX5_run_0, hS.1, true_and]
  have f1 : I1 38 2 = nI sz := by rw [h1.2.1 2 (by decide)]; exact hz
  have f2 : I1 39 n = nI κ := by rw [h1.1 39 (by decide) (by decide)]; exact hκ
  refine c_kindOf hS f1 hn h50 f2 ?_
  simp only [Option.toList_some, List.cons_append, List.nil_append, gX5_run_5, sX5_run_8, show ¬ (70 : Int32) = 1 by decide, show ¬ (70 : Int32) = 2 by decide, show ¬ (70 : Int32) = 10 by decide, show ¬ (70 : Int32) = 11 by decide, show ¬ (70 : Int32) = 20 by decide, show ¬ (70 : Int32) = 30 by decide, show ¬ (70 : Int32) = 40 by decide, show ¬ (70 : Int32) = 41 by decide, show ¬ (70 : Int32) = 50 by decide, show ¬ (70 : Int32) = 60 by decide, if_true, if_false, gX5_run_259, hS.1, true_and]
  have len0 : (pf6 n x).2.length = (pf0 n x).2.length + 1 := rfl
  refine hy0 I1 (q + ([70] : List Int32).length) (e + 1) sz x _ h1.2.2.1 (by rw [show ([70] : List Int32).length = 1 from rfl]; omega) (by omega) (by rw [h1.2.1 2 (by decide)]; exact hz) hn h50 (by rw [h1.1 39 (by decide) (by decide)]; exact hκ) (fun I2 g0 => ?_)
  have a0 := eC_t h1 g0
  simp only [Option.toList_some, List.cons_append, List.nil_append, gX5_run_270, hS.1, true_and]
  simp only [Option.toList_some, List.cons_append, List.nil_append, gX5_perform_102]
  exact kk I2 a0
theorem c_fK (hS : SK T R) {k : Nat} (hk : k < 8) : aC L0 xs (d + 5) T J R n κ 37 0 k (pfK n k) := by
  have z : ∀ k : Fin 8, rsK 0 k.val = 0 ∨ rsK 0 k.val = 1 ∨ rsK 0 k.val = 6 := by decide +kernel
  have h0 : ∀ j, j < 8 → rsK 0 j = 0 → aC L0 xs (d + 3) T J R n κ 38 0 j (pf0 n) := fun j hj hr => c_f0 hS hj hr
  unfold pfK
  rcases z ⟨k, hk⟩ with e | e | e
  · have e' : rsK 0 k = 0 := e
    rw [if_neg (by rw [e']; decide), if_neg (by rw [e']; decide)]
    intro I q e sz x Q hq hl he
    exact c_f0 (d := d + 2) hS hk e' I q e sz x Q hq hl (by omega)
  · have e' : rsK 0 k = 1 := e
    rw [if_pos e']
    exact c_f1 hS (h0 0 (by decide) (by decide +kernel)) hk e'
  · have e' : rsK 0 k = 6 := e
    rw [if_neg (by rw [e']; decide), if_pos e']
    exact c_f6 hS (h0 0 (by decide) (by decide +kernel)) hk e'
theorem c_d0 (hS : SK T R) {k : Nat} (hk : k < 8) (hr : rsK 2 k = 0) : aC L0 xs (d + 3) T J R n κ 38 2 k (pd0 n) := by
  intro I q e sz x Q hq hl he hz hn h50 hκ kk
  have l0 : q + 1 + 0 ≤ q + (pd0 n x).2.length := Nat.add_le_add_left (Nat.succ_le_succ (Nat.zero_le _)) q
  refine c_pf (d := d + 2) hS (by decide) hk (by omega) hq (by omega) (fun I1 h1 => ?_)
  rw [hr] at h1 ⊢
  have en : (rTb 3).getD (4 * 0 + 2) 0 = 11 := by decide +kernel
  have ea : (rTb 2).getD 0 0 = -1 := by decide +kernel
  rw [en] at h1 ⊢
  rw [ea]
  simp only [gX5_run_0, hS.1, true_and]
  have f1 : I1 38 2 = nI sz := by rw [h1.2.1 2 (by decide)]; exact hz
  have f2 : I1 39 n = nI κ := by rw [h1.1 39 (by decide) (by decide)]; exact hκ
  refine c_kindOf hS f1 hn h50 f2 ?_
  simp only [Option.toList_some, List.cons_append, List.nil_append, gX5_run_5, sX5_run_8, show ¬ (11 : Int32) = 1 by decide, show ¬ (11 : Int32) = 2 by decide, show ¬ (11 : Int32) = 10 by decide, if_true, if_false, gX5_run_161, hS.1, true_and]
  simp only [Option.toList_some, List.cons_append, List.nil_append, gX5_perform_102]
  exact kk I1 h1
theorem c_d3 (hS : SK T R) (hy0 : aC L0 xs (d + 3) T J R n κ 38 2 2 (pd0 n)) {k : Nat} (hk : k < 8) (hr : rsK 2 k = 3) : aC L0 xs (d + 5) T J R n κ 37 2 k (pd3 n) := by
  intro I q e sz x Q hq hl he hz hn h50 hκ kk
  have l0 : q + 1 + 0 ≤ q + (pd3 n x).2.length := Nat.add_le_add_left (Nat.succ_le_succ (Nat.zero_le _)) q
  refine c_pf (d := d + 4) hS (by decide) hk (by omega) hq (by omega) (fun I1 h1 => ?_)
  rw [hr] at h1 ⊢
  have en : (rTb 3).getD (4 * 3 + 2) 0 = 40 := by decide +kernel
  have ea : (rTb 2).getD 3 0 = nI 2 := by decide +kernel
  rw [en] at h1 ⊢
  rw [ea]
  simp only [gX5_run_0, hS.1, true_and]
  have f1 : I1 38 2 = nI sz := by rw [h1.2.1 2 (by decide)]; exact hz
  have f2 : I1 39 n = nI κ := by rw [h1.1 39 (by decide) (by decide)]; exact hκ
  refine c_kindOf hS f1 hn h50 f2 ?_
  simp only [Option.toList_some, List.cons_append, List.nil_append, gX5_run_5, sX5_run_8, show ¬ (40 : Int32) = 1 by decide, show ¬ (40 : Int32) = 2 by decide, show ¬ (40 : Int32) = 10 by decide, show ¬ (40 : Int32) = 11 by decide, show ¬ (40 : Int32) = 20 by decide, show ¬ (40 : Int32) = 30 by decide, if_true, if_false, gX5_run_193, hS.1, true_and]
  have len0 : (pd3 n x).2.length = (pd0 n x).2.length + 1 := rfl
  refine hy0 I1 (q + ([40] : List Int32).length) (e + 1) sz x _ h1.2.2.1 (by rw [show ([40] : List Int32).length = 1 from rfl]; omega) (by omega) (by rw [h1.2.1 2 (by decide)]; exact hz) hn h50 (by rw [h1.1 39 (by decide) (by decide)]; exact hκ) (fun I2 g0 => ?_)
  have a0 := eC_t h1 g0
  simp only [Option.toList_some, List.cons_append, List.nil_append, gX5_run_204, hS.1, true_and]
  simp only [Option.toList_some, List.cons_append, List.nil_append, gX5_perform_102]
  exact kk I2 a0
theorem c_d4 (hS : SK T R) (hy0 : aC L0 xs (d + 5) T J R n κ 37 2 1 (pd0 n)) (hy1 : aC L0 xs (d + 5) T J R n κ 37 0 κ (pfK n κ)) {k : Nat} (hk : k < 8) (hr : rsK 2 k = 4) : aC L0 xs (d + 7) T J R n κ 36 2 k (pd4 n κ) := by
  intro I q e sz x Q hq hl he hz hn h50 hκ kk
  have l0 : q + 1 + 0 ≤ q + (pd4 n κ x).2.length := Nat.add_le_add_left (Nat.succ_le_succ (Nat.zero_le _)) q
  refine c_pf (d := d + 6) hS (by decide) hk (by omega) hq (by omega) (fun I1 h1 => ?_)
  rw [hr] at h1 ⊢
  have en : (rTb 3).getD (4 * 4 + 2) 0 = 50 := by decide +kernel
  have ea : (rTb 2).getD 4 0 = nI 1 := by decide +kernel
  rw [en] at h1 ⊢
  rw [ea]
  simp only [gX5_run_0, hS.1, true_and]
  have f1 : I1 38 2 = nI sz := by rw [h1.2.1 2 (by decide)]; exact hz
  have f2 : I1 39 n = nI κ := by rw [h1.1 39 (by decide) (by decide)]; exact hκ
  refine c_kindOf hS f1 hn h50 f2 ?_
  simp only [Option.toList_some, List.cons_append, List.nil_append, gX5_run_5, sX5_run_8, show ¬ (50 : Int32) = 1 by decide, show ¬ (50 : Int32) = 2 by decide, show ¬ (50 : Int32) = 10 by decide, show ¬ (50 : Int32) = 11 by decide, show ¬ (50 : Int32) = 20 by decide, show ¬ (50 : Int32) = 30 by decide, show ¬ (50 : Int32) = 40 by decide, show ¬ (50 : Int32) = 41 by decide, if_true, if_false, gX5_run_221, hS.1, true_and]
  have len0 : (pd4 n κ x).2.length = (pd0 n x).2.length + (pfK n κ 2).2.length + 1 := by show ((pd0 n x).2 ++ (pfK n κ 2).2).length + 1 = _; rw [List.length_append]
  refine hy0 I1 (q + ([50] : List Int32).length) (e + 1) sz x _ h1.2.2.1 (by rw [show ([50] : List Int32).length = 1 from rfl]; omega) (by omega) (by rw [h1.2.1 2 (by decide)]; exact hz) hn h50 (by rw [h1.1 39 (by decide) (by decide)]; exact hκ) (fun I2 g0 => ?_)
  have a0 := eC_t h1 g0
  simp only [Option.toList_some, List.cons_append, List.nil_append, gX5_run_232, hS.1, true_and]
  have len1 : True := trivial
  refine hy1 I2 (q + ([50] ++ (pd0 n x).2).length) (e + 1) sz 2 _ a0.2.2.1 (by rw [List.length_append, show ([50] : List Int32).length = 1 from rfl]; omega) (by omega) (by rw [a0.2.1 2 (by decide)]; exact hz) hn h50 (by rw [a0.1 39 (by decide) (by decide)]; exact hκ) (fun I3 g1 => ?_)
  have a1 := eC_t a0 g1
  simp only [Option.toList_some, List.cons_append, List.nil_append, gX5_run_243, hS.1, true_and]
  simp only [Option.toList_some, List.cons_append, List.nil_append, gX5_perform_102]
  exact kk I3 a1
theorem c_dK (hS : SK T R) {k : Nat} (hκ8 : κ < 8) (hk : k < 8) : aC L0 xs (d + 7) T J R n κ 36 2 k (pdK n κ k) := by
  have z : ∀ k : Fin 8, rsK 2 k.val = 0 ∨ rsK 2 k.val = 3 ∨ rsK 2 k.val = 4 := by decide +kernel
  have h0 : ∀ j D, j < 8 → rsK 2 j = 0 → aC L0 xs (D + 3) T J R n κ 38 2 j (pd0 n) := fun j D hj hr => c_d0 hS hj hr
  unfold pdK
  rcases z ⟨k, hk⟩ with e | e | e
  · have e' : rsK 2 k = 0 := e
    rw [if_neg (by rw [e']; decide), if_neg (by rw [e']; decide)]
    intro I q e sz x Q hq hl he
    exact c_d0 (d := d + 4) hS hk e' I q e sz x Q hq hl (by omega)
  · have e' : rsK 2 k = 3 := e
    rw [if_pos e']
    intro I q e sz x Q hq hl he
    exact c_d3 (d := d + 2) hS (h0 2 (d + 2) (by decide) (by decide +kernel)) hk e' I q e sz x Q hq hl (by omega)
  · have e' : rsK 2 k = 4 := e
    rw [if_neg (by rw [e']; decide), if_pos e']
    exact c_d4 hS (fun I q e sz x Q hq hl he => h0 1 (d + 2) (by decide) (by decide +kernel) I q e sz x Q hq hl (by omega)) (c_fK hS hκ8) hk e'
theorem c_s0 (hS : SK T R) (hy0 : aC L0 xs (d + 5) T J R n κ 37 0 κ (pfK n κ)) {k : Nat} (hk : k < 8) (hr : rsK 1 k = 0) : aC L0 xs (d + 7) T J R n κ 36 1 k (ps0 n κ) := by
  intro I q e sz x Q hq hl he hz hn h50 hκ kk
  have l0 : q + 1 + 0 ≤ q + (ps0 n κ x).2.length := Nat.add_le_add_left (Nat.succ_le_succ (Nat.zero_le _)) q
  refine c_pf (d := d + 6) hS (by decide) hk (by omega) hq (by omega) (fun I1 h1 => ?_)
  rw [hr] at h1 ⊢
  have en : (rTb 3).getD (4 * 0 + 1) 0 = 10 := by decide +kernel
  have ea : (rTb 2).getD 0 0 = -1 := by decide +kernel
  rw [en] at h1 ⊢
  rw [ea]
  simp only [gX5_run_0, hS.1, true_and]
  have f1 : I1 38 2 = nI sz := by rw [h1.2.1 2 (by decide)]; exact hz
  have f2 : I1 39 n = nI κ := by rw [h1.1 39 (by decide) (by decide)]; exact hκ
  refine c_kindOf hS f1 hn h50 f2 ?_
  simp only [Option.toList_some, List.cons_append, List.nil_append, gX5_run_5, sX5_run_8, show ¬ (10 : Int32) = 1 by decide, show ¬ (10 : Int32) = 2 by decide, if_true, if_false, gX5_run_146, hS.1, true_and]
  have len0 : (ps0 n κ x).2.length = (pfK n κ x).2.length + 1 := rfl
  refine hy0 I1 (q + ([10] : List Int32).length) (e + 1) sz x _ h1.2.2.1 (by rw [show ([10] : List Int32).length = 1 from rfl]; omega) (by omega) (by rw [h1.2.1 2 (by decide)]; exact hz) hn h50 (by rw [h1.1 39 (by decide) (by decide)]; exact hκ) (fun I2 g0 => ?_)
  have a0 := eC_t h1 g0
  simp only [Option.toList_some, List.cons_append, List.nil_append, gX5_run_158, hS.1, true_and]
  simp only [Option.toList_some, List.cons_append, List.nil_append, gX5_perform_102]
  exact kk I2 a0
theorem c_s2 (hS : SK T R) (hy0 : aC L0 xs (d + 7) T J R n κ 36 1 0 (ps0 n κ)) {k : Nat} (hk : k < 8) (hr : rsK 1 k = 2) : aC L0 xs (d + 9) T J R n κ 35 1 k (ps2 n κ) := by
  intro I q e sz x Q hq hl he hz hn h50 hκ kk
  have l0 : q + 1 + 0 ≤ q + (ps2 n κ x).2.length := Nat.add_le_add_left (Nat.succ_le_succ (Nat.zero_le _)) q
  refine c_pf (d := d + 8) hS (by decide) hk (by omega) hq (by omega) (fun I1 h1 => ?_)
  rw [hr] at h1 ⊢
  have en : (rTb 3).getD (4 * 2 + 1) 0 = 30 := by decide +kernel
  have ea : (rTb 2).getD 2 0 = nI 0 := by decide +kernel
  rw [en] at h1 ⊢
  rw [ea]
  simp only [gX5_run_0, hS.1, true_and]
  have f1 : I1 38 2 = nI sz := by rw [h1.2.1 2 (by decide)]; exact hz
  have f2 : I1 39 n = nI κ := by rw [h1.1 39 (by decide) (by decide)]; exact hκ
  refine c_kindOf hS f1 hn h50 f2 ?_
  simp only [Option.toList_some, List.cons_append, List.nil_append, gX5_run_5, sX5_run_8, show ¬ (30 : Int32) = 1 by decide, show ¬ (30 : Int32) = 2 by decide, show ¬ (30 : Int32) = 10 by decide, show ¬ (30 : Int32) = 11 by decide, show ¬ (30 : Int32) = 20 by decide, if_true, if_false, gX5_run_180, hS.1, true_and]
  have len0 : (ps2 n κ x).2.length = (ps0 n κ x).2.length + 1 := rfl
  refine hy0 I1 (q + ([30] : List Int32).length) (e + 1) sz x _ h1.2.2.1 (by rw [show ([30] : List Int32).length = 1 from rfl]; omega) (by omega) (by rw [h1.2.1 2 (by decide)]; exact hz) hn h50 (by rw [h1.1 39 (by decide) (by decide)]; exact hκ) (fun I2 g0 => ?_)
  have a0 := eC_t h1 g0
  simp only [Option.toList_some, List.cons_append, List.nil_append, gX5_run_191, hS.1, true_and]
  simp only [Option.toList_some, List.cons_append, List.nil_append, gX5_perform_102]
  exact kk I2 a0
theorem c_s3 (hS : SK T R) (hy0 : aC L0 xs (d + 9) T J R n κ 35 1 2 (ps2 n κ)) {k : Nat} (hk : k < 8) (hr : rsK 1 k = 3) : aC L0 xs (d + 11) T J R n κ 34 1 k (ps3 n κ) := by
  intro I q e sz x Q hq hl he hz hn h50 hκ kk
  have l0 : q + 1 + 0 ≤ q + (ps3 n κ x).2.length := Nat.add_le_add_left (Nat.succ_le_succ (Nat.zero_le _)) q
  refine c_pf (d := d + 10) hS (by decide) hk (by omega) hq (by omega) (fun I1 h1 => ?_)
  rw [hr] at h1 ⊢
  have en : (rTb 3).getD (4 * 3 + 1) 0 = 41 := by decide +kernel
  have ea : (rTb 2).getD 3 0 = nI 2 := by decide +kernel
  rw [en] at h1 ⊢
  rw [ea]
  simp only [gX5_run_0, hS.1, true_and]
  have f1 : I1 38 2 = nI sz := by rw [h1.2.1 2 (by decide)]; exact hz
  have f2 : I1 39 n = nI κ := by rw [h1.1 39 (by decide) (by decide)]; exact hκ
  refine c_kindOf hS f1 hn h50 f2 ?_
  simp only [Option.toList_some, List.cons_append, List.nil_append, gX5_run_5, sX5_run_8, show ¬ (41 : Int32) = 1 by decide, show ¬ (41 : Int32) = 2 by decide, show ¬ (41 : Int32) = 10 by decide, show ¬ (41 : Int32) = 11 by decide, show ¬ (41 : Int32) = 20 by decide, show ¬ (41 : Int32) = 30 by decide, show ¬ (41 : Int32) = 40 by decide, if_true, if_false, gX5_run_207, hS.1, true_and]
  have len0 : (ps3 n κ x).2.length = (ps2 n κ (x + 1)).2.length + 1 := rfl
  refine hy0 I1 (q + ([41] : List Int32).length) (e + 1) sz (x + 1) _ h1.2.2.1 (by rw [show ([41] : List Int32).length = 1 from rfl]; omega) (by omega) (by rw [h1.2.1 2 (by decide)]; exact hz) hn h50 (by rw [h1.1 39 (by decide) (by decide)]; exact hκ) (fun I2 g0 => ?_)
  have a0 := eC_t h1 g0
  simp only [Option.toList_some, List.cons_append, List.nil_append, gX5_run_220, hS.1, true_and]
  simp only [Option.toList_some, List.cons_append, List.nil_append, gX5_perform_102]
  exact kk I2 a0
theorem c_s7 (hS : SK T R) (hy0 : aC L0 xs (d + 7) T J R n κ 36 1 4 (ps0 n κ)) (hy1 : aC L0 xs (d + 7) T J R n κ 36 2 κ (pdK n κ κ)) {k : Nat} (hk : k < 8) (hr : rsK 1 k = 7) : aC L0 xs (d + 9) T J R n κ 35 1 k (ps7 n κ) := by
  intro I q e sz x Q hq hl he hz hn h50 hκ kk
  have l0 : q + 1 + 0 ≤ q + (ps7 n κ x).2.length := Nat.add_le_add_left (Nat.succ_le_succ (Nat.zero_le _)) q
  refine c_pf (d := d + 8) hS (by decide) hk (by omega) hq (by omega) (fun I1 h1 => ?_)
  rw [hr] at h1 ⊢
  have en : (rTb 3).getD (4 * 7 + 1) 0 = 80 := by decide +kernel
  have ea : (rTb 2).getD 7 0 = nI 4 := by decide +kernel
  rw [en] at h1 ⊢
  rw [ea]
  simp only [gX5_run_0, hS.1, true_and]
  have f1 : I1 38 2 = nI sz := by rw [h1.2.1 2 (by decide)]; exact hz
  have f2 : I1 39 n = nI κ := by rw [h1.1 39 (by decide) (by decide)]; exact hκ
  refine c_kindOf hS f1 hn h50 f2 ?_
  simp only [Option.toList_some, List.cons_append, List.nil_append, gX5_run_5, sX5_run_8, show ¬ (80 : Int32) = 1 by decide, show ¬ (80 : Int32) = 2 by decide, show ¬ (80 : Int32) = 10 by decide, show ¬ (80 : Int32) = 11 by decide, show ¬ (80 : Int32) = 20 by decide, show ¬ (80 : Int32) = 30 by decide, show ¬ (80 : Int32) = 40 by decide, show ¬ (80 : Int32) = 41 by decide, show ¬ (80 : Int32) = 50 by decide, show ¬ (80 : Int32) = 60 by decide, show ¬ (80 : Int32) = 70 by decide, if_true, if_false, gX5_run_273, hS.1, true_and]
  have len0 : (ps7 n κ x).2.length = (ps0 n κ x).2.length + (pdK n κ κ 2).2.length + 1 := by show ((ps0 n κ x).2 ++ (pdK n κ κ 2).2).length + 1 = _; rw [List.length_append]
  refine hy0 I1 (q + ([80] : List Int32).length) (e + 1) sz x _ h1.2.2.1 (by rw [show ([80] : List Int32).length = 1 from rfl]; omega) (by omega) (by rw [h1.2.1 2 (by decide)]; exact hz) hn h50 (by rw [h1.1 39 (by decide) (by decide)]; exact hκ) (fun I2 g0 => ?_)
  have a0 := eC_t h1 g0
  simp only [Option.toList_some, List.cons_append, List.nil_append, gX5_run_284, hS.1, true_and]
  have len1 : True := trivial
  refine hy1 I2 (q + ([80] ++ (ps0 n κ x).2).length) (e + 1) sz 2 _ a0.2.2.1 (by rw [List.length_append, show ([80] : List Int32).length = 1 from rfl]; omega) (by omega) (by rw [a0.2.1 2 (by decide)]; exact hz) hn h50 (by rw [a0.1 39 (by decide) (by decide)]; exact hκ) (fun I3 g1 => ?_)
  have a1 := eC_t a0 g1
  simp only [Option.toList_some, List.cons_append, List.nil_append, gX5_run_295, hS.1, true_and]
  simp only [Option.toList_some, List.cons_append, List.nil_append, gX5_perform_102]
  exact kk I3 a1
theorem c_sK (hS : SK T R) {k : Nat} (hκ8 : κ < 8) (hk : k < 8) : aC L0 xs (d + 11) T J R n κ 34 1 k (psK n κ k) := by
  have z : ∀ k : Fin 8, rsK 1 k.val = 0 ∨ rsK 1 k.val = 2 ∨ rsK 1 k.val = 3 ∨ rsK 1 k.val = 7 := by decide +kernel
  have h0 : ∀ j D, j < 8 → rsK 1 j = 0 → aC L0 xs (D + 7) T J R n κ 36 1 j (ps0 n κ) := fun j D hj hr => c_s0 hS (c_fK hS hκ8) hj hr
  have h2 : aC L0 xs (d + 9) T J R n κ 35 1 2 (ps2 n κ) := c_s2 hS (h0 0 d (by decide) (by decide +kernel)) (by decide) (by decide +kernel)
  unfold psK
  rcases z ⟨k, hk⟩ with e | e | e | e
  · have e' : rsK 1 k = 0 := e
    rw [if_neg (by rw [e']; decide), if_neg (by rw [e']; decide), if_neg (by rw [e']; decide)]
    intro I q e sz x Q hq hl he
    exact h0 k (d + 4) hk e' I q e sz x Q hq hl (by omega)
  · have e' : rsK 1 k = 2 := e
    rw [if_pos e']
    intro I q e sz x Q hq hl he
    exact c_s2 (d := d + 2) hS (h0 0 (d + 2) (by decide) (by decide +kernel)) hk e' I q e sz x Q hq hl (by omega)
  · have e' : rsK 1 k = 3 := e
    rw [if_neg (by rw [e']; decide), if_pos e']
    exact c_s3 hS h2 hk e'
  · have e' : rsK 1 k = 7 := e
    rw [if_neg (by rw [e']; decide), if_neg (by rw [e']; decide), if_pos e']
    intro I q e sz x Q hq hl he
    exact c_s7 (d := d + 2) hS (h0 4 (d + 2) (by decide) (by decide +kernel)) (c_dK hS hκ8 hκ8) hk e' I q e sz x Q hq hl (by omega)
theorem c_t0 (hS : SK T R) (hy0 : aC L0 xs (d + 11) T J R n κ 34 1 κ (psK n κ κ)) (hy1 : aC L0 xs (d + 11) T J R n κ 36 2 κ (pdK n κ κ)) {k : Nat} (hk : k < 8) (hr : rsK 3 k = 0) : aC L0 xs (d + 13) T J R n κ 33 3 k (pt0 n κ) := by
  intro I q e sz x Q hq hl he hz hn h50 hκ kk
  have l0 : q + 1 + 0 ≤ q + (pt0 n κ x).2.length := Nat.add_le_add_left (Nat.succ_le_succ (Nat.zero_le _)) q
  refine c_pf (d := d + 12) hS (by decide) hk (by omega) hq (by omega) (fun I1 h1 => ?_)
  rw [hr] at h1 ⊢
  have en : (rTb 3).getD (4 * 0 + 3) 0 = 2 := by decide +kernel
  have ea : (rTb 2).getD 0 0 = -1 := by decide +kernel
  rw [en] at h1 ⊢
  rw [ea]
  simp only [gX5_run_0, hS.1, true_and]
  have f1 : I1 38 2 = nI sz := by rw [h1.2.1 2 (by decide)]; exact hz
  have f2 : I1 39 n = nI κ := by rw [h1.1 39 (by decide) (by decide)]; exact hκ
  refine c_kindOf hS f1 hn h50 f2 ?_
  simp only [Option.toList_some, List.cons_append, List.nil_append, gX5_run_5, sX5_run_8, show ¬ (2 : Int32) = 1 by decide, if_true, if_false, gX5_run_121, hS.1, true_and]
  have len0 : (pt0 n κ x).2.length = (psK n κ κ x).2.length + (pdK n κ κ 1).2.length + 1 := by show ((psK n κ κ x).2 ++ (pdK n κ κ 1).2).length + 1 = _; rw [List.length_append]
  refine hy0 I1 (q + ([2] : List Int32).length) (e + 1) sz x _ h1.2.2.1 (by rw [show ([2] : List Int32).length = 1 from rfl]; omega) (by omega) (by rw [h1.2.1 2 (by decide)]; exact hz) hn h50 (by rw [h1.1 39 (by decide) (by decide)]; exact hκ) (fun I2 g0 => ?_)
  have a0 := eC_t h1 g0
  simp only [Option.toList_some, List.cons_append, List.nil_append, gX5_run_133, hS.1, true_and]
  have len1 : True := trivial
  refine hy1 I2 (q + ([2] ++ (psK n κ κ x).2).length) (e + 1) sz 1 _ a0.2.2.1 (by rw [List.length_append, show ([2] : List Int32).length = 1 from rfl]; omega) (by omega) (by rw [a0.2.1 2 (by decide)]; exact hz) hn h50 (by rw [a0.1 39 (by decide) (by decide)]; exact hκ) (fun I3 g1 => ?_)
  have a1 := eC_t a0 g1
  simp only [Option.toList_some, List.cons_append, List.nil_append, gX5_run_144, hS.1, true_and]
  simp only [Option.toList_some, List.cons_append, List.nil_append, gX5_perform_102]
  exact kk I3 a1
theorem c_t5 (hS : SK T R) (hy0 : aC L0 xs (d + 13) T J R n κ 33 3 3 (pt0 n κ)) {k : Nat} (hk : k < 8) (hr : rsK 3 k = 5) : aC L0 xs (d + 15) T J R n κ 32 3 k (pt5 n κ) := by
  intro I q e sz x Q hq hl he hz hn h50 hκ kk
  have l0 : q + 1 + 0 ≤ q + (pt5 n κ x).2.length := Nat.add_le_add_left (Nat.succ_le_succ (Nat.zero_le _)) q
  refine c_pf (d := d + 14) hS (by decide) hk (by omega) hq (by omega) (fun I1 h1 => ?_)
  rw [hr] at h1 ⊢
  have en : (rTb 3).getD (4 * 5 + 3) 0 = 60 := by decide +kernel
  have ea : (rTb 2).getD 5 0 = nI 3 := by decide +kernel
  rw [en] at h1 ⊢
  rw [ea]
  simp only [gX5_run_0, hS.1, true_and]
  have f1 : I1 38 2 = nI sz := by rw [h1.2.1 2 (by decide)]; exact hz
  have f2 : I1 39 n = nI κ := by rw [h1.1 39 (by decide) (by decide)]; exact hκ
  refine c_kindOf hS f1 hn h50 f2 ?_
  simp only [Option.toList_some, List.cons_append, List.nil_append, gX5_run_5, sX5_run_8, show ¬ (60 : Int32) = 1 by decide, show ¬ (60 : Int32) = 2 by decide, show ¬ (60 : Int32) = 10 by decide, show ¬ (60 : Int32) = 11 by decide, show ¬ (60 : Int32) = 20 by decide, show ¬ (60 : Int32) = 30 by decide, show ¬ (60 : Int32) = 40 by decide, show ¬ (60 : Int32) = 41 by decide, show ¬ (60 : Int32) = 50 by decide, if_true, if_false, gX5_run_245, hS.1, true_and]
  have len0 : (pt5 n κ x).2.length = (pt0 n κ x).2.length + 1 := rfl
  refine hy0 I1 (q + ([60] : List Int32).length) (e + 1) sz x _ h1.2.2.1 (by rw [show ([60] : List Int32).length = 1 from rfl]; omega) (by omega) (by rw [h1.2.1 2 (by decide)]; exact hz) hn h50 (by rw [h1.1 39 (by decide) (by decide)]; exact hκ) (fun I2 g0 => ?_)
  have a0 := eC_t h1 g0
  simp only [Option.toList_some, List.cons_append, List.nil_append, gX5_run_256, hS.1, true_and]
  simp only [Option.toList_some, List.cons_append, List.nil_append, gX5_perform_102]
  exact kk I2 a0
theorem c_t7 (hS : SK T R) (hy0 : aC L0 xs (d + 13) T J R n κ 33 3 4 (pt0 n κ)) {k : Nat} (hk : k < 8) (hr : rsK 3 k = 7) : aC L0 xs (d + 15) T J R n κ 32 3 k (pt7 n κ) := by
  intro I q e sz x Q hq hl he hz hn h50 hκ kk
  have l0 : q + 1 + 0 ≤ q + (pt7 n κ x).2.length := Nat.add_le_add_left (Nat.succ_le_succ (Nat.zero_le _)) q
  refine c_pf (d := d + 14) hS (by decide) hk (by omega) hq (by omega) (fun I1 h1 => ?_)
  rw [hr] at h1 ⊢
  have en : (rTb 3).getD (4 * 7 + 3) 0 = 81 := by decide +kernel
  have ea : (rTb 2).getD 7 0 = nI 4 := by decide +kernel
  rw [en] at h1 ⊢
  rw [ea]
  simp only [gX5_run_0, hS.1, true_and]
  have f1 : I1 38 2 = nI sz := by rw [h1.2.1 2 (by decide)]; exact hz
  have f2 : I1 39 n = nI κ := by rw [h1.1 39 (by decide) (by decide)]; exact hκ
  refine c_kindOf hS f1 hn h50 f2 ?_
  simp only [Option.toList_some, List.cons_append, List.nil_append, gX5_run_5, sX5_run_8, show ¬ (81 : Int32) = 1 by decide, show ¬ (81 : Int32) = 2 by decide, show ¬ (81 : Int32) = 10 by decide, show ¬ (81 : Int32) = 11 by decide, show ¬ (81 : Int32) = 20 by decide, show ¬ (81 : Int32) = 30 by decide, show ¬ (81 : Int32) = 40 by decide, show ¬ (81 : Int32) = 41 by decide, show ¬ (81 : Int32) = 50 by decide, show ¬ (81 : Int32) = 60 by decide, show ¬ (81 : Int32) = 70 by decide, show ¬ (81 : Int32) = 80 by decide, if_true, if_false, gX5_run_297, hS.1, true_and]
  have len0 : (pt7 n κ x).2.length = (pt0 n κ x).2.length + 1 := rfl
  refine hy0 I1 (q + ([81] : List Int32).length) (e + 1) sz x _ h1.2.2.1 (by rw [show ([81] : List Int32).length = 1 from rfl]; omega) (by omega) (by rw [h1.2.1 2 (by decide)]; exact hz) hn h50 (by rw [h1.1 39 (by decide) (by decide)]; exact hκ) (fun I2 g0 => ?_)
  have a0 := eC_t h1 g0
  simp only [Option.toList_some, List.cons_append, List.nil_append, gX5_run_308, hS.1, true_and]
  simp only [Option.toList_some, List.cons_append, List.nil_append, gX5_perform_102]
  exact kk I2 a0
theorem c_tK (hS : SK T R) {k : Nat} (hκ8 : κ < 8) (hk : k < 8) : aC L0 xs (d + 15) T J R n κ 32 3 k (ptK n κ k) := by
  have z : ∀ k : Fin 8, rsK 3 k.val = 0 ∨ rsK 3 k.val = 5 ∨ rsK 3 k.val = 7 := by decide +kernel
  have h0 : ∀ j D, j < 8 → rsK 3 j = 0 → aC L0 xs (D + 13) T J R n κ 33 3 j (pt0 n κ) := fun j D hj hr => c_t0 hS (c_sK hS hκ8 hκ8) (fun I q e sz x Q hq hl he => c_dK (d := D + 4) hS hκ8 hκ8 I q e sz x Q hq hl he) hj hr
  unfold ptK
  rcases z ⟨k, hk⟩ with e | e | e
  · have e' : rsK 3 k = 0 := e
    rw [if_neg (by rw [e']; decide), if_neg (by rw [e']; decide)]
    intro I q e sz x Q hq hl he
    exact h0 k (d + 2) hk e' I q e sz x Q hq hl (by omega)
  · have e' : rsK 3 k = 5 := e
    rw [if_pos e']
    exact c_t5 hS (h0 3 d (by decide) (by decide +kernel)) hk e'
  · have e' : rsK 3 k = 7 := e
    rw [if_neg (by rw [e']; decide), if_pos e']
    exact c_t7 hS (h0 4 d (by decide) (by decide +kernel)) hk e'
end AC
