/-! PURE: a SHELF, on both sides: what it holds (-1 nothing, 0 to 4 a row's sort, 10 and more a step), how long, its elements -/
def CSh (T : tT) (I : tI) (J : tJ) (R : tR) (s : Nat) (hk : Int32) (ln : Nat) (el : Nat → Int64) : Prop := T[42 + 2 * s]? = some (3, 4) ∧ T[43 + 2 * s]? = some (1, 60) ∧ R (42 + 2 * s) 4 = some (43 + 2 * s) ∧ ((hk = -1 ∧ I (42 + 2 * s) 0 = 0) ∨ (∃ k : Nat, k ≤ 4 ∧ hk = nI k ∧ I (42 + 2 * s) 0 = 2 ∧ I (42 + 2 * s) 2 = nI k ∧ I (42 + 2 * s) 3 = nI ln ∧ ln ≤ 60 ∧ ∀ i, i < ln → J (43 + 2 * s) i = el i) ∨ (∃ k : Nat, k < 50 ∧ hk = nI (10 + k) ∧ I (42 + 2 * s) 0 = 1 ∧ I (42 + 2 * s) 1 = nI k))
def MSh (I : tI) (J : tJ) (s : Nat) (hk : Int32) (ln : Nat) (el : Nat → Int64) : Prop := I 75 s = hk ∧ I 76 s = nI ln ∧ ln ≤ 60 ∧ ∀ i, i < ln → J 77 (60 * s + i) = el i
section SH
variable {X : tX} {T : tT} {I I' : tI} {J : tJ} {R : tR} {Q : tQ} {d a b c p n s ln : Nat} {σ : rS} {hk : Int32} {el : Nat → Int64}
theorem c_isShelf {v : Int32} (k : Q (some (.int (if inB v 0 5 = true then 1 else 0))) σ) : Ex X d mX6_isShelf 0 [.int v] [] σ Q := by
  have e : (6 : Int32) ≤ v ↔ 5 < v := by
    rw [Int32.le_iff_toInt_le, Int32.lt_iff_toInt_lt, show (6 : Int32).toInt = 6 by decide, show (5 : Int32).toInt = 5 by decide]
    omega
  simp only [gX6_isShelf_0, gX6_isShelf_4, gX6_isShelf_10, gX6_isShelf_14, gX6_isShelf_15, e]
  unfold inB at k
  by_cases g1 : v < 0
  · simpa [g1] using k
  by_cases g2 : 5 < v
  · simpa [g1, g2] using k
  simpa [g1, g2] using k
theorem sh_10 : ∀ k : Fin 50, ¬ nI (10 + k.val) = -1 ∧ ¬ nI (10 + k.val) = 0 ∧ inB (nI (10 + k.val)) 0 4 = false := by decide +kernel
theorem sh_4 : ∀ k : Fin 5, ¬ nI k.val = -1 ∧ inB (nI k.val) 0 4 = true ∧ ((nI k.val = 0) = (k.val = 0)) := by decide +kernel
theorem c_isBytes (h : CSh T I J R s hk ln el) (k : Q (some (.int (if hk = 0 then 1 else 0))) (T, I, J, R)) : Ex X d mX4_isBytes 0 [.ref (42 + 2 * s)] [] (T, I, J, R) Q := by
  obtain ⟨t0, t1, r4, hh⟩ := h
  simp only [gX4_isBytes_0, t0, true_and]
  rcases hh with ⟨rfl, e0⟩ | ⟨j, hj, rfl, e0, e2, e3, hl, hel⟩ | ⟨j, hj, rfl, e0, e1⟩
  · simpa [e0, gX4_isBytes_19, gX4_isBytes_20] using k
  · simp only [e0, ne_eq, not_true_eq_false, if_false, gX4_isBytes_8, t0, true_and, e2]
    by_cases g : nI j = 0
    · simpa [g, gX4_isBytes_15, gX4_isBytes_20] using k
    · simpa [g, gX4_isBytes_19, gX4_isBytes_20] using k
  · have := (sh_10 ⟨j, hj⟩).2.1
    simpa [e0, this, gX4_isBytes_19, gX4_isBytes_20] using k
theorem c_isBare (h : CSh T I J R s hk ln el) (k : Q (some (.int (if hk = -1 then 1 else 0))) (T, I, J, R)) : Ex X d mX4_isBare 0 [.ref (42 + 2 * s)] [] (T, I, J, R) Q := by
  obtain ⟨t0, t1, r4, hh⟩ := h
  simp only [gX4_isBare_0, t0, true_and]
  rcases hh with ⟨rfl, e0⟩ | ⟨j, hj, rfl, e0, e2, e3, hl, hel⟩ | ⟨j, hj, rfl, e0, e1⟩
  · simpa [e0, gX4_isBare_7, gX4_isBare_12] using k
  · have := (sh_4 ⟨j, by omega⟩).1
    simpa [e0, this, gX4_isBare_11, gX4_isBare_12] using k
  · have := (sh_10 ⟨j, hj⟩).1
    simpa [e0, this, gX4_isBare_11, gX4_isBare_12] using k
theorem c_isRow (h : CSh T I J R s hk ln el) (k : Q (some (.int (if inB hk 0 4 = true then 1 else 0))) (T, I, J, R)) : Ex X d mX4_isRow 0 [.ref (42 + 2 * s)] [] (T, I, J, R) Q := by
  obtain ⟨t0, t1, r4, hh⟩ := h
  simp only [gX4_isRow_0, t0, true_and]
  rcases hh with ⟨rfl, e0⟩ | ⟨j, hj, rfl, e0, e2, e3, hl, hel⟩ | ⟨j, hj, rfl, e0, e1⟩
  · have : inB (-1) 0 4 = false := by decide +kernel
    simpa [e0, this, gX4_isRow_12, gX4_isRow_13] using k
  · have := (sh_4 ⟨j, by omega⟩).2.1
    simpa [e0, this, gX4_isRow_8, gX4_isRow_13] using k
  · have := (sh_10 ⟨j, hj⟩).2.2
    simpa [e0, this, gX4_isRow_12, gX4_isRow_13] using k
theorem m_isShelf {v : Int32} (k : Q (some (.int (if inB v 0 5 = true then 1 else 0))) σ) : Ex X (d + 1) mX7_isShelf 0 [.int v] [] σ Q := by
  simp only [gX7_isShelf_0]
  refine s_within ?_
  simp only [Option.toList_some, List.cons_append, List.nil_append, gX7_isShelf_6]
  refine ⟨?_, k⟩
  cases inB v 0 5 <;> simp
theorem m_toldAt {i : Nat} (hm : IsMod T R) (h : MSh I J s hk ln el) (hs : s < 6) (hi : i < ln) (k : Q (some (.int (el i).toInt32)) (T, I, J, R)) : Ex X d mX7_toldAt 0 [.ref 54, .int (nI s), .int (nI i)] [] (T, I, J, R) Q := by
  obtain ⟨e1, e2, hl, hel⟩ := h
  have e60 : (60 : Int32) * nI s = nI (60 * s) := z_mul 60 s
  simp only [gX7_toldAt_0, mt_54 hm, true_and, mr_36 hm, rf_some, e60, nI_add, rIn_at (mt_77 hm) (show 60 * s + i < 360 by omega) (by decide), nI_clamp (show 60 * s + i < 2 ^ 31 by omega), hel i hi]
  exact k
theorem m_noBytes (hm : IsMod T R) (h : MSh I J s hk ln el) (hs : s < 6) (k : Q (some (.int (if hk = -1 then -11 else if hk = 0 then 0 else -12))) (T, I, J, R)) : Ex X d mX7_noBytes 0 [.ref 54, .int (nI s)] [] (T, I, J, R) Q := by
  obtain ⟨e1, e2, hl, hel⟩ := h
  simp only [gX7_noBytes_0, mt_54 hm, true_and, mr_34 hm, rf_some, rIn_at (mt_75 hm) hs (by decide), nI_clamp (show s < 2 ^ 31 by omega), e1]
  by_cases g : hk = -1
  · simpa [g, gX7_noBytes_10, gX7_noBytes_30] using k
  · simp only [g, ne_eq, not_false_eq_true, if_true, if_false, gX7_noBytes_15, mt_54 hm, true_and, mr_34 hm, rf_some, rIn_at (mt_75 hm) hs (by decide), nI_clamp (show s < 2 ^ 31 by omega), e1] at k ⊢
    by_cases g2 : hk = 0
    · simpa [g2, gX7_noBytes_29, gX7_noBytes_30] using k
    · simpa [g2, gX7_noBytes_24, gX7_noBytes_30] using k
theorem c_small {i : Nat} {j : Nat} (h : CSh T I J R s (nI j) ln el) (hj : j ≤ 4) (hi : i < ln) (k : Q (some (.int (el i).toInt32)) (T, I, J, R)) : Ex X d mX4_small 0 [.ref (42 + 2 * s), .int (nI i)] [] (T, I, J, R) Q := by
  obtain ⟨t0, t1, r4, hh⟩ := h
  rcases hh with ⟨z, e0⟩ | ⟨j', hj', ej, e0, e2, e3, hl, hel⟩ | ⟨j', hj', ej, e0, e1⟩
  · exact absurd z (sh_4 ⟨j, by omega⟩).1
  · simp only [gX4_small_0, nI_pos (show i < 2 ^ 31 by omega), if_false, gX4_small_4, t0, true_and, e3, nI_ge hi (by omega), gX4_small_12, r4, rf_some, rIn_at t1 (show i < 60 by omega) (by decide), nI_clamp (show i < 2 ^ 31 by omega), hel i hi, gX4_small_23]
    exact k
  · rw [nI_eq (by omega) (by omega)] at ej
    omega
end SH
