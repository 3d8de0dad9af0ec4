/-! PURE: the law's loop, whole -/
section LW
variable {T : tT} {I : tI} {J : tJ} {R : tR} {Q : tQ} {d L : Nat} {xs : Nat → Int32} {x s : Int32}
theorem z_ite {c : Prop} [Decidable c] {A B : Prop} (h1 : c → A) (h2 : ¬ c → B) : if c then A else B := by
  split
  · exact h1 ‹_›
  · exact h2 ‹_›
theorem ixL_of {i : Nat} (hL : L ≤ 3072) (h : i + 6 ≤ L) : ixL L xs (nI i) := by
  have e : (rX L xs 4).1 = L := rfl
  unfold ixL
  rw [e]
  exact ⟨by rw [nI_1]; exact nI_in (by omega) (by omega), by rw [show nI i + 2 = nI (i + 2) from nI_add i 2]; exact nI_in (by omega) (by omega), by rw [show nI i + 3 = nI (i + 3) from nI_add i 3]; exact nI_in (by omega) (by omega), by rw [show nI i + 4 = nI (i + 4) from nI_add i 4]; exact nI_in (by omega) (by omega), by rw [show nI i + 5 = nI (i + 5) from nI_add i 5]; exact nI_in (by omega) (by omega)⟩
theorem lc_all (hx : ixL L xs x) (hR : Rel T I J R) (k : ∀ σ, Rl σ → Ex (rX L xs) (d + 51) mL_law 1443 [.retAddr 4, .ref 0, .ref 54, .int x] [] σ Q) : Ex (rX L xs) (d + 51) mL_law 33 [.retAddr 4, .ref 0, .ref 54, .int x] [.int s] (T, I, J, R) Q := by
  rw [sL_law_33]
  refine z_ite (fun _ => lc_reach hx hR k) (fun _ => ?_)
  refine z_ite (fun _ => lc_reaches hx hR k) (fun _ => ?_)
  refine z_ite (fun _ => lc_mend hx hR k) (fun _ => ?_)
  refine z_ite (fun _ => lc_of hx hR k) (fun _ => ?_)
  refine z_ite (fun _ => lc_feed hx hR k) (fun _ => ?_)
  refine z_ite (fun _ => lc_law hx hR k) (fun _ => ?_)
  refine z_ite (fun _ => lc_goes hx hR k) (fun _ => ?_)
  refine z_ite (fun _ => lc_later hx hR k) (fun _ => ?_)
  refine z_ite (fun _ => lc_river hx hR k) (fun _ => ?_)
  refine z_ite (fun _ => lc_over hx hR k) (fun _ => ?_)
  refine z_ite (fun _ => lc_signs hx hR k) (fun _ => ?_)
  refine z_ite (fun _ => lc_still hx hR k) (fun _ => ?_)
  refine z_ite (fun _ => lc_throwIn hx hR k) (fun _ => ?_)
  refine z_ite (fun _ => lc_bridges hx hR k) (fun _ => ?_)
  refine z_ite (fun _ => lc_ring hx hR k) (fun _ => ?_)
  refine z_ite (fun _ => lc_judge hx hR k) (fun _ => ?_)
  refine z_ite (fun _ => lc_fits hx hR k) (fun _ => ?_)
  refine z_ite (fun _ => lc_hears hx hR k) (fun _ => ?_)
  refine z_ite (fun _ => lc_odd hx hR k) (fun _ => ?_)
  refine z_ite (fun _ => lc_byTurns hx hR k) (fun _ => ?_)
  refine z_ite (fun _ => lc_drawn hx hR k) (fun _ => ?_)
  refine z_ite (fun _ => lc_day hx hR k) (fun _ => ?_)
  refine z_ite (fun _ => lc_gift hx hR k) (fun _ => ?_)
  refine z_ite (fun _ => lc_build hx hR k) (fun _ => ?_)
  refine z_ite (fun _ => lc_led hx hR k) (fun _ => ?_)
  refine z_ite (fun _ => lc_image hx hR k) (fun _ => ?_)
  refine z_ite (fun _ => lc_back hx hR k) (fun _ => ?_)
  refine z_ite (fun _ => lc_undo hx hR k) (fun _ => ?_)
  refine z_ite (fun _ => lc_redo hx hR k) (fun _ => ?_)
  refine z_ite (fun _ => lc_body hx hR k) (fun _ => ?_)
  refine z_ite (fun _ => lc_act hx hR k) (fun _ => ?_)
  refine z_ite (fun _ => lc_trace hx hR k) (fun _ => ?_)
  refine z_ite (fun _ => lc_keep hx hR k) (fun _ => ?_)
  refine z_ite (fun _ => lc_row hx hR k) (fun _ => ?_)
  refine z_ite (fun _ => lc_put hx hR k) (fun _ => ?_)
  refine z_ite (fun _ => lc_element hx hR k) (fun _ => ?_)
  refine z_ite (fun _ => lc_shift hx hR k) (fun _ => ?_)
  refine z_ite (fun _ => lc_taken hx hR k) (fun _ => ?_)
  refine z_ite (fun _ => lc_count hx hR k) (fun _ => ?_)
  exact k (T, I, J, R) hR
theorem lp_law (hL : L ≤ 3072) : ∀ (m i : Nat), L ≤ i + m → i ≤ L → ∀ σ : rS, Rl σ → Ex (rX L xs) (d + 51) mL_law 18 [.retAddr 4, .ref 0, .ref 54, .int (nI i)] [] σ (fun v σ => v = some (.int 1) ∧ σ.1.length ≤ 600000 ∧ rSl σ.1 ≤ 7302250) := by
  intro m
  induction m with
  | zero =>
    rintro i hm hi ⟨T, I, J, R⟩ hR
    simp only [gL_law_18]
    have e : Int32.ofNat (rX L xs 4).1 - 6 < nI i := by
      show nI L - nI 6 < nI i
      rw [Int32.lt_iff_toInt_lt, pk_sub_toInt (by omega) (by omega), nI_toInt (by omega)]
      omega
    rw [if_pos e]
    simp only [gL_law_1449, or_true, true_and]
    exact ⟨hR.1, hR.2.1⟩
  | succ m ih =>
    rintro i hm hi ⟨T, I, J, R⟩ hR
    simp only [gL_law_18]
    by_cases h : i + 6 ≤ L
    · have e : ¬ Int32.ofNat (rX L xs 4).1 - 6 < nI i := by
        show ¬ nI L - nI 6 < nI i
        rw [Int32.lt_iff_toInt_lt, pk_sub_toInt (by omega) (by omega), nI_toInt (by omega)]
        omega
      rw [if_neg e]
      simp only [gL_law_27]
      refine ⟨nI_in (N := (rX L xs 4).1) (show i < L by omega) (show L < 2 ^ 31 by omega), lc_all (ixL_of hL h) hR (fun σ hσ => ?_)⟩
      simp only [gL_law_1443, show nI i + 6 = nI (i + 6) from nI_add i 6]
      exact ih (i + 6) (by omega) (by omega) σ hσ
    · have e : Int32.ofNat (rX L xs 4).1 - 6 < nI i := by
        show nI L - nI 6 < nI i
        rw [Int32.lt_iff_toInt_lt, pk_sub_toInt (by omega) (by omega), nI_toInt (by omega)]
        omega
      rw [if_pos e]
      simp only [gL_law_1449, or_true, true_and]
      exact ⟨hR.1, hR.2.1⟩
end LW
