/-! PURE: a day passes, by the reference -/
def evM (cd : Nat → Int32) (nm : Int32 → Int32) (f t : Nat) : Int32 := (wkM cd nm (t - f) f []).headD 0
def blS (as sy en cd : Nat → Int32) (nm : Int32 → Int32) : Nat → Nat → Int32
  | 0, _ => 0
  | m + 1, i => if as i < sy i ∧ evM cd nm (as i).toNatClampNeg (sy i).toNatClampNeg = 0 then blS as sy en cd nm m (i + 1) else evM cd nm (sy i).toNatClampNeg (en i).toNatClampNeg
/-- the reference's LAW is well made -/
def mOk (I : tI) : Prop := ∃ ln : Nat, I 54 7 = nI ln ∧ ln ≤ 60 ∧ ∀ i, i < ln → ∃ A S E : Nat, I 59 i = nI A ∧ I 60 i = nI S ∧ I 61 i = nI E ∧ A ≤ S ∧ S ≤ E ∧ E ≤ 200 ∧ (A < S → dpM (I 62) (S - A) A 0) ∧ dpM (I 62) (E - S) S 0
def mLw (I : tI) : tL := if I 54 6 = 0 then none else some (fun nm => blS (I 59) (I 60) (I 61) (I 62) nm (I 54 7).toNatClampNeg 0)
def vm (I : tI) : Nat → Nat → Int32 := fun k i => if k = 0 then I 55 i else if k = 1 then I 55 (8 + i) else if k = 2 then I 55 (16 + i) else if k = 3 then I 55 (24 + i) else if k = 4 then I 56 i else if k = 5 then I 57 i else 0
theorem z_8 (i : Nat) : (8 : Int32) + nI i = nI (8 + i) := nI_add 8 i
theorem z_16 (i : Nat) : (16 : Int32) + nI i = nI (16 + i) := nI_add 16 i
theorem z_24 (i : Nat) : (24 : Int32) + nI i = nI (24 + i) := nI_add 24 i
theorem z_go {lv t : Int32} (h : ¬ lv < 0) : (if 0 < (if t < (if lv < 20 then lv else 20) then t else (if lv < 20 then lv else 20)) then (if t < (if lv < 20 then lv else 20) then t else (if lv < 20 then lv else 20)) else 0) = (if lv < wi t 0 20 then lv else wi t 0 20) := by
  unfold wi
  apply Int32.toInt_inj.mp
  simp only [apply_ite Int32.toInt, Int32.lt_iff_toInt_lt, show (0 : Int32).toInt = 0 by decide, show (20 : Int32).toInt = 20 by decide] at h ⊢
  (repeat' split) <;> omega
theorem z_99 (v : Int32) : (if 0 < (if v < 99 then v else 99) then (if v < 99 then v else 99) else 0) = wi v 0 99 := by
  unfold wi
  apply Int32.toInt_inj.mp
  simp only [apply_ite Int32.toInt, Int32.lt_iff_toInt_lt, show (0 : Int32).toInt = 0 by decide, show (99 : Int32).toInt = 99 by decide]
  (repeat' split) <;> omega
theorem vm_eq {I I' : tI} (h55 : I' 55 = I 55) (h56 : I' 56 = I 56) (h57 : I' 57 = I 57) : vm I' = vm I := by
  funext k i
  unfold vm
  rw [h55, h56, h57]
theorem mLw_eq {I I' : tI} (h54 : I' 54 = I 54) (h59 : I' 59 = I 59) (h60 : I' 60 = I 60) (h61 : I' 61 = I 61) (h62 : I' 62 = I 62) : mLw I' = mLw I := by
  unfold mLw
  rw [h54, h59, h60, h61, h62]
theorem mOk_eq {I I' : tI} (h54 : I' 54 = I 54) (h59 : I' 59 = I 59) (h60 : I' 60 = I 60) (h61 : I' 61 = I 61) (h62 : I' 62 = I 62) (h : mOk I) : mOk I' := by
  unfold mOk
  rw [h54, h59, h60, h61, h62]
  exact h
section MP
variable {X : tX} {T : tT} {I : tI} {J : tJ} {R : tR} {Q : tQ} {d p n t : Nat} {σ : rS}
set_option maxHeartbeats 4000000 in
theorem q_byLaw (hm : IsMod T R) (hok : mOk I) (hn : I 54 0 = nI n) (h8 : n ≤ 8) (hp : p < n) (ht : I 57 1 = nI t) (h7 : t < 7)
    (k : ∀ I' : tI, (∀ x, x ≠ 67 → x ≠ 68 → I' x = I x) → Q (some (.int (blS (I 59) (I 60) (I 61) (I 62) (nmS n (can n (vm I)) p) (I 54 7).toNatClampNeg 0))) (T, I', J, R)) : Ex X (d + 2) mX7_byLaw 0 [.ref 54, .int (nI p), rU] [] (T, I, J, R) Q := by
  have t0 := mt_54 hm
  have t55 := mt_55 hm
  have t56 := mt_56 hm
  have t57 := mt_57 hm
  have t59 := mt_59 hm
  have t60 := mt_60 hm
  have t61 := mt_61 hm
  have t68 := mt_68 hm
  obtain ⟨ln, hln, hl60, hli⟩ := hok
  have hcp : (nI p).toNatClampNeg = p := nI_clamp (by omega)
  have hct : (nI t).toNatClampNeg = t := nI_clamp (by omega)
  have c1 : (1 : Int32).toNatClampNeg = 1 := by decide
  have e51 : can n (vm I) 5 1 = nI t := by rw [can_5 (by decide), ← ht]; rfl
  generalize hnm : nmS n (can n (vm I)) p = nm at k
  rw [hln, nI_clamp (show ln < 2 ^ 31 by omega)] at k
  have loop : ∀ (m i : Nat) (I1 : tI), i + m = ln → (∀ x, x ≠ 67 → x ≠ 68 → I1 x = I x) → (∀ j, j < 6 → I1 68 j = nm (chN (nI j))) → (∀ I' : tI, (∀ x, x ≠ 67 → x ≠ 68 → I' x = I x) → Q (some (.int (blS (I 59) (I 60) (I 61) (I 62) nm m i))) (T, I', J, R)) →
      Ex X (d + 2) mX7_byLaw 101 [.ref 54, .int (nI p), .int (nI i)] [] (T, I1, J, R) Q := by
    intro m
    induction m with
    | zero =>
      intro i I1 hi hf hn1 k
      simp only [gX7_byLaw_101, t0, true_and, hf 54 (by decide) (by decide), hln, nI_le (show ln ≤ i by omega) (by omega), if_true, gX7_byLaw_169]
      exact k I1 hf
    | succ m ih =>
      intro i I1 hi hf hn1 k
      obtain ⟨A, S, E, hA, hS, hE, h1, h2, h3, d1, d2⟩ := hli i (by omega)
      have hci : (nI i).toNatClampNeg = i := nI_clamp (by omega)
      have f54 := hf 54 (by decide) (by decide)
      have f59 := hf 59 (by decide) (by decide)
      have f60 := hf 60 (by decide) (by decide)
      have f61 := hf 61 (by decide) (by decide)
      have f62 := hf 62 (by decide) (by decide)
      have h146 : ∀ (I2 : tI), (∀ x, x ≠ 67 → I2 x = I1 x) → ¬ (A < S ∧ evM (I 62) nm A S = 0) → Ex X (d + 2) mX7_byLaw 146 [.ref 54, .int (nI p), .int (nI i)] [] (T, I2, J, R) Q := by
        intro I2 hf2 hc
        have g60 : I2 60 = I 60 := (hf2 60 (by decide)).trans f60
        have g61 : I2 61 = I 61 := (hf2 61 (by decide)).trans f61
        have g62 : I2 62 = I 62 := (hf2 62 (by decide)).trans f62
        simp only [gX7_byLaw_146, t0, true_and, mr_9 hm, mr_10 hm, rf_some, rIn_at t60 (show i < 60 by omega) (by decide), rIn_at t61 (show i < 60 by omega) (by decide), hci, g60, g61, hS, hE]
        refine q_worked (nm := nm) hm h2 h3 (by rw [g62]; exact d2) (fun j hj => by rw [hf2 68 (by decide)]; exact hn1 j hj) (fun I3 hf3 => ?_)
        simp only [Option.toList_some, List.cons_append, List.nil_append, gX7_byLaw_162]
        have := k I3 (fun x x7 x8 => by rw [hf3 x x7, hf2 x x7]; exact hf x x7 x8)
        rw [blS, hA, hS, hE, nI_clamp (show A < 2 ^ 31 by omega), nI_clamp (show S < 2 ^ 31 by omega), nI_clamp (show E < 2 ^ 31 by omega), if_neg (fun q => hc ⟨(nI_ltI (by omega) (by omega)).mp q.1, q.2⟩)] at this
        rw [g62]
        exact this
      simp only [gX7_byLaw_101, t0, true_and, f54, hln, nI_ge (show i < ln by omega) (by omega), if_false]
      simp only [gX7_byLaw_109, t0, true_and, mr_8 hm, mr_9 hm, rf_some, rIn_at t59 (show i < 60 by omega) (by decide), rIn_at t60 (show i < 60 by omega) (by decide), hci, f59, f60, hA, hS]
      by_cases c2 : A < S
      · simp only [show ¬ nI S ≤ nI A from nI_ge c2 (by omega), if_false]
        simp only [gX7_byLaw_124, t0, true_and, mr_8 hm, mr_9 hm, rf_some, rIn_at t59 (show i < 60 by omega) (by decide), rIn_at t60 (show i < 60 by omega) (by decide), hci, f59, f60, hA, hS]
        refine q_worked (nm := nm) hm h1 (by omega) (by rw [f62]; exact d1 c2) hn1 (fun I2 hf2 => ?_)
        simp only [Option.toList_some, List.cons_append, List.nil_append, gX7_byLaw_140]
        rw [f62]
        by_cases c3 : (wkM (I 62) nm (S - A) A []).headD 0 = 0
        · simp only [c3, if_true, gX7_byLaw_143, gX7_byLaw_163, nI_1]
          refine ih (i + 1) I2 (by omega) (fun x x7 x8 => (hf2 x x7).trans (hf x x7 x8)) (fun j hj => by rw [hf2 68 (by decide)]; exact hn1 j hj) (fun I3 hf3 => ?_)
          have := k I3 hf3
          rw [blS, hA, hS, nI_clamp (show A < 2 ^ 31 by omega), nI_clamp (show S < 2 ^ 31 by omega), if_pos ⟨nI_lt c2 (by omega), c3⟩] at this
          exact this
        · simp only [c3, if_false]
          exact h146 I2 hf2 (fun q => c3 q.2)
      · simp only [show nI S ≤ nI A from nI_le (by omega) (by omega), if_true]
        exact h146 I1 (fun _ _ => rfl) (fun q => c2 q.1)
  have r0 : rIn T 68 0 0 := rIn_at (k := 0) t68 (by decide) (by decide)
  have r1 : rIn T 68 0 1 := rIn_at (k := 1) t68 (by decide) (by decide)
  have r2 : rIn T 68 0 2 := rIn_at (k := 2) t68 (by decide) (by decide)
  have r3 : rIn T 68 0 3 := rIn_at (k := 3) t68 (by decide) (by decide)
  have r4 : rIn T 68 0 4 := rIn_at (k := 4) t68 (by decide) (by decide)
  have r5 : rIn T 68 0 5 := rIn_at (k := 5) t68 (by decide) (by decide)
  have o1 : rIn T 57 0 1 := rIn_at (k := 1) t57 (by decide) (by decide)
  have k2 : (2 : Int32).toNatClampNeg = 2 := by decide
  have k3 : (3 : Int32).toNatClampNeg = 3 := by decide
  have k4 : (4 : Int32).toNatClampNeg = 4 := by decide
  have k5 : (5 : Int32).toNatClampNeg = 5 := by decide
  have n54 : (54 : Nat) ≠ 68 := by decide
  have n55 : (55 : Nat) ≠ 68 := by decide
  have n56 : (56 : Nat) ≠ 68 := by decide
  have n57 : (57 : Nat) ≠ 68 := by decide
  have rest : ∀ nx : Int32, nx = (if n ≤ p + 1 then 0 else I 55 (p + 1)) → Ex X (d + 2) mX7_byLaw 39 [.ref 54, .int (nI p), rU] [.int nx, .int 1, .ref 68] (T, va_up I 68 (va_up (I 68) 0 (I 55 p)), J, R) Q := by
    intro nx hnx
    simp only [gX7_byLaw_39, t0, true_and, mr_1 hm, mr_2 hm, mr_3 hm, mr_21 hm, rf_some, r1, r2, r3, r4, r5, o1, c1, k2, k3, k4, k5, up_ne _ _ n54, up_ne _ _ n55, up_ne _ _ n56, up_ne _ _ n57, ht, hct, rIn_at t56 h7 (by decide), z_16, z_24, rIn_at t55 (show 24 + p < 32 by omega) (by decide), rIn_at t55 (show 16 + p < 32 by omega) (by decide), nI_clamp (show 24 + p < 2 ^ 31 by omega), nI_clamp (show 16 + p < 2 ^ 31 by omega)]
    refine loop ln 0 _ (by omega) (fun x x7 x8 => by rw [up_ne _ _ x8, up_ne _ _ x8, up_ne _ _ x8, up_ne _ _ x8, up_ne _ _ x8, up_ne _ _ x8]) (fun j hj => ?_) k
    rw [← hnm]
    unfold nmS
    rw [e51, hct, can_lt (by decide) hp, can_lt (by decide) hp, can_lt (by decide) hp, can_4 h7]
    have hj' : j = 0 ∨ j = 1 ∨ j = 2 ∨ j = 3 ∨ j = 4 ∨ j = 5 := by omega
    rcases hj' with rfl | rfl | rfl | rfl | rfl | rfl
    · rw [show chN (nI 0) = 108 by decide, if_neg (by decide), if_neg (by decide), if_pos rfl]
      simp [va_up]
      rfl
    · rw [show chN (nI 1) = 110 by decide, if_neg (by decide), if_neg (by decide), if_neg (by decide), if_pos rfl]
      by_cases q : n ≤ p + 1
      · rw [if_pos q] at hnx ⊢
        simp [va_up, hnx]
      · rw [if_neg q] at hnx ⊢
        rw [can_lt (by decide) (show p + 1 < n by omega)]
        simp [va_up, hnx]
        rfl
    · rw [show chN (nI 2) = 114 by decide, if_neg (by decide), if_neg (by decide), if_neg (by decide), if_neg (by decide), if_pos rfl]
      simp [va_up]
      rfl
    · rw [show chN (nI 3) = 103 by decide, if_neg (by decide), if_pos rfl]
      simp [va_up]
      rfl
    · rw [show chN (nI 4) = 98 by decide, if_pos rfl]
      simp [va_up]
      rfl
    · rw [show chN (nI 5) = 100 by decide, if_neg (by decide), if_neg (by decide), if_neg (by decide), if_neg (by decide), if_neg (by decide)]
      simp [va_up]
  simp only [gX7_byLaw_0, t0, true_and, mr_1 hm, mr_21 hm, rf_some, hcp, rIn_at t55 (show p < 32 by omega) (by decide), r0, clamp_0, up_ne _ _ n54, hn, nI_1]
  by_cases q : n ≤ p + 1
  · simp only [nI_le q (by omega), if_true, gX7_byLaw_38]
    exact rest 0 (by rw [if_pos q])
  · simp only [nI_ge (show p + 1 < n by omega) (by omega), if_false, gX7_byLaw_27, t0, true_and, mr_1 hm, rf_some, nI_1, rIn_at t55 (show p + 1 < 32 by omega) (by decide), nI_clamp (show p + 1 < 2 ^ 31 by omega), up_ne _ _ n55]
    exact rest _ (by rw [if_neg q])
theorem q_goesFrom (hm : IsMod T R) (hok : ¬ I 54 6 = 0 → mOk I) (hn : I 54 0 = nI n) (h8 : n ≤ 8) (hp : p < n) (hlv : ¬ I 55 p < 0) (ht : I 57 1 = nI t) (h7 : t < 7)
    (k : ∀ I' : tI, (∀ x, x ≠ 67 → x ≠ 68 → I' x = I x) → Q (some (.int (goS (mLw I) n (can n (vm I)) p))) (T, I', J, R)) : Ex X (d + 3) mX7_goesFrom 0 [.ref 54, .int (nI p), rU] [] (T, I, J, R) Q := by
  have t0 := mt_54 hm
  have t55 := mt_55 hm
  have hcp : (nI p).toNatClampNeg = p := nI_clamp (by omega)
  have fin : ∀ (w : Int32) (I' : tI), (∀ x, x ≠ 67 → x ≠ 68 → I' x = I x) → w = tdS (mLw I) n (can n (vm I)) p → Ex X (d + 3) mX7_goesFrom 47 [.ref 54, .int (nI p), rU] [.int w] (T, I', J, R) Q := by
    intro w I' hfr hw2
    simp only [gX7_goesFrom_47, t0, true_and, mr_1 hm, rf_some, rIn_at t55 (show p < 32 by omega) (by decide), hcp, hfr 55 (by decide) (by decide), z_go hlv]
    have := k I' hfr
    unfold goS at this
    rw [← hw2, can_lt (by decide) hp] at this
    exact this
  simp only [gX7_goesFrom_0, t0, true_and]
  by_cases hz : I 54 6 = 0
  · simp only [hz, if_true]
    simp only [gX7_goesFrom_15, t0, true_and, mr_1 hm, rf_some, hcp, z_16, z_24, rIn_at t55 (show p < 32 by omega) (by decide), rIn_at t55 (show 24 + p < 32 by omega) (by decide), rIn_at t55 (show 16 + p < 32 by omega) (by decide), nI_clamp (show 24 + p < 2 ^ 31 by omega), nI_clamp (show 16 + p < 2 ^ 31 by omega), show ¬ (5 : Int32) = 0 by decide, show ¬ (3 : Int32) = 0 by decide, not_false_eq_true]
    refine fin _ I (fun _ _ _ => rfl) ?_
    unfold mLw
    rw [if_pos hz]
    show _ = can n (vm I) 0 p / 5 - 2 * can n (vm I) 2 p - can n (vm I) 3 p / 3
    rw [can_lt (by decide) hp, can_lt (by decide) hp, can_lt (by decide) hp]
    rfl
  · simp only [hz, if_false]
    simp only [gX7_goesFrom_7, t0, true_and]
    refine q_byLaw hm (hok hz) hn h8 hp ht h7 (fun I' hfr => ?_)
    simp only [Option.toList_some, List.cons_append, List.nil_append, gX7_goesFrom_12]
    refine fin _ I' hfr ?_
    unfold mLw
    rw [if_neg hz]
    rfl
set_option maxHeartbeats 4000000 in
theorem q_passes (hm : IsMod T R) (hok : ¬ I 54 6 = 0 → mOk I) (hn : I 54 0 = nI n) (h8 : n ≤ 8) (hlv : ∀ p, p < n → ¬ I 55 p < 0) (ht : I 57 1 = nI t) (h7 : t < 7)
    (k : ∀ I' : tI, (∀ x, x ≠ 55 → x ≠ 57 → x ≠ 67 → x ≠ 68 → x ≠ 78 → I' x = I x) → (∀ i, n ≤ i → I' 55 i = I 55 i) → (∀ i, i ≠ 1 → I' 57 i = I 57 i) → I' 57 1 = nI ((t + 1) % 7) → can n (vm I') = dayS (mLw I) n (can n (vm I)) → Q none (T, I', J, R)) : Ex X (d + 4) mX7_passes 0 [.ref 54, rU] [] (T, I, J, R) Q := by
  have t0 := mt_54 hm
  have t55 := mt_55 hm
  have t56 := mt_56 hm
  have t57 := mt_57 hm
  have t78 := mt_78 hm
  have hct : (nI t).toNatClampNeg = t := nI_clamp (by omega)
  have c1 : (1 : Int32).toNatClampNeg = 1 := by decide
  have o0 : rIn T 57 0 0 := rIn_at (k := 0) t57 (by decide) (by decide)
  have o1 : rIn T 57 0 1 := rIn_at (k := 1) t57 (by decide) (by decide)
  have e51 : can n (vm I) 5 1 = nI t := by rw [can_5 (by decide), ← ht]; rfl
  generalize hr : can n (vm I) = r at k e51
  generalize hl : mLw I = l at k
  have two : ∀ (i : Nat), i ≤ n → ∀ (I2 : tI), (∀ x, x ≠ 55 → x ≠ 67 → x ≠ 68 → x ≠ 78 → I2 x = I x) → (∀ j, j < n → I2 78 j = goS l n r j) → (∀ j, j < i → I2 55 j = dayS l n r 0 j) → (∀ j, i ≤ j → I2 55 j = I 55 j) →
      Ex X (d + 4) mX7_passes 29 [.ref 54, .int (nI i)] [] (T, I2, J, R) Q := by
    refine loop_up (P := fun i => ∀ (I2 : tI), (∀ x, x ≠ 55 → x ≠ 67 → x ≠ 68 → x ≠ 78 → I2 x = I x) → (∀ j, j < n → I2 78 j = goS l n r j) → (∀ j, j < i → I2 55 j = dayS l n r 0 j) → (∀ j, i ≤ j → I2 55 j = I 55 j) →
      Ex X (d + 4) mX7_passes 29 [.ref 54, .int (nI i)] [] (T, I2, J, R) Q) (n := n) ?_ ?_
    · intro I2 hf h6 hlo hhi
      have f57 := hf 57 (by decide) (by decide) (by decide) (by decide)
      simp only [gX7_passes_29, t0, true_and, hf 54 (by decide) (by decide) (by decide) (by decide), hn, nI_le (Nat.le_refl n) (by omega), if_true]
      simp only [gX7_passes_105, t0, true_and, mr_3 hm, rf_some, o1, c1, f57, ht, show ¬ (7 : Int32) = 0 by decide, not_false_eq_true, rem7 h7]
      generalize hI3 : va_up I2 57 (va_up (I 57) 1 (nI ((t + 1) % 7))) = I3
      have a57 : I3 57 = va_up (I 57) 1 (nI ((t + 1) % 7)) := by rw [← hI3, up_self]
      have ane : ∀ x, x ≠ 57 → I3 x = I2 x := fun x hx => by rw [← hI3, up_ne _ _ hx]
      refine k I3 (fun x x5 x57 x7 x8 x78 => by rw [ane x x57]; exact hf x x5 x7 x8 x78) ?_ ?_ ?_ ?_
      · intro i hi
        rw [ane 55 (by decide)]
        exact hhi i hi
      · intro i hi
        rw [a57, up_ne _ _ hi]
      · rw [a57, up_self]
      · funext q i
        unfold dayS
        by_cases hval : (q < 4 ∧ i < n) ∨ (q = 4 ∧ i < 7) ∨ (q = 5 ∧ i < 2)
        · unfold can
          rw [if_pos hval, if_pos hval]
          dsimp only
          rcases hval with ⟨hq, hi⟩ | ⟨rfl, hi⟩ | ⟨rfl, hi⟩
          · by_cases hq0 : q = 0
            · subst hq0
              rw [if_pos rfl]
              show I3 55 i = _
              rw [ane 55 (by decide), hlo i hi]
              unfold dayS
              rw [can_lt (by decide) hi, if_pos rfl]
            · rw [if_neg hq0, if_neg (by omega)]
              rw [← hr, can_lt hq hi]
              have hq' : q = 1 ∨ q = 2 ∨ q = 3 := by omega
              rcases hq' with rfl | rfl | rfl
              · show I3 55 (8 + i) = I 55 (8 + i)
                rw [ane 55 (by decide), hhi _ (by omega)]
              · show I3 55 (16 + i) = I 55 (16 + i)
                rw [ane 55 (by decide), hhi _ (by omega)]
              · show I3 55 (24 + i) = I 55 (24 + i)
                rw [ane 55 (by decide), hhi _ (by omega)]
          · rw [if_neg (by decide), if_neg (by omega), ← hr, can_4 hi]
            show I3 56 i = I 56 i
            rw [ane 56 (by decide), hf 56 (by decide) (by decide) (by decide) (by decide)]
          · rw [if_neg (by decide)]
            by_cases hi1 : i = 1
            · subst hi1
              rw [if_pos ⟨rfl, rfl⟩, e51, rem7 h7]
              show I3 57 1 = _
              rw [a57, up_self]
            · have hi0 : i = 0 := by omega
              subst hi0
              rw [if_neg (by omega), ← hr, can_5 hi]
              show I3 57 0 = I 57 0
              rw [a57, up_ne _ _ (by decide)]
        · unfold can
          rw [if_neg hval, if_neg hval]
    · intro i hi ih I2 hf h6 hlo hhi
      have f54 := hf 54 (by decide) (by decide) (by decide) (by decide)
      have f56 := hf 56 (by decide) (by decide) (by decide) (by decide)
      have f57 := hf 57 (by decide) (by decide) (by decide) (by decide)
      have hci : (nI i).toNatClampNeg = i := nI_clamp (by omega)
      have h84 : ∀ cm : Int32, cm = (if i = 0 then r 5 0 else goS l n r (i - 1)) → Ex X (d + 4) mX7_passes 84 [.ref 54, .int (nI i)] [.int cm, .int (I 55 i + I 56 t), .int 99, .int 0, .int (nI i), .ref 55] (T, I2, J, R) Q := by
        intro cm hcm
        simp only [gX7_passes_84, t0, true_and, mr_37 hm, rf_some, rIn_at t78 (show i < 8 by omega) (by decide), rIn_at t55 (show i < 32 by omega) (by decide), hci, h6 i hi, nI_1, z_99]
        refine ih _ (fun x x5 x7 x8 x78 => by rw [up_ne _ _ x5]; exact hf x x5 x7 x8 x78) (fun j hj => by rw [up_ne _ _ (by decide)]; exact h6 j hj) ?_ ?_
        · intro j hj
          rw [up_self]
          by_cases hji : j = i
          · subst hji
            rw [up_self, hcm]
            unfold dayS
            rw [can_lt (by decide) hi, if_pos rfl, e51, hct, ← hr, can_lt (by decide) hi, can_4 h7]
            rfl
          · rw [up_ne _ _ hji]
            exact hlo j (by omega)
        · intro j hj
          rw [up_self, up_ne _ _ (by omega)]
          exact hhi j (by omega)
      simp only [gX7_passes_29, t0, true_and, f54, hn, nI_ge hi (by omega), if_false]
      simp only [gX7_passes_37, t0, true_and, mr_1 hm, mr_2 hm, mr_3 hm, rf_some, rIn_at t55 (show i < 32 by omega) (by decide), o1, c1, f57, ht, hct, rIn_at t56 h7 (by decide), hci, hhi i (Nat.le_refl i), f56]
      cases i with
      | zero =>
        simp only [show nI 0 = 0 by decide, if_true, gX7_passes_67, t0, true_and, mr_3 hm, rf_some, o0, clamp_0, f57]
        exact h84 _ (by rw [if_pos rfl, ← hr, can_5 (by decide)]; rfl)
      | succ j =>
        simp only [nI_ne0 (show 0 < j + 1 by omega) (by omega), if_false, gX7_passes_76, t0, true_and, mr_37 hm, rf_some, nI_pred, rIn_at t78 (show j < 8 by omega) (by decide), nI_clamp (show j < 2 ^ 31 by omega)]
        exact h84 _ (by rw [if_neg (by omega), h6 j (by omega)]; rfl)
  have one : ∀ (i : Nat), i ≤ n → ∀ (I1 : tI), (∀ x, x ≠ 67 → x ≠ 68 → x ≠ 78 → I1 x = I x) → (∀ j, j < i → I1 78 j = goS l n r j) →
      Ex X (d + 4) mX7_passes 2 [.ref 54, .int (nI i)] [] (T, I1, J, R) Q := by
    refine loop_up (P := fun i => ∀ (I1 : tI), (∀ x, x ≠ 67 → x ≠ 68 → x ≠ 78 → I1 x = I x) → (∀ j, j < i → I1 78 j = goS l n r j) →
      Ex X (d + 4) mX7_passes 2 [.ref 54, .int (nI i)] [] (T, I1, J, R) Q) (n := n) ?_ ?_
    · intro I1 hf h6
      simp only [gX7_passes_2, t0, true_and, hf 54 (by decide) (by decide) (by decide), hn, nI_le (Nat.le_refl n) (by omega), if_true]
      simp only [gX7_passes_27]
      exact two 0 (by omega) I1 (fun x _ x7 x8 x78 => hf x x7 x8 x78) h6 (fun j hj => absurd hj (by omega)) (fun j _ => by rw [hf 55 (by decide) (by decide) (by decide)])
    · intro i hi ih I1 hf h6
      have f54 := hf 54 (by decide) (by decide) (by decide)
      have f55 := hf 55 (by decide) (by decide) (by decide)
      have f56 := hf 56 (by decide) (by decide) (by decide)
      have f57 := hf 57 (by decide) (by decide) (by decide)
      have f59 := hf 59 (by decide) (by decide) (by decide)
      have f60 := hf 60 (by decide) (by decide) (by decide)
      have f61 := hf 61 (by decide) (by decide) (by decide)
      have f62 := hf 62 (by decide) (by decide) (by decide)
      simp only [gX7_passes_2, t0, true_and, f54, hn, nI_ge hi (by omega), if_false]
      simp only [gX7_passes_10, t0, true_and, mr_37 hm, rf_some]
      refine q_goesFrom hm (fun q => mOk_eq f54 f59 f60 f61 f62 (hok (by rw [f54] at q; exact q))) (by rw [f54]; exact hn) h8 hi (by rw [f55]; exact hlv i hi) (by rw [f57]; exact ht) h7 (fun I2 hf2 => ?_)
      rw [mLw_eq f54 f59 f60 f61 f62, vm_eq f55 f56 f57, hr, hl]
      simp only [Option.toList_some, List.cons_append, List.nil_append, gX7_passes_20, true_and, rIn_at t78 (show i < 8 by omega) (by decide), nI_clamp (show i < 2 ^ 31 by omega), nI_1]
      refine ih _ (fun x x7 x8 x78 => by rw [up_ne _ _ x78, hf2 x x7 x8]; exact hf x x7 x8 x78) (fun j hj => ?_)
      rw [up_self]
      by_cases hji : j = i
      · subst hji
        rw [up_self]
      · rw [up_ne _ _ hji, hf2 78 (by decide) (by decide)]
        exact h6 j (by omega)
  simp only [gX7_passes_0]
  exact one 0 (by omega) I (fun _ _ _ _ => rfl) (fun j hj => absurd hj (by omega))
end MP
