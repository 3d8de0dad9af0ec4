/-! PURE: drawn -/
theorem z_mul (a b : Nat) : nI a * nI b = nI (a * b) := (Int32.ofNat_mul a b).symm
theorem z_mod {a b : Nat} (ha : a < 2 ^ 31) (hb : b < 2 ^ 31) : nI a - nI a / nI b * nI b = nI (a % b) := by
  rw [z_div ha hb, z_mul, z_sub (Nat.div_mul_le_self a b)]
  congr 1
  have := Nat.div_add_mod a b
  rw [Nat.mul_comm] at this
  omega
def rnS (wet z : Int32) : Int32 := if wet ≤ ush z 16 - ush z 16 / 12 * 12 then 0 else ush z 8 - ush z 8 / 10 * 10
def nxS (z : Int32) : Int32 := z * 1103515245 + 12345
def adS (n : Nat) (rc : Int32) (q : Nat → Nat → Int32) : Int32 := if rc = -1 then bcS (ovS n q n) else if q 0 rc.toNatClampNeg < q 1 rc.toNatClampNeg then 0 else 1
def wtS (q : Nat → Nat → Int32) : Nat := (q 5 1).toNatClampNeg
def dlS (l : tL) (n : Nat) (wet rc : Int32) : Nat → Int32 → (Nat → Nat → Int32) → Int32 → Int32 × Int32
  | 0, z, _, s => (z, s)
  | m + 1, z, q, s => dlS l n wet rc m (nxS z) (dayS l n (stS q 4 (wtS q) (rnS wet (nxS z)))) (s + adS n rc (dayS l n (stS q 4 (wtS q) (rnS wet (nxS z)))))
def ylS (l : tL) (n : Nat) (wet rc : Int32) (M : Nat) (r : Nat → Nat → Int32) : Nat → Int32 → Int32 → Int32
  | 0, _, s => s
  | y + 1, z, s => ylS l n wet rc M r y (dlS l n wet rc M z r s).1 (dlS l n wet rc M z r s).2
def drawnP (n : Nat) (w rc : Int32) : Prop := ¬ w < 0 ∧ inB (w / 10000) 1 30 = true ∧ inB (w / 100 - w / 100 / 100 * 100) 1 60 = true ∧ ¬ 12 < w - w / 100 * 100 ∧ (rc = -1 ∨ isR n rc = true)
def drawnS (n : Nat) (l : tL) (r : Nat → Nat → Int32) (z w rc : Int32) : Int32 :=
  if ¬ w < 0 ∧ inB (w / 10000) 1 30 = true ∧ inB (w / 100 - w / 100 / 100 * 100) 1 60 = true ∧ ¬ 12 < w - w / 100 * 100 ∧ (rc = -1 ∨ isR n rc = true) then ylS l n (w - w / 100 * 100) rc (w / 100 - w / 100 / 100 * 100).toNatClampNeg r (w / 10000).toNatClampNeg z 0 else -1
theorem dr_neg {n : Nat} {l : tL} {r : Nat → Nat → Int32} {z w rc : Int32} (c : ¬ drawnP n w rc) : drawnS n l r z w rc = -1 := if_neg c
theorem dr_pos {n : Nat} {l : tL} {r : Nat → Nat → Int32} {z w rc : Int32} (c : drawnP n w rc) : drawnS n l r z w rc = ylS l n (w - w / 100 * 100) rc (w / 100 - w / 100 / 100 * 100).toNatClampNeg r (w / 10000).toNatClampNeg z 0 := if_pos c
theorem inB_N {v : Int32} {a b : Nat} (h : inB v (nI a) (nI b) = true) (ha : a < 2 ^ 31) (hb : b < 2 ^ 31) : ∃ N : Nat, a ≤ N ∧ N ≤ b ∧ v = nI N := by
  obtain ⟨h1, h2⟩ := of_decide_eq_true h
  obtain ⟨N, hN, rfl⟩ := nI_of2 (x := v) (M := nI b) (n := b) (nI_toInt hb) (z_nlt0 ha h1) (Int32.not_lt.mp h2)
  rw [nI_ltI (by omega) ha] at h1
  exact ⟨N, by omega, hN, rfl⟩
section DR
variable {X : tX} {T : tT} {I I' : tI} {J : tJ} {R : tR} {Q : tQ} {d a b c p n t D : Nat} {σ : rS} {l : tL} {r q : Nat → Nat → Int32}
theorem CS_t (h : CS T I R a b n l q) : ∃ t : Nat, t < 7 ∧ q 5 1 = nI t ∧ I a 7 = nI t := by
  obtain ⟨hw, hv, hab, hs, hl, hn, h8, hr, hk, t, h7, h5⟩ := h
  exact ⟨t, h7, h5, by rw [← hr, can_5 (by decide)] at h5; exact h5⟩
theorem ad_c {rc : Int32} (h8 : n ≤ 8) (hrc : rc = -1 ∨ isR n rc = true) : bcS (ovS n q n &&& (if rc = -1 then -1 else (1 : Int32) <<< (rc &&& 31))) = adS n rc q := by
  unfold adS
  by_cases g : rc = -1
  · rw [if_pos g, if_pos g, and_m1]
  · rw [if_neg g, if_neg g]
    obtain ⟨p, hp, rfl⟩ := isR_t (hrc.resolve_left g) h8
    rw [nI_clamp (show p < 2 ^ 31 by omega)]
    show bcS (ovS n q n &&& ovM p) = _
    rw [ov_and n q (show p < 8 by omega) n h8]
    by_cases g2 : q 0 p < q 1 p
    · rw [if_neg (by simp [g2]), if_pos g2, bc_0]
    · rw [if_pos ⟨hp, g2⟩, if_neg g2]
      exact bc_ovM ⟨p, by omega⟩
theorem c_drawn {z w rc : Int32} (h : HS T I R b n l r) (k : ∀ I' : tI, frC b I I' → Q (some (.int (drawnS n l r z w rc))) (T, I', J, R)) : Ex X (d + 6) mX6_drawn 0 [.ref 0, .int z, .int w, .int rc, rU, rU, rU, rU, rU, rU, rU] [] (T, I, J, R) Q := by
  have h' := h
  have h8 := HS_8 h
  obtain ⟨h0, r0, r1, r8, hb, hb2, hv, hC⟩ := h
  have hrn : R 8 4 = some (8 + 5) := hv.2.2.2.2.2.2.2.2.2.2.2.1
  have n1 : ¬ (10000 : Int32) = 0 := by decide
  have n2 : ¬ (100 : Int32) = 0 := by decide
  have n3 : ¬ (12 : Int32) = 0 := by decide
  have n4 : ¬ (10 : Int32) = 0 := by decide
  simp only [gX6_drawn_0, n1, n2, not_false_eq_true, true_and]
  have bad : ¬ drawnP n w rc → Ex X (d + 6) mX6_drawn 72 [.ref 0, .int z, .int w, .int rc, .int (w / 10000), .int (w / 100 - w / 100 / 100 * 100), .int (w - w / 100 * 100), rU, rU, rU, rU] [] (T, I, J, R) Q := by
    intro c
    simp only [gX6_drawn_72]
    have := k I (frC_r b I)
    rw [dr_neg c] at this
    exact this
  have go : drawnP n w rc → Ex X (d + 6) mX6_drawn 74 [.ref 0, .int z, .int w, .int rc, .int (w / 10000), .int (w / 100 - w / 100 / 100 * 100), .int (w - w / 100 * 100), rU, rU, rU, rU] [] (T, I, J, R) Q := by
    intro c
    rw [dr_pos c] at k
    obtain ⟨w0, wN, wM, wW, hrc⟩ := c
    obtain ⟨N, hN1, hN, eN⟩ := inB_N (a := 1) (b := 30) wN (by decide) (by decide)
    obtain ⟨M, hM1, hM, eM⟩ := inB_N (a := 1) (b := 60) wM (by decide) (by decide)
    rw [eN, eM, nI_clamp (show N < 2 ^ 31 by omega), nI_clamp (show M < 2 ^ 31 by omega)] at k
    rw [eN, eM]
    generalize w - w / 100 * 100 = wet at k ⊢
    generalize hwt : (if rc = -1 then -1 else (1 : Int32) <<< (rc &&& 31)) = wt
    have hNM : N * M ≤ 1800 := Nat.mul_le_mul hN hM
    -- one day, from 126
    have one : ∀ (z0 : Int32) (i : Nat) (I1 : tI) (q : Nat → Nat → Int32) (z s : Int32), frC b I I1 → CS T I1 R 8 b n l q →
        (∀ I2 : tI, frC b I I2 → CS T I2 R 8 b n l (dayS l n (stS q 4 (wtS q) (rnS wet (nxS z)))) → Ex X (d + 6) mX6_drawn 97 [.ref 0, .int z0, .int w, .int rc, .int (nI N), .int (nI M), .int wet, .int wt, .int (nxS z), .int (s + adS n rc (dayS l n (stS q 4 (wtS q) (rnS wet (nxS z))))), .int (nI (i + 1))] [] (T, I2, J, R) Q) →
        Ex X (d + 6) mX6_drawn 126 [.ref 0, .int z0, .int w, .int rc, .int (nI N), .int (nI M), .int wet, .int wt, .int z, .int s, .int (nI i)] [] (T, I1, J, R) Q := by
      intro z0 i I1 q z s hf1 hC1 next
      obtain ⟨t, h7, h5, e7⟩ := CS_t hC1
      have ewt : wtS q = t := by unfold wtS; rw [h5, nI_clamp (by omega)]
      rw [ewt] at next
      simp only [gX6_drawn_126, h0, true_and, r1, rf_some, hv.1, hrn, e7, n3, not_false_eq_true]
      have rest : ∀ v : Int32, v = rnS wet (nxS z) → Ex X (d + 6) mX6_drawn 176 [.ref 0, .int z0, .int w, .int rc, .int (nI N), .int (nI M), .int wet, .int wt, .int (nxS z), .int s, .int (nI i)] [.int v, .int (nI t), .ref (8 + 5)] (T, I1, J, R) Q := by
        intro v hvv
        rw [← hvv] at next
        simp only [gX6_drawn_176, h0, true_and, r1, r8, rf_some, hv.1, rIn_at hv.2.2.2.2.2.1 h7 (by decide), nI_clamp (show t < 2 ^ 31 by omega)]
        generalize hI3 : va_up I1 (8 + 5) (va_up (I1 (8 + 5)) t v) = I3
        have f13 : ∀ x, x ≠ 8 + 1 + 4 → I3 x = I1 x := fun x hx => by rw [← hI3, up_ne _ _ hx]
        have hC3 := CS_set (k := 4) (p := t) (v := v) (I' := I3) hC1 (by decide) h7 (fun z => absurd z (by decide)) (by rw [← hI3]; exact up_self _ _ _) f13
        refine c_pass1 hC3 (fun I4 hf4 hC4 _ => ?_)
        simp only [Option.toList_none, List.nil_append, gX6_drawn_189, h0, true_and, r1, rf_some, hv.1]
        refine c_overBits hC4 ?_
        simp only [Option.toList_some, List.cons_append, List.nil_append, gX6_drawn_198]
        refine j_bitCount ?_
        simp only [Option.toList_some, List.cons_append, List.nil_append, gX6_drawn_204, nI_1]
        rw [← hwt, ad_c h8 hrc, hwt]
        exact next I4 (frC_t (frC_t hf1 (fun x hx _ => f13 x (by omega))) (frC_p hb hf4)) hC4
      unfold rnS at rest
      by_cases g : wet ≤ ush (nxS z) 16 - ush (nxS z) 16 / 12 * 12
      · have g' := g
        unfold nxS ush at g'
        rw [if_pos g'] 
        simp only [gX6_drawn_175]
        exact rest 0 (by rw [if_pos g])
      · have g' := g
        unfold nxS ush at g'
        rw [if_neg g']
        simp only [gX6_drawn_164, n4, not_false_eq_true, true_and]
        exact rest _ (by rw [if_neg g]; rfl)
    -- a year's rest, from 126
    have days : ∀ (z0 : Int32) (E : Nat), E < N → ∀ (j jj : Nat), jj + j + 1 = M → ∀ (I1 : tI) (q : Nat → Nat → Int32) (z s : Int32), frC b I I1 → CS T I1 R 8 b n l q →
        (∀ I2 : tI, frC b I I2 → Ex X (d + 6) mX6_drawn 97 [.ref 0, .int z0, .int w, .int rc, .int (nI N), .int (nI M), .int wet, .int wt, .int (dlS l n wet rc (j + 1) z q s).1, .int (dlS l n wet rc (j + 1) z q s).2, .int (nI ((E + 1) * M))] [] (T, I2, J, R) Q) →
        Ex X (d + 6) mX6_drawn 126 [.ref 0, .int z0, .int w, .int rc, .int (nI N), .int (nI M), .int wet, .int wt, .int z, .int s, .int (nI (E * M + jj))] [] (T, I1, J, R) Q := by
      intro z0 E hE j
      have hEM : (E + 1) * M ≤ N * M := Nat.mul_le_mul_right M hE
      have hE1 : (E + 1) * M = E * M + M := Nat.succ_mul E M
      induction j with
      | zero =>
        intro jj hj I1 q z s hf1 hC1 next
        refine one z0 (E * M + jj) I1 q z s hf1 hC1 (fun I2 hf2 hC2 => ?_)
        have := next I2 hf2
        rw [show E * M + jj + 1 = (E + 1) * M by omega]
        exact this
      | succ j ih =>
        intro jj hj I1 q z s hf1 hC1 next
        refine one z0 (E * M + jj) I1 q z s hf1 hC1 (fun I2 hf2 hC2 => ?_)
        simp only [gX6_drawn_97, z_mul, nI_ge (show E * M + jj + 1 < N * M by omega) (by omega), if_false]
        have em : (E * M + jj + 1) % M = jj + 1 := by
          rw [show E * M + jj + 1 = (jj + 1) + E * M by omega, Nat.add_mul_mod_self_right, Nat.mod_eq_of_lt (by omega)]
        have nM : ¬ nI M = 0 := nI_ne0 (by omega) (by omega)
        simp only [gX6_drawn_107, nM, not_false_eq_true, true_and, z_mod (show E * M + jj + 1 < 2 ^ 31 by omega) (show M < 2 ^ 31 by omega), em, ne_eq, nI_ne0 (show 0 < jj + 1 by omega) (show jj + 1 < 2 ^ 31 by omega), if_true]
        exact ih (jj + 1) (by omega) I2 _ _ _ hf2 hC2 next
    have years : ∀ (z0 : Int32) (y E : Nat), E + y = N → ∀ (I1 : tI) (z s : Int32), frC b I I1 → (∀ I' : tI, frC b I I' → Q (some (.int (ylS l n wet rc M r y z s))) (T, I', J, R)) →
        Ex X (d + 6) mX6_drawn 97 [.ref 0, .int z0, .int w, .int rc, .int (nI N), .int (nI M), .int wet, .int wt, .int z, .int s, .int (nI (E * M))] [] (T, I1, J, R) Q := by
      intro z0 y
      induction y with
      | zero =>
        intro E hE I1 z s hf1 k
        rw [show E = N by omega]
        simp only [gX6_drawn_97, z_mul, nI_le (Nat.le_refl (N * M)) (by omega), if_true, gX6_drawn_213]
        exact k I1 hf1
      | succ y ih =>
        intro E hE I1 z s hf1 k
        have hEM : (E + 1) * M ≤ N * M := Nat.mul_le_mul_right M (by omega)
        have hE1 : (E + 1) * M = E * M + M := Nat.succ_mul E M
        simp only [gX6_drawn_97, z_mul, nI_ge (show E * M < N * M by omega) (by omega), if_false]
        have em : (E * M) % M = 0 := Nat.mul_mod_left E M
        have nM : ¬ nI M = 0 := nI_ne0 (by omega) (by omega)
        simp only [gX6_drawn_107, nM, not_false_eq_true, true_and, z_mod (show E * M < 2 ^ 31 by omega) (show M < 2 ^ 31 by omega), em, ne_eq, show nI 0 = 0 by decide, not_true_eq_false, if_false]
        simp only [gX6_drawn_115, h0, true_and, r0, r1, rf_some, hv.1]
        refine c_take (HS_fr h' hf1) (fun I2 hf2 hC2 => ?_)
        simp only [Option.toList_none, List.nil_append]
        obtain ⟨M', rfl⟩ : ∃ M', M = M' + 1 := ⟨M - 1, by omega⟩
        exact days z0 E (by omega) M' 0 (by omega) I2 r z s (frC_t hf1 hf2) hC2 (fun I3 hf3 => ih (E + 1) (by omega) I3 _ _ hf3 k)
    have start : Ex X (d + 6) mX6_drawn 86 [.ref 0, .int z, .int w, .int rc, .int (nI N), .int (nI M), .int wet, rU, rU, rU, rU] [.int wt] (T, I, J, R) Q := by
      simp only [gX6_drawn_86]
      have := years z N 0 (by omega) I z 0 (frC_r b I) k
      rw [Nat.zero_mul] at this
      exact this
    simp only [gX6_drawn_74, ne_eq]
    by_cases g : rc = -1
    · rw [if_pos g] at hwt
      rw [← hwt, g] at start
      simp only [g, not_true_eq_false, if_false, gX6_drawn_79]
      exact start
    · rw [if_neg g] at hwt
      simp only [g, not_false_eq_true, if_true, gX6_drawn_83]
      rw [hwt]
      exact start
  by_cases c : drawnP n w rc
  · have gg := go c
    obtain ⟨w0, wN, wM, wW, hrc⟩ := c
    obtain ⟨N1, N2⟩ := of_decide_eq_true wN
    obtain ⟨M1, M2⟩ := of_decide_eq_true wM
    simp only [w0, if_false, gX6_drawn_26, gX6_drawn_32, gX6_drawn_39, gX6_drawn_45, gX6_drawn_52, gX6_drawn_59, N1, N2, M1, M2, wW]
    by_cases g : rc = -1
    · simp only [g, if_true]
      rw [g] at gg
      exact gg
    · simp only [g, if_false, gX6_drawn_64, h0, true_and]
      refine c_isReach h' ?_
      simp only [Option.toList_some, List.cons_append, List.nil_append, gX6_drawn_69, ne_eq, if10, hrc.resolve_left g, reduceCtorEq, not_false_eq_true, if_true]
      exact gg
  · have bb := bad c
    simp only [gX6_drawn_26, gX6_drawn_32, gX6_drawn_39, gX6_drawn_45, gX6_drawn_52, gX6_drawn_59]
    repeat' first | exact bb | split
    · rename_i a1 a2 a3 a4 a5 a6 a7
      exact absurd ⟨a1, decide_eq_true ⟨a2, a3⟩, decide_eq_true ⟨a4, a5⟩, a6, Or.inl a7⟩ c
    · rename_i a1 a2 a3 a4 a5 a6 a7
      simp only [gX6_drawn_64, h0, true_and]
      refine c_isReach h' ?_
      simp only [Option.toList_some, List.cons_append, List.nil_append, gX6_drawn_69, ne_eq, if10]
      cases g : isR n rc with
      | false =>
        simp only [not_true_eq_false, if_false]
        exact bb
      | true => exact absurd ⟨a1, decide_eq_true ⟨a2, a3⟩, decide_eq_true ⟨a4, a5⟩, a6, Or.inr g⟩ c
/-- alike but for the rain -/
def eqR (q1 q2 : Nat → Nat → Int32) : Prop := ∀ k i, k ≠ 4 → q1 k i = q2 k i
theorem eqR_go {q1 q2 : Nat → Nat → Int32} (h : eqR q1 q2) (h4 : q1 4 (q1 5 1).toNatClampNeg = q2 4 (q2 5 1).toNatClampNeg) (p : Nat) : goS l n q1 p = goS l n q2 p := by
  have hn : nmS n q1 p = nmS n q2 p := by
    funext c
    unfold nmS
    rw [h 2 p (by decide), h 3 p (by decide), h 0 p (by decide), h 0 (p + 1) (by decide), h 5 1 (by decide)]
    rw [h 5 1 (by decide)] at h4
    rw [h4]
  have ht : tdS l n q1 p = tdS l n q2 p := by
    unfold tdS
    cases l with
    | none => simp only [h 0 p (by decide), h 2 p (by decide), h 3 p (by decide)]
    | some f => simp only [hn]
  unfold goS
  rw [ht, h 0 p (by decide)]
theorem eqR_day {q1 q2 : Nat → Nat → Int32} (h : eqR q1 q2) (h4 : q1 4 (q1 5 1).toNatClampNeg = q2 4 (q2 5 1).toNatClampNeg) : eqR (dayS l n q1) (dayS l n q2) := by
  intro k i hk
  unfold dayS can
  split
  · dsimp only
    by_cases k0 : k = 0
    · rw [if_pos k0, if_pos k0, h4, h 0 i (by decide), h 5 0 (by decide), eqR_go h h4, eqR_go h h4]
    · rw [if_neg k0, if_neg k0, h 5 1 (by decide), h k i hk]
  · rfl
theorem eqR_st {q1 q2 : Nat → Nat → Int32} {p : Nat} {v w : Int32} (h : eqR q1 q2) : eqR (stS q1 4 p v) (stS q2 4 p w) := by
  intro k i hk
  rw [st_k hk, st_k hk]
  exact h k i hk
theorem eqR_ov {q1 q2 : Nat → Nat → Int32} (h : eqR q1 q2) (N : Nat) : ∀ i, ovS N q1 i = ovS N q2 i
  | 0 => rfl
  | i + 1 => by rw [ovS, ovS, eqR_ov h N i, h 0 i (by decide), h 1 i (by decide)]
theorem m_drawn {z w rc : Int32} (h : MS T I R n l r) (k : ∀ I' : tI, frM I I' → MS T I' R n l r → Q (some (.int (drawnS n l r z w rc))) (T, I', J, R)) : Ex X (d + 6) mX7_drawn 0 [.ref 54, .int z, .int w, .int rc, rU, rU, rU, rU, rU, rU] [] (T, I, J, R) Q := by
  have h8 := MS_8 h
  have hm := h.1
  have t0 := mt_54 hm
  have n1 : ¬ (10000 : Int32) = 0 := by decide
  have n2 : ¬ (100 : Int32) = 0 := by decide
  have n3 : ¬ (12 : Int32) = 0 := by decide
  have n4 : ¬ (10 : Int32) = 0 := by decide
  have bad : ¬ drawnP n w rc → Ex X (d + 6) mX7_drawn 56 [.ref 54, .int z, .int w, .int rc, rU, rU, rU, rU, rU, rU] [] (T, I, J, R) Q := by
    intro c
    simp only [gX7_drawn_56]
    have := k I (frM_r I) h
    rw [dr_neg c] at this
    exact this
  have go : drawnP n w rc → Ex X (d + 6) mX7_drawn 58 [.ref 54, .int z, .int w, .int rc, rU, rU, rU, rU, rU, rU] [] (T, I, J, R) Q := by
    intro c
    rw [dr_pos c] at k
    obtain ⟨w0, wN, wM, wW, hrc⟩ := c
    obtain ⟨N, hN1, hN, eN⟩ := inB_N (a := 1) (b := 30) wN (by decide) (by decide)
    obtain ⟨M, hM1, hM, eM⟩ := inB_N (a := 1) (b := 60) wM (by decide) (by decide)
    rw [eN, eM, nI_clamp (show N < 2 ^ 31 by omega), nI_clamp (show M < 2 ^ 31 by omega)] at k
    generalize hwet : w - w / 100 * 100 = wet at k
    have i1 : rIn T 57 0 1 := rIn_at (k := 1) (mt_57 hm) (by decide) (by decide)
    have days : ∀ (y : Int32) (m j : Nat), j + m = M → ∀ (I1 : tI) (q1 q : Nat → Nat → Int32) (z' s : Int32) (v8 v9 : Value), frM I I1 → MS T I1 R n l q1 → eqR q1 q → sB n q1 r → Kp I1 80 n r →
        (∀ (I2 : tI) (q2 : Nat → Nat → Int32) (v7 : Int32) (v8 v9 : Value), frM I I2 → MS T I2 R n l q2 → sB n q2 r → Kp I2 80 n r → Ex X (d + 6) mX7_drawn 213 [.ref 54, .int z, .int w, .int rc, .int (dlS l n wet rc m z' q s).1, .int (dlS l n wet rc m z' q s).2, .int y, .int v7, v8, v9] [] (T, I2, J, R) Q) →
        Ex X (d + 6) mX7_drawn 88 [.ref 54, .int z, .int w, .int rc, .int z', .int s, .int y, .int (nI j), v8, v9] [] (T, I1, J, R) Q := by
      intro y m
      induction m with
      | zero =>
        intro j hj I1 q1 q z' s v8 v9 hf1 hM1 he1 hs1 hK1 next
        simp only [gX7_drawn_88, n2, not_false_eq_true, true_and, eM, nI_le (show M ≤ j by omega) (by omega), if_true]
        exact next I1 q1 _ _ _ hf1 hM1 hs1 hK1
      | succ m ih =>
        intro j hj I1 q1 q z' s v8 v9 hf1 hM1 he1 hs1 hK1 next
        simp only [gX7_drawn_88, n2, not_false_eq_true, true_and, eM, nI_ge (show j < M by omega) (by omega), if_false]
        obtain ⟨t, h7, h5⟩ := (MS_ok hM1).2
        have e7 : I1 57 1 = nI t := by rw [← h5, ← hM1.2.2.2.2.2.1, can_5 (by decide)]; rfl
        have ewt : wtS q = t := by unfold wtS; rw [← he1 5 1 (by decide), h5, nI_clamp (by omega)]
        have e56 : I1 56 t = q1 4 t := by rw [← hM1.2.2.2.2.2.1, can_4 h7]; rfl
        simp only [gX7_drawn_100, n2, n3, not_false_eq_true, t0, true_and, mr_2 hm, mr_3 hm, rf_some, i1, show (1 : Int32).toNatClampNeg = 1 by decide, e7, rIn_at (mt_56 hm) h7 (by decide), nI_clamp (show t < 2 ^ 31 by omega), e56, hwet]
        rw [dlS, ewt] at next
        have rest : ∀ v : Int32, v = rnS wet (nxS z') → Ex X (d + 6) mX7_drawn 162 [.ref 54, .int z, .int w, .int rc, .int (nxS z'), .int s, .int y, .int (nI j), .int (nI t), .int (q1 4 t)] [.int v, .int (nI t), .ref 56] (T, I1, J, R) Q := by
          intro v hvv
          rw [← hvv] at next
          simp only [gX7_drawn_162, t0, true_and, rIn_at (mt_56 hm) h7 (by decide), nI_clamp (show t < 2 ^ 31 by omega)]
          generalize hI3 : va_up I1 56 (va_up (I1 56) t v) = I3
          have f13 : ∀ x, x ≠ 56 → I3 x = I1 x := fun x hx => by rw [← hI3, up_ne _ _ hx]
          have hM3 := MS_setR (v := v) (p := t) (I' := I3) hM1 h7 (by rw [← hI3, up_self]) f13
          refine s_passes hM3 (fun I4 hf4 hM4 => ?_)
          simp only [Option.toList_none, List.nil_append, gX7_drawn_167, t0, true_and, mr_2 hm, rf_some, rIn_at (mt_56 hm) h7 (by decide), nI_clamp (show t < 2 ^ 31 by omega), ne_eq]
          generalize hI5 : va_up I4 56 (va_up (I4 56) t (q1 4 t)) = I5
          have f45 : ∀ x, x ≠ 56 → I5 x = I4 x := fun x hx => by rw [← hI5, up_ne _ _ hx]
          have hM5 := MS_setR (v := q1 4 t) (p := t) (I' := I5) hM4 h7 (by rw [← hI5, up_self]) f45
          have f3 : frM I I3 := frM_t hf1 (fun x hx => f13 x (by omega))
          have f5 : frM I I5 := frM_t (frM_t f3 (frM_p hf4)) (fun x hx => f45 x (by omega))
          have hK5 : Kp I5 80 n r := Kp_fr (Kp_p (Kp_fr hK1 (f13 80 (by decide))) (Or.inr rfl) hf4) (f45 80 (by decide))
          have hd : eqR (dayS l n (stS q1 4 t v)) (dayS l n (stS q 4 t v)) := eqR_day (eqR_st he1) (by
            rw [show stS q1 4 t v 5 1 = q1 5 1 from st_k (by decide), show stS q 4 t v 5 1 = q 5 1 from st_k (by decide), ← he1 5 1 (by decide), h5, nI_clamp (by omega), st_at, st_at])
          have he5 : eqR (stS (dayS l n (stS q1 4 t v)) 4 t (q1 4 t)) (dayS l n (stS q 4 t v)) := by
            intro k i hk
            rw [st_k hk]
            exact hd k i hk
          have hs5 : sB n (stS (dayS l n (stS q1 4 t v)) 4 t (q1 4 t)) r := by
            refine ⟨fun i hi => ?_, fun i hi => ?_, ?_⟩
            · rw [st_k (by decide)]
              unfold dayS
              rw [can_lt (by decide) hi]
              simp only [show ¬ (1 : Nat) = 0 by decide, show ¬ (1 : Nat) = 5 by decide, false_and, if_false]
              rw [st_k (by decide)]
              exact hs1.1 i hi
            · by_cases e : i = t
              · rw [e, st_at]
                exact hs1.2.1 t h7
              · rw [st_i e]
                unfold dayS
                rw [can_4 hi]
                simp only [show ¬ (4 : Nat) = 0 by decide, show ¬ (4 : Nat) = 5 by decide, false_and, if_false]
                rw [st_i e]
                exact hs1.2.1 i hi
            · rw [st_k (by decide)]
              unfold dayS
              rw [can_5 (by decide)]
              simp only [show ¬ (5 : Nat) = 0 by decide, show ¬ (0 : Nat) = 1 by decide, and_false, if_false]
              rw [st_k (by decide)]
              exact hs1.2.2
          have last : ∀ s' : Int32, s' = s + adS n rc (dayS l n (stS q 4 t v)) → Ex X (d + 6) mX7_drawn 207 [.ref 54, .int z, .int w, .int rc, .int (nxS z'), .int s', .int y, .int (nI j), .int (nI t), .int (q1 4 t)] [] (T, I5, J, R) Q := by
            intro s' hs'
            rw [← hs'] at next
            simp only [gX7_drawn_207, nI_1]
            exact ih (j + 1) (by omega) I5 _ _ _ _ _ _ f5 hM5 he5 hs5 hK5 next
          by_cases g : rc = -1
          · simp only [g, not_true_eq_false, if_false, gX7_drawn_181, t0, true_and]
            refine s_over hM5 ?_
            simp only [Option.toList_some, List.cons_append, List.nil_append, gX7_drawn_187]
            refine j_bitCount ?_
            simp only [Option.toList_some, List.cons_append, List.nil_append, gX7_drawn_190]
            rw [g] at last
            exact last _ (by rw [adS, if_pos rfl, eqR_ov he5 n n])
          · simp only [g, not_false_eq_true, if_true, gX7_drawn_196, t0, true_and]
            obtain ⟨p, hp, ep⟩ := isR_t (hrc.resolve_left g) h8
            rw [adS, if_neg g, ep, nI_clamp (show p < 2 ^ 31 by omega), ← he5 0 p (by decide), ← he5 1 p (by decide)] at last
            rw [ep]
            refine s_isOver hM5 hp ?_
            generalize stS (dayS l n (stS q1 4 t v)) 4 t (q1 4 t) = q5 at last ⊢
            simp only [Option.toList_some, List.cons_append, List.nil_append, gX7_drawn_201]
            by_cases g2 : q5 0 p < q5 1 p
            · simp only [g2, if_true] at last ⊢
              exact last s (Int32.add_zero s).symm
            · simp only [g2, if_false, show ¬ (1 : Int32) = 0 by decide, gX7_drawn_204] at last ⊢
              exact last _ rfl
        unfold rnS at rest
        by_cases g : wet ≤ ush (nxS z') 16 - ush (nxS z') 16 / 12 * 12
        · have g' := g
          unfold nxS ush at g'
          rw [if_pos g']
          simp only [gX7_drawn_161]
          exact rest 0 (by rw [if_pos g])
        · have g' := g
          unfold nxS ush at g'
          rw [if_neg g']
          simp only [gX7_drawn_150, n4, not_false_eq_true, true_and]
          exact rest _ (by rw [if_neg g]; rfl)
    have years : ∀ (y E : Nat), E + y = N → ∀ (I1 : tI) (z' s : Int32) (v7 v8 v9 : Value), frM I I1 → MS T I1 R n l r → Kp I1 80 n r → (∀ I' : tI, frM I I' → MS T I' R n l r → Q (some (.int (ylS l n wet rc M r y z' s))) (T, I', J, R)) →
        Ex X (d + 6) mX7_drawn 75 [.ref 54, .int z, .int w, .int rc, .int z', .int s, .int (nI E), v7, v8, v9] [] (T, I1, J, R) Q := by
      intro y
      induction y with
      | zero =>
        intro E hE I1 z' s v7 v8 v9 hf1 hM1 hK1 k
        simp only [gX7_drawn_75, n1, not_false_eq_true, true_and, eN, nI_le (show N ≤ E by omega) (by omega), if_true, gX7_drawn_229]
        exact k I1 hf1 hM1
      | succ y ih =>
        intro E hE I1 z' s v7 v8 v9 hf1 hM1 hK1 k
        simp only [gX7_drawn_75, n1, not_false_eq_true, true_and, eN, nI_ge (show E < N by omega) (by omega), if_false]
        simp only [gX7_drawn_85]
        refine days (nI E) M 0 (by omega) I1 r r z' s v8 v9 hf1 hM1 (fun _ _ _ => rfl) (sB_r n r) hK1 (fun I2 q2 w7 w8 w9 hf2 hM2 hs2 hK2 => ?_)
        simp only [gX7_drawn_213, t0, true_and, mr_39 hm, rf_some]
        refine s_laysBack hM2 hK2 hs2 (MS_can h) (MS_ok h) (mt_80 hm) (by decide) (fun I4 hf4 hM4 => ?_)
        simp only [Option.toList_none, List.nil_append, gX7_drawn_223, nI_1]
        exact ih (E + 1) (by omega) I4 _ _ _ _ _ (frM_t hf2 (frM_b hf4)) hM4 (Kp_fr hK2 (hf4 80 (by decide) (by decide))) k
    simp only [gX7_drawn_58, t0, true_and, mr_39 hm, rf_some]
    refine s_keeps h (mt_80 hm) (by decide) (fun I1 hf1 hK1 => ?_)
    simp only [Option.toList_none, List.nil_append, gX7_drawn_66]
    exact years N 0 (by omega) I1 z 0 rU rU rU (frM_k hf1 (Or.inr rfl)) (MS_k h hf1 (by decide)) hK1 k
  by_cases c : drawnP n w rc
  · have gg := go c
    obtain ⟨w0, wN, wM, wW, hrc⟩ := c
    simp only [gX7_drawn_0, w0, if_false, gX7_drawn_4, n1, not_false_eq_true, true_and]
    refine s_within ?_
    simp only [Option.toList_some, List.cons_append, List.nil_append, gX7_drawn_15, if10, wN, reduceCtorEq, if_false, gX7_drawn_18, n2, not_false_eq_true, true_and]
    refine s_within ?_
    simp only [Option.toList_some, List.cons_append, List.nil_append, gX7_drawn_31, if10, wM, reduceCtorEq, if_false, gX7_drawn_34, n2, not_false_eq_true, true_and, wW, gX7_drawn_43]
    by_cases g : rc = -1
    · simp only [g, if_true]
      rw [g] at gg
      exact gg
    · simp only [g, if_false, gX7_drawn_48, t0, true_and]
      refine s_isOne h ?_
      simp only [Option.toList_some, List.cons_append, List.nil_append, gX7_drawn_53, ne_eq, if10, hrc.resolve_left g, reduceCtorEq, not_false_eq_true, if_true]
      exact gg
  · have bb := bad c
    simp only [gX7_drawn_0]
    by_cases w0 : w < 0
    · simp only [w0, if_true]
      exact bb
    simp only [w0, if_false, gX7_drawn_4, n1, not_false_eq_true, true_and]
    refine s_within ?_
    simp only [Option.toList_some, List.cons_append, List.nil_append, gX7_drawn_15, if10]
    cases wN : inB (w / 10000) 1 30 with
    | false =>
      simp only [if_true]
      exact bb
    | true =>
    simp only [reduceCtorEq, if_false, gX7_drawn_18, n2, not_false_eq_true, true_and]
    refine s_within ?_
    simp only [Option.toList_some, List.cons_append, List.nil_append, gX7_drawn_31, if10]
    cases wM : inB (w / 100 - w / 100 / 100 * 100) 1 60 with
    | false =>
      simp only [if_true]
      exact bb
    | true =>
    simp only [reduceCtorEq, if_false, gX7_drawn_34, n2, not_false_eq_true, true_and]
    by_cases wW : 12 < w - w / 100 * 100
    · simp only [wW, if_true]
      exact bb
    simp only [wW, if_false, gX7_drawn_43]
    by_cases g : rc = -1
    · exact absurd ⟨w0, wN, wM, wW, Or.inl g⟩ c
    simp only [g, if_false, gX7_drawn_48, t0, true_and]
    refine s_isOne h ?_
    simp only [Option.toList_some, List.cons_append, List.nil_append, gX7_drawn_53, ne_eq, if10]
    cases g2 : isR n rc with
    | false =>
      simp only [not_true_eq_false, if_false]
      exact bb
    | true => exact absurd ⟨w0, wN, wM, wW, Or.inr g2⟩ c
end DR
