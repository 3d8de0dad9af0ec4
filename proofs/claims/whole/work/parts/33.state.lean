/-! PURE: both sides' states, seen whole -/
def rvOk (n : Nat) (r : Nat → Nat → Int32) : Prop := (∀ p, p < n → ¬ r 0 p < 0 ∧ r 0 p ≤ 99) ∧ ∃ t : Nat, t < 7 ∧ r 5 1 = nI t
theorem wi_99 (v : Int32) : ¬ wi v 0 99 < 0 ∧ wi v 0 99 ≤ 99 := by
  unfold wi
  simp only [Int32.lt_iff_toInt_lt, Int32.le_iff_toInt_le, apply_ite Int32.toInt, show (0 : Int32).toInt = 0 by decide, show (99 : Int32).toInt = 99 by decide]
  refine ⟨?_, ?_⟩ <;> (repeat' split) <;> omega
theorem rvOk_day {l : tL} {n : Nat} {r : Nat → Nat → Int32} (h : rvOk n r) : rvOk n (dayS l n r) := by
  obtain ⟨_, t, ht, h5⟩ := h
  refine ⟨fun p hp => ?_, (t + 1) % 7, by omega, ?_⟩
  · unfold dayS
    rw [can_lt (by decide) hp]
    simp only [if_true]
    exact wi_99 _
  · unfold dayS
    rw [can_5 (by decide), h5]
    exact rem7 ht
theorem rvOk_it {l : tL} {n : Nat} : ∀ (m : Nat) {r : Nat → Nat → Int32}, rvOk n r → rvOk n (itS l n m r)
  | 0, _, h => h
  | m + 1, _, h => rvOk_it m (rvOk_day h)
/-- rows that no day changes are alike -/
def sB (n : Nat) (q r : Nat → Nat → Int32) : Prop := (∀ i, i < n → q 1 i = r 1 i) ∧ (∀ i, i < 7 → q 4 i = r 4 i) ∧ q 5 0 = r 5 0
theorem sB_day {l : tL} {n : Nat} {q r : Nat → Nat → Int32} (h : sB n q r) : sB n (dayS l n q) r := by
  obtain ⟨h1, h4, h5⟩ := h
  refine ⟨fun i hi => ?_, fun i hi => ?_, ?_⟩
  · unfold dayS
    rw [can_lt (by decide) hi]
    exact h1 i hi
  · unfold dayS
    rw [can_4 hi]
    exact h4 i hi
  · unfold dayS
    rw [can_5 (by decide)]
    exact h5
theorem sB_it {l : tL} {n : Nat} {r : Nat → Nat → Int32} : ∀ (m : Nat) {q : Nat → Nat → Int32}, sB n q r → sB n (itS l n m q) r
  | 0, _, h => h
  | m + 1, _, h => sB_it m (sB_day h)
theorem sB_r (n : Nat) (r : Nat → Nat → Int32) : sB n r r := ⟨fun _ _ => rfl, fun _ _ => rfl, rfl⟩
def isR (n : Nat) (v : Int32) : Bool := decide (¬ v < 0 ∧ ¬ nI n ≤ v)
theorem isR_t {n : Nat} {v : Int32} (h : isR n v = true) (h8 : n ≤ 8) : ∃ p : Nat, p < n ∧ v = nI p := by
  obtain ⟨h0, h1⟩ := of_decide_eq_true h
  obtain ⟨j, hj, rfl⟩ := nI_of h0
  exact ⟨j, by rw [nI_leI (by omega) hj] at h1; omega, rfl⟩
theorem isR_n {n p : Nat} (hp : p < n) (h8 : n ≤ 8) : isR n (nI p) = true := decide_eq_true ⟨nI_pos (by omega), nI_ge hp (by omega)⟩
def inB (v l m : Int32) : Bool := decide (¬ v < l ∧ ¬ m < v)
theorem inB_if (v l m : Int32) : (if v < l then (0 : Int32) else if m < v then 0 else 1) = (if inB v l m = true then 1 else 0) := by
  unfold inB
  by_cases h1 : v < l <;> by_cases h2 : m < v <;> simp [h1, h2]
theorem inB_R {n : Nat} (h8 : n ≤ 8) (v : Int32) : inB v 0 (nI n - 1) = isR n v := by
  unfold inB isR
  congr 1
  have : (nI n - 1 < v) ↔ (nI n ≤ v) := by
    have hs : (nI n - 1).toInt = (n : Int) - 1 := by
      have : ∀ k : Fin 9, (nI k.val - 1).toInt = (k.val : Int) - 1 := by decide +kernel
      exact this ⟨n, by omega⟩
    rw [Int32.lt_iff_toInt_lt, Int32.le_iff_toInt_le, hs, nI_toInt (by omega)]
    omega
  rw [this]
theorem if10 {b : Bool} : ((if b = true then (1 : Int32) else 0) = 0) = (b = false) := by cases b <;> simp
section ST
variable {X : tX} {T : tT} {I I' : tI} {J : tJ} {R : tR} {Q : tQ} {d a b c p n t D : Nat} {σ : rS} {l : tL} {r q : Nat → Nat → Int32}
/-- the reference, thinking -/
def MS (T : tT) (I : tI) (R : tR) (n : Nat) (l : tL) (r : Nat → Nat → Int32) : Prop := IsMod T R ∧ (¬ I 54 6 = 0 → mOk I) ∧ I 54 0 = nI n ∧ n ≤ 8 ∧ mLw I = l ∧ can n (vm I) = r ∧ rvOk n r
theorem MS_fr (h : MS T I R n l r) (hf : ∀ x, (54 ≤ x ∧ x ≤ 57) ∨ (59 ≤ x ∧ x ≤ 62) → I' x = I x) : MS T I' R n l r := by
  obtain ⟨hm, hok, hn, h8, hl, hr, hk⟩ := h
  have f54 := hf 54 (by decide)
  have f59 := hf 59 (by decide)
  have f60 := hf 60 (by decide)
  have f61 := hf 61 (by decide)
  have f62 := hf 62 (by decide)
  exact ⟨hm, fun z => mOk_eq f54 f59 f60 f61 f62 (hok (by rw [f54] at z; exact z)), by rw [f54]; exact hn, h8, by rw [mLw_eq f54 f59 f60 f61 f62]; exact hl, by rw [vm_eq (hf 55 (by decide)) (hf 56 (by decide)) (hf 57 (by decide))]; exact hr, hk⟩
/-- what the reference may change while it thinks -/
def frM (I I' : tI) : Prop := ∀ x, x ≤ 54 ∨ (58 ≤ x ∧ x ≤ 66) ∨ (69 ≤ x ∧ x ≤ 77) ∨ 83 ≤ x → I' x = I x
theorem frM_r (I : tI) : frM I I := fun _ _ => rfl
theorem frM_t {I1 I2 I3 : tI} (h : frM I1 I2) (h' : frM I2 I3) : frM I1 I3 := fun x hx => (h' x hx).trans (h x hx)
theorem MS_lv (h : MS T I R n l r) (hp : p < n) : I 55 p = r 0 p := by
  obtain ⟨hm, hok, hn, h8, hl, hr, hk⟩ := h
  rw [← hr, can_lt (by decide) hp]
  rfl
theorem MS_bk (h : MS T I R n l r) (hp : p < n) : I 55 (8 + p) = r 1 p := by
  obtain ⟨hm, hok, hn, h8, hl, hr, hk⟩ := h
  rw [← hr, can_lt (by decide) hp]
  rfl
theorem MS_can (h : MS T I R n l r) : can n r = r := by
  obtain ⟨hm, hok, hn, h8, hl, hr, hk⟩ := h
  rw [← hr, can_can]
theorem s_passes (h : MS T I R n l r) (k : ∀ I' : tI, (∀ x, x ≠ 55 → x ≠ 57 → x ≠ 67 → x ≠ 68 → x ≠ 78 → I' x = I x) → MS T I' R n l (dayS l n r) → Q none (T, I', J, R)) : Ex X (d + 4) mX7_passes 0 [.ref 54, rU] [] (T, I, J, R) Q := by
  have h' := h
  obtain ⟨hm, hok, hn, h8, hl, hr, hk, t, h7, h5⟩ := h
  refine q_passes hm hok hn h8 (fun p hp => ?_) (by rw [← hr, can_5 (by decide)] at h5; exact h5) h7 (fun I' hf _ _ _ hc => k I' hf ?_)
  · rw [MS_lv h' hp]
    exact (hk p hp).1
  · have f54 := hf 54 (by decide) (by decide) (by decide) (by decide) (by decide)
    have f59 := hf 59 (by decide) (by decide) (by decide) (by decide) (by decide)
    have f60 := hf 60 (by decide) (by decide) (by decide) (by decide) (by decide)
    have f61 := hf 61 (by decide) (by decide) (by decide) (by decide) (by decide)
    have f62 := hf 62 (by decide) (by decide) (by decide) (by decide) (by decide)
    exact ⟨hm, fun z => mOk_eq f54 f59 f60 f61 f62 (hok (by rw [f54] at z; exact z)), by rw [f54]; exact hn, h8, by rw [mLw_eq f54 f59 f60 f61 f62]; exact hl, by rw [hc, hl, hr], rvOk_day ⟨hk, t, h7, h5⟩⟩
theorem s_goesOn (h : MS T I R n l r) (hD : D < 2 ^ 31) (k : ∀ I' : tI, (∀ x, x ≠ 55 → x ≠ 57 → x ≠ 67 → x ≠ 68 → x ≠ 78 → I' x = I x) → MS T I' R n l (itS l n D r) → Q none (T, I', J, R)) : Ex X (d + 5) mX7_goesOn 0 [.ref 54, .int (nI D), rU] [] (T, I, J, R) Q := by
  have loop : ∀ (m i : Nat) (I1 : tI) (r1 : Nat → Nat → Int32), i + m = D → (∀ x, x ≠ 55 → x ≠ 57 → x ≠ 67 → x ≠ 68 → x ≠ 78 → I1 x = I x) → MS T I1 R n l r1 → itS l n m r1 = itS l n D r → Ex X (d + 5) mX7_goesOn 2 [.ref 54, .int (nI D), .int (nI i)] [] (T, I1, J, R) Q := by
    intro m
    induction m with
    | zero =>
      intro i I1 r1 hi hf hM hr
      simp only [gX7_goesOn_2, nI_le (show D ≤ i by omega) (by omega), if_true, gX7_goesOn_17]
      exact k I1 hf (by rw [← hr]; exact hM)
    | succ m ih =>
      intro i I1 r1 hi hf hM hr
      simp only [gX7_goesOn_2, nI_ge (show i < D by omega) hD, if_false]
      simp only [gX7_goesOn_7, mt_54 hM.1, true_and]
      refine s_passes hM (fun I2 hf2 hM2 => ?_)
      simp only [Option.toList_none, List.nil_append, gX7_goesOn_11, nI_1]
      exact ih (i + 1) I2 _ (by omega) (fun x a1 a2 a3 a4 a5 => (hf2 x a1 a2 a3 a4 a5).trans (hf x a1 a2 a3 a4 a5)) hM2 hr
  simp only [gX7_goesOn_0]
  exact loop D 0 I r (by omega) (fun _ _ _ _ _ _ => rfl) h rfl
/-- kept in the row c -/
def Kp (I : tI) (c n : Nat) (r : Nat → Nat → Int32) : Prop := (∀ p, p < n → I c p = r 0 p ∧ I c (8 + p) = r 2 p ∧ I c (16 + p) = r 3 p) ∧ I c 24 = r 5 1
theorem Kp_fr (h : Kp I c n r) (hf : I' c = I c) : Kp I' c n r := by
  unfold Kp
  rw [hf]
  exact h
theorem s_keeps (h : MS T I R n l r) (hc : T[c]? = some (0, 25)) (hc2 : 63 ≤ c) (k : ∀ I' : tI, (∀ x, x ≠ c → I' x = I x) → Kp I' c n r → Q none (T, I', J, R)) : Ex X d mX7_keeps 0 [.ref 54, .ref c, rU] [] (T, I, J, R) Q := by
  obtain ⟨hm, hok, hn, h8, hl, hr, hk⟩ := h
  have t0 := mt_54 hm
  have t55 := mt_55 hm
  have t57 := mt_57 hm
  have c55 : (55 : Nat) ≠ c := by omega
  have c57 : (57 : Nat) ≠ c := by omega
  have e24 : nI 24 = 24 := by decide
  have e1 : nI 1 = 1 := by decide
  have i24 : rIn T c 0 24 := rIn_at (k := 24) hc (by decide) (by decide)
  have i1 : rIn T 57 0 1 := rIn_at (k := 1) t57 (by decide) (by decide)
  have loop : ∀ i, i ≤ 8 → ∀ I1 : tI, (∀ x, x ≠ c → I1 x = I x) → (∀ p, p < i → I1 c p = I 55 p ∧ I1 c (8 + p) = I 55 (16 + p) ∧ I1 c (16 + p) = I 55 (24 + p)) → Ex X d mX7_keeps 2 [.ref 54, .ref c, .int (nI i)] [] (T, I1, J, R) Q := by
    refine loop_up (P := fun i => ∀ I1 : tI, (∀ x, x ≠ c → I1 x = I x) → (∀ p, p < i → I1 c p = I 55 p ∧ I1 c (8 + p) = I 55 (16 + p) ∧ I1 c (16 + p) = I 55 (24 + p)) → Ex X d mX7_keeps 2 [.ref 54, .ref c, .int (nI i)] [] (T, I1, J, R) Q) (n := 8) ?_ ?_
    · intro I1 hf hp
      simp only [gX7_keeps_2, show (8 : Int32) ≤ nI 8 by decide, if_true]
      simp only [gX7_keeps_53, t0, true_and, mr_3 hm, rf_some, i24, i1, show (1 : Int32).toNatClampNeg = 1 by decide, show (24 : Int32).toNatClampNeg = 24 by decide, hf 57 c57]
      refine k _ (fun x hx => by rw [up_ne _ _ hx]; exact hf x hx) ⟨fun p hp1 => ?_, ?_⟩
      · obtain ⟨q0, q1, q2⟩ := hp p (by omega)
        rw [up_self, up_ne _ _ (show p ≠ 24 by omega), up_ne _ _ (show 8 + p ≠ 24 by omega), up_ne _ _ (show 16 + p ≠ 24 by omega), q0, q1, q2, ← hr, can_lt (by decide) hp1, can_lt (by decide) hp1, can_lt (by decide) hp1]
        exact ⟨rfl, rfl, rfl⟩
      · rw [up_self, up_self, ← hr, can_5 (by decide)]
        rfl
    · intro i hi ih I1 hf hp
      have hc8 : ¬ (8 : Int32) ≤ nI i := nI_ge (a := i) (b := 8) hi (by decide)
      simp only [gX7_keeps_2, hc8, if_false]
      simp only [gX7_keeps_8, t0, true_and, mr_1 hm, rf_some, z_8, z_16, z_24, rIn_at t55 (show i < 32 by omega) (by decide), rIn_at t55 (show 16 + i < 32 by omega) (by decide), rIn_at t55 (show 24 + i < 32 by omega) (by decide), rIn_at hc (show i < 25 by omega) (by decide), rIn_at hc (show 8 + i < 25 by omega) (by decide), rIn_at hc (show 16 + i < 25 by omega) (by decide), nI_clamp (show i < 2 ^ 31 by omega), nI_clamp (show 8 + i < 2 ^ 31 by omega), nI_clamp (show 16 + i < 2 ^ 31 by omega), nI_clamp (show 24 + i < 2 ^ 31 by omega), up_ne _ _ c55, up_self, hf 55 c55, nI_1]
      refine ih _ (fun x hx => by rw [up_ne _ _ hx, up_ne _ _ hx, up_ne _ _ hx]; exact hf x hx) (fun p hp1 => ?_)
      rw [up_self]
      by_cases e : p = i
      · subst e
        refine ⟨?_, ?_, ?_⟩
        · rw [up_ne _ _ (show p ≠ 16 + p by omega), up_ne _ _ (show p ≠ 8 + p by omega), up_self]
        · rw [up_ne _ _ (show 8 + p ≠ 16 + p by omega), up_self]
        · rw [up_self]
      · obtain ⟨q0, q1, q2⟩ := hp p (by omega)
        rw [up_ne _ _ (show p ≠ 16 + i by omega), up_ne _ _ (show p ≠ 8 + i by omega), up_ne _ _ e, up_ne _ _ (show 8 + p ≠ 16 + i by omega), up_ne _ _ (show 8 + p ≠ 8 + i by omega), up_ne _ _ (show 8 + p ≠ i by omega), up_ne _ _ (show 16 + p ≠ 16 + i by omega), up_ne _ _ (show 16 + p ≠ 8 + i by omega), up_ne _ _ (show 16 + p ≠ i by omega)]
        exact ⟨q0, q1, q2⟩
  simp only [gX7_keeps_0]
  exact loop 0 (by omega) I (fun _ _ => rfl) (fun p hp => absurd hp (by omega))
theorem s_lays (hm : IsMod T R) {N : Nat} (hN : N ≤ 8) (hc : T[c]? = some (0, 25)) (hc2 : 63 ≤ c) (k : ∀ I' : tI, (∀ x, x ≠ 55 → x ≠ 57 → I' x = I x) → (∀ p, p < N → I' 55 p = I c p ∧ I' 55 (16 + p) = I c (8 + p) ∧ I' 55 (24 + p) = I c (16 + p)) → (∀ p, N ≤ p → p < 8 → I' 55 p = I 55 p ∧ I' 55 (16 + p) = I 55 (16 + p) ∧ I' 55 (24 + p) = I 55 (24 + p)) → (∀ p, p < 8 → I' 55 (8 + p) = I 55 (8 + p)) → I' 57 1 = I c 24 → I' 57 0 = I 57 0 → Q none (T, I', J, R)) : Ex X d mX7_laysBack 0 [.ref 54, .ref c, .int (nI N), rU] [] (T, I, J, R) Q := by
  have t0 := mt_54 hm
  have t55 := mt_55 hm
  have t57 := mt_57 hm
  have c55 : c ≠ 55 := by omega
  have c57 : c ≠ 57 := by omega
  have i24 : rIn T c 0 24 := rIn_at (k := 24) hc (by decide) (by decide)
  have i1 : rIn T 57 0 1 := rIn_at (k := 1) t57 (by decide) (by decide)
  have loop : ∀ i, i ≤ N → ∀ I1 : tI, (∀ x, x ≠ 55 → I1 x = I x) → (∀ p, p < i → I1 55 p = I c p ∧ I1 55 (16 + p) = I c (8 + p) ∧ I1 55 (24 + p) = I c (16 + p)) → (∀ p, i ≤ p → p < 8 → I1 55 p = I 55 p ∧ I1 55 (16 + p) = I 55 (16 + p) ∧ I1 55 (24 + p) = I 55 (24 + p)) → (∀ p, p < 8 → I1 55 (8 + p) = I 55 (8 + p)) → Ex X d mX7_laysBack 2 [.ref 54, .ref c, .int (nI N), .int (nI i)] [] (T, I1, J, R) Q := by
    refine loop_up (P := fun i => ∀ I1 : tI, (∀ x, x ≠ 55 → I1 x = I x) → (∀ p, p < i → I1 55 p = I c p ∧ I1 55 (16 + p) = I c (8 + p) ∧ I1 55 (24 + p) = I c (16 + p)) → (∀ p, i ≤ p → p < 8 → I1 55 p = I 55 p ∧ I1 55 (16 + p) = I 55 (16 + p) ∧ I1 55 (24 + p) = I 55 (24 + p)) → (∀ p, p < 8 → I1 55 (8 + p) = I 55 (8 + p)) → Ex X d mX7_laysBack 2 [.ref 54, .ref c, .int (nI N), .int (nI i)] [] (T, I1, J, R) Q) (n := N) ?_ ?_
    · intro I1 hf h1 h2 h3
      simp only [gX7_laysBack_2, nI_le (Nat.le_refl N) (by omega), if_true]
      simp only [gX7_laysBack_52, t0, true_and, mr_3 hm, rf_some, i24, i1, show (1 : Int32).toNatClampNeg = 1 by decide, show (24 : Int32).toNatClampNeg = 24 by decide, hf c c55]
      have n57 : (55 : Nat) ≠ 57 := by decide
      refine k _ (fun x x5 x7 => by rw [up_ne _ _ x7]; exact hf x x5) (fun p hp => by rw [up_ne _ _ n57]; exact h1 p hp) (fun p hp hp8 => by rw [up_ne _ _ n57]; exact h2 p hp hp8) (fun p hp => by rw [up_ne _ _ n57]; exact h3 p hp) (by rw [up_self, up_self]) (by rw [up_self, up_ne _ _ (by decide), hf 57 (by decide)])
    · intro i hi ih I1 hf h1 h2 h3
      simp only [gX7_laysBack_2, nI_ge hi (by omega), if_false]
      simp only [gX7_laysBack_7, t0, true_and, mr_1 hm, rf_some, z_8, z_16, z_24, rIn_at t55 (show i < 32 by omega) (by decide), rIn_at t55 (show 16 + i < 32 by omega) (by decide), rIn_at t55 (show 24 + i < 32 by omega) (by decide), rIn_at hc (show i < 25 by omega) (by decide), rIn_at hc (show 8 + i < 25 by omega) (by decide), rIn_at hc (show 16 + i < 25 by omega) (by decide), nI_clamp (show i < 2 ^ 31 by omega), nI_clamp (show 8 + i < 2 ^ 31 by omega), nI_clamp (show 16 + i < 2 ^ 31 by omega), nI_clamp (show 24 + i < 2 ^ 31 by omega), up_ne _ _ c55, up_self, hf c c55, nI_1]
      refine ih _ (fun x hx => by rw [up_ne _ _ hx, up_ne _ _ hx, up_ne _ _ hx]; exact hf x hx) (fun p hp1 => ?_) (fun p hp1 hp8 => ?_) (fun p hp8 => ?_)
      · rw [up_self]
        by_cases e : p = i
        · subst e
          refine ⟨?_, ?_, ?_⟩
          · rw [up_ne _ _ (show p ≠ 24 + p by omega), up_ne _ _ (show p ≠ 16 + p by omega), up_self]
          · rw [up_ne _ _ (show 16 + p ≠ 24 + p by omega), up_self]
          · rw [up_self]
        · obtain ⟨q0, q1, q2⟩ := h1 p (by omega)
          rw [up_ne _ _ (show p ≠ 24 + i by omega), up_ne _ _ (show p ≠ 16 + i by omega), up_ne _ _ e, up_ne _ _ (show 16 + p ≠ 24 + i by omega), up_ne _ _ (show 16 + p ≠ 16 + i by omega), up_ne _ _ (show 16 + p ≠ i by omega), up_ne _ _ (show 24 + p ≠ 24 + i by omega), up_ne _ _ (show 24 + p ≠ 16 + i by omega), up_ne _ _ (show 24 + p ≠ i by omega)]
          exact ⟨q0, q1, q2⟩
      · rw [up_self]
        obtain ⟨q0, q1, q2⟩ := h2 p (by omega) hp8
        rw [up_ne _ _ (show p ≠ 24 + i by omega), up_ne _ _ (show p ≠ 16 + i by omega), up_ne _ _ (show p ≠ i by omega), up_ne _ _ (show 16 + p ≠ 24 + i by omega), up_ne _ _ (show 16 + p ≠ 16 + i by omega), up_ne _ _ (show 16 + p ≠ i by omega), up_ne _ _ (show 24 + p ≠ 24 + i by omega), up_ne _ _ (show 24 + p ≠ 16 + i by omega), up_ne _ _ (show 24 + p ≠ i by omega)]
        exact ⟨q0, q1, q2⟩
      · rw [up_self, up_ne _ _ (show 8 + p ≠ 24 + i by omega), up_ne _ _ (show 8 + p ≠ 16 + i by omega), up_ne _ _ (show 8 + p ≠ i by omega)]
        exact h3 p hp8
  simp only [gX7_laysBack_0]
  exact loop 0 (by omega) I (fun _ _ => rfl) (fun p hp => absurd hp (by omega)) (fun p _ _ => ⟨rfl, rfl, rfl⟩) (fun _ _ => rfl)
theorem s_laysBack (h : MS T I R n l q) (hK : Kp I c n r) (hs : sB n q r) (hcr : can n r = r) (hro : rvOk n r) (hc : T[c]? = some (0, 25)) (hc2 : 63 ≤ c) (k : ∀ I' : tI, (∀ x, x ≠ 55 → x ≠ 57 → I' x = I x) → MS T I' R n l r → Q none (T, I', J, R)) : Ex X d mX7_laysBack 0 [.ref 54, .ref c, .int 8, rU] [] (T, I, J, R) Q := by
  obtain ⟨hm, hok, hn, h8, hl, hr, hk⟩ := h
  obtain ⟨k1, k2⟩ := hK
  obtain ⟨s1, s4, s5⟩ := hs
  refine s_lays (N := 8) hm (by decide) hc hc2 (fun I' hf h1 h2 h3 h4 h5 => k I' hf ?_)
  have f54 := hf 54 (by decide) (by decide)
  have f59 := hf 59 (by decide) (by decide)
  have f60 := hf 60 (by decide) (by decide)
  have f61 := hf 61 (by decide) (by decide)
  have f62 := hf 62 (by decide) (by decide)
  refine ⟨hm, fun z => mOk_eq f54 f59 f60 f61 f62 (hok (by rw [f54] at z; exact z)), by rw [f54]; exact hn, h8, by rw [mLw_eq f54 f59 f60 f61 f62]; exact hl, ?_, hro⟩
  rw [← hcr]
  funext x i
  unfold can
  by_cases g : (x < 4 ∧ i < n) ∨ (x = 4 ∧ i < 7) ∨ (x = 5 ∧ i < 2)
  · rw [if_pos g, if_pos g]
    rcases g with ⟨g1, g2⟩ | ⟨rfl, g2⟩ | ⟨rfl, g2⟩
    · obtain ⟨a0, a2, a3⟩ := h1 i (by omega)
      obtain ⟨b0, b2, b3⟩ := k1 i g2
      have hx : x = 0 ∨ x = 1 ∨ x = 2 ∨ x = 3 := by omega
      rcases hx with rfl | rfl | rfl | rfl
      · exact a0.trans b0
      · refine (h3 i (by omega)).trans ?_
        rw [← s1 i g2, ← hr, can_lt (by decide) g2]
        rfl
      · exact a2.trans b2
      · exact a3.trans b3
    · rw [← s4 i g2, ← hr, can_4 g2]
      show I' 56 i = I 56 i
      rw [hf 56 (by decide) (by decide)]
    · have hi : i = 0 ∨ i = 1 := by omega
      rcases hi with rfl | rfl
      · rw [← s5, ← hr, can_5 (by decide)]
        exact h5
      · exact h4.trans k2
  · rw [if_neg g, if_neg g]
theorem s_isOne {v : Int32} (h : MS T I R n l r) (k : Q (some (.int (if isR n v = true then 1 else 0))) (T, I, J, R)) : Ex X (d + 1) mX7_isOne 0 [.ref 54, .int v] [] (T, I, J, R) Q := by
  obtain ⟨hm, hok, hn, h8, hl, hr, hk⟩ := h
  simp only [gX7_isOne_0, mt_54 hm, true_and, hn]
  refine q_within ?_
  rw [inB_if, inB_R h8]
  simp only [Option.toList_some, List.cons_append, List.nil_append, gX7_isOne_11]
  refine ⟨?_, k⟩
  cases isR n v <;> simp
theorem s_within {v w u : Int32} (k : Q (some (.int (if inB v w u = true then 1 else 0))) σ) : Ex X d mX7_within 0 [.int v, .int w, .int u] [] σ Q := by
  refine q_within ?_
  rw [inB_if]
  exact k
theorem s_isTime {v : Int32} (k : Q (some (.int (if inB v 0 60 = true then 1 else 0))) σ) : Ex X (d + 1) mX7_isTime 0 [.int v] [] σ Q := by
  simp only [gX7_isTime_0]
  refine s_within ?_
  simp only [Option.toList_some, List.cons_append, List.nil_append, gX7_isTime_7]
  refine ⟨?_, k⟩
  cases inB v 0 60 <;> simp
theorem s_isOver (h : MS T I R n l r) (hp : p < n) (k : Q (some (.int (if r 0 p < r 1 p then 0 else 1))) (T, I, J, R)) : Ex X d mX7_isOver 0 [.ref 54, .int (nI p)] [] (T, I, J, R) Q := by
  have h' := h
  obtain ⟨hm, hok, hn, h8, hl, hr, hk⟩ := h
  have t55 := mt_55 hm
  simp only [gX7_isOver_0, mt_54 hm, true_and, mr_1 hm, rf_some, z_8, rIn_at t55 (show p < 32 by omega) (by decide), rIn_at t55 (show 8 + p < 32 by omega) (by decide), nI_clamp (show p < 2 ^ 31 by omega), nI_clamp (show 8 + p < 2 ^ 31 by omega), MS_lv h' hp, MS_bk h' hp]
  by_cases g : r 0 p < r 1 p
  · simp only [g, if_true, gX7_isOver_22, gX7_isOver_23, true_or, true_and] at k ⊢
    exact k
  · simp only [g, if_false, gX7_isOver_18, gX7_isOver_23, or_true, true_and] at k ⊢
    exact k
theorem s_over (h : MS T I R n l r) (k : Q (some (.int (ovS n r n))) (T, I, J, R)) : Ex X (d + 1) mX7_over 0 [.ref 54, rU, rU] [] (T, I, J, R) Q := by
  have h' := h
  obtain ⟨hm, hok, hn, h8, hl, hr, hk⟩ := h
  simp only [gX7_over_0]
  refine loop_up (P := fun i => Ex X (d + 1) mX7_over 4 [.ref 54, .int (ovS n r i), .int (nI i)] [] (T, I, J, R) Q) (n := n) ?_ ?_ 0 (by omega)
  · simp only [gX7_over_4, mt_54 hm, true_and, hn, nI_le (Nat.le_refl n) (by omega), if_true, gX7_over_32]
    exact k
  · intro i hi ih
    simp only [gX7_over_4, mt_54 hm, true_and, hn, nI_ge hi (by omega), if_false]
    simp only [gX7_over_12, mt_54 hm, true_and]
    refine s_isOver h' hi ?_
    simp only [Option.toList_some, List.cons_append, List.nil_append, gX7_over_17]
    rw [ovS] at ih
    by_cases g : r 0 i < r 1 i
    · simp only [g, if_true, Int32.or_zero, gX7_over_26, nI_1] at ih ⊢
      exact ih
    · simp only [g, if_false, show ¬ (1 : Int32) = 0 by decide] at ih ⊢
      simp only [gX7_over_20, gX7_over_26, nI_1]
      exact ih
theorem s_allLevel (h : MS T I R n l r) (k : Q (some (.int (smS r n))) (T, I, J, R)) : Ex X d mX7_allLevel 0 [.ref 54, rU, rU] [] (T, I, J, R) Q := by
  have h' := h
  obtain ⟨hm, hok, hn, h8, hl, hr, hk⟩ := h
  simp only [gX7_allLevel_0]
  refine loop_up (P := fun i => Ex X d mX7_allLevel 4 [.ref 54, .int (smS r i), .int (nI i)] [] (T, I, J, R) Q) (n := n) ?_ ?_ 0 (by omega)
  · simp only [gX7_allLevel_4, mt_54 hm, true_and, hn, nI_le (Nat.le_refl n) (by omega), if_true, gX7_allLevel_27]
    exact k
  · intro i hi ih
    simp only [gX7_allLevel_4, mt_54 hm, true_and, hn, nI_ge hi (by omega), if_false]
    simp only [gX7_allLevel_12, mt_54 hm, true_and, mr_1 hm, rf_some, rIn_at (mt_55 hm) (show i < 32 by omega) (by decide), nI_clamp (show i < 2 ^ 31 by omega), MS_lv h' hi, nI_1]
    exact ih
def sgS (q r : Nat → Nat → Int32) (p : Nat) : Int32 := if r 0 p ≤ q 0 p then (if q 0 p ≤ r 0 p then 0 else 2) else 1
theorem s_signOf (h : MS T I R n l r) (hp : p < n) (k : ∀ I' : tI, (∀ x, x ≠ 55 → x ≠ 57 → x ≠ 67 → x ≠ 68 → x ≠ 78 → I' x = I x) → MS T I' R n l (dayS l n r) → Q (some (.int (sgS r (dayS l n r) p))) (T, I', J, R)) : Ex X (d + 5) mX7_signOf 0 [.ref 54, .int (nI p), rU] [] (T, I, J, R) Q := by
  have h' := h
  obtain ⟨hm, hok, hn, h8, hl, hr, hk⟩ := h
  simp only [gX7_signOf_0, mt_54 hm, true_and, mr_1 hm, rf_some, rIn_at (mt_55 hm) (show p < 32 by omega) (by decide), nI_clamp (show p < 2 ^ 31 by omega), MS_lv h' hp]
  refine s_passes h' (fun I1 hf hM => ?_)
  simp only [Option.toList_none, List.nil_append, gX7_signOf_11, mt_54 hm, true_and, mr_1 hm, rf_some, rIn_at (mt_55 hm) (show p < 32 by omega) (by decide), nI_clamp (show p < 2 ^ 31 by omega), MS_lv hM hp]
  have := k I1 hf hM
  unfold sgS at this
  by_cases g : dayS l n r 0 p ≤ r 0 p
  · simp only [g, if_true] at this ⊢
    simp only [gX7_signOf_25, mt_54 hm, true_and, mr_1 hm, rf_some, rIn_at (mt_55 hm) (show p < 32 by omega) (by decide), nI_clamp (show p < 2 ^ 31 by omega), MS_lv hM hp]
    by_cases g2 : r 0 p ≤ dayS l n r 0 p
    · simp only [g2, if_true, gX7_signOf_39, gX7_signOf_40] at this ⊢
      exact this
    · simp only [g2, if_false, gX7_signOf_35, gX7_signOf_40] at this ⊢
      exact this
  · simp only [g, if_false, gX7_signOf_21, gX7_signOf_40] at this ⊢
    exact this
end ST
