/-! PURE: keep, row, put, element joined -/
def shU (sh : tSh) (s : Nat) (hk : Int32) (ln : Nat) (el : Nat → Int64) : tSh := (va_up sh.1 s hk, va_up sh.2.1 s ln, va_up sh.2.2 s el)
section D4
variable {X : tX} {T : tT} {I I' I1 I2 : tI} {J J' J1 J2 : tJ} {R R' : tR} {Q : tQ} {d b b2 n L0 s ln : Nat} {xs : Nat → Int32} {l : tL} {r : Nat → Nat → Int32} {sh sh' : tSh} {ld : Nat → Int32} {im : tIm} {tp : tTp} {ch : tCh} {st : tSt} {v w x hk : Int32} {el : Nat → Int64} {z : Int64}
theorem CSh_all (h : ∀ s, s < 6 → CSh T I J R s (sh.1 s) (sh.2.1 s) (sh.2.2 s)) (h1 : ∀ s', s' < 6 → s' ≠ s → I' (42 + 2 * s') = I (42 + 2 * s')) (h2 : ∀ s', s' < 6 → s' ≠ s → J' (43 + 2 * s') = J (43 + 2 * s')) (hs : CSh T I' J' R s hk ln el) : ∀ s', s' < 6 → CSh T I' J' R s' ((shU sh s hk ln el).1 s') ((shU sh s hk ln el).2.1 s') ((shU sh s hk ln el).2.2 s') := by
  intro s' h6
  show CSh T I' J' R s' (va_up sh.1 s hk s') (va_up sh.2.1 s ln s') (va_up sh.2.2 s el s')
  by_cases e : s' = s
  · subst e
    rw [up_self, up_self, up_self]
    exact hs
  · rw [up_ne _ _ e, up_ne _ _ e, up_ne _ _ e]
    exact CSh_f2 (h s' h6) (h1 s' h6 e) (h2 s' h6 e)
theorem MSh_all (h : ∀ s, s < 6 → MSh I J s (sh.1 s) (sh.2.1 s) (sh.2.2 s)) (h1 : ∀ s', s' < 6 → s' ≠ s → I' 75 s' = I 75 s' ∧ I' 76 s' = I 76 s') (h2 : ∀ s', s' < 6 → s' ≠ s → ∀ i, i < 60 → J' 77 (60 * s' + i) = J 77 (60 * s' + i)) (hs : MSh I' J' s hk ln el) : ∀ s', s' < 6 → MSh I' J' s' ((shU sh s hk ln el).1 s') ((shU sh s hk ln el).2.1 s') ((shU sh s hk ln el).2.2 s') := by
  intro s' h6
  show MSh I' J' s' (va_up sh.1 s hk s') (va_up sh.2.1 s ln s') (va_up sh.2.2 s el s')
  by_cases e : s' = s
  · subst e
    rw [up_self, up_self, up_self]
    exact hs
  · rw [up_ne _ _ e, up_ne _ _ e, up_ne _ _ e]
    obtain ⟨a1, a2, a3, a4⟩ := h s' h6
    obtain ⟨b1, b2⟩ := h1 s' h6 e
    exact ⟨by rw [b1]; exact a1, by rw [b2]; exact a2, a3, fun i hi => by rw [h2 s' h6 e i (by omega)]; exact a4 i hi⟩
/-- only the SHELVES have changed, on both sides -/
theorem Rel_sh (hT : T.length ≤ 600000 ∧ rSl T ≤ 7302250) (hb : b ≠ b2 ∧ (b = 27 ∨ b = 30)) (hH : HS T I R b n l r) (hC : CA T I J R b2 sh ld im tp ch st) (hM : MS T I R n l r) (hA : MA I J sh ld im tp ch st) (hP : PA n r sh im tp ch st) (h1 : ∀ x, ¬ (42 ≤ x ∧ x ≤ 53) → I1 x = I x) (hc : ∀ s, s < 6 → CSh T I1 J1 R s (sh'.1 s) (sh'.2.1 s) (sh'.2.2 s)) (h2 : ∀ x, x ≠ 75 → x ≠ 76 → I2 x = I1 x) (j2 : ∀ x, x ≠ 77 → J2 x = J1 x) (hm : ∀ s, s < 6 → MSh I2 J2 s (sh'.1 s) (sh'.2.1 s) (sh'.2.2 s)) (ho : okSh sh' st) : Rl (T, I2, J2, R) := by
  obtain ⟨⟨a1, a2⟩, a3, a4, a5, a6, a7, a8, a9⟩ := hC
  obtain ⟨m1, m2, m3, m4, m5, m6⟩ := hA
  obtain ⟨f1, f2, f3, f4, f5, f6⟩ := hP
  have bb := hb.2
  have al : ∀ x, x < 42 ∨ (54 ≤ x ∧ x ≤ 74) ∨ 77 ≤ x → I2 x = I x := fun x hx => by rw [h2 x (by omega) (by omega), h1 x (by omega)]
  have s54 : I2 54 = I 54 := al 54 (by omega)
  exact ⟨hT.1, hT.2, b, b2, n, l, r, sh', ld, im, tp, ch, st, hb, HS_f2 hH (fun x hx => al x (by omega)), ⟨⟨a1, fun s hs => CSh_f2 (hc s hs) (h2 _ (by omega) (by omega)) (j2 _ (by omega))⟩, CLd_f a3 (al _ (by omega)), CIm_f a4 (fun x hx => al _ (by omega)), CTp_f a5 (al _ (by omega)) (al _ (by omega)), CCh_f a6 (fun x hx => al _ (by omega)), CSt_f a7 (fun x hx => al x (by omega)), a8, a9⟩, MS_fr hM (fun x hx => al x (by omega)), ⟨hm, fun i hi => by show I2 69 i = _; rw [al 69 (by omega)]; exact m2 i hi, MIm_f m3 (congrFun s54 _) (congrFun s54 _) (al _ (by omega)) (al _ (by omega)), MTp_f m4 (congrFun s54 _) (al _ (by omega)), MCh_f m5 (congrFun s54 _) (congrFun s54 _) (al _ (by omega)), MSt_f m6 (congrFun s54 _) (congrFun s54 _) (al _ (by omega)) (al _ (by omega))⟩, f1, f2, f3, f4, ho, f6⟩
theorem c_hasG (h : CSt T I R st) (ho : okSt st) (k : Q (some (.int (if isR st.1 v = true then 1 else 0))) (T, I, J, R)) : Ex X d mX5_has 0 [.ref 38, .int v] [] (T, I, J, R) Q := by
  obtain ⟨s1, s2, s3, s4, s5, s6⟩ := h
  simp only [gX5_has_0, gX5_has_4, s2.1, true_and, s3]
  unfold isR at k
  by_cases g1 : v < 0
  · simpa [g1, gX5_has_16, gX5_has_17] using k
  · by_cases g2 : nI st.1 ≤ v
    · simpa [g1, g2, gX5_has_16, gX5_has_17] using k
    · simpa [g1, g2, gX5_has_12, gX5_has_17] using k
def kpP (st : tSt) (s w : Int32) : Prop := inB s 0 5 = true ∧ (w = -1 ∨ isR st.1 w = true)
def kpB (st : tSt) (s w : Int32) : Bool := inB s 0 5 && (decide (w = -1) || isR st.1 w)
def kpZ (st : tSt) (s w : Int32) : Int32 := if kpB st s w = true then 1 else -1
def kpS (sh : tSh) (st : tSt) (s w : Int32) : tSh := if kpB st s w = true then shU sh s.toNatClampNeg (if w = -1 then -1 else 10 + w) 0 (fun _ => 0) else sh
theorem c_keep {s : Int32} (h0 : T[0]? = some (3, 6)) (hS : HSh T R ∧ ∀ s, s < 6 → CSh T I J R s (sh.1 s) (sh.2.1 s) (sh.2.2 s)) (h : CSt T I R st) (ho : okSt st) (k : ∀ I' : tI, (∀ x, ¬ (42 ≤ x ∧ x ≤ 53) → I' x = I x) → (∀ i, i < 6 → CSh T I' J R i ((kpS sh st s w).1 i) ((kpS sh st s w).2.1 i) ((kpS sh st s w).2.2 i)) → Q (some (.int (kpZ st s w))) (T, I', J, R)) : Ex X (d + 3) mX6_keep 0 [.ref 0, .int s, .int w] [] (T, I, J, R) Q := by
  obtain ⟨⟨t41, r11, r41⟩, hSa⟩ := hS
  obtain ⟨s1, s2, s3, s4, s5, s6⟩ := id h
  unfold kpZ kpS at k
  have bad : kpB st s w = false → Ex X (d + 3) mX6_keep 23 [.ref 0, .int s, .int w] [] (T, I, J, R) Q := by
    intro c
    rw [if_neg (by rw [c]; simp), if_neg (by rw [c]; simp)] at k
    simp only [gX6_keep_23]
    exact k I (fun _ _ => rfl) hSa
  simp only [gX6_keep_0]
  refine c_isShelf ?_
  simp only [Option.toList_some, List.cons_append, List.nil_append, gX6_keep_4, if10]
  cases g1 : inB s 0 5 with
  | false =>
    simp only [if_true]
    exact bad (by unfold kpB; rw [g1]; rfl)
  | true =>
    obtain ⟨i, hi, rfl⟩ := inB_5 g1
    have ci : (nI i).toNatClampNeg = i := nI_clamp (by omega)
    obtain ⟨e0, e1, e2, e3⟩ := id (hSa i hi)
    rw [ci] at k
    simp only [reduceCtorEq, if_false, gX6_keep_7]
    by_cases e : w = -1
    · have kb : kpB st (nI i) w = true := by unfold kpB; rw [g1, e]; rfl
      rw [if_pos kb, if_pos kb, if_pos e] at k
      simp only [e, if_true, gX6_keep_25, ne_eq, not_true_eq_false, if_false, gX6_keep_30, h0, true_and, r11, rf_some, rIn_at t41 hi (by decide), ci, r41 i hi, e0, gX4_holdNothing_0, Option.toList_none, List.nil_append, gX6_keep_39, gX6_keep_52]
      refine k _ (fun x hx => up_ne _ _ (by omega)) ?_
      refine CSh_all hSa (fun s' h6 hne => up_ne _ _ (by omega)) (fun _ _ _ => rfl) ⟨e0, e1, e2, Or.inl ⟨rfl, by rw [up_self, up_self]⟩⟩
    · simp only [e, if_false, gX6_keep_12, h0, true_and, s1, rf_some, s2.1]
      refine c_hasG h ho ?_
      simp only [Option.toList_some, List.cons_append, List.nil_append, gX6_keep_20, ne_eq, if10]
      cases g2 : isR st.1 w with
      | false =>
        simp only [not_true_eq_false, if_false]
        exact bad (by unfold kpB; rw [g2, decide_eq_false e, Bool.or_self, Bool.and_false])
      | true =>
        have kb : kpB st (nI i) w = true := by unfold kpB; rw [g1, g2, Bool.or_true]; rfl
        rw [if_pos kb, if_pos kb, if_neg e] at k
        obtain ⟨j, hj, rfl⟩ := isR_g g2 (by have := ho.1; omega)
        have ho1 := ho.1
        simp only [reduceCtorEq, not_false_eq_true, if_true, gX6_keep_25, ne_eq, e, gX6_keep_42, h0, true_and, r11, rf_some, rIn_at t41 hi (by decide), ci, r41 i hi, e0, gX4_holdStep_0, Option.toList_none, List.nil_append, gX6_keep_52]
        refine k _ (fun x hx => by rw [up_ne _ _ (by omega), up_ne _ _ (by omega)]) ?_
        refine CSh_all hSa (fun s' h6 hne => by rw [up_ne _ _ (by omega), up_ne _ _ (by omega)]) (fun _ _ _ => rfl) ⟨e0, e1, e2, Or.inr (Or.inr ⟨j, by omega, nI_add 10 j, ?_, ?_⟩)⟩
        · rw [up_self, up_ne _ _ (by decide), up_self, up_self]
        · rw [up_self, up_self]
theorem inB_m1 {n : Nat} (hn : n < 2 ^ 30) (v : Int32) : inB v (-1) (nI n - 1) = (decide (v = -1) || isR n v) := by
  unfold inB isR
  have hs : (nI n - 1).toInt = (n : Int) - 1 := pk_sub_toInt (b := 1) hn (by decide)
  rw [← Bool.decide_or]
  apply decide_eq_decide.mpr
  rw [Int32.lt_iff_toInt_lt, Int32.lt_iff_toInt_lt, Int32.lt_iff_toInt_lt, Int32.le_iff_toInt_le, hs, nI_toInt (by omega), show (-1 : Int32).toInt = -1 by decide, show (0 : Int32).toInt = 0 by decide, ← Int32.toInt_inj, show (-1 : Int32).toInt = -1 by decide]
  omega
theorem m_keep {s : Int32} (hm : IsMod T R) (hS : ∀ s, s < 6 → MSh I J s (sh.1 s) (sh.2.1 s) (sh.2.2 s)) (h : MSt I st) (ho : okSt st) (k : ∀ I' : tI, (∀ x, x ≠ 75 → x ≠ 76 → I' x = I x) → (∀ i, i < 6 → MSh I' J i ((kpS sh st s w).1 i) ((kpS sh st s w).2.1 i) ((kpS sh st s w).2.2 i)) → Q (some (.int (kpZ st s w))) (T, I', J, R)) : Ex X (d + 3) mX7_keep 0 [.ref 54, .int s, .int w] [] (T, I, J, R) Q := by
  have t0 := mt_54 hm
  have s3 := h.1
  have ho1 := ho.1
  unfold kpZ kpS at k
  have bad : kpB st s w = false → Ex X (d + 3) mX7_keep 21 [.ref 54, .int s, .int w] [] (T, I, J, R) Q := by
    intro c
    rw [if_neg (by rw [c]; simp), if_neg (by rw [c]; simp)] at k
    simp only [gX7_keep_21]
    exact k I (fun _ _ _ => rfl) hS
  simp only [gX7_keep_0]
  refine m_isShelf ?_
  simp only [Option.toList_some, List.cons_append, List.nil_append, gX7_keep_4, if10]
  cases g1 : inB s 0 5 with
  | false =>
    simp only [if_true]
    exact bad (by unfold kpB; rw [g1]; rfl)
  | true =>
    obtain ⟨i, hi, rfl⟩ := inB_5 g1
    have ci : (nI i).toNatClampNeg = i := nI_clamp (by omega)
    rw [ci] at k
    simp only [reduceCtorEq, if_false, gX7_keep_7, t0, true_and, s3]
    refine s_within ?_
    rw [inB_m1 (by omega)]
    simp only [Option.toList_some, List.cons_append, List.nil_append, gX7_keep_18, ne_eq, if10]
    have ek : kpB st (nI i) w = (decide (w = -1) || isR st.1 w) := by unfold kpB; rw [g1]; rfl
    cases g2 : (decide (w = -1) || isR st.1 w) with
    | false =>
      simp only [not_true_eq_false, if_false]
      exact bad (by rw [ek]; exact g2)
    | true =>
      have kb : kpB st (nI i) w = true := by rw [ek]; exact g2
      rw [if_pos kb, if_pos kb] at k
      simp only [reduceCtorEq, not_false_eq_true, if_true, gX7_keep_23, t0, true_and, mr_34 hm, rf_some]
      have i75 : rIn T 75 0 (nI i) := rIn_at (mt_75 hm) hi (by decide)
      have i76 : rIn T 76 0 (nI i) := rIn_at (mt_76 hm) hi (by decide)
      have fin : ∀ c : Int32, c = (if w = -1 then -1 else 10 + w) → Ex X (d + 3) mX7_keep 40 [.ref 54, .int (nI i), .int w] [.int c, .int (nI i), .ref 75] (T, I, J, R) Q := by
        intro c hc
        simp only [gX7_keep_40, i75, true_and, ci, t0, mr_35 hm, rf_some, i76]
        refine k _ (fun x x1 x2 => by rw [up_ne _ _ x2, up_ne _ _ x1]) ?_
        rw [← hc]
        refine MSh_all hS (fun s' h6 hne => ⟨by rw [up_ne _ _ (by decide), up_self, up_ne _ _ hne], by rw [up_self, up_ne _ _ hne, up_ne _ _ (by decide)]⟩) (fun _ _ _ _ _ => rfl) ⟨by rw [up_ne _ _ (by decide), up_self, up_self], by rw [up_self, up_self]; rfl, by omega, fun j hj => absurd hj (Nat.not_lt_zero j)⟩
      by_cases e : w = -1
      · have := fin (-1) (by rw [if_pos e])
        rw [e] at this
        simp only [e, show ¬ (0 : Int32) ≤ -1 by decide, if_false, gX7_keep_32]
        exact this
      · have g3 : isR st.1 w = true := by
          rw [decide_eq_false e, Bool.false_or] at g2
          exact g2
        have ge : 0 ≤ w := Int32.not_lt.mp (of_decide_eq_true g3).1
        simp only [ge, if_true, gX7_keep_36]
        exact fin (10 + w) (by rw [if_neg e])
theorem j_keep {s : Int32} : Jn X (d + 50) (d + 50) mX6_keep [.ref 0, .int s, .int w] mX7_keep [.ref 54, .int s, .int w] := by
  rintro T I J R ⟨ht1, ht2, b, b2, n, l, r, sh, ld, im, tp, ch, st, hb, hH, hC, hM, hA, hP⟩
  have ho := hP.2.2.2.1
  have ho1 := ho.1
  have hos := hP.2.2.2.2.1
  refine ⟨kpZ st s w, c_keep (d := d + 47) hH.1 hC.1 hC.2.2.2.2.2.1 ho (fun I1 h1 hc => ⟨rfl, rfl, ?_⟩)⟩
  refine m_keep (d := d + 47) hM.1 (fun s hs => MSh_f (hA.1 s hs) (h1 75 (by omega)) (h1 76 (by omega)) rfl) (MSt_f hA.2.2.2.2.2 (by rw [h1 54 (by omega)]) (by rw [h1 54 (by omega)]) (h1 73 (by omega)) (h1 74 (by omega))) ho (fun I2 h2 hm => ⟨rfl, ?_⟩)
  refine Rel_sh ⟨ht1, ht2⟩ hb hH hC hM hA hP h1 hc h2 (fun _ _ => rfl) hm (fun i hi q hq e => ?_)
  unfold kpS at e
  by_cases c : kpB st s w = true
  · rw [if_pos c] at e
    have e' : va_up sh.1 s.toNatClampNeg (if w = -1 then -1 else 10 + w) i = nI (10 + q) := e
    by_cases ei : i = s.toNatClampNeg
    · rw [ei, up_self] at e'
      by_cases ew : w = -1
      · rw [if_pos ew] at e'
        exact absurd e'.symm (sh_10 ⟨q, hq⟩).1
      · rw [if_neg ew] at e'
        have g3 : isR st.1 w = true := by
          unfold kpB at c
          rw [Bool.and_eq_true, decide_eq_false ew, Bool.false_or] at c
          exact c.2
        obtain ⟨j, hj, rfl⟩ := isR_g g3 (by omega)
        rw [show (10 : Int32) + nI j = nI (10 + j) from nI_add 10 j, nI_eq (by omega) (by omega)] at e'
        omega
    · rw [up_ne _ _ ei] at e'
      exact hos i hi q hq e'
  · rw [if_neg c] at e
    exact hos i hi q hq e
end D4
