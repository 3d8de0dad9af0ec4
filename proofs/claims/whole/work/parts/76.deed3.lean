/-! PURE: act joined -/
def ppK (n κ a : Nat) : tP := if a = 0 then pfK n κ else if a = 1 then psK n κ κ else if a = 2 then pdK n κ κ else ptK n κ κ
theorem lf_ (n k : Nat) (x : Int32) : (pfK n k x).2.length ≤ 2 := by
  unfold pfK
  split
  · exact Nat.le_refl 2
  · split
    · exact Nat.le_refl 2
    · show 1 ≤ 2
      decide
theorem ld_ (n κ k : Nat) (x : Int32) : (pdK n κ k x).2.length ≤ 4 := by
  unfold pdK
  split
  · show 2 ≤ 4; decide
  · split
    · show (([11] : List Int32) ++ (pfK n κ 2).2).length + 1 ≤ 4
      rw [List.length_append]
      have := lf_ n κ 2
      show 1 + _ + 1 ≤ 4
      omega
    · show 1 ≤ 4; decide
theorem ls_ (n κ k : Nat) (x : Int32) : (psK n κ k x).2.length ≤ 10 := by
  have l0 : ∀ x, (ps0 n κ x).2.length ≤ 3 := fun x => Nat.succ_le_succ (lf_ n κ x)
  unfold psK
  split
  · exact Nat.le_trans (Nat.succ_le_succ (l0 x)) (by decide)
  · split
    · exact Nat.le_trans (Nat.succ_le_succ (Nat.succ_le_succ (l0 (x + 1)))) (by decide)
    · split
      · show ((ps0 n κ x).2 ++ (pdK n κ κ 2).2).length + 1 ≤ 10
        rw [List.length_append]
        have := l0 x
        have := ld_ n κ κ 2
        omega
      · exact Nat.le_trans (l0 x) (by decide)
theorem lt_ (n κ k : Nat) (x : Int32) : (ptK n κ k x).2.length ≤ 20 := by
  have l0 : (pt0 n κ x).2.length ≤ 15 := by
    show ((psK n κ κ x).2 ++ (pdK n κ κ 1).2).length + 1 ≤ 15
    rw [List.length_append]
    have := ls_ n κ κ x
    have := ld_ n κ κ 1
    omega
  unfold ptK
  split
  · exact Nat.le_trans (Nat.succ_le_succ l0) (by decide)
  · split
    · exact Nat.le_trans (Nat.succ_le_succ l0) (by decide)
    · exact Nat.le_trans l0 (by decide)
theorem lp_ (n κ a : Nat) (x : Int32) : (ppK n κ a x).2.length ≤ 20 := by
  unfold ppK
  split
  · exact Nat.le_trans (lf_ _ _ _) (by decide)
  · split
    · exact Nat.le_trans (ls_ _ _ _ _) (by decide)
    · split
      · exact Nat.le_trans (ld_ _ _ _ _) (by decide)
      · exact lt_ _ _ _ _
theorem wr_lo : ∀ (t : List Int32) (f : Nat → Int32) (q j : Nat), j < q → wrT f q t j = f j
  | [], _, _, _, _ => rfl
  | c :: t, f, q, j, h => by
    show wrT (if q < 24 then va_up f q c else f) (q + 1) t j = f j
    rw [wr_lo t _ (q + 1) j (by omega)]
    split
    · exact up_ne _ _ (by omega)
    · rfl
theorem wr_at : ∀ (t : List Int32) (f g : Nat → Int32) (q j : Nat), q ≤ j → j < q + t.length → j < 24 → wrT f q t j = wrT g q t j
  | [], _, _, q, j, h1, h2, _ => by
    have : j < q + 0 := h2
    omega
  | c :: t, f, g, q, j, h1, h2, h3 => by
    show wrT (if q < 24 then va_up f q c else f) (q + 1) t j = wrT (if q < 24 then va_up g q c else g) (q + 1) t j
    have h2' : j < q + (t.length + 1) := h2
    by_cases e : j = q
    · subst e
      rw [wr_lo t _ (j + 1) j (by omega), wr_lo t _ (j + 1) j (by omega), if_pos h3, if_pos h3, up_self, up_self]
    · exact wr_at t _ _ (q + 1) j (by omega) (by omega) h3
section D3
variable {X : tX} {T : tT} {I I' I1 I2 : tI} {J J' : tJ} {R R' : tR} {Q : tQ} {d b b2 n L0 : Nat} {xs : Nat → Int32} {l : tL} {r : Nat → Nat → Int32} {sh : tSh} {ld : Nat → Int32} {im : tIm} {tp : tTp} {ch : tCh} {st : tSt} {v w x : Int32}
def actP (st : tSt) (v w x : Int32) : Int32 × List Int32 := if isR st.1 v = true ∧ inB w 0 3 = true then ppK v.toNatClampNeg (st.2.1 v.toNatClampNeg) w.toNatClampNeg x else (0, [])
def actSt (st : tSt) (v w x : Int32) : tSt := (st.1, st.2.1, (actP st v w x).2.length, wrT (fun _ => 0) 0 (actP st v w x).2)
theorem c_act (h0 : T[0]? = some (3, 6)) (h : CSt T I R st) (ho : okSt st) (k : ∀ I' : tI, (∀ x, x ≠ 38 → x ≠ 40 → I' x = I x) → CSt T I' R (actSt st v w x) → Q (some (.int (actP st v w x).1)) (T, I', J, R)) : Ex (rX L0 xs) (d + 20) mX6_act 0 [.ref 0, .int v, .int w, .int x] [] (T, I, J, R) Q := by
  obtain ⟨s1, s2, s3, s4, s5, s6⟩ := h
  obtain ⟨u0, u39, u40, v0, v1⟩ := id s2
  obtain ⟨o1, o2, o3⟩ := ho
  simp only [gX6_act_0, h0, true_and, s1, rf_some, u0, gX5_begin_0, gX5_has_0, gX5_has_4, up_self, up_ne _ _ (show (2 : Nat) ≠ 3 by decide), s3]
  generalize hI1 : va_up I 38 (va_up (I 38) 3 0) = I1
  have g1 : ∀ x, x ≠ 38 → I1 x = I x := fun x hx => by rw [← hI1, up_ne _ _ hx]
  have g2 : ∀ i, i ≠ 3 → I1 38 i = I 38 i := fun i hi => by rw [← hI1, up_self, up_ne _ _ hi]
  have g3 : I1 38 3 = nI 0 := by rw [← hI1, up_self, up_self]; rfl
  have fin : ∀ (t : List Int32) (I2 : tI), eC I1 I2 0 t → CSt T I2 R (st.1, st.2.1, t.length, wrT (fun _ => 0) 0 t) := fun t I2 e => by
    obtain ⟨e1, e2, e3, e4⟩ := e
    refine ⟨s1, s2, by rw [e2 2 (by decide), g2 2 (by decide)]; exact s3, fun j hj => by rw [e1 39 (by decide) (by decide), g1 39 (by decide)]; exact s4 j hj, by rw [e3, Nat.zero_add], fun j j1 j2 => ?_⟩
    rw [e4]
    exact wr_at t _ _ 0 j (by omega) (by rw [Nat.zero_add]; exact j2) j1
  have bad : ¬ (isR st.1 v = true ∧ inB w 0 3 = true) → Ex (rX L0 xs) (d + 19) mX5_begin 37 [.ref 38, .int v, .int w, .int x] [] (T, I1, J, R) (fun v1 σ1 => Ex (rX L0 xs) (d + 20) mX6_act 10 [.ref 0, .int v, .int w, .int x] (v1.toList ++ []) σ1 Q) := by
    intro c
    simp only [gX5_begin_37, gX5_begin_38, Option.toList_some, List.cons_append, List.nil_append, gX6_act_10]
    have e : actP st v w x = (0, []) := by unfold actP; rw [if_neg c]
    unfold actSt at k
    rw [e] at k
    exact k I1 (fun x x1 _ => g1 x x1) (fin [] I1 ⟨fun _ _ _ => rfl, fun _ _ => rfl, g3, rfl⟩)
  cases cv : isR st.1 v with
  | false =>
    have nv := of_decide_eq_false cv
    have b' := bad (fun z => absurd z.1 (by rw [cv]; simp))
    by_cases w1 : v < 0
    · simp only [w1, if_true, gX5_has_16, gX5_has_17, true_or, true_and, Option.toList_some, List.cons_append, List.nil_append, gX5_begin_10]
      exact b'
    · have w2 : nI st.1 ≤ v := Classical.byContradiction fun z => nv ⟨w1, z⟩
      simp only [w1, if_false, w2, if_true, gX5_has_16, gX5_has_17, true_or, true_and, Option.toList_some, List.cons_append, List.nil_append, gX5_begin_10]
      exact b'
  | true =>
    obtain ⟨w1, w2⟩ := of_decide_eq_true cv
    simp only [w1, if_false, w2, gX5_has_12, gX5_has_17, or_true, true_and, Option.toList_some, List.cons_append, List.nil_append, gX5_begin_10, show ¬ (1 : Int32) = 0 by decide, gX5_begin_13, gX5_isAct_0, gX5_isAct_4]
    have e4 : (4 : Int32) ≤ w ↔ 3 < w := by
      rw [Int32.le_iff_toInt_le, Int32.lt_iff_toInt_lt, show (4 : Int32).toInt = 4 by decide, show (3 : Int32).toInt = 3 by decide]
      omega
    simp only [e4]
    cases cw : inB w 0 3 with
    | false =>
      have nw := of_decide_eq_false cw
      have b' := bad (fun z => absurd z.2 (by rw [cw]; simp))
      by_cases y1 : w < 0
      · simp only [y1, if_true, gX5_isAct_13, gX5_isAct_14, true_or, true_and, Option.toList_some, List.cons_append, List.nil_append, gX5_begin_17]
        exact b'
      · have y2 : 3 < w := Classical.byContradiction fun z => nw ⟨y1, z⟩
        simp only [y1, if_false, y2, if_true, gX5_isAct_13, gX5_isAct_14, true_or, true_and, Option.toList_some, List.cons_append, List.nil_append, gX5_begin_17]
        exact b'
    | true =>
      obtain ⟨y1, y2⟩ := of_decide_eq_true cw
      obtain ⟨i, hi, rfl⟩ := isR_g cv (by omega)
      obtain ⟨a, ha, rfl⟩ := inB_n (m := 3) (by decide) cw
      have ci : (nI i).toNatClampNeg = i := nI_clamp (by omega)
      have eP : actP st (nI i) (nI a) x = ppK i (st.2.1 i) a x := by
        unfold actP
        rw [if_pos ⟨cv, cw⟩, ci, nI_clamp (by omega)]
      have hκ : I1 39 i = nI (st.2.1 i) := by rw [g1 39 (by decide)]; exact s4 i hi
      have hκ8 := o2 i hi
      simp only [y1, if_false, y2, gX5_isAct_9, gX5_isAct_14, or_true, true_and, Option.toList_some, List.cons_append, List.nil_append, gX5_begin_17, show ¬ (1 : Int32) = 0 by decide, gX5_begin_20, u0, v0, rf_some, rIn_at u39 (show i < 50 by omega) (by decide), ci, hκ]
      unfold actSt at k
      rw [eP] at k
      have hl := lp_ i (st.2.1 i) a x
      have go : aC L0 xs (d + 15 + 3) T J R i (st.2.1 i) 32 a (st.2.1 i) (ppK i (st.2.1 i) a) := by
        have ha' : a = 0 ∨ a = 1 ∨ a = 2 ∨ a = 3 := by omega
        rcases ha' with rfl | rfl | rfl | rfl
        · exact fun I q e sz x Q hq hl he => c_fK (d := d + 13) s2 hκ8 I q e sz x Q hq hl (by omega)
        · exact fun I q e sz x Q hq hl he => c_sK (d := d + 7) s2 hκ8 hκ8 I q e sz x Q hq hl (by omega)
        · exact fun I q e sz x Q hq hl he => c_dK (d := d + 11) s2 hκ8 hκ8 I q e sz x Q hq hl (by omega)
        · exact c_tK (d := d + 3) s2 hκ8 hκ8
      refine go I1 0 0 st.1 x _ g3 (by omega) (by omega) (by rw [g2 2 (by decide)]; exact s3) hi o1 hκ (fun I2 e2 => ?_)
      simp only [Option.toList_some, List.cons_append, List.nil_append, gX5_begin_34, gX5_begin_38, gX6_act_10]
      exact k I2 (fun x x1 x2 => by rw [e2.1 x x1 x2, g1 x x1]) (fin _ I2 e2)
theorem m_act (hm : IsMod T R) (h : MSt I st) (ho : okSt st) (k : ∀ I' : tI, (∀ x, x ≠ 54 → x ≠ 74 → I' x = I x) → (∀ i, i ≠ 32 → I' 54 i = I 54 i) → MSt I' (actSt st v w x) → Q (some (.int (actP st v w x).1)) (T, I', J, R)) : Ex X (d + 20) mX7_act 0 [.ref 54, .int v, .int w, .int x, rU] [] (T, I, J, R) Q := by
  have t0 := mt_54 hm
  obtain ⟨s3, s4, s5, s6⟩ := h
  obtain ⟨o1, o2, o3⟩ := ho
  simp only [gX7_act_0, t0, true_and, up_self, up_ne _ _ (show (30 : Nat) ≠ 32 by decide), s3]
  generalize hI1 : va_up I 54 (va_up (I 54) 32 0) = I1
  have g1 : ∀ x, x ≠ 54 → I1 x = I x := fun x hx => by rw [← hI1, up_ne _ _ hx]
  have g2 : ∀ i, i ≠ 32 → I1 54 i = I 54 i := fun i hi => by rw [← hI1, up_self, up_ne _ _ hi]
  have g3 : I1 54 32 = nI 0 := by rw [← hI1, up_self, up_self]; rfl
  have fin : ∀ (t : List Int32) (I2 : tI), eM I1 I2 0 t → MSt I2 (st.1, st.2.1, t.length, wrT (fun _ => 0) 0 t) := fun t I2 e => by
    obtain ⟨e1, e2, e3, e4⟩ := e
    refine ⟨by rw [e2 30 (by decide), g2 30 (by decide)]; exact s3, fun j hj => by rw [e1 73 (by decide) (by decide), g1 73 (by decide)]; exact s4 j hj, by rw [e3, Nat.zero_add], fun j j1 j2 => ?_⟩
    rw [e4]
    exact wr_at t _ _ 0 j (by omega) (by rw [Nat.zero_add]; exact j2) j1
  have bad : ¬ (isR st.1 v = true ∧ inB w 0 3 = true) → Ex X (d + 20) mX7_act 28 [.ref 54, .int v, .int w, .int x, rU] [] (T, I1, J, R) Q := by
    intro c
    simp only [gX7_act_28]
    have e : actP st v w x = (0, []) := by unfold actP; rw [if_neg c]
    unfold actSt at k
    rw [e] at k
    exact k I1 (fun x x1 _ => g1 x x1) g2 (fin [] I1 ⟨fun _ _ _ => rfl, fun _ _ => rfl, g3, rfl⟩)
  refine s_within ?_
  rw [inB_Rg (by omega)]
  simp only [Option.toList_some, List.cons_append, List.nil_append, gX7_act_16, if10]
  cases cv : isR st.1 v with
  | false =>
    simp only [if_true]
    exact bad (fun z => absurd z.1 (by rw [cv]; simp))
  | true =>
    simp only [reduceCtorEq, if_false, gX7_act_19]
    refine s_within ?_
    simp only [Option.toList_some, List.cons_append, List.nil_append, gX7_act_25, ne_eq, if10]
    cases cw : inB w 0 3 with
    | false =>
      simp only [not_true_eq_false, if_false]
      exact bad (fun z => absurd z.2 (by rw [cw]; simp))
    | true =>
      obtain ⟨i, hi, rfl⟩ := isR_g cv (by omega)
      obtain ⟨a, ha, rfl⟩ := inB_n (m := 3) (by decide) cw
      have ci : (nI i).toNatClampNeg = i := nI_clamp (by omega)
      have eP : actP st (nI i) (nI a) x = ppK i (st.2.1 i) a x := by
        unfold actP
        rw [if_pos ⟨cv, cw⟩, ci, nI_clamp (by omega)]
      have hκ : I1 73 i = nI (st.2.1 i) := by rw [g1 73 (by decide)]; exact s4 i hi
      have hκ8 := o2 i hi
      have hl := lp_ i (st.2.1 i) a x
      unfold actSt at k
      rw [eP] at k
      simp only [reduceCtorEq, not_false_eq_true, if_true, gX7_act_30, t0, true_and, mr_31 hm, rf_some, rIn_at (mt_73 hm) (show i < 50 by omega) (by decide), ci, hκ, ne_eq]
      have ret : ∀ (p : tP) (I2 : tI), p = ppK i (st.2.1 i) a → eM I1 I2 0 (p x).2 → Ex X (d + 20) mX7_act 93 [.ref 54, .int (nI i), .int (nI a), .int x, .int (nI (st.2.1 i))] [.int (p x).1] (T, I2, J, R) Q := by
        intro p I2 hp e2
        simp only [gX7_act_93]
        rw [hp] at e2 ⊢
        exact k I2 (fun x x1 x2 => by rw [e2.1 x x1 x2, g1 x x1]) (fun j hj => by rw [e2.2.1 j hj, g2 j hj]) (fin _ I2 e2)
      have ha' : a = 0 ∨ a = 1 ∨ a = 2 ∨ a = 3 := by omega
      rcases ha' with rfl | rfl | rfl | rfl
      · simp only [show nI 0 = 0 by decide, not_true_eq_false, if_false, gX7_act_42, t0, true_and] at ret ⊢
        refine m_fK (d := d + 15) hm (by omega) hκ8 I1 0 x _ g3 (by have : (pfK i (st.2.1 i) x).2.length ≤ 20 := hl; omega) hκ (fun I2 e2 => ?_)
        simp only [Option.toList_some, List.cons_append, List.nil_append, gX7_act_50]
        exact ret (pfK i (st.2.1 i)) I2 rfl e2
      · simp only [show nI 1 = 1 by decide, show ¬ (1 : Int32) = 0 by decide, not_true_eq_false, not_false_eq_true, if_false, if_true, gX7_act_53, gX7_act_58, t0, true_and, ne_eq] at ret ⊢
        refine m_sK (d := d + 11) hm (by omega) hκ8 hκ8 I1 0 x _ g3 (by have : (psK i (st.2.1 i) (st.2.1 i) x).2.length ≤ 20 := hl; omega) hκ (fun I2 e2 => ?_)
        simp only [Option.toList_some, List.cons_append, List.nil_append, gX7_act_66]
        exact ret (psK i (st.2.1 i) (st.2.1 i)) I2 rfl e2
      · simp only [show nI 2 = 2 by decide, show ¬ (2 : Int32) = 0 by decide, show ¬ (2 : Int32) = 1 by decide, not_true_eq_false, not_false_eq_true, if_false, if_true, gX7_act_53, gX7_act_69, gX7_act_74, t0, true_and, ne_eq] at ret ⊢
        refine m_dK (d := d + 13) hm (by omega) hκ8 hκ8 I1 0 x _ g3 (by have : (pdK i (st.2.1 i) (st.2.1 i) x).2.length ≤ 20 := hl; omega) hκ (fun I2 e2 => ?_)
        simp only [Option.toList_some, List.cons_append, List.nil_append, gX7_act_82]
        exact ret (pdK i (st.2.1 i) (st.2.1 i)) I2 rfl e2
      · simp only [show nI 3 = 3 by decide, show ¬ (3 : Int32) = 0 by decide, show ¬ (3 : Int32) = 1 by decide, show ¬ (3 : Int32) = 2 by decide, not_false_eq_true, if_true, gX7_act_53, gX7_act_69, gX7_act_85, t0, true_and, ne_eq] at ret ⊢
        refine m_tK (d := d + 7) hm (by omega) hκ8 hκ8 I1 0 x _ g3 (by have : (ptK i (st.2.1 i) (st.2.1 i) x).2.length ≤ 20 := hl; omega) hκ (fun I2 e2 => ?_)
        simp only [Option.toList_some, List.cons_append, List.nil_append]
        exact ret (ptK i (st.2.1 i) (st.2.1 i)) I2 rfl e2
theorem j_act : Jn (rX L0 xs) (d + 50) (d + 50) mX6_act [.ref 0, .int v, .int w, .int x] mX7_act [.ref 54, .int v, .int w, .int x, rU] := by
  rintro T I J R ⟨ht1, ht2, b, b2, n, l, r, sh, ld, im, tp, ch, st, hb, hH, hC, hM, hA, hP⟩
  have ho := hP.2.2.2.1
  have hl : (actP st v w x).2.length ≤ 20 := by
    unfold actP
    split
    · exact lp_ _ _ _ _
    · exact Nat.zero_le _
  refine ⟨(actP st v w x).1, c_act (d := d + 30) hH.1 hC.2.2.2.2.2.1 ho (fun I1 h1 hc => ⟨rfl, rfl, ?_⟩)⟩
  refine m_act (d := d + 30) hM.1 (MSt_f hA.2.2.2.2.2 (by rw [h1 54 (by decide) (by decide)]) (by rw [h1 54 (by decide) (by decide)]) (h1 73 (by decide) (by decide)) (h1 74 (by decide) (by decide))) ho (fun I2 h2 h3 hm => ⟨rfl, ?_⟩)
  exact Rel_st1 ⟨ht1, ht2⟩ hb hH hC hM hA hP (fun x x1 _ x2 => h1 x x1 x2) hc (fun x x1 _ x2 => h2 x x1 x2) (fun i _ i1 => h3 i i1) hm ⟨ho.1, ho.2.1, by show (actP st v w x).2.length ≤ 1000; omega⟩ (Nat.le_refl _)
end D3
