/-! PURE: acts, by the reference -/
section AM
variable {X : tX} {T : tT} {I I' I1 I2 : tI} {J : tJ} {R : tR} {Q : tQ} {n κ : Nat} {p : tP}
theorem m_U_flowsBy (hm : IsMod T R) {k d : Nat} (hk : k < 8) (hno : ¬ k = 0 ∧ ¬ k = 1 ∧ ¬ k = 6) (h : aM X d T J R n κ mX7_flowsBy [] (abN k) p) : aM X (d + 1) T J R n κ mX7_flowsBy [] k p := by
  intro I q x Q hq hl hκ kk
  have t0 := mt_54 hm
  obtain ⟨n0, n1, n6⟩ := hno
  have e : ∀ j : Nat, j < 8 → ¬ k = j → ¬ nI k = nI j := fun j hj hn z => hn ((nI_eq (by omega) (by omega)).mp z)
  simp only [gX7_flowsBy_0, sX7_flowsBy_1, show ¬ nI k = 0 from e 0 (by decide) n0, show ¬ nI k = 1 from e 1 (by decide) n1, show ¬ nI k = 6 from e 6 (by decide) n6, if_false, ite_self, gX7_flowsBy_77]
  refine m_above hk ?_
  simp only [Option.toList_some, List.cons_append, List.nil_append, gX7_flowsBy_83, t0, true_and]
  refine h I q x _ hq hl hκ (fun I1 h1 => ?_)
  simp only [Option.toList_some, List.cons_append, List.nil_append, gX7_flowsBy_87]
  exact kk I1 h1
theorem m_U_saysBy (hm : IsMod T R) {k d : Nat} (hk : k < 8) (hno : ¬ k = 0 ∧ ¬ k = 2 ∧ ¬ k = 3 ∧ ¬ k = 7) (h : aM X d T J R n κ mX7_saysBy [rU] (abN k) p) : aM X (d + 1) T J R n κ mX7_saysBy [rU] k p := by
  intro I q x Q hq hl hκ kk
  have t0 := mt_54 hm
  obtain ⟨n0, n2, n3, n7⟩ := hno
  have e : ∀ j : Nat, j < 8 → ¬ k = j → ¬ nI k = nI j := fun j hj hn z => hn ((nI_eq (by omega) (by omega)).mp z)
  simp only [gX7_saysBy_0, sX7_saysBy_1, show ¬ nI k = 0 from e 0 (by decide) n0, show ¬ nI k = 2 from e 2 (by decide) n2, show ¬ nI k = 3 from e 3 (by decide) n3, show ¬ nI k = 7 from e 7 (by decide) n7, if_false, ite_self, gX7_saysBy_131]
  refine m_above hk ?_
  simp only [Option.toList_some, List.cons_append, List.nil_append, gX7_saysBy_137, t0, true_and]
  refine h I q x _ hq hl hκ (fun I1 h1 => ?_)
  simp only [Option.toList_some, List.cons_append, List.nil_append, gX7_saysBy_141]
  exact kk I1 h1
theorem m_U_floodsBy (hm : IsMod T R) {k d : Nat} (hk : k < 8) (hno : ¬ k = 0 ∧ ¬ k = 3 ∧ ¬ k = 4) (h : aM X d T J R n κ mX7_floodsBy [rU] (abN k) p) : aM X (d + 1) T J R n κ mX7_floodsBy [rU] k p := by
  intro I q x Q hq hl hκ kk
  have t0 := mt_54 hm
  obtain ⟨n0, n3, n4⟩ := hno
  have e : ∀ j : Nat, j < 8 → ¬ k = j → ¬ nI k = nI j := fun j hj hn z => hn ((nI_eq (by omega) (by omega)).mp z)
  simp only [gX7_floodsBy_0, sX7_floodsBy_1, show ¬ nI k = 0 from e 0 (by decide) n0, show ¬ nI k = 3 from e 3 (by decide) n3, show ¬ nI k = 4 from e 4 (by decide) n4, if_false, ite_self, gX7_floodsBy_93]
  refine m_above hk ?_
  simp only [Option.toList_some, List.cons_append, List.nil_append, gX7_floodsBy_99, t0, true_and]
  refine h I q x _ hq hl hκ (fun I1 h1 => ?_)
  simp only [Option.toList_some, List.cons_append, List.nil_append, gX7_floodsBy_103]
  exact kk I1 h1
theorem m_U_tells (hm : IsMod T R) {k d : Nat} (hk : k < 8) (hno : ¬ k = 0 ∧ ¬ k = 5 ∧ ¬ k = 7) (h : aM X d T J R n κ mX7_tells [rU] (abN k) p) : aM X (d + 1) T J R n κ mX7_tells [rU] k p := by
  intro I q x Q hq hl hκ kk
  have t0 := mt_54 hm
  obtain ⟨n0, n5, n7⟩ := hno
  have e : ∀ j : Nat, j < 8 → ¬ k = j → ¬ nI k = nI j := fun j hj hn z => hn ((nI_eq (by omega) (by omega)).mp z)
  simp only [gX7_tells_0, sX7_tells_1, show ¬ nI k = 0 from e 0 (by decide) n0, show ¬ nI k = 5 from e 5 (by decide) n5, show ¬ nI k = 7 from e 7 (by decide) n7, if_false, ite_self, gX7_tells_103]
  refine m_above hk ?_
  simp only [Option.toList_some, List.cons_append, List.nil_append, gX7_tells_109, t0, true_and]
  refine h I q x _ hq hl hκ (fun I1 h1 => ?_)
  simp only [Option.toList_some, List.cons_append, List.nil_append, gX7_tells_113]
  exact kk I1 h1
theorem m_f0 (hm : IsMod T R) (hn5 : n < 50) {d : Nat} : aM X (d + 1) T J R n κ mX7_flowsBy [] 0 (pf0 n) := by
  intro I q x Q hq hl hκ kk
  have t0 := mt_54 hm
  have l0 : q + 1 + 0 ≤ q + (pf0 n x).2.length := Nat.add_le_add_left (Nat.succ_le_succ (Nat.zero_le _)) q
  have i73 : rIn T 73 0 (nI n) := rIn_at (mt_73 hm) hn5 (by decide)
  have cn : (nI n).toNatClampNeg = n := nI_clamp (by omega)
  simp only [gX7_flowsBy_0, sX7_flowsBy_1, show nI 0 = 0 by decide, if_true, if_false, gX7_flowsBy_36, t0, true_and]
  refine m_ran hm hq (by omega) (fun I1 h1 => ?_)
  have k1 : I1 73 n = nI κ := by rw [h1.1 73 (by decide) (by decide)]; exact hκ
  simp only [Option.toList_none, List.nil_append, gX7_flowsBy_41, t0, true_and, mr_31 hm, rf_some, i73, cn, k1]
  exact kk I1 h1
theorem m_f1 (hm : IsMod T R) (hn5 : n < 50) {d : Nat} (hy0 : aM X d T J R n κ mX7_flowsBy [] 0 (pf0 n)) : aM X (d + 1) T J R n κ mX7_flowsBy [] 1 (pf1 n) := by
  intro I q x Q hq hl hκ kk
  have t0 := mt_54 hm
  have l0 : q + 1 + 0 ≤ q + (pf1 n x).2.length := Nat.add_le_add_left (Nat.succ_le_succ (Nat.zero_le _)) q
  have i73 : rIn T 73 0 (nI n) := rIn_at (mt_73 hm) hn5 (by decide)
  have cn : (nI n).toNatClampNeg = n := nI_clamp (by omega)
  simp only [gX7_flowsBy_0, sX7_flowsBy_1, show nI 1 = 1 by decide, show ¬ (1 : Int32) = 0 by decide, if_true, if_false, gX7_flowsBy_45, t0, true_and]
  refine m_ran hm hq (by omega) (fun I1 h1 => ?_)
  have k1 : I1 73 n = nI κ := by rw [h1.1 73 (by decide) (by decide)]; exact hκ
  simp only [Option.toList_none, List.nil_append, gX7_flowsBy_51, t0, true_and, mr_31 hm, rf_some, i73, cn, k1]
  have len0 : (pf1 n x).2.length = (pf0 n x).2.length + 1 := rfl
  refine hy0 I1 (q + ([20] : List Int32).length) x _ h1.2.2.1 (by rw [show ([20] : List Int32).length = 1 from rfl]; omega) k1 (fun I2 g0 => ?_)
  have a0 := eM_t h1 g0
  have kf0 : I2 73 n = nI κ := by rw [g0.1 73 (by decide) (by decide)]; exact k1
  simp only [Option.toList_some, List.cons_append, List.nil_append, gX7_flowsBy_58, t0, true_and, mr_31 hm, rf_some, i73, cn, kf0]
  exact kk I2 a0
theorem m_f6 (hm : IsMod T R) (hn5 : n < 50) {d : Nat} (hy0 : aM X d T J R n κ mX7_flowsBy [] 0 (pf0 n)) : aM X (d + 1) T J R n κ mX7_flowsBy [] 6 (pf6 n) := by
  intro I q x Q hq hl hκ kk
  have t0 := mt_54 hm
  have l0 : q + 1 + 0 ≤ q + (pf6 n x).2.length := Nat.add_le_add_left (Nat.succ_le_succ (Nat.zero_le _)) q
  have i73 : rIn T 73 0 (nI n) := rIn_at (mt_73 hm) hn5 (by decide)
  have cn : (nI n).toNatClampNeg = n := nI_clamp (by omega)
  simp only [gX7_flowsBy_0, sX7_flowsBy_1, show nI 6 = 6 by decide, show ¬ (6 : Int32) = 0 by decide, show ¬ (6 : Int32) = 1 by decide, if_true, if_false, gX7_flowsBy_61, t0, true_and]
  refine m_ran hm hq (by omega) (fun I1 h1 => ?_)
  have k1 : I1 73 n = nI κ := by rw [h1.1 73 (by decide) (by decide)]; exact hκ
  simp only [Option.toList_none, List.nil_append, gX7_flowsBy_67, t0, true_and, mr_31 hm, rf_some, i73, cn, k1]
  have len0 : (pf6 n x).2.length = (pf0 n x).2.length + 1 := rfl
  refine hy0 I1 (q + ([70] : List Int32).length) x _ h1.2.2.1 (by rw [show ([70] : List Int32).length = 1 from rfl]; omega) k1 (fun I2 g0 => ?_)
  have a0 := eM_t h1 g0
  have kf0 : I2 73 n = nI κ := by rw [g0.1 73 (by decide) (by decide)]; exact k1
  simp only [Option.toList_some, List.cons_append, List.nil_append, gX7_flowsBy_74, t0, true_and, mr_31 hm, rf_some, i73, cn, kf0]
  exact kk I2 a0
theorem m_d0 (hm : IsMod T R) (hn5 : n < 50) {d : Nat} : aM X (d + 1) T J R n κ mX7_floodsBy [rU] 0 (pd0 n) := by
  intro I q x Q hq hl hκ kk
  have t0 := mt_54 hm
  have l0 : q + 1 + 0 ≤ q + (pd0 n x).2.length := Nat.add_le_add_left (Nat.succ_le_succ (Nat.zero_le _)) q
  have i73 : rIn T 73 0 (nI n) := rIn_at (mt_73 hm) hn5 (by decide)
  have cn : (nI n).toNatClampNeg = n := nI_clamp (by omega)
  simp only [gX7_floodsBy_0, sX7_floodsBy_1, show nI 0 = 0 by decide, if_true, if_false, gX7_floodsBy_36, t0, true_and]
  refine m_ran hm hq (by omega) (fun I1 h1 => ?_)
  have k1 : I1 73 n = nI κ := by rw [h1.1 73 (by decide) (by decide)]; exact hκ
  simp only [Option.toList_none, List.nil_append, gX7_floodsBy_42, t0, true_and, mr_31 hm, rf_some, i73, cn, k1]
  exact kk I1 h1
theorem m_d3 (hm : IsMod T R) (hn5 : n < 50) {d : Nat} (hy0 : aM X d T J R n κ mX7_floodsBy [rU] 2 (pd0 n)) : aM X (d + 1) T J R n κ mX7_floodsBy [rU] 3 (pd3 n) := by
  intro I q x Q hq hl hκ kk
  have t0 := mt_54 hm
  have l0 : q + 1 + 0 ≤ q + (pd3 n x).2.length := Nat.add_le_add_left (Nat.succ_le_succ (Nat.zero_le _)) q
  have i73 : rIn T 73 0 (nI n) := rIn_at (mt_73 hm) hn5 (by decide)
  have cn : (nI n).toNatClampNeg = n := nI_clamp (by omega)
  simp only [gX7_floodsBy_0, sX7_floodsBy_1, show nI 3 = 3 by decide, show ¬ (3 : Int32) = 0 by decide, show ¬ (3 : Int32) = 1 by decide, show ¬ (3 : Int32) = 2 by decide, if_true, if_false, gX7_floodsBy_46, t0, true_and]
  refine m_ran hm hq (by omega) (fun I1 h1 => ?_)
  have k1 : I1 73 n = nI κ := by rw [h1.1 73 (by decide) (by decide)]; exact hκ
  simp only [Option.toList_none, List.nil_append, gX7_floodsBy_52, t0, true_and, mr_31 hm, rf_some, i73, cn, k1]
  have len0 : (pd3 n x).2.length = (pd0 n x).2.length + 1 := rfl
  refine hy0 I1 (q + ([40] : List Int32).length) x _ h1.2.2.1 (by rw [show ([40] : List Int32).length = 1 from rfl]; omega) k1 (fun I2 g0 => ?_)
  have a0 := eM_t h1 g0
  have kf0 : I2 73 n = nI κ := by rw [g0.1 73 (by decide) (by decide)]; exact k1
  simp only [Option.toList_some, List.cons_append, List.nil_append, gX7_floodsBy_59, t0, true_and, mr_31 hm, rf_some, i73, cn, kf0]
  exact kk I2 a0
theorem m_d4 (hm : IsMod T R) (hn5 : n < 50) {d : Nat} (hy0 : aM X d T J R n κ mX7_floodsBy [rU] 1 (pd0 n)) (hy1 : aM X d T J R n κ mX7_flowsBy [] κ (pfK n κ)) : aM X (d + 1) T J R n κ mX7_floodsBy [rU] 4 (pd4 n κ) := by
  intro I q x Q hq hl hκ kk
  have t0 := mt_54 hm
  have l0 : q + 1 + 0 ≤ q + (pd4 n κ x).2.length := Nat.add_le_add_left (Nat.succ_le_succ (Nat.zero_le _)) q
  have i73 : rIn T 73 0 (nI n) := rIn_at (mt_73 hm) hn5 (by decide)
  have cn : (nI n).toNatClampNeg = n := nI_clamp (by omega)
  simp only [gX7_floodsBy_0, sX7_floodsBy_1, show nI 4 = 4 by decide, show ¬ (4 : Int32) = 0 by decide, show ¬ (4 : Int32) = 1 by decide, show ¬ (4 : Int32) = 2 by decide, show ¬ (4 : Int32) = 3 by decide, if_true, if_false, gX7_floodsBy_62, t0, true_and]
  refine m_ran hm hq (by omega) (fun I1 h1 => ?_)
  have k1 : I1 73 n = nI κ := by rw [h1.1 73 (by decide) (by decide)]; exact hκ
  simp only [Option.toList_none, List.nil_append, gX7_floodsBy_68, t0, true_and, mr_31 hm, rf_some, i73, cn, k1]
  have len0 : (pd4 n κ x).2.length = (pd0 n x).2.length + (pfK n κ 2).2.length + 1 := by show ((pd0 n x).2 ++ (pfK n κ 2).2).length + 1 = _; rw [List.length_append]
  refine hy0 I1 (q + ([50] : List Int32).length) x _ h1.2.2.1 (by rw [show ([50] : List Int32).length = 1 from rfl]; omega) k1 (fun I2 g0 => ?_)
  have a0 := eM_t h1 g0
  have kf0 : I2 73 n = nI κ := by rw [g0.1 73 (by decide) (by decide)]; exact k1
  simp only [Option.toList_some, List.cons_append, List.nil_append, gX7_floodsBy_75, t0, true_and, mr_31 hm, rf_some, i73, cn, kf0]
  have len1 : True := trivial
  refine hy1 I2 (q + ([50] ++ (pd0 n x).2).length) 2 _ a0.2.2.1 (by rw [List.length_append, show ([50] : List Int32).length = 1 from rfl]; omega) kf0 (fun I3 g1 => ?_)
  have a1 := eM_t a0 g1
  have kf1 : I3 73 n = nI κ := by rw [g1.1 73 (by decide) (by decide)]; exact kf0
  simp only [Option.toList_some, List.cons_append, List.nil_append, gX7_floodsBy_91, t0, true_and, mr_31 hm, rf_some, i73, cn, kf1]
  exact kk I3 a1
theorem m_s0 (hm : IsMod T R) (hn5 : n < 50) {d : Nat} (hy0 : aM X d T J R n κ mX7_flowsBy [] κ (pfK n κ)) : aM X (d + 1) T J R n κ mX7_saysBy [rU] 0 (ps0 n κ) := by
  intro I q x Q hq hl hκ kk
  have t0 := mt_54 hm
  have l0 : q + 1 + 0 ≤ q + (ps0 n κ x).2.length := Nat.add_le_add_left (Nat.succ_le_succ (Nat.zero_le _)) q
  have i73 : rIn T 73 0 (nI n) := rIn_at (mt_73 hm) hn5 (by decide)
  have cn : (nI n).toNatClampNeg = n := nI_clamp (by omega)
  simp only [gX7_saysBy_0, sX7_saysBy_1, show nI 0 = 0 by decide, if_true, if_false, gX7_saysBy_48, t0, true_and]
  refine m_ran hm hq (by omega) (fun I1 h1 => ?_)
  have k1 : I1 73 n = nI κ := by rw [h1.1 73 (by decide) (by decide)]; exact hκ
  simp only [Option.toList_none, List.nil_append, gX7_saysBy_54, t0, true_and, mr_31 hm, rf_some, i73, cn, k1]
  have len0 : (ps0 n κ x).2.length = (pfK n κ x).2.length + 1 := rfl
  refine hy0 I1 (q + ([10] : List Int32).length) x _ h1.2.2.1 (by rw [show ([10] : List Int32).length = 1 from rfl]; omega) k1 (fun I2 g0 => ?_)
  have a0 := eM_t h1 g0
  have kf0 : I2 73 n = nI κ := by rw [g0.1 73 (by decide) (by decide)]; exact k1
  simp only [Option.toList_some, List.cons_append, List.nil_append, gX7_saysBy_66, t0, true_and, mr_31 hm, rf_some, i73, cn, kf0]
  exact kk I2 a0
theorem m_s2 (hm : IsMod T R) (hn5 : n < 50) {d : Nat} (hy0 : aM X d T J R n κ mX7_saysBy [rU] 0 (ps0 n κ)) : aM X (d + 1) T J R n κ mX7_saysBy [rU] 2 (ps2 n κ) := by
  intro I q x Q hq hl hκ kk
  have t0 := mt_54 hm
  have l0 : q + 1 + 0 ≤ q + (ps2 n κ x).2.length := Nat.add_le_add_left (Nat.succ_le_succ (Nat.zero_le _)) q
  have i73 : rIn T 73 0 (nI n) := rIn_at (mt_73 hm) hn5 (by decide)
  have cn : (nI n).toNatClampNeg = n := nI_clamp (by omega)
  simp only [gX7_saysBy_0, sX7_saysBy_1, show nI 2 = 2 by decide, show ¬ (2 : Int32) = 0 by decide, show ¬ (2 : Int32) = 1 by decide, if_true, if_false, gX7_saysBy_69, t0, true_and]
  refine m_ran hm hq (by omega) (fun I1 h1 => ?_)
  have k1 : I1 73 n = nI κ := by rw [h1.1 73 (by decide) (by decide)]; exact hκ
  simp only [Option.toList_none, List.nil_append, gX7_saysBy_75, t0, true_and, mr_31 hm, rf_some, i73, cn, k1]
  have len0 : (ps2 n κ x).2.length = (ps0 n κ x).2.length + 1 := rfl
  refine hy0 I1 (q + ([30] : List Int32).length) x _ h1.2.2.1 (by rw [show ([30] : List Int32).length = 1 from rfl]; omega) k1 (fun I2 g0 => ?_)
  have a0 := eM_t h1 g0
  have kf0 : I2 73 n = nI κ := by rw [g0.1 73 (by decide) (by decide)]; exact k1
  simp only [Option.toList_some, List.cons_append, List.nil_append, gX7_saysBy_82, t0, true_and, mr_31 hm, rf_some, i73, cn, kf0]
  exact kk I2 a0
theorem m_s3 (hm : IsMod T R) (hn5 : n < 50) {d : Nat} (hy0 : aM X d T J R n κ mX7_saysBy [rU] 2 (ps2 n κ)) : aM X (d + 1) T J R n κ mX7_saysBy [rU] 3 (ps3 n κ) := by
  intro I q x Q hq hl hκ kk
  have t0 := mt_54 hm
  have l0 : q + 1 + 0 ≤ q + (ps3 n κ x).2.length := Nat.add_le_add_left (Nat.succ_le_succ (Nat.zero_le _)) q
  have i73 : rIn T 73 0 (nI n) := rIn_at (mt_73 hm) hn5 (by decide)
  have cn : (nI n).toNatClampNeg = n := nI_clamp (by omega)
  simp only [gX7_saysBy_0, sX7_saysBy_1, show nI 3 = 3 by decide, show ¬ (3 : Int32) = 0 by decide, show ¬ (3 : Int32) = 1 by decide, show ¬ (3 : Int32) = 2 by decide, if_true, if_false, gX7_saysBy_84, t0, true_and]
  refine m_ran hm hq (by omega) (fun I1 h1 => ?_)
  have k1 : I1 73 n = nI κ := by rw [h1.1 73 (by decide) (by decide)]; exact hκ
  simp only [Option.toList_none, List.nil_append, gX7_saysBy_90, t0, true_and, mr_31 hm, rf_some, i73, cn, k1]
  have len0 : (ps3 n κ x).2.length = (ps2 n κ (x + 1)).2.length + 1 := rfl
  refine hy0 I1 (q + ([41] : List Int32).length) (x + 1) _ h1.2.2.1 (by rw [show ([41] : List Int32).length = 1 from rfl]; omega) k1 (fun I2 g0 => ?_)
  have a0 := eM_t h1 g0
  have kf0 : I2 73 n = nI κ := by rw [g0.1 73 (by decide) (by decide)]; exact k1
  simp only [Option.toList_some, List.cons_append, List.nil_append, gX7_saysBy_99, t0, true_and, mr_31 hm, rf_some, i73, cn, kf0]
  exact kk I2 a0
theorem m_s7 (hm : IsMod T R) (hn5 : n < 50) {d : Nat} (hy0 : aM X d T J R n κ mX7_saysBy [rU] 4 (ps0 n κ)) (hy1 : aM X d T J R n κ mX7_floodsBy [rU] κ (pdK n κ κ)) : aM X (d + 1) T J R n κ mX7_saysBy [rU] 7 (ps7 n κ) := by
  intro I q x Q hq hl hκ kk
  have t0 := mt_54 hm
  have l0 : q + 1 + 0 ≤ q + (ps7 n κ x).2.length := Nat.add_le_add_left (Nat.succ_le_succ (Nat.zero_le _)) q
  have i73 : rIn T 73 0 (nI n) := rIn_at (mt_73 hm) hn5 (by decide)
  have cn : (nI n).toNatClampNeg = n := nI_clamp (by omega)
  simp only [gX7_saysBy_0, sX7_saysBy_1, show nI 7 = 7 by decide, show ¬ (7 : Int32) = 0 by decide, show ¬ (7 : Int32) = 1 by decide, show ¬ (7 : Int32) = 2 by decide, show ¬ (7 : Int32) = 3 by decide, show ¬ (7 : Int32) = 4 by decide, show ¬ (7 : Int32) = 5 by decide, show ¬ (7 : Int32) = 6 by decide, if_true, if_false, gX7_saysBy_100, t0, true_and]
  refine m_ran hm hq (by omega) (fun I1 h1 => ?_)
  have k1 : I1 73 n = nI κ := by rw [h1.1 73 (by decide) (by decide)]; exact hκ
  simp only [Option.toList_none, List.nil_append, gX7_saysBy_106, t0, true_and, mr_31 hm, rf_some, i73, cn, k1]
  have len0 : (ps7 n κ x).2.length = (ps0 n κ x).2.length + (pdK n κ κ 2).2.length + 1 := by show ((ps0 n κ x).2 ++ (pdK n κ κ 2).2).length + 1 = _; rw [List.length_append]
  refine hy0 I1 (q + ([80] : List Int32).length) x _ h1.2.2.1 (by rw [show ([80] : List Int32).length = 1 from rfl]; omega) k1 (fun I2 g0 => ?_)
  have a0 := eM_t h1 g0
  have kf0 : I2 73 n = nI κ := by rw [g0.1 73 (by decide) (by decide)]; exact k1
  simp only [Option.toList_some, List.cons_append, List.nil_append, gX7_saysBy_113, t0, true_and, mr_31 hm, rf_some, i73, cn, kf0]
  have len1 : True := trivial
  refine hy1 I2 (q + ([80] ++ (ps0 n κ x).2).length) 2 _ a0.2.2.1 (by rw [List.length_append, show ([80] : List Int32).length = 1 from rfl]; omega) kf0 (fun I3 g1 => ?_)
  have a1 := eM_t a0 g1
  have kf1 : I3 73 n = nI κ := by rw [g1.1 73 (by decide) (by decide)]; exact kf0
  simp only [Option.toList_some, List.cons_append, List.nil_append, gX7_saysBy_129, t0, true_and, mr_31 hm, rf_some, i73, cn, kf1]
  exact kk I3 a1
theorem m_t0 (hm : IsMod T R) (hn5 : n < 50) {d : Nat} (hy0 : aM X d T J R n κ mX7_saysBy [rU] κ (psK n κ κ)) (hy1 : aM X d T J R n κ mX7_floodsBy [rU] κ (pdK n κ κ)) : aM X (d + 1) T J R n κ mX7_tells [rU] 0 (pt0 n κ) := by
  intro I q x Q hq hl hκ kk
  have t0 := mt_54 hm
  have l0 : q + 1 + 0 ≤ q + (pt0 n κ x).2.length := Nat.add_le_add_left (Nat.succ_le_succ (Nat.zero_le _)) q
  have i73 : rIn T 73 0 (nI n) := rIn_at (mt_73 hm) hn5 (by decide)
  have cn : (nI n).toNatClampNeg = n := nI_clamp (by omega)
  simp only [gX7_tells_0, sX7_tells_1, show nI 0 = 0 by decide, if_true, if_false, gX7_tells_36, t0, true_and]
  refine m_ran hm hq (by omega) (fun I1 h1 => ?_)
  have k1 : I1 73 n = nI κ := by rw [h1.1 73 (by decide) (by decide)]; exact hκ
  simp only [Option.toList_none, List.nil_append, gX7_tells_41, t0, true_and, mr_31 hm, rf_some, i73, cn, k1]
  have len0 : (pt0 n κ x).2.length = (psK n κ κ x).2.length + (pdK n κ κ 1).2.length + 1 := by show ((psK n κ κ x).2 ++ (pdK n κ κ 1).2).length + 1 = _; rw [List.length_append]
  refine hy0 I1 (q + ([2] : List Int32).length) x _ h1.2.2.1 (by rw [show ([2] : List Int32).length = 1 from rfl]; omega) k1 (fun I2 g0 => ?_)
  have a0 := eM_t h1 g0
  have kf0 : I2 73 n = nI κ := by rw [g0.1 73 (by decide) (by decide)]; exact k1
  simp only [Option.toList_some, List.cons_append, List.nil_append, gX7_tells_53, t0, true_and, mr_31 hm, rf_some, i73, cn, kf0]
  have len1 : True := trivial
  refine hy1 I2 (q + ([2] ++ (psK n κ κ x).2).length) 1 _ a0.2.2.1 (by rw [List.length_append, show ([2] : List Int32).length = 1 from rfl]; omega) kf0 (fun I3 g1 => ?_)
  have a1 := eM_t a0 g1
  have kf1 : I3 73 n = nI κ := by rw [g1.1 73 (by decide) (by decide)]; exact kf0
  simp only [Option.toList_some, List.cons_append, List.nil_append, gX7_tells_69, t0, true_and, mr_31 hm, rf_some, i73, cn, kf1]
  exact kk I3 a1
theorem m_t5 (hm : IsMod T R) (hn5 : n < 50) {d : Nat} (hy0 : aM X d T J R n κ mX7_tells [rU] 3 (pt0 n κ)) : aM X (d + 1) T J R n κ mX7_tells [rU] 5 (pt5 n κ) := by
  intro I q x Q hq hl hκ kk
  have t0 := mt_54 hm
  have l0 : q + 1 + 0 ≤ q + (pt5 n κ x).2.length := Nat.add_le_add_left (Nat.succ_le_succ (Nat.zero_le _)) q
  have i73 : rIn T 73 0 (nI n) := rIn_at (mt_73 hm) hn5 (by decide)
  have cn : (nI n).toNatClampNeg = n := nI_clamp (by omega)
  simp only [gX7_tells_0, sX7_tells_1, show nI 5 = 5 by decide, show ¬ (5 : Int32) = 0 by decide, if_true, if_false, gX7_tells_71, t0, true_and]
  refine m_ran hm hq (by omega) (fun I1 h1 => ?_)
  have k1 : I1 73 n = nI κ := by rw [h1.1 73 (by decide) (by decide)]; exact hκ
  simp only [Option.toList_none, List.nil_append, gX7_tells_77, t0, true_and, mr_31 hm, rf_some, i73, cn, k1]
  have len0 : (pt5 n κ x).2.length = (pt0 n κ x).2.length + 1 := rfl
  refine hy0 I1 (q + ([60] : List Int32).length) x _ h1.2.2.1 (by rw [show ([60] : List Int32).length = 1 from rfl]; omega) k1 (fun I2 g0 => ?_)
  have a0 := eM_t h1 g0
  have kf0 : I2 73 n = nI κ := by rw [g0.1 73 (by decide) (by decide)]; exact k1
  simp only [Option.toList_some, List.cons_append, List.nil_append, gX7_tells_84, t0, true_and, mr_31 hm, rf_some, i73, cn, kf0]
  exact kk I2 a0
theorem m_t7 (hm : IsMod T R) (hn5 : n < 50) {d : Nat} (hy0 : aM X d T J R n κ mX7_tells [rU] 4 (pt0 n κ)) : aM X (d + 1) T J R n κ mX7_tells [rU] 7 (pt7 n κ) := by
  intro I q x Q hq hl hκ kk
  have t0 := mt_54 hm
  have l0 : q + 1 + 0 ≤ q + (pt7 n κ x).2.length := Nat.add_le_add_left (Nat.succ_le_succ (Nat.zero_le _)) q
  have i73 : rIn T 73 0 (nI n) := rIn_at (mt_73 hm) hn5 (by decide)
  have cn : (nI n).toNatClampNeg = n := nI_clamp (by omega)
  simp only [gX7_tells_0, sX7_tells_1, show nI 7 = 7 by decide, show ¬ (7 : Int32) = 0 by decide, show ¬ (7 : Int32) = 5 by decide, if_true, if_false, gX7_tells_87, t0, true_and]
  refine m_ran hm hq (by omega) (fun I1 h1 => ?_)
  have k1 : I1 73 n = nI κ := by rw [h1.1 73 (by decide) (by decide)]; exact hκ
  simp only [Option.toList_none, List.nil_append, gX7_tells_93, t0, true_and, mr_31 hm, rf_some, i73, cn, k1]
  have len0 : (pt7 n κ x).2.length = (pt0 n κ x).2.length + 1 := rfl
  refine hy0 I1 (q + ([81] : List Int32).length) x _ h1.2.2.1 (by rw [show ([81] : List Int32).length = 1 from rfl]; omega) k1 (fun I2 g0 => ?_)
  have a0 := eM_t h1 g0
  have kf0 : I2 73 n = nI κ := by rw [g0.1 73 (by decide) (by decide)]; exact k1
  simp only [Option.toList_some, List.cons_append, List.nil_append, gX7_tells_100, t0, true_and, mr_31 hm, rf_some, i73, cn, kf0]
  exact kk I2 a0
theorem kd8 {P : Nat → Prop} (h0 : P 0) (h1 : P 1) (h2 : P 2) (h3 : P 3) (h4 : P 4) (h5 : P 5) (h6 : P 6) (h7 : P 7) {k : Nat} (hk : k < 8) : P k := by
  have h : k = 0 ∨ k = 1 ∨ k = 2 ∨ k = 3 ∨ k = 4 ∨ k = 5 ∨ k = 6 ∨ k = 7 := by omega
  rcases h with rfl | rfl | rfl | rfl | rfl | rfl | rfl | rfl <;> assumption
theorem e_pfK0 : pfK n 0 = pf0 n := by unfold pfK; rw [if_neg (by decide +kernel), if_neg (by decide +kernel)]
theorem e_pfK1 : pfK n 1 = pf1 n := by unfold pfK; rw [if_pos (by decide +kernel)]
theorem e_pfK2 : pfK n 2 = pf0 n := by unfold pfK; rw [if_neg (by decide +kernel), if_neg (by decide +kernel)]
theorem e_pfK3 : pfK n 3 = pf0 n := by unfold pfK; rw [if_neg (by decide +kernel), if_neg (by decide +kernel)]
theorem e_pfK4 : pfK n 4 = pf1 n := by unfold pfK; rw [if_pos (by decide +kernel)]
theorem e_pfK5 : pfK n 5 = pf0 n := by unfold pfK; rw [if_neg (by decide +kernel), if_neg (by decide +kernel)]
theorem e_pfK6 : pfK n 6 = pf6 n := by unfold pfK; rw [if_neg (by decide +kernel), if_pos (by decide +kernel)]
theorem e_pfK7 : pfK n 7 = pf1 n := by unfold pfK; rw [if_pos (by decide +kernel)]
theorem e_pdK0 : pdK n κ 0 = pd0 n := by unfold pdK; rw [if_neg (by decide +kernel), if_neg (by decide +kernel)]
theorem e_pdK1 : pdK n κ 1 = pd0 n := by unfold pdK; rw [if_neg (by decide +kernel), if_neg (by decide +kernel)]
theorem e_pdK2 : pdK n κ 2 = pd0 n := by unfold pdK; rw [if_neg (by decide +kernel), if_neg (by decide +kernel)]
theorem e_pdK3 : pdK n κ 3 = pd3 n := by unfold pdK; rw [if_pos (by decide +kernel)]
theorem e_pdK4 : pdK n κ 4 = pd4 n κ := by unfold pdK; rw [if_neg (by decide +kernel), if_pos (by decide +kernel)]
theorem e_pdK5 : pdK n κ 5 = pd3 n := by unfold pdK; rw [if_pos (by decide +kernel)]
theorem e_pdK6 : pdK n κ 6 = pd0 n := by unfold pdK; rw [if_neg (by decide +kernel), if_neg (by decide +kernel)]
theorem e_pdK7 : pdK n κ 7 = pd4 n κ := by unfold pdK; rw [if_neg (by decide +kernel), if_pos (by decide +kernel)]
theorem e_psK0 : psK n κ 0 = ps0 n κ := by unfold psK; rw [if_neg (by decide +kernel), if_neg (by decide +kernel), if_neg (by decide +kernel)]
theorem e_psK1 : psK n κ 1 = ps0 n κ := by unfold psK; rw [if_neg (by decide +kernel), if_neg (by decide +kernel), if_neg (by decide +kernel)]
theorem e_psK2 : psK n κ 2 = ps2 n κ := by unfold psK; rw [if_pos (by decide +kernel)]
theorem e_psK3 : psK n κ 3 = ps3 n κ := by unfold psK; rw [if_neg (by decide +kernel), if_pos (by decide +kernel)]
theorem e_psK4 : psK n κ 4 = ps0 n κ := by unfold psK; rw [if_neg (by decide +kernel), if_neg (by decide +kernel), if_neg (by decide +kernel)]
theorem e_psK5 : psK n κ 5 = ps3 n κ := by unfold psK; rw [if_neg (by decide +kernel), if_pos (by decide +kernel)]
theorem e_psK6 : psK n κ 6 = ps0 n κ := by unfold psK; rw [if_neg (by decide +kernel), if_neg (by decide +kernel), if_neg (by decide +kernel)]
theorem e_psK7 : psK n κ 7 = ps7 n κ := by unfold psK; rw [if_neg (by decide +kernel), if_neg (by decide +kernel), if_pos (by decide +kernel)]
theorem e_ptK0 : ptK n κ 0 = pt0 n κ := by unfold ptK; rw [if_neg (by decide +kernel), if_neg (by decide +kernel)]
theorem e_ptK1 : ptK n κ 1 = pt0 n κ := by unfold ptK; rw [if_neg (by decide +kernel), if_neg (by decide +kernel)]
theorem e_ptK2 : ptK n κ 2 = pt0 n κ := by unfold ptK; rw [if_neg (by decide +kernel), if_neg (by decide +kernel)]
theorem e_ptK3 : ptK n κ 3 = pt0 n κ := by unfold ptK; rw [if_neg (by decide +kernel), if_neg (by decide +kernel)]
theorem e_ptK4 : ptK n κ 4 = pt0 n κ := by unfold ptK; rw [if_neg (by decide +kernel), if_neg (by decide +kernel)]
theorem e_ptK5 : ptK n κ 5 = pt5 n κ := by unfold ptK; rw [if_pos (by decide +kernel)]
theorem e_ptK6 : ptK n κ 6 = pt0 n κ := by unfold ptK; rw [if_neg (by decide +kernel), if_neg (by decide +kernel)]
theorem e_ptK7 : ptK n κ 7 = pt7 n κ := by unfold ptK; rw [if_neg (by decide +kernel), if_pos (by decide +kernel)]
theorem m_fK (hm : IsMod T R) (hn5 : n < 50) {d k : Nat} (hk : k < 8) : aM X (d + 4) T J R n κ mX7_flowsBy [] k (pfK n k) := by
  have z0 : ∀ d, aM X (d + 1) T J R n κ mX7_flowsBy [] 0 (pf0 n) := fun d => m_f0 hm hn5
  have z1 : ∀ d, aM X (d + 2) T J R n κ mX7_flowsBy [] 1 (pf1 n) := fun d => m_f1 hm hn5 (z0 d)
  have z2 : ∀ d, aM X (d + 2) T J R n κ mX7_flowsBy [] 2 (pf0 n) := fun d => m_U_flowsBy hm (by decide) (by decide) (z0 d)
  have z3 : ∀ d, aM X (d + 3) T J R n κ mX7_flowsBy [] 3 (pf0 n) := fun d => m_U_flowsBy hm (by decide) (by decide) (z2 d)
  have z4 : ∀ d, aM X (d + 3) T J R n κ mX7_flowsBy [] 4 (pf1 n) := fun d => m_U_flowsBy hm (by decide) (by decide) (z1 d)
  have z5 : ∀ d, aM X (d + 4) T J R n κ mX7_flowsBy [] 5 (pf0 n) := fun d => m_U_flowsBy hm (by decide) (by decide) (z3 d)
  have z6 : ∀ d, aM X (d + 2) T J R n κ mX7_flowsBy [] 6 (pf6 n) := fun d => m_f6 hm hn5 (z0 d)
  have z7 : ∀ d, aM X (d + 4) T J R n κ mX7_flowsBy [] 7 (pf1 n) := fun d => m_U_flowsBy hm (by decide) (by decide) (z4 d)
  refine kd8 (P := fun k => aM X (d + 4) T J R n κ mX7_flowsBy [] k (pfK n k)) ?_ ?_ ?_ ?_ ?_ ?_ ?_ ?_ hk
  · rw [e_pfK0]; exact z0 (d + 3)
  · rw [e_pfK1]; exact z1 (d + 2)
  · rw [e_pfK2]; exact z2 (d + 2)
  · rw [e_pfK3]; exact z3 (d + 1)
  · rw [e_pfK4]; exact z4 (d + 1)
  · rw [e_pfK5]; exact z5 d
  · rw [e_pfK6]; exact z6 (d + 2)
  · rw [e_pfK7]; exact z7 d
theorem m_dK (hm : IsMod T R) (hn5 : n < 50) (hκ8 : κ < 8) {d k : Nat} (hk : k < 8) : aM X (d + 6) T J R n κ mX7_floodsBy [rU] k (pdK n κ k) := by
  have z0 : ∀ d, aM X (d + 1) T J R n κ mX7_floodsBy [rU] 0 (pd0 n) := fun d => m_d0 hm hn5
  have z1 : ∀ d, aM X (d + 2) T J R n κ mX7_floodsBy [rU] 1 (pd0 n) := fun d => m_U_floodsBy hm (by decide) (by decide) (z0 d)
  have z2 : ∀ d, aM X (d + 2) T J R n κ mX7_floodsBy [rU] 2 (pd0 n) := fun d => m_U_floodsBy hm (by decide) (by decide) (z0 d)
  have z3 : ∀ d, aM X (d + 3) T J R n κ mX7_floodsBy [rU] 3 (pd3 n) := fun d => m_d3 hm hn5 (z2 d)
  have z4 : ∀ d, aM X (d + 5) T J R n κ mX7_floodsBy [rU] 4 (pd4 n κ) := fun d => m_d4 hm hn5 (z1 (d + 2)) (m_fK hm hn5 hκ8)
  have z5 : ∀ d, aM X (d + 4) T J R n κ mX7_floodsBy [rU] 5 (pd3 n) := fun d => m_U_floodsBy hm (by decide) (by decide) (z3 d)
  have z6 : ∀ d, aM X (d + 2) T J R n κ mX7_floodsBy [rU] 6 (pd0 n) := fun d => m_U_floodsBy hm (by decide) (by decide) (z0 d)
  have z7 : ∀ d, aM X (d + 6) T J R n κ mX7_floodsBy [rU] 7 (pd4 n κ) := fun d => m_U_floodsBy hm (by decide) (by decide) (z4 d)
  refine kd8 (P := fun k => aM X (d + 6) T J R n κ mX7_floodsBy [rU] k (pdK n κ k)) ?_ ?_ ?_ ?_ ?_ ?_ ?_ ?_ hk
  · rw [e_pdK0]; exact z0 (d + 5)
  · rw [e_pdK1]; exact z1 (d + 4)
  · rw [e_pdK2]; exact z2 (d + 4)
  · rw [e_pdK3]; exact z3 (d + 3)
  · rw [e_pdK4]; exact z4 (d + 1)
  · rw [e_pdK5]; exact z5 (d + 2)
  · rw [e_pdK6]; exact z6 (d + 4)
  · rw [e_pdK7]; exact z7 d
theorem m_sK (hm : IsMod T R) (hn5 : n < 50) (hκ8 : κ < 8) {d k : Nat} (hk : k < 8) : aM X (d + 8) T J R n κ mX7_saysBy [rU] k (psK n κ k) := by
  have z0 : ∀ d, aM X (d + 5) T J R n κ mX7_saysBy [rU] 0 (ps0 n κ) := fun d => m_s0 hm hn5 (m_fK hm hn5 hκ8)
  have z1 : ∀ d, aM X (d + 6) T J R n κ mX7_saysBy [rU] 1 (ps0 n κ) := fun d => m_U_saysBy hm (by decide) (by decide) (z0 d)
  have z2 : ∀ d, aM X (d + 6) T J R n κ mX7_saysBy [rU] 2 (ps2 n κ) := fun d => m_s2 hm hn5 (z0 d)
  have z3 : ∀ d, aM X (d + 7) T J R n κ mX7_saysBy [rU] 3 (ps3 n κ) := fun d => m_s3 hm hn5 (z2 d)
  have z4 : ∀ d, aM X (d + 7) T J R n κ mX7_saysBy [rU] 4 (ps0 n κ) := fun d => m_U_saysBy hm (by decide) (by decide) (z1 d)
  have z5 : ∀ d, aM X (d + 8) T J R n κ mX7_saysBy [rU] 5 (ps3 n κ) := fun d => m_U_saysBy hm (by decide) (by decide) (z3 d)
  have z6 : ∀ d, aM X (d + 6) T J R n κ mX7_saysBy [rU] 6 (ps0 n κ) := fun d => m_U_saysBy hm (by decide) (by decide) (z0 d)
  have z7 : ∀ d, aM X (d + 8) T J R n κ mX7_saysBy [rU] 7 (ps7 n κ) := fun d => m_s7 hm hn5 (z4 d) (m_dK (d := d + 1) hm hn5 hκ8 hκ8)
  refine kd8 (P := fun k => aM X (d + 8) T J R n κ mX7_saysBy [rU] k (psK n κ k)) ?_ ?_ ?_ ?_ ?_ ?_ ?_ ?_ hk
  · rw [e_psK0]; exact z0 (d + 3)
  · rw [e_psK1]; exact z1 (d + 2)
  · rw [e_psK2]; exact z2 (d + 2)
  · rw [e_psK3]; exact z3 (d + 1)
  · rw [e_psK4]; exact z4 (d + 1)
  · rw [e_psK5]; exact z5 d
  · rw [e_psK6]; exact z6 (d + 2)
  · rw [e_psK7]; exact z7 d
theorem m_tK (hm : IsMod T R) (hn5 : n < 50) (hκ8 : κ < 8) {d k : Nat} (hk : k < 8) : aM X (d + 12) T J R n κ mX7_tells [rU] k (ptK n κ k) := by
  have z0 : ∀ d, aM X (d + 9) T J R n κ mX7_tells [rU] 0 (pt0 n κ) := fun d => m_t0 hm hn5 (m_sK hm hn5 hκ8 hκ8) (m_dK (d := d + 2) hm hn5 hκ8 hκ8)
  have z1 : ∀ d, aM X (d + 10) T J R n κ mX7_tells [rU] 1 (pt0 n κ) := fun d => m_U_tells hm (by decide) (by decide) (z0 d)
  have z2 : ∀ d, aM X (d + 10) T J R n κ mX7_tells [rU] 2 (pt0 n κ) := fun d => m_U_tells hm (by decide) (by decide) (z0 d)
  have z3 : ∀ d, aM X (d + 11) T J R n κ mX7_tells [rU] 3 (pt0 n κ) := fun d => m_U_tells hm (by decide) (by decide) (z2 d)
  have z4 : ∀ d, aM X (d + 11) T J R n κ mX7_tells [rU] 4 (pt0 n κ) := fun d => m_U_tells hm (by decide) (by decide) (z1 d)
  have z5 : ∀ d, aM X (d + 12) T J R n κ mX7_tells [rU] 5 (pt5 n κ) := fun d => m_t5 hm hn5 (z3 d)
  have z6 : ∀ d, aM X (d + 10) T J R n κ mX7_tells [rU] 6 (pt0 n κ) := fun d => m_U_tells hm (by decide) (by decide) (z0 d)
  have z7 : ∀ d, aM X (d + 12) T J R n κ mX7_tells [rU] 7 (pt7 n κ) := fun d => m_t7 hm hn5 (z4 d)
  refine kd8 (P := fun k => aM X (d + 12) T J R n κ mX7_tells [rU] k (ptK n κ k)) ?_ ?_ ?_ ?_ ?_ ?_ ?_ ?_ hk
  · rw [e_ptK0]; exact z0 (d + 3)
  · rw [e_ptK1]; exact z1 (d + 2)
  · rw [e_ptK2]; exact z2 (d + 2)
  · rw [e_ptK3]; exact z3 (d + 1)
  · rw [e_ptK4]; exact z4 (d + 1)
  · rw [e_ptK5]; exact z5 d
  · rw [e_ptK6]; exact z6 (d + 2)
  · rw [e_ptK7]; exact z7 d
end AM
