/-! PURE: what stands when both are made, and the law -/
def zT : tT := [(3, 6)] ++ kT6 ++ [(3, 7)] ++ kT7
def zI : tI := kI7 (va_up (kI6 (va_up (fun _ _ => 0) 0 (fun _ => 0))) 54 (fun _ => 0))
def zJ : tJ := kJ7 (kJ6 (fun _ _ => 0))
def zR : tR := kR7 (va_up (kR6 (va_up (fun _ _ => none) 0 (fun _ => none))) 54 (fun _ => none))
theorem zr_6 {P : Nat → Prop} (h0 : P 0) (h1 : P 1) (h2 : P 2) (h3 : P 3) (h4 : P 4) (h5 : P 5) : ∀ s, s < 6 → P s := by
  intro s hs
  match s, hs with
  | 0, _ => exact h0
  | 1, _ => exact h1
  | 2, _ => exact h2
  | 3, _ => exact h3
  | 4, _ => exact h4
  | 5, _ => exact h5
theorem zr_eq : can 0 (vm zI) = can 0 (vw zI 1) := by
  funext k i
  unfold can
  split
  · rename_i h
    rcases h with h | h | h
    · omega
    · obtain ⟨rfl, h⟩ := h
      rfl
    · obtain ⟨rfl, h⟩ := h
      have h2 : i = 0 ∨ i = 1 := by omega
      rcases h2 with rfl | rfl
      · rfl
      · rfl
  · rfl
theorem zr_ok : rvOk 0 (can 0 (vw zI 1)) := ⟨fun p hp => absurd hp (Nat.not_lt_zero p), 0, by decide, rfl⟩
theorem zr_riv : IsRiv zT zR 1 ∧ IsRiv zT zR 8 ∧ IsRiv zT zR 15 := by
  unfold IsRiv
  refine ⟨?_, ?_, ?_⟩
  · repeat' apply And.intro
    all_goals rfl
  · repeat' apply And.intro
    all_goals rfl
  · repeat' apply And.intro
    all_goals rfl
theorem zr_law : IsLaw zT zR 27 ∧ IsLaw zT zR 30 := by
  unfold IsLaw
  repeat' apply And.intro
  all_goals rfl
theorem zr_mod : IsMod zT zR := by
  unfold IsMod
  repeat' apply And.intro
  all_goals rfl
theorem zr_HS : HS zT zI zR 30 0 none (can 0 (vw zI 1)) := ⟨rfl, rfl, rfl, rfl, by decide, by decide, zr_riv.2.1, zr_law.2, zr_riv.1, by decide, ⟨0, rfl, by decide⟩, if_pos rfl, rfl, by decide, rfl, zr_ok⟩
theorem zr_MS : MS zT zI zR 0 none (can 0 (vw zI 1)) := ⟨zr_mod, fun h => absurd rfl h, rfl, by decide, if_pos rfl, zr_eq, zr_ok⟩
theorem zr_CSh : ∀ s, s < 6 → CSh zT zI zJ zR s (-1) 0 (fun _ => 0) := by
  refine zr_6 ?_ ?_ ?_ ?_ ?_ ?_
  all_goals exact ⟨rfl, rfl, rfl, Or.inl ⟨rfl, rfl⟩⟩
theorem zr_MSh : ∀ s, s < 6 → MSh zI zJ s (-1) 0 (fun _ => 0) := by
  refine zr_6 ?_ ?_ ?_ ?_ ?_ ?_
  all_goals exact ⟨rfl, rfl, by decide, fun i hi => absurd hi (Nat.not_lt_zero i)⟩
theorem zr_CA : CA zT zI zJ zR 27 (fun _ => -1, fun _ => 0, fun _ _ => 0) (fun _ => 0) (false, 0, fun _ _ => 0, fun _ => 0) (0, fun _ => 0) (0, 0, fun _ _ => 0) (0, fun _ => 0, 0, fun _ => 0) := by
  refine ⟨⟨⟨rfl, rfl, zr_6 rfl rfl rfl rfl rfl rfl⟩, zr_CSh⟩, ⟨rfl, rfl, fun i _ => rfl⟩, ⟨zr_riv.2.2, rfl, rfl, rfl, rfl, fun h => absurd h Bool.false_ne_true⟩, ⟨rfl, ⟨rfl, rfl, rfl, rfl, zr_law.1, Or.inl rfl⟩, rfl, fun i hi => absurd hi (Nat.not_lt_zero i)⟩, ⟨rfl, ⟨rfl, rfl, rfl, rfl, rfl, rfl, rfl, rfl, rfl⟩, rfl, rfl, fun i hi => absurd hi (Nat.not_lt_zero i)⟩, ⟨rfl, ⟨rfl, rfl, rfl, rfl, rfl⟩, rfl, fun i hi => absurd hi (Nat.not_lt_zero i), rfl, fun i _ hi => absurd hi (Nat.not_lt_zero i)⟩, rfl, rfl⟩
theorem zr_MA : MA zI zJ (fun _ => -1, fun _ => 0, fun _ _ => 0) (fun _ => 0) (false, 0, fun _ _ => 0, fun _ => 0) (0, fun _ => 0) (0, 0, fun _ _ => 0) (0, fun _ => 0, 0, fun _ => 0) := by
  refine ⟨zr_MSh, fun i _ => rfl, ⟨rfl, fun h => absurd h Bool.false_ne_true⟩, ⟨rfl, fun i hi => absurd hi (Nat.not_lt_zero i)⟩, ⟨rfl, rfl, fun i hi => absurd hi (Nat.not_lt_zero i)⟩, ⟨rfl, fun i hi => absurd hi (Nat.not_lt_zero i), rfl, fun i _ hi => absurd hi (Nat.not_lt_zero i)⟩⟩
theorem zr_fit : fitR 0 (can 0 (vw zI 1)) := by
  intro j i hj hi
  have h4 : can 0 (vw zI 1) 4 i = 0 := by
    unfold can
    split
    · rfl
    · rfl
  match j, hj, hi with
  | 0, _, hi => exact absurd hi (Nat.not_lt_zero i)
  | 1, _, hi => exact absurd hi (Nat.not_lt_zero i)
  | 2, _, hi => exact absurd hi (Nat.not_lt_zero i)
  | 3, _, hi => exact absurd hi (Nat.not_lt_zero i)
  | 4, _, _ =>
    show fitB (nI 4) (can 0 (vw zI 1) 4 i) = true
    rw [h4]
    decide +kernel
  | 5, _, _ =>
    show fitB (nI 5) 3 = true
    decide +kernel
  | 6, _, _ =>
    show fitB (nI 6) 0 = true
    decide +kernel
theorem zr_PA : PA 0 (can 0 (vw zI 1)) (fun _ => -1, fun _ => 0, fun _ _ => 0) (false, 0, fun _ _ => 0, fun _ => 0) (0, fun _ => 0) (0, 0, fun _ _ => 0) (0, fun _ => 0, 0, fun _ => 0) := by
  refine ⟨zr_fit, fun h => absurd h Bool.false_ne_true, ⟨Nat.le_refl _, by decide, fun i hi => absurd hi (Nat.not_lt_zero i)⟩, ⟨by decide, fun i hi => absurd hi (Nat.not_lt_zero i), by decide⟩, fun s hs k hk h => absurd h.symm (sh_10 ⟨k, hk⟩).1, by decide⟩
theorem zr_Rel : Rel zT zI zJ zR := ⟨by decide +kernel, by decide +kernel, 30, 27, 0, none, can 0 (vw zI 1), (fun _ => -1, fun _ => 0, fun _ _ => 0), fun _ => 0, (false, 0, fun _ _ => 0, fun _ => 0), (0, fun _ => 0), (0, 0, fun _ _ => 0), (0, fun _ => 0, 0, fun _ => 0), ⟨by decide, Or.inr rfl⟩, zr_HS, zr_CA, zr_MS, zr_MA, zr_PA⟩
theorem law_ok : LawOk := by
  intro L xs hL
  simp only [gL_law_0, List.nil_append, List.length_nil]
  refine k_X6 (d := 196) rfl rfl ?_
  simp only [Option.toList_none, List.nil_append, gL_law_7, show ([(3, 6)] ++ kT6).length = 54 from rfl]
  refine k_X7 (d := 198) rfl rfl ?_
  simp only [Option.toList_none, List.nil_append, gL_law_15]
  have h := lp_law (xs := xs) (d := 149) hL L 0 (Nat.le_add_left L 0) (Nat.zero_le L) (zT, zI, zJ, zR) zr_Rel
  rw [nI_0] at h
  exact h
