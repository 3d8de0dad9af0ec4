/-! PURE: a TEXT read: what both sides' readers come to -/
def sxS (t : Nat → Int32) (N a : Nat) : Int32 := if a < N then t a else -1
/-- whether it is there, where it ends (or the FAULT), what it is in codes -/
abbrev tZ : Type := Bool × Nat × List Int32
def chS (op : Int32 → Bool) (s : Nat → Int32) (f : Nat → tZ) : Nat → tZ → tZ
  | 0, z => z
  | m + 1, z => if z.1 = true ∧ op (s z.2.1) = true then chS op s f m ((f (z.2.1 + 1)).1, (f (z.2.1 + 1)).2.1, z.2.2 ++ (f (z.2.1 + 1)).2.2 ++ [-(s z.2.1)]) else z
theorem chS_no {op : Int32 → Bool} {s : Nat → Int32} {f : Nat → tZ} {m : Nat} {z : tZ} (h : ¬ (z.1 = true ∧ op (s z.2.1) = true)) : chS op s f m z = z := by
  cases m with
  | zero => rfl
  | succ m => rw [chS, if_neg h]
theorem chS_yes {op : Int32 → Bool} {s : Nat → Int32} {f : Nat → tZ} {m : Nat} {z : tZ} (h : z.1 = true ∧ op (s z.2.1) = true) : chS op s f (m + 1) z = chS op s f m ((f (z.2.1 + 1)).1, (f (z.2.1 + 1)).2.1, z.2.2 ++ (f (z.2.1 + 1)).2.2 ++ [-(s z.2.1)]) := by
  rw [chS, if_pos h]
def opM (c : Int32) : Bool := c == 42 || c == 47 || c == 37
def opA (c : Int32) : Bool := c == 43 || c == 45
def opB (c : Int32) : Bool := c == 60 || c == 61 || c == 62
def opN (c : Int32) : Bool := c == 38
def opO (c : Int32) : Bool := c == 124
def pzP (s : Nat → Int32) (f : Nat → tZ) (a : Nat) : tZ := chS opM s f 120 (f a)
def pzS (s : Nat → Int32) (f : Nat → tZ) (a : Nat) : tZ := chS opA s (pzP s f) 120 (pzP s f a)
def pzB (s : Nat → Int32) (f : Nat → tZ) (a : Nat) : tZ := chS opB s (pzS s f) 1 (pzS s f a)
def pzA (s : Nat → Int32) (f : Nat → tZ) (a : Nat) : tZ := chS opN s (pzB s f) 120 (pzB s f a)
def pzE (s : Nat → Int32) (f : Nat → tZ) (a : Nat) : tZ := chS opO s (pzA s f) 120 (pzA s f a)
def isD (c : Int32) : Bool := inB c 48 57
def nuS (s : Nat → Int32) : Nat → Nat → Int32 → Nat × Int32
  | 0, a, v => (a, v)
  | m + 1, a, v => if isD (s a) = true then nuS s m (a + 1) (10 * v + s a - 48) else (a, v)
def pzR (s : Nat → Int32) (z : tZ) : tZ := if z.1 = true ∧ s z.2.1 = 41 then (true, z.2.1 + 1, z.2.2) else (false, z.2.1, [])
def pzN (c : Int32) (z : tZ) : tZ := (z.1, z.2.1, z.2.2 ++ [if c = 45 then -126 else -33])
def pzO (s : Nat → Int32) : Nat → Nat → tZ
  | 0, a => if isD (s a) = true then (true, (nuS s 4 a 0).1, [(nuS s 4 a 0).2]) else if isN (s a) = true then (true, a + 1, [-(s a)]) else (false, a, [])
  | o + 1, a => if isD (s a) = true then (true, (nuS s 4 a 0).1, [(nuS s 4 a 0).2]) else if isN (s a) = true then (true, a + 1, [-(s a)]) else if s a = 40 then pzR s (pzE s (pzO s o) (a + 1)) else if s a = 33 ∨ s a = 45 then pzN (s a) (pzO s o (a + 1)) else (false, a, [])
/-- 0 a number or a name, 1 a sign ahead of one, 2 a sign between two -/
def tkK (c : Int32) : Nat := if 0 ≤ c ∨ isN (-c) = true then 0 else if c = -126 ∨ c = -33 then 1 else 2
def tkL : List Int32 := [-108, -110, -114, -103, -98, -100, -124, -38, -60, -61, -62, -43, -45, -42, -47, -37, -33, -126]
def tkOk (c : Int32) : Prop := (∃ w : Nat, w ≤ 9999 ∧ c = nI w) ∨ c ∈ tkL
def dpL : List Int32 → Nat → Option Nat
  | [], t => some t
  | c :: r, t => if tkK c = 0 then dpL r (t + 1) else if tkK c = 1 then (if 1 ≤ t then dpL r t else none) else (if 2 ≤ t then dpL r (t - 1) else none)
theorem dpL_app : ∀ (x y : List Int32) (t : Nat), dpL (x ++ y) t = (dpL x t).bind (dpL y)
  | [], y, t => rfl
  | c :: r, y, t => by
    show dpL (c :: (r ++ y)) t = _
    rw [dpL, dpL]
    by_cases h0 : tkK c = 0
    · rw [if_pos h0, if_pos h0, dpL_app r y]
    · rw [if_neg h0, if_neg h0]
      by_cases h1 : tkK c = 1
      · rw [if_pos h1, if_pos h1]
        by_cases h : 1 ≤ t
        · rw [if_pos h, if_pos h, dpL_app r y]
        · rw [if_neg h, if_neg h]
          rfl
      · rw [if_neg h1, if_neg h1]
        by_cases h : 2 ≤ t
        · rw [if_pos h, if_pos h, dpL_app r y]
        · rw [if_neg h, if_neg h]
          rfl
def balS (L : List Int32) : Prop := ∀ t, dpL L t = some (t + 1)
theorem bal_2 {x y : List Int32} {c : Int32} (hx : balS x) (hy : balS y) (hc : tkK c = 2) : balS (x ++ y ++ [c]) := by
  intro t
  rw [dpL_app, dpL_app, hx t]
  show ((dpL y (t + 1)).bind (dpL [c])) = _
  rw [hy (t + 1)]
  show dpL [c] (t + 1 + 1) = _
  rw [dpL, hc, if_neg (by decide), if_neg (by decide), if_pos (by omega)]
  rfl
theorem bal_1 {x : List Int32} {c : Int32} (hx : balS x) (hc : tkK c = 1) : balS (x ++ [c]) := by
  intro t
  rw [dpL_app, hx t]
  show dpL [c] (t + 1) = _
  rw [dpL, hc, if_neg (by decide), if_pos rfl, if_pos (by omega)]
  rfl
theorem bal_0 {c : Int32} (hc : tkK c = 0) : balS [c] := by
  intro t
  rw [dpL, if_pos hc]
  rfl
def gZ (N a : Nat) (z : tZ) : Prop := a ≤ z.2.1 ∧ z.2.1 ≤ N ∧ (z.1 = true → a < z.2.1 ∧ z.2.2.length + a ≤ z.2.1 ∧ (∀ c, c ∈ z.2.2 → tkOk c) ∧ balS z.2.2)
def Gd (N : Nat) (f : Nat → tZ) : Prop := ∀ a, a ≤ N → gZ N a (f a)
/-- signs between two -/
def okOp (op : Int32 → Bool) : Prop := op (-1) = false ∧ ∀ c, op c = true → tkOk (-c) ∧ tkK (-c) = 2
theorem ooM : okOp opM := by
  refine ⟨by decide +kernel, fun c h => ?_⟩
  unfold opM at h
  simp only [Bool.or_eq_true, beq_iff_eq] at h
  rcases h with (rfl | rfl) | rfl <;> exact ⟨Or.inr (by decide +kernel), by decide +kernel⟩
theorem ooA : okOp opA := by
  refine ⟨by decide +kernel, fun c h => ?_⟩
  unfold opA at h
  simp only [Bool.or_eq_true, beq_iff_eq] at h
  rcases h with rfl | rfl <;> exact ⟨Or.inr (by decide +kernel), by decide +kernel⟩
theorem ooB : okOp opB := by
  refine ⟨by decide +kernel, fun c h => ?_⟩
  unfold opB at h
  simp only [Bool.or_eq_true, beq_iff_eq] at h
  rcases h with (rfl | rfl) | rfl <;> exact ⟨Or.inr (by decide +kernel), by decide +kernel⟩
theorem ooN : okOp opN := by
  refine ⟨by decide +kernel, fun c h => ?_⟩
  unfold opN at h
  simp only [beq_iff_eq] at h
  rcases h with rfl
  exact ⟨Or.inr (by decide +kernel), by decide +kernel⟩
theorem ooO : okOp opO := by
  refine ⟨by decide +kernel, fun c h => ?_⟩
  unfold opO at h
  simp only [beq_iff_eq] at h
  rcases h with rfl
  exact ⟨Or.inr (by decide +kernel), by decide +kernel⟩
section GD
variable {t : Nat → Int32} {N : Nat} {f : Nat → tZ} {op : Int32 → Bool}
theorem sg_lt {a : Nat} {P : Int32 → Prop} (h : P (sxS t N a)) (h1 : ¬ P (-1)) : a < N := by
  unfold sxS at h
  split at h
  · assumption
  · exact absurd h h1
theorem op_lt (ho : okOp op) {a : Nat} (h : op (sxS t N a) = true) : a < N := sg_lt (P := fun c => op c = true) h (by rw [ho.1]; simp)
theorem gd_ch (ho : okOp op) (hf : Gd N f) : ∀ (m : Nat) (z : tZ) (a : Nat), gZ N a z → gZ N a (chS op (sxS t N) f m z) := by
  intro m
  induction m with
  | zero => intro z a h; exact h
  | succ m ih =>
    intro z a h
    by_cases c : z.1 = true ∧ op (sxS t N z.2.1) = true
    · rw [chS_yes c]
      refine ih _ a ?_
      obtain ⟨h1, h2, h3⟩ := h
      obtain ⟨h4, h5, h6, h7⟩ := h3 c.1
      have lt := op_lt ho c.2
      obtain ⟨g1, g2, g3⟩ := hf (z.2.1 + 1) (by omega)
      obtain ⟨o1, o2⟩ := ho.2 _ c.2
      refine ⟨by show a ≤ (f (z.2.1 + 1)).2.1; omega, g2, fun e => ?_⟩
      obtain ⟨g4, g5, g6, g7⟩ := g3 e
      refine ⟨by show a < (f (z.2.1 + 1)).2.1; omega, ?_, ?_, bal_2 h7 g7 o2⟩
      · show (z.2.2 ++ (f (z.2.1 + 1)).2.2 ++ [-(sxS t N z.2.1)]).length + a ≤ (f (z.2.1 + 1)).2.1
        rw [List.length_append, List.length_append]
        show z.2.2.length + (f (z.2.1 + 1)).2.2.length + 1 + a ≤ _
        omega
      · intro c' hc'
        rcases List.mem_append.mp hc' with q | q
        · rcases List.mem_append.mp q with q | q
          · exact h6 c' q
          · exact g6 c' q
        · rw [List.mem_singleton.mp q]
          exact o1
    · rw [chS_no c]
      exact h
theorem gd_P (hf : Gd N f) : Gd N (pzP (sxS t N) f) := fun a ha => gd_ch ooM hf 120 (f a) a (hf a ha)
theorem gd_S (hf : Gd N f) : Gd N (pzS (sxS t N) f) := fun a ha => gd_ch ooA (gd_P hf) 120 _ a (gd_P hf a ha)
theorem gd_B (hf : Gd N f) : Gd N (pzB (sxS t N) f) := fun a ha => gd_ch ooB (gd_S hf) 1 _ a (gd_S hf a ha)
theorem gd_A (hf : Gd N f) : Gd N (pzA (sxS t N) f) := fun a ha => gd_ch ooN (gd_B hf) 120 _ a (gd_B hf a ha)
theorem gd_E (hf : Gd N f) : Gd N (pzE (sxS t N) f) := fun a ha => gd_ch ooO (gd_A hf) 120 _ a (gd_A hf a ha)
theorem isD_n {c : Int32} (h : isD c = true) : ∃ w : Nat, w ≤ 9 ∧ c = nI (48 + w) := by
  obtain ⟨h1, h2⟩ := of_decide_eq_true h
  have h0 : ¬ c < 0 := by
    rw [Int32.lt_iff_toInt_lt, show (48 : Int32).toInt = 48 by decide] at h1
    rw [Int32.lt_iff_toInt_lt, show (0 : Int32).toInt = 0 by decide]
    omega
  obtain ⟨j, hj, rfl⟩ := nI_of2 (x := c) (M := 57) (n := 57) (by decide) h0 (Int32.not_lt.mp h2)
  have h3 : ¬ nI j < nI 48 := h1
  rw [nI_ltI (by omega) (by omega)] at h3
  exact ⟨j - 48, by omega, by rw [show 48 + (j - 48) = j by omega]⟩
theorem nu_v {w v : Nat} (hv : v ≤ 9) : 10 * nI w + nI (48 + v) - 48 = nI (10 * w + v) := by
  rw [show (10 : Int32) * nI w = nI (10 * w) from z_mul 10 w, nI_add]
  exact (z_sub (a := 10 * w + (48 + v)) (b := 48) (by omega)).trans (by rw [show 10 * w + (48 + v) - 48 = 10 * w + v by omega])
theorem nu_ok : ∀ (m a w : Nat), a ≤ N → (w + 1) * 10 ^ m ≤ 10000 → ∃ w' : Nat, w' ≤ 9999 ∧ (nuS (sxS t N) m a (nI w)).2 = nI w' ∧ a ≤ (nuS (sxS t N) m a (nI w)).1 ∧ (nuS (sxS t N) m a (nI w)).1 ≤ N ∧ (m ≠ 0 → isD (sxS t N a) = true → a < (nuS (sxS t N) m a (nI w)).1) := by
  intro m
  induction m with
  | zero =>
    intro a w ha hw
    exact ⟨w, by omega, rfl, Nat.le_refl a, ha, fun h => absurd rfl h⟩
  | succ m ih =>
    intro a w ha hw
    rw [nuS]
    by_cases h : isD (sxS t N a) = true
    · rw [if_pos h]
      have lt : a < N := sg_lt (P := fun c => isD c = true) h (by decide +kernel)
      obtain ⟨v, hv, e⟩ := isD_n h
      rw [e, nu_v hv]
      have hp : (10 * w + v + 1) * 10 ^ m ≤ 10000 := by
        refine Nat.le_trans (Nat.mul_le_mul_right _ (show 10 * w + v + 1 ≤ (w + 1) * 10 by omega)) ?_
        rw [Nat.mul_assoc, ← Nat.pow_succ']
        exact hw
      obtain ⟨w', h1, h2, h3, h4, -⟩ := ih (a + 1) (10 * w + v) (by omega) hp
      exact ⟨w', h1, h2, by omega, h4, fun _ _ => by omega⟩
    · rw [if_neg h]
      have hw' : w ≤ 9999 := by
        have : 1 ≤ 10 ^ (m + 1) := Nat.pow_pos (by decide)
        have := Nat.mul_le_mul_left (w + 1) this
        omega
      exact ⟨w, hw', rfl, Nat.le_refl a, ha, fun _ q => absurd q h⟩
theorem gd_num {a : Nat} (ha : a ≤ N) (h : isD (sxS t N a) = true) : gZ N a (true, (nuS (sxS t N) 4 a 0).1, [(nuS (sxS t N) 4 a 0).2]) := by
  obtain ⟨w, h1, h2, h3, h4, h5⟩ := nu_ok (t := t) 4 a 0 ha (by decide)
  have e0 : nI 0 = 0 := by decide
  rw [e0] at h2 h3 h4 h5
  have lt := h5 (by decide) h
  refine ⟨h3, h4, fun _ => ⟨lt, by show 1 + a ≤ (nuS (sxS t N) 4 a 0).1; omega, fun c hc => ?_, bal_0 ?_⟩⟩
  · rw [List.mem_singleton.mp hc]
    exact Or.inl ⟨w, h1, h2⟩
  · rw [h2]
    unfold tkK
    rw [if_pos (Or.inl (nI_pos' (by omega)))]
theorem isN_c {c : Int32} (h : isN c = true) : c = 108 ∨ c = 110 ∨ c = 114 ∨ c = 103 ∨ c = 98 ∨ c = 100 := by
  unfold isN at h
  simp only [Bool.or_eq_true, beq_iff_eq] at h
  rcases h with ((((h | h) | h) | h) | h) | h
  · exact Or.inl h
  · exact Or.inr (Or.inl h)
  · exact Or.inr (Or.inr (Or.inl h))
  · exact Or.inr (Or.inr (Or.inr (Or.inl h)))
  · exact Or.inr (Or.inr (Or.inr (Or.inr (Or.inl h))))
  · exact Or.inr (Or.inr (Or.inr (Or.inr (Or.inr h))))
theorem gd_nam {a : Nat} (h : isN (sxS t N a) = true) : gZ N a (true, a + 1, [-(sxS t N a)]) := by
  have lt : a < N := sg_lt (P := fun c => isN c = true) h (by decide +kernel)
  have key : tkOk (-(sxS t N a)) ∧ tkK (-(sxS t N a)) = 0 := by
    rcases isN_c h with e | e | e | e | e | e <;> rw [e] <;> exact ⟨Or.inr (by decide +kernel), by decide +kernel⟩
  refine ⟨by show a ≤ a + 1; omega, lt, fun _ => ⟨by show a < a + 1; omega, by show 1 + a ≤ a + 1; omega, fun c hc => ?_, bal_0 key.2⟩⟩
  rw [List.mem_singleton.mp hc]
  exact key.1
theorem gd_no {a : Nat} (ha : a ≤ N) : gZ N a (false, a, []) := ⟨Nat.le_refl a, ha, fun h => absurd h (by simp)⟩
theorem gd_R {a : Nat} {z : tZ} (h : gZ N (a + 1) z) : gZ N a (pzR (sxS t N) z) := by
  obtain ⟨h1, h2, h3⟩ := h
  unfold pzR
  by_cases c : z.1 = true ∧ sxS t N z.2.1 = 41
  · rw [if_pos c]
    have lt : z.2.1 < N := sg_lt (P := fun c => c = 41) c.2 (by decide +kernel)
    obtain ⟨h4, h5, h6, h7⟩ := h3 c.1
    exact ⟨by show a ≤ z.2.1 + 1; omega, lt, fun _ => ⟨by show a < z.2.1 + 1; omega, by show z.2.2.length + a ≤ z.2.1 + 1; omega, h6, h7⟩⟩
  · rw [if_neg c]
    exact ⟨by show a ≤ z.2.1; omega, h2, fun h => absurd h (by simp)⟩
theorem gd_N {a : Nat} {z : tZ} {c : Int32} (h : gZ N (a + 1) z) : gZ N a (pzN c z) := by
  obtain ⟨h1, h2, h3⟩ := h
  unfold pzN
  refine ⟨by show a ≤ z.2.1; omega, h2, fun e => ?_⟩
  obtain ⟨h4, h5, h6, h7⟩ := h3 e
  have key : tkOk (if c = 45 then -126 else -33) ∧ tkK (if c = 45 then -126 else -33) = 1 := by
    by_cases e : c = 45
    · rw [if_pos e]; exact ⟨Or.inr (by decide +kernel), by decide +kernel⟩
    · rw [if_neg e]; exact ⟨Or.inr (by decide +kernel), by decide +kernel⟩
  refine ⟨by show a < z.2.1; omega, ?_, fun c' hc' => ?_, bal_1 h7 key.2⟩
  · show (z.2.2 ++ [if c = 45 then -126 else -33]).length + a ≤ z.2.1
    rw [List.length_append]
    show z.2.2.length + 1 + a ≤ z.2.1
    omega
  · rcases List.mem_append.mp hc' with q | q
    · exact h6 c' q
    · rw [List.mem_singleton.mp q]
      exact key.1
theorem gd_O : ∀ o, Gd N (pzO (sxS t N) o) := by
  intro o
  induction o with
  | zero =>
    intro a ha
    rw [pzO]
    by_cases h1 : isD (sxS t N a) = true
    · rw [if_pos h1]; exact gd_num ha h1
    · rw [if_neg h1]
      by_cases h2 : isN (sxS t N a) = true
      · rw [if_pos h2]; exact gd_nam h2
      · rw [if_neg h2]; exact gd_no ha
  | succ o ih =>
    intro a ha
    rw [pzO]
    by_cases h1 : isD (sxS t N a) = true
    · rw [if_pos h1]; exact gd_num ha h1
    · rw [if_neg h1]
      by_cases h2 : isN (sxS t N a) = true
      · rw [if_pos h2]; exact gd_nam h2
      · rw [if_neg h2]
        by_cases h3 : sxS t N a = 40
        · rw [if_pos h3]
          have lt : a < N := sg_lt (P := fun c => c = 40) h3 (by decide +kernel)
          exact gd_R (gd_E ih (a + 1) lt)
        · rw [if_neg h3]
          by_cases h4 : sxS t N a = 33 ∨ sxS t N a = 45
          · rw [if_pos h4]
            have lt : a < N := sg_lt (P := fun c => c = 33 ∨ c = 45) h4 (by decide +kernel)
            exact gd_N (ih (a + 1) lt)
          · rw [if_neg h4]; exact gd_no ha
end GD
