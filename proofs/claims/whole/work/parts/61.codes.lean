/-! PURE: codes as lists; both sides work them out alike -/
def rwA (cd : Nat → Int32) : Nat → List Int32 → Prop
  | _, [] => True
  | i, c :: L => cd i = c ∧ rwA cd (i + 1) L
theorem rwA_app {cd : Nat → Int32} : ∀ {x y : List Int32} {i : Nat}, rwA cd i (x ++ y) ↔ rwA cd i x ∧ rwA cd (i + x.length) y
  | [], y, i => by
    show rwA cd i y ↔ True ∧ rwA cd (i + 0) y
    rw [true_and, Nat.add_zero]
  | c :: x, y, i => by
    show (cd i = c ∧ rwA cd (i + 1) (x ++ y)) ↔ (cd i = c ∧ rwA cd (i + 1) x) ∧ rwA cd (i + (x.length + 1)) y
    rw [rwA_app (x := x), and_assoc, show i + 1 + x.length = i + (x.length + 1) by omega]
theorem rwA_fr {cd cd' : Nat → Int32} : ∀ {L : List Int32} {i : Nat}, (∀ j, i ≤ j → j < i + L.length → cd' j = cd j) → rwA cd i L → rwA cd' i L
  | [], _, _, _ => trivial
  | c :: L, i, h, ⟨h1, h2⟩ => ⟨by rw [h i (Nat.le_refl i) (by show i < i + (L.length + 1); omega)]; exact h1, rwA_fr (fun j hj hj2 => h j (by omega) (by show j < i + (L.length + 1); omega)) h2⟩
def muS (c : Int32) : Int32 :=
  if 0 ≤ c then 18 + c else if c = -108 then 0 else if c = -110 then 1 else if c = -114 then 2 else if c = -103 then 3 else if c = -98 then 4 else if c = -100 then 5
  else if c = -124 then 6 else if c = -38 then 7 else if c = -60 then 8 else if c = -61 then 9 else if c = -62 then 10 else if c = -43 then 11 else if c = -45 then 12 else if c = -42 then 13 else if c = -47 then 14 else if c = -37 then 15 else if c = -33 then 16 else 17
def vaT (nm : Int32 → Int32) (c : Int32) : Int32 := if 0 ≤ c then c else nm (-c)
def unT (c x : Int32) : Int32 := if c = -126 then -x else if x = 0 then 1 else 0
def stT (nm : Int32 → Int32) (c : Int32) (st : List Int32) : List Int32 :=
  if tkK c = 0 then vaT nm c :: st else if tkK c = 1 then (match st with
    | [] => []
    | x :: r => unT c x :: r) else (match st with
    | y :: x :: r => jn x (-c) y :: r
    | s => s)
def ruT (nm : Int32 → Int32) : List Int32 → List Int32 → List Int32
  | [], st => st
  | c :: L, st => ruT nm L (stT nm c st)
theorem ru_app {nm : Int32 → Int32} : ∀ {x y st : List Int32}, ruT nm (x ++ y) st = ruT nm y (ruT nm x st)
  | [], _, _ => rfl
  | c :: x, y, st => ru_app (x := x)
theorem st_len (nm : Int32 → Int32) (c : Int32) (st : List Int32) : (stT nm c st).length ≤ st.length + 1 := by
  unfold stT
  split
  · exact Nat.le_refl _
  · split
    · cases st with
      | nil => exact Nat.zero_le _
      | cons x r => exact Nat.le_succ _
    · match st with
      | [] => exact Nat.zero_le _
      | [x] => exact Nat.le_succ _
      | y :: x :: r => show (r.length + 1) ≤ r.length + 1 + 1 + 1; omega
/-- what both sides ask of a code -/
theorem tk_all {c : Int32} (h : tkOk c) : ¬ c = -59 ∧ ¬ c = -63 ∧ 0 ≤ muS c ∧ ((18 ≤ muS c ∨ muS c ≤ 5) ↔ tkK c = 0) ∧ ((muS c = 16 ∨ muS c = 17) ↔ tkK c = 1) ∧ ((c = -126 ∨ c = -33) ↔ tkK c = 1) ∧ (tkK c = 0 → ∀ nm : Int32 → Int32, (if muS c < 18 then nm (chN (muS c)) else muS c - 18) = vaT nm c) ∧ (tkK c = 1 → (muS c = 17 ↔ c = -126)) ∧ (tkK c = 2 → ∀ x y : Int32, jnM (muS c) x y = jn x (-c) y) := by
  rcases h with ⟨w, hw, rfl⟩ | h
  · have p : 0 ≤ nI w := nI_pos' (by omega)
    have e : muS (nI w) = nI (18 + w) := by
      unfold muS
      rw [if_pos p]
      exact nI_add 18 w
    have k0 : tkK (nI w) = 0 := by unfold tkK; rw [if_pos (Or.inl p)]
    have ng : ∀ c : Int32, c < 0 → ¬ nI w = c := fun c hc q => by
      rw [q] at p
      exact absurd hc (Int32.not_lt.mpr p)
    have g18 : (18 : Int32) ≤ nI (18 + w) := nI_le (a := 18) (by omega) (by omega)
    have n18 : ¬ nI (18 + w) < 18 := Int32.not_lt.mpr g18
    refine ⟨ng _ (by decide), ng _ (by decide), ?_, ?_, ?_, ?_, ?_, ?_, ?_⟩
    · rw [e]; exact nI_pos' (by omega)
    · rw [e, k0]; exact ⟨fun _ => rfl, fun _ => Or.inl g18⟩
    · rw [e, k0]
      refine ⟨fun q => ?_, fun q => absurd q (by decide)⟩
      rcases q with q | q <;> rw [q] at g18 <;> exact absurd g18 (by decide)
    · rw [k0]
      refine ⟨fun q => ?_, fun q => absurd q (by decide)⟩
      rcases q with q | q
      · exact absurd q (ng _ (by decide))
      · exact absurd q (ng _ (by decide))
    · intro _ nm
      rw [e, if_neg n18]
      unfold vaT
      rw [if_pos p]
      exact (z_sub (a := 18 + w) (b := 18) (by omega)).trans (by rw [show 18 + w - 18 = w by omega])
    · intro q
      rw [k0] at q
      exact absurd q (by decide)
    · intro q
      rw [k0] at q
      exact absurd q (by decide)
  · simp only [tkL, List.mem_cons, List.mem_nil_iff, or_false] at h
    rcases h with rfl | rfl | rfl | rfl | rfl | rfl | rfl | rfl | rfl | rfl | rfl | rfl | rfl | rfl | rfl | rfl | rfl | rfl
    all_goals refine ⟨by decide +kernel, by decide +kernel, by decide +kernel, by decide +kernel, by decide +kernel, by decide +kernel, ?_, by decide +kernel, ?_⟩
    all_goals first
      | (intro q; exact absurd q (by decide +kernel))
      | (intro _ nm; rfl)
      | (intro _ x y; rfl)
section CO
variable {cd : Nat → Int32} {nm : Int32 → Int32}
theorem wk_run : ∀ (L : List Int32) (i m : Nat) (st : List Int32), rwA cd i L → (∀ c, c ∈ L → tkOk c) → st.length + L.length ≤ 121 → wk cd nm (L.length + m) i st true = wk cd nm m (i + L.length) (ruT nm L st) true
  | [], i, m, st, _, _, _ => by
    show wk cd nm (0 + m) i st true = wk cd nm m (i + 0) st true
    rw [Nat.zero_add, Nat.add_zero]
  | c :: L, i, m, st, ⟨h1, h2⟩, hc, hl => by
    have hl' : st.length + (L.length + 1) ≤ 121 := hl
    obtain ⟨a1, a2, a3, a4, a5, a6, a7, a8, a9⟩ := tk_all (hc c List.mem_cons_self)
    have next : wk cd nm (L.length + m) (i + 1) (stT nm c st) true = wk cd nm m (i + (L.length + 1)) (ruT nm L (stT nm c st)) true := by
      have := wk_run L (i + 1) m (stT nm c st) h2 (fun c' h' => hc c' (List.mem_cons_of_mem _ h')) (by have := st_len nm c st; omega)
      rw [this, show i + 1 + L.length = i + (L.length + 1) by omega]
    show wk cd nm (L.length + 1 + m) i st true = wk cd nm m (i + (L.length + 1)) (ruT nm L (stT nm c st)) true
    rw [← next, show L.length + 1 + m = L.length + m + 1 by omega, wk_succ, h1, if_neg (by decide), if_neg a1, if_neg a2]
    unfold stT
    by_cases k1 : tkK c = 1
    · rw [if_pos (a6.mpr k1), if_neg (by omega), if_pos k1]
      rfl
    · rw [if_neg (fun q => k1 (a6.mp q)), if_neg (c := tkK c = 1) k1]
      by_cases k0 : tkK c = 0
      · have k0' : 0 ≤ c ∨ isN (-c) = true := by
          refine Classical.byContradiction fun q => ?_
          unfold tkK at k0
          rw [if_neg q] at k0
          split at k0 <;> exact absurd k0 (by decide)
        rw [if_pos k0', if_pos (by omega), if_pos k0]
        rfl
      · have k0' : ¬ (0 ≤ c ∨ isN (-c) = true) := fun q => k0 (by unfold tkK; rw [if_pos q])
        rw [if_neg k0', if_neg k0]
        all_goals rfl
theorem wk_skip : ∀ (L : List Int32) (i m : Nat) (st : List Int32), rwA cd i L → (∀ c, c ∈ L → tkOk c) → wk cd nm (L.length + m) i st false = wk cd nm m (i + L.length) st false
  | [], i, m, st, _, _ => by
    show wk cd nm (0 + m) i st false = wk cd nm m (i + 0) st false
    rw [Nat.zero_add, Nat.add_zero]
  | c :: L, i, m, st, ⟨h1, h2⟩, hc => by
    obtain ⟨a1, -⟩ := tk_all (hc c List.mem_cons_self)
    show wk cd nm (L.length + 1 + m) i st false = wk cd nm m (i + (L.length + 1)) st false
    rw [show L.length + 1 + m = L.length + m + 1 by omega, wk_succ, if_pos rfl, h1, decide_eq_false a1, wk_skip L (i + 1) m st h2 (fun c' h' => hc c' (List.mem_cons_of_mem _ h')), show i + 1 + L.length = i + (L.length + 1) by omega]
theorem wkM_run : ∀ (L : List Int32) (i : Nat) (st : List Int32), rwA cd i (L.map muS) → (∀ c, c ∈ L → tkOk c) → wkM cd nm L.length i st = ruT nm L st
  | [], _, _, _, _ => rfl
  | c :: L, i, st, ⟨h1, h2⟩, hc => by
    obtain ⟨a1, a2, a3, a4, a5, a6, a7, a8, a9⟩ := tk_all (hc c List.mem_cons_self)
    have next := wkM_run L (i + 1) (stT nm c st) h2 (fun c' h' => hc c' (List.mem_cons_of_mem _ h'))
    show wkM cd nm (L.length + 1) i st = ruT nm L (stT nm c st)
    rw [← next, wkM_succ, h1]
    unfold stT
    by_cases k0 : tkK c = 0
    · rw [if_pos (a4.mpr k0), if_pos k0, a7 k0 nm]
    · rw [if_neg (fun q => k0 (a4.mp q)), if_neg k0]
      by_cases k1 : tkK c = 1
      · rw [if_pos (a5.mpr k1), if_pos k1]
        have e : ∀ x : Int32, (if muS c = 17 then -x else if x = 0 then 1 else 0) = unT c x := fun x => by
          unfold unT
          by_cases q : c = -126
          · rw [if_pos q, if_pos ((a8 k1).mpr q)]
          · rw [if_neg q, if_neg (fun z => q ((a8 k1).mp z))]
        cases st with
        | nil => rfl
        | cons x r =>
          show wkM cd nm L.length (i + 1) ((if muS c = 17 then -x else if x = 0 then 1 else 0) :: r) = wkM cd nm L.length (i + 1) (unT c x :: r)
          rw [e x]
      · rw [if_neg (fun q => k1 (a5.mp q)), if_neg k1]
        have k2 : tkK c = 2 := by
          unfold tkK at k0 k1 ⊢
          split at k0
          · exact absurd rfl k0
          · rename_i q
            rw [if_neg q] at k1 ⊢
            split at k1
            · exact absurd rfl k1
            · rename_i q2
              rw [if_neg q2]
        match st with
        | [] => rfl
        | [x] => rfl
        | y :: x :: r =>
          show wkM cd nm L.length (i + 1) (jnM (muS c) x y :: r) = _
          rw [a9 k2 x y]
theorem dpM_of : ∀ (L : List Int32) (i t : Nat), rwA cd i (L.map muS) → (∀ c, c ∈ L → tkOk c) → dpL L t = some 1 → dpM cd L.length i t
  | [], _, _, _, _, h => by
    cases h
    rfl
  | c :: L, i, t, ⟨h1, h2⟩, hc, h => by
    obtain ⟨a1, a2, a3, a4, a5, a6, a7, a8, a9⟩ := tk_all (hc c List.mem_cons_self)
    have next := fun t' => dpM_of L (i + 1) t' h2 (fun c' h' => hc c' (List.mem_cons_of_mem _ h'))
    show 0 ≤ cd i ∧ (if 18 ≤ cd i ∨ cd i ≤ 5 then dpM cd L.length (i + 1) (t + 1) else if cd i = 16 ∨ cd i = 17 then 1 ≤ t ∧ dpM cd L.length (i + 1) t else 2 ≤ t ∧ dpM cd L.length (i + 1) (t - 1))
    rw [h1]
    refine ⟨a3, ?_⟩
    rw [dpL] at h
    by_cases k0 : tkK c = 0
    · rw [if_pos k0] at h
      rw [if_pos (a4.mpr k0)]
      exact next _ h
    · rw [if_neg k0] at h
      rw [if_neg (fun q => k0 (a4.mp q))]
      by_cases k1 : tkK c = 1
      · rw [if_pos k1] at h
        rw [if_pos (a5.mpr k1)]
        split at h
        · exact ⟨‹_›, next _ h⟩
        · cases h
      · rw [if_neg k1] at h
        rw [if_neg (fun q => k1 (a5.mp q))]
        split at h
        · exact ⟨‹_›, next _ h⟩
        · cases h
end CO
/-! LINES: what is asked (nothing: none), what is said -/
abbrev tLn : Type := List (List Int32 × List Int32)
def okE (L : List Int32) : Prop := (∀ c, c ∈ L → tkOk c) ∧ balS L
def okLn (ls : tLn) : Prop := ∀ e, e ∈ ls → (e.1 = [] ∨ okE e.1) ∧ okE e.2
def flE (e : List Int32 × List Int32) : List Int32 := (if e.1.length = 0 then e.2 else e.1 ++ [-63] ++ e.2) ++ [-59]
def flS : tLn → List Int32
  | [] => []
  | e :: r => flE e ++ flS r
def evT (nm : Int32 → Int32) (L : List Int32) : Int32 := (ruT nm L []).headD 0
def vlS (nm : Int32 → Int32) : tLn → Int32
  | [] => 0
  | e :: r => if ¬ e.1.length = 0 ∧ evT nm e.1 = 0 then vlS nm r else evT nm e.2
section LI
variable {cd as sy en : Nat → Int32} {nm : Int32 → Int32}
theorem wk_lines : ∀ (ls : tLn) (i : Nat), rwA cd i (flS ls) → okLn ls → (flS ls).length ≤ 121 → wk cd nm (flS ls).length i [] true = vlS nm ls
  | [], _, _, _, _ => rfl
  | e :: r, i, h, hok, hl => by
    obtain ⟨o1, o2⟩ := hok e List.mem_cons_self
    have hok' : okLn r := fun e' h' => hok e' (List.mem_cons_of_mem _ h')
    have h' : rwA cd i (flE e ++ flS r) := h
    obtain ⟨hE, hR⟩ := rwA_app.mp h'
    have hlen : (flS (e :: r)).length = (flE e).length + (flS r).length := List.length_append
    have next := wk_lines r (i + (flE e).length) hR hok' (by omega)
    rw [hlen]
    unfold vlS
    by_cases h0 : e.1.length = 0
    · rw [if_neg (fun q => q.1 h0)]
      have eE : flE e = e.2 ++ [-59] := by unfold flE; rw [if_pos h0]
      rw [eE] at hE hlen ⊢
      obtain ⟨g1, g2, -⟩ := rwA_app.mp hE
      have len2 : (e.2 ++ [-59]).length = e.2.length + 1 := List.length_append
      rw [len2, show e.2.length + 1 + (flS r).length = e.2.length + ((flS r).length + 1) by omega, wk_run e.2 i _ [] g1 o2.1 (by show 0 + e.2.length ≤ 121; omega), wk_succ, g2, if_neg (by decide), if_pos rfl]
      rfl
    · have eE : flE e = e.1 ++ [-63] ++ e.2 ++ [-59] := by unfold flE; rw [if_neg h0]
      have o1' : okE e.1 := o1.resolve_left (fun q => h0 (by rw [q]; rfl))
      have len2 : (flE e).length = e.1.length + 1 + e.2.length + 1 := by
        rw [eE, List.length_append, List.length_append, List.length_append]
        rfl
      rw [eE] at hE
      obtain ⟨hE1, g4, -⟩ := rwA_app.mp hE
      obtain ⟨hE2, g3⟩ := rwA_app.mp hE1
      obtain ⟨g1, g2, -⟩ := rwA_app.mp hE2
      rw [List.length_append, List.length_append] at g4
      rw [List.length_append] at g3
      have g3' : rwA cd (i + e.1.length + 1) e.2 := g3
      have g4' : cd (i + e.1.length + 1 + e.2.length) = -59 := by
        rw [show i + e.1.length + 1 + e.2.length = i + (e.1.length + 1 + e.2.length) by omega]
        exact g4
      rw [len2, show e.1.length + 1 + e.2.length + 1 + (flS r).length = e.1.length + (e.2.length + ((flS r).length + 1) + 1) by omega, wk_run e.1 i _ [] g1 o1'.1 (by show 0 + e.1.length ≤ 121; omega), wk_succ, g2, if_neg (by decide), if_neg (by decide), if_pos rfl]
      have eb : (match ruT nm e.1 [] with
        | [] => false
        | x :: _ => decide (¬ x = 0)) = decide (¬ evT nm e.1 = 0) := by
        unfold evT
        cases ruT nm e.1 [] with
        | nil => rfl
        | cons x r => rfl
      refine Eq.trans (congrArg (wk cd nm (e.2.length + ((flS r).length + 1)) (i + e.1.length + 1) []) eb) ?_
      by_cases hz : evT nm e.1 = 0
      · rw [if_pos ⟨h0, hz⟩, decide_eq_false (fun q => q hz), wk_skip e.2 _ _ [] g3' o2.1, wk_succ, if_pos rfl, g4', decide_eq_true rfl, ← next, len2]
        rw [show i + e.1.length + 1 + e.2.length + 1 = i + (e.1.length + 1 + e.2.length + 1) by omega]
      · rw [if_neg (fun q => hz q.2), decide_eq_true hz, wk_run e.2 _ _ [] g3' o2.1 (by show 0 + e.2.length ≤ 121; omega), wk_succ, g4', if_neg (by decide), if_pos rfl]
        rfl
def lnA (as sy en cd : Nat → Int32) : Nat → Nat → tLn → Prop
  | _, _, [] => True
  | i, A, e :: r => as i = nI A ∧ sy i = nI (A + e.1.length) ∧ en i = nI (A + e.1.length + e.2.length) ∧ rwA cd A (e.1.map muS) ∧ rwA cd (A + e.1.length) (e.2.map muS) ∧ lnA as sy en cd (i + 1) (A + e.1.length + e.2.length) r
def szL : tLn → Nat
  | [] => 0
  | e :: r => e.1.length + e.2.length + szL r
theorem bl_lines : ∀ (ls : tLn) (i A : Nat), lnA as sy en cd i A ls → okLn ls → A + szL ls ≤ 200 → blS as sy en cd nm ls.length i = vlS nm ls
  | [], _, _, _, _, _ => rfl
  | e :: r, i, A, ⟨h1, h2, h3, h4, h5, h6⟩, hok, hl => by
    obtain ⟨o1, o2⟩ := hok e List.mem_cons_self
    have hl' : A + (e.1.length + e.2.length + szL r) ≤ 200 := hl
    have next := bl_lines r (i + 1) (A + e.1.length + e.2.length) h6 (fun e' h' => hok e' (List.mem_cons_of_mem _ h')) (by omega)
    show blS as sy en cd nm (r.length + 1) i = _
    unfold blS vlS
    rw [h1, h2, h3, nI_clamp (by omega), nI_clamp (by omega), nI_clamp (by omega), next]
    have e2 : evM cd nm (A + e.1.length) (A + e.1.length + e.2.length) = evT nm e.2 := by
      unfold evM evT
      rw [Nat.add_sub_cancel_left, wkM_run e.2 _ [] h5 o2.1]
    rw [e2]
    by_cases h0 : e.1.length = 0
    · rw [if_neg (fun q => absurd q.1 (by rw [h0]; exact nI_nlt (by omega) (by omega))), if_neg (fun q => q.1 h0)]
    · have o1' : okE e.1 := o1.resolve_left (fun q => h0 (by rw [q]; rfl))
      have e1 : evM cd nm A (A + e.1.length) = evT nm e.1 := by
        unfold evM evT
        rw [Nat.add_sub_cancel_left, wkM_run e.1 _ [] h4 o1'.1]
      rw [e1]
      by_cases hz : evT nm e.1 = 0
      · rw [if_pos ⟨nI_lt (by omega) (by omega), hz⟩, if_pos ⟨h0, hz⟩]
      · rw [if_neg (fun q => hz q.2), if_neg (fun q => hz q.2)]
theorem ok_lines : ∀ (ls : tLn) (i A : Nat), lnA as sy en cd i A ls → okLn ls → A + szL ls ≤ 200 → ∀ j, j < ls.length → ∃ A S E : Nat, as (i + j) = nI A ∧ sy (i + j) = nI S ∧ en (i + j) = nI E ∧ A ≤ S ∧ S ≤ E ∧ E ≤ 200 ∧ (A < S → dpM cd (S - A) A 0) ∧ dpM cd (E - S) S 0
  | [], _, _, _, _, _, j, hj => absurd hj (Nat.not_lt_zero j)
  | e :: r, i, A, ⟨h1, h2, h3, h4, h5, h6⟩, hok, hl, j, hj => by
    obtain ⟨o1, o2⟩ := hok e List.mem_cons_self
    have hl' : A + (e.1.length + e.2.length + szL r) ≤ 200 := hl
    cases j with
    | zero =>
      refine ⟨A, A + e.1.length, A + e.1.length + e.2.length, h1, h2, h3, by omega, by omega, by omega, fun lt => ?_, ?_⟩
      · have h0 : ¬ e.1.length = 0 := by omega
        have o1' : okE e.1 := o1.resolve_left (fun q => h0 (by rw [q]; rfl))
        rw [Nat.add_sub_cancel_left]
        exact dpM_of e.1 A 0 h4 o1'.1 (o1'.2 0)
      · rw [Nat.add_sub_cancel_left]
        exact dpM_of e.2 _ 0 h5 o2.1 (o2.2 0)
    | succ j =>
      have hj' : j + 1 < r.length + 1 := hj
      have := ok_lines r (i + 1) _ h6 (fun e' h' => hok e' (List.mem_cons_of_mem _ h')) (by omega) j (by omega)
      rw [show i + 1 + j = i + (j + 1) by omega] at this
      exact this
end LI
