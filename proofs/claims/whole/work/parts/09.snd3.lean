/-! THE ABSTRACT MACHINE IS THE MACHINE, part 3: an instruction on the memory -/
section S3
variable {p : Program} {l : Launch} {e : Env} {R : Room} {s : State} {m : MethodId} {args : Array Value} {below : List Frame} {meth : Method} {c : Code} {H : Heap} {locs : List Loc} {cells slots : Nat} {Q : State → Prop}
variable {pc len d y z B : Nat} {ext : Nat → Nat} {ls : Array Slot} {st st1 r : List Value} {i : Jvm.ClassFile.Instr} {M : rM} {X : Nat → Nat × (Nat → Int32)} {dC : Nat → ClassId} {dI : Nat → Nat → Nat} {cI cL cS : ClassId}
variable {T : List (Nat × Nat)} {I : Nat → Nat → Int32} {J : Nat → Nat → Int64} {Rr : Nat → Nat → Option Nat} {σ1 : rS} {a b k ci f n : Nat}
theorem lt_of_get {T : List (Nat × Nat)} {a : Nat} {x : Nat × Nat} (h : T[a]? = some x) : a < T.length := (List.getElem?_eq_some_iff.mp h).1
theorem w_getf (hx : p.tables.exec = Jvm.exec) (hb : c.code = M.2.2.1) (hts : ∀ w ∈ lw_gd, w.before args s = true) (hown : s.vm.findClass (rNm M.1) = some m.cls) (hC : Cx B dC dI cI cL cS ext X s)
    (hdg : decode M.2.2.1 pc = .ok (.getfield k, 3)) (hP : va_P (dC, dI) vwCl (rWd B cI cL cS (T, I, J, Rr)) H) (hA : rA (rFT M.1) k = some (ci, f)) (hT : T[a]? = some (3, ci)) {v : Value} (hv : v = if (rFK ci)[f]? = some 2 then va_rf ((Rr a f).map (fun x => B + x)) else .int (I a f))
    (kk : W p l e R s m args below meth c H locs cells slots Q (F0 m (pc + 3) ls (v :: r))) : W p l e R s m args below meth c H locs cells slots Q (F0 m pc ls (.ref (B + a) :: r)) := by
  obtain ⟨rc, hrc, hlt, hmem⟩ := okF_all M.1 _ (rA_mem hA)
  obtain ⟨hws, hlen, hnm, hdecl, hname, ty, hty, hkinds⟩ := okK_all ci rc hrc
  have he : (rWd B cI cL cS (T, I, J, Rr))[a]? = some (B + a, .inr (ci, rFs B I Rr a ci)) := by
    rw [rWd_get (σ := (T, I, J, Rr)) (lt_of_get hT)]
    rw [show rCe B cI cL cS (T, I, J, Rr).1 (T, I, J, Rr).2.1 (T, I, J, Rr).2.2.1 (T, I, J, Rr).2.2.2 a = .inr (ci, rFs B I Rr a ci) from rCe3 hT]
  exact va_get (D := (dC, dI)) (C := rc.1) (T := rc.2.1) (N := rc.2.2) hx hb hts (gd_ws hws) hown hC.1 hP a he hrc f hlt (hts _ (gd_mem hmem rfl)) (fun _ h => h) (v := v) (by rw [rFs_at (by rw [← hlen]; exact hlt), hv]) hdg kk
theorem w_put {v : Value} (hx : p.tables.exec = Jvm.exec) (hb : c.code = M.2.2.1) (hts : ∀ w ∈ lw_gd, w.before args s = true) (hown : s.vm.findClass (rNm M.1) = some m.cls) (hnm : M.2.1.name = "<init>" → meth.name = "<init>") (hC : Cx B dC dI cI cL cS ext X s)
    (hdg : decode M.2.2.1 pc = .ok (.putfield k, 3)) (hP : va_P (dC, dI) vwCl (rWd B cI cL cS (T, I, J, Rr)) H) (hS : va_S (fun q => B ≤ q) s.heap H locs) (hA : rA (rFT M.1) k = some (ci, f)) (hT : T[a]? = some (3, ci)) (hput : rPut M ci f = true) (hσ : σ1.1 = T)
    (hfit : ∀ t : FieldType, ((rFK ci)[f]? = some 0 ∧ t = .int ∨ (rFK ci)[f]? = some 1 ∧ t = .boolean ∨ (rFK ci)[f]? = some 2 ∧ t.isReference = true) → narrow t v = v ∧ fits t v = true)
    (hset : (rFs B I Rr a ci).set f v = rFs B σ1.2.1 σ1.2.2.2 a ci) (ho : ∀ j, j ≠ a → rCe B cI cL cS σ1.1 σ1.2.1 σ1.2.2.1 σ1.2.2.2 j = rCe B cI cL cS T I J Rr j)
    (kk : ∀ (H' : Heap) (locs' : List Loc), va_P (dC, dI) vwCl (rWd B cI cL cS σ1) H' → va_S (fun q => B ≤ q) s.heap H' locs' → W p l e R s m args below meth c H' locs' cells slots Q (F0 m (pc + 3) ls r)) : W p l e R s m args below meth c H locs cells slots Q (F0 m pc ls (v :: .ref (B + a) :: r)) := by
  obtain ⟨rc, hrc, hlt, hmem⟩ := okF_all M.1 _ (rA_mem hA)
  obtain ⟨hws, hlen, hnm0, hdecl, hname, ty, hty, hkinds⟩ := okK_all ci rc hrc
  have he : (rWd B cI cL cS (T, I, J, Rr))[a]? = some (B + a, .inr (ci, rFs B I Rr a ci)) := by
    rw [rWd_get (σ := (T, I, J, Rr)) (lt_of_get hT)]
    rw [show rCe B cI cL cS (T, I, J, Rr).1 (T, I, J, Rr).2.1 (T, I, J, Rr).2.2.1 (T, I, J, Rr).2.2.2 a = .inr (ci, rFs B I Rr a ci) from rCe3 hT]
  have hft := hfit (ty f) (by
    rcases hkinds f hlt with h | h | h
    · exact Or.inl h
    · exact Or.inr (Or.inl h)
    · exact Or.inr (Or.inr ⟨h.1, h.2.2.2⟩))
  have hse : (rWd B cI cL cS (T, I, J, Rr)).set a (B + a, .inr (ci, (rFs B I Rr a ci).set f v)) = rWd B cI cL cS σ1 := by
    refine rWd_set hσ ?_ ho
    rw [hset]
    exact (rCe3 (by rw [hσ]; exact hT)).symm
  unfold rPut at hput
  rw [hrc] at hput
  by_cases hfin : (rc.2.1 f).2.2.2 = false
  · exact va_put (D := (dC, dI)) (C := rc.1) (T := rc.2.1) (N := rc.2.2) hx hb hts (gd_ws hws) ty hty hnm0 hown hC.1 hP rWd_D hS a he hrc f hlt (hts _ (gd_mem hmem rfl)) (fun _ h => h) hfin (hty f hlt) hft.1 hft.2 (by rw [rFs_len, ← hlen]; exact hlt) hdg (fun H1 locs1 hP1 _ hS1 => kk H1 locs1 (by rw [← hse]; exact hP1) hS1)
  · have hfin : (rc.2.1 f).2.2.2 = true := by simpa using hfin
    have hp2 : M.2.1.name = "<init>" ∧ ci = M.1 := by simpa [hfin] using hput
    exact va_putF (D := (dC, dI)) (C := rc.1) (T := rc.2.1) (N := rc.2.2) hx hb hts (gd_ws hws) ty hty hnm0 hown hC.1 hP rWd_D hS a he hrc f hlt (hts _ (gd_mem hmem rfl)) (fun _ h => h) hfin (hnm hp2.1) (by rw [hdecl f hlt, hname, hp2.2]) (hty f hlt) hft.1 hft.2 (by rw [rFs_len, ← hlen]; exact hlt) hdg (fun H1 locs1 hP1 _ hS1 => kk H1 locs1 (by rw [← hse]; exact hP1) hS1)
theorem w_iald {q : Int32} (hx : p.tables.exec = Jvm.exec) (hb : c.code = M.2.2.1) (hC : Cx B dC dI cI cL cS ext X s) (hdg : decode M.2.2.1 pc = .ok (.iaload, 1)) (hP : va_P (dC, dI) vwCl (rWd B cI cL cS (T, I, J, Rr)) H) (hT : T[a]? = some (0, n)) (hq : ¬ (q < 0 ∨ n ≤ q.toNatClampNeg))
    (kk : W p l e R s m args below meth c H locs cells slots Q (F0 m (pc + 1) ls (.int (I a q.toNatClampNeg) :: r))) : W p l e R s m args below meth c H locs cells slots Q (F0 m pc ls (.int q :: .ref (B + a) :: r)) :=
  va_iald hx hb hC.1 hP a 0 ((rWd_get (σ := (T, I, J, Rr)) (lt_of_get hT)).trans (congrArg (fun x => some (B + a, x)) (rCe0 hT))) rfl hq hdg kk
theorem w_lald {q : Int32} (hx : p.tables.exec = Jvm.exec) (hb : c.code = M.2.2.1) (hC : Cx B dC dI cI cL cS ext X s) (hdg : decode M.2.2.1 pc = .ok (.laload, 1)) (hP : va_P (dC, dI) vwCl (rWd B cI cL cS (T, I, J, Rr)) H) (hT : T[a]? = some (1, n)) (hq : ¬ (q < 0 ∨ n ≤ q.toNatClampNeg))
    (kk : W p l e R s m args below meth c H locs cells slots Q (F0 m (pc + 1) ls (.long (J a q.toNatClampNeg) :: r))) : W p l e R s m args below meth c H locs cells slots Q (F0 m pc ls (.int q :: .ref (B + a) :: r)) :=
  va_lald hx hb hC.1 hP a 1 ((rWd_get (σ := (T, I, J, Rr)) (lt_of_get hT)).trans (congrArg (fun x => some (B + a, x)) (rCe1 hT))) rfl hq hdg kk
theorem w_aald {q : Int32} (hx : p.tables.exec = Jvm.exec) (hb : c.code = M.2.2.1) (hC : Cx B dC dI cI cL cS ext X s) (hdg : decode M.2.2.1 pc = .ok (.aaload, 1)) (hP : va_P (dC, dI) vwCl (rWd B cI cL cS (T, I, J, Rr)) H) (hT : T[a]? = some (2, n)) (hq : ¬ (q < 0 ∨ n ≤ q.toNatClampNeg))
    (kk : W p l e R s m args below meth c H locs cells slots Q (F0 m (pc + 1) ls (va_rf ((Rr a q.toNatClampNeg).map (fun x => B + x)) :: r))) : W p l e R s m args below meth c H locs cells slots Q (F0 m pc ls (.int q :: .ref (B + a) :: r)) :=
  va_aldq hx hb hC.1 hP a 2 ((rWd_get (σ := (T, I, J, Rr)) (lt_of_get hT)).trans (congrArg (fun x => some (B + a, x)) (rCe2 hT))) rfl hq hdg kk
theorem w_iast {q x : Int32} (hx : p.tables.exec = Jvm.exec) (hb : c.code = M.2.2.1) (hC : Cx B dC dI cI cL cS ext X s) (hdg : decode M.2.2.1 pc = .ok (.iastore, 1)) (hP : va_P (dC, dI) vwCl (rWd B cI cL cS (T, I, J, Rr)) H) (hS : va_S (fun q => B ≤ q) s.heap H locs) (hT : T[a]? = some (0, n)) (hq : ¬ (q < 0 ∨ n ≤ q.toNatClampNeg))
    (kk : ∀ (H' : Heap) (locs' : List Loc), va_P (dC, dI) vwCl (rWd B cI cL cS (T, va_up I a (va_up (I a) q.toNatClampNeg x), J, Rr)) H' → va_S (fun q => B ≤ q) s.heap H' locs' → W p l e R s m args below meth c H' locs' cells slots Q (F0 m (pc + 1) ls r)) : W p l e R s m args below meth c H locs cells slots Q (F0 m pc ls (.int x :: .int q :: .ref (B + a) :: r)) := by
  refine va_iast hx hb hC.1 hP rWd_D hS a 0 ((rWd_get (σ := (T, I, J, Rr)) (lt_of_get hT)).trans (congrArg (fun x => some (B + a, x)) (rCe0 hT))) rfl hq hdg (fun H1 locs1 hP1 _ hS1 => kk H1 locs1 ?_ hS1)
  rw [rWd_set (σ := (T, I, J, Rr)) (σ1 := (T, va_up I a (va_up (I a) q.toNatClampNeg x), J, Rr)) rfl ?_ (fun j hj => rCe_I hj)] at hP1
  · exact hP1
  · refine Eq.trans ?_ (rCe0 hT).symm
    congr 4
    funext j
    simp [va_up, upd]
theorem w_last {q : Int32} {x : Int64} (hx : p.tables.exec = Jvm.exec) (hb : c.code = M.2.2.1) (hC : Cx B dC dI cI cL cS ext X s) (hdg : decode M.2.2.1 pc = .ok (.lastore, 1)) (hP : va_P (dC, dI) vwCl (rWd B cI cL cS (T, I, J, Rr)) H) (hS : va_S (fun q => B ≤ q) s.heap H locs) (hT : T[a]? = some (1, n)) (hq : ¬ (q < 0 ∨ n ≤ q.toNatClampNeg))
    (kk : ∀ (H' : Heap) (locs' : List Loc), va_P (dC, dI) vwCl (rWd B cI cL cS (T, I, va_up J a (va_up (J a) q.toNatClampNeg x), Rr)) H' → va_S (fun q => B ≤ q) s.heap H' locs' → W p l e R s m args below meth c H' locs' cells slots Q (F0 m (pc + 1) ls r)) : W p l e R s m args below meth c H locs cells slots Q (F0 m pc ls (.long x :: .int q :: .ref (B + a) :: r)) := by
  refine va_last hx hb hC.1 hP rWd_D hS a 1 ((rWd_get (σ := (T, I, J, Rr)) (lt_of_get hT)).trans (congrArg (fun x => some (B + a, x)) (rCe1 hT))) rfl hq hdg (fun H1 locs1 hP1 _ hS1 => kk H1 locs1 ?_ hS1)
  rw [rWd_set (σ := (T, I, J, Rr)) (σ1 := (T, I, va_up J a (va_up (J a) q.toNatClampNeg x), Rr)) rfl ?_ (fun j hj => rCe_J hj)] at hP1
  · exact hP1
  · refine Eq.trans ?_ (rCe1 hT).symm
    congr 5
    funext j
    simp [va_up, vp_updL]
theorem w_aast {q : Int32} (hx : p.tables.exec = Jvm.exec) (hb : c.code = M.2.2.1) (hC : Cx B dC dI cI cL cS ext X s) (hdg : decode M.2.2.1 pc = .ok (.aastore, 1)) (hP : va_P (dC, dI) vwCl (rWd B cI cL cS (T, I, J, Rr)) H) (hS : va_S (fun q => B ≤ q) s.heap H locs) (hT : T[a]? = some (2, n)) (hv : T[b]? = some (3, 4)) (hq : ¬ (q < 0 ∨ n ≤ q.toNatClampNeg))
    (kk : ∀ (H' : Heap) (locs' : List Loc), va_P (dC, dI) vwCl (rWd B cI cL cS (T, I, J, va_up Rr a (va_up (Rr a) q.toNatClampNeg (some b)))) H' → va_S (fun q => B ≤ q) s.heap H' locs' → W p l e R s m args below meth c H' locs' cells slots Q (F0 m (pc + 1) ls r)) : W p l e R s m args below meth c H locs cells slots Q (F0 m pc ls (.ref (B + b) :: .int q :: .ref (B + a) :: r)) := by
  refine va_astq hx hb hC.1 hP rWd_D hS a 2 b 4 (r := (RX4, TX4, 5)) ((rWd_get (σ := (T, I, J, Rr)) (lt_of_get hT)).trans (congrArg (fun x => some (B + a, x)) (rCe2 hT))) rfl ((rWd_get (σ := (T, I, J, Rr)) (lt_of_get hv)).trans (congrArg (fun x => some (B + b, x)) (rCe3 hv))) rfl hq hdg (fun H1 locs1 hP1 _ hS1 => kk H1 locs1 ?_ hS1)
  rw [rWd_set (σ := (T, I, J, Rr)) (σ1 := (T, I, J, va_up Rr a (va_up (Rr a) q.toNatClampNeg (some b)))) rfl ?_ (fun j hj => rCe_R hj)] at hP1
  · exact hP1
  · refine Eq.trans ?_ (rCe2 hT).symm
    congr 7
    funext j
    by_cases hj : j = q.toNatClampNeg <;> simp [va_up, hj]
theorem w_fresh {g : Nat → JFrame} {q : Nat} {x : va_E} {H1 : Heap} (hP1 : va_P (dC, dI) vwCl (rWd B cI cL cS (T, I, J, Rr) ++ [(q, x)]) H1) (hD1 : va_D (fun q => B ≤ q) (rWd B cI cL cS (T, I, J, Rr) ++ [(q, x)])) (hy : s.heap.size = B + y) (hcl : cells + y = T.length + 1) (k : q = B + T.length → W p l e R s m args below meth c H1 locs cells slots Q (g q)) : W p l e R s m args below meth c H1 locs cells slots Q (g q) := by
  intro T0 hT0 X0
  refine k ?_ T0 hT0 X0
  have h1 : T0.heap.size ≤ s.heap.size + cells := X0.same.2.2.1
  rw [hT0] at h1
  have hq : (rWd B cI cL cS (T, I, J, Rr) ++ [(q, x)])[T.length]? = some (q, x) := by
    rw [List.getElem?_append_right (by rw [rWd_len]; exact Nat.le_refl _), rWd_len]
    simp
  have h2 : q < H1.size := (hP1 _ _ hq).lt
  have h3 : B ≤ q := hD1.2 _ _ hq
  by_cases h4 : q = B + T.length
  · exact h4
  · exfalso
    have h5 : q - B < T.length := by omega
    have h6 : (rWd B cI cL cS (T, I, J, Rr) ++ [(q, x)])[q - B]? = some (B + (q - B), rCe B cI cL cS T I J Rr (q - B)) := by
      rw [List.getElem?_append_left (by rw [rWd_len]; exact h5)]
      exact rWd_get (σ := (T, I, J, Rr)) h5
    have := hD1.1 _ _ _ _ h6 hq (by show B + (q - B) = q; omega)
    omega
theorem rCe_fresh {B : Nat} {cI cL cS : ClassId} {j t : Nat} (h : j < t) {α : Type} (I : Nat → α) (f : α) : va_up I t f j = I j := by
  have : j ≠ t := by omega
  simp [va_up, this]
theorem w_new (hx : p.tables.exec = Jvm.exec) (hb : c.code = M.2.2.1) (hts : ∀ w ∈ lw_gd, w.before args s = true) (hown : s.vm.findClass (rNm M.1) = some m.cls) (hC : Cx B dC dI cI cL cS ext X s) (hdg : decode M.2.2.1 pc = .ok (.new k, 3)) (hP : va_P (dC, dI) vwCl (rWd B cI cL cS (T, I, J, Rr)) H) (hS : va_S (fun q => B ≤ q) s.heap H locs) (hy : s.heap.size = B + y) (hcl : cells + y = T.length) (hA : rA (rNW M.1) k = some ci) (hrc : cells + 1 ≤ R.cells) (hrs : slots + (rFK ci).length ≤ R.slots)
    (kk : ∀ (H' : Heap) (locs' : List Loc), va_P (dC, dI) vwCl (rWd B cI cL cS (T ++ [(3, ci)], va_up I T.length (fun _ => 0), J, va_up Rr T.length (fun _ => none))) H' → va_S (fun q => B ≤ q) s.heap H' locs' → W p l e R s m args below meth c H' locs' (cells + 1) (slots + (rFK ci).length) Q (F0 m (pc + 3) ls (.ref (B + T.length) :: r))) : W p l e R s m args below meth c H locs cells slots Q (F0 m pc ls r) := by
  obtain ⟨rc, hrc0, hl1, hl2, hl3⟩ := okN_all M.1 _ (rA_mem hA)
  obtain ⟨hws, hlen, hnm0, hdecl, hname, ty, hty, hkinds⟩ := okK_all ci rc hrc0
  refine va_new (D := (dC, dI)) (C := rc.1) (T := rc.2.1) (N := rc.2.2) (fs := rFs B (va_up I T.length (fun _ => 0)) (va_up Rr T.length (fun _ => none)) T.length ci) hx hb hts (gd_ws hws) ty hty hown (hts _ (gd_mem hl1 rfl)) (hts _ (gd_mem hl2 rfl)) (hts _ (gd_mem hl3 rfl)) hC.1 hP rWd_D hS (fun q h => by rw [hy] at h; show B ≤ q; omega) hrc0 ?_ hrc (by rw [hlen]; exact hrs) hdg (fun q H1 hP1 hD1 hS1 => ?_)
  · intro j hj
    rw [hlen] at hj
    rw [vp_V, List.getD_eq_getElem?_getD, rFs_at hj]
    rcases hkinds j (by rw [hlen]; exact hj) with h | h | h
    · simp [h.1, h.2, va_up, defaultValue]
    · simp [h.1, h.2, va_up, defaultValue]
    · simp [h.1, h.2.2.1, va_up, va_rf]
  · rw [hlen]
    refine w_fresh (g := fun q => F0 m (pc + 3) ls (.ref q :: r)) hP1 hD1 hy (by omega) (fun hq => ?_)
    subst hq
    refine kk H1 locs ?_ hS1
    rw [← rWd_push (σ := (T, I, J, Rr)) (x := .inr (ci, rFs B (va_up I T.length (fun _ => 0)) (va_up Rr T.length (fun _ => none)) T.length ci)) rfl ?_ ?_]
    · exact hP1
    · exact (rCe3 (by simp)).symm
    · intro j hj
      have hj' : j < T.length := hj
      show rCe B cI cL cS (T ++ [(3, ci)]) _ _ _ j = rCe B cI cL cS T I J Rr j
      rw [rCe_T hj', rCe_I (by omega), rCe_R (by omega)]
theorem w_newI {q : Int32} (hx : p.tables.exec = Jvm.exec) (hb : c.code = M.2.2.1) (hts : ∀ w ∈ lw_gd, w.before args s = true) (hC : Cx B dC dI cI cL cS ext X s) (hdg : decode M.2.2.1 pc = .ok (.newarray .int, 2)) (hP : va_P (dC, dI) vwCl (rWd B cI cL cS (T, I, J, Rr)) H) (hS : va_S (fun q => B ≤ q) s.heap H locs) (hy : s.heap.size = B + y) (hcl : cells + y = T.length) (hq : ¬ (q < 0 ∨ 1000 < q.toNatClampNeg)) (hrc : cells + 1 ≤ R.cells) (hrs : slots + q.toNatClampNeg ≤ R.slots)
    (kk : ∀ (H' : Heap) (locs' : List Loc), va_P (dC, dI) vwCl (rWd B cI cL cS (T ++ [(0, q.toNatClampNeg)], va_up I T.length (fun _ => 0), J, Rr)) H' → va_S (fun q => B ≤ q) s.heap H' locs' → W p l e R s m args below meth c H' locs' (cells + 1) (slots + q.toNatClampNeg) Q (F0 m (pc + 2) ls (.ref (B + T.length) :: r))) : W p l e R s m args below meth c H locs cells slots Q (F0 m pc ls (.int q :: r)) := by
  refine va_newa (atype := .int) (ty := .int) (a0 := (q.toNatClampNeg, .inl (fun _ => 0))) hx hb (hts _ (gd_mem ok_aI rfl)) rfl hC.1 hP rWd_D hS (fun q h => by rw [hy] at h; show B ≤ q; omega) (fun _ => rfl) (fun h => hq (Or.inl h)) rfl (by show _ * 4 ≤ _; omega) hrc hrs hdg (fun q1 cA H1 hK1 hP1 hD1 hS1 => ?_)
  have hcA : cA = cI := by
    have h1 := (hK1.2 3 (cA, .int) rfl).2
    have h2 := (hC.1.2 0 (cI, .int) rfl).2
    exact Option.some.inj (Eq.trans (Eq.symm h1) h2)
  subst hcA
  refine w_fresh (g := fun q => F0 m (pc + 2) ls (.ref q :: r)) hP1 hD1 hy (by omega) (fun hq1 => ?_)
  subst hq1
  refine kk H1 locs ?_ hS1
  rw [← rWd_push (σ := (T, I, J, Rr)) (x := .inl (cA, (q.toNatClampNeg, .inl (fun _ => 0)))) rfl ?_ ?_]
  · exact hP1
  · refine Eq.trans ?_ (rCe0 (n := q.toNatClampNeg) (by simp)).symm
    congr 4
    funext j
    simp [va_up]
  · intro j hj
    have hj' : j < T.length := hj
    show rCe B cA cL cS (T ++ [(0, q.toNatClampNeg)]) _ _ _ j = rCe B cA cL cS T I J Rr j
    rw [rCe_T hj', rCe_I (by omega)]
theorem w_newL {q : Int32} (hx : p.tables.exec = Jvm.exec) (hb : c.code = M.2.2.1) (hts : ∀ w ∈ lw_gd, w.before args s = true) (hC : Cx B dC dI cI cL cS ext X s) (hdg : decode M.2.2.1 pc = .ok (.newarray .long, 2)) (hP : va_P (dC, dI) vwCl (rWd B cI cL cS (T, I, J, Rr)) H) (hS : va_S (fun q => B ≤ q) s.heap H locs) (hy : s.heap.size = B + y) (hcl : cells + y = T.length) (hq : ¬ (q < 0 ∨ 1000 < q.toNatClampNeg)) (hrc : cells + 1 ≤ R.cells) (hrs : slots + q.toNatClampNeg ≤ R.slots)
    (kk : ∀ (H' : Heap) (locs' : List Loc), va_P (dC, dI) vwCl (rWd B cI cL cS (T ++ [(1, q.toNatClampNeg)], I, va_up J T.length (fun _ => 0), Rr)) H' → va_S (fun q => B ≤ q) s.heap H' locs' → W p l e R s m args below meth c H' locs' (cells + 1) (slots + q.toNatClampNeg) Q (F0 m (pc + 2) ls (.ref (B + T.length) :: r))) : W p l e R s m args below meth c H locs cells slots Q (F0 m pc ls (.int q :: r)) := by
  refine va_newa (atype := .long) (ty := .long) (a0 := (q.toNatClampNeg, .inr (.inl (fun _ => 0)))) hx hb (hts _ (gd_mem ok_aL rfl)) rfl hC.1 hP rWd_D hS (fun q h => by rw [hy] at h; show B ≤ q; omega) (fun _ => rfl) (fun h => hq (Or.inl h)) rfl (by show _ * 8 ≤ _; omega) hrc hrs hdg (fun q1 cA H1 hK1 hP1 hD1 hS1 => ?_)
  have hcA : cA = cL := by
    have h1 := (hK1.2 3 (cA, .long) rfl).2
    have h2 := (hC.1.2 1 (cL, .long) rfl).2
    exact Option.some.inj (Eq.trans (Eq.symm h1) h2)
  subst hcA
  refine w_fresh (g := fun q => F0 m (pc + 2) ls (.ref q :: r)) hP1 hD1 hy (by omega) (fun hq1 => ?_)
  subst hq1
  refine kk H1 locs ?_ hS1
  rw [← rWd_push (σ := (T, I, J, Rr)) (x := .inl (cA, (q.toNatClampNeg, .inr (.inl (fun _ => 0))))) rfl ?_ ?_]
  · exact hP1
  · refine Eq.trans ?_ (rCe1 (n := q.toNatClampNeg) (by simp)).symm
    congr 5
    funext j
    simp [va_up]
  · intro j hj
    have hj' : j < T.length := hj
    show rCe B cI cA cS (T ++ [(1, q.toNatClampNeg)]) _ _ _ j = rCe B cI cA cS T I J Rr j
    rw [rCe_T hj', rCe_J (by omega)]
theorem w_newS {q : Int32} (hCn : Cn s) (hx : p.tables.exec = Jvm.exec) (hb : c.code = M.2.2.1) (hts : ∀ w ∈ lw_gd, w.before args s = true) (hown : s.vm.findClass (rNm M.1) = some m.cls) (hC : Cx B dC dI cI cL cS ext X s) (hdg : decode M.2.2.1 pc = .ok (.anewarray k, 3)) (hP : va_P (dC, dI) vwCl (rWd B cI cL cS (T, I, J, Rr)) H) (hS : va_S (fun q => B ≤ q) s.heap H locs) (hy : s.heap.size = B + y) (hcl : cells + y = T.length) (hA : rA (rNW M.1) k = some 4) (hq : ¬ (q < 0 ∨ 1000 < q.toNatClampNeg)) (hrc : cells + 1 ≤ R.cells) (hrs : slots + q.toNatClampNeg ≤ R.slots)
    (kk : ∀ (H' : Heap) (locs' : List Loc), va_P (dC, dI) vwCl (rWd B cI cL cS (T ++ [(2, q.toNatClampNeg)], I, J, va_up Rr T.length (fun _ => none))) H' → va_S (fun q => B ≤ q) s.heap H' locs' → W p l e R s m args below meth c H' locs' (cells + 1) (slots + q.toNatClampNeg) Q (F0 m (pc + 3) ls (.ref (B + T.length) :: r))) : W p l e R s m args below meth c H locs cells slots Q (F0 m pc ls (.int q :: r)) := by
  obtain ⟨rc, hrc0, hl1, -, -⟩ := okN_all M.1 _ (rA_mem hA)
  cases hrc0
  refine va_newq (C := RX4) hx hb hown (hts _ (gd_mem hl1 rfl)) hCn.1 hC.1 hP rWd_D hS (fun q h => by rw [hy] at h; show B ≤ q; omega) (fun h => hq (Or.inl h)) rfl (by omega) hrc hrs hdg (fun q1 cA H1 hK1 hP1 hD1 hS1 => ?_)
  have hcA : cA = cS := by
    obtain ⟨_, _, _, _, _, h1⟩ := (hK1.2 3 (cA, .object RX4) rfl).2
    obtain ⟨_, _, _, _, _, h2⟩ := (hC.1.2 2 (cS, .object RX4) rfl).2
    exact Option.some.inj (Eq.trans (Eq.symm h1) h2)
  subst hcA
  refine w_fresh (g := fun q => F0 m (pc + 3) ls (.ref q :: r)) hP1 hD1 hy (by omega) (fun hq1 => ?_)
  subst hq1
  refine kk H1 locs ?_ hS1
  rw [← rWd_push (σ := (T, I, J, Rr)) (x := .inl (cA, (q.toNatClampNeg, .inr (.inr (.inr (.inr (fun _ => none))))))) rfl ?_ ?_]
  · exact hP1
  · refine Eq.trans ?_ (rCe2 (n := q.toNatClampNeg) (by simp)).symm
    congr 7
    funext j
    simp [va_up]
  · intro j hj
    have hj' : j < T.length := hj
    show rCe B cI cL cA (T ++ [(2, q.toNatClampNeg)]) _ _ _ j = rCe B cI cL cA T I J Rr j
    rw [rCe_T hj', rCe_R (by omega)]
theorem w_cpI {n sp dp : Int32} {la lb : Nat} (hx : p.tables.exec = Jvm.exec) (hb : c.code = M.2.2.1) (hml : c.maxLocals = ls.size) (hts : ∀ w ∈ lw_gd, w.before args s = true) (hown : s.vm.findClass (rNm M.1) = some m.cls) (hC : Cx B dC dI cI cL cS ext X s) (hdg : decode M.2.2.1 pc = .ok (.invokestatic k, 3)) (hP : va_P (dC, dI) vwCl (rWd B cI cL cS (T, I, J, Rr)) H) (hS : va_S (fun q => B ≤ q) s.heap H locs) (hA : k ∈ rAC M.1) (hR1 : 1 ≤ R.frames) (hR2 : rCat r + 32 ≤ R.locals)
    (h1 : ¬ sp < 0) (h2 : ¬ dp < 0) (h3 : ¬ n < 0) (ha : T[a]? = some (0, la)) (hb2 : T[b]? = some (0, lb)) (h4 : sp.toNatClampNeg + n.toNatClampNeg ≤ la) (h5 : dp.toNatClampNeg + n.toNatClampNeg ≤ lb)
    (kk : ∀ (H' : Heap) (locs' : List Loc), va_P (dC, dI) vwCl (rWd B cI cL cS (T, va_up I b (va_cpy (I a) (I b) sp.toNatClampNeg dp.toNatClampNeg n.toNatClampNeg), J, Rr)) H' → va_S (fun q => B ≤ q) s.heap H' locs' → W p l e R s m args below meth c H' locs' cells slots Q (F0 m (pc + 3) ls r)) : W p l e R s m args below meth c H locs cells slots Q (F0 m pc ls (.int n :: .int dp :: .ref (B + b) :: .int sp :: .ref (B + a) :: r)) := by
  refine va_copyi (ty := .int) hx hb hml hown (hts _ (gd_mem (okY_all M.1 k hA) rfl)) (hts _ (gd_mem ok_cpN rfl)) (hts _ (gd_mem ok_cpS rfl)) (hts _ (gd_mem ok_cpI rfl)) hC.1 hP rWd_D hS a b 0 0 ((rWd_get (σ := (T, I, J, Rr)) (lt_of_get ha)).trans (congrArg (fun x => some (B + a, x)) (rCe0 ha))) ((rWd_get (σ := (T, I, J, Rr)) (lt_of_get hb2)).trans (congrArg (fun x => some (B + b, x)) (rCe0 hb2))) rfl rfl rfl h1 h2 h3 h4 h5 (fun _ _ => rfl) hR1 ?_ hdg (fun H1 locs1 hP1 _ hS1 => kk H1 locs1 ?_ hS1)
  · have : nativeFrameWords "java/lang/System" "arraycopy" 5 + 11 ≤ 32 := by decide +kernel
    have h9 : (r.map fun v => v.category).sum = rCat r := rfl
    omega
  · rw [rWd_set (σ := (T, I, J, Rr)) (σ1 := (T, va_up I b (va_cpy (I a) (I b) sp.toNatClampNeg dp.toNatClampNeg n.toNatClampNeg), J, Rr)) rfl ?_ (fun j hj => rCe_I hj)] at hP1
    · exact hP1
    · refine Eq.trans ?_ (rCe0 hb2).symm
      congr 4
      funext j
      simp [va_up]
theorem w_cpL {n sp dp : Int32} {la lb : Nat} (hx : p.tables.exec = Jvm.exec) (hb : c.code = M.2.2.1) (hml : c.maxLocals = ls.size) (hts : ∀ w ∈ lw_gd, w.before args s = true) (hown : s.vm.findClass (rNm M.1) = some m.cls) (hC : Cx B dC dI cI cL cS ext X s) (hdg : decode M.2.2.1 pc = .ok (.invokestatic k, 3)) (hP : va_P (dC, dI) vwCl (rWd B cI cL cS (T, I, J, Rr)) H) (hS : va_S (fun q => B ≤ q) s.heap H locs) (hA : k ∈ rAC M.1) (hR1 : 1 ≤ R.frames) (hR2 : rCat r + 32 ≤ R.locals)
    (h1 : ¬ sp < 0) (h2 : ¬ dp < 0) (h3 : ¬ n < 0) (ha : T[a]? = some (1, la)) (hb2 : T[b]? = some (1, lb)) (h4 : sp.toNatClampNeg + n.toNatClampNeg ≤ la) (h5 : dp.toNatClampNeg + n.toNatClampNeg ≤ lb)
    (kk : ∀ (H' : Heap) (locs' : List Loc), va_P (dC, dI) vwCl (rWd B cI cL cS (T, I, va_up J b (va_cpy (J a) (J b) sp.toNatClampNeg dp.toNatClampNeg n.toNatClampNeg), Rr)) H' → va_S (fun q => B ≤ q) s.heap H' locs' → W p l e R s m args below meth c H' locs' cells slots Q (F0 m (pc + 3) ls r)) : W p l e R s m args below meth c H locs cells slots Q (F0 m pc ls (.int n :: .int dp :: .ref (B + b) :: .int sp :: .ref (B + a) :: r)) := by
  refine va_copyl (ty := .long) hx hb hml hown (hts _ (gd_mem (okY_all M.1 k hA) rfl)) (hts _ (gd_mem ok_cpN rfl)) (hts _ (gd_mem ok_cpS rfl)) (hts _ (gd_mem ok_cpI rfl)) hC.1 hP rWd_D hS a b 1 1 ((rWd_get (σ := (T, I, J, Rr)) (lt_of_get ha)).trans (congrArg (fun x => some (B + a, x)) (rCe1 ha))) ((rWd_get (σ := (T, I, J, Rr)) (lt_of_get hb2)).trans (congrArg (fun x => some (B + b, x)) (rCe1 hb2))) rfl rfl rfl h1 h2 h3 h4 h5 (fun _ _ => rfl) hR1 ?_ hdg (fun H1 locs1 hP1 _ hS1 => kk H1 locs1 ?_ hS1)
  · have : nativeFrameWords "java/lang/System" "arraycopy" 5 + 11 ≤ 32 := by decide +kernel
    have h9 : (r.map fun v => v.category).sum = rCat r := rfl
    omega
  · rw [rWd_set (σ := (T, I, J, Rr)) (σ1 := (T, I, va_up J b (va_cpy (J a) (J b) sp.toNatClampNeg dp.toNatClampNeg n.toNatClampNeg), Rr)) rfl ?_ (fun j hj => rCe_J hj)] at hP1
    · exact hP1
    · refine Eq.trans ?_ (rCe1 hb2).symm
      congr 5
      funext j
      simp [va_up]
end S3
