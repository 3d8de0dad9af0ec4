/-! THE ABSTRACT MACHINE IS THE MACHINE, part 2: the memory -/
def rFs (B : Nat) (I : Nat → Nat → Int32) (Rr : Nat → Nat → Option Nat) (k ci : Nat) : List Value := (List.range (rFK ci).length).map (fun j => if (rFK ci)[j]? = some 2 then va_rf ((Rr k j).map (fun x => B + x)) else .int (I k j))
def rCe (B : Nat) (cI cL cS : ClassId) (T : List (Nat × Nat)) (I : Nat → Nat → Int32) (J : Nat → Nat → Int64) (Rr : Nat → Nat → Option Nat) (k : Nat) : va_E := match T[k]? with
  | some (0, n) => .inl (cI, n, .inl (I k))
  | some (1, n) => .inl (cL, n, .inr (.inl (J k)))
  | some (2, n) => .inl (cS, n, .inr (.inr (.inr (.inr (fun j => (Rr k j).map (fun x => B + x))))))
  | some (_, ci) => .inr (ci, rFs B I Rr k ci)
  | none => .inr (0, [])
def rWd (B : Nat) (cI cL cS : ClassId) (σ : rS) : va_W := (List.range σ.1.length).map (fun k => (B + k, rCe B cI cL cS σ.1 σ.2.1 σ.2.2.1 σ.2.2.2 k))
/-- how many slots -/
def rSl (T : List (Nat × Nat)) : Nat := (T.map (fun e => if e.1 = 3 then (rFK e.2).length else e.2)).sum
theorem rWd_get {B : Nat} {cI cL cS : ClassId} {σ : rS} {k : Nat} (h : k < σ.1.length) : (rWd B cI cL cS σ)[k]? = some (B + k, rCe B cI cL cS σ.1 σ.2.1 σ.2.2.1 σ.2.2.2 k) := by
  unfold rWd
  rw [List.getElem?_map, List.getElem?_range h]
  rfl
theorem rWd_len {B : Nat} {cI cL cS : ClassId} {σ : rS} : (rWd B cI cL cS σ).length = σ.1.length := by simp [rWd]
theorem rWd_at {B : Nat} {cI cL cS : ClassId} {σ : rS} {k : Nat} {q : Nat × va_E} (h : (rWd B cI cL cS σ)[k]? = some q) : k < σ.1.length ∧ q = (B + k, rCe B cI cL cS σ.1 σ.2.1 σ.2.2.1 σ.2.2.2 k) := by
  have hk : k < σ.1.length := by rw [← rWd_len (B := B) (cI := cI) (cL := cL) (cS := cS)]; exact (List.getElem?_eq_some_iff.mp h).1
  rw [rWd_get hk] at h
  exact ⟨hk, (Option.some.inj h).symm⟩
theorem rWd_D {B : Nat} {cI cL cS : ClassId} {σ : rS} : va_D (fun q => B ≤ q) (rWd B cI cL cS σ) := by
  refine ⟨fun i j p q hi hj hpq => ?_, fun k q hk => ?_⟩
  · obtain ⟨-, rfl⟩ := rWd_at hi
    obtain ⟨-, rfl⟩ := rWd_at hj
    have : B + i = B + j := hpq
    omega
  · obtain ⟨-, rfl⟩ := rWd_at hk
    exact Nat.le_add_right B k
theorem rWd_set {B : Nat} {cI cL cS : ClassId} {σ σ1 : rS} {k : Nat} {x : va_E} (hT : σ1.1 = σ.1) (hx : x = rCe B cI cL cS σ1.1 σ1.2.1 σ1.2.2.1 σ1.2.2.2 k) (ho : ∀ j, j ≠ k → rCe B cI cL cS σ1.1 σ1.2.1 σ1.2.2.1 σ1.2.2.2 j = rCe B cI cL cS σ.1 σ.2.1 σ.2.2.1 σ.2.2.2 j) : (rWd B cI cL cS σ).set k (B + k, x) = rWd B cI cL cS σ1 := by
  apply List.ext_getElem?
  intro j
  by_cases hj : j < σ.1.length
  · rw [rWd_get (σ := σ1) (by rw [hT]; exact hj)]
    by_cases hjk : j = k
    · subst hjk
      rw [List.getElem?_set_self (by rw [rWd_len]; exact hj), hx]
    · rw [List.getElem?_set_ne (Ne.symm hjk), rWd_get hj, ho j hjk]
  · rw [List.getElem?_eq_none (by rw [List.length_set, rWd_len]; omega), List.getElem?_eq_none (by rw [rWd_len, hT]; omega)]
theorem rWd_push {B : Nat} {cI cL cS : ClassId} {σ σ1 : rS} {y : Nat × Nat} {x : va_E} (hT : σ1.1 = σ.1 ++ [y]) (hx : x = rCe B cI cL cS σ1.1 σ1.2.1 σ1.2.2.1 σ1.2.2.2 σ.1.length) (ho : ∀ j, j < σ.1.length → rCe B cI cL cS σ1.1 σ1.2.1 σ1.2.2.1 σ1.2.2.2 j = rCe B cI cL cS σ.1 σ.2.1 σ.2.2.1 σ.2.2.2 j) : rWd B cI cL cS σ ++ [(B + σ.1.length, x)] = rWd B cI cL cS σ1 := by
  have hl : σ1.1.length = σ.1.length + 1 := by rw [hT]; simp
  apply List.ext_getElem?
  intro j
  by_cases hj : j < σ.1.length
  · rw [List.getElem?_append_left (by rw [rWd_len]; exact hj), rWd_get hj, rWd_get (σ := σ1) (by omega), ho j hj]
  · by_cases hj2 : j = σ.1.length
    · subst hj2
      rw [List.getElem?_append_right (by rw [rWd_len]; exact Nat.le_refl _), rWd_get (σ := σ1) (by omega), rWd_len, Nat.sub_self, hx]
      rfl
    · rw [List.getElem?_eq_none (by rw [List.length_append, rWd_len]; simp; omega), List.getElem?_eq_none (by rw [rWd_len]; omega)]
theorem cv_rf (B : Nat) (ext : Nat → Nat) (r : Option Nat) : cv B ext (va_rf r) = va_rf (r.map (fun x => B + x)) := by cases r <;> rfl
theorem rFs_len {B : Nat} {I : Nat → Nat → Int32} {Rr : Nat → Nat → Option Nat} {k ci : Nat} : (rFs B I Rr k ci).length = (rFK ci).length := by simp [rFs]
theorem rFs_at {B : Nat} {I : Nat → Nat → Int32} {Rr : Nat → Nat → Option Nat} {k ci f : Nat} (hf : f < (rFK ci).length) : (rFs B I Rr k ci)[f]? = some (if (rFK ci)[f]? = some 2 then va_rf ((Rr k f).map (fun x => B + x)) else .int (I k f)) := by
  unfold rFs
  rw [List.getElem?_map, List.getElem?_range hf]
  rfl
theorem rFs_setI {B : Nat} {I : Nat → Nat → Int32} {Rr : Nat → Nat → Option Nat} {k ci f : Nat} {x : Int32} (h : ¬ (rFK ci)[f]? = some 2) : (rFs B I Rr k ci).set f (.int x) = rFs B (va_up I k (va_up (I k) f x)) Rr k ci := by
  apply List.ext_getElem?
  intro j
  by_cases hj : j < (rFK ci).length
  · rw [rFs_at (I := va_up I k (va_up (I k) f x)) hj]
    by_cases hjf : j = f
    · subst hjf
      rw [List.getElem?_set_self (by rw [rFs_len]; exact hj), if_neg h]
      simp [va_up]
    · rw [List.getElem?_set_ne (Ne.symm hjf), rFs_at hj]
      simp [va_up, hjf]
  · rw [List.getElem?_eq_none (by rw [List.length_set, rFs_len]; omega), List.getElem?_eq_none (by rw [rFs_len]; omega)]
theorem rFs_setR {B : Nat} {I : Nat → Nat → Int32} {Rr : Nat → Nat → Option Nat} {k ci f b : Nat} (h : (rFK ci)[f]? = some 2) : (rFs B I Rr k ci).set f (.ref (B + b)) = rFs B I (va_up Rr k (va_up (Rr k) f (some b))) k ci := by
  apply List.ext_getElem?
  intro j
  by_cases hj : j < (rFK ci).length
  · rw [rFs_at (Rr := va_up Rr k (va_up (Rr k) f (some b))) hj]
    by_cases hjf : j = f
    · subst hjf
      rw [List.getElem?_set_self (by rw [rFs_len]; exact hj), if_pos h]
      simp [va_up, va_rf]
    · rw [List.getElem?_set_ne (Ne.symm hjf), rFs_at hj]
      simp [va_up, hjf]
  · rw [List.getElem?_eq_none (by rw [List.length_set, rFs_len]; omega), List.getElem?_eq_none (by rw [rFs_len]; omega)]
/-- the words that every state keeps -/
def lw_gd : List Cond := lw_tbl.filter goodWord
theorem gd_mem {w : Cond} (h : w ∈ lw_tbl) (hg : goodWord w = true) : w ∈ lw_gd := List.mem_filter.mpr ⟨h, hg⟩
theorem gd_of {w : Cond} (h : w ∈ lw_gd) : goodWord w = true := (List.mem_filter.mp h).2
theorem gd_ws {C : String} {T : u_T} {N : Nat} (h : ∀ w ∈ u_ws C T N, w ∈ lw_tbl) : ∀ w ∈ u_ws C T N, w ∈ lw_gd := fun w hw => gd_mem (h w hw) (by
  obtain ⟨k, -, rfl⟩ := List.mem_map.mp hw
  unfold u_lay
  split <;> rfl)
def isNest : Cond → Bool
  | .methodLinkNest _ _ _ _ => true
  | _ => false
/-- what holds of a state's tables: classes, arrays' classes, the constant rows outside -/
def Cx (B : Nat) (dC : Nat → ClassId) (dI : Nat → Nat → Nat) (cI cL cS : ClassId) (ext : Nat → Nat) (X : Nat → Nat × (Nat → Int32)) (s : State) : Prop :=
  va_K (dC, dI) vwCl [(cI, .int), (cL, .long), (cS, .object RX4)] s ∧ (∀ j, j < 4 → va_Z (stC j) (stN j) "[I" (.ref (ext j)) (fun q => B ≤ q) s s.heap) ∧ ∀ j, j < 5 → va_T .int (ext j) (X j).1 (fun q => .int ((X j).2 q)) (fun q => B ≤ q) s s.heap
/-- the words that only a warmed state keeps -/
def Cn (s : State) : Prop := va_AO RX4 s ∧ ∀ w ∈ lw_tbl, isNest w = true → va_Nw w s
theorem Cn.warm {s U : State} (hW : s.WarmedH U.vm) (h : Cn s) : Cn U := by
  refine ⟨va_AO.moved hW.alike h.1, fun w hw hn => ?_⟩
  have h1 := h.2 w hw hn
  cases w <;> first | (simp [isNest] at hn; done) | exact va_Nw.warmM hW h1
theorem Cn.same {s U : State} (hv : s.vm = U.vm) (h : Cn s) : Cn U := by
  refine ⟨va_AO.moved (by rw [hv]; exact Vm.Alike.refl U.vm) h.1, fun w hw hn => ?_⟩
  have h1 := h.2 w hw hn
  cases w <;> first | (simp [isNest] at hn; done) | exact va_tabs rfl hv h1
theorem rFit {t : FieldType} (h : t.isReference = true) (b : Nat) : fits t (.ref b) = true ∧ narrow t (.ref b) = .ref b := by
  cases t <;> first | (simp [FieldType.isReference] at h; done) | exact ⟨rfl, rfl⟩
theorem rCe3 {B : Nat} {cI cL cS : ClassId} {T : List (Nat × Nat)} {I : Nat → Nat → Int32} {J : Nat → Nat → Int64} {Rr : Nat → Nat → Option Nat} {a ci : Nat} (h : T[a]? = some (3, ci)) : rCe B cI cL cS T I J Rr a = .inr (ci, rFs B I Rr a ci) := by simp [rCe, h]
theorem rCe0 {B : Nat} {cI cL cS : ClassId} {T : List (Nat × Nat)} {I : Nat → Nat → Int32} {J : Nat → Nat → Int64} {Rr : Nat → Nat → Option Nat} {a n : Nat} (h : T[a]? = some (0, n)) : rCe B cI cL cS T I J Rr a = .inl (cI, n, .inl (I a)) := by simp [rCe, h]
theorem rCe1 {B : Nat} {cI cL cS : ClassId} {T : List (Nat × Nat)} {I : Nat → Nat → Int32} {J : Nat → Nat → Int64} {Rr : Nat → Nat → Option Nat} {a n : Nat} (h : T[a]? = some (1, n)) : rCe B cI cL cS T I J Rr a = .inl (cL, n, .inr (.inl (J a))) := by simp [rCe, h]
theorem rCe2 {B : Nat} {cI cL cS : ClassId} {T : List (Nat × Nat)} {I : Nat → Nat → Int32} {J : Nat → Nat → Int64} {Rr : Nat → Nat → Option Nat} {a n : Nat} (h : T[a]? = some (2, n)) : rCe B cI cL cS T I J Rr a = .inl (cS, n, .inr (.inr (.inr (.inr (fun j => (Rr a j).map (fun x => B + x)))))) := by simp [rCe, h]
theorem rCe_I {B : Nat} {cI cL cS : ClassId} {T : List (Nat × Nat)} {I : Nat → Nat → Int32} {J : Nat → Nat → Int64} {Rr : Nat → Nat → Option Nat} {a j : Nat} {f : Nat → Int32} (h : j ≠ a) : rCe B cI cL cS T (va_up I a f) J Rr j = rCe B cI cL cS T I J Rr j := by
  have e : (va_up I a f) j = I j := by simp [va_up, h]
  unfold rCe rFs
  rw [e]
theorem rCe_J {B : Nat} {cI cL cS : ClassId} {T : List (Nat × Nat)} {I : Nat → Nat → Int32} {J : Nat → Nat → Int64} {Rr : Nat → Nat → Option Nat} {a j : Nat} {f : Nat → Int64} (h : j ≠ a) : rCe B cI cL cS T I (va_up J a f) Rr j = rCe B cI cL cS T I J Rr j := by
  have e : (va_up J a f) j = J j := by simp [va_up, h]
  unfold rCe rFs
  rw [e]
theorem rCe_R {B : Nat} {cI cL cS : ClassId} {T : List (Nat × Nat)} {I : Nat → Nat → Int32} {J : Nat → Nat → Int64} {Rr : Nat → Nat → Option Nat} {a j : Nat} {f : Nat → Option Nat} (h : j ≠ a) : rCe B cI cL cS T I J (va_up Rr a f) j = rCe B cI cL cS T I J Rr j := by
  have e : (va_up Rr a f) j = Rr j := by simp [va_up, h]
  unfold rCe rFs
  rw [e]
theorem rCe_T {B : Nat} {cI cL cS : ClassId} {T : List (Nat × Nat)} {I : Nat → Nat → Int32} {J : Nat → Nat → Int64} {Rr : Nat → Nat → Option Nat} {j : Nat} {y : Nat × Nat} (h : j < T.length) : rCe B cI cL cS (T ++ [y]) I J Rr j = rCe B cI cL cS T I J Rr j := by
  unfold rCe
  rw [List.getElem?_append_left h]
section S2
variable {p : Program} {l : Launch} {e : Env} {R : Room} {s : State} {m : MethodId} {args : Array Value} {below : List Frame} {meth : Method} {c : Code} {H : Heap} {locs : List Loc} {cells slots : Nat} {Q : State → Prop}
variable {pc len d y z B : Nat} {ext : Nat → Nat} {ls : Array Slot} {st st1 : List Value} {i : Jvm.ClassFile.Instr} {M : rM} {X : Nat → Nat × (Nat → Int32)} {dC : Nat → ClassId} {dI : Nat → Nat → Nat} {cI cL cS : ClassId}
variable {T : List (Nat × Nat)} {I : Nat → Nat → Int32} {J : Nat → Nat → Int64} {Rr : Nat → Nat → Option Nat} {σ1 : rS}
/-- the heap's size is known wherever the machine stands -/
theorem w_size {g : JFrame} (hP : va_P (dC, dI) vwCl (rWd B cI cL cS (T, I, J, Rr)) H) (hy : s.heap.size = B + y) (hcl : cells + y = T.length) (k : H.size = B + T.length → W p l e R s m args below meth c H locs cells slots Q g) : W p l e R s m args below meth c H locs cells slots Q g := by
  intro T0 hT0 X0
  refine k ?_ T0 hT0 X0
  have h1 : T0.heap.size ≤ s.heap.size + cells := X0.same.2.2.1
  have h2 : s.heap.size ≤ T0.heap.size := X0.same.2.1
  rw [hT0] at h1 h2
  cases hn : T.length with
  | zero => omega
  | succ n =>
    have h3 := (hP n _ (rWd_get (σ := (T, I, J, Rr)) (by show n < T.length; omega))).lt
    have h4 : B + n < H.size := h3
    omega
end S2
