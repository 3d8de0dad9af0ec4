/-! THE ABSTRACT MACHINE IS THE MACHINE, part 6: calls, and the whole -/
theorem rCal_some {M : rM} {i : Jvm.ClassFile.Instr} {k : Nat} {N : rM} (h : rCal M i = some (k, N)) : ∃ idx, rA (rCT M.1) idx = some (k, N) ∧ ((k = 0 ∧ i = .invokevirtual idx) ∨ ((k = 1 ∨ k = 2) ∧ i = .invokestatic idx) ∨ (k = 3 ∧ i = .invokespecial idx)) := by
  cases i <;> simp only [rCal] at h
  case invokevirtual idx =>
    split at h
    · rename_i N1 hN
      cases h
      exact ⟨idx, hN, Or.inl ⟨rfl, rfl⟩⟩
    · cases h
  case invokestatic idx =>
    split at h
    · rename_i N1 hN
      cases h
      exact ⟨idx, hN, Or.inr (Or.inl ⟨Or.inl rfl, rfl⟩)⟩
    · rename_i N1 hN
      cases h
      exact ⟨idx, hN, Or.inr (Or.inl ⟨Or.inr rfl, rfl⟩)⟩
    · cases h
  case invokespecial idx =>
    split at h
    · rename_i N1 hN
      cases h
      exact ⟨idx, hN, Or.inr (Or.inr ⟨rfl, rfl⟩)⟩
    · cases h
  all_goals (cases h)
theorem rSpl_some {N : rM} {k : Nat} {st as st1 : List Value} {T : List (Nat × Nat)} (h : rSpl N k st T = some (as, st1)) : st = as.reverse ++ st1 ∧ as.length = N.2.2.2.2.2.1 ∧ rCat st1 ≤ 8 ∧ (rArg as).length ≤ N.2.2.2.1 ∧ rRcv k as T N.1 = true := by
  unfold rSpl at h
  split at h
  · rename_i hc
    simp only [Option.some.injEq, Prod.mk.injEq] at h
    obtain ⟨rfl, rfl⟩ := h
    refine ⟨by simp, by simp; omega, hc.2.1, hc.2.2.1, hc.2.2.2⟩
  · cases h
theorem rRcv0 {as : List Value} {T : List (Nat × Nat)} {ci : Nat} (h : rRcv 0 as T ci = true) : ∃ b as1, as = .ref b :: as1 ∧ T[b]? = some (3, ci) := by
  match as, h with
  | .ref b :: as1, h => exact ⟨b, as1, rfl, of_decide_eq_true h⟩
theorem rRcv3 {as : List Value} {T : List (Nat × Nat)} {ci : Nat} (h : rRcv 3 as T ci = true) : ∃ b as1, as = .ref b :: as1 := by
  match as, h with
  | .ref b :: as1, _ => exact ⟨b, as1, rfl⟩
theorem parse_len {desc : String} {a n : Nat} (h : (parseMethodDescriptor desc).map (fun d => d.parameters.length + 1) = some a) (ha : a = n + 1) : (parseMethodDescriptor desc).map (fun d => d.parameters.length) = some n := by
  cases hp : parseMethodDescriptor desc with
  | none => rw [hp] at h; simp at h
  | some sg =>
    rw [hp] at h
    simp at h ⊢
    omega
theorem cWs_in {N : rM} (h : okMc N) : ∀ w ∈ cWs N, w ∈ lw_gd := fun w hw => by
  rcases List.mem_cons.mp hw with rfl | h2
  · exact gd_mem h.2.1 rfl
  · exact h2
section S6
variable {p : Program} {l : Launch} {e : Env} {R : Room} {s : State} {m : MethodId} {args : Array Value} {below : List Frame} {meth : Method} {c : Code} {H : Heap} {locs : List Loc} {cells slots : Nat} {Q : State → Prop}
variable {pc d y z B idx k : Nat} {ext : Nat → Nat} {ls : Array Slot} {st st1 as : List Value} {i : Jvm.ClassFile.Instr} {M N : rM} {X : Nat → Nat × (Nat → Int32)} {dC : Nat → ClassId} {dI : Nat → Nat → Nat} {cI cL cS : ClassId} {σ σ1 : rS} {v : Option Value}
theorem w_call {mc ms : Nat} {st0 rest : List Value} {a : Array Value} (hr : va_Run p l e R s m args below meth c H locs cells slots mc ms (F0 m pc ls st0) rest (cQc B dC dI cI cL cS ext v σ1 a) (fun q => B ≤ q)) (hS : va_S (fun q => B ≤ q) s.heap H locs)
    (kk : ∀ (H1 : Heap) (locs1 : List Loc), va_P (dC, dI) vwCl (rWd B cI cL cS σ1) H1 → va_S (fun q => B ≤ q) s.heap H1 locs1 → W p l e R s m args below meth c H1 locs1 (cells + mc) (slots + ms) Q (F0 m (pc + 3) ls ((v.map (cv B ext)).toList ++ rest))) : W p l e R s m args below meth c H locs cells slots Q (F0 m pc ls st0) := by
  intro T0 hT0 X0
  obtain ⟨v1, st₀, t, T1, L, h0, X1, hL, e1, e2, ⟨hv, hP1, hz, hk⟩, stp⟩ := hr T0 hT0 X0
  have hv1 : v1 = v.map (cv B ext) := by
    injection hv
  subst hv1
  rw [h0] at hz hk
  obtain ⟨t2, a1, b1⟩ := kk T1.heap (locs ++ L) (by rw [e1]; exact hP1) ⟨Nat.le_trans hS.1 (by rw [e1]; exact hz), fun q h1 h2 => by rw [e1, hk q (Nat.lt_of_lt_of_le h1 hS.1) h2]; exact hS.2.1 q h1 h2, fun q hq => by
      rcases List.mem_append.mp hq with h | h
      · exact hS.2.2 q h
      · exact hL q h⟩ T1 rfl X1
  exact ⟨t2, stp t2 a1, b1⟩
set_option maxHeartbeats 4000000 in
theorem w_run (hx : p.tables.exec = Jvm.exec) (hb : c.code = M.2.2.1) (hml : c.maxLocals = ls.size) (hts : ∀ w ∈ lw_gd, w.before args s = true) (hown : s.vm.findClass (rNm M.1) = some m.cls) (hC : Cx B dC dI cI cL cS ext X s) (hCn : Cn s)
    (hP : va_P (dC, dI) vwCl (rWd B cI cL cS σ) H) (hS : va_S (fun q => B ≤ q) s.heap H locs) (hsz : H.size = B + σ.1.length) (hA : rA (rCT M.1) idx = some (k, N)) (hi : (k = 0 ∧ i = .invokevirtual idx) ∨ ((k = 1 ∨ k = 2) ∧ i = .invokestatic idx) ∨ (k = 3 ∧ i = .invokespecial idx))
    (hsp : rSpl N k st σ.1 = some (as, st1)) (hM : Ctr l B dC dI cI cL cS ext X d N as σ v σ1) (hdg : decode M.2.2.1 pc = .ok (i, 3)) (hR1 : d + 1 ≤ R.frames) (hR2 : 40 * (d + 1) ≤ R.locals) (hf : cells + (σ1.1.length - σ.1.length) ≤ R.cells ∧ slots + (rSl σ1.1 - rSl σ.1) ≤ R.slots) :
    va_Run p l e R s m args below meth c H locs cells slots (σ1.1.length - σ.1.length) (rSl σ1.1 - rSl σ.1) (F0 m pc ls (List.map (cv B ext) st)) (List.map (cv B ext) st1) (cQc B dC dI cI cL cS ext v σ1 (List.map (cv B ext) as).toArray) (fun q => B ≤ q) := by
  obtain ⟨hst, hlen, hcat, harg, hrcv⟩ := rSpl_some hsp
  obtain ⟨hok, hk0, hk1, hk2, hk3⟩ := okC_all M.1 _ (rA_mem hA)
  dsimp only at hok hk0 hk1 hk2 hk3
  have hroom : 2 * (F0 m pc ls (List.map (cv B ext) st)).monitorRoom + ((List.map (cv B ext) st1).map fun v => v.category).sum ≤ 8 := lv_room (by rw [rCat_map]; exact hcat)
  have hmx : N.2.2.2.1 ≤ 12 := hok.1.2.2.2.2
  have hpre : ∀ U : State, U.heap = H → s.WarmedH U.vm → cPc B dC dI cI cL cS ext X as σ (List.map (cv B ext) as).toArray U := fun U hU hW => ⟨rfl, by rw [hU]; exact hsz, by rw [hU]; exact hP, hC.go hS hU hW.alike, hCn.warm hW⟩
  rcases hi with ⟨rfl, rfl⟩ | ⟨hk12, rfl⟩ | ⟨rfl, rfl⟩
  · obtain ⟨hl1, hl2, hl3, hl4, rc, hl5, hl6⟩ := hk0 rfl
    obtain ⟨b, as1, rfl, hTb⟩ := rRcv0 hrcv
    refine va_runV (C := N.2.1.cls) (b := B + b) (As := List.map (cv B ext) as1) (rest := List.map (cv B ext) st1) ⟨hx, hb, hml, hown, hts⟩ hM (cwV (List.map (cv B ext) as1).length hts (gd_in ?_) rfl rfl rfl ⟨rfl, hok.2.2.2.1, hok.2.2.2.2, parse_len hl4 (by rw [← hlen]; simp)⟩ ⟨hR1, ?_⟩) ⟨cPc_blind, ?_, hpre⟩ rfl rfl rfl ?_ hroom hdg hf
    · intro w hw
      rcases List.mem_append.mp hw with h | h
      · simp only [List.mem_cons, List.not_mem_nil, or_false] at h
        rcases h with rfl | rfl | rfl | rfl
        · exact gd_mem hl1 rfl
        · exact gd_mem hl2 rfl
        · exact gd_mem hl3 rfl
        · exact gd_mem hok.2.2.1 rfl
      · exact cWs_in hok w h
    · show 8 + (N.2.2.2.1 + 11) + 40 * d ≤ R.locals
      omega
    · have := va_recv hC.1 hP hl5 ((rWd_get (σ := σ) (lt_of_get hTb)).trans (congrArg (fun x => some (B + b, x)) (rCe3 hTb)))
      rw [hl6] at this
      exact this
    · show List.map (cv B ext) st = _
      rw [hst]
      simp [cv]
  · have hst2 : List.map (cv B ext) st = (List.map (cv B ext) as).reverse ++ List.map (cv B ext) st1 := by rw [hst]; simp
    rcases hk12 with rfl | rfl
    · obtain ⟨hl1, hl2, hl3⟩ := hk1 rfl
      refine va_runS (As := List.map (cv B ext) as) (rest := List.map (cv B ext) st1) ⟨hx, hb, hml, hown, hts⟩ hM ⟨callB_of (List.map (cv B ext) as).length hts (gd_in (cWs_in hok)) rfl rfl rfl (hts _ (gd_mem hok.2.2.1 rfl)) (hts _ (gd_mem hl1 rfl)) ⟨hok.2.2.2.1, hok.2.2.2.2, by rw [hl3, ← hlen, List.length_map]⟩ ⟨hR1, ?_⟩, hts _ (gd_mem hl2 rfl)⟩ ⟨cPc_blind, hpre⟩ rfl rfl rfl hst2 hroom hdg hf
      show 8 + (N.2.2.2.1 + 11) + 40 * d ≤ R.locals
      omega
    · obtain ⟨hl1, hl2, hl3⟩ := hk2 rfl
      refine va_runSN (host := RX6) (As := List.map (cv B ext) as) (rest := List.map (cv B ext) st1) ⟨hx, hb, hml, hown, hts⟩ hM ⟨va_cnB (List.map (cv B ext) as).length hts (gd_in (cWs_in hok)) rfl rfl rfl (hCn.2 _ hl1 rfl) (hts _ (gd_mem hok.2.2.1 rfl)) ⟨hok.2.2.2.1, hok.2.2.2.2, by rw [hl3, ← hlen, List.length_map]⟩ ⟨hR1, ?_⟩, hts _ (gd_mem hl2 rfl), trivial⟩ ⟨cPc_blind, hpre⟩ rfl rfl rfl hst2 hroom hdg hf
      show 8 + (N.2.2.2.1 + 11) + 40 * d ≤ R.locals
      omega
  · obtain ⟨hl1, hl2, hl3, hl4, hl5⟩ := hk3 rfl
    obtain ⟨b, as1, rfl⟩ := rRcv3 hrcv
    refine va_runI (b := B + b) (As := List.map (cv B ext) as1) (rest := List.map (cv B ext) st1) ⟨hx, hb, hml, hown, hts⟩ hM ⟨callB_of (List.map (cv B ext) as1).length hts (gd_in (cWs_in hok)) (ws' := lw_gd) (by unfold cWs; rw [hl4]) rfl rfl (hts _ (gd_mem hok.2.2.1 rfl)) (hts _ (gd_mem hl1 rfl)) ⟨hok.2.2.2.1, hok.2.2.2.2, parse_len hl5 (by rw [← hlen]; simp)⟩ ⟨hR1, ?_⟩, hl3, hts _ (gd_mem hl2 rfl)⟩ ⟨cPc_blind, hpre⟩ rfl rfl rfl ?_ hroom hdg hf
    · show 8 + (N.2.2.2.1 + 11) + 40 * d ≤ R.locals
      omega
    · show List.map (cv B ext) st = _
      rw [hst]
      simp [cv]
set_option maxHeartbeats 4000000 in
theorem w_met (hok : okMc N) (has : (rArg as).length ≤ N.2.2.2.1) (hg : σ.1.length ≤ σ1.1.length ∧ rSl σ.1 ≤ rSl σ1.1) (hn : Wk l B dC dI cI cL cS ext X d N 0 (rEnt N as) [] σ v σ1) : Ctr l B dC dI cI cL cS ext X d N as σ v σ1 := by
  refine Met.ofW (cc := N.2.2.1) (maxL := N.2.2.2.1) (ret := N.2.2.2.2.1) hok.1.1 rfl ?_
  intro p e s m args below meth c s₁ B0 hml hv
  obtain ⟨rfl, hsz, hP, hC, hCn⟩ := hv
  have hx := B0.exec
  have hb := B0.bytes
  have hr := B0.returns
  have hts0 := atoms_spec (ws := cWs N) B0.pre
  have hts : ∀ w ∈ lw_gd, w.before (List.map (cv B ext) as).toArray s = true := fun w hw => hts0 w (List.mem_cons_of_mem _ hw)
  have hown : s.vm.findClass N.2.1.cls = some m.cls := findClass_of_methodNamed B0.named
  rw [hok.1.2.1] at hown
  have hlocks := B0.notSynchronized
  have hnm : N.2.1.name = "<init>" → meth.name = "<init>" := fun h => ((name_of_methodNamed B0.named B0.method).1).trans h
  have hl := loc_entry B ext as has
  rw [lg_entry_eq]
  have hll : (rArg as ++ List.replicate (N.2.2.2.1 - (rArg as).length) rU).length = N.2.2.2.1 := by simp; omega
  refine hn p e _ s m _ below meth c s.heap [] 0 0 _ _ σ.1.length (rSl σ.1) hx hb (hml.trans hll.symm) hts hown hnm hC hCn (Nat.le_refl d) (Nat.le_refl _) hl hP va_S.rf hsz (by omega) (by omega) ?_ ?_ ?_
  · show σ1.1.length ≤ (σ1.1.length - σ.1.length) + σ.1.length
    omega
  · show rSl σ1.1 ≤ (rSl σ1.1 - rSl σ.1) + rSl σ.1
    omega
  · intro pc1 len1 i st2 ls1 H1 locs1 cells1 slots1 hdg hq hrt hP1 hS1 hc1 hs1
    obtain rfl : cells1 = σ1.1.length - σ.1.length := by omega
    obtain rfl : slots1 = rSl σ1.1 - rSl σ.1 := by omega
    cases i <;> simp only [rRt] at hrt
    case ireturn =>
      obtain rfl : len1 = 1 := by simpa [rLq] using hq
      split at hrt
      · rename_i x hret
        cases hrt
        exact W.iret hx hb (hr.trans hret) (fun t ht hW => ⟨rfl, by rw [ht]; exact hP1, hS1.F ht⟩) hS1.2.2 hdg
      · rename_i x hret
        split at hrt
        · rename_i h01
          cases hrt
          refine W.zret hx hb (hr.trans hret) ?_ (fun t ht hW => ⟨rfl, by rw [ht]; exact hP1, hS1.F ht⟩) hS1.2.2 hdg
          rcases h01 with rfl | rfl <;> decide
        · cases hrt
      · cases hrt
    case lreturn =>
      obtain rfl : len1 = 1 := by simpa [rLq] using hq
      split at hrt
      · rename_i x hret
        cases hrt
        exact W.lret hx hb (hr.trans hret) (fun t ht hW => ⟨rfl, by rw [ht]; exact hP1, hS1.F ht⟩) hS1.2.2 hdg
      · cases hrt
    case areturn =>
      obtain rfl : len1 = 1 := by simpa [rLq] using hq
      split at hrt
      · rename_i x nm hret
        cases hrt
        exact W.aret hx hb (hr.trans hret) (Or.inl ⟨_, rfl⟩) (Or.inr ⟨_, rfl⟩) (fun t ht hW => ⟨rfl, by rw [ht]; exact hP1, hS1.F ht⟩) hS1.2.2 hdg
      · rename_i x nm hret
        cases hrt
        exact W.aret hx hb (hr.trans hret) (Or.inr ⟨_, rfl⟩) (Or.inr ⟨_, rfl⟩) (fun t ht hW => ⟨rfl, by rw [ht]; exact hP1, hS1.F ht⟩) hS1.2.2 hdg
      · cases hrt
    case return_ =>
      obtain rfl : len1 = 1 := by simpa [rLq] using hq
      split at hrt
      · rename_i hret
        cases hrt
        exact W.vret hx hb (hr.trans hret) (fun t ht hW => ⟨rfl, by rw [ht]; exact hP1, hS1.F ht⟩) hS1.2.2 hdg
      · cases hrt
    all_goals (cases hrt)
end S6
set_option maxHeartbeats 4000000 in
/-- THE ABSTRACT MACHINE IS THE MACHINE -/
theorem w_main (l : Launch) (B : Nat) (dC : Nat → ClassId) (dI : Nat → Nat → Nat) (cI cL cS : ClassId) (ext : Nat → Nat) (X : Nat → Nat × (Nat → Int32)) : ∀ (n d : Nat) (M : rM) (pc : Nat) (L st : List Value) (σ : rS) (v : Option Value) (σ1 : rS), okM M → rI X n d M pc L st σ = some (v, σ1) → Wk l B dC dI cI cL cS ext X d M pc L st σ v σ1 := by
  intro n
  induction n with
  | zero => intro d M pc L st σ v σ1 _ h; simp [rI] at h
  | succ n ih =>
    intro d M pc L st σ v σ1 hok h
    intro p e R s m args below meth c H locs cells slots Q ls y z hx hb hml hts hown hnm hC hCn hR1 hR2 hl hP hS hy hcl hsl hrc hrs kret
    rw [rI] at h
    split at h
    · cases h
    · rename_i i len hi
      have hdg := hok.2.2.1 _ (rlk_mem hi)
      have hq := hok.2.2.2.1 _ (rlk_mem hi)
      dsimp only at hdg hq
      split at h
      · rename_i L1 st1 h1
        exact w_P hx hb hdg hq hl h1 (fun ls1 hl1 => ih d M (pc + len) L1 st1 σ v σ1 hok h p e R s m args below meth c H locs cells slots Q ls1 y z hx hb (hml.trans (rP_len h1).symm) hts hown hnm hC hCn hR1 hR2 hl1 hP hS hy hcl hsl hrc hrs kret)
      · split at h
        · rename_i pc1 st1 h2
          exact w_B hx hb hdg hq h2 (ih d M pc1 L st1 σ v σ1 hok h p e R s m args below meth c H locs cells slots Q ls y z hx hb hml hts hown hnm hC hCn hR1 hR2 hl hP hS hy hcl hsl hrc hrs kret)
        · split at h
          · rename_i st1 σ2 h3
            have hg := rI_grow X n h
            exact w_H (T := σ.1) (I := σ.2.1) (J := σ.2.2.1) (Rr := σ.2.2.2) (z := z) hCn hx hb (hml.trans hl.1.symm) hts hown hnm hC hdg hq hR1 hR2 hP hS hy hcl hsl h3 (by omega) (by omega) (fun H1 locs1 cells1 slots1 hP1 hS1 hc1 hs1 => ih d M (pc + len) L st1 σ2 v σ1 hok h p e R s m args below meth c H1 locs1 cells1 slots1 Q ls y z hx hb hml hts hown hnm hC hCn hR1 hR2 hl hP1 hS1 hy hc1 hs1 hrc hrs kret)
          · split at h
            · rename_i k N h4
              split at h
              · rename_i as st1 d1 h5 h3x
                split at h
                · rename_i v1 σ2 h6
                  obtain ⟨idx, hA, hii⟩ := rCal_some h4
                  obtain ⟨hokN, -⟩ := okC_all M.1 _ (rA_mem hA)
                  dsimp only at hokN
                  have hlen3 : len = 3 := by
                    rcases hii with ⟨-, rfl⟩ | ⟨-, rfl⟩ | ⟨-, rfl⟩ <;> simpa [rLq] using hq
                  subst hlen3
                  have hg1 := rI_grow X n h6
                  have hg2 := rI_grow X n h
                  have hM : Ctr l B dC dI cI cL cS ext X d1 N as σ v1 σ2 := w_met hokN (rSpl_some h5).2.2.2.1 hg1 (ih d1 N 0 (rEnt N as) [] σ v1 σ2 hokN.1 h6)
                  refine w_size (T := σ.1) (I := σ.2.1) (J := σ.2.2.1) (Rr := σ.2.2.2) hP hy hcl (fun hsz => ?_)
                  refine w_call (w_run hx hb (hml.trans hl.1.symm) hts hown hC hCn hP hS hsz hA hii h5 hM hdg hR1 hR2 ⟨by omega, by omega⟩) hS (fun H1 locs1 hP1 hS1 => ?_)
                  have k2 := ih (d1 + 1) M (pc + 3) L (v1.toList ++ st1) σ2 v σ1 hok h p e R s m args below meth c H1 locs1 (cells + (σ2.1.length - σ.1.length)) (slots + (rSl σ2.1 - rSl σ.1)) Q ls y z hx hb hml hts hown hnm hC hCn hR1 hR2 hl hP1 hS1 hy (by omega) (by omega) hrc hrs kret
                  rw [List.map_append] at k2
                  cases v1 with
                  | none => exact k2
                  | some w => exact k2
                · cases h
              · cases h
            · split at h
              · rename_i v2 h5
                cases h
                exact kret pc len i st ls H locs cells slots hdg hq h5 hP hS hcl hsl
              · cases h
