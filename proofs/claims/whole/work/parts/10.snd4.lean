/-! THE ABSTRACT MACHINE IS THE MACHINE, part 4: the memory's instructions together -/
theorem rCat_map (B : Nat) (ext : Nat → Nat) : ∀ r : List Value, ((r.map (cv B ext)).map fun v => v.category).sum = rCat r
  | [] => rfl
  | v :: r => by
    show (cv B ext v).category + ((r.map (cv B ext)).map fun v => v.category).sum = v.category + rCat r
    rw [cv_cat, rCat_map B ext r]
theorem rSl_push (T : List (Nat × Nat)) (x : Nat × Nat) : rSl (T ++ [x]) = rSl T + (if x.1 = 3 then (rFK x.2).length else x.2) := by simp [rSl]
section S4
variable {p : Program} {l : Launch} {e : Env} {R : Room} {s : State} {m : MethodId} {args : Array Value} {below : List Frame} {meth : Method} {c : Code} {H : Heap} {locs : List Loc} {cells slots : Nat} {Q : State → Prop}
variable {pc len d y z B : Nat} {ext : Nat → Nat} {ls : Array Slot} {st st1 : List Value} {i : Jvm.ClassFile.Instr} {M : rM} {X : Nat → Nat × (Nat → Int32)} {dC : Nat → ClassId} {dI : Nat → Nat → Nat} {cI cL cS : ClassId}
variable {T : List (Nat × Nat)} {I : Nat → Nat → Int32} {J : Nat → Nat → Int64} {Rr : Nat → Nat → Option Nat} {σ1 : rS}
set_option maxHeartbeats 4000000 in
theorem w_H (hCn : Cn s) (hx : p.tables.exec = Jvm.exec) (hb : c.code = M.2.2.1) (hml : c.maxLocals = ls.size) (hts : ∀ w ∈ lw_gd, w.before args s = true) (hown : s.vm.findClass (rNm M.1) = some m.cls) (hnm : M.2.1.name = "<init>" → meth.name = "<init>") (hC : Cx B dC dI cI cL cS ext X s)
    (hdg : decode M.2.2.1 pc = .ok (i, len)) (hq : rLq i len = true) (hR1 : d ≤ R.frames) (hR2 : 40 * d ≤ R.locals) (hP : va_P (dC, dI) vwCl (rWd B cI cL cS (T, I, J, Rr)) H) (hS : va_S (fun q => B ≤ q) s.heap H locs) (hy : s.heap.size = B + y) (hcl : cells + y = T.length) (hsl : slots + z = rSl T)
    (h : rH X d M i st T I J Rr = some (st1, σ1)) (hrc : σ1.1.length ≤ R.cells + y) (hrs : rSl σ1.1 ≤ R.slots + z)
    (kk : ∀ (H' : Heap) (locs' : List Loc) (cells' slots' : Nat), va_P (dC, dI) vwCl (rWd B cI cL cS σ1) H' → va_S (fun q => B ≤ q) s.heap H' locs' → cells' + y = σ1.1.length → slots' + z = rSl σ1.1 → W p l e R s m args below meth c H' locs' cells' slots' Q (F0 m (pc + len) ls (st1.map (cv B ext)))) :
    W p l e R s m args below meth c H locs cells slots Q (F0 m pc ls (st.map (cv B ext))) := by
  cases i
  case ldc k =>
    obtain rfl : len = 2 := by simpa [rLq] using hq
    simp only [rH] at h
    split at h
    · rename_i v hv
      cases h
      exact lv_ldc hx hb hown (hts _ (gd_mem (okKI_all M.1 _ (rA_mem hv)) rfl)) hdg (kk H locs cells slots hP hS hcl hsl)
    · cases h
  case ldc_w k =>
    obtain rfl : len = 3 := by simpa [rLq] using hq
    simp only [rH] at h
    split at h
    · rename_i v hv
      cases h
      exact lv_ldcw hx hb hown (hts _ (gd_mem (okKI_all M.1 _ (rA_mem hv)) rfl)) hdg (kk H locs cells slots hP hS hcl hsl)
    · cases h
  case ldc2_w k =>
    obtain rfl : len = 3 := by simpa [rLq] using hq
    simp only [rH] at h
    split at h
    · rename_i v hv
      cases h
      exact lv_ldc2 hx hb hown (hts _ (gd_mem (okKL_all M.1 _ (rA_mem hv)) rfl)) hdg (kk H locs cells slots hP hS hcl hsl)
    · cases h
  case getstatic k =>
    obtain rfl : len = 3 := by simpa [rLq] using hq
    simp only [rH] at h
    split at h
    · rename_i j hv
      cases h
      obtain ⟨hj, hmem⟩ := okS_all M.1 _ (rA_mem hv)
      exact va_gets hx hb (hC.2.1 j hj) hS hown (hts _ (gd_mem hmem rfl)) (fun _ h => h) hdg (kk H locs cells slots hP hS hcl hsl)
    · cases h
  case getfield k =>
    obtain rfl : len = 3 := by simpa [rLq] using hq
    simp only [rH] at h
    split at h
    · rename_i a r ci f hA
      split at h
      · rename_i hT
        refine w_getf hx hb hts hown hC hdg hP hA hT rfl ?_
        split at h
        · rename_i h2
          cases h
          have k2 := kk H locs cells slots hP hS hcl hsl
          rw [List.map_cons, cv_rf] at k2
          rw [if_pos h2]
          exact k2
        · rename_i h2 h3
          cases h
          rw [if_neg (by rw [h3]; intro q9; exact h2 (Option.some.inj q9))]
          exact kk H locs cells slots hP hS hcl hsl
        · cases h
      · cases h
    · cases h
  case putfield k =>
    obtain rfl : len = 3 := by simpa [rLq] using hq
    simp only [rH] at h
    split at h
    · rename_i x a r ci f hA
      split at h
      · rename_i hT
        split at h
        · rename_i h2
          cases h
          refine w_put hx hb hts hown hnm hC hdg hP hS hA hT.1 hT.2 rfl ?_ (rFs_setI (by rw [h2]; decide)) (fun j hj => rCe_I hj) (fun H' locs' hP' hS' => kk H' locs' cells slots hP' hS' hcl hsl)
          rintro t (h3 | h3 | h3)
          · rw [h3.2]
            exact ⟨rfl, rfl⟩
          · rw [h2] at h3
            simp at h3
          · rw [h2] at h3
            simp at h3
        · rename_i h2
          split at h
          · rename_i h01
            cases h
            refine w_put hx hb hts hown hnm hC hdg hP hS hA hT.1 hT.2 rfl ?_ (rFs_setI (by rw [h2]; decide)) (fun j hj => rCe_I hj) (fun H' locs' hP' hS' => kk H' locs' cells slots hP' hS' hcl hsl)
            rintro t (h3 | h3 | h3)
            · rw [h2] at h3
              simp at h3
            · rw [h3.2]
              rcases h01 with rfl | rfl
              · show narrow FieldType.boolean (.int 0) = .int 0 ∧ fits FieldType.boolean (.int 0) = true
                decide
              · show narrow FieldType.boolean (.int 1) = .int 1 ∧ fits FieldType.boolean (.int 1) = true
                decide
            · rw [h2] at h3
              simp at h3
          · cases h
        · cases h
      · cases h
    · rename_i b a r ci f hA
      split at h
      · rename_i hT
        split at h
        · rename_i h2
          cases h
          refine w_put hx hb hts hown hnm hC hdg hP hS hA hT.1 hT.2 rfl ?_ (rFs_setR h2) (fun j hj => rCe_R hj) (fun H' locs' hP' hS' => kk H' locs' cells slots hP' hS' hcl hsl)
          rintro t (h3 | h3 | h3)
          · rw [h2] at h3
            simp at h3
          · rw [h2] at h3
            simp at h3
          · exact ⟨(rFit h3.2 _).2, (rFit h3.2 _).1⟩
        · cases h
      · cases h
    · cases h
  case iaload =>
    obtain rfl : len = 1 := by simpa [rLq] using hq
    simp only [rH] at h
    split at h
    · rename_i k a r
      split at h
      · rename_i n hT
        split at h
        · cases h
        · rename_i hin
          cases h
          exact w_iald hx hb hC hdg hP hT hin (kk H locs cells slots hP hS hcl hsl)
      · cases h
    · rename_i k j r
      split at h
      · cases h
      · rename_i hin
        cases h
        exact va_ti hx hb (hC.2.2 j (Classical.byContradiction fun q => hin (Or.inl q))) hS (fun q => hin (Or.inr q)) rfl hdg (kk H locs cells slots hP hS hcl hsl)
    · cases h
  case iastore =>
    obtain rfl : len = 1 := by simpa [rLq] using hq
    simp only [rH] at h
    split at h
    · rename_i x k a r
      split at h
      · rename_i n hT
        split at h
        · cases h
        · rename_i hin
          cases h
          exact w_iast hx hb hC hdg hP hS hT hin (fun H' locs' hP' hS' => kk H' locs' cells slots hP' hS' hcl hsl)
      · cases h
    · cases h
  case laload =>
    obtain rfl : len = 1 := by simpa [rLq] using hq
    simp only [rH] at h
    split at h
    · rename_i k a r
      split at h
      · rename_i n hT
        split at h
        · cases h
        · rename_i hin
          cases h
          exact w_lald hx hb hC hdg hP hT hin (kk H locs cells slots hP hS hcl hsl)
      · cases h
    · cases h
  case lastore =>
    obtain rfl : len = 1 := by simpa [rLq] using hq
    simp only [rH] at h
    split at h
    · rename_i x k a r
      split at h
      · rename_i n hT
        split at h
        · cases h
        · rename_i hin
          cases h
          exact w_last hx hb hC hdg hP hS hT hin (fun H' locs' hP' hS' => kk H' locs' cells slots hP' hS' hcl hsl)
      · cases h
    · cases h
  case aaload =>
    obtain rfl : len = 1 := by simpa [rLq] using hq
    simp only [rH] at h
    split at h
    · rename_i k a r
      split at h
      · rename_i n hT
        split at h
        · cases h
        · rename_i hin
          cases h
          have k2 := kk H locs cells slots hP hS hcl hsl
          rw [List.map_cons, cv_rf] at k2
          exact w_aald hx hb hC hdg hP hT hin k2
      · cases h
    · cases h
  case aastore =>
    obtain rfl : len = 1 := by simpa [rLq] using hq
    simp only [rH] at h
    split at h
    · rename_i b k a r
      split at h
      · rename_i n hT
        split at h
        · cases h
        · rename_i hin
          cases h
          exact w_aast hx hb hC hdg hP hS hT (Classical.byContradiction fun q => hin (Or.inr q)) (fun q => hin (Or.inl q)) (fun H' locs' hP' hS' => kk H' locs' cells slots hP' hS' hcl hsl)
      · cases h
    · cases h
  case arraylength =>
    obtain rfl : len = 1 := by simpa [rLq] using hq
    simp only [rH] at h
    split at h
    · rename_i j r
      split at h
      · rename_i hj
        cases h
        exact va_tlen hx hb (hC.2.2 j hj) hS rfl hdg (kk H locs cells slots hP hS hcl hsl)
      · cases h
    · cases h
  case new k =>
    obtain rfl : len = 3 := by simpa [rLq] using hq
    simp only [rH] at h
    split at h
    · rename_i ci hA
      cases h
      have e1 : (T ++ [(3, ci)]).length = T.length + 1 := by simp
      have e2 : rSl (T ++ [(3, ci)]) = rSl T + (rFK ci).length := by rw [rSl_push]; rfl
      have hrc' : T.length + 1 ≤ R.cells + y := by rw [← e1]; exact hrc
      have hrs' : rSl T + (rFK ci).length ≤ R.slots + z := by rw [← e2]; exact hrs
      exact w_new hx hb hts hown hC hdg hP hS hy hcl hA (by omega) (by omega) (fun H' locs' hP' hS' => kk H' locs' (cells + 1) (slots + (rFK ci).length) hP' hS' (by rw [e1]; omega) (by rw [e2]; omega))
    · cases h
  case newarray t =>
    obtain rfl : len = 2 := by simpa [rLq] using hq
    cases t
    case int =>
      simp only [rH] at h
      split at h
      · rename_i n r
        split at h
        · cases h
        · rename_i hin
          cases h
          have e1 : (T ++ [(0, n.toNatClampNeg)]).length = T.length + 1 := by simp
          have e2 : rSl (T ++ [(0, n.toNatClampNeg)]) = rSl T + n.toNatClampNeg := by rw [rSl_push]; rfl
          have hrc' : T.length + 1 ≤ R.cells + y := by rw [← e1]; exact hrc
          have hrs' : rSl T + n.toNatClampNeg ≤ R.slots + z := by rw [← e2]; exact hrs
          exact w_newI hx hb hts hC hdg hP hS hy hcl hin (by omega) (by omega) (fun H' locs' hP' hS' => kk H' locs' (cells + 1) (slots + n.toNatClampNeg) hP' hS' (by rw [e1]; omega) (by rw [e2]; omega))
      · cases h
    case long =>
      simp only [rH] at h
      split at h
      · rename_i n r
        split at h
        · cases h
        · rename_i hin
          cases h
          have e1 : (T ++ [(1, n.toNatClampNeg)]).length = T.length + 1 := by simp
          have e2 : rSl (T ++ [(1, n.toNatClampNeg)]) = rSl T + n.toNatClampNeg := by rw [rSl_push]; rfl
          have hrc' : T.length + 1 ≤ R.cells + y := by rw [← e1]; exact hrc
          have hrs' : rSl T + n.toNatClampNeg ≤ R.slots + z := by rw [← e2]; exact hrs
          exact w_newL hx hb hts hC hdg hP hS hy hcl hin (by omega) (by omega) (fun H' locs' hP' hS' => kk H' locs' (cells + 1) (slots + n.toNatClampNeg) hP' hS' (by rw [e1]; omega) (by rw [e2]; omega))
      · cases h
    all_goals (simp [rH] at h)
  case anewarray k =>
    obtain rfl : len = 3 := by simpa [rLq] using hq
    simp only [rH] at h
    split at h
    · rename_i n r hA
      split at h
      · cases h
      · rename_i hin
        cases h
        have e1 : (T ++ [(2, n.toNatClampNeg)]).length = T.length + 1 := by simp
        have e2 : rSl (T ++ [(2, n.toNatClampNeg)]) = rSl T + n.toNatClampNeg := by rw [rSl_push]; rfl
        have hrc' : T.length + 1 ≤ R.cells + y := by rw [← e1]; exact hrc
        have hrs' : rSl T + n.toNatClampNeg ≤ R.slots + z := by rw [← e2]; exact hrs
        exact w_newS hCn hx hb hts hown hC hdg hP hS hy hcl hA hin (by omega) (by omega) (fun H' locs' hP' hS' => kk H' locs' (cells + 1) (slots + n.toNatClampNeg) hP' hS' (by rw [e1]; omega) (by rw [e2]; omega))
    · cases h
  case invokespecial k =>
    obtain rfl : len = 3 := by simpa [rLq] using hq
    simp only [rH] at h
    split at h
    · rename_i a r
      split at h
      · rename_i hc
        cases h
        refine W.objInit hx hb hown (hts _ (gd_mem (okO_all M.1 k (by simpa using hc.1)) rfl)) (hts _ (gd_mem ok_objI rfl)) (hts _ (gd_mem ok_objC rfl)) rfl hml.symm (a := B + a) (rest := st1.map (cv B ext)) rfl hdg (by omega) ?_ (W.eq (g2 := F0 m (pc + 3) ls (st1.map (cv B ext))) rfl (kk H locs cells slots hP hS hcl hsl))
        rw [rCat_map]
        show 2 * 0 + rCat st1 + 12 ≤ R.locals
        omega
      · cases h
    · cases h
  case invokestatic k =>
    obtain rfl : len = 3 := by simpa [rLq] using hq
    simp only [rH] at h
    split at h
    · rename_i hk
      split at h
      · rename_i y0 x0 r
        split at h
        · rename_i hc
          cases h
          have hrc' : T.length ≤ R.cells + y := hrc
          have hrs' : rSl T ≤ R.slots + z := hrs
          refine va_mmax hx hb hml hown (hts _ (gd_mem (okX_all M.1 k (by simpa using hk)) rfl)) (hts _ (gd_mem ok_mxS rfl)) (hts _ (gd_mem ok_mI rfl)) (hts _ (gd_mem ok_mxC rfl)) (by omega) ?_ (by omega) (by omega) hdg (kk H locs cells slots hP hS hcl hsl)
          rw [rCat_map]
          omega
        · cases h
      · cases h
    · split at h
      · rename_i hk
        split at h
        · rename_i y0 x0 r
          split at h
          · rename_i hc
            cases h
            have hrc' : T.length ≤ R.cells + y := hrc
            have hrs' : rSl T ≤ R.slots + z := hrs
            refine va_mmin hx hb hml hown (hts _ (gd_mem (okI_all M.1 k (by simpa using hk)) rfl)) (hts _ (gd_mem ok_mnS rfl)) (hts _ (gd_mem ok_mI rfl)) (hts _ (gd_mem ok_mnC rfl)) (by omega) ?_ (by omega) (by omega) hdg (kk H locs cells slots hP hS hcl hsl)
            rw [rCat_map]
            omega
          · cases h
        · cases h
      · split at h
        · rename_i n dp b sp a r
          split at h
          · rename_i hc
            obtain ⟨hk, hd1, hcat, h1, h2, h3⟩ := hc
            split at h
            · rename_i la lb ha hb2
              split at h
              · rename_i h45
                cases h
                exact w_cpI hx hb hml hts hown hC hdg hP hS (by simpa using hk) (by omega) (by rw [show rCat (st1.map (cv B ext)) = rCat st1 from rCat_map B ext st1]; omega) h1 h2 h3 ha hb2 h45.1 h45.2 (fun H' locs' hP' hS' => kk H' locs' cells slots hP' hS' hcl hsl)
              · cases h
            · rename_i la lb ha hb2
              split at h
              · rename_i h45
                cases h
                exact w_cpL hx hb hml hts hown hC hdg hP hS (by simpa using hk) (by omega) (by rw [show rCat (st1.map (cv B ext)) = rCat st1 from rCat_map B ext st1]; omega) h1 h2 h3 ha hb2 h45.1 h45.2 (fun H' locs' hP' hS' => kk H' locs' cells slots hP' hS' hcl hsl)
              · cases h
            · cases h
          · cases h
        · cases h
  all_goals (simp [rH] at h)
end S4
