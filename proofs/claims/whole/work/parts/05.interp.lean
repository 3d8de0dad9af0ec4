/-! THE ABSTRACT MACHINE: the class's own instructions over a flat memory (shapes, ints, longs, references), with fuel n and frames d -/
def rlk : List (Nat × Jvm.ClassFile.Instr × Nat) → Nat → Option (Jvm.ClassFile.Instr × Nat)
  | [], _ => none
  | e :: t, pc => if e.1 = pc then some e.2 else rlk t pc
theorem rlk_mem : ∀ {t : List (Nat × Jvm.ClassFile.Instr × Nat)} {pc : Nat} {x : Jvm.ClassFile.Instr × Nat}, rlk t pc = some x → (pc, x) ∈ t
  | [], _, _, h => by simp [rlk] at h
  | e :: t, pc, x, h => by
    unfold rlk at h
    by_cases he : e.1 = pc
    · rw [if_pos he] at h
      cases h
      subst he
      exact List.mem_cons_self
    · rw [if_neg he] at h
      exact List.mem_cons_of_mem _ (rlk_mem h)
def rA {α : Type} : List (Nat × α) → Nat → Option α
  | [], _ => none
  | e :: t, k => if e.1 = k then some e.2 else rA t k
theorem rA_mem {α : Type} : ∀ {t : List (Nat × α)} {k : Nat} {x : α}, rA t k = some x → (k, x) ∈ t
  | [], _, _, h => by simp [rA] at h
  | e :: t, k, x, h => by
    unfold rA at h
    by_cases he : e.1 = k
    · rw [if_pos he] at h
      cases h
      subst he
      exact List.mem_cons_self
    · rw [if_neg he] at h
      exact List.mem_cons_of_mem _ (rA_mem h)
/-- shapes (kind, n): 0 ints, 1 longs, 2 references, 3 an object of class n -/
abbrev rS : Type := List (Nat × Nat) × (Nat → Nat → Int32) × (Nat → Nat → Int64) × (Nat → Nat → Option Nat)
/-- a local that is not set -/
abbrev rU : Value := .float 0
def rOk (L : List Value) (i : Nat) : Bool := match i with
  | 0 => true
  | j + 1 => match L[j]? with
    | some (.long _) => false
    | some (.double _) => false
    | _ => true
def rSt1 (L : List Value) (i : Nat) (v : Value) (st : List Value) : Option (List Value × List Value) := if i < L.length ∧ rOk L i = true then some (L.set i v, st) else none
def rSt2 (L : List Value) (i : Nat) (v : Value) (st : List Value) : Option (List Value × List Value) := if i + 1 < L.length ∧ rOk L i = true then some ((L.set i v).set (i + 1) rU, st) else none
def rLdI (L : List Value) (i : Nat) (st : List Value) : Option (List Value × List Value) := match L[i]? with
  | some (.int x) => some (L, .int x :: st)
  | _ => none
def rLdJ (L : List Value) (i : Nat) (st : List Value) : Option (List Value × List Value) := match L[i]? with
  | some (.long x) => some (L, .long x :: st)
  | _ => none
def rLdA (L : List Value) (i : Nat) (st : List Value) : Option (List Value × List Value) := match L[i]? with
  | some (.ref x) => some (L, .ref x :: st)
  | some (.retAddr x) => some (L, .retAddr x :: st)
  | _ => none
def rStI (L : List Value) (i : Nat) (st : List Value) : Option (List Value × List Value) := match st with
  | .int x :: r => rSt1 L i (.int x) r
  | _ => none
def rStJ (L : List Value) (i : Nat) (st : List Value) : Option (List Value × List Value) := match st with
  | .long x :: r => rSt2 L i (.long x) r
  | _ => none
def rStA (L : List Value) (i : Nat) (st : List Value) : Option (List Value × List Value) := match st with
  | .ref x :: r => rSt1 L i (.ref x) r
  | _ => none
def rI1 (L st : List Value) (f : Int32 → Int32) : Option (List Value × List Value) := match st with
  | .int x :: r => some (L, .int (f x) :: r)
  | _ => none
def rI2 (L st : List Value) (f : Int32 → Int32 → Int32) : Option (List Value × List Value) := match st with
  | .int y :: .int x :: r => some (L, .int (f x y) :: r)
  | _ => none
def rI2z (L st : List Value) (f : Int32 → Int32 → Int32) : Option (List Value × List Value) := match st with
  | .int y :: .int x :: r => if y = 0 then none else some (L, .int (f x y) :: r)
  | _ => none
def rJ2 (L st : List Value) (f : Int64 → Int64 → Int64) : Option (List Value × List Value) := match st with
  | .long y :: .long x :: r => some (L, .long (f x y) :: r)
  | _ => none
def rInc (L : List Value) (i : Nat) (n : Int) (st : List Value) : Option (List Value × List Value) := match L[i]? with
  | some (.int x) => rSt1 L i (.int (x + Int32.ofInt n)) st
  | _ => none
/-- one slot wide, and no ghost -/
def rC1 (v : Value) : Bool := match v with
  | .int _ => true
  | .ref _ => true
  | _ => false
def rDup (L st : List Value) : Option (List Value × List Value) := match st with
  | a :: r => if rC1 a = true then some (L, a :: a :: r) else none
  | _ => none
def rPop (L st : List Value) : Option (List Value × List Value) := match st with
  | a :: r => if rC1 a = true then some (L, r) else none
  | _ => none
def rDupX1 (L st : List Value) : Option (List Value × List Value) := match st with
  | a :: b :: r => if rC1 a = true ∧ rC1 b = true then some (L, a :: b :: a :: r) else none
  | _ => none
def rDup2 (L st : List Value) : Option (List Value × List Value) := match st with
  | a :: b :: r => if rC1 a = true ∧ rC1 b = true then some (L, a :: b :: a :: b :: r) else none
  | _ => none
/-- instructions on locals and stack alone -/
def rP (i : Jvm.ClassFile.Instr) (L st : List Value) : Option (List Value × List Value) := match i with
  | .iconst n => some (L, .int (Int32.ofInt n) :: st)
  | .bipush n => some (L, .int (Int8.ofInt n).toInt32 :: st)
  | .sipush n => some (L, .int (Int16.ofInt n).toInt32 :: st)
  | .lconst n => some (L, .long (Int64.ofNat n) :: st)
  | .iload_n k => rLdI L k st
  | .iload k => rLdI L k st
  | .lload_n k => rLdJ L k st
  | .lload k => rLdJ L k st
  | .aload_n k => rLdA L k st
  | .aload k => rLdA L k st
  | .istore_n k => rStI L k st
  | .istore k => rStI L k st
  | .lstore_n k => rStJ L k st
  | .lstore k => rStJ L k st
  | .astore_n k => rStA L k st
  | .astore k => rStA L k st
  | .iinc k n => rInc L k n st
  | .iadd => rI2 L st (fun x y => x + y)
  | .isub => rI2 L st (fun x y => x - y)
  | .imul => rI2 L st (fun x y => x * y)
  | .iand => rI2 L st (fun x y => x &&& y)
  | .ior => rI2 L st (fun x y => x ||| y)
  | .ixor => rI2 L st (fun x y => x ^^^ y)
  | .ishl => rI2 L st (fun x y => x <<< (y &&& 31))
  | .ishr => rI2 L st (fun x y => x >>> (y &&& 31))
  | .iushr => rI2 L st (fun x y => (x.toUInt32 >>> (y.toUInt32 &&& Int32.toUInt32 31)).toInt32)
  | .idiv => rI2z L st (fun x y => x / y)
  | .irem => rI2z L st (fun x y => x - x / y * y)
  | .ineg => rI1 L st (fun x => -x)
  | .i2b => rI1 L st (fun x => x.toInt8.toInt32)
  | .i2s => rI1 L st (fun x => x.toInt16.toInt32)
  | .ladd => rJ2 L st (fun x y => x + y)
  | .lmul => rJ2 L st (fun x y => x * y)
  | .land => rJ2 L st (fun x y => x &&& y)
  | .lor => rJ2 L st (fun x y => x ||| y)
  | .lshl => (match st with
    | .int y :: .long x :: r => some (L, .long (x <<< (y.toInt64 &&& 63)) :: r)
    | _ => none)
  | .i2l => (match st with
    | .int x :: r => some (L, .long x.toInt64 :: r)
    | _ => none)
  | .l2i => (match st with
    | .long x :: r => some (L, .int x.toInt32 :: r)
    | _ => none)
  | .lcmp => (match st with
    | .long y :: .long x :: r => some (L, .int (lg_cmp x y) :: r)
    | _ => none)
  | .dup => rDup L st
  | .pop => rPop L st
  | .dup_x1 => rDupX1 L st
  | .dup2 => rDup2 L st
  | _ => none
def rCnd (c : Jvm.ClassFile.Cond) (x y : Int32) : Bool := match c with
  | .eq => decide (x = y)
  | .ne => decide (¬ x = y)
  | .lt => decide (x < y)
  | .ge => decide (y ≤ x)
  | .gt => decide (y < x)
  | .le => decide (x ≤ y)
/-- a place, if the number is one -/
def rTo (z : Int) : Option Nat := if 0 ≤ z then some z.toNat else none
/-- branches -/
def rB (i : Jvm.ClassFile.Instr) (pc : Nat) (st : List Value) : Option (Nat × List Value) := match i with
  | .goto o => (match rTo ((pc : Int) + o) with
    | some t => some (t, st)
    | none => none)
  | .ifCond c o => (match st, rTo ((pc : Int) + o) with
    | .int x :: r, some t => some (if rCnd c x 0 = true then t else pc + 3, r)
    | _, _ => none)
  | .if_icmp c o => (match st, rTo ((pc : Int) + o) with
    | .int y :: .int x :: r, some t => some (if rCnd c x y = true then t else pc + 3, r)
    | _, _ => none)
  | .tableswitch df lo hi offs => (match st with
    | .int x :: r => if x.toInt < lo ∨ hi < x.toInt then (match rTo ((pc : Int) + df) with
        | some t => some (t, r)
        | none => none) else (match offs[(x.toInt - lo).toNat]? with
        | some o => (match rTo ((pc : Int) + o) with
          | some t => some (t, r)
          | none => none)
        | none => none)
    | _ => none)
  | .lookupswitch df ps => (match st with
    | .int x :: r => if (ps.toList.zip (ps.toList.drop 1)).all (fun (a, next) => a.1 < next.1) = true then (match rTo ((pc : Int) + Op.lookupswitch.offset ps.toList df x.toInt) with
        | some t => some (t, r)
        | none => none) else none
    | _ => none)
  | _ => none
def rCat (st : List Value) : Nat := (st.map fun v => v.category).sum
/-- may this method write this field -/
def rPut (M : rM) (ci k : Nat) : Bool := match vwCl[ci]? with
  | some r => !(r.2.1 k).2.2.2 || (M.2.1.name == "<init>" && ci == M.1)
  | none => false
/-- instructions on the memory -/
def rH (X : Nat → Nat × (Nat → Int32)) (d : Nat) (M : rM) (i : Jvm.ClassFile.Instr) (st : List Value) (T : List (Nat × Nat)) (I : Nat → Nat → Int32) (J : Nat → Nat → Int64) (R : Nat → Nat → Option Nat) : Option (List Value × rS) := match i with
  | .ldc k => (match rA (rKI M.1) k with
    | some v => some (.int v :: st, (T, I, J, R))
    | none => none)
  | .ldc_w k => (match rA (rKI M.1) k with
    | some v => some (.int v :: st, (T, I, J, R))
    | none => none)
  | .ldc2_w k => (match rA (rKL M.1) k with
    | some v => some (.long v :: st, (T, I, J, R))
    | none => none)
  | .getstatic k => (match rA (rST M.1) k with
    | some j => some (.retAddr j :: st, (T, I, J, R))
    | none => none)
  | .getfield k => (match st, rA (rFT M.1) k with
    | .ref a :: r, some (ci, f) => if T[a]? = some (3, ci) then (match (rFK ci)[f]? with
        | some 2 => some (va_rf (R a f) :: r, (T, I, J, R))
        | some _ => some (.int (I a f) :: r, (T, I, J, R))
        | none => none) else none
    | _, _ => none)
  | .putfield k => (match st, rA (rFT M.1) k with
    | .int x :: .ref a :: r, some (ci, f) => if T[a]? = some (3, ci) ∧ rPut M ci f = true then (match (rFK ci)[f]? with
        | some 0 => some (r, (T, va_up I a (va_up (I a) f x), J, R))
        | some 1 => if x = 0 ∨ x = 1 then some (r, (T, va_up I a (va_up (I a) f x), J, R)) else none
        | _ => none) else none
    | .ref b :: .ref a :: r, some (ci, f) => if T[a]? = some (3, ci) ∧ rPut M ci f = true then (match (rFK ci)[f]? with
        | some 2 => some (r, (T, I, J, va_up R a (va_up (R a) f (some b))))
        | _ => none) else none
    | _, _ => none)
  | .iaload => (match st with
    | .int k :: .ref a :: r => (match T[a]? with
      | some (0, n) => if k < 0 ∨ n ≤ k.toNatClampNeg then none else some (.int (I a k.toNatClampNeg) :: r, (T, I, J, R))
      | _ => none)
    | .int k :: .retAddr j :: r => if ¬ j < 5 ∨ k < 0 ∨ (X j).1 ≤ k.toNatClampNeg then none else some (.int ((X j).2 k.toNatClampNeg) :: r, (T, I, J, R))
    | _ => none)
  | .iastore => (match st with
    | .int x :: .int k :: .ref a :: r => (match T[a]? with
      | some (0, n) => if k < 0 ∨ n ≤ k.toNatClampNeg then none else some (r, (T, va_up I a (va_up (I a) k.toNatClampNeg x), J, R))
      | _ => none)
    | _ => none)
  | .laload => (match st with
    | .int k :: .ref a :: r => (match T[a]? with
      | some (1, n) => if k < 0 ∨ n ≤ k.toNatClampNeg then none else some (.long (J a k.toNatClampNeg) :: r, (T, I, J, R))
      | _ => none)
    | _ => none)
  | .lastore => (match st with
    | .long x :: .int k :: .ref a :: r => (match T[a]? with
      | some (1, n) => if k < 0 ∨ n ≤ k.toNatClampNeg then none else some (r, (T, I, va_up J a (va_up (J a) k.toNatClampNeg x), R))
      | _ => none)
    | _ => none)
  | .aaload => (match st with
    | .int k :: .ref a :: r => (match T[a]? with
      | some (2, n) => if k < 0 ∨ n ≤ k.toNatClampNeg then none else some (va_rf (R a k.toNatClampNeg) :: r, (T, I, J, R))
      | _ => none)
    | _ => none)
  | .aastore => (match st with
    | .ref b :: .int k :: .ref a :: r => (match T[a]? with
      | some (2, n) => if (k < 0 ∨ n ≤ k.toNatClampNeg) ∨ ¬ T[b]? = some (3, 4) then none else some (r, (T, I, J, va_up R a (va_up (R a) k.toNatClampNeg (some b))))
      | _ => none)
    | _ => none)
  | .arraylength => (match st with
    | .retAddr j :: r => if j < 5 then some (.int (Int32.ofNat (X j).1) :: r, (T, I, J, R)) else none
    | _ => none)
  | .new k => (match rA (rNW M.1) k with
    | some ci => some (.ref T.length :: st, (T ++ [(3, ci)], va_up I T.length (fun _ => 0), J, va_up R T.length (fun _ => none)))
    | none => none)
  | .newarray .int => (match st with
    | .int n :: r => if n < 0 ∨ 1000 < n.toNatClampNeg then none else some (.ref T.length :: r, (T ++ [(0, n.toNatClampNeg)], va_up I T.length (fun _ => 0), J, R))
    | _ => none)
  | .newarray .long => (match st with
    | .int n :: r => if n < 0 ∨ 1000 < n.toNatClampNeg then none else some (.ref T.length :: r, (T ++ [(1, n.toNatClampNeg)], I, va_up J T.length (fun _ => 0), R))
    | _ => none)
  | .anewarray k => (match st, rA (rNW M.1) k with
    | .int n :: r, some 4 => if n < 0 ∨ 1000 < n.toNatClampNeg then none else some (.ref T.length :: r, (T ++ [(2, n.toNatClampNeg)], I, J, va_up R T.length (fun _ => none)))
    | _, _ => none)
  | .invokespecial k => (match st with
    | .ref _ :: r => if (rOI M.1).contains k = true ∧ 1 ≤ d ∧ rCat r ≤ 8 then some (r, (T, I, J, R)) else none
    | _ => none)
  | .invokestatic k => if (rMX M.1).contains k = true then (match st with
      | .int y :: .int x :: r => if 1 ≤ d ∧ rCat r ≤ 8 then some (.int (if x < y then y else x) :: r, (T, I, J, R)) else none
      | _ => none)
    else if (rMN M.1).contains k = true then (match st with
      | .int y :: .int x :: r => if 1 ≤ d ∧ rCat r ≤ 8 then some (.int (if y < x then y else x) :: r, (T, I, J, R)) else none
      | _ => none)
    else (match st with
    | .int n :: .int dp :: .ref b :: .int sp :: .ref a :: r => if (rAC M.1).contains k = true ∧ 1 ≤ d ∧ rCat r ≤ 8 ∧ ¬ sp < 0 ∧ ¬ dp < 0 ∧ ¬ n < 0 then (match T[a]?, T[b]? with
        | some (0, la), some (0, lb) => if sp.toNatClampNeg + n.toNatClampNeg ≤ la ∧ dp.toNatClampNeg + n.toNatClampNeg ≤ lb then some (r, (T, va_up I b (va_cpy (I a) (I b) sp.toNatClampNeg dp.toNatClampNeg n.toNatClampNeg), J, R)) else none
        | some (1, la), some (1, lb) => if sp.toNatClampNeg + n.toNatClampNeg ≤ la ∧ dp.toNatClampNeg + n.toNatClampNeg ≤ lb then some (r, (T, I, va_up J b (va_cpy (J a) (J b) sp.toNatClampNeg dp.toNatClampNeg n.toNatClampNeg), R)) else none
        | _, _ => none) else none
    | _ => none)
  | _ => none
/-- arguments as locals -/
def rArg : List Value → List Value
  | [] => []
  | .long v :: r => .long v :: rU :: rArg r
  | .double v :: r => .double v :: rU :: rArg r
  | v :: r => v :: rArg r
def rEnt (M : rM) (as : List Value) : List Value := rArg as ++ List.replicate (M.2.2.2.1 - (rArg as).length) rU
def rRcv (k : Nat) (as : List Value) (T : List (Nat × Nat)) (ci : Nat) : Bool := match k, as with
  | 0, .ref b :: _ => decide (T[b]? = some (3, ci))
  | 0, _ => false
  | 3, .ref _ :: _ => true
  | 3, _ => false
  | _, _ => true
/-- the callee's arguments, and what stays on the stack -/
def rSpl (M : rM) (k : Nat) (st : List Value) (T : List (Nat × Nat)) : Option (List Value × List Value) :=
  if M.2.2.2.2.2.1 ≤ st.length ∧ rCat (st.drop M.2.2.2.2.2.1) ≤ 8 ∧ (rArg (st.take M.2.2.2.2.2.1).reverse).length ≤ M.2.2.2.1 ∧ rRcv k (st.take M.2.2.2.2.2.1).reverse T M.1 = true then some ((st.take M.2.2.2.2.2.1).reverse, st.drop M.2.2.2.2.2.1) else none
/-- the callee of an instruction: how, and which -/
def rCal (M : rM) (i : Jvm.ClassFile.Instr) : Option (Nat × rM) := match i with
  | .invokevirtual k => (match rA (rCT M.1) k with
    | some (0, N) => some (0, N)
    | _ => none)
  | .invokestatic k => (match rA (rCT M.1) k with
    | some (1, N) => some (1, N)
    | some (2, N) => some (2, N)
    | _ => none)
  | .invokespecial k => (match rA (rCT M.1) k with
    | some (3, N) => some (3, N)
    | _ => none)
  | _ => none
/-- the answer -/
def rRt (M : rM) (i : Jvm.ClassFile.Instr) (st : List Value) : Option (Option Value) := match i with
  | .ireturn => (match st, M.2.2.2.2.1 with
    | [.int v], some .int => some (some (.int v))
    | [.int v], some .boolean => if v = 0 ∨ v = 1 then some (some (.int v)) else none
    | _, _ => none)
  | .lreturn => (match st, M.2.2.2.2.1 with
    | [.long v], some .long => some (some (.long v))
    | _, _ => none)
  | .areturn => (match st, M.2.2.2.2.1 with
    | [.ref a], some (.object _) => some (some (.ref a))
    | [.ref a], some (.array _) => some (some (.ref a))
    | _, _ => none)
  | .return_ => (match st, M.2.2.2.2.1 with
    | [], none => some none
    | _, _ => none)
  | _ => none
def rI (X : Nat → Nat × (Nat → Int32)) : Nat → Nat → rM → Nat → List Value → List Value → rS → Option (Option Value × rS)
  | 0, _, _, _, _, _, _ => none
  | n + 1, d, M, pc, L, st, σ =>
    match rlk M.2.2.2.2.2.2 pc with
    | none => none
    | some (i, len) =>
      match rP i L st with
      | some (L1, st1) => rI X n d M (pc + len) L1 st1 σ
      | none =>
        match rB i pc st with
        | some (pc1, st1) => rI X n d M pc1 L st1 σ
        | none =>
          match rH X d M i st σ.1 σ.2.1 σ.2.2.1 σ.2.2.2 with
          | some (st1, σ1) => rI X n d M (pc + len) L st1 σ1
          | none =>
            match rCal M i with
            | some (k, N) =>
              (match rSpl N k st σ.1, d with
              | some (as, st1), d1 + 1 =>
                (match rI X n d1 N 0 (rEnt N as) [] σ with
                | some (v, σ1) => rI X n (d1 + 1) M (pc + len) L (v.toList ++ st1) σ1
                | none => none)
              | _, _ => none)
            | none =>
              match rRt M i st with
              | some v => some (v, σ)
              | none => none
theorem rI_mono (X : Nat → Nat × (Nat → Int32)) : ∀ (n : Nat) {d : Nat} {M : rM} {pc : Nat} {L st : List Value} {σ : rS} {r : Option Value × rS}, rI X n d M pc L st σ = some r → rI X (n + 1) d M pc L st σ = some r := by
  intro n
  induction n with
  | zero => intro d M pc L st σ r h; simp [rI] at h
  | succ n ih =>
    intro d M pc L st σ r h
    rw [rI] at h
    rw [rI]
    split at h
    · cases h
    · rename_i i len hi
      try simp only [hi]
      split at h
      · rename_i L1 st1 h1
        try simp only [h1]
        exact ih h
      · rename_i h1
        try simp only [h1]
        split at h
        · rename_i pc1 st1 h2
          try simp only [h2]
          exact ih h
        · rename_i h2
          try simp only [h2]
          split at h
          · rename_i st1 σ1 h3
            try simp only [h3]
            exact ih h
          · rename_i h3
            try simp only [h3]
            split at h
            · rename_i k N h4
              try simp only [h4]
              split at h
              · rename_i as st1 d1 h5
                try simp only [h5]
                split at h
                · rename_i v σ1 h6
                  try rw [ih h6]
                  exact ih h
                · cases h
              · cases h
            · rename_i h4
              try simp only [h4]
              exact h
theorem rI_le (X : Nat → Nat × (Nat → Int32)) {n m : Nat} (hm : n ≤ m) {d : Nat} {M : rM} {pc : Nat} {L st : List Value} {σ : rS} {r : Option Value × rS} (h : rI X n d M pc L st σ = some r) : rI X m d M pc L st σ = some r := by
  induction hm with
  | refl => exact h
  | step _ ih => exact rI_mono X _ ih
/-- from here the machine comes to its answer, and Q holds of it -/
def Ex (X : Nat → Nat × (Nat → Int32)) (d : Nat) (M : rM) (pc : Nat) (L st : List Value) (σ : rS) (Q : Option Value → rS → Prop) : Prop := ∃ (n : Nat) (v : Option Value) (σ1 : rS), rI X n d M pc L st σ = some (v, σ1) ∧ Q v σ1
section EX
variable {X : Nat → Nat × (Nat → Int32)} {d : Nat} {M : rM} {pc len : Nat} {L st L1 st1 : List Value} {σ σ1 : rS} {Q : Option Value → rS → Prop} {i : Jvm.ClassFile.Instr}
theorem ex_P (h0 : rlk M.2.2.2.2.2.2 pc = some (i, len)) (h1 : rP i L st = some (L1, st1)) : Ex X d M pc L st σ Q = Ex X d M (pc + len) L1 st1 σ Q := by
  apply propext
  constructor
  · rintro ⟨n, v, σ1, h, hq⟩
    cases n with
    | zero => simp [rI] at h
    | succ n =>
      rw [rI] at h
      simp only [h0, h1] at h
      exact ⟨n, v, σ1, h, hq⟩
  · rintro ⟨n, v, σ1, h, hq⟩
    refine ⟨n + 1, v, σ1, ?_, hq⟩
    rw [rI]
    simp only [h0, h1]
    exact h
theorem ex_B {pc1 : Nat} (h0 : rlk M.2.2.2.2.2.2 pc = some (i, len)) (h1 : rP i L st = none) (h2 : rB i pc st = some (pc1, st1)) : Ex X d M pc L st σ Q = Ex X d M pc1 L st1 σ Q := by
  apply propext
  constructor
  · rintro ⟨n, v, σ1, h, hq⟩
    cases n with
    | zero => simp [rI] at h
    | succ n =>
      rw [rI] at h
      simp only [h0, h1, h2] at h
      exact ⟨n, v, σ1, h, hq⟩
  · rintro ⟨n, v, σ1, h, hq⟩
    refine ⟨n + 1, v, σ1, ?_, hq⟩
    rw [rI]
    simp only [h0, h1, h2]
    exact h
theorem ex_H (h0 : rlk M.2.2.2.2.2.2 pc = some (i, len)) (h1 : rP i L st = none) (h2 : rB i pc st = none) (h3 : rH X d M i st σ.1 σ.2.1 σ.2.2.1 σ.2.2.2 = some (st1, σ1)) : Ex X d M pc L st σ Q = Ex X d M (pc + len) L st1 σ1 Q := by
  apply propext
  constructor
  · rintro ⟨n, v, σ1, h, hq⟩
    cases n with
    | zero => simp [rI] at h
    | succ n =>
      rw [rI] at h
      simp only [h0, h1, h2, h3] at h
      exact ⟨n, v, _, h, hq⟩
  · rintro ⟨n, v, σ1, h, hq⟩
    refine ⟨n + 1, v, _, ?_, hq⟩
    rw [rI]
    simp only [h0, h1, h2, h3]
    exact h
/-- a memory instruction that can't go on -/
theorem ex_N (h0 : rlk M.2.2.2.2.2.2 pc = some (i, len)) (h1 : rP i L st = none) (h2 : rB i pc st = none) (h3 : rH X d M i st σ.1 σ.2.1 σ.2.2.1 σ.2.2.2 = none) (h4 : rCal M i = none) (h5 : rRt M i st = none) : Ex X d M pc L st σ Q = False := by
  apply propext
  constructor
  · rintro ⟨n, v, σ1, h, hq⟩
    cases n with
    | zero => simp [rI] at h
    | succ n =>
      rw [rI] at h
      simp only [h0, h1, h2, h3, h4, h5] at h
      cases h
  · exact False.elim
theorem ex_C {k : Nat} {N : rM} {as : List Value} (h0 : rlk M.2.2.2.2.2.2 pc = some (i, len)) (h1 : rP i L st = none) (h2 : rB i pc st = none) (h3 : rH X (d + 1) M i st σ.1 σ.2.1 σ.2.2.1 σ.2.2.2 = none) (h4 : rCal M i = some (k, N)) (h5 : rSpl N k st σ.1 = some (as, st1)) :
    Ex X (d + 1) M pc L st σ Q = Ex X d N 0 (rEnt N as) [] σ (fun v σ1 => Ex X (d + 1) M (pc + len) L (v.toList ++ st1) σ1 Q) := by
  apply propext
  constructor
  · rintro ⟨n, v, σ1, h, hq⟩
    cases n with
    | zero => simp [rI] at h
    | succ n =>
      rw [rI] at h
      simp only [h0, h1, h2, h3, h4, h5] at h
      split at h
      · rename_i v1 σ2 h6
        exact ⟨n, v1, σ2, h6, n, v, σ1, h, hq⟩
      · cases h
  · rintro ⟨n, v1, σ2, h6, m, v, σ1, h, hq⟩
    refine ⟨n + m + 1, v, σ1, ?_, hq⟩
    rw [rI]
    simp only [h0, h1, h2, h3, h4, h5]
    rw [rI_le X (Nat.le_add_right n m) h6]
    exact rI_le X (Nat.le_add_left m n) h
theorem ex_R {v : Option Value} (h0 : rlk M.2.2.2.2.2.2 pc = some (i, len)) (h1 : rP i L st = none) (h2 : rB i pc st = none) (h3 : rH X d M i st σ.1 σ.2.1 σ.2.2.1 σ.2.2.2 = none) (h4 : rCal M i = none) (h5 : rRt M i st = some v) : Ex X d M pc L st σ Q = Q v σ := by
  apply propext
  constructor
  · rintro ⟨n, v, σ1, h, hq⟩
    cases n with
    | zero => simp [rI] at h
    | succ n =>
      rw [rI] at h
      simp only [h0, h1, h2, h3, h4, h5] at h
      cases h
      exact hq
  · intro hq
    refine ⟨1, v, σ, ?_, hq⟩
    rw [rI]
    simp only [h0, h1, h2, h3, h4, h5]
theorem ex_mono {Q2 : Option Value → rS → Prop} (h : ∀ v σ1, Q v σ1 → Q2 v σ1) (hx : Ex X d M pc L st σ Q) : Ex X d M pc L st σ Q2 := by
  obtain ⟨n, v, σ1, h1, hq⟩ := hx
  exact ⟨n, v, σ1, h1, h v σ1 hq⟩
end EX
