set_option maxRecDepth 50000 in
theorem gX3_init_0 : (∀ (X : tX) (d : Nat) (x0 : Nat) (σ : rS) (Q : tQ), Ex X d mX3_init 0 [.ref x0] [] σ Q = Ex X d mX3_init 1 [.ref x0] [.ref x0] σ Q) ∧
  (∀ (X : tX) (d : Nat) (x0 : Nat) (s0 : Nat) (T : tT) (I : tI) (J : tJ) (R : tR) (Q : tQ), Ex X (d + 1) mX3_init 1 [.ref x0] [.ref s0] (T, I, J, R) Q = Ex X (d + 1) mX3_init 4 [.ref x0] [] (T, I, J, R) Q) ∧
  (∀ (X : tX) (d : Nat) (x0 : Nat) (σ : rS) (Q : tQ), Ex X d mX3_init 4 [.ref x0] [] σ Q = Ex X d mX3_init 5 [.ref x0] [.ref x0] σ Q) ∧
  (∀ (X : tX) (d : Nat) (x0 : Nat) (s0 : Nat) (σ : rS) (Q : tQ), Ex X d mX3_init 5 [.ref x0] [.ref s0] σ Q = Ex X d mX3_init 7 [.ref x0] [.int 8, .ref s0] σ Q) ∧
  (∀ (X : tX) (d : Nat) (x0 : Nat) (s0 : Nat) (s1 : Nat) (T : tT) (I : tI) (J : tJ) (R : tR) (Q : tQ), Ex X d mX3_init 9 [.ref x0] [.ref s0, .ref s1] (T, I, J, R) Q = (T[s1]? = some (3, 3) ∧ Ex X d mX3_init 12 [.ref x0] [] (T, I, J, va_up R s1 (va_up (R s1) 0 (some s0))) Q)) ∧
  (∀ (X : tX) (d : Nat) (x0 : Nat) (σ : rS) (Q : tQ), Ex X d mX3_init 12 [.ref x0] [] σ Q = Ex X d mX3_init 13 [.ref x0] [.ref x0] σ Q) ∧
  (∀ (X : tX) (d : Nat) (x0 : Nat) (s0 : Nat) (σ : rS) (Q : tQ), Ex X d mX3_init 13 [.ref x0] [.ref s0] σ Q = Ex X d mX3_init 15 [.ref x0] [.int 8, .ref s0] σ Q) ∧
  (∀ (X : tX) (d : Nat) (x0 : Nat) (s0 : Nat) (s1 : Nat) (T : tT) (I : tI) (J : tJ) (R : tR) (Q : tQ), Ex X d mX3_init 17 [.ref x0] [.ref s0, .ref s1] (T, I, J, R) Q = (T[s1]? = some (3, 3) ∧ Ex X d mX3_init 20 [.ref x0] [] (T, I, J, va_up R s1 (va_up (R s1) 1 (some s0))) Q)) ∧
  (∀ (X : tX) (d : Nat) (x0 : Nat) (σ : rS) (Q : tQ), Ex X d mX3_init 20 [.ref x0] [] σ Q = Ex X d mX3_init 21 [.ref x0] [.ref x0] σ Q) ∧
  (∀ (X : tX) (d : Nat) (x0 : Nat) (s0 : Nat) (σ : rS) (Q : tQ), Ex X d mX3_init 21 [.ref x0] [.ref s0] σ Q = Ex X d mX3_init 23 [.ref x0] [.int 8, .ref s0] σ Q) ∧
  (∀ (X : tX) (d : Nat) (x0 : Nat) (s0 : Nat) (s1 : Nat) (T : tT) (I : tI) (J : tJ) (R : tR) (Q : tQ), Ex X d mX3_init 25 [.ref x0] [.ref s0, .ref s1] (T, I, J, R) Q = (T[s1]? = some (3, 3) ∧ Ex X d mX3_init 28 [.ref x0] [] (T, I, J, va_up R s1 (va_up (R s1) 2 (some s0))) Q)) ∧
  (∀ (X : tX) (d : Nat) (x0 : Nat) (σ : rS) (Q : tQ), Ex X d mX3_init 28 [.ref x0] [] σ Q = Ex X d mX3_init 29 [.ref x0] [.ref x0] σ Q) ∧
  (∀ (X : tX) (d : Nat) (x0 : Nat) (s0 : Nat) (σ : rS) (Q : tQ), Ex X d mX3_init 29 [.ref x0] [.ref s0] σ Q = Ex X d mX3_init 31 [.ref x0] [.int 8, .ref s0] σ Q) ∧
  (∀ (X : tX) (d : Nat) (x0 : Nat) (s0 : Nat) (s1 : Nat) (T : tT) (I : tI) (J : tJ) (R : tR) (Q : tQ), Ex X d mX3_init 33 [.ref x0] [.ref s0, .ref s1] (T, I, J, R) Q = (T[s1]? = some (3, 3) ∧ Ex X d mX3_init 36 [.ref x0] [] (T, I, J, va_up R s1 (va_up (R s1) 3 (some s0))) Q)) ∧
  (∀ (X : tX) (d : Nat) (x0 : Nat) (σ : rS) (Q : tQ), Ex X d mX3_init 36 [.ref x0] [] σ Q = Ex X d mX3_init 37 [.ref x0] [.ref x0] σ Q) ∧
  (∀ (X : tX) (d : Nat) (x0 : Nat) (s0 : Nat) (σ : rS) (Q : tQ), Ex X d mX3_init 37 [.ref x0] [.ref s0] σ Q = Ex X d mX3_init 39 [.ref x0] [.int 7, .ref s0] σ Q) ∧
  (∀ (X : tX) (d : Nat) (x0 : Nat) (s0 : Nat) (s1 : Nat) (T : tT) (I : tI) (J : tJ) (R : tR) (Q : tQ), Ex X d mX3_init 41 [.ref x0] [.ref s0, .ref s1] (T, I, J, R) Q = (T[s1]? = some (3, 3) ∧ Ex X d mX3_init 44 [.ref x0] [] (T, I, J, va_up R s1 (va_up (R s1) 4 (some s0))) Q)) ∧
  (∀ (X : tX) (d : Nat) (x0 : Nat) (σ : rS) (Q : tQ), Ex X d mX3_init 44 [.ref x0] [] σ Q = Ex X d mX3_init 45 [.ref x0] [.ref x0] σ Q) ∧
  (∀ (X : tX) (d : Nat) (x0 : Nat) (s0 : Nat) (σ : rS) (Q : tQ), Ex X d mX3_init 45 [.ref x0] [.ref s0] σ Q = Ex X d mX3_init 47 [.ref x0] [.int 8, .ref s0] σ Q) ∧
  (∀ (X : tX) (d : Nat) (x0 : Nat) (s0 : Nat) (s1 : Nat) (T : tT) (I : tI) (J : tJ) (R : tR) (Q : tQ), Ex X d mX3_init 49 [.ref x0] [.ref s0, .ref s1] (T, I, J, R) Q = (T[s1]? = some (3, 3) ∧ Ex X d mX3_init 52 [.ref x0] [] (T, I, J, va_up R s1 (va_up (R s1) 5 (some s0))) Q)) ∧
  (∀ (X : tX) (d : Nat) (x0 : Nat) (σ : rS) (Q : tQ), Ex X d mX3_init 52 [.ref x0] [] σ Q = Ex X d mX3_init 53 [.ref x0] [.ref x0] σ Q) ∧
  (∀ (X : tX) (d : Nat) (x0 : Nat) (s0 : Nat) (σ : rS) (Q : tQ), Ex X d mX3_init 53 [.ref x0] [.ref s0] σ Q = Ex X d mX3_init 54 [.ref x0] [.int 3, .ref s0] σ Q) ∧
  (∀ (X : tX) (d : Nat) (x0 : Nat) (s0 : Int32) (s1 : Nat) (T : tT) (I : tI) (J : tJ) (R : tR) (Q : tQ), Ex X d mX3_init 54 [.ref x0] [.int s0, .ref s1] (T, I, J, R) Q = (T[s1]? = some (3, 3) ∧ Ex X d mX3_init 57 [.ref x0] [] (T, va_up I s1 (va_up (I s1) 6 s0), J, R) Q)) ∧
  (∀ (X : tX) (d : Nat) (x0 : Nat) (σ : rS) (Q : tQ), Ex X d mX3_init 57 [.ref x0] [] σ Q = Q none σ) := ⟨fun X d x0 σ Q => ex_P (i := .aload_n 0) (len := 1) (by decide +kernel) rfl,
  fun X d x0 s0 T I J R Q => q_objI (k := 3) (by decide +kernel) rfl (Nat.le_of_ble_eq_true rfl),
  fun X d x0 σ Q => ex_P (i := .aload_n 0) (len := 1) (by decide +kernel) rfl,
  fun X d x0 s0 σ Q => ex_P (i := .bipush 8) (len := 2) (by decide +kernel) rfl,
  fun X d x0 s0 s1 T I J R Q => q_putR (k := 11) (by decide +kernel) rfl rfl (by decide +kernel),
  fun X d x0 σ Q => ex_P (i := .aload_n 0) (len := 1) (by decide +kernel) rfl,
  fun X d x0 s0 σ Q => ex_P (i := .bipush 8) (len := 2) (by decide +kernel) rfl,
  fun X d x0 s0 s1 T I J R Q => q_putR (k := 15) (by decide +kernel) rfl rfl (by decide +kernel),
  fun X d x0 σ Q => ex_P (i := .aload_n 0) (len := 1) (by decide +kernel) rfl,
  fun X d x0 s0 σ Q => ex_P (i := .bipush 8) (len := 2) (by decide +kernel) rfl,
  fun X d x0 s0 s1 T I J R Q => q_putR (k := 18) (by decide +kernel) rfl rfl (by decide +kernel),
  fun X d x0 σ Q => ex_P (i := .aload_n 0) (len := 1) (by decide +kernel) rfl,
  fun X d x0 s0 σ Q => ex_P (i := .bipush 8) (len := 2) (by decide +kernel) rfl,
  fun X d x0 s0 s1 T I J R Q => q_putR (k := 21) (by decide +kernel) rfl rfl (by decide +kernel),
  fun X d x0 σ Q => ex_P (i := .aload_n 0) (len := 1) (by decide +kernel) rfl,
  fun X d x0 s0 σ Q => ex_P (i := .bipush 7) (len := 2) (by decide +kernel) rfl,
  fun X d x0 s0 s1 T I J R Q => q_putR (k := 24) (by decide +kernel) rfl rfl (by decide +kernel),
  fun X d x0 σ Q => ex_P (i := .aload_n 0) (len := 1) (by decide +kernel) rfl,
  fun X d x0 s0 σ Q => ex_P (i := .bipush 8) (len := 2) (by decide +kernel) rfl,
  fun X d x0 s0 s1 T I J R Q => q_putR (k := 27) (by decide +kernel) rfl rfl (by decide +kernel),
  fun X d x0 σ Q => ex_P (i := .aload_n 0) (len := 1) (by decide +kernel) rfl,
  fun X d x0 s0 σ Q => ex_P (i := .iconst 3) (len := 1) (by decide +kernel) rfl,
  fun X d x0 s0 s1 T I J R Q => q_putI (k := 30) (by decide +kernel) rfl rfl (by decide +kernel),
  fun X d x0 σ Q => q_retV (by decide +kernel) rfl⟩
set_option maxRecDepth 50000 in
theorem gX3_fitsIn_0 : (∀ (X : tX) (d : Nat) (x0 : Int32) (x1 : Int32) (σ : rS) (Q : tQ), Ex X d mX3_fitsIn 0 [.int x0, .int x1] [] σ Q = Ex X d mX3_fitsIn 1 [.int x0, .int x1] [.int x0] σ Q) ∧
  (∀ (X : tX) (d : Nat) (x0 : Int32) (x1 : Int32) (s0 : Int32) (σ : rS) (Q : tQ), Ex X d mX3_fitsIn 1 [.int x0, .int x1] [.int s0] σ Q = (if s0 < 0 then Ex X d mX3_fitsIn 32 [.int x0, .int x1] [] σ Q else Ex X d mX3_fitsIn 4 [.int x0, .int x1] [] σ Q)) := ⟨fun X d x0 x1 σ Q => ex_P (i := .iload_n 0) (len := 1) (by decide +kernel) rfl,
  fun X d x0 x1 s0 σ Q => q_if_lt (o := 31) (by decide +kernel) rfl⟩
set_option maxRecDepth 50000 in
theorem gX3_fitsIn_4 : (∀ (X : tX) (d : Nat) (x0 : Int32) (x1 : Int32) (σ : rS) (Q : tQ), Ex X d mX3_fitsIn 4 [.int x0, .int x1] [] σ Q = Ex X d mX3_fitsIn 5 [.int x0, .int x1] [.int x0] σ Q) ∧
  (∀ (X : tX) (d : Nat) (x0 : Int32) (x1 : Int32) (s0 : Int32) (σ : rS) (Q : tQ), Ex X d mX3_fitsIn 5 [.int x0, .int x1] [.int s0] σ Q = Ex X d mX3_fitsIn 7 [.int x0, .int x1] [.int 6, .int s0] σ Q) ∧
  (∀ (X : tX) (d : Nat) (x0 : Int32) (x1 : Int32) (s0 : Int32) (s1 : Int32) (σ : rS) (Q : tQ), Ex X d mX3_fitsIn 7 [.int x0, .int x1] [.int s0, .int s1] σ Q = (if s0 < s1 then Ex X d mX3_fitsIn 32 [.int x0, .int x1] [] σ Q else Ex X d mX3_fitsIn 10 [.int x0, .int x1] [] σ Q)) := ⟨fun X d x0 x1 σ Q => ex_P (i := .iload_n 0) (len := 1) (by decide +kernel) rfl,
  fun X d x0 x1 s0 σ Q => ex_P (i := .bipush 6) (len := 2) (by decide +kernel) rfl,
  fun X d x0 x1 s0 s1 σ Q => q_icmp_gt (o := 25) (by decide +kernel) rfl⟩
set_option maxRecDepth 50000 in
theorem gX3_fitsIn_10 : (∀ (X : tX) (d : Nat) (x0 : Int32) (x1 : Int32) (σ : rS) (Q : tQ), Ex X d mX3_fitsIn 10 [.int x0, .int x1] [] σ Q = Ex X d mX3_fitsIn 11 [.int x0, .int x1] [.int x1] σ Q) ∧
  (∀ (X : tX) (d : Nat) (x0 : Int32) (x1 : Int32) (s0 : Int32) (T : tT) (I : tI) (J : tJ) (R : tR) (Q : tQ), Ex X d mX3_fitsIn 11 [.int x0, .int x1] [.int s0] (T, I, J, R) Q = Ex X d mX3_fitsIn 14 [.int x0, .int x1] [.retAddr 0, .int s0] (T, I, J, R) Q) ∧
  (∀ (X : tX) (d : Nat) (x0 : Int32) (x1 : Int32) (s1 : Int32) (σ : rS) (Q : tQ), Ex X d mX3_fitsIn 14 [.int x0, .int x1] [.retAddr 0, .int s1] σ Q = Ex X d mX3_fitsIn 15 [.int x0, .int x1] [.int x0, .retAddr 0, .int s1] σ Q) ∧
  (∀ (X : tX) (d : Nat) (x0 : Int32) (x1 : Int32) (s0 : Int32) (s2 : Int32) (T : tT) (I : tI) (J : tJ) (R : tR) (Q : tQ), Ex X d mX3_fitsIn 15 [.int x0, .int x1] [.int s0, .retAddr 0, .int s2] (T, I, J, R) Q = (¬ (s0 < 0 ∨ (X 0).1 ≤ s0.toNatClampNeg) ∧ Ex X d mX3_fitsIn 16 [.int x0, .int x1] [.int ((X 0).2 s0.toNatClampNeg), .int s2] (T, I, J, R) Q)) ∧
  (∀ (X : tX) (d : Nat) (x0 : Int32) (x1 : Int32) (s0 : Int32) (s1 : Int32) (σ : rS) (Q : tQ), Ex X d mX3_fitsIn 16 [.int x0, .int x1] [.int s0, .int s1] σ Q = (if s1 < s0 then Ex X d mX3_fitsIn 32 [.int x0, .int x1] [] σ Q else Ex X d mX3_fitsIn 19 [.int x0, .int x1] [] σ Q)) := ⟨fun X d x0 x1 σ Q => ex_P (i := .iload_n 1) (len := 1) (by decide +kernel) rfl,
  fun X d x0 x1 s0 T I J R Q => q_gets (k := 34) (by decide +kernel) rfl,
  fun X d x0 x1 s1 σ Q => ex_P (i := .iload_n 0) (len := 1) (by decide +kernel) rfl,
  fun X d x0 x1 s0 s2 T I J R Q => q_iaxX (by decide +kernel) (by decide),
  fun X d x0 x1 s0 s1 σ Q => q_icmp_lt (o := 16) (by decide +kernel) rfl⟩
set_option maxRecDepth 50000 in
theorem gX3_fitsIn_19 : (∀ (X : tX) (d : Nat) (x0 : Int32) (x1 : Int32) (σ : rS) (Q : tQ), Ex X d mX3_fitsIn 19 [.int x0, .int x1] [] σ Q = Ex X d mX3_fitsIn 20 [.int x0, .int x1] [.int x1] σ Q) ∧
  (∀ (X : tX) (d : Nat) (x0 : Int32) (x1 : Int32) (s0 : Int32) (T : tT) (I : tI) (J : tJ) (R : tR) (Q : tQ), Ex X d mX3_fitsIn 20 [.int x0, .int x1] [.int s0] (T, I, J, R) Q = Ex X d mX3_fitsIn 23 [.int x0, .int x1] [.retAddr 1, .int s0] (T, I, J, R) Q) ∧
  (∀ (X : tX) (d : Nat) (x0 : Int32) (x1 : Int32) (s1 : Int32) (σ : rS) (Q : tQ), Ex X d mX3_fitsIn 23 [.int x0, .int x1] [.retAddr 1, .int s1] σ Q = Ex X d mX3_fitsIn 24 [.int x0, .int x1] [.int x0, .retAddr 1, .int s1] σ Q) ∧
  (∀ (X : tX) (d : Nat) (x0 : Int32) (x1 : Int32) (s0 : Int32) (s2 : Int32) (T : tT) (I : tI) (J : tJ) (R : tR) (Q : tQ), Ex X d mX3_fitsIn 24 [.int x0, .int x1] [.int s0, .retAddr 1, .int s2] (T, I, J, R) Q = (¬ (s0 < 0 ∨ (X 1).1 ≤ s0.toNatClampNeg) ∧ Ex X d mX3_fitsIn 25 [.int x0, .int x1] [.int ((X 1).2 s0.toNatClampNeg), .int s2] (T, I, J, R) Q)) ∧
  (∀ (X : tX) (d : Nat) (x0 : Int32) (x1 : Int32) (s0 : Int32) (s1 : Int32) (σ : rS) (Q : tQ), Ex X d mX3_fitsIn 25 [.int x0, .int x1] [.int s0, .int s1] σ Q = (if s0 < s1 then Ex X d mX3_fitsIn 32 [.int x0, .int x1] [] σ Q else Ex X d mX3_fitsIn 28 [.int x0, .int x1] [] σ Q)) := ⟨fun X d x0 x1 σ Q => ex_P (i := .iload_n 1) (len := 1) (by decide +kernel) rfl,
  fun X d x0 x1 s0 T I J R Q => q_gets (k := 37) (by decide +kernel) rfl,
  fun X d x0 x1 s1 σ Q => ex_P (i := .iload_n 0) (len := 1) (by decide +kernel) rfl,
  fun X d x0 x1 s0 s2 T I J R Q => q_iaxX (by decide +kernel) (by decide),
  fun X d x0 x1 s0 s1 σ Q => q_icmp_gt (o := 7) (by decide +kernel) rfl⟩
set_option maxRecDepth 50000 in
theorem gX3_fitsIn_28 : (∀ (X : tX) (d : Nat) (x0 : Int32) (x1 : Int32) (σ : rS) (Q : tQ), Ex X d mX3_fitsIn 28 [.int x0, .int x1] [] σ Q = Ex X d mX3_fitsIn 29 [.int x0, .int x1] [.int 1] σ Q) ∧
  (∀ (X : tX) (d : Nat) (x0 : Int32) (x1 : Int32) (s0 : Int32) (σ : rS) (Q : tQ), Ex X d mX3_fitsIn 29 [.int x0, .int x1] [.int s0] σ Q = Ex X d mX3_fitsIn 33 [.int x0, .int x1] [.int s0] σ Q) := ⟨fun X d x0 x1 σ Q => ex_P (i := .iconst 1) (len := 1) (by decide +kernel) rfl,
  fun X d x0 x1 s0 σ Q => q_goto (o := 4) (by decide +kernel) rfl⟩
set_option maxRecDepth 50000 in
theorem gX3_fitsIn_32 : (∀ (X : tX) (d : Nat) (x0 : Int32) (x1 : Int32) (σ : rS) (Q : tQ), Ex X d mX3_fitsIn 32 [.int x0, .int x1] [] σ Q = Ex X d mX3_fitsIn 33 [.int x0, .int x1] [.int 0] σ Q) := fun X d x0 x1 σ Q => ex_P (i := .iconst 0) (len := 1) (by decide +kernel) rfl
set_option maxRecDepth 50000 in
theorem gX3_fitsIn_33 : (∀ (X : tX) (d : Nat) (x0 : Int32) (x1 : Int32) (s0 : Int32) (σ : rS) (Q : tQ), Ex X d mX3_fitsIn 33 [.int x0, .int x1] [.int s0] σ Q = ((s0 = 0 ∨ s0 = 1) ∧ Q (some (.int s0)) σ)) := fun X d x0 x1 s0 σ Q => q_retZ (by decide +kernel) rfl
set_option maxRecDepth 50000 in
theorem gX3_most_0 : (∀ (X : tX) (d : Nat) (x0 : Int32) (σ : rS) (Q : tQ), Ex X d mX3_most 0 [.int x0] [] σ Q = Ex X d mX3_most 1 [.int x0] [.int x0] σ Q) ∧
  (∀ (X : tX) (d : Nat) (x0 : Int32) (s0 : Int32) (σ : rS) (Q : tQ), Ex X d mX3_most 1 [.int x0] [.int s0] σ Q = (if s0 < 0 then Ex X d mX3_most 18 [.int x0] [] σ Q else Ex X d mX3_most 4 [.int x0] [] σ Q)) := ⟨fun X d x0 σ Q => ex_P (i := .iload_n 0) (len := 1) (by decide +kernel) rfl,
  fun X d x0 s0 σ Q => q_if_lt (o := 17) (by decide +kernel) rfl⟩
set_option maxRecDepth 50000 in
theorem gX3_most_4 : (∀ (X : tX) (d : Nat) (x0 : Int32) (σ : rS) (Q : tQ), Ex X d mX3_most 4 [.int x0] [] σ Q = Ex X d mX3_most 5 [.int x0] [.int x0] σ Q) ∧
  (∀ (X : tX) (d : Nat) (x0 : Int32) (s0 : Int32) (σ : rS) (Q : tQ), Ex X d mX3_most 5 [.int x0] [.int s0] σ Q = Ex X d mX3_most 7 [.int x0] [.int 6, .int s0] σ Q) ∧
  (∀ (X : tX) (d : Nat) (x0 : Int32) (s0 : Int32) (s1 : Int32) (σ : rS) (Q : tQ), Ex X d mX3_most 7 [.int x0] [.int s0, .int s1] σ Q = (if s0 < s1 then Ex X d mX3_most 18 [.int x0] [] σ Q else Ex X d mX3_most 10 [.int x0] [] σ Q)) := ⟨fun X d x0 σ Q => ex_P (i := .iload_n 0) (len := 1) (by decide +kernel) rfl,
  fun X d x0 s0 σ Q => ex_P (i := .bipush 6) (len := 2) (by decide +kernel) rfl,
  fun X d x0 s0 s1 σ Q => q_icmp_gt (o := 11) (by decide +kernel) rfl⟩
set_option maxRecDepth 50000 in
theorem gX3_most_10 : (∀ (X : tX) (d : Nat) (x0 : Int32) (T : tT) (I : tI) (J : tJ) (R : tR) (Q : tQ), Ex X d mX3_most 10 [.int x0] [] (T, I, J, R) Q = Ex X d mX3_most 13 [.int x0] [.retAddr 1] (T, I, J, R) Q) ∧
  (∀ (X : tX) (d : Nat) (x0 : Int32) (σ : rS) (Q : tQ), Ex X d mX3_most 13 [.int x0] [.retAddr 1] σ Q = Ex X d mX3_most 14 [.int x0] [.int x0, .retAddr 1] σ Q) ∧
  (∀ (X : tX) (d : Nat) (x0 : Int32) (s0 : Int32) (T : tT) (I : tI) (J : tJ) (R : tR) (Q : tQ), Ex X d mX3_most 14 [.int x0] [.int s0, .retAddr 1] (T, I, J, R) Q = (¬ (s0 < 0 ∨ (X 1).1 ≤ s0.toNatClampNeg) ∧ Ex X d mX3_most 15 [.int x0] [.int ((X 1).2 s0.toNatClampNeg)] (T, I, J, R) Q)) ∧
  (∀ (X : tX) (d : Nat) (x0 : Int32) (s0 : Int32) (σ : rS) (Q : tQ), Ex X d mX3_most 15 [.int x0] [.int s0] σ Q = Ex X d mX3_most 19 [.int x0] [.int s0] σ Q) := ⟨fun X d x0 T I J R Q => q_gets (k := 37) (by decide +kernel) rfl,
  fun X d x0 σ Q => ex_P (i := .iload_n 0) (len := 1) (by decide +kernel) rfl,
  fun X d x0 s0 T I J R Q => q_iaxX (by decide +kernel) (by decide),
  fun X d x0 s0 σ Q => q_goto (o := 4) (by decide +kernel) rfl⟩
set_option maxRecDepth 50000 in
theorem gX3_most_18 : (∀ (X : tX) (d : Nat) (x0 : Int32) (σ : rS) (Q : tQ), Ex X d mX3_most 18 [.int x0] [] σ Q = Ex X d mX3_most 19 [.int x0] [.int 0] σ Q) := fun X d x0 σ Q => ex_P (i := .iconst 0) (len := 1) (by decide +kernel) rfl
set_option maxRecDepth 50000 in
theorem gX3_most_19 : (∀ (X : tX) (d : Nat) (x0 : Int32) (s0 : Int32) (σ : rS) (Q : tQ), Ex X d mX3_most 19 [.int x0] [.int s0] σ Q = Q (some (.int s0)) σ) := fun X d x0 s0 σ Q => q_retI (by decide +kernel) rfl
set_option maxRecDepth 50000 in
theorem gX3_isFull_0 : (∀ (X : tX) (d : Nat) (x0 : Nat) (σ : rS) (Q : tQ), Ex X d mX3_isFull 0 [.ref x0] [] σ Q = Ex X d mX3_isFull 1 [.ref x0] [.ref x0] σ Q) ∧
  (∀ (X : tX) (d : Nat) (x0 : Nat) (s0 : Nat) (T : tT) (I : tI) (J : tJ) (R : tR) (Q : tQ), Ex X d mX3_isFull 1 [.ref x0] [.ref s0] (T, I, J, R) Q = (T[s0]? = some (3, 3) ∧ Ex X d mX3_isFull 4 [.ref x0] [.int (I s0 8)] (T, I, J, R) Q)) ∧
  (∀ (X : tX) (d : Nat) (x0 : Nat) (s0 : Int32) (σ : rS) (Q : tQ), Ex X d mX3_isFull 4 [.ref x0] [.int s0] σ Q = Ex X d mX3_isFull 6 [.ref x0] [.int 8, .int s0] σ Q) ∧
  (∀ (X : tX) (d : Nat) (x0 : Nat) (s0 : Int32) (s1 : Int32) (σ : rS) (Q : tQ), Ex X d mX3_isFull 6 [.ref x0] [.int s0, .int s1] σ Q = (if s1 < s0 then Ex X d mX3_isFull 13 [.ref x0] [] σ Q else Ex X d mX3_isFull 9 [.ref x0] [] σ Q)) := ⟨fun X d x0 σ Q => ex_P (i := .aload_n 0) (len := 1) (by decide +kernel) rfl,
  fun X d x0 s0 T I J R Q => q_getI (k := 40) (by decide +kernel) rfl rfl (by decide),
  fun X d x0 s0 σ Q => ex_P (i := .bipush 8) (len := 2) (by decide +kernel) rfl,
  fun X d x0 s0 s1 σ Q => q_icmp_lt (o := 7) (by decide +kernel) rfl⟩
set_option maxRecDepth 50000 in
theorem gX3_isFull_9 : (∀ (X : tX) (d : Nat) (x0 : Nat) (σ : rS) (Q : tQ), Ex X d mX3_isFull 9 [.ref x0] [] σ Q = Ex X d mX3_isFull 10 [.ref x0] [.int 1] σ Q) ∧
  (∀ (X : tX) (d : Nat) (x0 : Nat) (s0 : Int32) (σ : rS) (Q : tQ), Ex X d mX3_isFull 10 [.ref x0] [.int s0] σ Q = Ex X d mX3_isFull 14 [.ref x0] [.int s0] σ Q) := ⟨fun X d x0 σ Q => ex_P (i := .iconst 1) (len := 1) (by decide +kernel) rfl,
  fun X d x0 s0 σ Q => q_goto (o := 4) (by decide +kernel) rfl⟩
set_option maxRecDepth 50000 in
theorem gX3_isFull_13 : (∀ (X : tX) (d : Nat) (x0 : Nat) (σ : rS) (Q : tQ), Ex X d mX3_isFull 13 [.ref x0] [] σ Q = Ex X d mX3_isFull 14 [.ref x0] [.int 0] σ Q) := fun X d x0 σ Q => ex_P (i := .iconst 0) (len := 1) (by decide +kernel) rfl
set_option maxRecDepth 50000 in
theorem gX3_isFull_14 : (∀ (X : tX) (d : Nat) (x0 : Nat) (s0 : Int32) (σ : rS) (Q : tQ), Ex X d mX3_isFull 14 [.ref x0] [.int s0] σ Q = ((s0 = 0 ∨ s0 = 1) ∧ Q (some (.int s0)) σ)) := fun X d x0 s0 σ Q => q_retZ (by decide +kernel) rfl
set_option maxRecDepth 50000 in
theorem gX3_lengthen_0 : (∀ (X : tX) (d : Nat) (x0 : Nat) (x1 : Int32) (x2 : Int32) (x3 : Int32) (σ : rS) (Q : tQ), Ex X d mX3_lengthen 0 [.ref x0, .int x1, .int x2, .int x3] [] σ Q = Ex X d mX3_lengthen 1 [.ref x0, .int x1, .int x2, .int x3] [.ref x0] σ Q) ∧
  (∀ (X : tX) (d : Nat) (x0 : Nat) (x1 : Int32) (x2 : Int32) (x3 : Int32) (s0 : Nat) (T : tT) (I : tI) (J : tJ) (R : tR) (Q : tQ), Ex X (d + 1) mX3_lengthen 1 [.ref x0, .int x1, .int x2, .int x3] [.ref s0] (T, I, J, R) Q = (T[s0]? = some (3, 3) ∧ Ex X d mX3_isFull 0 [.ref s0] [] (T, I, J, R) (fun v σ1 => Ex X (d + 1) mX3_lengthen 4 [.ref x0, .int x1, .int x2, .int x3] (v.toList ++ []) σ1 Q))) := ⟨fun X d x0 x1 x2 x3 σ Q => ex_P (i := .aload_n 0) (len := 1) (by decide +kernel) rfl,
  fun X d x0 x1 x2 x3 s0 T I J R Q => q_callV (k := 43) (as := []) (st := []) (show rlk mX3_lengthen.2.2.2.2.2.2 1 = some (.invokevirtual 43, 3) from by decide +kernel) rfl rfl rfl (Nat.le_of_ble_eq_true rfl) (Nat.le_of_ble_eq_true rfl) rfl⟩
set_option maxRecDepth 50000 in
theorem gX3_lengthen_4 : (∀ (X : tX) (d : Nat) (x0 : Nat) (x1 : Int32) (x2 : Int32) (x3 : Int32) (s0 : Int32) (σ : rS) (Q : tQ), Ex X d mX3_lengthen 4 [.ref x0, .int x1, .int x2, .int x3] [.int s0] σ Q = (if s0 = 0 then Ex X d mX3_lengthen 10 [.ref x0, .int x1, .int x2, .int x3] [] σ Q else Ex X d mX3_lengthen 7 [.ref x0, .int x1, .int x2, .int x3] [] σ Q)) := fun X d x0 x1 x2 x3 s0 σ Q => q_if_eq (o := 6) (by decide +kernel) rfl
set_option maxRecDepth 50000 in
theorem gX3_lengthen_7 : (∀ (X : tX) (d : Nat) (x0 : Nat) (x1 : Int32) (x2 : Int32) (x3 : Int32) (σ : rS) (Q : tQ), Ex X d mX3_lengthen 7 [.ref x0, .int x1, .int x2, .int x3] [] σ Q = Ex X d mX3_lengthen 9 [.ref x0, .int x1, .int x2, .int x3] [.int (-3)] σ Q) ∧
  (∀ (X : tX) (d : Nat) (x0 : Nat) (x1 : Int32) (x2 : Int32) (x3 : Int32) (s0 : Int32) (σ : rS) (Q : tQ), Ex X d mX3_lengthen 9 [.ref x0, .int x1, .int x2, .int x3] [.int s0] σ Q = Q (some (.int s0)) σ) := ⟨fun X d x0 x1 x2 x3 σ Q => ex_P (i := .bipush (-3)) (len := 2) (by decide +kernel) rfl,
  fun X d x0 x1 x2 x3 s0 σ Q => q_retI (by decide +kernel) rfl⟩
set_option maxRecDepth 50000 in
theorem gX3_lengthen_10 : (∀ (X : tX) (d : Nat) (x0 : Nat) (x1 : Int32) (x2 : Int32) (x3 : Int32) (σ : rS) (Q : tQ), Ex X d mX3_lengthen 10 [.ref x0, .int x1, .int x2, .int x3] [] σ Q = Ex X d mX3_lengthen 11 [.ref x0, .int x1, .int x2, .int x3] [.ref x0] σ Q) ∧
  (∀ (X : tX) (d : Nat) (x0 : Nat) (x1 : Int32) (x2 : Int32) (x3 : Int32) (s0 : Nat) (T : tT) (I : tI) (J : tJ) (R : tR) (Q : tQ), Ex X d mX3_lengthen 11 [.ref x0, .int x1, .int x2, .int x3] [.ref s0] (T, I, J, R) Q = (T[s0]? = some (3, 3) ∧ Ex X d mX3_lengthen 14 [.ref x0, .int x1, .int x2, .int x3] [va_rf (R s0 0)] (T, I, J, R) Q)) ∧
  (∀ (X : tX) (d : Nat) (x0 : Nat) (x1 : Int32) (x2 : Int32) (x3 : Int32) (s0 : Nat) (σ : rS) (Q : tQ), Ex X d mX3_lengthen 14 [.ref x0, .int x1, .int x2, .int x3] [.ref s0] σ Q = Ex X d mX3_lengthen 15 [.ref x0, .int x1, .int x2, .int x3] [.ref x0, .ref s0] σ Q) ∧
  (∀ (X : tX) (d : Nat) (x0 : Nat) (x1 : Int32) (x2 : Int32) (x3 : Int32) (s0 : Nat) (s1 : Nat) (T : tT) (I : tI) (J : tJ) (R : tR) (Q : tQ), Ex X d mX3_lengthen 15 [.ref x0, .int x1, .int x2, .int x3] [.ref s0, .ref s1] (T, I, J, R) Q = (T[s0]? = some (3, 3) ∧ Ex X d mX3_lengthen 18 [.ref x0, .int x1, .int x2, .int x3] [.int (I s0 8), .ref s1] (T, I, J, R) Q)) ∧
  (∀ (X : tX) (d : Nat) (x0 : Nat) (x1 : Int32) (x2 : Int32) (x3 : Int32) (s0 : Int32) (s1 : Nat) (σ : rS) (Q : tQ), Ex X d mX3_lengthen 18 [.ref x0, .int x1, .int x2, .int x3] [.int s0, .ref s1] σ Q = Ex X d mX3_lengthen 19 [.ref x0, .int x1, .int x2, .int x3] [.int x1, .int s0, .ref s1] σ Q) ∧
  (∀ (X : tX) (d : Nat) (x0 : Nat) (x1 : Int32) (x2 : Int32) (x3 : Int32) (s0 : Int32) (s1 : Int32) (s2 : Nat) (T : tT) (I : tI) (J : tJ) (R : tR) (Q : tQ), Ex X d mX3_lengthen 19 [.ref x0, .int x1, .int x2, .int x3] [.int s0, .int s1, .ref s2] (T, I, J, R) Q = (rIn T s2 0 s1 ∧ Ex X d mX3_lengthen 20 [.ref x0, .int x1, .int x2, .int x3] [] (T, va_up I s2 (va_up (I s2) s1.toNatClampNeg s0), J, R) Q)) ∧
  (∀ (X : tX) (d : Nat) (x0 : Nat) (x1 : Int32) (x2 : Int32) (x3 : Int32) (σ : rS) (Q : tQ), Ex X d mX3_lengthen 20 [.ref x0, .int x1, .int x2, .int x3] [] σ Q = Ex X d mX3_lengthen 21 [.ref x0, .int x1, .int x2, .int x3] [.ref x0] σ Q) ∧
  (∀ (X : tX) (d : Nat) (x0 : Nat) (x1 : Int32) (x2 : Int32) (x3 : Int32) (s0 : Nat) (T : tT) (I : tI) (J : tJ) (R : tR) (Q : tQ), Ex X d mX3_lengthen 21 [.ref x0, .int x1, .int x2, .int x3] [.ref s0] (T, I, J, R) Q = (T[s0]? = some (3, 3) ∧ Ex X d mX3_lengthen 24 [.ref x0, .int x1, .int x2, .int x3] [va_rf (R s0 1)] (T, I, J, R) Q)) ∧
  (∀ (X : tX) (d : Nat) (x0 : Nat) (x1 : Int32) (x2 : Int32) (x3 : Int32) (s0 : Nat) (σ : rS) (Q : tQ), Ex X d mX3_lengthen 24 [.ref x0, .int x1, .int x2, .int x3] [.ref s0] σ Q = Ex X d mX3_lengthen 25 [.ref x0, .int x1, .int x2, .int x3] [.ref x0, .ref s0] σ Q) ∧
  (∀ (X : tX) (d : Nat) (x0 : Nat) (x1 : Int32) (x2 : Int32) (x3 : Int32) (s0 : Nat) (s1 : Nat) (T : tT) (I : tI) (J : tJ) (R : tR) (Q : tQ), Ex X d mX3_lengthen 25 [.ref x0, .int x1, .int x2, .int x3] [.ref s0, .ref s1] (T, I, J, R) Q = (T[s0]? = some (3, 3) ∧ Ex X d mX3_lengthen 28 [.ref x0, .int x1, .int x2, .int x3] [.int (I s0 8), .ref s1] (T, I, J, R) Q)) ∧
  (∀ (X : tX) (d : Nat) (x0 : Nat) (x1 : Int32) (x2 : Int32) (x3 : Int32) (s0 : Int32) (s1 : Nat) (σ : rS) (Q : tQ), Ex X d mX3_lengthen 28 [.ref x0, .int x1, .int x2, .int x3] [.int s0, .ref s1] σ Q = Ex X d mX3_lengthen 29 [.ref x0, .int x1, .int x2, .int x3] [.int x2, .int s0, .ref s1] σ Q) ∧
  (∀ (X : tX) (d : Nat) (x0 : Nat) (x1 : Int32) (x2 : Int32) (x3 : Int32) (s0 : Int32) (s1 : Int32) (s2 : Nat) (T : tT) (I : tI) (J : tJ) (R : tR) (Q : tQ), Ex X d mX3_lengthen 29 [.ref x0, .int x1, .int x2, .int x3] [.int s0, .int s1, .ref s2] (T, I, J, R) Q = (rIn T s2 0 s1 ∧ Ex X d mX3_lengthen 30 [.ref x0, .int x1, .int x2, .int x3] [] (T, va_up I s2 (va_up (I s2) s1.toNatClampNeg s0), J, R) Q)) ∧
  (∀ (X : tX) (d : Nat) (x0 : Nat) (x1 : Int32) (x2 : Int32) (x3 : Int32) (σ : rS) (Q : tQ), Ex X d mX3_lengthen 30 [.ref x0, .int x1, .int x2, .int x3] [] σ Q = Ex X d mX3_lengthen 31 [.ref x0, .int x1, .int x2, .int x3] [.ref x0] σ Q) ∧
  (∀ (X : tX) (d : Nat) (x0 : Nat) (x1 : Int32) (x2 : Int32) (x3 : Int32) (s0 : Nat) (T : tT) (I : tI) (J : tJ) (R : tR) (Q : tQ), Ex X d mX3_lengthen 31 [.ref x0, .int x1, .int x2, .int x3] [.ref s0] (T, I, J, R) Q = (T[s0]? = some (3, 3) ∧ Ex X d mX3_lengthen 34 [.ref x0, .int x1, .int x2, .int x3] [va_rf (R s0 2)] (T, I, J, R) Q)) ∧
  (∀ (X : tX) (d : Nat) (x0 : Nat) (x1 : Int32) (x2 : Int32) (x3 : Int32) (s0 : Nat) (σ : rS) (Q : tQ), Ex X d mX3_lengthen 34 [.ref x0, .int x1, .int x2, .int x3] [.ref s0] σ Q = Ex X d mX3_lengthen 35 [.ref x0, .int x1, .int x2, .int x3] [.ref x0, .ref s0] σ Q) ∧
  (∀ (X : tX) (d : Nat) (x0 : Nat) (x1 : Int32) (x2 : Int32) (x3 : Int32) (s0 : Nat) (s1 : Nat) (T : tT) (I : tI) (J : tJ) (R : tR) (Q : tQ), Ex X d mX3_lengthen 35 [.ref x0, .int x1, .int x2, .int x3] [.ref s0, .ref s1] (T, I, J, R) Q = (T[s0]? = some (3, 3) ∧ Ex X d mX3_lengthen 38 [.ref x0, .int x1, .int x2, .int x3] [.int (I s0 8), .ref s1] (T, I, J, R) Q)) ∧
  (∀ (X : tX) (d : Nat) (x0 : Nat) (x1 : Int32) (x2 : Int32) (x3 : Int32) (s0 : Int32) (s1 : Nat) (σ : rS) (Q : tQ), Ex X d mX3_lengthen 38 [.ref x0, .int x1, .int x2, .int x3] [.int s0, .ref s1] σ Q = Ex X d mX3_lengthen 39 [.ref x0, .int x1, .int x2, .int x3] [.int 0, .int s0, .ref s1] σ Q) ∧
  (∀ (X : tX) (d : Nat) (x0 : Nat) (x1 : Int32) (x2 : Int32) (x3 : Int32) (s0 : Int32) (s1 : Int32) (s2 : Nat) (T : tT) (I : tI) (J : tJ) (R : tR) (Q : tQ), Ex X d mX3_lengthen 39 [.ref x0, .int x1, .int x2, .int x3] [.int s0, .int s1, .ref s2] (T, I, J, R) Q = (rIn T s2 0 s1 ∧ Ex X d mX3_lengthen 40 [.ref x0, .int x1, .int x2, .int x3] [] (T, va_up I s2 (va_up (I s2) s1.toNatClampNeg s0), J, R) Q)) ∧
  (∀ (X : tX) (d : Nat) (x0 : Nat) (x1 : Int32) (x2 : Int32) (x3 : Int32) (σ : rS) (Q : tQ), Ex X d mX3_lengthen 40 [.ref x0, .int x1, .int x2, .int x3] [] σ Q = Ex X d mX3_lengthen 41 [.ref x0, .int x1, .int x2, .int x3] [.ref x0] σ Q) ∧
  (∀ (X : tX) (d : Nat) (x0 : Nat) (x1 : Int32) (x2 : Int32) (x3 : Int32) (s0 : Nat) (T : tT) (I : tI) (J : tJ) (R : tR) (Q : tQ), Ex X d mX3_lengthen 41 [.ref x0, .int x1, .int x2, .int x3] [.ref s0] (T, I, J, R) Q = (T[s0]? = some (3, 3) ∧ Ex X d mX3_lengthen 44 [.ref x0, .int x1, .int x2, .int x3] [va_rf (R s0 3)] (T, I, J, R) Q)) ∧
  (∀ (X : tX) (d : Nat) (x0 : Nat) (x1 : Int32) (x2 : Int32) (x3 : Int32) (s0 : Nat) (σ : rS) (Q : tQ), Ex X d mX3_lengthen 44 [.ref x0, .int x1, .int x2, .int x3] [.ref s0] σ Q = Ex X d mX3_lengthen 45 [.ref x0, .int x1, .int x2, .int x3] [.ref x0, .ref s0] σ Q) ∧
  (∀ (X : tX) (d : Nat) (x0 : Nat) (x1 : Int32) (x2 : Int32) (x3 : Int32) (s0 : Nat) (s1 : Nat) (T : tT) (I : tI) (J : tJ) (R : tR) (Q : tQ), Ex X d mX3_lengthen 45 [.ref x0, .int x1, .int x2, .int x3] [.ref s0, .ref s1] (T, I, J, R) Q = (T[s0]? = some (3, 3) ∧ Ex X d mX3_lengthen 48 [.ref x0, .int x1, .int x2, .int x3] [.int (I s0 8), .ref s1] (T, I, J, R) Q)) ∧
  (∀ (X : tX) (d : Nat) (x0 : Nat) (x1 : Int32) (x2 : Int32) (x3 : Int32) (s0 : Int32) (s1 : Nat) (σ : rS) (Q : tQ), Ex X d mX3_lengthen 48 [.ref x0, .int x1, .int x2, .int x3] [.int s0, .ref s1] σ Q = Ex X d mX3_lengthen 49 [.ref x0, .int x1, .int x2, .int x3] [.int x3, .int s0, .ref s1] σ Q) ∧
  (∀ (X : tX) (d : Nat) (x0 : Nat) (x1 : Int32) (x2 : Int32) (x3 : Int32) (s0 : Int32) (s1 : Int32) (s2 : Nat) (T : tT) (I : tI) (J : tJ) (R : tR) (Q : tQ), Ex X d mX3_lengthen 49 [.ref x0, .int x1, .int x2, .int x3] [.int s0, .int s1, .ref s2] (T, I, J, R) Q = (rIn T s2 0 s1 ∧ Ex X d mX3_lengthen 50 [.ref x0, .int x1, .int x2, .int x3] [] (T, va_up I s2 (va_up (I s2) s1.toNatClampNeg s0), J, R) Q)) ∧
  (∀ (X : tX) (d : Nat) (x0 : Nat) (x1 : Int32) (x2 : Int32) (x3 : Int32) (σ : rS) (Q : tQ), Ex X d mX3_lengthen 50 [.ref x0, .int x1, .int x2, .int x3] [] σ Q = Ex X d mX3_lengthen 51 [.ref x0, .int x1, .int x2, .int x3] [.ref x0] σ Q) ∧
  (∀ (X : tX) (d : Nat) (x0 : Nat) (x1 : Int32) (x2 : Int32) (x3 : Int32) (s0 : Nat) (σ : rS) (Q : tQ), Ex X d mX3_lengthen 51 [.ref x0, .int x1, .int x2, .int x3] [.ref s0] σ Q = Ex X d mX3_lengthen 52 [.ref x0, .int x1, .int x2, .int x3] [.ref s0, .ref s0] σ Q) ∧
  (∀ (X : tX) (d : Nat) (x0 : Nat) (x1 : Int32) (x2 : Int32) (x3 : Int32) (s0 : Nat) (s1 : Nat) (T : tT) (I : tI) (J : tJ) (R : tR) (Q : tQ), Ex X d mX3_lengthen 52 [.ref x0, .int x1, .int x2, .int x3] [.ref s0, .ref s1] (T, I, J, R) Q = (T[s0]? = some (3, 3) ∧ Ex X d mX3_lengthen 55 [.ref x0, .int x1, .int x2, .int x3] [.int (I s0 8), .ref s1] (T, I, J, R) Q)) ∧
  (∀ (X : tX) (d : Nat) (x0 : Nat) (x1 : Int32) (x2 : Int32) (x3 : Int32) (s0 : Int32) (s1 : Nat) (σ : rS) (Q : tQ), Ex X d mX3_lengthen 55 [.ref x0, .int x1, .int x2, .int x3] [.int s0, .ref s1] σ Q = Ex X d mX3_lengthen 56 [.ref x0, .int x1, .int x2, .int x3] [.int s0, .ref s1, .int s0] σ Q) ∧
  (∀ (X : tX) (d : Nat) (x0 : Nat) (x1 : Int32) (x2 : Int32) (x3 : Int32) (s0 : Int32) (s1 : Nat) (s2 : Int32) (σ : rS) (Q : tQ), Ex X d mX3_lengthen 56 [.ref x0, .int x1, .int x2, .int x3] [.int s0, .ref s1, .int s2] σ Q = Ex X d mX3_lengthen 57 [.ref x0, .int x1, .int x2, .int x3] [.int 1, .int s0, .ref s1, .int s2] σ Q) ∧
  (∀ (X : tX) (d : Nat) (x0 : Nat) (x1 : Int32) (x2 : Int32) (x3 : Int32) (s0 : Int32) (s1 : Int32) (s2 : Nat) (s3 : Int32) (σ : rS) (Q : tQ), Ex X d mX3_lengthen 57 [.ref x0, .int x1, .int x2, .int x3] [.int s0, .int s1, .ref s2, .int s3] σ Q = Ex X d mX3_lengthen 58 [.ref x0, .int x1, .int x2, .int x3] [.int (s1 + s0), .ref s2, .int s3] σ Q) ∧
  (∀ (X : tX) (d : Nat) (x0 : Nat) (x1 : Int32) (x2 : Int32) (x3 : Int32) (s0 : Int32) (s1 : Nat) (s2 : Int32) (T : tT) (I : tI) (J : tJ) (R : tR) (Q : tQ), Ex X d mX3_lengthen 58 [.ref x0, .int x1, .int x2, .int x3] [.int s0, .ref s1, .int s2] (T, I, J, R) Q = (T[s1]? = some (3, 3) ∧ Ex X d mX3_lengthen 61 [.ref x0, .int x1, .int x2, .int x3] [.int s2] (T, va_up I s1 (va_up (I s1) 8 s0), J, R) Q)) ∧
  (∀ (X : tX) (d : Nat) (x0 : Nat) (x1 : Int32) (x2 : Int32) (x3 : Int32) (s0 : Int32) (σ : rS) (Q : tQ), Ex X d mX3_lengthen 61 [.ref x0, .int x1, .int x2, .int x3] [.int s0] σ Q = Q (some (.int s0)) σ) := ⟨fun X d x0 x1 x2 x3 σ Q => ex_P (i := .aload_n 0) (len := 1) (by decide +kernel) rfl,
  fun X d x0 x1 x2 x3 s0 T I J R Q => q_getR (k := 11) (by decide +kernel) rfl rfl,
  fun X d x0 x1 x2 x3 s0 σ Q => ex_P (i := .aload_n 0) (len := 1) (by decide +kernel) rfl,
  fun X d x0 x1 x2 x3 s0 s1 T I J R Q => q_getI (k := 40) (by decide +kernel) rfl rfl (by decide),
  fun X d x0 x1 x2 x3 s0 s1 σ Q => ex_P (i := .iload_n 1) (len := 1) (by decide +kernel) rfl,
  fun X d x0 x1 x2 x3 s0 s1 s2 T I J R Q => q_iast (by decide +kernel),
  fun X d x0 x1 x2 x3 σ Q => ex_P (i := .aload_n 0) (len := 1) (by decide +kernel) rfl,
  fun X d x0 x1 x2 x3 s0 T I J R Q => q_getR (k := 15) (by decide +kernel) rfl rfl,
  fun X d x0 x1 x2 x3 s0 σ Q => ex_P (i := .aload_n 0) (len := 1) (by decide +kernel) rfl,
  fun X d x0 x1 x2 x3 s0 s1 T I J R Q => q_getI (k := 40) (by decide +kernel) rfl rfl (by decide),
  fun X d x0 x1 x2 x3 s0 s1 σ Q => ex_P (i := .iload_n 2) (len := 1) (by decide +kernel) rfl,
  fun X d x0 x1 x2 x3 s0 s1 s2 T I J R Q => q_iast (by decide +kernel),
  fun X d x0 x1 x2 x3 σ Q => ex_P (i := .aload_n 0) (len := 1) (by decide +kernel) rfl,
  fun X d x0 x1 x2 x3 s0 T I J R Q => q_getR (k := 18) (by decide +kernel) rfl rfl,
  fun X d x0 x1 x2 x3 s0 σ Q => ex_P (i := .aload_n 0) (len := 1) (by decide +kernel) rfl,
  fun X d x0 x1 x2 x3 s0 s1 T I J R Q => q_getI (k := 40) (by decide +kernel) rfl rfl (by decide),
  fun X d x0 x1 x2 x3 s0 s1 σ Q => ex_P (i := .iconst 0) (len := 1) (by decide +kernel) rfl,
  fun X d x0 x1 x2 x3 s0 s1 s2 T I J R Q => q_iast (by decide +kernel),
  fun X d x0 x1 x2 x3 σ Q => ex_P (i := .aload_n 0) (len := 1) (by decide +kernel) rfl,
  fun X d x0 x1 x2 x3 s0 T I J R Q => q_getR (k := 21) (by decide +kernel) rfl rfl,
  fun X d x0 x1 x2 x3 s0 σ Q => ex_P (i := .aload_n 0) (len := 1) (by decide +kernel) rfl,
  fun X d x0 x1 x2 x3 s0 s1 T I J R Q => q_getI (k := 40) (by decide +kernel) rfl rfl (by decide),
  fun X d x0 x1 x2 x3 s0 s1 σ Q => ex_P (i := .iload_n 3) (len := 1) (by decide +kernel) rfl,
  fun X d x0 x1 x2 x3 s0 s1 s2 T I J R Q => q_iast (by decide +kernel),
  fun X d x0 x1 x2 x3 σ Q => ex_P (i := .aload_n 0) (len := 1) (by decide +kernel) rfl,
  fun X d x0 x1 x2 x3 s0 σ Q => ex_P (i := .dup) (len := 1) (by decide +kernel) rfl,
  fun X d x0 x1 x2 x3 s0 s1 T I J R Q => q_getI (k := 40) (by decide +kernel) rfl rfl (by decide),
  fun X d x0 x1 x2 x3 s0 s1 σ Q => ex_P (i := .dup_x1) (len := 1) (by decide +kernel) rfl,
  fun X d x0 x1 x2 x3 s0 s1 s2 σ Q => ex_P (i := .iconst 1) (len := 1) (by decide +kernel) rfl,
  fun X d x0 x1 x2 x3 s0 s1 s2 s3 σ Q => ex_P (i := .iadd) (len := 1) (by decide +kernel) rfl,
  fun X d x0 x1 x2 x3 s0 s1 s2 T I J R Q => q_putI (k := 40) (by decide +kernel) rfl rfl (by decide +kernel),
  fun X d x0 x1 x2 x3 s0 σ Q => q_retI (by decide +kernel) rfl⟩
set_option maxRecDepth 50000 in
theorem gX3_has_0 : (∀ (X : tX) (d : Nat) (x0 : Nat) (x1 : Int32) (x2 : Int32) (σ : rS) (Q : tQ), Ex X d mX3_has 0 [.ref x0, .int x1, .int x2, rU] [] σ Q = Ex X d mX3_has 1 [.ref x0, .int x1, .int x2, rU] [.int x2] σ Q) ∧
  (∀ (X : tX) (d : Nat) (x0 : Nat) (x1 : Int32) (x2 : Int32) (s0 : Int32) (σ : rS) (Q : tQ), Ex X d mX3_has 1 [.ref x0, .int x1, .int x2, rU] [.int s0] σ Q = (if s0 < 0 then Ex X d mX3_has 10 [.ref x0, .int x1, .int x2, rU] [] σ Q else Ex X d mX3_has 4 [.ref x0, .int x1, .int x2, rU] [] σ Q)) := ⟨fun X d x0 x1 x2 σ Q => ex_P (i := .iload_n 2) (len := 1) (by decide +kernel) rfl,
  fun X d x0 x1 x2 s0 σ Q => q_if_lt (o := 9) (by decide +kernel) rfl⟩
set_option maxRecDepth 50000 in
theorem gX3_has_4 : (∀ (X : tX) (d : Nat) (x0 : Nat) (x1 : Int32) (x2 : Int32) (σ : rS) (Q : tQ), Ex X d mX3_has 4 [.ref x0, .int x1, .int x2, rU] [] σ Q = Ex X d mX3_has 5 [.ref x0, .int x1, .int x2, rU] [.int x2] σ Q) ∧
  (∀ (X : tX) (d : Nat) (x0 : Nat) (x1 : Int32) (x2 : Int32) (s0 : Int32) (σ : rS) (Q : tQ), Ex X d mX3_has 5 [.ref x0, .int x1, .int x2, rU] [.int s0] σ Q = Ex X d mX3_has 7 [.ref x0, .int x1, .int x2, rU] [.int 6, .int s0] σ Q) ∧
  (∀ (X : tX) (d : Nat) (x0 : Nat) (x1 : Int32) (x2 : Int32) (s0 : Int32) (s1 : Int32) (σ : rS) (Q : tQ), Ex X d mX3_has 7 [.ref x0, .int x1, .int x2, rU] [.int s0, .int s1] σ Q = (if s1 ≤ s0 then Ex X d mX3_has 12 [.ref x0, .int x1, .int x2, rU] [] σ Q else Ex X d mX3_has 10 [.ref x0, .int x1, .int x2, rU] [] σ Q)) := ⟨fun X d x0 x1 x2 σ Q => ex_P (i := .iload_n 2) (len := 1) (by decide +kernel) rfl,
  fun X d x0 x1 x2 s0 σ Q => ex_P (i := .bipush 6) (len := 2) (by decide +kernel) rfl,
  fun X d x0 x1 x2 s0 s1 σ Q => q_icmp_le (o := 5) (by decide +kernel) rfl⟩
set_option maxRecDepth 50000 in
theorem gX3_has_10 : (∀ (X : tX) (d : Nat) (x0 : Nat) (x1 : Int32) (x2 : Int32) (σ : rS) (Q : tQ), Ex X d mX3_has 10 [.ref x0, .int x1, .int x2, rU] [] σ Q = Ex X d mX3_has 11 [.ref x0, .int x1, .int x2, rU] [.int 0] σ Q) ∧
  (∀ (X : tX) (d : Nat) (x0 : Nat) (x1 : Int32) (x2 : Int32) (s0 : Int32) (σ : rS) (Q : tQ), Ex X d mX3_has 11 [.ref x0, .int x1, .int x2, rU] [.int s0] σ Q = ((s0 = 0 ∨ s0 = 1) ∧ Q (some (.int s0)) σ)) := ⟨fun X d x0 x1 x2 σ Q => ex_P (i := .iconst 0) (len := 1) (by decide +kernel) rfl,
  fun X d x0 x1 x2 s0 σ Q => q_retZ (by decide +kernel) rfl⟩
set_option maxRecDepth 50000 in
theorem gX3_has_12 : (∀ (X : tX) (d : Nat) (x0 : Nat) (x1 : Int32) (x2 : Int32) (σ : rS) (Q : tQ), Ex X d mX3_has 12 [.ref x0, .int x1, .int x2, rU] [] σ Q = Ex X d mX3_has 13 [.ref x0, .int x1, .int x2, rU] [.int x2] σ Q) ∧
  (∀ (X : tX) (d : Nat) (x0 : Nat) (x1 : Int32) (x2 : Int32) (s0 : Int32) (σ : rS) (Q : tQ), Ex X d mX3_has 13 [.ref x0, .int x1, .int x2, rU] [.int s0] σ Q = Ex X d mX3_has 14 [.ref x0, .int x1, .int x2, rU] [.int 3, .int s0] σ Q) ∧
  (∀ (X : tX) (d : Nat) (x0 : Nat) (x1 : Int32) (x2 : Int32) (s0 : Int32) (s1 : Int32) (σ : rS) (Q : tQ), Ex X d mX3_has 14 [.ref x0, .int x1, .int x2, rU] [.int s0, .int s1] σ Q = (if s0 < s1 then Ex X d mX3_has 24 [.ref x0, .int x1, .int x2, rU] [] σ Q else Ex X d mX3_has 17 [.ref x0, .int x1, .int x2, rU] [] σ Q)) := ⟨fun X d x0 x1 x2 σ Q => ex_P (i := .iload_n 2) (len := 1) (by decide +kernel) rfl,
  fun X d x0 x1 x2 s0 σ Q => ex_P (i := .iconst 3) (len := 1) (by decide +kernel) rfl,
  fun X d x0 x1 x2 s0 s1 σ Q => q_icmp_gt (o := 10) (by decide +kernel) rfl⟩
set_option maxRecDepth 50000 in
theorem gX3_has_17 : (∀ (X : tX) (d : Nat) (x0 : Nat) (x1 : Int32) (x2 : Int32) (σ : rS) (Q : tQ), Ex X d mX3_has 17 [.ref x0, .int x1, .int x2, rU] [] σ Q = Ex X d mX3_has 18 [.ref x0, .int x1, .int x2, rU] [.ref x0] σ Q) ∧
  (∀ (X : tX) (d : Nat) (x0 : Nat) (x1 : Int32) (x2 : Int32) (s0 : Nat) (T : tT) (I : tI) (J : tJ) (R : tR) (Q : tQ), Ex X d mX3_has 18 [.ref x0, .int x1, .int x2, rU] [.ref s0] (T, I, J, R) Q = (T[s0]? = some (3, 3) ∧ Ex X d mX3_has 21 [.ref x0, .int x1, .int x2, rU] [.int (I s0 8)] (T, I, J, R) Q)) ∧
  (∀ (X : tX) (d : Nat) (x0 : Nat) (x1 : Int32) (x2 : Int32) (s0 : Int32) (σ : rS) (Q : tQ), Ex X d mX3_has 21 [.ref x0, .int x1, .int x2, rU] [.int s0] σ Q = Ex X d mX3_has 35 [.ref x0, .int x1, .int x2, rU] [.int s0] σ Q) := ⟨fun X d x0 x1 x2 σ Q => ex_P (i := .aload_n 0) (len := 1) (by decide +kernel) rfl,
  fun X d x0 x1 x2 s0 T I J R Q => q_getI (k := 40) (by decide +kernel) rfl rfl (by decide),
  fun X d x0 x1 x2 s0 σ Q => q_goto (o := 14) (by decide +kernel) rfl⟩
set_option maxRecDepth 50000 in
theorem gX3_has_24 : (∀ (X : tX) (d : Nat) (x0 : Nat) (x1 : Int32) (x2 : Int32) (σ : rS) (Q : tQ), Ex X d mX3_has 24 [.ref x0, .int x1, .int x2, rU] [] σ Q = Ex X d mX3_has 25 [.ref x0, .int x1, .int x2, rU] [.int x2] σ Q) ∧
  (∀ (X : tX) (d : Nat) (x0 : Nat) (x1 : Int32) (x2 : Int32) (s0 : Int32) (σ : rS) (Q : tQ), Ex X d mX3_has 25 [.ref x0, .int x1, .int x2, rU] [.int s0] σ Q = Ex X d mX3_has 26 [.ref x0, .int x1, .int x2, rU] [.int 4, .int s0] σ Q) ∧
  (∀ (X : tX) (d : Nat) (x0 : Nat) (x1 : Int32) (x2 : Int32) (s0 : Int32) (s1 : Int32) (σ : rS) (Q : tQ), Ex X d mX3_has 26 [.ref x0, .int x1, .int x2, rU] [.int s0, .int s1] σ Q = (if s1 = s0 then Ex X d mX3_has 29 [.ref x0, .int x1, .int x2, rU] [] σ Q else Ex X d mX3_has 34 [.ref x0, .int x1, .int x2, rU] [] σ Q)) := ⟨fun X d x0 x1 x2 σ Q => ex_P (i := .iload_n 2) (len := 1) (by decide +kernel) rfl,
  fun X d x0 x1 x2 s0 σ Q => ex_P (i := .iconst 4) (len := 1) (by decide +kernel) rfl,
  fun X d x0 x1 x2 s0 s1 σ Q => q_icmp_ne (o := 8) (by decide +kernel) rfl⟩
set_option maxRecDepth 50000 in
theorem gX3_has_29 : (∀ (X : tX) (d : Nat) (x0 : Nat) (x1 : Int32) (x2 : Int32) (σ : rS) (Q : tQ), Ex X d mX3_has 29 [.ref x0, .int x1, .int x2, rU] [] σ Q = Ex X d mX3_has 31 [.ref x0, .int x1, .int x2, rU] [.int 7] σ Q) ∧
  (∀ (X : tX) (d : Nat) (x0 : Nat) (x1 : Int32) (x2 : Int32) (s0 : Int32) (σ : rS) (Q : tQ), Ex X d mX3_has 31 [.ref x0, .int x1, .int x2, rU] [.int s0] σ Q = Ex X d mX3_has 35 [.ref x0, .int x1, .int x2, rU] [.int s0] σ Q) := ⟨fun X d x0 x1 x2 σ Q => ex_P (i := .bipush 7) (len := 2) (by decide +kernel) rfl,
  fun X d x0 x1 x2 s0 σ Q => q_goto (o := 4) (by decide +kernel) rfl⟩
set_option maxRecDepth 50000 in
theorem gX3_has_34 : (∀ (X : tX) (d : Nat) (x0 : Nat) (x1 : Int32) (x2 : Int32) (σ : rS) (Q : tQ), Ex X d mX3_has 34 [.ref x0, .int x1, .int x2, rU] [] σ Q = Ex X d mX3_has 35 [.ref x0, .int x1, .int x2, rU] [.int 1] σ Q) := fun X d x0 x1 x2 σ Q => ex_P (i := .iconst 1) (len := 1) (by decide +kernel) rfl
set_option maxRecDepth 50000 in
theorem gX3_has_35 : (∀ (X : tX) (d : Nat) (x0 : Nat) (x1 : Int32) (x2 : Int32) (s0 : Int32) (σ : rS) (Q : tQ), Ex X d mX3_has 35 [.ref x0, .int x1, .int x2, rU] [.int s0] σ Q = Ex X d mX3_has 36 [.ref x0, .int x1, .int x2, .int s0] [] σ Q) ∧
  (∀ (X : tX) (d : Nat) (x0 : Nat) (x1 : Int32) (x2 : Int32) (x3 : Int32) (σ : rS) (Q : tQ), Ex X d mX3_has 36 [.ref x0, .int x1, .int x2, .int x3] [] σ Q = Ex X d mX3_has 37 [.ref x0, .int x1, .int x2, .int x3] [.int x1] σ Q) ∧
  (∀ (X : tX) (d : Nat) (x0 : Nat) (x1 : Int32) (x2 : Int32) (x3 : Int32) (s0 : Int32) (σ : rS) (Q : tQ), Ex X d mX3_has 37 [.ref x0, .int x1, .int x2, .int x3] [.int s0] σ Q = (if s0 < 0 then Ex X d mX3_has 49 [.ref x0, .int x1, .int x2, .int x3] [] σ Q else Ex X d mX3_has 40 [.ref x0, .int x1, .int x2, .int x3] [] σ Q)) := ⟨fun X d x0 x1 x2 s0 σ Q => ex_P (i := .istore_n 3) (len := 1) (by decide +kernel) rfl,
  fun X d x0 x1 x2 x3 σ Q => ex_P (i := .iload_n 1) (len := 1) (by decide +kernel) rfl,
  fun X d x0 x1 x2 x3 s0 σ Q => q_if_lt (o := 12) (by decide +kernel) rfl⟩
set_option maxRecDepth 50000 in
theorem gX3_has_40 : (∀ (X : tX) (d : Nat) (x0 : Nat) (x1 : Int32) (x2 : Int32) (x3 : Int32) (σ : rS) (Q : tQ), Ex X d mX3_has 40 [.ref x0, .int x1, .int x2, .int x3] [] σ Q = Ex X d mX3_has 41 [.ref x0, .int x1, .int x2, .int x3] [.int x1] σ Q) ∧
  (∀ (X : tX) (d : Nat) (x0 : Nat) (x1 : Int32) (x2 : Int32) (x3 : Int32) (s0 : Int32) (σ : rS) (Q : tQ), Ex X d mX3_has 41 [.ref x0, .int x1, .int x2, .int x3] [.int s0] σ Q = Ex X d mX3_has 42 [.ref x0, .int x1, .int x2, .int x3] [.int x3, .int s0] σ Q) ∧
  (∀ (X : tX) (d : Nat) (x0 : Nat) (x1 : Int32) (x2 : Int32) (x3 : Int32) (s0 : Int32) (s1 : Int32) (σ : rS) (Q : tQ), Ex X d mX3_has 42 [.ref x0, .int x1, .int x2, .int x3] [.int s0, .int s1] σ Q = (if s0 ≤ s1 then Ex X d mX3_has 49 [.ref x0, .int x1, .int x2, .int x3] [] σ Q else Ex X d mX3_has 45 [.ref x0, .int x1, .int x2, .int x3] [] σ Q)) := ⟨fun X d x0 x1 x2 x3 σ Q => ex_P (i := .iload_n 1) (len := 1) (by decide +kernel) rfl,
  fun X d x0 x1 x2 x3 s0 σ Q => ex_P (i := .iload_n 3) (len := 1) (by decide +kernel) rfl,
  fun X d x0 x1 x2 x3 s0 s1 σ Q => q_icmp_ge (o := 7) (by decide +kernel) rfl⟩
set_option maxRecDepth 50000 in
theorem gX3_has_45 : (∀ (X : tX) (d : Nat) (x0 : Nat) (x1 : Int32) (x2 : Int32) (x3 : Int32) (σ : rS) (Q : tQ), Ex X d mX3_has 45 [.ref x0, .int x1, .int x2, .int x3] [] σ Q = Ex X d mX3_has 46 [.ref x0, .int x1, .int x2, .int x3] [.int 1] σ Q) ∧
  (∀ (X : tX) (d : Nat) (x0 : Nat) (x1 : Int32) (x2 : Int32) (x3 : Int32) (s0 : Int32) (σ : rS) (Q : tQ), Ex X d mX3_has 46 [.ref x0, .int x1, .int x2, .int x3] [.int s0] σ Q = Ex X d mX3_has 50 [.ref x0, .int x1, .int x2, .int x3] [.int s0] σ Q) := ⟨fun X d x0 x1 x2 x3 σ Q => ex_P (i := .iconst 1) (len := 1) (by decide +kernel) rfl,
  fun X d x0 x1 x2 x3 s0 σ Q => q_goto (o := 4) (by decide +kernel) rfl⟩
set_option maxRecDepth 50000 in
theorem gX3_has_49 : (∀ (X : tX) (d : Nat) (x0 : Nat) (x1 : Int32) (x2 : Int32) (x3 : Int32) (σ : rS) (Q : tQ), Ex X d mX3_has 49 [.ref x0, .int x1, .int x2, .int x3] [] σ Q = Ex X d mX3_has 50 [.ref x0, .int x1, .int x2, .int x3] [.int 0] σ Q) := fun X d x0 x1 x2 x3 σ Q => ex_P (i := .iconst 0) (len := 1) (by decide +kernel) rfl
set_option maxRecDepth 50000 in
theorem gX3_has_50 : (∀ (X : tX) (d : Nat) (x0 : Nat) (x1 : Int32) (x2 : Int32) (x3 : Int32) (s0 : Int32) (σ : rS) (Q : tQ), Ex X d mX3_has 50 [.ref x0, .int x1, .int x2, .int x3] [.int s0] σ Q = ((s0 = 0 ∨ s0 = 1) ∧ Q (some (.int s0)) σ)) := fun X d x0 x1 x2 x3 s0 σ Q => q_retZ (by decide +kernel) rfl
set_option maxRecDepth 50000 in
theorem gX3_numberOf_0 : (∀ (X : tX) (d : Nat) (x0 : Nat) (x1 : Int32) (x2 : Int32) (σ : rS) (Q : tQ), Ex X d mX3_numberOf 0 [.ref x0, .int x1, .int x2] [] σ Q = Ex X d mX3_numberOf 1 [.ref x0, .int x1, .int x2] [.ref x0] σ Q) ∧
  (∀ (X : tX) (d : Nat) (x0 : Nat) (x1 : Int32) (x2 : Int32) (s0 : Nat) (σ : rS) (Q : tQ), Ex X d mX3_numberOf 1 [.ref x0, .int x1, .int x2] [.ref s0] σ Q = Ex X d mX3_numberOf 2 [.ref x0, .int x1, .int x2] [.int x1, .ref s0] σ Q) ∧
  (∀ (X : tX) (d : Nat) (x0 : Nat) (x1 : Int32) (x2 : Int32) (s0 : Int32) (s1 : Nat) (σ : rS) (Q : tQ), Ex X d mX3_numberOf 2 [.ref x0, .int x1, .int x2] [.int s0, .ref s1] σ Q = Ex X d mX3_numberOf 3 [.ref x0, .int x1, .int x2] [.int x2, .int s0, .ref s1] σ Q) ∧
  (∀ (X : tX) (d : Nat) (x0 : Nat) (x1 : Int32) (x2 : Int32) (s0 : Int32) (s1 : Int32) (s2 : Nat) (T : tT) (I : tI) (J : tJ) (R : tR) (Q : tQ), Ex X (d + 1) mX3_numberOf 3 [.ref x0, .int x1, .int x2] [.int s0, .int s1, .ref s2] (T, I, J, R) Q = (T[s2]? = some (3, 3) ∧ Ex X d mX3_has 0 [.ref s2, .int s1, .int s0, rU] [] (T, I, J, R) (fun v σ1 => Ex X (d + 1) mX3_numberOf 6 [.ref x0, .int x1, .int x2] (v.toList ++ []) σ1 Q))) := ⟨fun X d x0 x1 x2 σ Q => ex_P (i := .aload_n 0) (len := 1) (by decide +kernel) rfl,
  fun X d x0 x1 x2 s0 σ Q => ex_P (i := .iload_n 1) (len := 1) (by decide +kernel) rfl,
  fun X d x0 x1 x2 s0 s1 σ Q => ex_P (i := .iload_n 2) (len := 1) (by decide +kernel) rfl,
  fun X d x0 x1 x2 s0 s1 s2 T I J R Q => q_callV (k := 47) (as := [.int s1, .int s0]) (st := []) (show rlk mX3_numberOf.2.2.2.2.2.2 3 = some (.invokevirtual 47, 3) from by decide +kernel) rfl rfl rfl (Nat.le_of_ble_eq_true rfl) (Nat.le_of_ble_eq_true rfl) rfl⟩
set_option maxRecDepth 50000 in
theorem gX3_numberOf_6 : (∀ (X : tX) (d : Nat) (x0 : Nat) (x1 : Int32) (x2 : Int32) (s0 : Int32) (σ : rS) (Q : tQ), Ex X d mX3_numberOf 6 [.ref x0, .int x1, .int x2] [.int s0] σ Q = (if s0 = 0 then Ex X d mX3_numberOf 9 [.ref x0, .int x1, .int x2] [] σ Q else Ex X d mX3_numberOf 11 [.ref x0, .int x1, .int x2] [] σ Q)) := fun X d x0 x1 x2 s0 σ Q => q_if_ne (o := 5) (by decide +kernel) rfl
set_option maxRecDepth 50000 in
theorem gX3_numberOf_9 : (∀ (X : tX) (d : Nat) (x0 : Nat) (x1 : Int32) (x2 : Int32) (σ : rS) (Q : tQ), Ex X d mX3_numberOf 9 [.ref x0, .int x1, .int x2] [] σ Q = Ex X d mX3_numberOf 10 [.ref x0, .int x1, .int x2] [.int (-1)] σ Q) ∧
  (∀ (X : tX) (d : Nat) (x0 : Nat) (x1 : Int32) (x2 : Int32) (s0 : Int32) (σ : rS) (Q : tQ), Ex X d mX3_numberOf 10 [.ref x0, .int x1, .int x2] [.int s0] σ Q = Q (some (.int s0)) σ) := ⟨fun X d x0 x1 x2 σ Q => ex_P (i := .iconst (-1)) (len := 1) (by decide +kernel) rfl,
  fun X d x0 x1 x2 s0 σ Q => q_retI (by decide +kernel) rfl⟩
set_option maxRecDepth 50000 in
theorem gX3_numberOf_11 : (∀ (X : tX) (d : Nat) (x0 : Nat) (x1 : Int32) (x2 : Int32) (σ : rS) (Q : tQ), Ex X d mX3_numberOf 11 [.ref x0, .int x1, .int x2] [] σ Q = Ex X d mX3_numberOf 12 [.ref x0, .int x1, .int x2] [.int x2] σ Q) ∧
  (∀ (X : tX) (d : Nat) (x0 : Nat) (x1 : Int32) (x2 : Int32) (s0 : Int32) (σ : rS) (Q : tQ), Ex X d mX3_numberOf 12 [.ref x0, .int x1, .int x2] [.int s0] σ Q = Ex X d mX3_numberOf 13 [.ref x0, .int x1, .int x2] [.int 5, .int s0] σ Q) ∧
  (∀ (X : tX) (d : Nat) (x0 : Nat) (x1 : Int32) (x2 : Int32) (s0 : Int32) (s1 : Int32) (σ : rS) (Q : tQ), Ex X d mX3_numberOf 13 [.ref x0, .int x1, .int x2] [.int s0, .int s1] σ Q = (if s1 = s0 then Ex X d mX3_numberOf 16 [.ref x0, .int x1, .int x2] [] σ Q else Ex X d mX3_numberOf 23 [.ref x0, .int x1, .int x2] [] σ Q)) := ⟨fun X d x0 x1 x2 σ Q => ex_P (i := .iload_n 2) (len := 1) (by decide +kernel) rfl,
  fun X d x0 x1 x2 s0 σ Q => ex_P (i := .iconst 5) (len := 1) (by decide +kernel) rfl,
  fun X d x0 x1 x2 s0 s1 σ Q => q_icmp_ne (o := 10) (by decide +kernel) rfl⟩
set_option maxRecDepth 50000 in
theorem gX3_numberOf_16 : (∀ (X : tX) (d : Nat) (x0 : Nat) (x1 : Int32) (x2 : Int32) (σ : rS) (Q : tQ), Ex X d mX3_numberOf 16 [.ref x0, .int x1, .int x2] [] σ Q = Ex X d mX3_numberOf 17 [.ref x0, .int x1, .int x2] [.ref x0] σ Q) ∧
  (∀ (X : tX) (d : Nat) (x0 : Nat) (x1 : Int32) (x2 : Int32) (s0 : Nat) (T : tT) (I : tI) (J : tJ) (R : tR) (Q : tQ), Ex X d mX3_numberOf 17 [.ref x0, .int x1, .int x2] [.ref s0] (T, I, J, R) Q = (T[s0]? = some (3, 3) ∧ Ex X d mX3_numberOf 20 [.ref x0, .int x1, .int x2] [.int (I s0 6)] (T, I, J, R) Q)) ∧
  (∀ (X : tX) (d : Nat) (x0 : Nat) (x1 : Int32) (x2 : Int32) (s0 : Int32) (σ : rS) (Q : tQ), Ex X d mX3_numberOf 20 [.ref x0, .int x1, .int x2] [.int s0] σ Q = Ex X d mX3_numberOf 43 [.ref x0, .int x1, .int x2] [.int s0] σ Q) := ⟨fun X d x0 x1 x2 σ Q => ex_P (i := .aload_n 0) (len := 1) (by decide +kernel) rfl,
  fun X d x0 x1 x2 s0 T I J R Q => q_getI (k := 30) (by decide +kernel) rfl rfl (by decide),
  fun X d x0 x1 x2 s0 σ Q => q_goto (o := 23) (by decide +kernel) rfl⟩
set_option maxRecDepth 50000 in
theorem gX3_numberOf_23 : (∀ (X : tX) (d : Nat) (x0 : Nat) (x1 : Int32) (x2 : Int32) (σ : rS) (Q : tQ), Ex X d mX3_numberOf 23 [.ref x0, .int x1, .int x2] [] σ Q = Ex X d mX3_numberOf 24 [.ref x0, .int x1, .int x2] [.int x2] σ Q) ∧
  (∀ (X : tX) (d : Nat) (x0 : Nat) (x1 : Int32) (x2 : Int32) (s0 : Int32) (σ : rS) (Q : tQ), Ex X d mX3_numberOf 24 [.ref x0, .int x1, .int x2] [.int s0] σ Q = Ex X d mX3_numberOf 26 [.ref x0, .int x1, .int x2] [.int 6, .int s0] σ Q) ∧
  (∀ (X : tX) (d : Nat) (x0 : Nat) (x1 : Int32) (x2 : Int32) (s0 : Int32) (s1 : Int32) (σ : rS) (Q : tQ), Ex X d mX3_numberOf 26 [.ref x0, .int x1, .int x2] [.int s0, .int s1] σ Q = (if s1 = s0 then Ex X d mX3_numberOf 29 [.ref x0, .int x1, .int x2] [] σ Q else Ex X d mX3_numberOf 36 [.ref x0, .int x1, .int x2] [] σ Q)) := ⟨fun X d x0 x1 x2 σ Q => ex_P (i := .iload_n 2) (len := 1) (by decide +kernel) rfl,
  fun X d x0 x1 x2 s0 σ Q => ex_P (i := .bipush 6) (len := 2) (by decide +kernel) rfl,
  fun X d x0 x1 x2 s0 s1 σ Q => q_icmp_ne (o := 10) (by decide +kernel) rfl⟩
set_option maxRecDepth 50000 in
theorem gX3_numberOf_29 : (∀ (X : tX) (d : Nat) (x0 : Nat) (x1 : Int32) (x2 : Int32) (σ : rS) (Q : tQ), Ex X d mX3_numberOf 29 [.ref x0, .int x1, .int x2] [] σ Q = Ex X d mX3_numberOf 30 [.ref x0, .int x1, .int x2] [.ref x0] σ Q) ∧
  (∀ (X : tX) (d : Nat) (x0 : Nat) (x1 : Int32) (x2 : Int32) (s0 : Nat) (T : tT) (I : tI) (J : tJ) (R : tR) (Q : tQ), Ex X d mX3_numberOf 30 [.ref x0, .int x1, .int x2] [.ref s0] (T, I, J, R) Q = (T[s0]? = some (3, 3) ∧ Ex X d mX3_numberOf 33 [.ref x0, .int x1, .int x2] [.int (I s0 7)] (T, I, J, R) Q)) ∧
  (∀ (X : tX) (d : Nat) (x0 : Nat) (x1 : Int32) (x2 : Int32) (s0 : Int32) (σ : rS) (Q : tQ), Ex X d mX3_numberOf 33 [.ref x0, .int x1, .int x2] [.int s0] σ Q = Ex X d mX3_numberOf 43 [.ref x0, .int x1, .int x2] [.int s0] σ Q) := ⟨fun X d x0 x1 x2 σ Q => ex_P (i := .aload_n 0) (len := 1) (by decide +kernel) rfl,
  fun X d x0 x1 x2 s0 T I J R Q => q_getI (k := 51) (by decide +kernel) rfl rfl (by decide),
  fun X d x0 x1 x2 s0 σ Q => q_goto (o := 10) (by decide +kernel) rfl⟩
set_option maxRecDepth 50000 in
theorem gX3_numberOf_36 : (∀ (X : tX) (d : Nat) (x0 : Nat) (x1 : Int32) (x2 : Int32) (σ : rS) (Q : tQ), Ex X d mX3_numberOf 36 [.ref x0, .int x1, .int x2] [] σ Q = Ex X d mX3_numberOf 37 [.ref x0, .int x1, .int x2] [.ref x0] σ Q) ∧
  (∀ (X : tX) (d : Nat) (x0 : Nat) (x1 : Int32) (x2 : Int32) (s0 : Nat) (σ : rS) (Q : tQ), Ex X d mX3_numberOf 37 [.ref x0, .int x1, .int x2] [.ref s0] σ Q = Ex X d mX3_numberOf 38 [.ref x0, .int x1, .int x2] [.int x2, .ref s0] σ Q) ∧
  (∀ (X : tX) (d : Nat) (x0 : Nat) (x1 : Int32) (x2 : Int32) (s0 : Int32) (s1 : Nat) (T : tT) (I : tI) (J : tJ) (R : tR) (Q : tQ), Ex X (d + 1) mX3_numberOf 38 [.ref x0, .int x1, .int x2] [.int s0, .ref s1] (T, I, J, R) Q = (T[s1]? = some (3, 3) ∧ Ex X d mX3_numbers 0 [.ref s1, .int s0] [] (T, I, J, R) (fun v σ1 => Ex X (d + 1) mX3_numberOf 41 [.ref x0, .int x1, .int x2] (v.toList ++ []) σ1 Q))) := ⟨fun X d x0 x1 x2 σ Q => ex_P (i := .aload_n 0) (len := 1) (by decide +kernel) rfl,
  fun X d x0 x1 x2 s0 σ Q => ex_P (i := .iload_n 2) (len := 1) (by decide +kernel) rfl,
  fun X d x0 x1 x2 s0 s1 T I J R Q => q_callV (k := 54) (as := [.int s0]) (st := []) (show rlk mX3_numberOf.2.2.2.2.2.2 38 = some (.invokevirtual 54, 3) from by decide +kernel) rfl rfl rfl (Nat.le_of_ble_eq_true rfl) (Nat.le_of_ble_eq_true rfl) rfl⟩
set_option maxRecDepth 50000 in
theorem gX3_numberOf_41 : (∀ (X : tX) (d : Nat) (x0 : Nat) (x1 : Int32) (x2 : Int32) (s0 : Nat) (σ : rS) (Q : tQ), Ex X d mX3_numberOf 41 [.ref x0, .int x1, .int x2] [.ref s0] σ Q = Ex X d mX3_numberOf 42 [.ref x0, .int x1, .int x2] [.int x1, .ref s0] σ Q) ∧
  (∀ (X : tX) (d : Nat) (x0 : Nat) (x1 : Int32) (x2 : Int32) (s0 : Int32) (s1 : Nat) (T : tT) (I : tI) (J : tJ) (R : tR) (Q : tQ), Ex X d mX3_numberOf 42 [.ref x0, .int x1, .int x2] [.int s0, .ref s1] (T, I, J, R) Q = (rIn T s1 0 s0 ∧ Ex X d mX3_numberOf 43 [.ref x0, .int x1, .int x2] [.int (I s1 s0.toNatClampNeg)] (T, I, J, R) Q)) := ⟨fun X d x0 x1 x2 s0 σ Q => ex_P (i := .iload_n 1) (len := 1) (by decide +kernel) rfl,
  fun X d x0 x1 x2 s0 s1 T I J R Q => q_iald (by decide +kernel)⟩
set_option maxRecDepth 50000 in
theorem gX3_numberOf_43 : (∀ (X : tX) (d : Nat) (x0 : Nat) (x1 : Int32) (x2 : Int32) (s0 : Int32) (σ : rS) (Q : tQ), Ex X d mX3_numberOf 43 [.ref x0, .int x1, .int x2] [.int s0] σ Q = Q (some (.int s0)) σ) := fun X d x0 x1 x2 s0 σ Q => q_retI (by decide +kernel) rfl
set_option maxRecDepth 50000 in
theorem gX3_become_0 : (∀ (X : tX) (d : Nat) (x0 : Nat) (x1 : Int32) (x2 : Int32) (x3 : Int32) (σ : rS) (Q : tQ), Ex X d mX3_become 0 [.ref x0, .int x1, .int x2, .int x3] [] σ Q = Ex X d mX3_become 1 [.ref x0, .int x1, .int x2, .int x3] [.ref x0] σ Q) ∧
  (∀ (X : tX) (d : Nat) (x0 : Nat) (x1 : Int32) (x2 : Int32) (x3 : Int32) (s0 : Nat) (σ : rS) (Q : tQ), Ex X d mX3_become 1 [.ref x0, .int x1, .int x2, .int x3] [.ref s0] σ Q = Ex X d mX3_become 2 [.ref x0, .int x1, .int x2, .int x3] [.int x1, .ref s0] σ Q) ∧
  (∀ (X : tX) (d : Nat) (x0 : Nat) (x1 : Int32) (x2 : Int32) (x3 : Int32) (s0 : Int32) (s1 : Nat) (σ : rS) (Q : tQ), Ex X d mX3_become 2 [.ref x0, .int x1, .int x2, .int x3] [.int s0, .ref s1] σ Q = Ex X d mX3_become 3 [.ref x0, .int x1, .int x2, .int x3] [.int x2, .int s0, .ref s1] σ Q) ∧
  (∀ (X : tX) (d : Nat) (x0 : Nat) (x1 : Int32) (x2 : Int32) (x3 : Int32) (s0 : Int32) (s1 : Int32) (s2 : Nat) (T : tT) (I : tI) (J : tJ) (R : tR) (Q : tQ), Ex X (d + 1) mX3_become 3 [.ref x0, .int x1, .int x2, .int x3] [.int s0, .int s1, .ref s2] (T, I, J, R) Q = (T[s2]? = some (3, 3) ∧ Ex X d mX3_has 0 [.ref s2, .int s1, .int s0, rU] [] (T, I, J, R) (fun v σ1 => Ex X (d + 1) mX3_become 6 [.ref x0, .int x1, .int x2, .int x3] (v.toList ++ []) σ1 Q))) := ⟨fun X d x0 x1 x2 x3 σ Q => ex_P (i := .aload_n 0) (len := 1) (by decide +kernel) rfl,
  fun X d x0 x1 x2 x3 s0 σ Q => ex_P (i := .iload_n 1) (len := 1) (by decide +kernel) rfl,
  fun X d x0 x1 x2 x3 s0 s1 σ Q => ex_P (i := .iload_n 2) (len := 1) (by decide +kernel) rfl,
  fun X d x0 x1 x2 x3 s0 s1 s2 T I J R Q => q_callV (k := 47) (as := [.int s1, .int s0]) (st := []) (show rlk mX3_become.2.2.2.2.2.2 3 = some (.invokevirtual 47, 3) from by decide +kernel) rfl rfl rfl (Nat.le_of_ble_eq_true rfl) (Nat.le_of_ble_eq_true rfl) rfl⟩
set_option maxRecDepth 50000 in
theorem gX3_become_6 : (∀ (X : tX) (d : Nat) (x0 : Nat) (x1 : Int32) (x2 : Int32) (x3 : Int32) (s0 : Int32) (σ : rS) (Q : tQ), Ex X d mX3_become 6 [.ref x0, .int x1, .int x2, .int x3] [.int s0] σ Q = (if s0 = 0 then Ex X d mX3_become 17 [.ref x0, .int x1, .int x2, .int x3] [] σ Q else Ex X d mX3_become 9 [.ref x0, .int x1, .int x2, .int x3] [] σ Q)) := fun X d x0 x1 x2 x3 s0 σ Q => q_if_eq (o := 11) (by decide +kernel) rfl
set_option maxRecDepth 50000 in
theorem gX3_become_9 : (∀ (X : tX) (d : Nat) (x0 : Nat) (x1 : Int32) (x2 : Int32) (x3 : Int32) (σ : rS) (Q : tQ), Ex X d mX3_become 9 [.ref x0, .int x1, .int x2, .int x3] [] σ Q = Ex X d mX3_become 10 [.ref x0, .int x1, .int x2, .int x3] [.int x2] σ Q) ∧
  (∀ (X : tX) (d : Nat) (x0 : Nat) (x1 : Int32) (x2 : Int32) (x3 : Int32) (s0 : Int32) (σ : rS) (Q : tQ), Ex X d mX3_become 10 [.ref x0, .int x1, .int x2, .int x3] [.int s0] σ Q = Ex X d mX3_become 11 [.ref x0, .int x1, .int x2, .int x3] [.int x3, .int s0] σ Q) ∧
  (∀ (X : tX) (d : Nat) (x0 : Nat) (x1 : Int32) (x2 : Int32) (x3 : Int32) (s0 : Int32) (s1 : Int32) (σ : rS) (Q : tQ), Ex X (d + 1) mX3_become 11 [.ref x0, .int x1, .int x2, .int x3] [.int s0, .int s1] σ Q = Ex X d mX3_fitsIn 0 [.int s1, .int s0] [] σ (fun v σ1 => Ex X (d + 1) mX3_become 14 [.ref x0, .int x1, .int x2, .int x3] (v.toList ++ []) σ1 Q)) := ⟨fun X d x0 x1 x2 x3 σ Q => ex_P (i := .iload_n 2) (len := 1) (by decide +kernel) rfl,
  fun X d x0 x1 x2 x3 s0 σ Q => ex_P (i := .iload_n 3) (len := 1) (by decide +kernel) rfl,
  fun X d x0 x1 x2 x3 s0 s1 σ Q => q_callS (k := 58) (as := [.int s1, .int s0]) (st := []) (show rlk mX3_become.2.2.2.2.2.2 11 = some (.invokestatic 58, 3) from by decide +kernel) rfl (Or.inl rfl) rfl rfl rfl rfl rfl (Nat.le_of_ble_eq_true rfl) (Nat.le_of_ble_eq_true rfl) rfl⟩
set_option maxRecDepth 50000 in
theorem gX3_become_14 : (∀ (X : tX) (d : Nat) (x0 : Nat) (x1 : Int32) (x2 : Int32) (x3 : Int32) (s0 : Int32) (σ : rS) (Q : tQ), Ex X d mX3_become 14 [.ref x0, .int x1, .int x2, .int x3] [.int s0] σ Q = (if s0 = 0 then Ex X d mX3_become 17 [.ref x0, .int x1, .int x2, .int x3] [] σ Q else Ex X d mX3_become 18 [.ref x0, .int x1, .int x2, .int x3] [] σ Q)) := fun X d x0 x1 x2 x3 s0 σ Q => q_if_ne (o := 4) (by decide +kernel) rfl
set_option maxRecDepth 50000 in
theorem gX3_become_17 : (∀ (X : tX) (d : Nat) (x0 : Nat) (x1 : Int32) (x2 : Int32) (x3 : Int32) (σ : rS) (Q : tQ), Ex X d mX3_become 17 [.ref x0, .int x1, .int x2, .int x3] [] σ Q = Q none σ) := fun X d x0 x1 x2 x3 σ Q => q_retV (by decide +kernel) rfl
set_option maxRecDepth 50000 in
theorem gX3_become_18 : (∀ (X : tX) (d : Nat) (x0 : Nat) (x1 : Int32) (x2 : Int32) (x3 : Int32) (σ : rS) (Q : tQ), Ex X d mX3_become 18 [.ref x0, .int x1, .int x2, .int x3] [] σ Q = Ex X d mX3_become 19 [.ref x0, .int x1, .int x2, .int x3] [.int x2] σ Q) ∧
  (∀ (X : tX) (d : Nat) (x0 : Nat) (x1 : Int32) (x2 : Int32) (x3 : Int32) (s0 : Int32) (σ : rS) (Q : tQ), Ex X d mX3_become 19 [.ref x0, .int x1, .int x2, .int x3] [.int s0] σ Q = Ex X d mX3_become 20 [.ref x0, .int x1, .int x2, .int x3] [.int 5, .int s0] σ Q) ∧
  (∀ (X : tX) (d : Nat) (x0 : Nat) (x1 : Int32) (x2 : Int32) (x3 : Int32) (s0 : Int32) (s1 : Int32) (σ : rS) (Q : tQ), Ex X d mX3_become 20 [.ref x0, .int x1, .int x2, .int x3] [.int s0, .int s1] σ Q = (if s1 = s0 then Ex X d mX3_become 23 [.ref x0, .int x1, .int x2, .int x3] [] σ Q else Ex X d mX3_become 31 [.ref x0, .int x1, .int x2, .int x3] [] σ Q)) := ⟨fun X d x0 x1 x2 x3 σ Q => ex_P (i := .iload_n 2) (len := 1) (by decide +kernel) rfl,
  fun X d x0 x1 x2 x3 s0 σ Q => ex_P (i := .iconst 5) (len := 1) (by decide +kernel) rfl,
  fun X d x0 x1 x2 x3 s0 s1 σ Q => q_icmp_ne (o := 11) (by decide +kernel) rfl⟩
set_option maxRecDepth 50000 in
theorem gX3_become_23 : (∀ (X : tX) (d : Nat) (x0 : Nat) (x1 : Int32) (x2 : Int32) (x3 : Int32) (σ : rS) (Q : tQ), Ex X d mX3_become 23 [.ref x0, .int x1, .int x2, .int x3] [] σ Q = Ex X d mX3_become 24 [.ref x0, .int x1, .int x2, .int x3] [.ref x0] σ Q) ∧
  (∀ (X : tX) (d : Nat) (x0 : Nat) (x1 : Int32) (x2 : Int32) (x3 : Int32) (s0 : Nat) (σ : rS) (Q : tQ), Ex X d mX3_become 24 [.ref x0, .int x1, .int x2, .int x3] [.ref s0] σ Q = Ex X d mX3_become 25 [.ref x0, .int x1, .int x2, .int x3] [.int x3, .ref s0] σ Q) ∧
  (∀ (X : tX) (d : Nat) (x0 : Nat) (x1 : Int32) (x2 : Int32) (x3 : Int32) (s0 : Int32) (s1 : Nat) (T : tT) (I : tI) (J : tJ) (R : tR) (Q : tQ), Ex X d mX3_become 25 [.ref x0, .int x1, .int x2, .int x3] [.int s0, .ref s1] (T, I, J, R) Q = (T[s1]? = some (3, 3) ∧ Ex X d mX3_become 28 [.ref x0, .int x1, .int x2, .int x3] [] (T, va_up I s1 (va_up (I s1) 6 s0), J, R) Q)) ∧
  (∀ (X : tX) (d : Nat) (x0 : Nat) (x1 : Int32) (x2 : Int32) (x3 : Int32) (σ : rS) (Q : tQ), Ex X d mX3_become 28 [.ref x0, .int x1, .int x2, .int x3] [] σ Q = Ex X d mX3_become 53 [.ref x0, .int x1, .int x2, .int x3] [] σ Q) := ⟨fun X d x0 x1 x2 x3 σ Q => ex_P (i := .aload_n 0) (len := 1) (by decide +kernel) rfl,
  fun X d x0 x1 x2 x3 s0 σ Q => ex_P (i := .iload_n 3) (len := 1) (by decide +kernel) rfl,
  fun X d x0 x1 x2 x3 s0 s1 T I J R Q => q_putI (k := 30) (by decide +kernel) rfl rfl (by decide +kernel),
  fun X d x0 x1 x2 x3 σ Q => q_goto (o := 25) (by decide +kernel) rfl⟩
set_option maxRecDepth 50000 in
theorem gX3_become_31 : (∀ (X : tX) (d : Nat) (x0 : Nat) (x1 : Int32) (x2 : Int32) (x3 : Int32) (σ : rS) (Q : tQ), Ex X d mX3_become 31 [.ref x0, .int x1, .int x2, .int x3] [] σ Q = Ex X d mX3_become 32 [.ref x0, .int x1, .int x2, .int x3] [.int x2] σ Q) ∧
  (∀ (X : tX) (d : Nat) (x0 : Nat) (x1 : Int32) (x2 : Int32) (x3 : Int32) (s0 : Int32) (σ : rS) (Q : tQ), Ex X d mX3_become 32 [.ref x0, .int x1, .int x2, .int x3] [.int s0] σ Q = Ex X d mX3_become 34 [.ref x0, .int x1, .int x2, .int x3] [.int 6, .int s0] σ Q) ∧
  (∀ (X : tX) (d : Nat) (x0 : Nat) (x1 : Int32) (x2 : Int32) (x3 : Int32) (s0 : Int32) (s1 : Int32) (σ : rS) (Q : tQ), Ex X d mX3_become 34 [.ref x0, .int x1, .int x2, .int x3] [.int s0, .int s1] σ Q = (if s1 = s0 then Ex X d mX3_become 37 [.ref x0, .int x1, .int x2, .int x3] [] σ Q else Ex X d mX3_become 45 [.ref x0, .int x1, .int x2, .int x3] [] σ Q)) := ⟨fun X d x0 x1 x2 x3 σ Q => ex_P (i := .iload_n 2) (len := 1) (by decide +kernel) rfl,
  fun X d x0 x1 x2 x3 s0 σ Q => ex_P (i := .bipush 6) (len := 2) (by decide +kernel) rfl,
  fun X d x0 x1 x2 x3 s0 s1 σ Q => q_icmp_ne (o := 11) (by decide +kernel) rfl⟩
set_option maxRecDepth 50000 in
theorem gX3_become_37 : (∀ (X : tX) (d : Nat) (x0 : Nat) (x1 : Int32) (x2 : Int32) (x3 : Int32) (σ : rS) (Q : tQ), Ex X d mX3_become 37 [.ref x0, .int x1, .int x2, .int x3] [] σ Q = Ex X d mX3_become 38 [.ref x0, .int x1, .int x2, .int x3] [.ref x0] σ Q) ∧
  (∀ (X : tX) (d : Nat) (x0 : Nat) (x1 : Int32) (x2 : Int32) (x3 : Int32) (s0 : Nat) (σ : rS) (Q : tQ), Ex X d mX3_become 38 [.ref x0, .int x1, .int x2, .int x3] [.ref s0] σ Q = Ex X d mX3_become 39 [.ref x0, .int x1, .int x2, .int x3] [.int x3, .ref s0] σ Q) ∧
  (∀ (X : tX) (d : Nat) (x0 : Nat) (x1 : Int32) (x2 : Int32) (x3 : Int32) (s0 : Int32) (s1 : Nat) (T : tT) (I : tI) (J : tJ) (R : tR) (Q : tQ), Ex X d mX3_become 39 [.ref x0, .int x1, .int x2, .int x3] [.int s0, .ref s1] (T, I, J, R) Q = (T[s1]? = some (3, 3) ∧ Ex X d mX3_become 42 [.ref x0, .int x1, .int x2, .int x3] [] (T, va_up I s1 (va_up (I s1) 7 s0), J, R) Q)) ∧
  (∀ (X : tX) (d : Nat) (x0 : Nat) (x1 : Int32) (x2 : Int32) (x3 : Int32) (σ : rS) (Q : tQ), Ex X d mX3_become 42 [.ref x0, .int x1, .int x2, .int x3] [] σ Q = Ex X d mX3_become 53 [.ref x0, .int x1, .int x2, .int x3] [] σ Q) := ⟨fun X d x0 x1 x2 x3 σ Q => ex_P (i := .aload_n 0) (len := 1) (by decide +kernel) rfl,
  fun X d x0 x1 x2 x3 s0 σ Q => ex_P (i := .iload_n 3) (len := 1) (by decide +kernel) rfl,
  fun X d x0 x1 x2 x3 s0 s1 T I J R Q => q_putI (k := 51) (by decide +kernel) rfl rfl (by decide +kernel),
  fun X d x0 x1 x2 x3 σ Q => q_goto (o := 11) (by decide +kernel) rfl⟩
set_option maxRecDepth 50000 in
theorem gX3_become_45 : (∀ (X : tX) (d : Nat) (x0 : Nat) (x1 : Int32) (x2 : Int32) (x3 : Int32) (σ : rS) (Q : tQ), Ex X d mX3_become 45 [.ref x0, .int x1, .int x2, .int x3] [] σ Q = Ex X d mX3_become 46 [.ref x0, .int x1, .int x2, .int x3] [.ref x0] σ Q) ∧
  (∀ (X : tX) (d : Nat) (x0 : Nat) (x1 : Int32) (x2 : Int32) (x3 : Int32) (s0 : Nat) (σ : rS) (Q : tQ), Ex X d mX3_become 46 [.ref x0, .int x1, .int x2, .int x3] [.ref s0] σ Q = Ex X d mX3_become 47 [.ref x0, .int x1, .int x2, .int x3] [.int x2, .ref s0] σ Q) ∧
  (∀ (X : tX) (d : Nat) (x0 : Nat) (x1 : Int32) (x2 : Int32) (x3 : Int32) (s0 : Int32) (s1 : Nat) (T : tT) (I : tI) (J : tJ) (R : tR) (Q : tQ), Ex X (d + 1) mX3_become 47 [.ref x0, .int x1, .int x2, .int x3] [.int s0, .ref s1] (T, I, J, R) Q = (T[s1]? = some (3, 3) ∧ Ex X d mX3_numbers 0 [.ref s1, .int s0] [] (T, I, J, R) (fun v σ1 => Ex X (d + 1) mX3_become 50 [.ref x0, .int x1, .int x2, .int x3] (v.toList ++ []) σ1 Q))) := ⟨fun X d x0 x1 x2 x3 σ Q => ex_P (i := .aload_n 0) (len := 1) (by decide +kernel) rfl,
  fun X d x0 x1 x2 x3 s0 σ Q => ex_P (i := .iload_n 2) (len := 1) (by decide +kernel) rfl,
  fun X d x0 x1 x2 x3 s0 s1 T I J R Q => q_callV (k := 54) (as := [.int s0]) (st := []) (show rlk mX3_become.2.2.2.2.2.2 47 = some (.invokevirtual 54, 3) from by decide +kernel) rfl rfl rfl (Nat.le_of_ble_eq_true rfl) (Nat.le_of_ble_eq_true rfl) rfl⟩
set_option maxRecDepth 50000 in
theorem gX3_become_50 : (∀ (X : tX) (d : Nat) (x0 : Nat) (x1 : Int32) (x2 : Int32) (x3 : Int32) (s0 : Nat) (σ : rS) (Q : tQ), Ex X d mX3_become 50 [.ref x0, .int x1, .int x2, .int x3] [.ref s0] σ Q = Ex X d mX3_become 51 [.ref x0, .int x1, .int x2, .int x3] [.int x1, .ref s0] σ Q) ∧
  (∀ (X : tX) (d : Nat) (x0 : Nat) (x1 : Int32) (x2 : Int32) (x3 : Int32) (s0 : Int32) (s1 : Nat) (σ : rS) (Q : tQ), Ex X d mX3_become 51 [.ref x0, .int x1, .int x2, .int x3] [.int s0, .ref s1] σ Q = Ex X d mX3_become 52 [.ref x0, .int x1, .int x2, .int x3] [.int x3, .int s0, .ref s1] σ Q) ∧
  (∀ (X : tX) (d : Nat) (x0 : Nat) (x1 : Int32) (x2 : Int32) (x3 : Int32) (s0 : Int32) (s1 : Int32) (s2 : Nat) (T : tT) (I : tI) (J : tJ) (R : tR) (Q : tQ), Ex X d mX3_become 52 [.ref x0, .int x1, .int x2, .int x3] [.int s0, .int s1, .ref s2] (T, I, J, R) Q = (rIn T s2 0 s1 ∧ Ex X d mX3_become 53 [.ref x0, .int x1, .int x2, .int x3] [] (T, va_up I s2 (va_up (I s2) s1.toNatClampNeg s0), J, R) Q)) := ⟨fun X d x0 x1 x2 x3 s0 σ Q => ex_P (i := .iload_n 1) (len := 1) (by decide +kernel) rfl,
  fun X d x0 x1 x2 x3 s0 s1 σ Q => ex_P (i := .iload_n 3) (len := 1) (by decide +kernel) rfl,
  fun X d x0 x1 x2 x3 s0 s1 s2 T I J R Q => q_iast (by decide +kernel)⟩
set_option maxRecDepth 50000 in
theorem gX3_become_53 : (∀ (X : tX) (d : Nat) (x0 : Nat) (x1 : Int32) (x2 : Int32) (x3 : Int32) (σ : rS) (Q : tQ), Ex X d mX3_become 53 [.ref x0, .int x1, .int x2, .int x3] [] σ Q = Q none σ) := fun X d x0 x1 x2 x3 σ Q => q_retV (by decide +kernel) rfl
set_option maxRecDepth 50000 in
theorem gX3_numbers_0 : (∀ (X : tX) (d : Nat) (x0 : Nat) (x1 : Int32) (σ : rS) (Q : tQ), Ex X d mX3_numbers 0 [.ref x0, .int x1] [] σ Q = Ex X d mX3_numbers 1 [.ref x0, .int x1] [.int x1] σ Q) := fun X d x0 x1 σ Q => ex_P (i := .iload_n 1) (len := 1) (by decide +kernel) rfl
set_option maxRecDepth 50000 in
theorem gX3_numbers_32 : (∀ (X : tX) (d : Nat) (x0 : Nat) (x1 : Int32) (σ : rS) (Q : tQ), Ex X d mX3_numbers 32 [.ref x0, .int x1] [] σ Q = Ex X d mX3_numbers 33 [.ref x0, .int x1] [.ref x0] σ Q) ∧
  (∀ (X : tX) (d : Nat) (x0 : Nat) (x1 : Int32) (s0 : Nat) (T : tT) (I : tI) (J : tJ) (R : tR) (Q : tQ), Ex X d mX3_numbers 33 [.ref x0, .int x1] [.ref s0] (T, I, J, R) Q = (T[s0]? = some (3, 3) ∧ Ex X d mX3_numbers 36 [.ref x0, .int x1] [va_rf (R s0 0)] (T, I, J, R) Q)) ∧
  (∀ (X : tX) (d : Nat) (x0 : Nat) (x1 : Int32) (s0 : Nat) (σ : rS) (Q : tQ), Ex X d mX3_numbers 36 [.ref x0, .int x1] [.ref s0] σ Q = Q (some (.ref s0)) σ) := ⟨fun X d x0 x1 σ Q => ex_P (i := .aload_n 0) (len := 1) (by decide +kernel) rfl,
  fun X d x0 x1 s0 T I J R Q => q_getR (k := 11) (by decide +kernel) rfl rfl,
  fun X d x0 x1 s0 σ Q => q_retA (by decide +kernel) rfl⟩
set_option maxRecDepth 50000 in
theorem gX3_numbers_37 : (∀ (X : tX) (d : Nat) (x0 : Nat) (x1 : Int32) (σ : rS) (Q : tQ), Ex X d mX3_numbers 37 [.ref x0, .int x1] [] σ Q = Ex X d mX3_numbers 38 [.ref x0, .int x1] [.ref x0] σ Q) ∧
  (∀ (X : tX) (d : Nat) (x0 : Nat) (x1 : Int32) (s0 : Nat) (T : tT) (I : tI) (J : tJ) (R : tR) (Q : tQ), Ex X d mX3_numbers 38 [.ref x0, .int x1] [.ref s0] (T, I, J, R) Q = (T[s0]? = some (3, 3) ∧ Ex X d mX3_numbers 41 [.ref x0, .int x1] [va_rf (R s0 1)] (T, I, J, R) Q)) ∧
  (∀ (X : tX) (d : Nat) (x0 : Nat) (x1 : Int32) (s0 : Nat) (σ : rS) (Q : tQ), Ex X d mX3_numbers 41 [.ref x0, .int x1] [.ref s0] σ Q = Q (some (.ref s0)) σ) := ⟨fun X d x0 x1 σ Q => ex_P (i := .aload_n 0) (len := 1) (by decide +kernel) rfl,
  fun X d x0 x1 s0 T I J R Q => q_getR (k := 15) (by decide +kernel) rfl rfl,
  fun X d x0 x1 s0 σ Q => q_retA (by decide +kernel) rfl⟩
set_option maxRecDepth 50000 in
theorem gX3_numbers_42 : (∀ (X : tX) (d : Nat) (x0 : Nat) (x1 : Int32) (σ : rS) (Q : tQ), Ex X d mX3_numbers 42 [.ref x0, .int x1] [] σ Q = Ex X d mX3_numbers 43 [.ref x0, .int x1] [.ref x0] σ Q) ∧
  (∀ (X : tX) (d : Nat) (x0 : Nat) (x1 : Int32) (s0 : Nat) (T : tT) (I : tI) (J : tJ) (R : tR) (Q : tQ), Ex X d mX3_numbers 43 [.ref x0, .int x1] [.ref s0] (T, I, J, R) Q = (T[s0]? = some (3, 3) ∧ Ex X d mX3_numbers 46 [.ref x0, .int x1] [va_rf (R s0 2)] (T, I, J, R) Q)) ∧
  (∀ (X : tX) (d : Nat) (x0 : Nat) (x1 : Int32) (s0 : Nat) (σ : rS) (Q : tQ), Ex X d mX3_numbers 46 [.ref x0, .int x1] [.ref s0] σ Q = Q (some (.ref s0)) σ) := ⟨fun X d x0 x1 σ Q => ex_P (i := .aload_n 0) (len := 1) (by decide +kernel) rfl,
  fun X d x0 x1 s0 T I J R Q => q_getR (k := 18) (by decide +kernel) rfl rfl,
  fun X d x0 x1 s0 σ Q => q_retA (by decide +kernel) rfl⟩
set_option maxRecDepth 50000 in
theorem gX3_numbers_47 : (∀ (X : tX) (d : Nat) (x0 : Nat) (x1 : Int32) (σ : rS) (Q : tQ), Ex X d mX3_numbers 47 [.ref x0, .int x1] [] σ Q = Ex X d mX3_numbers 48 [.ref x0, .int x1] [.ref x0] σ Q) ∧
  (∀ (X : tX) (d : Nat) (x0 : Nat) (x1 : Int32) (s0 : Nat) (T : tT) (I : tI) (J : tJ) (R : tR) (Q : tQ), Ex X d mX3_numbers 48 [.ref x0, .int x1] [.ref s0] (T, I, J, R) Q = (T[s0]? = some (3, 3) ∧ Ex X d mX3_numbers 51 [.ref x0, .int x1] [va_rf (R s0 3)] (T, I, J, R) Q)) ∧
  (∀ (X : tX) (d : Nat) (x0 : Nat) (x1 : Int32) (s0 : Nat) (σ : rS) (Q : tQ), Ex X d mX3_numbers 51 [.ref x0, .int x1] [.ref s0] σ Q = Q (some (.ref s0)) σ) := ⟨fun X d x0 x1 σ Q => ex_P (i := .aload_n 0) (len := 1) (by decide +kernel) rfl,
  fun X d x0 x1 s0 T I J R Q => q_getR (k := 21) (by decide +kernel) rfl rfl,
  fun X d x0 x1 s0 σ Q => q_retA (by decide +kernel) rfl⟩
set_option maxRecDepth 50000 in
theorem gX3_numbers_52 : (∀ (X : tX) (d : Nat) (x0 : Nat) (x1 : Int32) (σ : rS) (Q : tQ), Ex X d mX3_numbers 52 [.ref x0, .int x1] [] σ Q = Ex X d mX3_numbers 53 [.ref x0, .int x1] [.ref x0] σ Q) ∧
  (∀ (X : tX) (d : Nat) (x0 : Nat) (x1 : Int32) (s0 : Nat) (T : tT) (I : tI) (J : tJ) (R : tR) (Q : tQ), Ex X d mX3_numbers 53 [.ref x0, .int x1] [.ref s0] (T, I, J, R) Q = (T[s0]? = some (3, 3) ∧ Ex X d mX3_numbers 56 [.ref x0, .int x1] [va_rf (R s0 4)] (T, I, J, R) Q)) ∧
  (∀ (X : tX) (d : Nat) (x0 : Nat) (x1 : Int32) (s0 : Nat) (σ : rS) (Q : tQ), Ex X d mX3_numbers 56 [.ref x0, .int x1] [.ref s0] σ Q = Q (some (.ref s0)) σ) := ⟨fun X d x0 x1 σ Q => ex_P (i := .aload_n 0) (len := 1) (by decide +kernel) rfl,
  fun X d x0 x1 s0 T I J R Q => q_getR (k := 24) (by decide +kernel) rfl rfl,
  fun X d x0 x1 s0 σ Q => q_retA (by decide +kernel) rfl⟩
set_option maxRecDepth 50000 in
theorem gX3_take_0 : (∀ (X : tX) (d : Nat) (x0 : Nat) (x1 : Nat) (σ : rS) (Q : tQ), Ex X d mX3_take 0 [.ref x0, .ref x1] [] σ Q = Ex X d mX3_take 1 [.ref x0, .ref x1] [.ref x0] σ Q) ∧
  (∀ (X : tX) (d : Nat) (x0 : Nat) (x1 : Nat) (s0 : Nat) (σ : rS) (Q : tQ), Ex X d mX3_take 1 [.ref x0, .ref x1] [.ref s0] σ Q = Ex X d mX3_take 2 [.ref x0, .ref x1] [.ref x1, .ref s0] σ Q) ∧
  (∀ (X : tX) (d : Nat) (x0 : Nat) (x1 : Nat) (s0 : Nat) (s1 : Nat) (T : tT) (I : tI) (J : tJ) (R : tR) (Q : tQ), Ex X d mX3_take 2 [.ref x0, .ref x1] [.ref s0, .ref s1] (T, I, J, R) Q = (T[s0]? = some (3, 3) ∧ Ex X d mX3_take 5 [.ref x0, .ref x1] [.int (I s0 8), .ref s1] (T, I, J, R) Q)) ∧
  (∀ (X : tX) (d : Nat) (x0 : Nat) (x1 : Nat) (s0 : Int32) (s1 : Nat) (T : tT) (I : tI) (J : tJ) (R : tR) (Q : tQ), Ex X d mX3_take 5 [.ref x0, .ref x1] [.int s0, .ref s1] (T, I, J, R) Q = (T[s1]? = some (3, 3) ∧ Ex X d mX3_take 8 [.ref x0, .ref x1] [] (T, va_up I s1 (va_up (I s1) 8 s0), J, R) Q)) ∧
  (∀ (X : tX) (d : Nat) (x0 : Nat) (x1 : Nat) (σ : rS) (Q : tQ), Ex X d mX3_take 8 [.ref x0, .ref x1] [] σ Q = Ex X d mX3_take 9 [.ref x0, .ref x1] [.ref x0] σ Q) ∧
  (∀ (X : tX) (d : Nat) (x0 : Nat) (x1 : Nat) (s0 : Nat) (σ : rS) (Q : tQ), Ex X d mX3_take 9 [.ref x0, .ref x1] [.ref s0] σ Q = Ex X d mX3_take 10 [.ref x0, .ref x1] [.ref x1, .ref s0] σ Q) ∧
  (∀ (X : tX) (d : Nat) (x0 : Nat) (x1 : Nat) (s0 : Nat) (s1 : Nat) (T : tT) (I : tI) (J : tJ) (R : tR) (Q : tQ), Ex X (d + 1) mX3_take 10 [.ref x0, .ref x1] [.ref s0, .ref s1] (T, I, J, R) Q = (T[s1]? = some (3, 3) ∧ Ex X d mX3_takeWhatDeedsChange 0 [.ref s1, .ref s0] [] (T, I, J, R) (fun v σ1 => Ex X (d + 1) mX3_take 13 [.ref x0, .ref x1] (v.toList ++ []) σ1 Q))) := ⟨fun X d x0 x1 σ Q => ex_P (i := .aload_n 0) (len := 1) (by decide +kernel) rfl,
  fun X d x0 x1 s0 σ Q => ex_P (i := .aload_n 1) (len := 1) (by decide +kernel) rfl,
  fun X d x0 x1 s0 s1 T I J R Q => q_getI (k := 40) (by decide +kernel) rfl rfl (by decide),
  fun X d x0 x1 s0 s1 T I J R Q => q_putI (k := 40) (by decide +kernel) rfl rfl (by decide +kernel),
  fun X d x0 x1 σ Q => ex_P (i := .aload_n 0) (len := 1) (by decide +kernel) rfl,
  fun X d x0 x1 s0 σ Q => ex_P (i := .aload_n 1) (len := 1) (by decide +kernel) rfl,
  fun X d x0 x1 s0 s1 T I J R Q => q_callV (k := 61) (as := [.ref s0]) (st := []) (show rlk mX3_take.2.2.2.2.2.2 10 = some (.invokevirtual 61, 3) from by decide +kernel) rfl rfl rfl (Nat.le_of_ble_eq_true rfl) (Nat.le_of_ble_eq_true rfl) rfl⟩
set_option maxRecDepth 50000 in
theorem gX3_take_13 : (∀ (X : tX) (d : Nat) (x0 : Nat) (x1 : Nat) (σ : rS) (Q : tQ), Ex X d mX3_take 13 [.ref x0, .ref x1] [] σ Q = Ex X d mX3_take 14 [.ref x0, .ref x1] [.ref x1] σ Q) ∧
  (∀ (X : tX) (d : Nat) (x0 : Nat) (x1 : Nat) (s0 : Nat) (T : tT) (I : tI) (J : tJ) (R : tR) (Q : tQ), Ex X d mX3_take 14 [.ref x0, .ref x1] [.ref s0] (T, I, J, R) Q = (T[s0]? = some (3, 3) ∧ Ex X d mX3_take 17 [.ref x0, .ref x1] [va_rf (R s0 1)] (T, I, J, R) Q)) ∧
  (∀ (X : tX) (d : Nat) (x0 : Nat) (x1 : Nat) (s0 : Nat) (σ : rS) (Q : tQ), Ex X d mX3_take 17 [.ref x0, .ref x1] [.ref s0] σ Q = Ex X d mX3_take 18 [.ref x0, .ref x1] [.int 0, .ref s0] σ Q) ∧
  (∀ (X : tX) (d : Nat) (x0 : Nat) (x1 : Nat) (s0 : Int32) (s1 : Nat) (σ : rS) (Q : tQ), Ex X d mX3_take 18 [.ref x0, .ref x1] [.int s0, .ref s1] σ Q = Ex X d mX3_take 19 [.ref x0, .ref x1] [.ref x0, .int s0, .ref s1] σ Q) ∧
  (∀ (X : tX) (d : Nat) (x0 : Nat) (x1 : Nat) (s0 : Nat) (s1 : Int32) (s2 : Nat) (T : tT) (I : tI) (J : tJ) (R : tR) (Q : tQ), Ex X d mX3_take 19 [.ref x0, .ref x1] [.ref s0, .int s1, .ref s2] (T, I, J, R) Q = (T[s0]? = some (3, 3) ∧ Ex X d mX3_take 22 [.ref x0, .ref x1] [va_rf (R s0 1), .int s1, .ref s2] (T, I, J, R) Q)) ∧
  (∀ (X : tX) (d : Nat) (x0 : Nat) (x1 : Nat) (s0 : Nat) (s1 : Int32) (s2 : Nat) (σ : rS) (Q : tQ), Ex X d mX3_take 22 [.ref x0, .ref x1] [.ref s0, .int s1, .ref s2] σ Q = Ex X d mX3_take 23 [.ref x0, .ref x1] [.int 0, .ref s0, .int s1, .ref s2] σ Q) ∧
  (∀ (X : tX) (d : Nat) (x0 : Nat) (x1 : Nat) (s0 : Int32) (s1 : Nat) (s2 : Int32) (s3 : Nat) (σ : rS) (Q : tQ), Ex X d mX3_take 23 [.ref x0, .ref x1] [.int s0, .ref s1, .int s2, .ref s3] σ Q = Ex X d mX3_take 24 [.ref x0, .ref x1] [.ref x0, .int s0, .ref s1, .int s2, .ref s3] σ Q) ∧
  (∀ (X : tX) (d : Nat) (x0 : Nat) (x1 : Nat) (s0 : Nat) (s1 : Int32) (s2 : Nat) (s3 : Int32) (s4 : Nat) (T : tT) (I : tI) (J : tJ) (R : tR) (Q : tQ), Ex X d mX3_take 24 [.ref x0, .ref x1] [.ref s0, .int s1, .ref s2, .int s3, .ref s4] (T, I, J, R) Q = (T[s0]? = some (3, 3) ∧ Ex X d mX3_take 27 [.ref x0, .ref x1] [.int (I s0 8), .int s1, .ref s2, .int s3, .ref s4] (T, I, J, R) Q)) ∧
  (∀ (X : tX) (d : Nat) (x0 : Nat) (x1 : Nat) (σ : rS) (Q : tQ), Ex X d mX3_take 30 [.ref x0, .ref x1] [] σ Q = Ex X d mX3_take 31 [.ref x0, .ref x1] [.ref x1] σ Q) ∧
  (∀ (X : tX) (d : Nat) (x0 : Nat) (x1 : Nat) (s0 : Nat) (T : tT) (I : tI) (J : tJ) (R : tR) (Q : tQ), Ex X d mX3_take 31 [.ref x0, .ref x1] [.ref s0] (T, I, J, R) Q = (T[s0]? = some (3, 3) ∧ Ex X d mX3_take 34 [.ref x0, .ref x1] [va_rf (R s0 4)] (T, I, J, R) Q)) ∧
  (∀ (X : tX) (d : Nat) (x0 : Nat) (x1 : Nat) (s0 : Nat) (σ : rS) (Q : tQ), Ex X d mX3_take 34 [.ref x0, .ref x1] [.ref s0] σ Q = Ex X d mX3_take 35 [.ref x0, .ref x1] [.int 0, .ref s0] σ Q) ∧
  (∀ (X : tX) (d : Nat) (x0 : Nat) (x1 : Nat) (s0 : Int32) (s1 : Nat) (σ : rS) (Q : tQ), Ex X d mX3_take 35 [.ref x0, .ref x1] [.int s0, .ref s1] σ Q = Ex X d mX3_take 36 [.ref x0, .ref x1] [.ref x0, .int s0, .ref s1] σ Q) ∧
  (∀ (X : tX) (d : Nat) (x0 : Nat) (x1 : Nat) (s0 : Nat) (s1 : Int32) (s2 : Nat) (T : tT) (I : tI) (J : tJ) (R : tR) (Q : tQ), Ex X d mX3_take 36 [.ref x0, .ref x1] [.ref s0, .int s1, .ref s2] (T, I, J, R) Q = (T[s0]? = some (3, 3) ∧ Ex X d mX3_take 39 [.ref x0, .ref x1] [va_rf (R s0 4), .int s1, .ref s2] (T, I, J, R) Q)) ∧
  (∀ (X : tX) (d : Nat) (x0 : Nat) (x1 : Nat) (s0 : Nat) (s1 : Int32) (s2 : Nat) (σ : rS) (Q : tQ), Ex X d mX3_take 39 [.ref x0, .ref x1] [.ref s0, .int s1, .ref s2] σ Q = Ex X d mX3_take 40 [.ref x0, .ref x1] [.int 0, .ref s0, .int s1, .ref s2] σ Q) ∧
  (∀ (X : tX) (d : Nat) (x0 : Nat) (x1 : Nat) (s0 : Int32) (s1 : Nat) (s2 : Int32) (s3 : Nat) (σ : rS) (Q : tQ), Ex X d mX3_take 40 [.ref x0, .ref x1] [.int s0, .ref s1, .int s2, .ref s3] σ Q = Ex X d mX3_take 42 [.ref x0, .ref x1] [.int 7, .int s0, .ref s1, .int s2, .ref s3] σ Q) ∧
  (∀ (X : tX) (d : Nat) (x0 : Nat) (x1 : Nat) (σ : rS) (Q : tQ), Ex X d mX3_take 45 [.ref x0, .ref x1] [] σ Q = Ex X d mX3_take 46 [.ref x0, .ref x1] [.ref x0] σ Q) ∧
  (∀ (X : tX) (d : Nat) (x0 : Nat) (x1 : Nat) (s0 : Nat) (σ : rS) (Q : tQ), Ex X d mX3_take 46 [.ref x0, .ref x1] [.ref s0] σ Q = Ex X d mX3_take 47 [.ref x0, .ref x1] [.ref x1, .ref s0] σ Q) ∧
  (∀ (X : tX) (d : Nat) (x0 : Nat) (x1 : Nat) (s0 : Nat) (s1 : Nat) (T : tT) (I : tI) (J : tJ) (R : tR) (Q : tQ), Ex X d mX3_take 47 [.ref x0, .ref x1] [.ref s0, .ref s1] (T, I, J, R) Q = (T[s0]? = some (3, 3) ∧ Ex X d mX3_take 50 [.ref x0, .ref x1] [.int (I s0 6), .ref s1] (T, I, J, R) Q)) ∧
  (∀ (X : tX) (d : Nat) (x0 : Nat) (x1 : Nat) (s0 : Int32) (s1 : Nat) (T : tT) (I : tI) (J : tJ) (R : tR) (Q : tQ), Ex X d mX3_take 50 [.ref x0, .ref x1] [.int s0, .ref s1] (T, I, J, R) Q = (T[s1]? = some (3, 3) ∧ Ex X d mX3_take 53 [.ref x0, .ref x1] [] (T, va_up I s1 (va_up (I s1) 6 s0), J, R) Q)) ∧
  (∀ (X : tX) (d : Nat) (x0 : Nat) (x1 : Nat) (σ : rS) (Q : tQ), Ex X d mX3_take 53 [.ref x0, .ref x1] [] σ Q = Q none σ) := ⟨fun X d x0 x1 σ Q => ex_P (i := .aload_n 1) (len := 1) (by decide +kernel) rfl,
  fun X d x0 x1 s0 T I J R Q => q_getR (k := 15) (by decide +kernel) rfl rfl,
  fun X d x0 x1 s0 σ Q => ex_P (i := .iconst 0) (len := 1) (by decide +kernel) rfl,
  fun X d x0 x1 s0 s1 σ Q => ex_P (i := .aload_n 0) (len := 1) (by decide +kernel) rfl,
  fun X d x0 x1 s0 s1 s2 T I J R Q => q_getR (k := 15) (by decide +kernel) rfl rfl,
  fun X d x0 x1 s0 s1 s2 σ Q => ex_P (i := .iconst 0) (len := 1) (by decide +kernel) rfl,
  fun X d x0 x1 s0 s1 s2 s3 σ Q => ex_P (i := .aload_n 0) (len := 1) (by decide +kernel) rfl,
  fun X d x0 x1 s0 s1 s2 s3 s4 T I J R Q => q_getI (k := 40) (by decide +kernel) rfl rfl (by decide),
  fun X d x0 x1 σ Q => ex_P (i := .aload_n 1) (len := 1) (by decide +kernel) rfl,
  fun X d x0 x1 s0 T I J R Q => q_getR (k := 24) (by decide +kernel) rfl rfl,
  fun X d x0 x1 s0 σ Q => ex_P (i := .iconst 0) (len := 1) (by decide +kernel) rfl,
  fun X d x0 x1 s0 s1 σ Q => ex_P (i := .aload_n 0) (len := 1) (by decide +kernel) rfl,
  fun X d x0 x1 s0 s1 s2 T I J R Q => q_getR (k := 24) (by decide +kernel) rfl rfl,
  fun X d x0 x1 s0 s1 s2 σ Q => ex_P (i := .iconst 0) (len := 1) (by decide +kernel) rfl,
  fun X d x0 x1 s0 s1 s2 s3 σ Q => ex_P (i := .bipush 7) (len := 2) (by decide +kernel) rfl,
  fun X d x0 x1 σ Q => ex_P (i := .aload_n 0) (len := 1) (by decide +kernel) rfl,
  fun X d x0 x1 s0 σ Q => ex_P (i := .aload_n 1) (len := 1) (by decide +kernel) rfl,
  fun X d x0 x1 s0 s1 T I J R Q => q_getI (k := 30) (by decide +kernel) rfl rfl (by decide),
  fun X d x0 x1 s0 s1 T I J R Q => q_putI (k := 30) (by decide +kernel) rfl rfl (by decide +kernel),
  fun X d x0 x1 σ Q => q_retV (by decide +kernel) rfl⟩
set_option maxRecDepth 50000 in
theorem gX3_takeWhatDeedsChange_0 : (∀ (X : tX) (d : Nat) (x0 : Nat) (x1 : Nat) (σ : rS) (Q : tQ), Ex X d mX3_takeWhatDeedsChange 0 [.ref x0, .ref x1] [] σ Q = Ex X d mX3_takeWhatDeedsChange 1 [.ref x0, .ref x1] [.ref x1] σ Q) ∧
  (∀ (X : tX) (d : Nat) (x0 : Nat) (x1 : Nat) (s0 : Nat) (T : tT) (I : tI) (J : tJ) (R : tR) (Q : tQ), Ex X d mX3_takeWhatDeedsChange 1 [.ref x0, .ref x1] [.ref s0] (T, I, J, R) Q = (T[s0]? = some (3, 3) ∧ Ex X d mX3_takeWhatDeedsChange 4 [.ref x0, .ref x1] [va_rf (R s0 0)] (T, I, J, R) Q)) ∧
  (∀ (X : tX) (d : Nat) (x0 : Nat) (x1 : Nat) (s0 : Nat) (σ : rS) (Q : tQ), Ex X d mX3_takeWhatDeedsChange 4 [.ref x0, .ref x1] [.ref s0] σ Q = Ex X d mX3_takeWhatDeedsChange 5 [.ref x0, .ref x1] [.int 0, .ref s0] σ Q) ∧
  (∀ (X : tX) (d : Nat) (x0 : Nat) (x1 : Nat) (s0 : Int32) (s1 : Nat) (σ : rS) (Q : tQ), Ex X d mX3_takeWhatDeedsChange 5 [.ref x0, .ref x1] [.int s0, .ref s1] σ Q = Ex X d mX3_takeWhatDeedsChange 6 [.ref x0, .ref x1] [.ref x0, .int s0, .ref s1] σ Q) ∧
  (∀ (X : tX) (d : Nat) (x0 : Nat) (x1 : Nat) (s0 : Nat) (s1 : Int32) (s2 : Nat) (T : tT) (I : tI) (J : tJ) (R : tR) (Q : tQ), Ex X d mX3_takeWhatDeedsChange 6 [.ref x0, .ref x1] [.ref s0, .int s1, .ref s2] (T, I, J, R) Q = (T[s0]? = some (3, 3) ∧ Ex X d mX3_takeWhatDeedsChange 9 [.ref x0, .ref x1] [va_rf (R s0 0), .int s1, .ref s2] (T, I, J, R) Q)) ∧
  (∀ (X : tX) (d : Nat) (x0 : Nat) (x1 : Nat) (s0 : Nat) (s1 : Int32) (s2 : Nat) (σ : rS) (Q : tQ), Ex X d mX3_takeWhatDeedsChange 9 [.ref x0, .ref x1] [.ref s0, .int s1, .ref s2] σ Q = Ex X d mX3_takeWhatDeedsChange 10 [.ref x0, .ref x1] [.int 0, .ref s0, .int s1, .ref s2] σ Q) ∧
  (∀ (X : tX) (d : Nat) (x0 : Nat) (x1 : Nat) (s0 : Int32) (s1 : Nat) (s2 : Int32) (s3 : Nat) (σ : rS) (Q : tQ), Ex X d mX3_takeWhatDeedsChange 10 [.ref x0, .ref x1] [.int s0, .ref s1, .int s2, .ref s3] σ Q = Ex X d mX3_takeWhatDeedsChange 11 [.ref x0, .ref x1] [.ref x1, .int s0, .ref s1, .int s2, .ref s3] σ Q) ∧
  (∀ (X : tX) (d : Nat) (x0 : Nat) (x1 : Nat) (s0 : Nat) (s1 : Int32) (s2 : Nat) (s3 : Int32) (s4 : Nat) (T : tT) (I : tI) (J : tJ) (R : tR) (Q : tQ), Ex X d mX3_takeWhatDeedsChange 11 [.ref x0, .ref x1] [.ref s0, .int s1, .ref s2, .int s3, .ref s4] (T, I, J, R) Q = (T[s0]? = some (3, 3) ∧ Ex X d mX3_takeWhatDeedsChange 14 [.ref x0, .ref x1] [.int (I s0 8), .int s1, .ref s2, .int s3, .ref s4] (T, I, J, R) Q)) ∧
  (∀ (X : tX) (d : Nat) (x0 : Nat) (x1 : Nat) (σ : rS) (Q : tQ), Ex X d mX3_takeWhatDeedsChange 17 [.ref x0, .ref x1] [] σ Q = Ex X d mX3_takeWhatDeedsChange 18 [.ref x0, .ref x1] [.ref x1] σ Q) ∧
  (∀ (X : tX) (d : Nat) (x0 : Nat) (x1 : Nat) (s0 : Nat) (T : tT) (I : tI) (J : tJ) (R : tR) (Q : tQ), Ex X d mX3_takeWhatDeedsChange 18 [.ref x0, .ref x1] [.ref s0] (T, I, J, R) Q = (T[s0]? = some (3, 3) ∧ Ex X d mX3_takeWhatDeedsChange 21 [.ref x0, .ref x1] [va_rf (R s0 2)] (T, I, J, R) Q)) ∧
  (∀ (X : tX) (d : Nat) (x0 : Nat) (x1 : Nat) (s0 : Nat) (σ : rS) (Q : tQ), Ex X d mX3_takeWhatDeedsChange 21 [.ref x0, .ref x1] [.ref s0] σ Q = Ex X d mX3_takeWhatDeedsChange 22 [.ref x0, .ref x1] [.int 0, .ref s0] σ Q) ∧
  (∀ (X : tX) (d : Nat) (x0 : Nat) (x1 : Nat) (s0 : Int32) (s1 : Nat) (σ : rS) (Q : tQ), Ex X d mX3_takeWhatDeedsChange 22 [.ref x0, .ref x1] [.int s0, .ref s1] σ Q = Ex X d mX3_takeWhatDeedsChange 23 [.ref x0, .ref x1] [.ref x0, .int s0, .ref s1] σ Q) ∧
  (∀ (X : tX) (d : Nat) (x0 : Nat) (x1 : Nat) (s0 : Nat) (s1 : Int32) (s2 : Nat) (T : tT) (I : tI) (J : tJ) (R : tR) (Q : tQ), Ex X d mX3_takeWhatDeedsChange 23 [.ref x0, .ref x1] [.ref s0, .int s1, .ref s2] (T, I, J, R) Q = (T[s0]? = some (3, 3) ∧ Ex X d mX3_takeWhatDeedsChange 26 [.ref x0, .ref x1] [va_rf (R s0 2), .int s1, .ref s2] (T, I, J, R) Q)) ∧
  (∀ (X : tX) (d : Nat) (x0 : Nat) (x1 : Nat) (s0 : Nat) (s1 : Int32) (s2 : Nat) (σ : rS) (Q : tQ), Ex X d mX3_takeWhatDeedsChange 26 [.ref x0, .ref x1] [.ref s0, .int s1, .ref s2] σ Q = Ex X d mX3_takeWhatDeedsChange 27 [.ref x0, .ref x1] [.int 0, .ref s0, .int s1, .ref s2] σ Q) ∧
  (∀ (X : tX) (d : Nat) (x0 : Nat) (x1 : Nat) (s0 : Int32) (s1 : Nat) (s2 : Int32) (s3 : Nat) (σ : rS) (Q : tQ), Ex X d mX3_takeWhatDeedsChange 27 [.ref x0, .ref x1] [.int s0, .ref s1, .int s2, .ref s3] σ Q = Ex X d mX3_takeWhatDeedsChange 28 [.ref x0, .ref x1] [.ref x1, .int s0, .ref s1, .int s2, .ref s3] σ Q) ∧
  (∀ (X : tX) (d : Nat) (x0 : Nat) (x1 : Nat) (s0 : Nat) (s1 : Int32) (s2 : Nat) (s3 : Int32) (s4 : Nat) (T : tT) (I : tI) (J : tJ) (R : tR) (Q : tQ), Ex X d mX3_takeWhatDeedsChange 28 [.ref x0, .ref x1] [.ref s0, .int s1, .ref s2, .int s3, .ref s4] (T, I, J, R) Q = (T[s0]? = some (3, 3) ∧ Ex X d mX3_takeWhatDeedsChange 31 [.ref x0, .ref x1] [.int (I s0 8), .int s1, .ref s2, .int s3, .ref s4] (T, I, J, R) Q)) ∧
  (∀ (X : tX) (d : Nat) (x0 : Nat) (x1 : Nat) (σ : rS) (Q : tQ), Ex X d mX3_takeWhatDeedsChange 34 [.ref x0, .ref x1] [] σ Q = Ex X d mX3_takeWhatDeedsChange 35 [.ref x0, .ref x1] [.ref x1] σ Q) ∧
  (∀ (X : tX) (d : Nat) (x0 : Nat) (x1 : Nat) (s0 : Nat) (T : tT) (I : tI) (J : tJ) (R : tR) (Q : tQ), Ex X d mX3_takeWhatDeedsChange 35 [.ref x0, .ref x1] [.ref s0] (T, I, J, R) Q = (T[s0]? = some (3, 3) ∧ Ex X d mX3_takeWhatDeedsChange 38 [.ref x0, .ref x1] [va_rf (R s0 3)] (T, I, J, R) Q)) ∧
  (∀ (X : tX) (d : Nat) (x0 : Nat) (x1 : Nat) (s0 : Nat) (σ : rS) (Q : tQ), Ex X d mX3_takeWhatDeedsChange 38 [.ref x0, .ref x1] [.ref s0] σ Q = Ex X d mX3_takeWhatDeedsChange 39 [.ref x0, .ref x1] [.int 0, .ref s0] σ Q) ∧
  (∀ (X : tX) (d : Nat) (x0 : Nat) (x1 : Nat) (s0 : Int32) (s1 : Nat) (σ : rS) (Q : tQ), Ex X d mX3_takeWhatDeedsChange 39 [.ref x0, .ref x1] [.int s0, .ref s1] σ Q = Ex X d mX3_takeWhatDeedsChange 40 [.ref x0, .ref x1] [.ref x0, .int s0, .ref s1] σ Q) ∧
  (∀ (X : tX) (d : Nat) (x0 : Nat) (x1 : Nat) (s0 : Nat) (s1 : Int32) (s2 : Nat) (T : tT) (I : tI) (J : tJ) (R : tR) (Q : tQ), Ex X d mX3_takeWhatDeedsChange 40 [.ref x0, .ref x1] [.ref s0, .int s1, .ref s2] (T, I, J, R) Q = (T[s0]? = some (3, 3) ∧ Ex X d mX3_takeWhatDeedsChange 43 [.ref x0, .ref x1] [va_rf (R s0 3), .int s1, .ref s2] (T, I, J, R) Q)) ∧
  (∀ (X : tX) (d : Nat) (x0 : Nat) (x1 : Nat) (s0 : Nat) (s1 : Int32) (s2 : Nat) (σ : rS) (Q : tQ), Ex X d mX3_takeWhatDeedsChange 43 [.ref x0, .ref x1] [.ref s0, .int s1, .ref s2] σ Q = Ex X d mX3_takeWhatDeedsChange 44 [.ref x0, .ref x1] [.int 0, .ref s0, .int s1, .ref s2] σ Q) ∧
  (∀ (X : tX) (d : Nat) (x0 : Nat) (x1 : Nat) (s0 : Int32) (s1 : Nat) (s2 : Int32) (s3 : Nat) (σ : rS) (Q : tQ), Ex X d mX3_takeWhatDeedsChange 44 [.ref x0, .ref x1] [.int s0, .ref s1, .int s2, .ref s3] σ Q = Ex X d mX3_takeWhatDeedsChange 45 [.ref x0, .ref x1] [.ref x1, .int s0, .ref s1, .int s2, .ref s3] σ Q) ∧
  (∀ (X : tX) (d : Nat) (x0 : Nat) (x1 : Nat) (s0 : Nat) (s1 : Int32) (s2 : Nat) (s3 : Int32) (s4 : Nat) (T : tT) (I : tI) (J : tJ) (R : tR) (Q : tQ), Ex X d mX3_takeWhatDeedsChange 45 [.ref x0, .ref x1] [.ref s0, .int s1, .ref s2, .int s3, .ref s4] (T, I, J, R) Q = (T[s0]? = some (3, 3) ∧ Ex X d mX3_takeWhatDeedsChange 48 [.ref x0, .ref x1] [.int (I s0 8), .int s1, .ref s2, .int s3, .ref s4] (T, I, J, R) Q)) ∧
  (∀ (X : tX) (d : Nat) (x0 : Nat) (x1 : Nat) (σ : rS) (Q : tQ), Ex X d mX3_takeWhatDeedsChange 51 [.ref x0, .ref x1] [] σ Q = Ex X d mX3_takeWhatDeedsChange 52 [.ref x0, .ref x1] [.ref x0] σ Q) ∧
  (∀ (X : tX) (d : Nat) (x0 : Nat) (x1 : Nat) (s0 : Nat) (σ : rS) (Q : tQ), Ex X d mX3_takeWhatDeedsChange 52 [.ref x0, .ref x1] [.ref s0] σ Q = Ex X d mX3_takeWhatDeedsChange 53 [.ref x0, .ref x1] [.ref x1, .ref s0] σ Q) ∧
  (∀ (X : tX) (d : Nat) (x0 : Nat) (x1 : Nat) (s0 : Nat) (s1 : Nat) (T : tT) (I : tI) (J : tJ) (R : tR) (Q : tQ), Ex X d mX3_takeWhatDeedsChange 53 [.ref x0, .ref x1] [.ref s0, .ref s1] (T, I, J, R) Q = (T[s0]? = some (3, 3) ∧ Ex X d mX3_takeWhatDeedsChange 56 [.ref x0, .ref x1] [.int (I s0 7), .ref s1] (T, I, J, R) Q)) ∧
  (∀ (X : tX) (d : Nat) (x0 : Nat) (x1 : Nat) (s0 : Int32) (s1 : Nat) (T : tT) (I : tI) (J : tJ) (R : tR) (Q : tQ), Ex X d mX3_takeWhatDeedsChange 56 [.ref x0, .ref x1] [.int s0, .ref s1] (T, I, J, R) Q = (T[s1]? = some (3, 3) ∧ Ex X d mX3_takeWhatDeedsChange 59 [.ref x0, .ref x1] [] (T, va_up I s1 (va_up (I s1) 7 s0), J, R) Q)) ∧
  (∀ (X : tX) (d : Nat) (x0 : Nat) (x1 : Nat) (σ : rS) (Q : tQ), Ex X d mX3_takeWhatDeedsChange 59 [.ref x0, .ref x1] [] σ Q = Q none σ) := ⟨fun X d x0 x1 σ Q => ex_P (i := .aload_n 1) (len := 1) (by decide +kernel) rfl,
  fun X d x0 x1 s0 T I J R Q => q_getR (k := 11) (by decide +kernel) rfl rfl,
  fun X d x0 x1 s0 σ Q => ex_P (i := .iconst 0) (len := 1) (by decide +kernel) rfl,
  fun X d x0 x1 s0 s1 σ Q => ex_P (i := .aload_n 0) (len := 1) (by decide +kernel) rfl,
  fun X d x0 x1 s0 s1 s2 T I J R Q => q_getR (k := 11) (by decide +kernel) rfl rfl,
  fun X d x0 x1 s0 s1 s2 σ Q => ex_P (i := .iconst 0) (len := 1) (by decide +kernel) rfl,
  fun X d x0 x1 s0 s1 s2 s3 σ Q => ex_P (i := .aload_n 1) (len := 1) (by decide +kernel) rfl,
  fun X d x0 x1 s0 s1 s2 s3 s4 T I J R Q => q_getI (k := 40) (by decide +kernel) rfl rfl (by decide),
  fun X d x0 x1 σ Q => ex_P (i := .aload_n 1) (len := 1) (by decide +kernel) rfl,
  fun X d x0 x1 s0 T I J R Q => q_getR (k := 18) (by decide +kernel) rfl rfl,
  fun X d x0 x1 s0 σ Q => ex_P (i := .iconst 0) (len := 1) (by decide +kernel) rfl,
  fun X d x0 x1 s0 s1 σ Q => ex_P (i := .aload_n 0) (len := 1) (by decide +kernel) rfl,
  fun X d x0 x1 s0 s1 s2 T I J R Q => q_getR (k := 18) (by decide +kernel) rfl rfl,
  fun X d x0 x1 s0 s1 s2 σ Q => ex_P (i := .iconst 0) (len := 1) (by decide +kernel) rfl,
  fun X d x0 x1 s0 s1 s2 s3 σ Q => ex_P (i := .aload_n 1) (len := 1) (by decide +kernel) rfl,
  fun X d x0 x1 s0 s1 s2 s3 s4 T I J R Q => q_getI (k := 40) (by decide +kernel) rfl rfl (by decide),
  fun X d x0 x1 σ Q => ex_P (i := .aload_n 1) (len := 1) (by decide +kernel) rfl,
  fun X d x0 x1 s0 T I J R Q => q_getR (k := 21) (by decide +kernel) rfl rfl,
  fun X d x0 x1 s0 σ Q => ex_P (i := .iconst 0) (len := 1) (by decide +kernel) rfl,
  fun X d x0 x1 s0 s1 σ Q => ex_P (i := .aload_n 0) (len := 1) (by decide +kernel) rfl,
  fun X d x0 x1 s0 s1 s2 T I J R Q => q_getR (k := 21) (by decide +kernel) rfl rfl,
  fun X d x0 x1 s0 s1 s2 σ Q => ex_P (i := .iconst 0) (len := 1) (by decide +kernel) rfl,
  fun X d x0 x1 s0 s1 s2 s3 σ Q => ex_P (i := .aload_n 1) (len := 1) (by decide +kernel) rfl,
  fun X d x0 x1 s0 s1 s2 s3 s4 T I J R Q => q_getI (k := 40) (by decide +kernel) rfl rfl (by decide),
  fun X d x0 x1 σ Q => ex_P (i := .aload_n 0) (len := 1) (by decide +kernel) rfl,
  fun X d x0 x1 s0 σ Q => ex_P (i := .aload_n 1) (len := 1) (by decide +kernel) rfl,
  fun X d x0 x1 s0 s1 T I J R Q => q_getI (k := 51) (by decide +kernel) rfl rfl (by decide),
  fun X d x0 x1 s0 s1 T I J R Q => q_putI (k := 51) (by decide +kernel) rfl rfl (by decide +kernel),
  fun X d x0 x1 σ Q => q_retV (by decide +kernel) rfl⟩
set_option maxRecDepth 50000 in
theorem gX3_pass_0 : (∀ (X : tX) (d : Nat) (x0 : Nat) (x1 : Int32) (x2 : Nat) (σ : rS) (Q : tQ), Ex X d mX3_pass 0 [.ref x0, .int x1, .ref x2, rU, rU, rU] [] σ Q = Ex X d mX3_pass 1 [.ref x0, .int x1, .ref x2, rU, rU, rU] [.int 0] σ Q) ∧
  (∀ (X : tX) (d : Nat) (x0 : Nat) (x1 : Int32) (x2 : Nat) (s0 : Int32) (σ : rS) (Q : tQ), Ex X d mX3_pass 1 [.ref x0, .int x1, .ref x2, rU, rU, rU] [.int s0] σ Q = Ex X d mX3_pass 2 [.ref x0, .int x1, .ref x2, .int s0, rU, rU] [] σ Q) := ⟨fun X d x0 x1 x2 σ Q => ex_P (i := .iconst 0) (len := 1) (by decide +kernel) rfl,
  fun X d x0 x1 x2 s0 σ Q => ex_P (i := .istore_n 3) (len := 1) (by decide +kernel) rfl⟩
set_option maxRecDepth 50000 in
theorem gX3_pass_2 : (∀ (X : tX) (d : Nat) (x0 : Nat) (x1 : Int32) (x2 : Nat) (x3 : Int32) (v4 : Value) (v5 : Value) (σ : rS) (Q : tQ), Ex X d mX3_pass 2 [.ref x0, .int x1, .ref x2, .int x3, v4, v5] [] σ Q = Ex X d mX3_pass 3 [.ref x0, .int x1, .ref x2, .int x3, v4, v5] [.int x3] σ Q) ∧
  (∀ (X : tX) (d : Nat) (x0 : Nat) (x1 : Int32) (x2 : Nat) (x3 : Int32) (v4 : Value) (v5 : Value) (s0 : Int32) (σ : rS) (Q : tQ), Ex X d mX3_pass 3 [.ref x0, .int x1, .ref x2, .int x3, v4, v5] [.int s0] σ Q = Ex X d mX3_pass 4 [.ref x0, .int x1, .ref x2, .int x3, v4, v5] [.int x1, .int s0] σ Q) ∧
  (∀ (X : tX) (d : Nat) (x0 : Nat) (x1 : Int32) (x2 : Nat) (x3 : Int32) (v4 : Value) (v5 : Value) (s0 : Int32) (s1 : Int32) (σ : rS) (Q : tQ), Ex X d mX3_pass 4 [.ref x0, .int x1, .ref x2, .int x3, v4, v5] [.int s0, .int s1] σ Q = (if s0 ≤ s1 then Ex X d mX3_pass 132 [.ref x0, .int x1, .ref x2, .int x3, v4, v5] [] σ Q else Ex X d mX3_pass 7 [.ref x0, .int x1, .ref x2, .int x3, v4, v5] [] σ Q)) := ⟨fun X d x0 x1 x2 x3 v4 v5 σ Q => ex_P (i := .iload_n 3) (len := 1) (by decide +kernel) rfl,
  fun X d x0 x1 x2 x3 v4 v5 s0 σ Q => ex_P (i := .iload_n 1) (len := 1) (by decide +kernel) rfl,
  fun X d x0 x1 x2 x3 v4 v5 s0 s1 σ Q => q_icmp_ge (o := 128) (by decide +kernel) rfl⟩
set_option maxRecDepth 50000 in
theorem gX3_pass_7 : (∀ (X : tX) (d : Nat) (x0 : Nat) (x1 : Int32) (x2 : Nat) (x3 : Int32) (v4 : Value) (v5 : Value) (σ : rS) (Q : tQ), Ex X d mX3_pass 7 [.ref x0, .int x1, .ref x2, .int x3, v4, v5] [] σ Q = Ex X d mX3_pass 8 [.ref x0, .int x1, .ref x2, .int x3, v4, v5] [.int 0] σ Q) ∧
  (∀ (X : tX) (d : Nat) (x0 : Nat) (x1 : Int32) (x2 : Nat) (x3 : Int32) (v4 : Value) (v5 : Value) (s0 : Int32) (σ : rS) (Q : tQ), Ex X d mX3_pass 8 [.ref x0, .int x1, .ref x2, .int x3, v4, v5] [.int s0] σ Q = Ex X d mX3_pass 10 [.ref x0, .int x1, .ref x2, .int x3, .int s0, v5] [] σ Q) := ⟨fun X d x0 x1 x2 x3 v4 v5 σ Q => ex_P (i := .iconst 0) (len := 1) (by decide +kernel) rfl,
  fun X d x0 x1 x2 x3 v4 v5 s0 σ Q => ex_P (i := .istore 4) (len := 2) (by decide +kernel) rfl⟩
set_option maxRecDepth 50000 in
theorem gX3_pass_10 : (∀ (X : tX) (d : Nat) (x0 : Nat) (x1 : Int32) (x2 : Nat) (x3 : Int32) (x4 : Int32) (v5 : Value) (σ : rS) (Q : tQ), Ex X d mX3_pass 10 [.ref x0, .int x1, .ref x2, .int x3, .int x4, v5] [] σ Q = Ex X d mX3_pass 12 [.ref x0, .int x1, .ref x2, .int x3, .int x4, v5] [.int x4] σ Q) ∧
  (∀ (X : tX) (d : Nat) (x0 : Nat) (x1 : Int32) (x2 : Nat) (x3 : Int32) (x4 : Int32) (v5 : Value) (s0 : Int32) (σ : rS) (Q : tQ), Ex X d mX3_pass 12 [.ref x0, .int x1, .ref x2, .int x3, .int x4, v5] [.int s0] σ Q = Ex X d mX3_pass 13 [.ref x0, .int x1, .ref x2, .int x3, .int x4, v5] [.ref x0, .int s0] σ Q) ∧
  (∀ (X : tX) (d : Nat) (x0 : Nat) (x1 : Int32) (x2 : Nat) (x3 : Int32) (x4 : Int32) (v5 : Value) (s0 : Nat) (s1 : Int32) (T : tT) (I : tI) (J : tJ) (R : tR) (Q : tQ), Ex X d mX3_pass 13 [.ref x0, .int x1, .ref x2, .int x3, .int x4, v5] [.ref s0, .int s1] (T, I, J, R) Q = (T[s0]? = some (3, 3) ∧ Ex X d mX3_pass 16 [.ref x0, .int x1, .ref x2, .int x3, .int x4, v5] [.int (I s0 8), .int s1] (T, I, J, R) Q)) ∧
  (∀ (X : tX) (d : Nat) (x0 : Nat) (x1 : Int32) (x2 : Nat) (x3 : Int32) (x4 : Int32) (v5 : Value) (s0 : Int32) (s1 : Int32) (σ : rS) (Q : tQ), Ex X d mX3_pass 16 [.ref x0, .int x1, .ref x2, .int x3, .int x4, v5] [.int s0, .int s1] σ Q = (if s0 ≤ s1 then Ex X d mX3_pass 39 [.ref x0, .int x1, .ref x2, .int x3, .int x4, v5] [] σ Q else Ex X d mX3_pass 19 [.ref x0, .int x1, .ref x2, .int x3, .int x4, v5] [] σ Q)) := ⟨fun X d x0 x1 x2 x3 x4 v5 σ Q => ex_P (i := .iload 4) (len := 2) (by decide +kernel) rfl,
  fun X d x0 x1 x2 x3 x4 v5 s0 σ Q => ex_P (i := .aload_n 0) (len := 1) (by decide +kernel) rfl,
  fun X d x0 x1 x2 x3 x4 v5 s0 s1 T I J R Q => q_getI (k := 40) (by decide +kernel) rfl rfl (by decide),
  fun X d x0 x1 x2 x3 x4 v5 s0 s1 σ Q => q_icmp_ge (o := 23) (by decide +kernel) rfl⟩
set_option maxRecDepth 50000 in
theorem gX3_pass_19 : (∀ (X : tX) (d : Nat) (x0 : Nat) (x1 : Int32) (x2 : Nat) (x3 : Int32) (x4 : Int32) (v5 : Value) (σ : rS) (Q : tQ), Ex X d mX3_pass 19 [.ref x0, .int x1, .ref x2, .int x3, .int x4, v5] [] σ Q = Ex X d mX3_pass 20 [.ref x0, .int x1, .ref x2, .int x3, .int x4, v5] [.ref x0] σ Q) ∧
  (∀ (X : tX) (d : Nat) (x0 : Nat) (x1 : Int32) (x2 : Nat) (x3 : Int32) (x4 : Int32) (v5 : Value) (s0 : Nat) (T : tT) (I : tI) (J : tJ) (R : tR) (Q : tQ), Ex X d mX3_pass 20 [.ref x0, .int x1, .ref x2, .int x3, .int x4, v5] [.ref s0] (T, I, J, R) Q = (T[s0]? = some (3, 3) ∧ Ex X d mX3_pass 23 [.ref x0, .int x1, .ref x2, .int x3, .int x4, v5] [va_rf (R s0 5)] (T, I, J, R) Q)) ∧
  (∀ (X : tX) (d : Nat) (x0 : Nat) (x1 : Int32) (x2 : Nat) (x3 : Int32) (x4 : Int32) (v5 : Value) (s0 : Nat) (σ : rS) (Q : tQ), Ex X d mX3_pass 23 [.ref x0, .int x1, .ref x2, .int x3, .int x4, v5] [.ref s0] σ Q = Ex X d mX3_pass 25 [.ref x0, .int x1, .ref x2, .int x3, .int x4, v5] [.int x4, .ref s0] σ Q) ∧
  (∀ (X : tX) (d : Nat) (x0 : Nat) (x1 : Int32) (x2 : Nat) (x3 : Int32) (x4 : Int32) (v5 : Value) (s0 : Int32) (s1 : Nat) (σ : rS) (Q : tQ), Ex X d mX3_pass 25 [.ref x0, .int x1, .ref x2, .int x3, .int x4, v5] [.int s0, .ref s1] σ Q = Ex X d mX3_pass 26 [.ref x0, .int x1, .ref x2, .int x3, .int x4, v5] [.ref x2, .int s0, .ref s1] σ Q) ∧
  (∀ (X : tX) (d : Nat) (x0 : Nat) (x1 : Int32) (x2 : Nat) (x3 : Int32) (x4 : Int32) (v5 : Value) (s0 : Nat) (s1 : Int32) (s2 : Nat) (σ : rS) (Q : tQ), Ex X d mX3_pass 26 [.ref x0, .int x1, .ref x2, .int x3, .int x4, v5] [.ref s0, .int s1, .ref s2] σ Q = Ex X d mX3_pass 27 [.ref x0, .int x1, .ref x2, .int x3, .int x4, v5] [.ref x0, .ref s0, .int s1, .ref s2] σ Q) ∧
  (∀ (X : tX) (d : Nat) (x0 : Nat) (x1 : Int32) (x2 : Nat) (x3 : Int32) (x4 : Int32) (v5 : Value) (s0 : Nat) (s1 : Nat) (s2 : Int32) (s3 : Nat) (σ : rS) (Q : tQ), Ex X d mX3_pass 27 [.ref x0, .int x1, .ref x2, .int x3, .int x4, v5] [.ref s0, .ref s1, .int s2, .ref s3] σ Q = Ex X d mX3_pass 29 [.ref x0, .int x1, .ref x2, .int x3, .int x4, v5] [.int x4, .ref s0, .ref s1, .int s2, .ref s3] σ Q) ∧
  (∀ (X : tX) (d : Nat) (x0 : Nat) (x1 : Int32) (x2 : Nat) (x3 : Int32) (x4 : Int32) (v5 : Value) (s0 : Int32) (s1 : Nat) (s2 : Nat) (s3 : Int32) (s4 : Nat) (T : tT) (I : tI) (J : tJ) (R : tR) (Q : tQ), Ex X (d + 1) mX3_pass 29 [.ref x0, .int x1, .ref x2, .int x3, .int x4, v5] [.int s0, .ref s1, .ref s2, .int s3, .ref s4] (T, I, J, R) Q = (T[s2]? = some (3, 1) ∧ Ex X d mX1_outOf 0 [.ref s2, .ref s1, .int s0, rU] [] (T, I, J, R) (fun v σ1 => Ex X (d + 1) mX3_pass 32 [.ref x0, .int x1, .ref x2, .int x3, .int x4, v5] (v.toList ++ [.int s3, .ref s4]) σ1 Q))) := ⟨fun X d x0 x1 x2 x3 x4 v5 σ Q => ex_P (i := .aload_n 0) (len := 1) (by decide +kernel) rfl,
  fun X d x0 x1 x2 x3 x4 v5 s0 T I J R Q => q_getR (k := 27) (by decide +kernel) rfl rfl,
  fun X d x0 x1 x2 x3 x4 v5 s0 σ Q => ex_P (i := .iload 4) (len := 2) (by decide +kernel) rfl,
  fun X d x0 x1 x2 x3 x4 v5 s0 s1 σ Q => ex_P (i := .aload_n 2) (len := 1) (by decide +kernel) rfl,
  fun X d x0 x1 x2 x3 x4 v5 s0 s1 s2 σ Q => ex_P (i := .aload_n 0) (len := 1) (by decide +kernel) rfl,
  fun X d x0 x1 x2 x3 x4 v5 s0 s1 s2 s3 σ Q => ex_P (i := .iload 4) (len := 2) (by decide +kernel) rfl,
  fun X d x0 x1 x2 x3 x4 v5 s0 s1 s2 s3 s4 T I J R Q => q_callV (k := 71) (as := [.ref s1, .int s0]) (st := [.int s3, .ref s4]) (show rlk mX3_pass.2.2.2.2.2.2 29 = some (.invokevirtual 71, 3) from by decide +kernel) rfl rfl rfl (Nat.le_of_ble_eq_true rfl) (Nat.le_of_ble_eq_true rfl) rfl⟩
set_option maxRecDepth 50000 in
theorem gX3_pass_32 : (∀ (X : tX) (d : Nat) (x0 : Nat) (x1 : Int32) (x2 : Nat) (x3 : Int32) (x4 : Int32) (v5 : Value) (s0 : Int32) (s1 : Int32) (s2 : Nat) (T : tT) (I : tI) (J : tJ) (R : tR) (Q : tQ), Ex X d mX3_pass 32 [.ref x0, .int x1, .ref x2, .int x3, .int x4, v5] [.int s0, .int s1, .ref s2] (T, I, J, R) Q = (rIn T s2 0 s1 ∧ Ex X d mX3_pass 33 [.ref x0, .int x1, .ref x2, .int x3, .int x4, v5] [] (T, va_up I s2 (va_up (I s2) s1.toNatClampNeg s0), J, R) Q)) ∧
  (∀ (X : tX) (d : Nat) (x0 : Nat) (x1 : Int32) (x2 : Nat) (x3 : Int32) (x4 : Int32) (v5 : Value) (σ : rS) (Q : tQ), Ex X d mX3_pass 33 [.ref x0, .int x1, .ref x2, .int x3, .int x4, v5] [] σ Q = Ex X d mX3_pass 36 [.ref x0, .int x1, .ref x2, .int x3, .int (x4 + 1), v5] [] σ Q) ∧
  (∀ (X : tX) (d : Nat) (x0 : Nat) (x1 : Int32) (x2 : Nat) (x3 : Int32) (x4 : Int32) (v5 : Value) (σ : rS) (Q : tQ), Ex X d mX3_pass 36 [.ref x0, .int x1, .ref x2, .int x3, .int x4, v5] [] σ Q = Ex X d mX3_pass 10 [.ref x0, .int x1, .ref x2, .int x3, .int x4, v5] [] σ Q) := ⟨fun X d x0 x1 x2 x3 x4 v5 s0 s1 s2 T I J R Q => q_iast (by decide +kernel),
  fun X d x0 x1 x2 x3 x4 v5 σ Q => ex_P (i := .iinc 4 1) (len := 3) (by decide +kernel) rfl,
  fun X d x0 x1 x2 x3 x4 v5 σ Q => q_goto (o := (-26)) (by decide +kernel) rfl⟩
set_option maxRecDepth 50000 in
theorem gX3_pass_39 : (∀ (X : tX) (d : Nat) (x0 : Nat) (x1 : Int32) (x2 : Nat) (x3 : Int32) (x4 : Int32) (v5 : Value) (σ : rS) (Q : tQ), Ex X d mX3_pass 39 [.ref x0, .int x1, .ref x2, .int x3, .int x4, v5] [] σ Q = Ex X d mX3_pass 40 [.ref x0, .int x1, .ref x2, .int x3, .int x4, v5] [.ref x0] σ Q) ∧
  (∀ (X : tX) (d : Nat) (x0 : Nat) (x1 : Int32) (x2 : Nat) (x3 : Int32) (x4 : Int32) (v5 : Value) (s0 : Nat) (T : tT) (I : tI) (J : tJ) (R : tR) (Q : tQ), Ex X d mX3_pass 40 [.ref x0, .int x1, .ref x2, .int x3, .int x4, v5] [.ref s0] (T, I, J, R) Q = (T[s0]? = some (3, 3) ∧ Ex X d mX3_pass 43 [.ref x0, .int x1, .ref x2, .int x3, .int x4, v5] [.int (I s0 6)] (T, I, J, R) Q)) ∧
  (∀ (X : tX) (d : Nat) (x0 : Nat) (x1 : Int32) (x2 : Nat) (x3 : Int32) (x4 : Int32) (v5 : Value) (s0 : Int32) (σ : rS) (Q : tQ), Ex X d mX3_pass 43 [.ref x0, .int x1, .ref x2, .int x3, .int x4, v5] [.int s0] σ Q = Ex X d mX3_pass 45 [.ref x0, .int x1, .ref x2, .int x3, .int s0, v5] [] σ Q) ∧
  (∀ (X : tX) (d : Nat) (x0 : Nat) (x1 : Int32) (x2 : Nat) (x3 : Int32) (x4 : Int32) (v5 : Value) (σ : rS) (Q : tQ), Ex X d mX3_pass 45 [.ref x0, .int x1, .ref x2, .int x3, .int x4, v5] [] σ Q = Ex X d mX3_pass 46 [.ref x0, .int x1, .ref x2, .int x3, .int x4, v5] [.int 0] σ Q) ∧
  (∀ (X : tX) (d : Nat) (x0 : Nat) (x1 : Int32) (x2 : Nat) (x3 : Int32) (x4 : Int32) (v5 : Value) (s0 : Int32) (σ : rS) (Q : tQ), Ex X d mX3_pass 46 [.ref x0, .int x1, .ref x2, .int x3, .int x4, v5] [.int s0] σ Q = Ex X d mX3_pass 48 [.ref x0, .int x1, .ref x2, .int x3, .int x4, .int s0] [] σ Q) := ⟨fun X d x0 x1 x2 x3 x4 v5 σ Q => ex_P (i := .aload_n 0) (len := 1) (by decide +kernel) rfl,
  fun X d x0 x1 x2 x3 x4 v5 s0 T I J R Q => q_getI (k := 30) (by decide +kernel) rfl rfl (by decide),
  fun X d x0 x1 x2 x3 x4 v5 s0 σ Q => ex_P (i := .istore 4) (len := 2) (by decide +kernel) rfl,
  fun X d x0 x1 x2 x3 x4 v5 σ Q => ex_P (i := .iconst 0) (len := 1) (by decide +kernel) rfl,
  fun X d x0 x1 x2 x3 x4 v5 s0 σ Q => ex_P (i := .istore 5) (len := 2) (by decide +kernel) rfl⟩
set_option maxRecDepth 50000 in
theorem gX3_pass_48 : (∀ (X : tX) (d : Nat) (x0 : Nat) (x1 : Int32) (x2 : Nat) (x3 : Int32) (x4 : Int32) (x5 : Int32) (σ : rS) (Q : tQ), Ex X d mX3_pass 48 [.ref x0, .int x1, .ref x2, .int x3, .int x4, .int x5] [] σ Q = Ex X d mX3_pass 50 [.ref x0, .int x1, .ref x2, .int x3, .int x4, .int x5] [.int x5] σ Q) ∧
  (∀ (X : tX) (d : Nat) (x0 : Nat) (x1 : Int32) (x2 : Nat) (x3 : Int32) (x4 : Int32) (x5 : Int32) (s0 : Int32) (σ : rS) (Q : tQ), Ex X d mX3_pass 50 [.ref x0, .int x1, .ref x2, .int x3, .int x4, .int x5] [.int s0] σ Q = Ex X d mX3_pass 51 [.ref x0, .int x1, .ref x2, .int x3, .int x4, .int x5] [.ref x0, .int s0] σ Q) ∧
  (∀ (X : tX) (d : Nat) (x0 : Nat) (x1 : Int32) (x2 : Nat) (x3 : Int32) (x4 : Int32) (x5 : Int32) (s0 : Nat) (s1 : Int32) (T : tT) (I : tI) (J : tJ) (R : tR) (Q : tQ), Ex X d mX3_pass 51 [.ref x0, .int x1, .ref x2, .int x3, .int x4, .int x5] [.ref s0, .int s1] (T, I, J, R) Q = (T[s0]? = some (3, 3) ∧ Ex X d mX3_pass 54 [.ref x0, .int x1, .ref x2, .int x3, .int x4, .int x5] [.int (I s0 8), .int s1] (T, I, J, R) Q)) ∧
  (∀ (X : tX) (d : Nat) (x0 : Nat) (x1 : Int32) (x2 : Nat) (x3 : Int32) (x4 : Int32) (x5 : Int32) (s0 : Int32) (s1 : Int32) (σ : rS) (Q : tQ), Ex X d mX3_pass 54 [.ref x0, .int x1, .ref x2, .int x3, .int x4, .int x5] [.int s0, .int s1] σ Q = (if s0 ≤ s1 then Ex X d mX3_pass 113 [.ref x0, .int x1, .ref x2, .int x3, .int x4, .int x5] [] σ Q else Ex X d mX3_pass 57 [.ref x0, .int x1, .ref x2, .int x3, .int x4, .int x5] [] σ Q)) := ⟨fun X d x0 x1 x2 x3 x4 x5 σ Q => ex_P (i := .iload 5) (len := 2) (by decide +kernel) rfl,
  fun X d x0 x1 x2 x3 x4 x5 s0 σ Q => ex_P (i := .aload_n 0) (len := 1) (by decide +kernel) rfl,
  fun X d x0 x1 x2 x3 x4 x5 s0 s1 T I J R Q => q_getI (k := 40) (by decide +kernel) rfl rfl (by decide),
  fun X d x0 x1 x2 x3 x4 x5 s0 s1 σ Q => q_icmp_ge (o := 59) (by decide +kernel) rfl⟩
set_option maxRecDepth 50000 in
theorem gX3_pass_57 : (∀ (X : tX) (d : Nat) (x0 : Nat) (x1 : Int32) (x2 : Nat) (x3 : Int32) (x4 : Int32) (x5 : Int32) (σ : rS) (Q : tQ), Ex X d mX3_pass 57 [.ref x0, .int x1, .ref x2, .int x3, .int x4, .int x5] [] σ Q = Ex X d mX3_pass 58 [.ref x0, .int x1, .ref x2, .int x3, .int x4, .int x5] [.ref x0] σ Q) ∧
  (∀ (X : tX) (d : Nat) (x0 : Nat) (x1 : Int32) (x2 : Nat) (x3 : Int32) (x4 : Int32) (x5 : Int32) (s0 : Nat) (T : tT) (I : tI) (J : tJ) (R : tR) (Q : tQ), Ex X d mX3_pass 58 [.ref x0, .int x1, .ref x2, .int x3, .int x4, .int x5] [.ref s0] (T, I, J, R) Q = (T[s0]? = some (3, 3) ∧ Ex X d mX3_pass 61 [.ref x0, .int x1, .ref x2, .int x3, .int x4, .int x5] [va_rf (R s0 0)] (T, I, J, R) Q)) ∧
  (∀ (X : tX) (d : Nat) (x0 : Nat) (x1 : Int32) (x2 : Nat) (x3 : Int32) (x4 : Int32) (x5 : Int32) (s0 : Nat) (σ : rS) (Q : tQ), Ex X d mX3_pass 61 [.ref x0, .int x1, .ref x2, .int x3, .int x4, .int x5] [.ref s0] σ Q = Ex X d mX3_pass 63 [.ref x0, .int x1, .ref x2, .int x3, .int x4, .int x5] [.int x5, .ref s0] σ Q) ∧
  (∀ (X : tX) (d : Nat) (x0 : Nat) (x1 : Int32) (x2 : Nat) (x3 : Int32) (x4 : Int32) (x5 : Int32) (s0 : Int32) (s1 : Nat) (σ : rS) (Q : tQ), Ex X d mX3_pass 63 [.ref x0, .int x1, .ref x2, .int x3, .int x4, .int x5] [.int s0, .ref s1] σ Q = Ex X d mX3_pass 64 [.ref x0, .int x1, .ref x2, .int x3, .int x4, .int x5] [.ref x0, .int s0, .ref s1] σ Q) ∧
  (∀ (X : tX) (d : Nat) (x0 : Nat) (x1 : Int32) (x2 : Nat) (x3 : Int32) (x4 : Int32) (x5 : Int32) (s0 : Nat) (s1 : Int32) (s2 : Nat) (T : tT) (I : tI) (J : tJ) (R : tR) (Q : tQ), Ex X d mX3_pass 64 [.ref x0, .int x1, .ref x2, .int x3, .int x4, .int x5] [.ref s0, .int s1, .ref s2] (T, I, J, R) Q = (T[s0]? = some (3, 3) ∧ Ex X d mX3_pass 67 [.ref x0, .int x1, .ref x2, .int x3, .int x4, .int x5] [va_rf (R s0 0), .int s1, .ref s2] (T, I, J, R) Q)) ∧
  (∀ (X : tX) (d : Nat) (x0 : Nat) (x1 : Int32) (x2 : Nat) (x3 : Int32) (x4 : Int32) (x5 : Int32) (s0 : Nat) (s1 : Int32) (s2 : Nat) (σ : rS) (Q : tQ), Ex X d mX3_pass 67 [.ref x0, .int x1, .ref x2, .int x3, .int x4, .int x5] [.ref s0, .int s1, .ref s2] σ Q = Ex X d mX3_pass 69 [.ref x0, .int x1, .ref x2, .int x3, .int x4, .int x5] [.int x5, .ref s0, .int s1, .ref s2] σ Q) ∧
  (∀ (X : tX) (d : Nat) (x0 : Nat) (x1 : Int32) (x2 : Nat) (x3 : Int32) (x4 : Int32) (x5 : Int32) (s0 : Int32) (s1 : Nat) (s2 : Int32) (s3 : Nat) (T : tT) (I : tI) (J : tJ) (R : tR) (Q : tQ), Ex X d mX3_pass 69 [.ref x0, .int x1, .ref x2, .int x3, .int x4, .int x5] [.int s0, .ref s1, .int s2, .ref s3] (T, I, J, R) Q = (rIn T s1 0 s0 ∧ Ex X d mX3_pass 70 [.ref x0, .int x1, .ref x2, .int x3, .int x4, .int x5] [.int (I s1 s0.toNatClampNeg), .int s2, .ref s3] (T, I, J, R) Q)) ∧
  (∀ (X : tX) (d : Nat) (x0 : Nat) (x1 : Int32) (x2 : Nat) (x3 : Int32) (x4 : Int32) (x5 : Int32) (s0 : Int32) (s1 : Int32) (s2 : Nat) (σ : rS) (Q : tQ), Ex X d mX3_pass 70 [.ref x0, .int x1, .ref x2, .int x3, .int x4, .int x5] [.int s0, .int s1, .ref s2] σ Q = Ex X d mX3_pass 71 [.ref x0, .int x1, .ref x2, .int x3, .int x4, .int x5] [.ref x0, .int s0, .int s1, .ref s2] σ Q) ∧
  (∀ (X : tX) (d : Nat) (x0 : Nat) (x1 : Int32) (x2 : Nat) (x3 : Int32) (x4 : Int32) (x5 : Int32) (s0 : Nat) (s1 : Int32) (s2 : Int32) (s3 : Nat) (T : tT) (I : tI) (J : tJ) (R : tR) (Q : tQ), Ex X d mX3_pass 71 [.ref x0, .int x1, .ref x2, .int x3, .int x4, .int x5] [.ref s0, .int s1, .int s2, .ref s3] (T, I, J, R) Q = (T[s0]? = some (3, 3) ∧ Ex X d mX3_pass 74 [.ref x0, .int x1, .ref x2, .int x3, .int x4, .int x5] [va_rf (R s0 4), .int s1, .int s2, .ref s3] (T, I, J, R) Q)) ∧
  (∀ (X : tX) (d : Nat) (x0 : Nat) (x1 : Int32) (x2 : Nat) (x3 : Int32) (x4 : Int32) (x5 : Int32) (s0 : Nat) (s1 : Int32) (s2 : Int32) (s3 : Nat) (σ : rS) (Q : tQ), Ex X d mX3_pass 74 [.ref x0, .int x1, .ref x2, .int x3, .int x4, .int x5] [.ref s0, .int s1, .int s2, .ref s3] σ Q = Ex X d mX3_pass 75 [.ref x0, .int x1, .ref x2, .int x3, .int x4, .int x5] [.ref x0, .ref s0, .int s1, .int s2, .ref s3] σ Q) ∧
  (∀ (X : tX) (d : Nat) (x0 : Nat) (x1 : Int32) (x2 : Nat) (x3 : Int32) (x4 : Int32) (x5 : Int32) (s0 : Nat) (s1 : Nat) (s2 : Int32) (s3 : Int32) (s4 : Nat) (T : tT) (I : tI) (J : tJ) (R : tR) (Q : tQ), Ex X d mX3_pass 75 [.ref x0, .int x1, .ref x2, .int x3, .int x4, .int x5] [.ref s0, .ref s1, .int s2, .int s3, .ref s4] (T, I, J, R) Q = (T[s0]? = some (3, 3) ∧ Ex X d mX3_pass 78 [.ref x0, .int x1, .ref x2, .int x3, .int x4, .int x5] [.int (I s0 7), .ref s1, .int s2, .int s3, .ref s4] (T, I, J, R) Q)) ∧
  (∀ (X : tX) (d : Nat) (x0 : Nat) (x1 : Int32) (x2 : Nat) (x3 : Int32) (x4 : Int32) (x5 : Int32) (s0 : Int32) (s1 : Nat) (s2 : Int32) (s3 : Int32) (s4 : Nat) (T : tT) (I : tI) (J : tJ) (R : tR) (Q : tQ), Ex X d mX3_pass 78 [.ref x0, .int x1, .ref x2, .int x3, .int x4, .int x5] [.int s0, .ref s1, .int s2, .int s3, .ref s4] (T, I, J, R) Q = (rIn T s1 0 s0 ∧ Ex X d mX3_pass 79 [.ref x0, .int x1, .ref x2, .int x3, .int x4, .int x5] [.int (I s1 s0.toNatClampNeg), .int s2, .int s3, .ref s4] (T, I, J, R) Q)) ∧
  (∀ (X : tX) (d : Nat) (x0 : Nat) (x1 : Int32) (x2 : Nat) (x3 : Int32) (x4 : Int32) (x5 : Int32) (s0 : Int32) (s1 : Int32) (s2 : Int32) (s3 : Nat) (σ : rS) (Q : tQ), Ex X d mX3_pass 79 [.ref x0, .int x1, .ref x2, .int x3, .int x4, .int x5] [.int s0, .int s1, .int s2, .ref s3] σ Q = Ex X d mX3_pass 80 [.ref x0, .int x1, .ref x2, .int x3, .int x4, .int x5] [.int (s1 + s0), .int s2, .ref s3] σ Q) ∧
  (∀ (X : tX) (d : Nat) (x0 : Nat) (x1 : Int32) (x2 : Nat) (x3 : Int32) (x4 : Int32) (x5 : Int32) (s0 : Int32) (s1 : Int32) (s2 : Nat) (σ : rS) (Q : tQ), Ex X d mX3_pass 80 [.ref x0, .int x1, .ref x2, .int x3, .int x4, .int x5] [.int s0, .int s1, .ref s2] σ Q = Ex X d mX3_pass 82 [.ref x0, .int x1, .ref x2, .int x3, .int x4, .int x5] [.int x4, .int s0, .int s1, .ref s2] σ Q) ∧
  (∀ (X : tX) (d : Nat) (x0 : Nat) (x1 : Int32) (x2 : Nat) (x3 : Int32) (x4 : Int32) (x5 : Int32) (s0 : Int32) (s1 : Int32) (s2 : Int32) (s3 : Nat) (σ : rS) (Q : tQ), Ex X d mX3_pass 82 [.ref x0, .int x1, .ref x2, .int x3, .int x4, .int x5] [.int s0, .int s1, .int s2, .ref s3] σ Q = Ex X d mX3_pass 83 [.ref x0, .int x1, .ref x2, .int x3, .int x4, .int x5] [.int (s1 + s0), .int s2, .ref s3] σ Q) ∧
  (∀ (X : tX) (d : Nat) (x0 : Nat) (x1 : Int32) (x2 : Nat) (x3 : Int32) (x4 : Int32) (x5 : Int32) (s0 : Int32) (s1 : Int32) (s2 : Nat) (σ : rS) (Q : tQ), Ex X d mX3_pass 83 [.ref x0, .int x1, .ref x2, .int x3, .int x4, .int x5] [.int s0, .int s1, .ref s2] σ Q = Ex X d mX3_pass 84 [.ref x0, .int x1, .ref x2, .int x3, .int x4, .int x5] [.ref x0, .int s0, .int s1, .ref s2] σ Q) ∧
  (∀ (X : tX) (d : Nat) (x0 : Nat) (x1 : Int32) (x2 : Nat) (x3 : Int32) (x4 : Int32) (x5 : Int32) (s0 : Nat) (s1 : Int32) (s2 : Int32) (s3 : Nat) (T : tT) (I : tI) (J : tJ) (R : tR) (Q : tQ), Ex X d mX3_pass 84 [.ref x0, .int x1, .ref x2, .int x3, .int x4, .int x5] [.ref s0, .int s1, .int s2, .ref s3] (T, I, J, R) Q = (T[s0]? = some (3, 3) ∧ Ex X d mX3_pass 87 [.ref x0, .int x1, .ref x2, .int x3, .int x4, .int x5] [va_rf (R s0 5), .int s1, .int s2, .ref s3] (T, I, J, R) Q)) ∧
  (∀ (X : tX) (d : Nat) (x0 : Nat) (x1 : Int32) (x2 : Nat) (x3 : Int32) (x4 : Int32) (x5 : Int32) (s0 : Nat) (s1 : Int32) (s2 : Int32) (s3 : Nat) (σ : rS) (Q : tQ), Ex X d mX3_pass 87 [.ref x0, .int x1, .ref x2, .int x3, .int x4, .int x5] [.ref s0, .int s1, .int s2, .ref s3] σ Q = Ex X d mX3_pass 89 [.ref x0, .int x1, .ref x2, .int x3, .int x4, .int x5] [.int x5, .ref s0, .int s1, .int s2, .ref s3] σ Q) ∧
  (∀ (X : tX) (d : Nat) (x0 : Nat) (x1 : Int32) (x2 : Nat) (x3 : Int32) (x4 : Int32) (x5 : Int32) (s0 : Int32) (s1 : Nat) (s2 : Int32) (s3 : Int32) (s4 : Nat) (T : tT) (I : tI) (J : tJ) (R : tR) (Q : tQ), Ex X d mX3_pass 89 [.ref x0, .int x1, .ref x2, .int x3, .int x4, .int x5] [.int s0, .ref s1, .int s2, .int s3, .ref s4] (T, I, J, R) Q = (rIn T s1 0 s0 ∧ Ex X d mX3_pass 90 [.ref x0, .int x1, .ref x2, .int x3, .int x4, .int x5] [.int (I s1 s0.toNatClampNeg), .int s2, .int s3, .ref s4] (T, I, J, R) Q)) ∧
  (∀ (X : tX) (d : Nat) (x0 : Nat) (x1 : Int32) (x2 : Nat) (x3 : Int32) (x4 : Int32) (x5 : Int32) (s0 : Int32) (s1 : Int32) (s2 : Int32) (s3 : Nat) (σ : rS) (Q : tQ), Ex X d mX3_pass 90 [.ref x0, .int x1, .ref x2, .int x3, .int x4, .int x5] [.int s0, .int s1, .int s2, .ref s3] σ Q = Ex X d mX3_pass 91 [.ref x0, .int x1, .ref x2, .int x3, .int x4, .int x5] [.int (s1 - s0), .int s2, .ref s3] σ Q) ∧
  (∀ (X : tX) (d : Nat) (x0 : Nat) (x1 : Int32) (x2 : Nat) (x3 : Int32) (x4 : Int32) (x5 : Int32) (s0 : Int32) (s1 : Int32) (s2 : Nat) (σ : rS) (Q : tQ), Ex X d mX3_pass 91 [.ref x0, .int x1, .ref x2, .int x3, .int x4, .int x5] [.int s0, .int s1, .ref s2] σ Q = Ex X d mX3_pass 92 [.ref x0, .int x1, .ref x2, .int x3, .int x4, .int x5] [.int 0, .int s0, .int s1, .ref s2] σ Q) ∧
  (∀ (X : tX) (d : Nat) (x0 : Nat) (x1 : Int32) (x2 : Nat) (x3 : Int32) (x4 : Int32) (x5 : Int32) (s0 : Int32) (s1 : Int32) (s2 : Int32) (s3 : Nat) (σ : rS) (Q : tQ), Ex X d mX3_pass 92 [.ref x0, .int x1, .ref x2, .int x3, .int x4, .int x5] [.int s0, .int s1, .int s2, .ref s3] σ Q = Ex X d mX3_pass 94 [.ref x0, .int x1, .ref x2, .int x3, .int x4, .int x5] [.int 99, .int s0, .int s1, .int s2, .ref s3] σ Q) ∧
  (∀ (X : tX) (d : Nat) (x0 : Nat) (x1 : Int32) (x2 : Nat) (x3 : Int32) (x4 : Int32) (x5 : Int32) (s0 : Int32) (s1 : Int32) (s2 : Int32) (s3 : Int32) (s4 : Nat) (σ : rS) (Q : tQ), Ex X (d + 1) mX3_pass 94 [.ref x0, .int x1, .ref x2, .int x3, .int x4, .int x5] [.int s0, .int s1, .int s2, .int s3, .ref s4] σ Q = Ex X d mX6_within 0 [.int s2, .int s1, .int s0] [] σ (fun v σ1 => Ex X (d + 1) mX3_pass 97 [.ref x0, .int x1, .ref x2, .int x3, .int x4, .int x5] (v.toList ++ [.int s3, .ref s4]) σ1 Q)) := ⟨fun X d x0 x1 x2 x3 x4 x5 σ Q => ex_P (i := .aload_n 0) (len := 1) (by decide +kernel) rfl,
  fun X d x0 x1 x2 x3 x4 x5 s0 T I J R Q => q_getR (k := 11) (by decide +kernel) rfl rfl,
  fun X d x0 x1 x2 x3 x4 x5 s0 σ Q => ex_P (i := .iload 5) (len := 2) (by decide +kernel) rfl,
  fun X d x0 x1 x2 x3 x4 x5 s0 s1 σ Q => ex_P (i := .aload_n 0) (len := 1) (by decide +kernel) rfl,
  fun X d x0 x1 x2 x3 x4 x5 s0 s1 s2 T I J R Q => q_getR (k := 11) (by decide +kernel) rfl rfl,
  fun X d x0 x1 x2 x3 x4 x5 s0 s1 s2 σ Q => ex_P (i := .iload 5) (len := 2) (by decide +kernel) rfl,
  fun X d x0 x1 x2 x3 x4 x5 s0 s1 s2 s3 T I J R Q => q_iald (by decide +kernel),
  fun X d x0 x1 x2 x3 x4 x5 s0 s1 s2 σ Q => ex_P (i := .aload_n 0) (len := 1) (by decide +kernel) rfl,
  fun X d x0 x1 x2 x3 x4 x5 s0 s1 s2 s3 T I J R Q => q_getR (k := 24) (by decide +kernel) rfl rfl,
  fun X d x0 x1 x2 x3 x4 x5 s0 s1 s2 s3 σ Q => ex_P (i := .aload_n 0) (len := 1) (by decide +kernel) rfl,
  fun X d x0 x1 x2 x3 x4 x5 s0 s1 s2 s3 s4 T I J R Q => q_getI (k := 51) (by decide +kernel) rfl rfl (by decide),
  fun X d x0 x1 x2 x3 x4 x5 s0 s1 s2 s3 s4 T I J R Q => q_iald (by decide +kernel),
  fun X d x0 x1 x2 x3 x4 x5 s0 s1 s2 s3 σ Q => ex_P (i := .iadd) (len := 1) (by decide +kernel) rfl,
  fun X d x0 x1 x2 x3 x4 x5 s0 s1 s2 σ Q => ex_P (i := .iload 4) (len := 2) (by decide +kernel) rfl,
  fun X d x0 x1 x2 x3 x4 x5 s0 s1 s2 s3 σ Q => ex_P (i := .iadd) (len := 1) (by decide +kernel) rfl,
  fun X d x0 x1 x2 x3 x4 x5 s0 s1 s2 σ Q => ex_P (i := .aload_n 0) (len := 1) (by decide +kernel) rfl,
  fun X d x0 x1 x2 x3 x4 x5 s0 s1 s2 s3 T I J R Q => q_getR (k := 27) (by decide +kernel) rfl rfl,
  fun X d x0 x1 x2 x3 x4 x5 s0 s1 s2 s3 σ Q => ex_P (i := .iload 5) (len := 2) (by decide +kernel) rfl,
  fun X d x0 x1 x2 x3 x4 x5 s0 s1 s2 s3 s4 T I J R Q => q_iald (by decide +kernel),
  fun X d x0 x1 x2 x3 x4 x5 s0 s1 s2 s3 σ Q => ex_P (i := .isub) (len := 1) (by decide +kernel) rfl,
  fun X d x0 x1 x2 x3 x4 x5 s0 s1 s2 σ Q => ex_P (i := .iconst 0) (len := 1) (by decide +kernel) rfl,
  fun X d x0 x1 x2 x3 x4 x5 s0 s1 s2 s3 σ Q => ex_P (i := .bipush 99) (len := 2) (by decide +kernel) rfl,
  fun X d x0 x1 x2 x3 x4 x5 s0 s1 s2 s3 s4 σ Q => q_callS (k := 77) (as := [.int s2, .int s1, .int s0]) (st := [.int s3, .ref s4]) (show rlk mX3_pass.2.2.2.2.2.2 94 = some (.invokestatic 77, 3) from by decide +kernel) rfl (Or.inr rfl) rfl rfl rfl rfl rfl (Nat.le_of_ble_eq_true rfl) (Nat.le_of_ble_eq_true rfl) rfl⟩
set_option maxRecDepth 50000 in
theorem gX3_pass_97 : (∀ (X : tX) (d : Nat) (x0 : Nat) (x1 : Int32) (x2 : Nat) (x3 : Int32) (x4 : Int32) (x5 : Int32) (s0 : Int32) (s1 : Int32) (s2 : Nat) (T : tT) (I : tI) (J : tJ) (R : tR) (Q : tQ), Ex X d mX3_pass 97 [.ref x0, .int x1, .ref x2, .int x3, .int x4, .int x5] [.int s0, .int s1, .ref s2] (T, I, J, R) Q = (rIn T s2 0 s1 ∧ Ex X d mX3_pass 98 [.ref x0, .int x1, .ref x2, .int x3, .int x4, .int x5] [] (T, va_up I s2 (va_up (I s2) s1.toNatClampNeg s0), J, R) Q)) ∧
  (∀ (X : tX) (d : Nat) (x0 : Nat) (x1 : Int32) (x2 : Nat) (x3 : Int32) (x4 : Int32) (x5 : Int32) (σ : rS) (Q : tQ), Ex X d mX3_pass 98 [.ref x0, .int x1, .ref x2, .int x3, .int x4, .int x5] [] σ Q = Ex X d mX3_pass 99 [.ref x0, .int x1, .ref x2, .int x3, .int x4, .int x5] [.ref x0] σ Q) ∧
  (∀ (X : tX) (d : Nat) (x0 : Nat) (x1 : Int32) (x2 : Nat) (x3 : Int32) (x4 : Int32) (x5 : Int32) (s0 : Nat) (T : tT) (I : tI) (J : tJ) (R : tR) (Q : tQ), Ex X d mX3_pass 99 [.ref x0, .int x1, .ref x2, .int x3, .int x4, .int x5] [.ref s0] (T, I, J, R) Q = (T[s0]? = some (3, 3) ∧ Ex X d mX3_pass 102 [.ref x0, .int x1, .ref x2, .int x3, .int x4, .int x5] [va_rf (R s0 5)] (T, I, J, R) Q)) ∧
  (∀ (X : tX) (d : Nat) (x0 : Nat) (x1 : Int32) (x2 : Nat) (x3 : Int32) (x4 : Int32) (x5 : Int32) (s0 : Nat) (σ : rS) (Q : tQ), Ex X d mX3_pass 102 [.ref x0, .int x1, .ref x2, .int x3, .int x4, .int x5] [.ref s0] σ Q = Ex X d mX3_pass 104 [.ref x0, .int x1, .ref x2, .int x3, .int x4, .int x5] [.int x5, .ref s0] σ Q) ∧
  (∀ (X : tX) (d : Nat) (x0 : Nat) (x1 : Int32) (x2 : Nat) (x3 : Int32) (x4 : Int32) (x5 : Int32) (s0 : Int32) (s1 : Nat) (T : tT) (I : tI) (J : tJ) (R : tR) (Q : tQ), Ex X d mX3_pass 104 [.ref x0, .int x1, .ref x2, .int x3, .int x4, .int x5] [.int s0, .ref s1] (T, I, J, R) Q = (rIn T s1 0 s0 ∧ Ex X d mX3_pass 105 [.ref x0, .int x1, .ref x2, .int x3, .int x4, .int x5] [.int (I s1 s0.toNatClampNeg)] (T, I, J, R) Q)) ∧
  (∀ (X : tX) (d : Nat) (x0 : Nat) (x1 : Int32) (x2 : Nat) (x3 : Int32) (x4 : Int32) (x5 : Int32) (s0 : Int32) (σ : rS) (Q : tQ), Ex X d mX3_pass 105 [.ref x0, .int x1, .ref x2, .int x3, .int x4, .int x5] [.int s0] σ Q = Ex X d mX3_pass 107 [.ref x0, .int x1, .ref x2, .int x3, .int s0, .int x5] [] σ Q) ∧
  (∀ (X : tX) (d : Nat) (x0 : Nat) (x1 : Int32) (x2 : Nat) (x3 : Int32) (x4 : Int32) (x5 : Int32) (σ : rS) (Q : tQ), Ex X d mX3_pass 107 [.ref x0, .int x1, .ref x2, .int x3, .int x4, .int x5] [] σ Q = Ex X d mX3_pass 110 [.ref x0, .int x1, .ref x2, .int x3, .int x4, .int (x5 + 1)] [] σ Q) ∧
  (∀ (X : tX) (d : Nat) (x0 : Nat) (x1 : Int32) (x2 : Nat) (x3 : Int32) (x4 : Int32) (x5 : Int32) (σ : rS) (Q : tQ), Ex X d mX3_pass 110 [.ref x0, .int x1, .ref x2, .int x3, .int x4, .int x5] [] σ Q = Ex X d mX3_pass 48 [.ref x0, .int x1, .ref x2, .int x3, .int x4, .int x5] [] σ Q) := ⟨fun X d x0 x1 x2 x3 x4 x5 s0 s1 s2 T I J R Q => q_iast (by decide +kernel),
  fun X d x0 x1 x2 x3 x4 x5 σ Q => ex_P (i := .aload_n 0) (len := 1) (by decide +kernel) rfl,
  fun X d x0 x1 x2 x3 x4 x5 s0 T I J R Q => q_getR (k := 27) (by decide +kernel) rfl rfl,
  fun X d x0 x1 x2 x3 x4 x5 s0 σ Q => ex_P (i := .iload 5) (len := 2) (by decide +kernel) rfl,
  fun X d x0 x1 x2 x3 x4 x5 s0 s1 T I J R Q => q_iald (by decide +kernel),
  fun X d x0 x1 x2 x3 x4 x5 s0 σ Q => ex_P (i := .istore 4) (len := 2) (by decide +kernel) rfl,
  fun X d x0 x1 x2 x3 x4 x5 σ Q => ex_P (i := .iinc 5 1) (len := 3) (by decide +kernel) rfl,
  fun X d x0 x1 x2 x3 x4 x5 σ Q => q_goto (o := (-62)) (by decide +kernel) rfl⟩
set_option maxRecDepth 50000 in
theorem gX3_pass_113 : (∀ (X : tX) (d : Nat) (x0 : Nat) (x1 : Int32) (x2 : Nat) (x3 : Int32) (x4 : Int32) (x5 : Int32) (σ : rS) (Q : tQ), Ex X d mX3_pass 113 [.ref x0, .int x1, .ref x2, .int x3, .int x4, .int x5] [] σ Q = Ex X d mX3_pass 114 [.ref x0, .int x1, .ref x2, .int x3, .int x4, .int x5] [.ref x0] σ Q) ∧
  (∀ (X : tX) (d : Nat) (x0 : Nat) (x1 : Int32) (x2 : Nat) (x3 : Int32) (x4 : Int32) (x5 : Int32) (s0 : Nat) (σ : rS) (Q : tQ), Ex X d mX3_pass 114 [.ref x0, .int x1, .ref x2, .int x3, .int x4, .int x5] [.ref s0] σ Q = Ex X d mX3_pass 115 [.ref x0, .int x1, .ref x2, .int x3, .int x4, .int x5] [.ref x0, .ref s0] σ Q) ∧
  (∀ (X : tX) (d : Nat) (x0 : Nat) (x1 : Int32) (x2 : Nat) (x3 : Int32) (x4 : Int32) (x5 : Int32) (s0 : Nat) (s1 : Nat) (T : tT) (I : tI) (J : tJ) (R : tR) (Q : tQ), Ex X d mX3_pass 115 [.ref x0, .int x1, .ref x2, .int x3, .int x4, .int x5] [.ref s0, .ref s1] (T, I, J, R) Q = (T[s0]? = some (3, 3) ∧ Ex X d mX3_pass 118 [.ref x0, .int x1, .ref x2, .int x3, .int x4, .int x5] [.int (I s0 7), .ref s1] (T, I, J, R) Q)) ∧
  (∀ (X : tX) (d : Nat) (x0 : Nat) (x1 : Int32) (x2 : Nat) (x3 : Int32) (x4 : Int32) (x5 : Int32) (s0 : Int32) (s1 : Nat) (σ : rS) (Q : tQ), Ex X d mX3_pass 118 [.ref x0, .int x1, .ref x2, .int x3, .int x4, .int x5] [.int s0, .ref s1] σ Q = Ex X d mX3_pass 119 [.ref x0, .int x1, .ref x2, .int x3, .int x4, .int x5] [.int 1, .int s0, .ref s1] σ Q) ∧
  (∀ (X : tX) (d : Nat) (x0 : Nat) (x1 : Int32) (x2 : Nat) (x3 : Int32) (x4 : Int32) (x5 : Int32) (s0 : Int32) (s1 : Int32) (s2 : Nat) (σ : rS) (Q : tQ), Ex X d mX3_pass 119 [.ref x0, .int x1, .ref x2, .int x3, .int x4, .int x5] [.int s0, .int s1, .ref s2] σ Q = Ex X d mX3_pass 120 [.ref x0, .int x1, .ref x2, .int x3, .int x4, .int x5] [.int (s1 + s0), .ref s2] σ Q) ∧
  (∀ (X : tX) (d : Nat) (x0 : Nat) (x1 : Int32) (x2 : Nat) (x3 : Int32) (x4 : Int32) (x5 : Int32) (s0 : Int32) (s1 : Nat) (σ : rS) (Q : tQ), Ex X d mX3_pass 120 [.ref x0, .int x1, .ref x2, .int x3, .int x4, .int x5] [.int s0, .ref s1] σ Q = Ex X d mX3_pass 122 [.ref x0, .int x1, .ref x2, .int x3, .int x4, .int x5] [.int 7, .int s0, .ref s1] σ Q) ∧
  (∀ (X : tX) (d : Nat) (x0 : Nat) (x1 : Int32) (x2 : Nat) (x3 : Int32) (x4 : Int32) (x5 : Int32) (s0 : Int32) (s1 : Int32) (s2 : Nat) (σ : rS) (Q : tQ), Ex X d mX3_pass 122 [.ref x0, .int x1, .ref x2, .int x3, .int x4, .int x5] [.int s0, .int s1, .ref s2] σ Q = (¬ s0 = 0 ∧ Ex X d mX3_pass 123 [.ref x0, .int x1, .ref x2, .int x3, .int x4, .int x5] [.int (s1 - s1 / s0 * s0), .ref s2] σ Q)) ∧
  (∀ (X : tX) (d : Nat) (x0 : Nat) (x1 : Int32) (x2 : Nat) (x3 : Int32) (x4 : Int32) (x5 : Int32) (s0 : Int32) (s1 : Nat) (T : tT) (I : tI) (J : tJ) (R : tR) (Q : tQ), Ex X d mX3_pass 123 [.ref x0, .int x1, .ref x2, .int x3, .int x4, .int x5] [.int s0, .ref s1] (T, I, J, R) Q = (T[s1]? = some (3, 3) ∧ Ex X d mX3_pass 126 [.ref x0, .int x1, .ref x2, .int x3, .int x4, .int x5] [] (T, va_up I s1 (va_up (I s1) 7 s0), J, R) Q)) ∧
  (∀ (X : tX) (d : Nat) (x0 : Nat) (x1 : Int32) (x2 : Nat) (x3 : Int32) (x4 : Int32) (x5 : Int32) (σ : rS) (Q : tQ), Ex X d mX3_pass 126 [.ref x0, .int x1, .ref x2, .int x3, .int x4, .int x5] [] σ Q = Ex X d mX3_pass 129 [.ref x0, .int x1, .ref x2, .int (x3 + 1), .int x4, .int x5] [] σ Q) ∧
  (∀ (X : tX) (d : Nat) (x0 : Nat) (x1 : Int32) (x2 : Nat) (x3 : Int32) (x4 : Int32) (x5 : Int32) (σ : rS) (Q : tQ), Ex X d mX3_pass 129 [.ref x0, .int x1, .ref x2, .int x3, .int x4, .int x5] [] σ Q = Ex X d mX3_pass 2 [.ref x0, .int x1, .ref x2, .int x3, .int x4, .int x5] [] σ Q) := ⟨fun X d x0 x1 x2 x3 x4 x5 σ Q => ex_P (i := .aload_n 0) (len := 1) (by decide +kernel) rfl,
  fun X d x0 x1 x2 x3 x4 x5 s0 σ Q => ex_P (i := .aload_n 0) (len := 1) (by decide +kernel) rfl,
  fun X d x0 x1 x2 x3 x4 x5 s0 s1 T I J R Q => q_getI (k := 51) (by decide +kernel) rfl rfl (by decide),
  fun X d x0 x1 x2 x3 x4 x5 s0 s1 σ Q => ex_P (i := .iconst 1) (len := 1) (by decide +kernel) rfl,
  fun X d x0 x1 x2 x3 x4 x5 s0 s1 s2 σ Q => ex_P (i := .iadd) (len := 1) (by decide +kernel) rfl,
  fun X d x0 x1 x2 x3 x4 x5 s0 s1 σ Q => ex_P (i := .bipush 7) (len := 2) (by decide +kernel) rfl,
  fun X d x0 x1 x2 x3 x4 x5 s0 s1 s2 σ Q => q_rem (by decide +kernel),
  fun X d x0 x1 x2 x3 x4 x5 s0 s1 T I J R Q => q_putI (k := 51) (by decide +kernel) rfl rfl (by decide +kernel),
  fun X d x0 x1 x2 x3 x4 x5 σ Q => ex_P (i := .iinc 3 1) (len := 3) (by decide +kernel) rfl,
  fun X d x0 x1 x2 x3 x4 x5 σ Q => q_goto (o := (-127)) (by decide +kernel) rfl⟩
set_option maxRecDepth 50000 in
theorem gX3_pass_132 : (∀ (X : tX) (d : Nat) (x0 : Nat) (x1 : Int32) (x2 : Nat) (x3 : Int32) (v4 : Value) (v5 : Value) (σ : rS) (Q : tQ), Ex X d mX3_pass 132 [.ref x0, .int x1, .ref x2, .int x3, v4, v5] [] σ Q = Q none σ) := fun X d x0 x1 x2 x3 v4 v5 σ Q => q_retV (by decide +kernel) rfl
set_option maxRecDepth 50000 in
theorem gX3_overBits_0 : (∀ (X : tX) (d : Nat) (x0 : Nat) (σ : rS) (Q : tQ), Ex X d mX3_overBits 0 [.ref x0, rU, rU] [] σ Q = Ex X d mX3_overBits 1 [.ref x0, rU, rU] [.int 0] σ Q) ∧
  (∀ (X : tX) (d : Nat) (x0 : Nat) (s0 : Int32) (σ : rS) (Q : tQ), Ex X d mX3_overBits 1 [.ref x0, rU, rU] [.int s0] σ Q = Ex X d mX3_overBits 2 [.ref x0, .int s0, rU] [] σ Q) ∧
  (∀ (X : tX) (d : Nat) (x0 : Nat) (x1 : Int32) (σ : rS) (Q : tQ), Ex X d mX3_overBits 2 [.ref x0, .int x1, rU] [] σ Q = Ex X d mX3_overBits 3 [.ref x0, .int x1, rU] [.int 0] σ Q) ∧
  (∀ (X : tX) (d : Nat) (x0 : Nat) (x1 : Int32) (s0 : Int32) (σ : rS) (Q : tQ), Ex X d mX3_overBits 3 [.ref x0, .int x1, rU] [.int s0] σ Q = Ex X d mX3_overBits 4 [.ref x0, .int x1, .int s0] [] σ Q) := ⟨fun X d x0 σ Q => ex_P (i := .iconst 0) (len := 1) (by decide +kernel) rfl,
  fun X d x0 s0 σ Q => ex_P (i := .istore_n 1) (len := 1) (by decide +kernel) rfl,
  fun X d x0 x1 σ Q => ex_P (i := .iconst 0) (len := 1) (by decide +kernel) rfl,
  fun X d x0 x1 s0 σ Q => ex_P (i := .istore_n 2) (len := 1) (by decide +kernel) rfl⟩
set_option maxRecDepth 50000 in
theorem gX3_overBits_4 : (∀ (X : tX) (d : Nat) (x0 : Nat) (x1 : Int32) (x2 : Int32) (σ : rS) (Q : tQ), Ex X d mX3_overBits 4 [.ref x0, .int x1, .int x2] [] σ Q = Ex X d mX3_overBits 5 [.ref x0, .int x1, .int x2] [.int x2] σ Q) ∧
  (∀ (X : tX) (d : Nat) (x0 : Nat) (x1 : Int32) (x2 : Int32) (s0 : Int32) (σ : rS) (Q : tQ), Ex X d mX3_overBits 5 [.ref x0, .int x1, .int x2] [.int s0] σ Q = Ex X d mX3_overBits 6 [.ref x0, .int x1, .int x2] [.ref x0, .int s0] σ Q) ∧
  (∀ (X : tX) (d : Nat) (x0 : Nat) (x1 : Int32) (x2 : Int32) (s0 : Nat) (s1 : Int32) (T : tT) (I : tI) (J : tJ) (R : tR) (Q : tQ), Ex X d mX3_overBits 6 [.ref x0, .int x1, .int x2] [.ref s0, .int s1] (T, I, J, R) Q = (T[s0]? = some (3, 3) ∧ Ex X d mX3_overBits 9 [.ref x0, .int x1, .int x2] [.int (I s0 8), .int s1] (T, I, J, R) Q)) ∧
  (∀ (X : tX) (d : Nat) (x0 : Nat) (x1 : Int32) (x2 : Int32) (s0 : Int32) (s1 : Int32) (σ : rS) (Q : tQ), Ex X d mX3_overBits 9 [.ref x0, .int x1, .int x2] [.int s0, .int s1] σ Q = (if s0 ≤ s1 then Ex X d mX3_overBits 43 [.ref x0, .int x1, .int x2] [] σ Q else Ex X d mX3_overBits 12 [.ref x0, .int x1, .int x2] [] σ Q)) := ⟨fun X d x0 x1 x2 σ Q => ex_P (i := .iload_n 2) (len := 1) (by decide +kernel) rfl,
  fun X d x0 x1 x2 s0 σ Q => ex_P (i := .aload_n 0) (len := 1) (by decide +kernel) rfl,
  fun X d x0 x1 x2 s0 s1 T I J R Q => q_getI (k := 40) (by decide +kernel) rfl rfl (by decide),
  fun X d x0 x1 x2 s0 s1 σ Q => q_icmp_ge (o := 34) (by decide +kernel) rfl⟩
set_option maxRecDepth 50000 in
theorem gX3_overBits_12 : (∀ (X : tX) (d : Nat) (x0 : Nat) (x1 : Int32) (x2 : Int32) (σ : rS) (Q : tQ), Ex X d mX3_overBits 12 [.ref x0, .int x1, .int x2] [] σ Q = Ex X d mX3_overBits 13 [.ref x0, .int x1, .int x2] [.int x1] σ Q) ∧
  (∀ (X : tX) (d : Nat) (x0 : Nat) (x1 : Int32) (x2 : Int32) (s0 : Int32) (σ : rS) (Q : tQ), Ex X d mX3_overBits 13 [.ref x0, .int x1, .int x2] [.int s0] σ Q = Ex X d mX3_overBits 14 [.ref x0, .int x1, .int x2] [.ref x0, .int s0] σ Q) ∧
  (∀ (X : tX) (d : Nat) (x0 : Nat) (x1 : Int32) (x2 : Int32) (s0 : Nat) (s1 : Int32) (T : tT) (I : tI) (J : tJ) (R : tR) (Q : tQ), Ex X d mX3_overBits 14 [.ref x0, .int x1, .int x2] [.ref s0, .int s1] (T, I, J, R) Q = (T[s0]? = some (3, 3) ∧ Ex X d mX3_overBits 17 [.ref x0, .int x1, .int x2] [va_rf (R s0 0), .int s1] (T, I, J, R) Q)) ∧
  (∀ (X : tX) (d : Nat) (x0 : Nat) (x1 : Int32) (x2 : Int32) (s0 : Nat) (s1 : Int32) (σ : rS) (Q : tQ), Ex X d mX3_overBits 17 [.ref x0, .int x1, .int x2] [.ref s0, .int s1] σ Q = Ex X d mX3_overBits 18 [.ref x0, .int x1, .int x2] [.int x2, .ref s0, .int s1] σ Q) ∧
  (∀ (X : tX) (d : Nat) (x0 : Nat) (x1 : Int32) (x2 : Int32) (s0 : Int32) (s1 : Nat) (s2 : Int32) (T : tT) (I : tI) (J : tJ) (R : tR) (Q : tQ), Ex X d mX3_overBits 18 [.ref x0, .int x1, .int x2] [.int s0, .ref s1, .int s2] (T, I, J, R) Q = (rIn T s1 0 s0 ∧ Ex X d mX3_overBits 19 [.ref x0, .int x1, .int x2] [.int (I s1 s0.toNatClampNeg), .int s2] (T, I, J, R) Q)) ∧
  (∀ (X : tX) (d : Nat) (x0 : Nat) (x1 : Int32) (x2 : Int32) (s0 : Int32) (s1 : Int32) (σ : rS) (Q : tQ), Ex X d mX3_overBits 19 [.ref x0, .int x1, .int x2] [.int s0, .int s1] σ Q = Ex X d mX3_overBits 20 [.ref x0, .int x1, .int x2] [.ref x0, .int s0, .int s1] σ Q) ∧
  (∀ (X : tX) (d : Nat) (x0 : Nat) (x1 : Int32) (x2 : Int32) (s0 : Nat) (s1 : Int32) (s2 : Int32) (T : tT) (I : tI) (J : tJ) (R : tR) (Q : tQ), Ex X d mX3_overBits 20 [.ref x0, .int x1, .int x2] [.ref s0, .int s1, .int s2] (T, I, J, R) Q = (T[s0]? = some (3, 3) ∧ Ex X d mX3_overBits 23 [.ref x0, .int x1, .int x2] [va_rf (R s0 1), .int s1, .int s2] (T, I, J, R) Q)) ∧
  (∀ (X : tX) (d : Nat) (x0 : Nat) (x1 : Int32) (x2 : Int32) (s0 : Nat) (s1 : Int32) (s2 : Int32) (σ : rS) (Q : tQ), Ex X d mX3_overBits 23 [.ref x0, .int x1, .int x2] [.ref s0, .int s1, .int s2] σ Q = Ex X d mX3_overBits 24 [.ref x0, .int x1, .int x2] [.int x2, .ref s0, .int s1, .int s2] σ Q) ∧
  (∀ (X : tX) (d : Nat) (x0 : Nat) (x1 : Int32) (x2 : Int32) (s0 : Int32) (s1 : Nat) (s2 : Int32) (s3 : Int32) (T : tT) (I : tI) (J : tJ) (R : tR) (Q : tQ), Ex X d mX3_overBits 24 [.ref x0, .int x1, .int x2] [.int s0, .ref s1, .int s2, .int s3] (T, I, J, R) Q = (rIn T s1 0 s0 ∧ Ex X d mX3_overBits 25 [.ref x0, .int x1, .int x2] [.int (I s1 s0.toNatClampNeg), .int s2, .int s3] (T, I, J, R) Q)) ∧
  (∀ (X : tX) (d : Nat) (x0 : Nat) (x1 : Int32) (x2 : Int32) (s0 : Int32) (s1 : Int32) (s2 : Int32) (σ : rS) (Q : tQ), Ex X d mX3_overBits 25 [.ref x0, .int x1, .int x2] [.int s0, .int s1, .int s2] σ Q = (if s1 < s0 then Ex X d mX3_overBits 34 [.ref x0, .int x1, .int x2] [.int s2] σ Q else Ex X d mX3_overBits 28 [.ref x0, .int x1, .int x2] [.int s2] σ Q)) := ⟨fun X d x0 x1 x2 σ Q => ex_P (i := .iload_n 1) (len := 1) (by decide +kernel) rfl,
  fun X d x0 x1 x2 s0 σ Q => ex_P (i := .aload_n 0) (len := 1) (by decide +kernel) rfl,
  fun X d x0 x1 x2 s0 s1 T I J R Q => q_getR (k := 11) (by decide +kernel) rfl rfl,
  fun X d x0 x1 x2 s0 s1 σ Q => ex_P (i := .iload_n 2) (len := 1) (by decide +kernel) rfl,
  fun X d x0 x1 x2 s0 s1 s2 T I J R Q => q_iald (by decide +kernel),
  fun X d x0 x1 x2 s0 s1 σ Q => ex_P (i := .aload_n 0) (len := 1) (by decide +kernel) rfl,
  fun X d x0 x1 x2 s0 s1 s2 T I J R Q => q_getR (k := 15) (by decide +kernel) rfl rfl,
  fun X d x0 x1 x2 s0 s1 s2 σ Q => ex_P (i := .iload_n 2) (len := 1) (by decide +kernel) rfl,
  fun X d x0 x1 x2 s0 s1 s2 s3 T I J R Q => q_iald (by decide +kernel),
  fun X d x0 x1 x2 s0 s1 s2 σ Q => q_icmp_lt (o := 9) (by decide +kernel) rfl⟩
set_option maxRecDepth 50000 in
theorem gX3_overBits_28 : (∀ (X : tX) (d : Nat) (x0 : Nat) (x1 : Int32) (x2 : Int32) (s0 : Int32) (σ : rS) (Q : tQ), Ex X d mX3_overBits 28 [.ref x0, .int x1, .int x2] [.int s0] σ Q = Ex X d mX3_overBits 29 [.ref x0, .int x1, .int x2] [.int 1, .int s0] σ Q) ∧
  (∀ (X : tX) (d : Nat) (x0 : Nat) (x1 : Int32) (x2 : Int32) (s0 : Int32) (s1 : Int32) (σ : rS) (Q : tQ), Ex X d mX3_overBits 29 [.ref x0, .int x1, .int x2] [.int s0, .int s1] σ Q = Ex X d mX3_overBits 30 [.ref x0, .int x1, .int x2] [.int x2, .int s0, .int s1] σ Q) ∧
  (∀ (X : tX) (d : Nat) (x0 : Nat) (x1 : Int32) (x2 : Int32) (s0 : Int32) (s1 : Int32) (s2 : Int32) (σ : rS) (Q : tQ), Ex X d mX3_overBits 30 [.ref x0, .int x1, .int x2] [.int s0, .int s1, .int s2] σ Q = Ex X d mX3_overBits 31 [.ref x0, .int x1, .int x2] [.int (s1 <<< (s0 &&& 31)), .int s2] σ Q) ∧
  (∀ (X : tX) (d : Nat) (x0 : Nat) (x1 : Int32) (x2 : Int32) (s0 : Int32) (s1 : Int32) (σ : rS) (Q : tQ), Ex X d mX3_overBits 31 [.ref x0, .int x1, .int x2] [.int s0, .int s1] σ Q = Ex X d mX3_overBits 35 [.ref x0, .int x1, .int x2] [.int s0, .int s1] σ Q) := ⟨fun X d x0 x1 x2 s0 σ Q => ex_P (i := .iconst 1) (len := 1) (by decide +kernel) rfl,
  fun X d x0 x1 x2 s0 s1 σ Q => ex_P (i := .iload_n 2) (len := 1) (by decide +kernel) rfl,
  fun X d x0 x1 x2 s0 s1 s2 σ Q => ex_P (i := .ishl) (len := 1) (by decide +kernel) rfl,
  fun X d x0 x1 x2 s0 s1 σ Q => q_goto (o := 4) (by decide +kernel) rfl⟩
set_option maxRecDepth 50000 in
theorem gX3_overBits_34 : (∀ (X : tX) (d : Nat) (x0 : Nat) (x1 : Int32) (x2 : Int32) (s0 : Int32) (σ : rS) (Q : tQ), Ex X d mX3_overBits 34 [.ref x0, .int x1, .int x2] [.int s0] σ Q = Ex X d mX3_overBits 35 [.ref x0, .int x1, .int x2] [.int 0, .int s0] σ Q) := fun X d x0 x1 x2 s0 σ Q => ex_P (i := .iconst 0) (len := 1) (by decide +kernel) rfl
set_option maxRecDepth 50000 in
theorem gX3_overBits_35 : (∀ (X : tX) (d : Nat) (x0 : Nat) (x1 : Int32) (x2 : Int32) (s0 : Int32) (s1 : Int32) (σ : rS) (Q : tQ), Ex X d mX3_overBits 35 [.ref x0, .int x1, .int x2] [.int s0, .int s1] σ Q = Ex X d mX3_overBits 36 [.ref x0, .int x1, .int x2] [.int (s1 ||| s0)] σ Q) ∧
  (∀ (X : tX) (d : Nat) (x0 : Nat) (x1 : Int32) (x2 : Int32) (s0 : Int32) (σ : rS) (Q : tQ), Ex X d mX3_overBits 36 [.ref x0, .int x1, .int x2] [.int s0] σ Q = Ex X d mX3_overBits 37 [.ref x0, .int s0, .int x2] [] σ Q) ∧
  (∀ (X : tX) (d : Nat) (x0 : Nat) (x1 : Int32) (x2 : Int32) (σ : rS) (Q : tQ), Ex X d mX3_overBits 37 [.ref x0, .int x1, .int x2] [] σ Q = Ex X d mX3_overBits 40 [.ref x0, .int x1, .int (x2 + 1)] [] σ Q) ∧
  (∀ (X : tX) (d : Nat) (x0 : Nat) (x1 : Int32) (x2 : Int32) (σ : rS) (Q : tQ), Ex X d mX3_overBits 40 [.ref x0, .int x1, .int x2] [] σ Q = Ex X d mX3_overBits 4 [.ref x0, .int x1, .int x2] [] σ Q) := ⟨fun X d x0 x1 x2 s0 s1 σ Q => ex_P (i := .ior) (len := 1) (by decide +kernel) rfl,
  fun X d x0 x1 x2 s0 σ Q => ex_P (i := .istore_n 1) (len := 1) (by decide +kernel) rfl,
  fun X d x0 x1 x2 σ Q => ex_P (i := .iinc 2 1) (len := 3) (by decide +kernel) rfl,
  fun X d x0 x1 x2 σ Q => q_goto (o := (-36)) (by decide +kernel) rfl⟩
set_option maxRecDepth 50000 in
theorem gX3_overBits_43 : (∀ (X : tX) (d : Nat) (x0 : Nat) (x1 : Int32) (x2 : Int32) (σ : rS) (Q : tQ), Ex X d mX3_overBits 43 [.ref x0, .int x1, .int x2] [] σ Q = Ex X d mX3_overBits 44 [.ref x0, .int x1, .int x2] [.int x1] σ Q) ∧
  (∀ (X : tX) (d : Nat) (x0 : Nat) (x1 : Int32) (x2 : Int32) (s0 : Int32) (σ : rS) (Q : tQ), Ex X d mX3_overBits 44 [.ref x0, .int x1, .int x2] [.int s0] σ Q = Q (some (.int s0)) σ) := ⟨fun X d x0 x1 x2 σ Q => ex_P (i := .iload_n 1) (len := 1) (by decide +kernel) rfl,
  fun X d x0 x1 x2 s0 σ Q => q_retI (by decide +kernel) rfl⟩
set_option maxRecDepth 50000 in
theorem gX3_levelOfAll_0 : (∀ (X : tX) (d : Nat) (x0 : Nat) (σ : rS) (Q : tQ), Ex X d mX3_levelOfAll 0 [.ref x0, rU, rU] [] σ Q = Ex X d mX3_levelOfAll 1 [.ref x0, rU, rU] [.int 0] σ Q) ∧
  (∀ (X : tX) (d : Nat) (x0 : Nat) (s0 : Int32) (σ : rS) (Q : tQ), Ex X d mX3_levelOfAll 1 [.ref x0, rU, rU] [.int s0] σ Q = Ex X d mX3_levelOfAll 2 [.ref x0, .int s0, rU] [] σ Q) ∧
  (∀ (X : tX) (d : Nat) (x0 : Nat) (x1 : Int32) (σ : rS) (Q : tQ), Ex X d mX3_levelOfAll 2 [.ref x0, .int x1, rU] [] σ Q = Ex X d mX3_levelOfAll 3 [.ref x0, .int x1, rU] [.int 0] σ Q) ∧
  (∀ (X : tX) (d : Nat) (x0 : Nat) (x1 : Int32) (s0 : Int32) (σ : rS) (Q : tQ), Ex X d mX3_levelOfAll 3 [.ref x0, .int x1, rU] [.int s0] σ Q = Ex X d mX3_levelOfAll 4 [.ref x0, .int x1, .int s0] [] σ Q) := ⟨fun X d x0 σ Q => ex_P (i := .iconst 0) (len := 1) (by decide +kernel) rfl,
  fun X d x0 s0 σ Q => ex_P (i := .istore_n 1) (len := 1) (by decide +kernel) rfl,
  fun X d x0 x1 σ Q => ex_P (i := .iconst 0) (len := 1) (by decide +kernel) rfl,
  fun X d x0 x1 s0 σ Q => ex_P (i := .istore_n 2) (len := 1) (by decide +kernel) rfl⟩
set_option maxRecDepth 50000 in
theorem gX3_levelOfAll_4 : (∀ (X : tX) (d : Nat) (x0 : Nat) (x1 : Int32) (x2 : Int32) (σ : rS) (Q : tQ), Ex X d mX3_levelOfAll 4 [.ref x0, .int x1, .int x2] [] σ Q = Ex X d mX3_levelOfAll 5 [.ref x0, .int x1, .int x2] [.int x2] σ Q) ∧
  (∀ (X : tX) (d : Nat) (x0 : Nat) (x1 : Int32) (x2 : Int32) (s0 : Int32) (σ : rS) (Q : tQ), Ex X d mX3_levelOfAll 5 [.ref x0, .int x1, .int x2] [.int s0] σ Q = Ex X d mX3_levelOfAll 6 [.ref x0, .int x1, .int x2] [.ref x0, .int s0] σ Q) ∧
  (∀ (X : tX) (d : Nat) (x0 : Nat) (x1 : Int32) (x2 : Int32) (s0 : Nat) (s1 : Int32) (T : tT) (I : tI) (J : tJ) (R : tR) (Q : tQ), Ex X d mX3_levelOfAll 6 [.ref x0, .int x1, .int x2] [.ref s0, .int s1] (T, I, J, R) Q = (T[s0]? = some (3, 3) ∧ Ex X d mX3_levelOfAll 9 [.ref x0, .int x1, .int x2] [.int (I s0 8), .int s1] (T, I, J, R) Q)) ∧
  (∀ (X : tX) (d : Nat) (x0 : Nat) (x1 : Int32) (x2 : Int32) (s0 : Int32) (s1 : Int32) (σ : rS) (Q : tQ), Ex X d mX3_levelOfAll 9 [.ref x0, .int x1, .int x2] [.int s0, .int s1] σ Q = (if s0 ≤ s1 then Ex X d mX3_levelOfAll 27 [.ref x0, .int x1, .int x2] [] σ Q else Ex X d mX3_levelOfAll 12 [.ref x0, .int x1, .int x2] [] σ Q)) := ⟨fun X d x0 x1 x2 σ Q => ex_P (i := .iload_n 2) (len := 1) (by decide +kernel) rfl,
  fun X d x0 x1 x2 s0 σ Q => ex_P (i := .aload_n 0) (len := 1) (by decide +kernel) rfl,
  fun X d x0 x1 x2 s0 s1 T I J R Q => q_getI (k := 40) (by decide +kernel) rfl rfl (by decide),
  fun X d x0 x1 x2 s0 s1 σ Q => q_icmp_ge (o := 18) (by decide +kernel) rfl⟩
set_option maxRecDepth 50000 in
theorem gX3_levelOfAll_12 : (∀ (X : tX) (d : Nat) (x0 : Nat) (x1 : Int32) (x2 : Int32) (σ : rS) (Q : tQ), Ex X d mX3_levelOfAll 12 [.ref x0, .int x1, .int x2] [] σ Q = Ex X d mX3_levelOfAll 13 [.ref x0, .int x1, .int x2] [.int x1] σ Q) ∧
  (∀ (X : tX) (d : Nat) (x0 : Nat) (x1 : Int32) (x2 : Int32) (s0 : Int32) (σ : rS) (Q : tQ), Ex X d mX3_levelOfAll 13 [.ref x0, .int x1, .int x2] [.int s0] σ Q = Ex X d mX3_levelOfAll 14 [.ref x0, .int x1, .int x2] [.ref x0, .int s0] σ Q) ∧
  (∀ (X : tX) (d : Nat) (x0 : Nat) (x1 : Int32) (x2 : Int32) (s0 : Nat) (s1 : Int32) (T : tT) (I : tI) (J : tJ) (R : tR) (Q : tQ), Ex X d mX3_levelOfAll 14 [.ref x0, .int x1, .int x2] [.ref s0, .int s1] (T, I, J, R) Q = (T[s0]? = some (3, 3) ∧ Ex X d mX3_levelOfAll 17 [.ref x0, .int x1, .int x2] [va_rf (R s0 0), .int s1] (T, I, J, R) Q)) ∧
  (∀ (X : tX) (d : Nat) (x0 : Nat) (x1 : Int32) (x2 : Int32) (s0 : Nat) (s1 : Int32) (σ : rS) (Q : tQ), Ex X d mX3_levelOfAll 17 [.ref x0, .int x1, .int x2] [.ref s0, .int s1] σ Q = Ex X d mX3_levelOfAll 18 [.ref x0, .int x1, .int x2] [.int x2, .ref s0, .int s1] σ Q) ∧
  (∀ (X : tX) (d : Nat) (x0 : Nat) (x1 : Int32) (x2 : Int32) (s0 : Int32) (s1 : Nat) (s2 : Int32) (T : tT) (I : tI) (J : tJ) (R : tR) (Q : tQ), Ex X d mX3_levelOfAll 18 [.ref x0, .int x1, .int x2] [.int s0, .ref s1, .int s2] (T, I, J, R) Q = (rIn T s1 0 s0 ∧ Ex X d mX3_levelOfAll 19 [.ref x0, .int x1, .int x2] [.int (I s1 s0.toNatClampNeg), .int s2] (T, I, J, R) Q)) ∧
  (∀ (X : tX) (d : Nat) (x0 : Nat) (x1 : Int32) (x2 : Int32) (s0 : Int32) (s1 : Int32) (σ : rS) (Q : tQ), Ex X d mX3_levelOfAll 19 [.ref x0, .int x1, .int x2] [.int s0, .int s1] σ Q = Ex X d mX3_levelOfAll 20 [.ref x0, .int x1, .int x2] [.int (s1 + s0)] σ Q) ∧
  (∀ (X : tX) (d : Nat) (x0 : Nat) (x1 : Int32) (x2 : Int32) (s0 : Int32) (σ : rS) (Q : tQ), Ex X d mX3_levelOfAll 20 [.ref x0, .int x1, .int x2] [.int s0] σ Q = Ex X d mX3_levelOfAll 21 [.ref x0, .int s0, .int x2] [] σ Q) ∧
  (∀ (X : tX) (d : Nat) (x0 : Nat) (x1 : Int32) (x2 : Int32) (σ : rS) (Q : tQ), Ex X d mX3_levelOfAll 21 [.ref x0, .int x1, .int x2] [] σ Q = Ex X d mX3_levelOfAll 24 [.ref x0, .int x1, .int (x2 + 1)] [] σ Q) ∧
  (∀ (X : tX) (d : Nat) (x0 : Nat) (x1 : Int32) (x2 : Int32) (σ : rS) (Q : tQ), Ex X d mX3_levelOfAll 24 [.ref x0, .int x1, .int x2] [] σ Q = Ex X d mX3_levelOfAll 4 [.ref x0, .int x1, .int x2] [] σ Q) := ⟨fun X d x0 x1 x2 σ Q => ex_P (i := .iload_n 1) (len := 1) (by decide +kernel) rfl,
  fun X d x0 x1 x2 s0 σ Q => ex_P (i := .aload_n 0) (len := 1) (by decide +kernel) rfl,
  fun X d x0 x1 x2 s0 s1 T I J R Q => q_getR (k := 11) (by decide +kernel) rfl rfl,
  fun X d x0 x1 x2 s0 s1 σ Q => ex_P (i := .iload_n 2) (len := 1) (by decide +kernel) rfl,
  fun X d x0 x1 x2 s0 s1 s2 T I J R Q => q_iald (by decide +kernel),
  fun X d x0 x1 x2 s0 s1 σ Q => ex_P (i := .iadd) (len := 1) (by decide +kernel) rfl,
  fun X d x0 x1 x2 s0 σ Q => ex_P (i := .istore_n 1) (len := 1) (by decide +kernel) rfl,
  fun X d x0 x1 x2 σ Q => ex_P (i := .iinc 2 1) (len := 3) (by decide +kernel) rfl,
  fun X d x0 x1 x2 σ Q => q_goto (o := (-20)) (by decide +kernel) rfl⟩
set_option maxRecDepth 50000 in
theorem gX3_levelOfAll_27 : (∀ (X : tX) (d : Nat) (x0 : Nat) (x1 : Int32) (x2 : Int32) (σ : rS) (Q : tQ), Ex X d mX3_levelOfAll 27 [.ref x0, .int x1, .int x2] [] σ Q = Ex X d mX3_levelOfAll 28 [.ref x0, .int x1, .int x2] [.int x1] σ Q) ∧
  (∀ (X : tX) (d : Nat) (x0 : Nat) (x1 : Int32) (x2 : Int32) (s0 : Int32) (σ : rS) (Q : tQ), Ex X d mX3_levelOfAll 28 [.ref x0, .int x1, .int x2] [.int s0] σ Q = Q (some (.int s0)) σ) := ⟨fun X d x0 x1 x2 σ Q => ex_P (i := .iload_n 1) (len := 1) (by decide +kernel) rfl,
  fun X d x0 x1 x2 s0 σ Q => q_retI (by decide +kernel) rfl⟩
set_option maxRecDepth 50000 in
theorem gX3_levelsTogether_0 : (∀ (X : tX) (d : Nat) (x0 : Nat) (σ : rS) (Q : tQ), Ex X d mX3_levelsTogether 0 [.ref x0, rU, rU, rU] [] σ Q = Ex X d mX3_levelsTogether 1 [.ref x0, rU, rU, rU] [.long 0] σ Q) ∧
  (∀ (X : tX) (d : Nat) (x0 : Nat) (s0 : Int64) (σ : rS) (Q : tQ), Ex X d mX3_levelsTogether 1 [.ref x0, rU, rU, rU] [.long s0] σ Q = Ex X d mX3_levelsTogether 2 [.ref x0, .long s0, rU, rU] [] σ Q) ∧
  (∀ (X : tX) (d : Nat) (x0 : Nat) (x1 : Int64) (σ : rS) (Q : tQ), Ex X d mX3_levelsTogether 2 [.ref x0, .long x1, rU, rU] [] σ Q = Ex X d mX3_levelsTogether 3 [.ref x0, .long x1, rU, rU] [.int 0] σ Q) ∧
  (∀ (X : tX) (d : Nat) (x0 : Nat) (x1 : Int64) (s0 : Int32) (σ : rS) (Q : tQ), Ex X d mX3_levelsTogether 3 [.ref x0, .long x1, rU, rU] [.int s0] σ Q = Ex X d mX3_levelsTogether 4 [.ref x0, .long x1, rU, .int s0] [] σ Q) := ⟨fun X d x0 σ Q => ex_P (i := .lconst 0) (len := 1) (by decide +kernel) rfl,
  fun X d x0 s0 σ Q => ex_P (i := .lstore_n 1) (len := 1) (by decide +kernel) rfl,
  fun X d x0 x1 σ Q => ex_P (i := .iconst 0) (len := 1) (by decide +kernel) rfl,
  fun X d x0 x1 s0 σ Q => ex_P (i := .istore_n 3) (len := 1) (by decide +kernel) rfl⟩
set_option maxRecDepth 50000 in
theorem gX3_levelsTogether_4 : (∀ (X : tX) (d : Nat) (x0 : Nat) (x1 : Int64) (x3 : Int32) (σ : rS) (Q : tQ), Ex X d mX3_levelsTogether 4 [.ref x0, .long x1, rU, .int x3] [] σ Q = Ex X d mX3_levelsTogether 5 [.ref x0, .long x1, rU, .int x3] [.int x3] σ Q) ∧
  (∀ (X : tX) (d : Nat) (x0 : Nat) (x1 : Int64) (x3 : Int32) (s0 : Int32) (σ : rS) (Q : tQ), Ex X d mX3_levelsTogether 5 [.ref x0, .long x1, rU, .int x3] [.int s0] σ Q = Ex X d mX3_levelsTogether 6 [.ref x0, .long x1, rU, .int x3] [.ref x0, .int s0] σ Q) ∧
  (∀ (X : tX) (d : Nat) (x0 : Nat) (x1 : Int64) (x3 : Int32) (s0 : Nat) (s1 : Int32) (T : tT) (I : tI) (J : tJ) (R : tR) (Q : tQ), Ex X d mX3_levelsTogether 6 [.ref x0, .long x1, rU, .int x3] [.ref s0, .int s1] (T, I, J, R) Q = (T[s0]? = some (3, 3) ∧ Ex X d mX3_levelsTogether 9 [.ref x0, .long x1, rU, .int x3] [.int (I s0 8), .int s1] (T, I, J, R) Q)) ∧
  (∀ (X : tX) (d : Nat) (x0 : Nat) (x1 : Int64) (x3 : Int32) (s0 : Int32) (s1 : Int32) (σ : rS) (Q : tQ), Ex X d mX3_levelsTogether 9 [.ref x0, .long x1, rU, .int x3] [.int s0, .int s1] σ Q = (if s0 ≤ s1 then Ex X d mX3_levelsTogether 31 [.ref x0, .long x1, rU, .int x3] [] σ Q else Ex X d mX3_levelsTogether 12 [.ref x0, .long x1, rU, .int x3] [] σ Q)) := ⟨fun X d x0 x1 x3 σ Q => ex_P (i := .iload_n 3) (len := 1) (by decide +kernel) rfl,
  fun X d x0 x1 x3 s0 σ Q => ex_P (i := .aload_n 0) (len := 1) (by decide +kernel) rfl,
  fun X d x0 x1 x3 s0 s1 T I J R Q => q_getI (k := 40) (by decide +kernel) rfl rfl (by decide),
  fun X d x0 x1 x3 s0 s1 σ Q => q_icmp_ge (o := 22) (by decide +kernel) rfl⟩
set_option maxRecDepth 50000 in
theorem gX3_levelsTogether_12 : (∀ (X : tX) (d : Nat) (x0 : Nat) (x1 : Int64) (x3 : Int32) (σ : rS) (Q : tQ), Ex X d mX3_levelsTogether 12 [.ref x0, .long x1, rU, .int x3] [] σ Q = Ex X d mX3_levelsTogether 13 [.ref x0, .long x1, rU, .int x3] [.long x1] σ Q) ∧
  (∀ (X : tX) (d : Nat) (x0 : Nat) (x1 : Int64) (x3 : Int32) (s0 : Int64) (σ : rS) (Q : tQ), Ex X d mX3_levelsTogether 13 [.ref x0, .long x1, rU, .int x3] [.long s0] σ Q = Ex X d mX3_levelsTogether 15 [.ref x0, .long x1, rU, .int x3] [.int 7, .long s0] σ Q) ∧
  (∀ (X : tX) (d : Nat) (x0 : Nat) (x1 : Int64) (x3 : Int32) (s0 : Int32) (s1 : Int64) (σ : rS) (Q : tQ), Ex X d mX3_levelsTogether 15 [.ref x0, .long x1, rU, .int x3] [.int s0, .long s1] σ Q = Ex X d mX3_levelsTogether 16 [.ref x0, .long x1, rU, .int x3] [.long (s1 <<< (s0.toInt64 &&& 63))] σ Q) ∧
  (∀ (X : tX) (d : Nat) (x0 : Nat) (x1 : Int64) (x3 : Int32) (s0 : Int64) (σ : rS) (Q : tQ), Ex X d mX3_levelsTogether 16 [.ref x0, .long x1, rU, .int x3] [.long s0] σ Q = Ex X d mX3_levelsTogether 17 [.ref x0, .long x1, rU, .int x3] [.ref x0, .long s0] σ Q) ∧
  (∀ (X : tX) (d : Nat) (x0 : Nat) (x1 : Int64) (x3 : Int32) (s0 : Nat) (s1 : Int64) (T : tT) (I : tI) (J : tJ) (R : tR) (Q : tQ), Ex X d mX3_levelsTogether 17 [.ref x0, .long x1, rU, .int x3] [.ref s0, .long s1] (T, I, J, R) Q = (T[s0]? = some (3, 3) ∧ Ex X d mX3_levelsTogether 20 [.ref x0, .long x1, rU, .int x3] [va_rf (R s0 0), .long s1] (T, I, J, R) Q)) ∧
  (∀ (X : tX) (d : Nat) (x0 : Nat) (x1 : Int64) (x3 : Int32) (s0 : Nat) (s1 : Int64) (σ : rS) (Q : tQ), Ex X d mX3_levelsTogether 20 [.ref x0, .long x1, rU, .int x3] [.ref s0, .long s1] σ Q = Ex X d mX3_levelsTogether 21 [.ref x0, .long x1, rU, .int x3] [.int x3, .ref s0, .long s1] σ Q) ∧
  (∀ (X : tX) (d : Nat) (x0 : Nat) (x1 : Int64) (x3 : Int32) (s0 : Int32) (s1 : Nat) (s2 : Int64) (T : tT) (I : tI) (J : tJ) (R : tR) (Q : tQ), Ex X d mX3_levelsTogether 21 [.ref x0, .long x1, rU, .int x3] [.int s0, .ref s1, .long s2] (T, I, J, R) Q = (rIn T s1 0 s0 ∧ Ex X d mX3_levelsTogether 22 [.ref x0, .long x1, rU, .int x3] [.int (I s1 s0.toNatClampNeg), .long s2] (T, I, J, R) Q)) ∧
  (∀ (X : tX) (d : Nat) (x0 : Nat) (x1 : Int64) (x3 : Int32) (s0 : Int32) (s1 : Int64) (σ : rS) (Q : tQ), Ex X d mX3_levelsTogether 22 [.ref x0, .long x1, rU, .int x3] [.int s0, .long s1] σ Q = Ex X d mX3_levelsTogether 23 [.ref x0, .long x1, rU, .int x3] [.long s0.toInt64, .long s1] σ Q) ∧
  (∀ (X : tX) (d : Nat) (x0 : Nat) (x1 : Int64) (x3 : Int32) (s0 : Int64) (s1 : Int64) (σ : rS) (Q : tQ), Ex X d mX3_levelsTogether 23 [.ref x0, .long x1, rU, .int x3] [.long s0, .long s1] σ Q = Ex X d mX3_levelsTogether 24 [.ref x0, .long x1, rU, .int x3] [.long (s1 ||| s0)] σ Q) ∧
  (∀ (X : tX) (d : Nat) (x0 : Nat) (x1 : Int64) (x3 : Int32) (s0 : Int64) (σ : rS) (Q : tQ), Ex X d mX3_levelsTogether 24 [.ref x0, .long x1, rU, .int x3] [.long s0] σ Q = Ex X d mX3_levelsTogether 25 [.ref x0, .long s0, rU, .int x3] [] σ Q) ∧
  (∀ (X : tX) (d : Nat) (x0 : Nat) (x1 : Int64) (x3 : Int32) (σ : rS) (Q : tQ), Ex X d mX3_levelsTogether 25 [.ref x0, .long x1, rU, .int x3] [] σ Q = Ex X d mX3_levelsTogether 28 [.ref x0, .long x1, rU, .int (x3 + 1)] [] σ Q) ∧
  (∀ (X : tX) (d : Nat) (x0 : Nat) (x1 : Int64) (x3 : Int32) (σ : rS) (Q : tQ), Ex X d mX3_levelsTogether 28 [.ref x0, .long x1, rU, .int x3] [] σ Q = Ex X d mX3_levelsTogether 4 [.ref x0, .long x1, rU, .int x3] [] σ Q) := ⟨fun X d x0 x1 x3 σ Q => ex_P (i := .lload_n 1) (len := 1) (by decide +kernel) rfl,
  fun X d x0 x1 x3 s0 σ Q => ex_P (i := .bipush 7) (len := 2) (by decide +kernel) rfl,
  fun X d x0 x1 x3 s0 s1 σ Q => ex_P (i := .lshl) (len := 1) (by decide +kernel) rfl,
  fun X d x0 x1 x3 s0 σ Q => ex_P (i := .aload_n 0) (len := 1) (by decide +kernel) rfl,
  fun X d x0 x1 x3 s0 s1 T I J R Q => q_getR (k := 11) (by decide +kernel) rfl rfl,
  fun X d x0 x1 x3 s0 s1 σ Q => ex_P (i := .iload_n 3) (len := 1) (by decide +kernel) rfl,
  fun X d x0 x1 x3 s0 s1 s2 T I J R Q => q_iald (by decide +kernel),
  fun X d x0 x1 x3 s0 s1 σ Q => ex_P (i := .i2l) (len := 1) (by decide +kernel) rfl,
  fun X d x0 x1 x3 s0 s1 σ Q => ex_P (i := .lor) (len := 1) (by decide +kernel) rfl,
  fun X d x0 x1 x3 s0 σ Q => ex_P (i := .lstore_n 1) (len := 1) (by decide +kernel) rfl,
  fun X d x0 x1 x3 σ Q => ex_P (i := .iinc 3 1) (len := 3) (by decide +kernel) rfl,
  fun X d x0 x1 x3 σ Q => q_goto (o := (-24)) (by decide +kernel) rfl⟩
set_option maxRecDepth 50000 in
theorem gX3_levelsTogether_31 : (∀ (X : tX) (d : Nat) (x0 : Nat) (x1 : Int64) (x3 : Int32) (σ : rS) (Q : tQ), Ex X d mX3_levelsTogether 31 [.ref x0, .long x1, rU, .int x3] [] σ Q = Ex X d mX3_levelsTogether 32 [.ref x0, .long x1, rU, .int x3] [.long x1] σ Q) ∧
  (∀ (X : tX) (d : Nat) (x0 : Nat) (x1 : Int64) (x3 : Int32) (s0 : Int64) (σ : rS) (Q : tQ), Ex X d mX3_levelsTogether 32 [.ref x0, .long x1, rU, .int x3] [.long s0] σ Q = Q (some (.long s0)) σ) := ⟨fun X d x0 x1 x3 σ Q => ex_P (i := .lload_n 1) (len := 1) (by decide +kernel) rfl,
  fun X d x0 x1 x3 s0 σ Q => q_retJ (by decide +kernel) rfl⟩
