set_option maxRecDepth 50000 in
theorem gX4_init_0 : (∀ (X : tX) (d : Nat) (x0 : Nat) (σ : rS) (Q : tQ), Ex X d mX4_init 0 [.ref x0] [] σ Q = Ex X d mX4_init 1 [.ref x0] [.ref x0] σ Q) ∧
  (∀ (X : tX) (d : Nat) (x0 : Nat) (s0 : Nat) (T : tT) (I : tI) (J : tJ) (R : tR) (Q : tQ), Ex X (d + 1) mX4_init 1 [.ref x0] [.ref s0] (T, I, J, R) Q = Ex X (d + 1) mX4_init 4 [.ref x0] [] (T, I, J, R) Q) ∧
  (∀ (X : tX) (d : Nat) (x0 : Nat) (σ : rS) (Q : tQ), Ex X d mX4_init 4 [.ref x0] [] σ Q = Ex X d mX4_init 5 [.ref x0] [.ref x0] σ Q) ∧
  (∀ (X : tX) (d : Nat) (x0 : Nat) (s0 : Nat) (σ : rS) (Q : tQ), Ex X d mX4_init 5 [.ref x0] [.ref s0] σ Q = Ex X d mX4_init 7 [.ref x0] [.int 60, .ref s0] σ Q) ∧
  (∀ (X : tX) (d : Nat) (x0 : Nat) (s0 : Nat) (s1 : Nat) (T : tT) (I : tI) (J : tJ) (R : tR) (Q : tQ), Ex X d mX4_init 9 [.ref x0] [.ref s0, .ref s1] (T, I, J, R) Q = (T[s1]? = some (3, 4) ∧ Ex X d mX4_init 12 [.ref x0] [] (T, I, J, va_up R s1 (va_up (R s1) 4 (some s0))) Q)) ∧
  (∀ (X : tX) (d : Nat) (x0 : Nat) (σ : rS) (Q : tQ), Ex X d mX4_init 12 [.ref x0] [] σ Q = Q none σ) := ⟨fun X d x0 σ Q => ex_P (i := .aload_n 0) (len := 1) (by decide +kernel) rfl,
  fun X d x0 s0 T I J R Q => q_objI (k := 1) (by decide +kernel) rfl (Nat.le_of_ble_eq_true rfl),
  fun X d x0 σ Q => ex_P (i := .aload_n 0) (len := 1) (by decide +kernel) rfl,
  fun X d x0 s0 σ Q => ex_P (i := .bipush 60) (len := 2) (by decide +kernel) rfl,
  fun X d x0 s0 s1 T I J R Q => q_putR (k := 9) (by decide +kernel) rfl rfl (by decide +kernel),
  fun X d x0 σ Q => q_retV (by decide +kernel) rfl⟩
set_option maxRecDepth 50000 in
theorem gX4_isBare_0 : (∀ (X : tX) (d : Nat) (x0 : Nat) (σ : rS) (Q : tQ), Ex X d mX4_isBare 0 [.ref x0] [] σ Q = Ex X d mX4_isBare 1 [.ref x0] [.ref x0] σ Q) ∧
  (∀ (X : tX) (d : Nat) (x0 : Nat) (s0 : Nat) (T : tT) (I : tI) (J : tJ) (R : tR) (Q : tQ), Ex X d mX4_isBare 1 [.ref x0] [.ref s0] (T, I, J, R) Q = (T[s0]? = some (3, 4) ∧ Ex X d mX4_isBare 4 [.ref x0] [.int (I s0 0)] (T, I, J, R) Q)) ∧
  (∀ (X : tX) (d : Nat) (x0 : Nat) (s0 : Int32) (σ : rS) (Q : tQ), Ex X d mX4_isBare 4 [.ref x0] [.int s0] σ Q = (if s0 = 0 then Ex X d mX4_isBare 7 [.ref x0] [] σ Q else Ex X d mX4_isBare 11 [.ref x0] [] σ Q)) := ⟨fun X d x0 σ Q => ex_P (i := .aload_n 0) (len := 1) (by decide +kernel) rfl,
  fun X d x0 s0 T I J R Q => q_getI (k := 13) (by decide +kernel) rfl rfl (by decide),
  fun X d x0 s0 σ Q => q_if_ne (o := 7) (by decide +kernel) rfl⟩
set_option maxRecDepth 50000 in
theorem gX4_isBare_7 : (∀ (X : tX) (d : Nat) (x0 : Nat) (σ : rS) (Q : tQ), Ex X d mX4_isBare 7 [.ref x0] [] σ Q = Ex X d mX4_isBare 8 [.ref x0] [.int 1] σ Q) ∧
  (∀ (X : tX) (d : Nat) (x0 : Nat) (s0 : Int32) (σ : rS) (Q : tQ), Ex X d mX4_isBare 8 [.ref x0] [.int s0] σ Q = Ex X d mX4_isBare 12 [.ref x0] [.int s0] σ Q) := ⟨fun X d x0 σ Q => ex_P (i := .iconst 1) (len := 1) (by decide +kernel) rfl,
  fun X d x0 s0 σ Q => q_goto (o := 4) (by decide +kernel) rfl⟩
set_option maxRecDepth 50000 in
theorem gX4_isBare_11 : (∀ (X : tX) (d : Nat) (x0 : Nat) (σ : rS) (Q : tQ), Ex X d mX4_isBare 11 [.ref x0] [] σ Q = Ex X d mX4_isBare 12 [.ref x0] [.int 0] σ Q) := fun X d x0 σ Q => ex_P (i := .iconst 0) (len := 1) (by decide +kernel) rfl
set_option maxRecDepth 50000 in
theorem gX4_isBare_12 : (∀ (X : tX) (d : Nat) (x0 : Nat) (s0 : Int32) (σ : rS) (Q : tQ), Ex X d mX4_isBare 12 [.ref x0] [.int s0] σ Q = ((s0 = 0 ∨ s0 = 1) ∧ Q (some (.int s0)) σ)) := fun X d x0 s0 σ Q => q_retZ (by decide +kernel) rfl
set_option maxRecDepth 50000 in
theorem gX4_isRow_0 : (∀ (X : tX) (d : Nat) (x0 : Nat) (σ : rS) (Q : tQ), Ex X d mX4_isRow 0 [.ref x0] [] σ Q = Ex X d mX4_isRow 1 [.ref x0] [.ref x0] σ Q) ∧
  (∀ (X : tX) (d : Nat) (x0 : Nat) (s0 : Nat) (T : tT) (I : tI) (J : tJ) (R : tR) (Q : tQ), Ex X d mX4_isRow 1 [.ref x0] [.ref s0] (T, I, J, R) Q = (T[s0]? = some (3, 4) ∧ Ex X d mX4_isRow 4 [.ref x0] [.int (I s0 0)] (T, I, J, R) Q)) ∧
  (∀ (X : tX) (d : Nat) (x0 : Nat) (s0 : Int32) (σ : rS) (Q : tQ), Ex X d mX4_isRow 4 [.ref x0] [.int s0] σ Q = Ex X d mX4_isRow 5 [.ref x0] [.int 2, .int s0] σ Q) ∧
  (∀ (X : tX) (d : Nat) (x0 : Nat) (s0 : Int32) (s1 : Int32) (σ : rS) (Q : tQ), Ex X d mX4_isRow 5 [.ref x0] [.int s0, .int s1] σ Q = (if s1 = s0 then Ex X d mX4_isRow 8 [.ref x0] [] σ Q else Ex X d mX4_isRow 12 [.ref x0] [] σ Q)) := ⟨fun X d x0 σ Q => ex_P (i := .aload_n 0) (len := 1) (by decide +kernel) rfl,
  fun X d x0 s0 T I J R Q => q_getI (k := 13) (by decide +kernel) rfl rfl (by decide),
  fun X d x0 s0 σ Q => ex_P (i := .iconst 2) (len := 1) (by decide +kernel) rfl,
  fun X d x0 s0 s1 σ Q => q_icmp_ne (o := 7) (by decide +kernel) rfl⟩
set_option maxRecDepth 50000 in
theorem gX4_isRow_8 : (∀ (X : tX) (d : Nat) (x0 : Nat) (σ : rS) (Q : tQ), Ex X d mX4_isRow 8 [.ref x0] [] σ Q = Ex X d mX4_isRow 9 [.ref x0] [.int 1] σ Q) ∧
  (∀ (X : tX) (d : Nat) (x0 : Nat) (s0 : Int32) (σ : rS) (Q : tQ), Ex X d mX4_isRow 9 [.ref x0] [.int s0] σ Q = Ex X d mX4_isRow 13 [.ref x0] [.int s0] σ Q) := ⟨fun X d x0 σ Q => ex_P (i := .iconst 1) (len := 1) (by decide +kernel) rfl,
  fun X d x0 s0 σ Q => q_goto (o := 4) (by decide +kernel) rfl⟩
set_option maxRecDepth 50000 in
theorem gX4_isRow_12 : (∀ (X : tX) (d : Nat) (x0 : Nat) (σ : rS) (Q : tQ), Ex X d mX4_isRow 12 [.ref x0] [] σ Q = Ex X d mX4_isRow 13 [.ref x0] [.int 0] σ Q) := fun X d x0 σ Q => ex_P (i := .iconst 0) (len := 1) (by decide +kernel) rfl
set_option maxRecDepth 50000 in
theorem gX4_isRow_13 : (∀ (X : tX) (d : Nat) (x0 : Nat) (s0 : Int32) (σ : rS) (Q : tQ), Ex X d mX4_isRow 13 [.ref x0] [.int s0] σ Q = ((s0 = 0 ∨ s0 = 1) ∧ Q (some (.int s0)) σ)) := fun X d x0 s0 σ Q => q_retZ (by decide +kernel) rfl
set_option maxRecDepth 50000 in
theorem gX4_isBytes_0 : (∀ (X : tX) (d : Nat) (x0 : Nat) (σ : rS) (Q : tQ), Ex X d mX4_isBytes 0 [.ref x0] [] σ Q = Ex X d mX4_isBytes 1 [.ref x0] [.ref x0] σ Q) ∧
  (∀ (X : tX) (d : Nat) (x0 : Nat) (s0 : Nat) (T : tT) (I : tI) (J : tJ) (R : tR) (Q : tQ), Ex X d mX4_isBytes 1 [.ref x0] [.ref s0] (T, I, J, R) Q = (T[s0]? = some (3, 4) ∧ Ex X d mX4_isBytes 4 [.ref x0] [.int (I s0 0)] (T, I, J, R) Q)) ∧
  (∀ (X : tX) (d : Nat) (x0 : Nat) (s0 : Int32) (σ : rS) (Q : tQ), Ex X d mX4_isBytes 4 [.ref x0] [.int s0] σ Q = Ex X d mX4_isBytes 5 [.ref x0] [.int 2, .int s0] σ Q) ∧
  (∀ (X : tX) (d : Nat) (x0 : Nat) (s0 : Int32) (s1 : Int32) (σ : rS) (Q : tQ), Ex X d mX4_isBytes 5 [.ref x0] [.int s0, .int s1] σ Q = (if s1 = s0 then Ex X d mX4_isBytes 8 [.ref x0] [] σ Q else Ex X d mX4_isBytes 19 [.ref x0] [] σ Q)) := ⟨fun X d x0 σ Q => ex_P (i := .aload_n 0) (len := 1) (by decide +kernel) rfl,
  fun X d x0 s0 T I J R Q => q_getI (k := 13) (by decide +kernel) rfl rfl (by decide),
  fun X d x0 s0 σ Q => ex_P (i := .iconst 2) (len := 1) (by decide +kernel) rfl,
  fun X d x0 s0 s1 σ Q => q_icmp_ne (o := 14) (by decide +kernel) rfl⟩
set_option maxRecDepth 50000 in
theorem gX4_isBytes_8 : (∀ (X : tX) (d : Nat) (x0 : Nat) (σ : rS) (Q : tQ), Ex X d mX4_isBytes 8 [.ref x0] [] σ Q = Ex X d mX4_isBytes 9 [.ref x0] [.ref x0] σ Q) ∧
  (∀ (X : tX) (d : Nat) (x0 : Nat) (s0 : Nat) (T : tT) (I : tI) (J : tJ) (R : tR) (Q : tQ), Ex X d mX4_isBytes 9 [.ref x0] [.ref s0] (T, I, J, R) Q = (T[s0]? = some (3, 4) ∧ Ex X d mX4_isBytes 12 [.ref x0] [.int (I s0 2)] (T, I, J, R) Q)) ∧
  (∀ (X : tX) (d : Nat) (x0 : Nat) (s0 : Int32) (σ : rS) (Q : tQ), Ex X d mX4_isBytes 12 [.ref x0] [.int s0] σ Q = (if s0 = 0 then Ex X d mX4_isBytes 15 [.ref x0] [] σ Q else Ex X d mX4_isBytes 19 [.ref x0] [] σ Q)) := ⟨fun X d x0 σ Q => ex_P (i := .aload_n 0) (len := 1) (by decide +kernel) rfl,
  fun X d x0 s0 T I J R Q => q_getI (k := 17) (by decide +kernel) rfl rfl (by decide),
  fun X d x0 s0 σ Q => q_if_ne (o := 7) (by decide +kernel) rfl⟩
set_option maxRecDepth 50000 in
theorem gX4_isBytes_15 : (∀ (X : tX) (d : Nat) (x0 : Nat) (σ : rS) (Q : tQ), Ex X d mX4_isBytes 15 [.ref x0] [] σ Q = Ex X d mX4_isBytes 16 [.ref x0] [.int 1] σ Q) ∧
  (∀ (X : tX) (d : Nat) (x0 : Nat) (s0 : Int32) (σ : rS) (Q : tQ), Ex X d mX4_isBytes 16 [.ref x0] [.int s0] σ Q = Ex X d mX4_isBytes 20 [.ref x0] [.int s0] σ Q) := ⟨fun X d x0 σ Q => ex_P (i := .iconst 1) (len := 1) (by decide +kernel) rfl,
  fun X d x0 s0 σ Q => q_goto (o := 4) (by decide +kernel) rfl⟩
set_option maxRecDepth 50000 in
theorem gX4_isBytes_19 : (∀ (X : tX) (d : Nat) (x0 : Nat) (σ : rS) (Q : tQ), Ex X d mX4_isBytes 19 [.ref x0] [] σ Q = Ex X d mX4_isBytes 20 [.ref x0] [.int 0] σ Q) := fun X d x0 σ Q => ex_P (i := .iconst 0) (len := 1) (by decide +kernel) rfl
set_option maxRecDepth 50000 in
theorem gX4_isBytes_20 : (∀ (X : tX) (d : Nat) (x0 : Nat) (s0 : Int32) (σ : rS) (Q : tQ), Ex X d mX4_isBytes 20 [.ref x0] [.int s0] σ Q = ((s0 = 0 ∨ s0 = 1) ∧ Q (some (.int s0)) σ)) := fun X d x0 s0 σ Q => q_retZ (by decide +kernel) rfl
set_option maxRecDepth 50000 in
theorem gX4_holdNothing_0 : (∀ (X : tX) (d : Nat) (x0 : Nat) (σ : rS) (Q : tQ), Ex X d mX4_holdNothing 0 [.ref x0] [] σ Q = Ex X d mX4_holdNothing 1 [.ref x0] [.ref x0] σ Q) ∧
  (∀ (X : tX) (d : Nat) (x0 : Nat) (s0 : Nat) (σ : rS) (Q : tQ), Ex X d mX4_holdNothing 1 [.ref x0] [.ref s0] σ Q = Ex X d mX4_holdNothing 2 [.ref x0] [.int 0, .ref s0] σ Q) ∧
  (∀ (X : tX) (d : Nat) (x0 : Nat) (s0 : Int32) (s1 : Nat) (T : tT) (I : tI) (J : tJ) (R : tR) (Q : tQ), Ex X d mX4_holdNothing 2 [.ref x0] [.int s0, .ref s1] (T, I, J, R) Q = (T[s1]? = some (3, 4) ∧ Ex X d mX4_holdNothing 5 [.ref x0] [] (T, va_up I s1 (va_up (I s1) 0 s0), J, R) Q)) ∧
  (∀ (X : tX) (d : Nat) (x0 : Nat) (σ : rS) (Q : tQ), Ex X d mX4_holdNothing 5 [.ref x0] [] σ Q = Q none σ) := ⟨fun X d x0 σ Q => ex_P (i := .aload_n 0) (len := 1) (by decide +kernel) rfl,
  fun X d x0 s0 σ Q => ex_P (i := .iconst 0) (len := 1) (by decide +kernel) rfl,
  fun X d x0 s0 s1 T I J R Q => q_putI (k := 13) (by decide +kernel) rfl rfl (by decide +kernel),
  fun X d x0 σ Q => q_retV (by decide +kernel) rfl⟩
set_option maxRecDepth 50000 in
theorem gX4_holdStep_0 : (∀ (X : tX) (d : Nat) (x0 : Nat) (x1 : Int32) (σ : rS) (Q : tQ), Ex X d mX4_holdStep 0 [.ref x0, .int x1] [] σ Q = Ex X d mX4_holdStep 1 [.ref x0, .int x1] [.ref x0] σ Q) ∧
  (∀ (X : tX) (d : Nat) (x0 : Nat) (x1 : Int32) (s0 : Nat) (σ : rS) (Q : tQ), Ex X d mX4_holdStep 1 [.ref x0, .int x1] [.ref s0] σ Q = Ex X d mX4_holdStep 2 [.ref x0, .int x1] [.int 1, .ref s0] σ Q) ∧
  (∀ (X : tX) (d : Nat) (x0 : Nat) (x1 : Int32) (s0 : Int32) (s1 : Nat) (T : tT) (I : tI) (J : tJ) (R : tR) (Q : tQ), Ex X d mX4_holdStep 2 [.ref x0, .int x1] [.int s0, .ref s1] (T, I, J, R) Q = (T[s1]? = some (3, 4) ∧ Ex X d mX4_holdStep 5 [.ref x0, .int x1] [] (T, va_up I s1 (va_up (I s1) 0 s0), J, R) Q)) ∧
  (∀ (X : tX) (d : Nat) (x0 : Nat) (x1 : Int32) (σ : rS) (Q : tQ), Ex X d mX4_holdStep 5 [.ref x0, .int x1] [] σ Q = Ex X d mX4_holdStep 6 [.ref x0, .int x1] [.ref x0] σ Q) ∧
  (∀ (X : tX) (d : Nat) (x0 : Nat) (x1 : Int32) (s0 : Nat) (σ : rS) (Q : tQ), Ex X d mX4_holdStep 6 [.ref x0, .int x1] [.ref s0] σ Q = Ex X d mX4_holdStep 7 [.ref x0, .int x1] [.int x1, .ref s0] σ Q) ∧
  (∀ (X : tX) (d : Nat) (x0 : Nat) (x1 : Int32) (s0 : Int32) (s1 : Nat) (T : tT) (I : tI) (J : tJ) (R : tR) (Q : tQ), Ex X d mX4_holdStep 7 [.ref x0, .int x1] [.int s0, .ref s1] (T, I, J, R) Q = (T[s1]? = some (3, 4) ∧ Ex X d mX4_holdStep 10 [.ref x0, .int x1] [] (T, va_up I s1 (va_up (I s1) 1 s0), J, R) Q)) ∧
  (∀ (X : tX) (d : Nat) (x0 : Nat) (x1 : Int32) (σ : rS) (Q : tQ), Ex X d mX4_holdStep 10 [.ref x0, .int x1] [] σ Q = Q none σ) := ⟨fun X d x0 x1 σ Q => ex_P (i := .aload_n 0) (len := 1) (by decide +kernel) rfl,
  fun X d x0 x1 s0 σ Q => ex_P (i := .iconst 1) (len := 1) (by decide +kernel) rfl,
  fun X d x0 x1 s0 s1 T I J R Q => q_putI (k := 13) (by decide +kernel) rfl rfl (by decide +kernel),
  fun X d x0 x1 σ Q => ex_P (i := .aload_n 0) (len := 1) (by decide +kernel) rfl,
  fun X d x0 x1 s0 σ Q => ex_P (i := .iload_n 1) (len := 1) (by decide +kernel) rfl,
  fun X d x0 x1 s0 s1 T I J R Q => q_putI (k := 20) (by decide +kernel) rfl rfl (by decide +kernel),
  fun X d x0 x1 σ Q => q_retV (by decide +kernel) rfl⟩
set_option maxRecDepth 50000 in
theorem gX4_holdRow_0 : (∀ (X : tX) (d : Nat) (x0 : Nat) (x1 : Int32) (x2 : Int32) (σ : rS) (Q : tQ), Ex X d mX4_holdRow 0 [.ref x0, .int x1, .int x2, rU] [] σ Q = Ex X d mX4_holdRow 1 [.ref x0, .int x1, .int x2, rU] [.ref x0] σ Q) ∧
  (∀ (X : tX) (d : Nat) (x0 : Nat) (x1 : Int32) (x2 : Int32) (s0 : Nat) (σ : rS) (Q : tQ), Ex X d mX4_holdRow 1 [.ref x0, .int x1, .int x2, rU] [.ref s0] σ Q = Ex X d mX4_holdRow 2 [.ref x0, .int x1, .int x2, rU] [.int 2, .ref s0] σ Q) ∧
  (∀ (X : tX) (d : Nat) (x0 : Nat) (x1 : Int32) (x2 : Int32) (s0 : Int32) (s1 : Nat) (T : tT) (I : tI) (J : tJ) (R : tR) (Q : tQ), Ex X d mX4_holdRow 2 [.ref x0, .int x1, .int x2, rU] [.int s0, .ref s1] (T, I, J, R) Q = (T[s1]? = some (3, 4) ∧ Ex X d mX4_holdRow 5 [.ref x0, .int x1, .int x2, rU] [] (T, va_up I s1 (va_up (I s1) 0 s0), J, R) Q)) ∧
  (∀ (X : tX) (d : Nat) (x0 : Nat) (x1 : Int32) (x2 : Int32) (σ : rS) (Q : tQ), Ex X d mX4_holdRow 5 [.ref x0, .int x1, .int x2, rU] [] σ Q = Ex X d mX4_holdRow 6 [.ref x0, .int x1, .int x2, rU] [.ref x0] σ Q) ∧
  (∀ (X : tX) (d : Nat) (x0 : Nat) (x1 : Int32) (x2 : Int32) (s0 : Nat) (σ : rS) (Q : tQ), Ex X d mX4_holdRow 6 [.ref x0, .int x1, .int x2, rU] [.ref s0] σ Q = Ex X d mX4_holdRow 7 [.ref x0, .int x1, .int x2, rU] [.int x1, .ref s0] σ Q) ∧
  (∀ (X : tX) (d : Nat) (x0 : Nat) (x1 : Int32) (x2 : Int32) (s0 : Int32) (s1 : Nat) (T : tT) (I : tI) (J : tJ) (R : tR) (Q : tQ), Ex X d mX4_holdRow 7 [.ref x0, .int x1, .int x2, rU] [.int s0, .ref s1] (T, I, J, R) Q = (T[s1]? = some (3, 4) ∧ Ex X d mX4_holdRow 10 [.ref x0, .int x1, .int x2, rU] [] (T, va_up I s1 (va_up (I s1) 2 s0), J, R) Q)) ∧
  (∀ (X : tX) (d : Nat) (x0 : Nat) (x1 : Int32) (x2 : Int32) (σ : rS) (Q : tQ), Ex X d mX4_holdRow 10 [.ref x0, .int x1, .int x2, rU] [] σ Q = Ex X d mX4_holdRow 11 [.ref x0, .int x1, .int x2, rU] [.ref x0] σ Q) ∧
  (∀ (X : tX) (d : Nat) (x0 : Nat) (x1 : Int32) (x2 : Int32) (s0 : Nat) (σ : rS) (Q : tQ), Ex X d mX4_holdRow 11 [.ref x0, .int x1, .int x2, rU] [.ref s0] σ Q = Ex X d mX4_holdRow 12 [.ref x0, .int x1, .int x2, rU] [.int 0, .ref s0] σ Q) ∧
  (∀ (X : tX) (d : Nat) (x0 : Nat) (x1 : Int32) (x2 : Int32) (s0 : Int32) (s1 : Nat) (σ : rS) (Q : tQ), Ex X d mX4_holdRow 12 [.ref x0, .int x1, .int x2, rU] [.int s0, .ref s1] σ Q = Ex X d mX4_holdRow 13 [.ref x0, .int x1, .int x2, rU] [.int x2, .int s0, .ref s1] σ Q) ∧
  (∀ (X : tX) (d : Nat) (x0 : Nat) (x1 : Int32) (x2 : Int32) (s0 : Int32) (s1 : Int32) (s2 : Nat) (σ : rS) (Q : tQ), Ex X d mX4_holdRow 13 [.ref x0, .int x1, .int x2, rU] [.int s0, .int s1, .ref s2] σ Q = Ex X d mX4_holdRow 15 [.ref x0, .int x1, .int x2, rU] [.int 60, .int s0, .int s1, .ref s2] σ Q) ∧
  (∀ (X : tX) (d : Nat) (x0 : Nat) (x1 : Int32) (x2 : Int32) (s0 : Int32) (s1 : Int32) (s2 : Int32) (s3 : Nat) (T : tT) (I : tI) (J : tJ) (R : tR) (Q : tQ), Ex X (d + 1) mX4_holdRow 15 [.ref x0, .int x1, .int x2, rU] [.int s0, .int s1, .int s2, .ref s3] (T, I, J, R) Q = Ex X (d + 1) mX4_holdRow 18 [.ref x0, .int x1, .int x2, rU] [.int (if s0 < s1 then s0 else s1), .int s2, .ref s3] (T, I, J, R) Q) ∧
  (∀ (X : tX) (d : Nat) (x0 : Nat) (x1 : Int32) (x2 : Int32) (s0 : Int32) (s1 : Int32) (s2 : Nat) (T : tT) (I : tI) (J : tJ) (R : tR) (Q : tQ), Ex X (d + 1) mX4_holdRow 18 [.ref x0, .int x1, .int x2, rU] [.int s0, .int s1, .ref s2] (T, I, J, R) Q = Ex X (d + 1) mX4_holdRow 21 [.ref x0, .int x1, .int x2, rU] [.int (if s1 < s0 then s0 else s1), .ref s2] (T, I, J, R) Q) ∧
  (∀ (X : tX) (d : Nat) (x0 : Nat) (x1 : Int32) (x2 : Int32) (s0 : Int32) (s1 : Nat) (T : tT) (I : tI) (J : tJ) (R : tR) (Q : tQ), Ex X d mX4_holdRow 21 [.ref x0, .int x1, .int x2, rU] [.int s0, .ref s1] (T, I, J, R) Q = (T[s1]? = some (3, 4) ∧ Ex X d mX4_holdRow 24 [.ref x0, .int x1, .int x2, rU] [] (T, va_up I s1 (va_up (I s1) 3 s0), J, R) Q)) ∧
  (∀ (X : tX) (d : Nat) (x0 : Nat) (x1 : Int32) (x2 : Int32) (σ : rS) (Q : tQ), Ex X d mX4_holdRow 24 [.ref x0, .int x1, .int x2, rU] [] σ Q = Ex X d mX4_holdRow 25 [.ref x0, .int x1, .int x2, rU] [.int 0] σ Q) ∧
  (∀ (X : tX) (d : Nat) (x0 : Nat) (x1 : Int32) (x2 : Int32) (s0 : Int32) (σ : rS) (Q : tQ), Ex X d mX4_holdRow 25 [.ref x0, .int x1, .int x2, rU] [.int s0] σ Q = Ex X d mX4_holdRow 26 [.ref x0, .int x1, .int x2, .int s0] [] σ Q) := ⟨fun X d x0 x1 x2 σ Q => ex_P (i := .aload_n 0) (len := 1) (by decide +kernel) rfl,
  fun X d x0 x1 x2 s0 σ Q => ex_P (i := .iconst 2) (len := 1) (by decide +kernel) rfl,
  fun X d x0 x1 x2 s0 s1 T I J R Q => q_putI (k := 13) (by decide +kernel) rfl rfl (by decide +kernel),
  fun X d x0 x1 x2 σ Q => ex_P (i := .aload_n 0) (len := 1) (by decide +kernel) rfl,
  fun X d x0 x1 x2 s0 σ Q => ex_P (i := .iload_n 1) (len := 1) (by decide +kernel) rfl,
  fun X d x0 x1 x2 s0 s1 T I J R Q => q_putI (k := 17) (by decide +kernel) rfl rfl (by decide +kernel),
  fun X d x0 x1 x2 σ Q => ex_P (i := .aload_n 0) (len := 1) (by decide +kernel) rfl,
  fun X d x0 x1 x2 s0 σ Q => ex_P (i := .iconst 0) (len := 1) (by decide +kernel) rfl,
  fun X d x0 x1 x2 s0 s1 σ Q => ex_P (i := .iload_n 2) (len := 1) (by decide +kernel) rfl,
  fun X d x0 x1 x2 s0 s1 s2 σ Q => ex_P (i := .bipush 60) (len := 2) (by decide +kernel) rfl,
  fun X d x0 x1 x2 s0 s1 s2 s3 T I J R Q => q_min (k := 23) (by decide +kernel) rfl rfl (Nat.le_of_ble_eq_true rfl),
  fun X d x0 x1 x2 s0 s1 s2 T I J R Q => q_max (k := 29) (by decide +kernel) rfl (Nat.le_of_ble_eq_true rfl),
  fun X d x0 x1 x2 s0 s1 T I J R Q => q_putI (k := 32) (by decide +kernel) rfl rfl (by decide +kernel),
  fun X d x0 x1 x2 σ Q => ex_P (i := .iconst 0) (len := 1) (by decide +kernel) rfl,
  fun X d x0 x1 x2 s0 σ Q => ex_P (i := .istore_n 3) (len := 1) (by decide +kernel) rfl⟩
set_option maxRecDepth 50000 in
theorem gX4_holdRow_26 : (∀ (X : tX) (d : Nat) (x0 : Nat) (x1 : Int32) (x2 : Int32) (x3 : Int32) (σ : rS) (Q : tQ), Ex X d mX4_holdRow 26 [.ref x0, .int x1, .int x2, .int x3] [] σ Q = Ex X d mX4_holdRow 27 [.ref x0, .int x1, .int x2, .int x3] [.int x3] σ Q) ∧
  (∀ (X : tX) (d : Nat) (x0 : Nat) (x1 : Int32) (x2 : Int32) (x3 : Int32) (s0 : Int32) (σ : rS) (Q : tQ), Ex X d mX4_holdRow 27 [.ref x0, .int x1, .int x2, .int x3] [.int s0] σ Q = Ex X d mX4_holdRow 28 [.ref x0, .int x1, .int x2, .int x3] [.ref x0, .int s0] σ Q) ∧
  (∀ (X : tX) (d : Nat) (x0 : Nat) (x1 : Int32) (x2 : Int32) (x3 : Int32) (s0 : Nat) (s1 : Int32) (T : tT) (I : tI) (J : tJ) (R : tR) (Q : tQ), Ex X d mX4_holdRow 28 [.ref x0, .int x1, .int x2, .int x3] [.ref s0, .int s1] (T, I, J, R) Q = (T[s0]? = some (3, 4) ∧ Ex X d mX4_holdRow 31 [.ref x0, .int x1, .int x2, .int x3] [.int (I s0 3), .int s1] (T, I, J, R) Q)) ∧
  (∀ (X : tX) (d : Nat) (x0 : Nat) (x1 : Int32) (x2 : Int32) (x3 : Int32) (s0 : Int32) (s1 : Int32) (σ : rS) (Q : tQ), Ex X d mX4_holdRow 31 [.ref x0, .int x1, .int x2, .int x3] [.int s0, .int s1] σ Q = (if s0 ≤ s1 then Ex X d mX4_holdRow 47 [.ref x0, .int x1, .int x2, .int x3] [] σ Q else Ex X d mX4_holdRow 34 [.ref x0, .int x1, .int x2, .int x3] [] σ Q)) := ⟨fun X d x0 x1 x2 x3 σ Q => ex_P (i := .iload_n 3) (len := 1) (by decide +kernel) rfl,
  fun X d x0 x1 x2 x3 s0 σ Q => ex_P (i := .aload_n 0) (len := 1) (by decide +kernel) rfl,
  fun X d x0 x1 x2 x3 s0 s1 T I J R Q => q_getI (k := 32) (by decide +kernel) rfl rfl (by decide),
  fun X d x0 x1 x2 x3 s0 s1 σ Q => q_icmp_ge (o := 16) (by decide +kernel) rfl⟩
set_option maxRecDepth 50000 in
theorem gX4_holdRow_34 : (∀ (X : tX) (d : Nat) (x0 : Nat) (x1 : Int32) (x2 : Int32) (x3 : Int32) (σ : rS) (Q : tQ), Ex X d mX4_holdRow 34 [.ref x0, .int x1, .int x2, .int x3] [] σ Q = Ex X d mX4_holdRow 35 [.ref x0, .int x1, .int x2, .int x3] [.ref x0] σ Q) ∧
  (∀ (X : tX) (d : Nat) (x0 : Nat) (x1 : Int32) (x2 : Int32) (x3 : Int32) (s0 : Nat) (T : tT) (I : tI) (J : tJ) (R : tR) (Q : tQ), Ex X d mX4_holdRow 35 [.ref x0, .int x1, .int x2, .int x3] [.ref s0] (T, I, J, R) Q = (T[s0]? = some (3, 4) ∧ Ex X d mX4_holdRow 38 [.ref x0, .int x1, .int x2, .int x3] [va_rf (R s0 4)] (T, I, J, R) Q)) ∧
  (∀ (X : tX) (d : Nat) (x0 : Nat) (x1 : Int32) (x2 : Int32) (x3 : Int32) (s0 : Nat) (σ : rS) (Q : tQ), Ex X d mX4_holdRow 38 [.ref x0, .int x1, .int x2, .int x3] [.ref s0] σ Q = Ex X d mX4_holdRow 39 [.ref x0, .int x1, .int x2, .int x3] [.int x3, .ref s0] σ Q) ∧
  (∀ (X : tX) (d : Nat) (x0 : Nat) (x1 : Int32) (x2 : Int32) (x3 : Int32) (s0 : Int32) (s1 : Nat) (σ : rS) (Q : tQ), Ex X d mX4_holdRow 39 [.ref x0, .int x1, .int x2, .int x3] [.int s0, .ref s1] σ Q = Ex X d mX4_holdRow 40 [.ref x0, .int x1, .int x2, .int x3] [.long 0, .int s0, .ref s1] σ Q) ∧
  (∀ (X : tX) (d : Nat) (x0 : Nat) (x1 : Int32) (x2 : Int32) (x3 : Int32) (s0 : Int64) (s1 : Int32) (s2 : Nat) (T : tT) (I : tI) (J : tJ) (R : tR) (Q : tQ), Ex X d mX4_holdRow 40 [.ref x0, .int x1, .int x2, .int x3] [.long s0, .int s1, .ref s2] (T, I, J, R) Q = (rIn T s2 1 s1 ∧ Ex X d mX4_holdRow 41 [.ref x0, .int x1, .int x2, .int x3] [] (T, I, va_up J s2 (va_up (J s2) s1.toNatClampNeg s0), R) Q)) ∧
  (∀ (X : tX) (d : Nat) (x0 : Nat) (x1 : Int32) (x2 : Int32) (x3 : Int32) (σ : rS) (Q : tQ), Ex X d mX4_holdRow 41 [.ref x0, .int x1, .int x2, .int x3] [] σ Q = Ex X d mX4_holdRow 44 [.ref x0, .int x1, .int x2, .int (x3 + 1)] [] σ Q) ∧
  (∀ (X : tX) (d : Nat) (x0 : Nat) (x1 : Int32) (x2 : Int32) (x3 : Int32) (σ : rS) (Q : tQ), Ex X d mX4_holdRow 44 [.ref x0, .int x1, .int x2, .int x3] [] σ Q = Ex X d mX4_holdRow 26 [.ref x0, .int x1, .int x2, .int x3] [] σ Q) := ⟨fun X d x0 x1 x2 x3 σ Q => ex_P (i := .aload_n 0) (len := 1) (by decide +kernel) rfl,
  fun X d x0 x1 x2 x3 s0 T I J R Q => q_getR (k := 9) (by decide +kernel) rfl rfl,
  fun X d x0 x1 x2 x3 s0 σ Q => ex_P (i := .iload_n 3) (len := 1) (by decide +kernel) rfl,
  fun X d x0 x1 x2 x3 s0 s1 σ Q => ex_P (i := .lconst 0) (len := 1) (by decide +kernel) rfl,
  fun X d x0 x1 x2 x3 s0 s1 s2 T I J R Q => q_last (by decide +kernel),
  fun X d x0 x1 x2 x3 σ Q => ex_P (i := .iinc 3 1) (len := 3) (by decide +kernel) rfl,
  fun X d x0 x1 x2 x3 σ Q => q_goto (o := (-18)) (by decide +kernel) rfl⟩
set_option maxRecDepth 50000 in
theorem gX4_holdRow_47 : (∀ (X : tX) (d : Nat) (x0 : Nat) (x1 : Int32) (x2 : Int32) (x3 : Int32) (σ : rS) (Q : tQ), Ex X d mX4_holdRow 47 [.ref x0, .int x1, .int x2, .int x3] [] σ Q = Q none σ) := fun X d x0 x1 x2 x3 σ Q => q_retV (by decide +kernel) rfl
set_option maxRecDepth 50000 in
theorem gX4_hasPlaces_0 : (∀ (X : tX) (d : Nat) (x0 : Nat) (x1 : Int32) (x2 : Int32) (σ : rS) (Q : tQ), Ex X d mX4_hasPlaces 0 [.ref x0, .int x1, .int x2] [] σ Q = Ex X d mX4_hasPlaces 1 [.ref x0, .int x1, .int x2] [.int x1] σ Q) ∧
  (∀ (X : tX) (d : Nat) (x0 : Nat) (x1 : Int32) (x2 : Int32) (s0 : Int32) (σ : rS) (Q : tQ), Ex X d mX4_hasPlaces 1 [.ref x0, .int x1, .int x2] [.int s0] σ Q = (if s0 < 0 then Ex X d mX4_hasPlaces 30 [.ref x0, .int x1, .int x2] [] σ Q else Ex X d mX4_hasPlaces 4 [.ref x0, .int x1, .int x2] [] σ Q)) := ⟨fun X d x0 x1 x2 σ Q => ex_P (i := .iload_n 1) (len := 1) (by decide +kernel) rfl,
  fun X d x0 x1 x2 s0 σ Q => q_if_lt (o := 29) (by decide +kernel) rfl⟩
set_option maxRecDepth 50000 in
theorem gX4_hasPlaces_4 : (∀ (X : tX) (d : Nat) (x0 : Nat) (x1 : Int32) (x2 : Int32) (σ : rS) (Q : tQ), Ex X d mX4_hasPlaces 4 [.ref x0, .int x1, .int x2] [] σ Q = Ex X d mX4_hasPlaces 5 [.ref x0, .int x1, .int x2] [.int x2] σ Q) ∧
  (∀ (X : tX) (d : Nat) (x0 : Nat) (x1 : Int32) (x2 : Int32) (s0 : Int32) (σ : rS) (Q : tQ), Ex X d mX4_hasPlaces 5 [.ref x0, .int x1, .int x2] [.int s0] σ Q = (if s0 < 0 then Ex X d mX4_hasPlaces 30 [.ref x0, .int x1, .int x2] [] σ Q else Ex X d mX4_hasPlaces 8 [.ref x0, .int x1, .int x2] [] σ Q)) := ⟨fun X d x0 x1 x2 σ Q => ex_P (i := .iload_n 2) (len := 1) (by decide +kernel) rfl,
  fun X d x0 x1 x2 s0 σ Q => q_if_lt (o := 25) (by decide +kernel) rfl⟩
set_option maxRecDepth 50000 in
theorem gX4_hasPlaces_8 : (∀ (X : tX) (d : Nat) (x0 : Nat) (x1 : Int32) (x2 : Int32) (σ : rS) (Q : tQ), Ex X d mX4_hasPlaces 8 [.ref x0, .int x1, .int x2] [] σ Q = Ex X d mX4_hasPlaces 9 [.ref x0, .int x1, .int x2] [.int x2] σ Q) ∧
  (∀ (X : tX) (d : Nat) (x0 : Nat) (x1 : Int32) (x2 : Int32) (s0 : Int32) (σ : rS) (Q : tQ), Ex X d mX4_hasPlaces 9 [.ref x0, .int x1, .int x2] [.int s0] σ Q = Ex X d mX4_hasPlaces 10 [.ref x0, .int x1, .int x2] [.ref x0, .int s0] σ Q) ∧
  (∀ (X : tX) (d : Nat) (x0 : Nat) (x1 : Int32) (x2 : Int32) (s0 : Nat) (s1 : Int32) (T : tT) (I : tI) (J : tJ) (R : tR) (Q : tQ), Ex X d mX4_hasPlaces 10 [.ref x0, .int x1, .int x2] [.ref s0, .int s1] (T, I, J, R) Q = (T[s0]? = some (3, 4) ∧ Ex X d mX4_hasPlaces 13 [.ref x0, .int x1, .int x2] [.int (I s0 3), .int s1] (T, I, J, R) Q)) ∧
  (∀ (X : tX) (d : Nat) (x0 : Nat) (x1 : Int32) (x2 : Int32) (s0 : Int32) (s1 : Int32) (σ : rS) (Q : tQ), Ex X d mX4_hasPlaces 13 [.ref x0, .int x1, .int x2] [.int s0, .int s1] σ Q = (if s0 < s1 then Ex X d mX4_hasPlaces 30 [.ref x0, .int x1, .int x2] [] σ Q else Ex X d mX4_hasPlaces 16 [.ref x0, .int x1, .int x2] [] σ Q)) := ⟨fun X d x0 x1 x2 σ Q => ex_P (i := .iload_n 2) (len := 1) (by decide +kernel) rfl,
  fun X d x0 x1 x2 s0 σ Q => ex_P (i := .aload_n 0) (len := 1) (by decide +kernel) rfl,
  fun X d x0 x1 x2 s0 s1 T I J R Q => q_getI (k := 32) (by decide +kernel) rfl rfl (by decide),
  fun X d x0 x1 x2 s0 s1 σ Q => q_icmp_gt (o := 17) (by decide +kernel) rfl⟩
set_option maxRecDepth 50000 in
theorem gX4_hasPlaces_16 : (∀ (X : tX) (d : Nat) (x0 : Nat) (x1 : Int32) (x2 : Int32) (σ : rS) (Q : tQ), Ex X d mX4_hasPlaces 16 [.ref x0, .int x1, .int x2] [] σ Q = Ex X d mX4_hasPlaces 17 [.ref x0, .int x1, .int x2] [.int x1] σ Q) ∧
  (∀ (X : tX) (d : Nat) (x0 : Nat) (x1 : Int32) (x2 : Int32) (s0 : Int32) (σ : rS) (Q : tQ), Ex X d mX4_hasPlaces 17 [.ref x0, .int x1, .int x2] [.int s0] σ Q = Ex X d mX4_hasPlaces 18 [.ref x0, .int x1, .int x2] [.ref x0, .int s0] σ Q) ∧
  (∀ (X : tX) (d : Nat) (x0 : Nat) (x1 : Int32) (x2 : Int32) (s0 : Nat) (s1 : Int32) (T : tT) (I : tI) (J : tJ) (R : tR) (Q : tQ), Ex X d mX4_hasPlaces 18 [.ref x0, .int x1, .int x2] [.ref s0, .int s1] (T, I, J, R) Q = (T[s0]? = some (3, 4) ∧ Ex X d mX4_hasPlaces 21 [.ref x0, .int x1, .int x2] [.int (I s0 3), .int s1] (T, I, J, R) Q)) ∧
  (∀ (X : tX) (d : Nat) (x0 : Nat) (x1 : Int32) (x2 : Int32) (s0 : Int32) (s1 : Int32) (σ : rS) (Q : tQ), Ex X d mX4_hasPlaces 21 [.ref x0, .int x1, .int x2] [.int s0, .int s1] σ Q = Ex X d mX4_hasPlaces 22 [.ref x0, .int x1, .int x2] [.int x2, .int s0, .int s1] σ Q) ∧
  (∀ (X : tX) (d : Nat) (x0 : Nat) (x1 : Int32) (x2 : Int32) (s0 : Int32) (s1 : Int32) (s2 : Int32) (σ : rS) (Q : tQ), Ex X d mX4_hasPlaces 22 [.ref x0, .int x1, .int x2] [.int s0, .int s1, .int s2] σ Q = Ex X d mX4_hasPlaces 23 [.ref x0, .int x1, .int x2] [.int (s1 - s0), .int s2] σ Q) ∧
  (∀ (X : tX) (d : Nat) (x0 : Nat) (x1 : Int32) (x2 : Int32) (s0 : Int32) (s1 : Int32) (σ : rS) (Q : tQ), Ex X d mX4_hasPlaces 23 [.ref x0, .int x1, .int x2] [.int s0, .int s1] σ Q = (if s0 < s1 then Ex X d mX4_hasPlaces 30 [.ref x0, .int x1, .int x2] [] σ Q else Ex X d mX4_hasPlaces 26 [.ref x0, .int x1, .int x2] [] σ Q)) := ⟨fun X d x0 x1 x2 σ Q => ex_P (i := .iload_n 1) (len := 1) (by decide +kernel) rfl,
  fun X d x0 x1 x2 s0 σ Q => ex_P (i := .aload_n 0) (len := 1) (by decide +kernel) rfl,
  fun X d x0 x1 x2 s0 s1 T I J R Q => q_getI (k := 32) (by decide +kernel) rfl rfl (by decide),
  fun X d x0 x1 x2 s0 s1 σ Q => ex_P (i := .iload_n 2) (len := 1) (by decide +kernel) rfl,
  fun X d x0 x1 x2 s0 s1 s2 σ Q => ex_P (i := .isub) (len := 1) (by decide +kernel) rfl,
  fun X d x0 x1 x2 s0 s1 σ Q => q_icmp_gt (o := 7) (by decide +kernel) rfl⟩
set_option maxRecDepth 50000 in
theorem gX4_hasPlaces_26 : (∀ (X : tX) (d : Nat) (x0 : Nat) (x1 : Int32) (x2 : Int32) (σ : rS) (Q : tQ), Ex X d mX4_hasPlaces 26 [.ref x0, .int x1, .int x2] [] σ Q = Ex X d mX4_hasPlaces 27 [.ref x0, .int x1, .int x2] [.int 1] σ Q) ∧
  (∀ (X : tX) (d : Nat) (x0 : Nat) (x1 : Int32) (x2 : Int32) (s0 : Int32) (σ : rS) (Q : tQ), Ex X d mX4_hasPlaces 27 [.ref x0, .int x1, .int x2] [.int s0] σ Q = Ex X d mX4_hasPlaces 31 [.ref x0, .int x1, .int x2] [.int s0] σ Q) := ⟨fun X d x0 x1 x2 σ Q => ex_P (i := .iconst 1) (len := 1) (by decide +kernel) rfl,
  fun X d x0 x1 x2 s0 σ Q => q_goto (o := 4) (by decide +kernel) rfl⟩
set_option maxRecDepth 50000 in
theorem gX4_hasPlaces_30 : (∀ (X : tX) (d : Nat) (x0 : Nat) (x1 : Int32) (x2 : Int32) (σ : rS) (Q : tQ), Ex X d mX4_hasPlaces 30 [.ref x0, .int x1, .int x2] [] σ Q = Ex X d mX4_hasPlaces 31 [.ref x0, .int x1, .int x2] [.int 0] σ Q) := fun X d x0 x1 x2 σ Q => ex_P (i := .iconst 0) (len := 1) (by decide +kernel) rfl
set_option maxRecDepth 50000 in
theorem gX4_hasPlaces_31 : (∀ (X : tX) (d : Nat) (x0 : Nat) (x1 : Int32) (x2 : Int32) (s0 : Int32) (σ : rS) (Q : tQ), Ex X d mX4_hasPlaces 31 [.ref x0, .int x1, .int x2] [.int s0] σ Q = ((s0 = 0 ∨ s0 = 1) ∧ Q (some (.int s0)) σ)) := fun X d x0 x1 x2 s0 σ Q => q_retZ (by decide +kernel) rfl
set_option maxRecDepth 50000 in
theorem gX4_small_0 : (∀ (X : tX) (d : Nat) (x0 : Nat) (x1 : Int32) (σ : rS) (Q : tQ), Ex X d mX4_small 0 [.ref x0, .int x1] [] σ Q = Ex X d mX4_small 1 [.ref x0, .int x1] [.int x1] σ Q) ∧
  (∀ (X : tX) (d : Nat) (x0 : Nat) (x1 : Int32) (s0 : Int32) (σ : rS) (Q : tQ), Ex X d mX4_small 1 [.ref x0, .int x1] [.int s0] σ Q = (if s0 < 0 then Ex X d mX4_small 22 [.ref x0, .int x1] [] σ Q else Ex X d mX4_small 4 [.ref x0, .int x1] [] σ Q)) := ⟨fun X d x0 x1 σ Q => ex_P (i := .iload_n 1) (len := 1) (by decide +kernel) rfl,
  fun X d x0 x1 s0 σ Q => q_if_lt (o := 21) (by decide +kernel) rfl⟩
set_option maxRecDepth 50000 in
theorem gX4_small_4 : (∀ (X : tX) (d : Nat) (x0 : Nat) (x1 : Int32) (σ : rS) (Q : tQ), Ex X d mX4_small 4 [.ref x0, .int x1] [] σ Q = Ex X d mX4_small 5 [.ref x0, .int x1] [.int x1] σ Q) ∧
  (∀ (X : tX) (d : Nat) (x0 : Nat) (x1 : Int32) (s0 : Int32) (σ : rS) (Q : tQ), Ex X d mX4_small 5 [.ref x0, .int x1] [.int s0] σ Q = Ex X d mX4_small 6 [.ref x0, .int x1] [.ref x0, .int s0] σ Q) ∧
  (∀ (X : tX) (d : Nat) (x0 : Nat) (x1 : Int32) (s0 : Nat) (s1 : Int32) (T : tT) (I : tI) (J : tJ) (R : tR) (Q : tQ), Ex X d mX4_small 6 [.ref x0, .int x1] [.ref s0, .int s1] (T, I, J, R) Q = (T[s0]? = some (3, 4) ∧ Ex X d mX4_small 9 [.ref x0, .int x1] [.int (I s0 3), .int s1] (T, I, J, R) Q)) ∧
  (∀ (X : tX) (d : Nat) (x0 : Nat) (x1 : Int32) (s0 : Int32) (s1 : Int32) (σ : rS) (Q : tQ), Ex X d mX4_small 9 [.ref x0, .int x1] [.int s0, .int s1] σ Q = (if s0 ≤ s1 then Ex X d mX4_small 22 [.ref x0, .int x1] [] σ Q else Ex X d mX4_small 12 [.ref x0, .int x1] [] σ Q)) := ⟨fun X d x0 x1 σ Q => ex_P (i := .iload_n 1) (len := 1) (by decide +kernel) rfl,
  fun X d x0 x1 s0 σ Q => ex_P (i := .aload_n 0) (len := 1) (by decide +kernel) rfl,
  fun X d x0 x1 s0 s1 T I J R Q => q_getI (k := 32) (by decide +kernel) rfl rfl (by decide),
  fun X d x0 x1 s0 s1 σ Q => q_icmp_ge (o := 13) (by decide +kernel) rfl⟩
set_option maxRecDepth 50000 in
theorem gX4_small_12 : (∀ (X : tX) (d : Nat) (x0 : Nat) (x1 : Int32) (σ : rS) (Q : tQ), Ex X d mX4_small 12 [.ref x0, .int x1] [] σ Q = Ex X d mX4_small 13 [.ref x0, .int x1] [.ref x0] σ Q) ∧
  (∀ (X : tX) (d : Nat) (x0 : Nat) (x1 : Int32) (s0 : Nat) (T : tT) (I : tI) (J : tJ) (R : tR) (Q : tQ), Ex X d mX4_small 13 [.ref x0, .int x1] [.ref s0] (T, I, J, R) Q = (T[s0]? = some (3, 4) ∧ Ex X d mX4_small 16 [.ref x0, .int x1] [va_rf (R s0 4)] (T, I, J, R) Q)) ∧
  (∀ (X : tX) (d : Nat) (x0 : Nat) (x1 : Int32) (s0 : Nat) (σ : rS) (Q : tQ), Ex X d mX4_small 16 [.ref x0, .int x1] [.ref s0] σ Q = Ex X d mX4_small 17 [.ref x0, .int x1] [.int x1, .ref s0] σ Q) ∧
  (∀ (X : tX) (d : Nat) (x0 : Nat) (x1 : Int32) (s0 : Int32) (s1 : Nat) (T : tT) (I : tI) (J : tJ) (R : tR) (Q : tQ), Ex X d mX4_small 17 [.ref x0, .int x1] [.int s0, .ref s1] (T, I, J, R) Q = (rIn T s1 1 s0 ∧ Ex X d mX4_small 18 [.ref x0, .int x1] [.long (J s1 s0.toNatClampNeg)] (T, I, J, R) Q)) ∧
  (∀ (X : tX) (d : Nat) (x0 : Nat) (x1 : Int32) (s0 : Int64) (σ : rS) (Q : tQ), Ex X d mX4_small 18 [.ref x0, .int x1] [.long s0] σ Q = Ex X d mX4_small 19 [.ref x0, .int x1] [.int s0.toInt32] σ Q) ∧
  (∀ (X : tX) (d : Nat) (x0 : Nat) (x1 : Int32) (s0 : Int32) (σ : rS) (Q : tQ), Ex X d mX4_small 19 [.ref x0, .int x1] [.int s0] σ Q = Ex X d mX4_small 23 [.ref x0, .int x1] [.int s0] σ Q) := ⟨fun X d x0 x1 σ Q => ex_P (i := .aload_n 0) (len := 1) (by decide +kernel) rfl,
  fun X d x0 x1 s0 T I J R Q => q_getR (k := 9) (by decide +kernel) rfl rfl,
  fun X d x0 x1 s0 σ Q => ex_P (i := .iload_n 1) (len := 1) (by decide +kernel) rfl,
  fun X d x0 x1 s0 s1 T I J R Q => q_lald (by decide +kernel),
  fun X d x0 x1 s0 σ Q => ex_P (i := .l2i) (len := 1) (by decide +kernel) rfl,
  fun X d x0 x1 s0 σ Q => q_goto (o := 4) (by decide +kernel) rfl⟩
set_option maxRecDepth 50000 in
theorem gX4_small_22 : (∀ (X : tX) (d : Nat) (x0 : Nat) (x1 : Int32) (σ : rS) (Q : tQ), Ex X d mX4_small 22 [.ref x0, .int x1] [] σ Q = Ex X d mX4_small 23 [.ref x0, .int x1] [.int 0] σ Q) := fun X d x0 x1 σ Q => ex_P (i := .iconst 0) (len := 1) (by decide +kernel) rfl
set_option maxRecDepth 50000 in
theorem gX4_small_23 : (∀ (X : tX) (d : Nat) (x0 : Nat) (x1 : Int32) (s0 : Int32) (σ : rS) (Q : tQ), Ex X d mX4_small 23 [.ref x0, .int x1] [.int s0] σ Q = Q (some (.int s0)) σ) := fun X d x0 x1 s0 σ Q => q_retI (by decide +kernel) rfl
set_option maxRecDepth 50000 in
theorem gX4_cut_0 : (∀ (X : tX) (d : Nat) (x0 : Nat) (x1 : Int64) (σ : rS) (Q : tQ), Ex X d mX4_cut 0 [.ref x0, .long x1, rU] [] σ Q = Ex X d mX4_cut 1 [.ref x0, .long x1, rU] [.ref x0] σ Q) ∧
  (∀ (X : tX) (d : Nat) (x0 : Nat) (x1 : Int64) (s0 : Nat) (T : tT) (I : tI) (J : tJ) (R : tR) (Q : tQ), Ex X d mX4_cut 1 [.ref x0, .long x1, rU] [.ref s0] (T, I, J, R) Q = (T[s0]? = some (3, 4) ∧ Ex X d mX4_cut 4 [.ref x0, .long x1, rU] [.int (I s0 2)] (T, I, J, R) Q)) := ⟨fun X d x0 x1 σ Q => ex_P (i := .aload_n 0) (len := 1) (by decide +kernel) rfl,
  fun X d x0 x1 s0 T I J R Q => q_getI (k := 17) (by decide +kernel) rfl rfl (by decide)⟩
set_option maxRecDepth 50000 in
theorem gX4_cut_36 : (∀ (X : tX) (d : Nat) (x0 : Nat) (x1 : Int64) (σ : rS) (Q : tQ), Ex X d mX4_cut 36 [.ref x0, .long x1, rU] [] σ Q = Ex X d mX4_cut 37 [.ref x0, .long x1, rU] [.long x1] σ Q) ∧
  (∀ (X : tX) (d : Nat) (x0 : Nat) (x1 : Int64) (s0 : Int64) (σ : rS) (Q : tQ), Ex X d mX4_cut 37 [.ref x0, .long x1, rU] [.long s0] σ Q = Ex X d mX4_cut 38 [.ref x0, .long x1, rU] [.int s0.toInt32] σ Q) ∧
  (∀ (X : tX) (d : Nat) (x0 : Nat) (x1 : Int64) (s0 : Int32) (σ : rS) (Q : tQ), Ex X d mX4_cut 38 [.ref x0, .long x1, rU] [.int s0] σ Q = Ex X d mX4_cut 39 [.ref x0, .long x1, rU] [.int s0.toInt8.toInt32] σ Q) ∧
  (∀ (X : tX) (d : Nat) (x0 : Nat) (x1 : Int64) (s0 : Int32) (σ : rS) (Q : tQ), Ex X d mX4_cut 39 [.ref x0, .long x1, rU] [.int s0] σ Q = Ex X d mX4_cut 40 [.ref x0, .long x1, rU] [.long s0.toInt64] σ Q) ∧
  (∀ (X : tX) (d : Nat) (x0 : Nat) (x1 : Int64) (s0 : Int64) (σ : rS) (Q : tQ), Ex X d mX4_cut 40 [.ref x0, .long x1, rU] [.long s0] σ Q = Q (some (.long s0)) σ) := ⟨fun X d x0 x1 σ Q => ex_P (i := .lload_n 1) (len := 1) (by decide +kernel) rfl,
  fun X d x0 x1 s0 σ Q => ex_P (i := .l2i) (len := 1) (by decide +kernel) rfl,
  fun X d x0 x1 s0 σ Q => ex_P (i := .i2b) (len := 1) (by decide +kernel) rfl,
  fun X d x0 x1 s0 σ Q => ex_P (i := .i2l) (len := 1) (by decide +kernel) rfl,
  fun X d x0 x1 s0 σ Q => q_retJ (by decide +kernel) rfl⟩
set_option maxRecDepth 50000 in
theorem gX4_cut_41 : (∀ (X : tX) (d : Nat) (x0 : Nat) (x1 : Int64) (σ : rS) (Q : tQ), Ex X d mX4_cut 41 [.ref x0, .long x1, rU] [] σ Q = Ex X d mX4_cut 42 [.ref x0, .long x1, rU] [.long x1] σ Q) ∧
  (∀ (X : tX) (d : Nat) (x0 : Nat) (x1 : Int64) (s0 : Int64) (σ : rS) (Q : tQ), Ex X d mX4_cut 42 [.ref x0, .long x1, rU] [.long s0] σ Q = Ex X d mX4_cut 43 [.ref x0, .long x1, rU] [.int s0.toInt32] σ Q) ∧
  (∀ (X : tX) (d : Nat) (x0 : Nat) (x1 : Int64) (s0 : Int32) (σ : rS) (Q : tQ), Ex X d mX4_cut 43 [.ref x0, .long x1, rU] [.int s0] σ Q = Ex X d mX4_cut 44 [.ref x0, .long x1, rU] [.int s0.toInt16.toInt32] σ Q) ∧
  (∀ (X : tX) (d : Nat) (x0 : Nat) (x1 : Int64) (s0 : Int32) (σ : rS) (Q : tQ), Ex X d mX4_cut 44 [.ref x0, .long x1, rU] [.int s0] σ Q = Ex X d mX4_cut 45 [.ref x0, .long x1, rU] [.long s0.toInt64] σ Q) ∧
  (∀ (X : tX) (d : Nat) (x0 : Nat) (x1 : Int64) (s0 : Int64) (σ : rS) (Q : tQ), Ex X d mX4_cut 45 [.ref x0, .long x1, rU] [.long s0] σ Q = Q (some (.long s0)) σ) := ⟨fun X d x0 x1 σ Q => ex_P (i := .lload_n 1) (len := 1) (by decide +kernel) rfl,
  fun X d x0 x1 s0 σ Q => ex_P (i := .l2i) (len := 1) (by decide +kernel) rfl,
  fun X d x0 x1 s0 σ Q => ex_P (i := .i2s) (len := 1) (by decide +kernel) rfl,
  fun X d x0 x1 s0 σ Q => ex_P (i := .i2l) (len := 1) (by decide +kernel) rfl,
  fun X d x0 x1 s0 σ Q => q_retJ (by decide +kernel) rfl⟩
set_option maxRecDepth 50000 in
theorem gX4_cut_46 : (∀ (X : tX) (d : Nat) (x0 : Nat) (x1 : Int64) (σ : rS) (Q : tQ), Ex X d mX4_cut 46 [.ref x0, .long x1, rU] [] σ Q = Ex X d mX4_cut 47 [.ref x0, .long x1, rU] [.long x1] σ Q) ∧
  (∀ (X : tX) (d : Nat) (x0 : Nat) (x1 : Int64) (s0 : Int64) (σ : rS) (Q : tQ), Ex X d mX4_cut 47 [.ref x0, .long x1, rU] [.long s0] σ Q = Ex X d mX4_cut 48 [.ref x0, .long x1, rU] [.int s0.toInt32] σ Q) ∧
  (∀ (X : tX) (d : Nat) (x0 : Nat) (x1 : Int64) (s0 : Int32) (σ : rS) (Q : tQ), Ex X d mX4_cut 48 [.ref x0, .long x1, rU] [.int s0] σ Q = Ex X d mX4_cut 49 [.ref x0, .long x1, rU] [.long s0.toInt64] σ Q) ∧
  (∀ (X : tX) (d : Nat) (x0 : Nat) (x1 : Int64) (s0 : Int64) (σ : rS) (Q : tQ), Ex X d mX4_cut 49 [.ref x0, .long x1, rU] [.long s0] σ Q = Q (some (.long s0)) σ) := ⟨fun X d x0 x1 σ Q => ex_P (i := .lload_n 1) (len := 1) (by decide +kernel) rfl,
  fun X d x0 x1 s0 σ Q => ex_P (i := .l2i) (len := 1) (by decide +kernel) rfl,
  fun X d x0 x1 s0 σ Q => ex_P (i := .i2l) (len := 1) (by decide +kernel) rfl,
  fun X d x0 x1 s0 σ Q => q_retJ (by decide +kernel) rfl⟩
set_option maxRecDepth 50000 in
theorem gX4_cut_50 : (∀ (X : tX) (d : Nat) (x0 : Nat) (x1 : Int64) (σ : rS) (Q : tQ), Ex X d mX4_cut 50 [.ref x0, .long x1, rU] [] σ Q = Ex X d mX4_cut 51 [.ref x0, .long x1, rU] [.long x1] σ Q) ∧
  (∀ (X : tX) (d : Nat) (x0 : Nat) (x1 : Int64) (s0 : Int64) (σ : rS) (Q : tQ), Ex X d mX4_cut 51 [.ref x0, .long x1, rU] [.long s0] σ Q = Q (some (.long s0)) σ) := ⟨fun X d x0 x1 σ Q => ex_P (i := .lload_n 1) (len := 1) (by decide +kernel) rfl,
  fun X d x0 x1 s0 σ Q => q_retJ (by decide +kernel) rfl⟩
set_option maxRecDepth 50000 in
theorem gX4_cut_52 : (∀ (X : tX) (d : Nat) (x0 : Nat) (x1 : Int64) (σ : rS) (Q : tQ), Ex X d mX4_cut 52 [.ref x0, .long x1, rU] [] σ Q = Ex X d mX4_cut 53 [.ref x0, .long x1, rU] [.long x1] σ Q) ∧
  (∀ (X : tX) (d : Nat) (x0 : Nat) (x1 : Int64) (s0 : Int64) (σ : rS) (Q : tQ), Ex X d mX4_cut 53 [.ref x0, .long x1, rU] [.long s0] σ Q = Ex X d mX4_cut 54 [.ref x0, .long x1, rU] [.long 0, .long s0] σ Q) ∧
  (∀ (X : tX) (d : Nat) (x0 : Nat) (x1 : Int64) (s0 : Int64) (s1 : Int64) (σ : rS) (Q : tQ), Ex X d mX4_cut 54 [.ref x0, .long x1, rU] [.long s0, .long s1] σ Q = Ex X d mX4_cut 55 [.ref x0, .long x1, rU] [.int (lg_cmp s1 s0)] σ Q) ∧
  (∀ (X : tX) (d : Nat) (x0 : Nat) (x1 : Int64) (s0 : Int32) (σ : rS) (Q : tQ), Ex X d mX4_cut 55 [.ref x0, .long x1, rU] [.int s0] σ Q = (if s0 = 0 then Ex X d mX4_cut 62 [.ref x0, .long x1, rU] [] σ Q else Ex X d mX4_cut 58 [.ref x0, .long x1, rU] [] σ Q)) := ⟨fun X d x0 x1 σ Q => ex_P (i := .lload_n 1) (len := 1) (by decide +kernel) rfl,
  fun X d x0 x1 s0 σ Q => ex_P (i := .lconst 0) (len := 1) (by decide +kernel) rfl,
  fun X d x0 x1 s0 s1 σ Q => ex_P (i := .lcmp) (len := 1) (by decide +kernel) rfl,
  fun X d x0 x1 s0 σ Q => q_if_eq (o := 7) (by decide +kernel) rfl⟩
set_option maxRecDepth 50000 in
theorem gX4_cut_58 : (∀ (X : tX) (d : Nat) (x0 : Nat) (x1 : Int64) (σ : rS) (Q : tQ), Ex X d mX4_cut 58 [.ref x0, .long x1, rU] [] σ Q = Ex X d mX4_cut 59 [.ref x0, .long x1, rU] [.long 1] σ Q) ∧
  (∀ (X : tX) (d : Nat) (x0 : Nat) (x1 : Int64) (s0 : Int64) (σ : rS) (Q : tQ), Ex X d mX4_cut 59 [.ref x0, .long x1, rU] [.long s0] σ Q = Ex X d mX4_cut 63 [.ref x0, .long x1, rU] [.long s0] σ Q) := ⟨fun X d x0 x1 σ Q => ex_P (i := .lconst 1) (len := 1) (by decide +kernel) rfl,
  fun X d x0 x1 s0 σ Q => q_goto (o := 4) (by decide +kernel) rfl⟩
set_option maxRecDepth 50000 in
theorem gX4_cut_62 : (∀ (X : tX) (d : Nat) (x0 : Nat) (x1 : Int64) (σ : rS) (Q : tQ), Ex X d mX4_cut 62 [.ref x0, .long x1, rU] [] σ Q = Ex X d mX4_cut 63 [.ref x0, .long x1, rU] [.long 0] σ Q) := fun X d x0 x1 σ Q => ex_P (i := .lconst 0) (len := 1) (by decide +kernel) rfl
set_option maxRecDepth 50000 in
theorem gX4_cut_63 : (∀ (X : tX) (d : Nat) (x0 : Nat) (x1 : Int64) (s0 : Int64) (σ : rS) (Q : tQ), Ex X d mX4_cut 63 [.ref x0, .long x1, rU] [.long s0] σ Q = Q (some (.long s0)) σ) := fun X d x0 x1 s0 σ Q => q_retJ (by decide +kernel) rfl
