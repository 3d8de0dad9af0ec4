set_option maxRecDepth 50000 in
theorem gX2_init_0 : (∀ (X : tX) (d : Nat) (x0 : Nat) (σ : rS) (Q : tQ), Ex X d mX2_init 0 [.ref x0] [] σ Q = Ex X d mX2_init 1 [.ref x0] [.ref x0] σ Q) ∧
  (∀ (X : tX) (d : Nat) (x0 : Nat) (s0 : Nat) (T : tT) (I : tI) (J : tJ) (R : tR) (Q : tQ), Ex X (d + 1) mX2_init 1 [.ref x0] [.ref s0] (T, I, J, R) Q = Ex X (d + 1) mX2_init 4 [.ref x0] [] (T, I, J, R) Q) ∧
  (∀ (X : tX) (d : Nat) (x0 : Nat) (σ : rS) (Q : tQ), Ex X d mX2_init 4 [.ref x0] [] σ Q = Ex X d mX2_init 5 [.ref x0] [.ref x0] σ Q) ∧
  (∀ (X : tX) (d : Nat) (x0 : Nat) (s0 : Nat) (σ : rS) (Q : tQ), Ex X d mX2_init 5 [.ref x0] [.ref s0] σ Q = Ex X d mX2_init 7 [.ref x0] [.int 120, .ref s0] σ Q) ∧
  (∀ (X : tX) (d : Nat) (x0 : Nat) (s0 : Nat) (s1 : Nat) (T : tT) (I : tI) (J : tJ) (R : tR) (Q : tQ), Ex X d mX2_init 9 [.ref x0] [.ref s0, .ref s1] (T, I, J, R) Q = (T[s1]? = some (3, 2) ∧ Ex X d mX2_init 12 [.ref x0] [] (T, I, J, va_up R s1 (va_up (R s1) 0 (some s0))) Q)) ∧
  (∀ (X : tX) (d : Nat) (x0 : Nat) (σ : rS) (Q : tQ), Ex X d mX2_init 12 [.ref x0] [] σ Q = Ex X d mX2_init 13 [.ref x0] [.ref x0] σ Q) ∧
  (∀ (X : tX) (d : Nat) (x0 : Nat) (s0 : Nat) (T : tT) (I : tI) (J : tJ) (R : tR) (Q : tQ), Ex X d mX2_init 13 [.ref x0] [.ref s0] (T, I, J, R) Q = Ex X d mX2_init 16 [.ref x0] [.ref T.length, .ref s0] (T ++ [(3, 1)], va_up I T.length (fun _ => 0), J, va_up R T.length (fun _ => none)) Q) ∧
  (∀ (X : tX) (d : Nat) (x0 : Nat) (s0 : Nat) (s1 : Nat) (σ : rS) (Q : tQ), Ex X d mX2_init 16 [.ref x0] [.ref s0, .ref s1] σ Q = Ex X d mX2_init 17 [.ref x0] [.ref s0, .ref s0, .ref s1] σ Q) ∧
  (∀ (X : tX) (d : Nat) (x0 : Nat) (s0 : Nat) (s1 : Nat) (s2 : Nat) (σ : rS) (Q : tQ), Ex X (d + 1) mX2_init 17 [.ref x0] [.ref s0, .ref s1, .ref s2] σ Q = Ex X d mX1_init 0 [.ref s0] [] σ (fun v σ1 => Ex X (d + 1) mX2_init 20 [.ref x0] (v.toList ++ [.ref s1, .ref s2]) σ1 Q)) := ⟨fun X d x0 σ Q => ex_P (i := .aload_n 0) (len := 1) (by decide +kernel) rfl,
  fun X d x0 s0 T I J R Q => q_objI (k := 1) (by decide +kernel) rfl (Nat.le_of_ble_eq_true rfl),
  fun X d x0 σ Q => ex_P (i := .aload_n 0) (len := 1) (by decide +kernel) rfl,
  fun X d x0 s0 σ Q => ex_P (i := .bipush 120) (len := 2) (by decide +kernel) rfl,
  fun X d x0 s0 s1 T I J R Q => q_putR (k := 9) (by decide +kernel) rfl rfl (by decide +kernel),
  fun X d x0 σ Q => ex_P (i := .aload_n 0) (len := 1) (by decide +kernel) rfl,
  fun X d x0 s0 T I J R Q => q_new (k := 13) (by decide +kernel) rfl,
  fun X d x0 s0 s1 σ Q => ex_P (i := .dup) (len := 1) (by decide +kernel) rfl,
  fun X d x0 s0 s1 s2 σ Q => q_callI (k := 15) (as := []) (st := [.ref s1, .ref s2]) (show rlk mX2_init.2.2.2.2.2.2 17 = some (.invokespecial 15, 3) from by decide +kernel) rfl rfl rfl rfl (Nat.le_of_ble_eq_true rfl) (Nat.le_of_ble_eq_true rfl) rfl⟩
set_option maxRecDepth 50000 in
theorem gX2_init_20 : (∀ (X : tX) (d : Nat) (x0 : Nat) (s0 : Nat) (s1 : Nat) (T : tT) (I : tI) (J : tJ) (R : tR) (Q : tQ), Ex X d mX2_init 20 [.ref x0] [.ref s0, .ref s1] (T, I, J, R) Q = (T[s1]? = some (3, 2) ∧ Ex X d mX2_init 23 [.ref x0] [] (T, I, J, va_up R s1 (va_up (R s1) 3 (some s0))) Q)) ∧
  (∀ (X : tX) (d : Nat) (x0 : Nat) (σ : rS) (Q : tQ), Ex X d mX2_init 23 [.ref x0] [] σ Q = Q none σ) := ⟨fun X d x0 s0 s1 T I J R Q => q_putR (k := 16) (by decide +kernel) rfl rfl (by decide +kernel),
  fun X d x0 σ Q => q_retV (by decide +kernel) rfl⟩
set_option maxRecDepth 50000 in
theorem gX2_takes_0 : (∀ (X : tX) (d : Nat) (x0 : Nat) (x1 : Int32) (σ : rS) (Q : tQ), Ex X d mX2_takes 0 [.ref x0, .int x1] [] σ Q = Ex X d mX2_takes 1 [.ref x0, .int x1] [.ref x0] σ Q) ∧
  (∀ (X : tX) (d : Nat) (x0 : Nat) (x1 : Int32) (s0 : Nat) (T : tT) (I : tI) (J : tJ) (R : tR) (Q : tQ), Ex X d mX2_takes 1 [.ref x0, .int x1] [.ref s0] (T, I, J, R) Q = (T[s0]? = some (3, 2) ∧ Ex X d mX2_takes 4 [.ref x0, .int x1] [.int (I s0 1)] (T, I, J, R) Q)) ∧
  (∀ (X : tX) (d : Nat) (x0 : Nat) (x1 : Int32) (s0 : Int32) (σ : rS) (Q : tQ), Ex X d mX2_takes 4 [.ref x0, .int x1] [.int s0] σ Q = Ex X d mX2_takes 6 [.ref x0, .int x1] [.int 120, .int s0] σ Q) ∧
  (∀ (X : tX) (d : Nat) (x0 : Nat) (x1 : Int32) (s0 : Int32) (s1 : Int32) (σ : rS) (Q : tQ), Ex X d mX2_takes 6 [.ref x0, .int x1] [.int s0, .int s1] σ Q = (if s1 < s0 then Ex X d mX2_takes 11 [.ref x0, .int x1] [] σ Q else Ex X d mX2_takes 9 [.ref x0, .int x1] [] σ Q)) := ⟨fun X d x0 x1 σ Q => ex_P (i := .aload_n 0) (len := 1) (by decide +kernel) rfl,
  fun X d x0 x1 s0 T I J R Q => q_getI (k := 20) (by decide +kernel) rfl rfl (by decide),
  fun X d x0 x1 s0 σ Q => ex_P (i := .bipush 120) (len := 2) (by decide +kernel) rfl,
  fun X d x0 x1 s0 s1 σ Q => q_icmp_lt (o := 5) (by decide +kernel) rfl⟩
set_option maxRecDepth 50000 in
theorem gX2_takes_9 : (∀ (X : tX) (d : Nat) (x0 : Nat) (x1 : Int32) (σ : rS) (Q : tQ), Ex X d mX2_takes 9 [.ref x0, .int x1] [] σ Q = Ex X d mX2_takes 10 [.ref x0, .int x1] [.int 0] σ Q) ∧
  (∀ (X : tX) (d : Nat) (x0 : Nat) (x1 : Int32) (s0 : Int32) (σ : rS) (Q : tQ), Ex X d mX2_takes 10 [.ref x0, .int x1] [.int s0] σ Q = ((s0 = 0 ∨ s0 = 1) ∧ Q (some (.int s0)) σ)) := ⟨fun X d x0 x1 σ Q => ex_P (i := .iconst 0) (len := 1) (by decide +kernel) rfl,
  fun X d x0 x1 s0 σ Q => q_retZ (by decide +kernel) rfl⟩
set_option maxRecDepth 50000 in
theorem gX2_takes_11 : (∀ (X : tX) (d : Nat) (x0 : Nat) (x1 : Int32) (σ : rS) (Q : tQ), Ex X d mX2_takes 11 [.ref x0, .int x1] [] σ Q = Ex X d mX2_takes 12 [.ref x0, .int x1] [.ref x0] σ Q) ∧
  (∀ (X : tX) (d : Nat) (x0 : Nat) (x1 : Int32) (s0 : Nat) (T : tT) (I : tI) (J : tJ) (R : tR) (Q : tQ), Ex X d mX2_takes 12 [.ref x0, .int x1] [.ref s0] (T, I, J, R) Q = (T[s0]? = some (3, 2) ∧ Ex X d mX2_takes 15 [.ref x0, .int x1] [va_rf (R s0 0)] (T, I, J, R) Q)) ∧
  (∀ (X : tX) (d : Nat) (x0 : Nat) (x1 : Int32) (s0 : Nat) (σ : rS) (Q : tQ), Ex X d mX2_takes 15 [.ref x0, .int x1] [.ref s0] σ Q = Ex X d mX2_takes 16 [.ref x0, .int x1] [.ref x0, .ref s0] σ Q) ∧
  (∀ (X : tX) (d : Nat) (x0 : Nat) (x1 : Int32) (s0 : Nat) (s1 : Nat) (σ : rS) (Q : tQ), Ex X d mX2_takes 16 [.ref x0, .int x1] [.ref s0, .ref s1] σ Q = Ex X d mX2_takes 17 [.ref x0, .int x1] [.ref s0, .ref s0, .ref s1] σ Q) ∧
  (∀ (X : tX) (d : Nat) (x0 : Nat) (x1 : Int32) (s0 : Nat) (s1 : Nat) (s2 : Nat) (T : tT) (I : tI) (J : tJ) (R : tR) (Q : tQ), Ex X d mX2_takes 17 [.ref x0, .int x1] [.ref s0, .ref s1, .ref s2] (T, I, J, R) Q = (T[s0]? = some (3, 2) ∧ Ex X d mX2_takes 20 [.ref x0, .int x1] [.int (I s0 1), .ref s1, .ref s2] (T, I, J, R) Q)) ∧
  (∀ (X : tX) (d : Nat) (x0 : Nat) (x1 : Int32) (s0 : Int32) (s1 : Nat) (s2 : Nat) (σ : rS) (Q : tQ), Ex X d mX2_takes 20 [.ref x0, .int x1] [.int s0, .ref s1, .ref s2] σ Q = Ex X d mX2_takes 21 [.ref x0, .int x1] [.int s0, .ref s1, .int s0, .ref s2] σ Q) ∧
  (∀ (X : tX) (d : Nat) (x0 : Nat) (x1 : Int32) (s0 : Int32) (s1 : Nat) (s2 : Int32) (s3 : Nat) (σ : rS) (Q : tQ), Ex X d mX2_takes 21 [.ref x0, .int x1] [.int s0, .ref s1, .int s2, .ref s3] σ Q = Ex X d mX2_takes 22 [.ref x0, .int x1] [.int 1, .int s0, .ref s1, .int s2, .ref s3] σ Q) ∧
  (∀ (X : tX) (d : Nat) (x0 : Nat) (x1 : Int32) (s0 : Int32) (s1 : Int32) (s2 : Nat) (s3 : Int32) (s4 : Nat) (σ : rS) (Q : tQ), Ex X d mX2_takes 22 [.ref x0, .int x1] [.int s0, .int s1, .ref s2, .int s3, .ref s4] σ Q = Ex X d mX2_takes 23 [.ref x0, .int x1] [.int (s1 + s0), .ref s2, .int s3, .ref s4] σ Q) ∧
  (∀ (X : tX) (d : Nat) (x0 : Nat) (x1 : Int32) (s0 : Int32) (s1 : Nat) (s2 : Int32) (s3 : Nat) (T : tT) (I : tI) (J : tJ) (R : tR) (Q : tQ), Ex X d mX2_takes 23 [.ref x0, .int x1] [.int s0, .ref s1, .int s2, .ref s3] (T, I, J, R) Q = (T[s1]? = some (3, 2) ∧ Ex X d mX2_takes 26 [.ref x0, .int x1] [.int s2, .ref s3] (T, va_up I s1 (va_up (I s1) 1 s0), J, R) Q)) ∧
  (∀ (X : tX) (d : Nat) (x0 : Nat) (x1 : Int32) (s0 : Int32) (s1 : Nat) (σ : rS) (Q : tQ), Ex X d mX2_takes 26 [.ref x0, .int x1] [.int s0, .ref s1] σ Q = Ex X d mX2_takes 27 [.ref x0, .int x1] [.int x1, .int s0, .ref s1] σ Q) ∧
  (∀ (X : tX) (d : Nat) (x0 : Nat) (x1 : Int32) (s0 : Int32) (s1 : Int32) (s2 : Nat) (T : tT) (I : tI) (J : tJ) (R : tR) (Q : tQ), Ex X d mX2_takes 27 [.ref x0, .int x1] [.int s0, .int s1, .ref s2] (T, I, J, R) Q = (rIn T s2 0 s1 ∧ Ex X d mX2_takes 28 [.ref x0, .int x1] [] (T, va_up I s2 (va_up (I s2) s1.toNatClampNeg s0), J, R) Q)) ∧
  (∀ (X : tX) (d : Nat) (x0 : Nat) (x1 : Int32) (σ : rS) (Q : tQ), Ex X d mX2_takes 28 [.ref x0, .int x1] [] σ Q = Ex X d mX2_takes 29 [.ref x0, .int x1] [.int 1] σ Q) ∧
  (∀ (X : tX) (d : Nat) (x0 : Nat) (x1 : Int32) (s0 : Int32) (σ : rS) (Q : tQ), Ex X d mX2_takes 29 [.ref x0, .int x1] [.int s0] σ Q = ((s0 = 0 ∨ s0 = 1) ∧ Q (some (.int s0)) σ)) := ⟨fun X d x0 x1 σ Q => ex_P (i := .aload_n 0) (len := 1) (by decide +kernel) rfl,
  fun X d x0 x1 s0 T I J R Q => q_getR (k := 9) (by decide +kernel) rfl rfl,
  fun X d x0 x1 s0 σ Q => ex_P (i := .aload_n 0) (len := 1) (by decide +kernel) rfl,
  fun X d x0 x1 s0 s1 σ Q => ex_P (i := .dup) (len := 1) (by decide +kernel) rfl,
  fun X d x0 x1 s0 s1 s2 T I J R Q => q_getI (k := 20) (by decide +kernel) rfl rfl (by decide),
  fun X d x0 x1 s0 s1 s2 σ Q => ex_P (i := .dup_x1) (len := 1) (by decide +kernel) rfl,
  fun X d x0 x1 s0 s1 s2 s3 σ Q => ex_P (i := .iconst 1) (len := 1) (by decide +kernel) rfl,
  fun X d x0 x1 s0 s1 s2 s3 s4 σ Q => ex_P (i := .iadd) (len := 1) (by decide +kernel) rfl,
  fun X d x0 x1 s0 s1 s2 s3 T I J R Q => q_putI (k := 20) (by decide +kernel) rfl rfl (by decide +kernel),
  fun X d x0 x1 s0 s1 σ Q => ex_P (i := .iload_n 1) (len := 1) (by decide +kernel) rfl,
  fun X d x0 x1 s0 s1 s2 T I J R Q => q_iast (by decide +kernel),
  fun X d x0 x1 σ Q => ex_P (i := .iconst 1) (len := 1) (by decide +kernel) rfl,
  fun X d x0 x1 s0 σ Q => q_retZ (by decide +kernel) rfl⟩
set_option maxRecDepth 50000 in
theorem gX2_clear_0 : (∀ (X : tX) (d : Nat) (x0 : Nat) (σ : rS) (Q : tQ), Ex X d mX2_clear 0 [.ref x0] [] σ Q = Ex X d mX2_clear 1 [.ref x0] [.ref x0] σ Q) ∧
  (∀ (X : tX) (d : Nat) (x0 : Nat) (s0 : Nat) (σ : rS) (Q : tQ), Ex X d mX2_clear 1 [.ref x0] [.ref s0] σ Q = Ex X d mX2_clear 2 [.ref x0] [.int 0, .ref s0] σ Q) ∧
  (∀ (X : tX) (d : Nat) (x0 : Nat) (s0 : Int32) (s1 : Nat) (T : tT) (I : tI) (J : tJ) (R : tR) (Q : tQ), Ex X d mX2_clear 2 [.ref x0] [.int s0, .ref s1] (T, I, J, R) Q = (T[s1]? = some (3, 2) ∧ Ex X d mX2_clear 5 [.ref x0] [] (T, va_up I s1 (va_up (I s1) 1 s0), J, R) Q)) ∧
  (∀ (X : tX) (d : Nat) (x0 : Nat) (σ : rS) (Q : tQ), Ex X d mX2_clear 5 [.ref x0] [] σ Q = Q none σ) := ⟨fun X d x0 σ Q => ex_P (i := .aload_n 0) (len := 1) (by decide +kernel) rfl,
  fun X d x0 s0 σ Q => ex_P (i := .iconst 0) (len := 1) (by decide +kernel) rfl,
  fun X d x0 s0 s1 T I J R Q => q_putI (k := 20) (by decide +kernel) rfl rfl (by decide +kernel),
  fun X d x0 σ Q => q_retV (by decide +kernel) rfl⟩
set_option maxRecDepth 50000 in
theorem gX2_read_0 : (∀ (X : tX) (d : Nat) (x0 : Nat) (σ : rS) (Q : tQ), Ex X d mX2_read 0 [.ref x0] [] σ Q = Ex X d mX2_read 1 [.ref x0] [.ref x0] σ Q) ∧
  (∀ (X : tX) (d : Nat) (x0 : Nat) (s0 : Nat) (T : tT) (I : tI) (J : tJ) (R : tR) (Q : tQ), Ex X d mX2_read 1 [.ref x0] [.ref s0] (T, I, J, R) Q = (T[s0]? = some (3, 2) ∧ Ex X d mX2_read 4 [.ref x0] [va_rf (R s0 3)] (T, I, J, R) Q)) ∧
  (∀ (X : tX) (d : Nat) (x0 : Nat) (s0 : Nat) (T : tT) (I : tI) (J : tJ) (R : tR) (Q : tQ), Ex X (d + 1) mX2_read 4 [.ref x0] [.ref s0] (T, I, J, R) Q = (T[s0]? = some (3, 1) ∧ Ex X d mX1_clear 0 [.ref s0] [] (T, I, J, R) (fun v σ1 => Ex X (d + 1) mX2_read 7 [.ref x0] (v.toList ++ []) σ1 Q))) := ⟨fun X d x0 σ Q => ex_P (i := .aload_n 0) (len := 1) (by decide +kernel) rfl,
  fun X d x0 s0 T I J R Q => q_getR (k := 16) (by decide +kernel) rfl rfl,
  fun X d x0 s0 T I J R Q => q_callV (k := 24) (as := []) (st := []) (show rlk mX2_read.2.2.2.2.2.2 4 = some (.invokevirtual 24, 3) from by decide +kernel) rfl rfl rfl (Nat.le_of_ble_eq_true rfl) (Nat.le_of_ble_eq_true rfl) rfl⟩
set_option maxRecDepth 50000 in
theorem gX2_read_7 : (∀ (X : tX) (d : Nat) (x0 : Nat) (σ : rS) (Q : tQ), Ex X d mX2_read 7 [.ref x0] [] σ Q = Ex X d mX2_read 8 [.ref x0] [.ref x0] σ Q) ∧
  (∀ (X : tX) (d : Nat) (x0 : Nat) (s0 : Nat) (σ : rS) (Q : tQ), Ex X d mX2_read 8 [.ref x0] [.ref s0] σ Q = Ex X d mX2_read 9 [.ref x0] [.int 0, .ref s0] σ Q) ∧
  (∀ (X : tX) (d : Nat) (x0 : Nat) (s0 : Int32) (s1 : Nat) (T : tT) (I : tI) (J : tJ) (R : tR) (Q : tQ), Ex X d mX2_read 9 [.ref x0] [.int s0, .ref s1] (T, I, J, R) Q = (T[s1]? = some (3, 2) ∧ Ex X d mX2_read 12 [.ref x0] [] (T, va_up I s1 (va_up (I s1) 2 s0), J, R) Q)) ∧
  (∀ (X : tX) (d : Nat) (x0 : Nat) (σ : rS) (Q : tQ), Ex X d mX2_read 12 [.ref x0] [] σ Q = Ex X d mX2_read 13 [.ref x0] [.ref x0] σ Q) ∧
  (∀ (X : tX) (d : Nat) (x0 : Nat) (s0 : Nat) (T : tT) (I : tI) (J : tJ) (R : tR) (Q : tQ), Ex X (d + 1) mX2_read 13 [.ref x0] [.ref s0] (T, I, J, R) Q = (T[s0]? = some (3, 2) ∧ Ex X d mX2_lines 0 [.ref s0, rU, rU] [] (T, I, J, R) (fun v σ1 => Ex X (d + 1) mX2_read 16 [.ref x0] (v.toList ++ []) σ1 Q))) := ⟨fun X d x0 σ Q => ex_P (i := .aload_n 0) (len := 1) (by decide +kernel) rfl,
  fun X d x0 s0 σ Q => ex_P (i := .iconst 0) (len := 1) (by decide +kernel) rfl,
  fun X d x0 s0 s1 T I J R Q => q_putI (k := 27) (by decide +kernel) rfl rfl (by decide +kernel),
  fun X d x0 σ Q => ex_P (i := .aload_n 0) (len := 1) (by decide +kernel) rfl,
  fun X d x0 s0 T I J R Q => q_callV (k := 30) (as := []) (st := []) (show rlk mX2_read.2.2.2.2.2.2 13 = some (.invokevirtual 30, 3) from by decide +kernel) rfl rfl rfl (Nat.le_of_ble_eq_true rfl) (Nat.le_of_ble_eq_true rfl) rfl⟩
set_option maxRecDepth 50000 in
theorem gX2_read_16 : (∀ (X : tX) (d : Nat) (x0 : Nat) (s0 : Int32) (σ : rS) (Q : tQ), Ex X d mX2_read 16 [.ref x0] [.int s0] σ Q = (if s0 = 0 then Ex X d mX2_read 23 [.ref x0] [] σ Q else Ex X d mX2_read 19 [.ref x0] [] σ Q)) := fun X d x0 s0 σ Q => q_if_eq (o := 7) (by decide +kernel) rfl
set_option maxRecDepth 50000 in
theorem gX2_read_19 : (∀ (X : tX) (d : Nat) (x0 : Nat) (σ : rS) (Q : tQ), Ex X d mX2_read 19 [.ref x0] [] σ Q = Ex X d mX2_read 20 [.ref x0] [.int (-1)] σ Q) ∧
  (∀ (X : tX) (d : Nat) (x0 : Nat) (s0 : Int32) (σ : rS) (Q : tQ), Ex X d mX2_read 20 [.ref x0] [.int s0] σ Q = Ex X d mX2_read 27 [.ref x0] [.int s0] σ Q) := ⟨fun X d x0 σ Q => ex_P (i := .iconst (-1)) (len := 1) (by decide +kernel) rfl,
  fun X d x0 s0 σ Q => q_goto (o := 7) (by decide +kernel) rfl⟩
set_option maxRecDepth 50000 in
theorem gX2_read_23 : (∀ (X : tX) (d : Nat) (x0 : Nat) (σ : rS) (Q : tQ), Ex X d mX2_read 23 [.ref x0] [] σ Q = Ex X d mX2_read 24 [.ref x0] [.ref x0] σ Q) ∧
  (∀ (X : tX) (d : Nat) (x0 : Nat) (s0 : Nat) (T : tT) (I : tI) (J : tJ) (R : tR) (Q : tQ), Ex X d mX2_read 24 [.ref x0] [.ref s0] (T, I, J, R) Q = (T[s0]? = some (3, 2) ∧ Ex X d mX2_read 27 [.ref x0] [.int (I s0 2)] (T, I, J, R) Q)) := ⟨fun X d x0 σ Q => ex_P (i := .aload_n 0) (len := 1) (by decide +kernel) rfl,
  fun X d x0 s0 T I J R Q => q_getI (k := 27) (by decide +kernel) rfl rfl (by decide)⟩
set_option maxRecDepth 50000 in
theorem gX2_read_27 : (∀ (X : tX) (d : Nat) (x0 : Nat) (s0 : Int32) (σ : rS) (Q : tQ), Ex X d mX2_read 27 [.ref x0] [.int s0] σ Q = Q (some (.int s0)) σ) := fun X d x0 s0 σ Q => q_retI (by decide +kernel) rfl
set_option maxRecDepth 50000 in
theorem gX2_handOver_0 : (∀ (X : tX) (d : Nat) (x0 : Nat) (x1 : Nat) (σ : rS) (Q : tQ), Ex X d mX2_handOver 0 [.ref x0, .ref x1, rU] [] σ Q = Ex X d mX2_handOver 1 [.ref x0, .ref x1, rU] [.ref x0] σ Q) ∧
  (∀ (X : tX) (d : Nat) (x0 : Nat) (x1 : Nat) (s0 : Nat) (T : tT) (I : tI) (J : tJ) (R : tR) (Q : tQ), Ex X d mX2_handOver 1 [.ref x0, .ref x1, rU] [.ref s0] (T, I, J, R) Q = (T[s0]? = some (3, 2) ∧ Ex X d mX2_handOver 4 [.ref x0, .ref x1, rU] [va_rf (R s0 3)] (T, I, J, R) Q)) ∧
  (∀ (X : tX) (d : Nat) (x0 : Nat) (x1 : Nat) (s0 : Nat) (σ : rS) (Q : tQ), Ex X d mX2_handOver 4 [.ref x0, .ref x1, rU] [.ref s0] σ Q = Ex X d mX2_handOver 5 [.ref x0, .ref x1, .ref s0] [] σ Q) ∧
  (∀ (X : tX) (d : Nat) (x0 : Nat) (x1 : Nat) (x2 : Nat) (σ : rS) (Q : tQ), Ex X d mX2_handOver 5 [.ref x0, .ref x1, .ref x2] [] σ Q = Ex X d mX2_handOver 6 [.ref x0, .ref x1, .ref x2] [.ref x0] σ Q) ∧
  (∀ (X : tX) (d : Nat) (x0 : Nat) (x1 : Nat) (x2 : Nat) (s0 : Nat) (σ : rS) (Q : tQ), Ex X d mX2_handOver 6 [.ref x0, .ref x1, .ref x2] [.ref s0] σ Q = Ex X d mX2_handOver 7 [.ref x0, .ref x1, .ref x2] [.ref x1, .ref s0] σ Q) ∧
  (∀ (X : tX) (d : Nat) (x0 : Nat) (x1 : Nat) (x2 : Nat) (s0 : Nat) (s1 : Nat) (T : tT) (I : tI) (J : tJ) (R : tR) (Q : tQ), Ex X d mX2_handOver 7 [.ref x0, .ref x1, .ref x2] [.ref s0, .ref s1] (T, I, J, R) Q = (T[s1]? = some (3, 2) ∧ Ex X d mX2_handOver 10 [.ref x0, .ref x1, .ref x2] [] (T, I, J, va_up R s1 (va_up (R s1) 3 (some s0))) Q)) ∧
  (∀ (X : tX) (d : Nat) (x0 : Nat) (x1 : Nat) (x2 : Nat) (σ : rS) (Q : tQ), Ex X d mX2_handOver 10 [.ref x0, .ref x1, .ref x2] [] σ Q = Ex X d mX2_handOver 11 [.ref x0, .ref x1, .ref x2] [.ref x2] σ Q) ∧
  (∀ (X : tX) (d : Nat) (x0 : Nat) (x1 : Nat) (x2 : Nat) (s0 : Nat) (σ : rS) (Q : tQ), Ex X d mX2_handOver 11 [.ref x0, .ref x1, .ref x2] [.ref s0] σ Q = Q (some (.ref s0)) σ) := ⟨fun X d x0 x1 σ Q => ex_P (i := .aload_n 0) (len := 1) (by decide +kernel) rfl,
  fun X d x0 x1 s0 T I J R Q => q_getR (k := 16) (by decide +kernel) rfl rfl,
  fun X d x0 x1 s0 σ Q => ex_P (i := .astore_n 2) (len := 1) (by decide +kernel) rfl,
  fun X d x0 x1 x2 σ Q => ex_P (i := .aload_n 0) (len := 1) (by decide +kernel) rfl,
  fun X d x0 x1 x2 s0 σ Q => ex_P (i := .aload_n 1) (len := 1) (by decide +kernel) rfl,
  fun X d x0 x1 x2 s0 s1 T I J R Q => q_putR (k := 16) (by decide +kernel) rfl rfl (by decide +kernel),
  fun X d x0 x1 x2 σ Q => ex_P (i := .aload_n 2) (len := 1) (by decide +kernel) rfl,
  fun X d x0 x1 x2 s0 σ Q => q_retO (by decide +kernel) rfl⟩
set_option maxRecDepth 50000 in
theorem gX2_next_0 : (∀ (X : tX) (d : Nat) (x0 : Nat) (σ : rS) (Q : tQ), Ex X d mX2_next 0 [.ref x0] [] σ Q = Ex X d mX2_next 1 [.ref x0] [.ref x0] σ Q) ∧
  (∀ (X : tX) (d : Nat) (x0 : Nat) (s0 : Nat) (T : tT) (I : tI) (J : tJ) (R : tR) (Q : tQ), Ex X d mX2_next 1 [.ref x0] [.ref s0] (T, I, J, R) Q = (T[s0]? = some (3, 2) ∧ Ex X d mX2_next 4 [.ref x0] [.int (I s0 2)] (T, I, J, R) Q)) ∧
  (∀ (X : tX) (d : Nat) (x0 : Nat) (s0 : Int32) (σ : rS) (Q : tQ), Ex X d mX2_next 4 [.ref x0] [.int s0] σ Q = (if s0 < 0 then Ex X d mX2_next 30 [.ref x0] [] σ Q else Ex X d mX2_next 7 [.ref x0] [] σ Q)) := ⟨fun X d x0 σ Q => ex_P (i := .aload_n 0) (len := 1) (by decide +kernel) rfl,
  fun X d x0 s0 T I J R Q => q_getI (k := 27) (by decide +kernel) rfl rfl (by decide),
  fun X d x0 s0 σ Q => q_if_lt (o := 26) (by decide +kernel) rfl⟩
set_option maxRecDepth 50000 in
theorem gX2_next_7 : (∀ (X : tX) (d : Nat) (x0 : Nat) (σ : rS) (Q : tQ), Ex X d mX2_next 7 [.ref x0] [] σ Q = Ex X d mX2_next 8 [.ref x0] [.ref x0] σ Q) ∧
  (∀ (X : tX) (d : Nat) (x0 : Nat) (s0 : Nat) (T : tT) (I : tI) (J : tJ) (R : tR) (Q : tQ), Ex X d mX2_next 8 [.ref x0] [.ref s0] (T, I, J, R) Q = (T[s0]? = some (3, 2) ∧ Ex X d mX2_next 11 [.ref x0] [.int (I s0 2)] (T, I, J, R) Q)) ∧
  (∀ (X : tX) (d : Nat) (x0 : Nat) (s0 : Int32) (σ : rS) (Q : tQ), Ex X d mX2_next 11 [.ref x0] [.int s0] σ Q = Ex X d mX2_next 12 [.ref x0] [.ref x0, .int s0] σ Q) ∧
  (∀ (X : tX) (d : Nat) (x0 : Nat) (s0 : Nat) (s1 : Int32) (T : tT) (I : tI) (J : tJ) (R : tR) (Q : tQ), Ex X d mX2_next 12 [.ref x0] [.ref s0, .int s1] (T, I, J, R) Q = (T[s0]? = some (3, 2) ∧ Ex X d mX2_next 15 [.ref x0] [.int (I s0 1), .int s1] (T, I, J, R) Q)) ∧
  (∀ (X : tX) (d : Nat) (x0 : Nat) (s0 : Int32) (s1 : Int32) (σ : rS) (Q : tQ), Ex X d mX2_next 15 [.ref x0] [.int s0, .int s1] σ Q = (if s0 ≤ s1 then Ex X d mX2_next 30 [.ref x0] [] σ Q else Ex X d mX2_next 18 [.ref x0] [] σ Q)) := ⟨fun X d x0 σ Q => ex_P (i := .aload_n 0) (len := 1) (by decide +kernel) rfl,
  fun X d x0 s0 T I J R Q => q_getI (k := 27) (by decide +kernel) rfl rfl (by decide),
  fun X d x0 s0 σ Q => ex_P (i := .aload_n 0) (len := 1) (by decide +kernel) rfl,
  fun X d x0 s0 s1 T I J R Q => q_getI (k := 20) (by decide +kernel) rfl rfl (by decide),
  fun X d x0 s0 s1 σ Q => q_icmp_ge (o := 15) (by decide +kernel) rfl⟩
set_option maxRecDepth 50000 in
theorem gX2_next_18 : (∀ (X : tX) (d : Nat) (x0 : Nat) (σ : rS) (Q : tQ), Ex X d mX2_next 18 [.ref x0] [] σ Q = Ex X d mX2_next 19 [.ref x0] [.ref x0] σ Q) ∧
  (∀ (X : tX) (d : Nat) (x0 : Nat) (s0 : Nat) (T : tT) (I : tI) (J : tJ) (R : tR) (Q : tQ), Ex X d mX2_next 19 [.ref x0] [.ref s0] (T, I, J, R) Q = (T[s0]? = some (3, 2) ∧ Ex X d mX2_next 22 [.ref x0] [va_rf (R s0 0)] (T, I, J, R) Q)) ∧
  (∀ (X : tX) (d : Nat) (x0 : Nat) (s0 : Nat) (σ : rS) (Q : tQ), Ex X d mX2_next 22 [.ref x0] [.ref s0] σ Q = Ex X d mX2_next 23 [.ref x0] [.ref x0, .ref s0] σ Q) ∧
  (∀ (X : tX) (d : Nat) (x0 : Nat) (s0 : Nat) (s1 : Nat) (T : tT) (I : tI) (J : tJ) (R : tR) (Q : tQ), Ex X d mX2_next 23 [.ref x0] [.ref s0, .ref s1] (T, I, J, R) Q = (T[s0]? = some (3, 2) ∧ Ex X d mX2_next 26 [.ref x0] [.int (I s0 2), .ref s1] (T, I, J, R) Q)) ∧
  (∀ (X : tX) (d : Nat) (x0 : Nat) (s0 : Int32) (s1 : Nat) (T : tT) (I : tI) (J : tJ) (R : tR) (Q : tQ), Ex X d mX2_next 26 [.ref x0] [.int s0, .ref s1] (T, I, J, R) Q = (rIn T s1 0 s0 ∧ Ex X d mX2_next 27 [.ref x0] [.int (I s1 s0.toNatClampNeg)] (T, I, J, R) Q)) ∧
  (∀ (X : tX) (d : Nat) (x0 : Nat) (s0 : Int32) (σ : rS) (Q : tQ), Ex X d mX2_next 27 [.ref x0] [.int s0] σ Q = Ex X d mX2_next 31 [.ref x0] [.int s0] σ Q) := ⟨fun X d x0 σ Q => ex_P (i := .aload_n 0) (len := 1) (by decide +kernel) rfl,
  fun X d x0 s0 T I J R Q => q_getR (k := 9) (by decide +kernel) rfl rfl,
  fun X d x0 s0 σ Q => ex_P (i := .aload_n 0) (len := 1) (by decide +kernel) rfl,
  fun X d x0 s0 s1 T I J R Q => q_getI (k := 27) (by decide +kernel) rfl rfl (by decide),
  fun X d x0 s0 s1 T I J R Q => q_iald (by decide +kernel),
  fun X d x0 s0 σ Q => q_goto (o := 4) (by decide +kernel) rfl⟩
set_option maxRecDepth 50000 in
theorem gX2_next_30 : (∀ (X : tX) (d : Nat) (x0 : Nat) (σ : rS) (Q : tQ), Ex X d mX2_next 30 [.ref x0] [] σ Q = Ex X d mX2_next 31 [.ref x0] [.int (-1)] σ Q) := fun X d x0 σ Q => ex_P (i := .iconst (-1)) (len := 1) (by decide +kernel) rfl
set_option maxRecDepth 50000 in
theorem gX2_next_31 : (∀ (X : tX) (d : Nat) (x0 : Nat) (s0 : Int32) (σ : rS) (Q : tQ), Ex X d mX2_next 31 [.ref x0] [.int s0] σ Q = Q (some (.int s0)) σ) := fun X d x0 s0 σ Q => q_retI (by decide +kernel) rfl
set_option maxRecDepth 50000 in
theorem gX2_passes_0 : (∀ (X : tX) (d : Nat) (x0 : Nat) (x1 : Int32) (σ : rS) (Q : tQ), Ex X d mX2_passes 0 [.ref x0, .int x1, rU] [] σ Q = Ex X d mX2_passes 1 [.ref x0, .int x1, rU] [.ref x0] σ Q) ∧
  (∀ (X : tX) (d : Nat) (x0 : Nat) (x1 : Int32) (s0 : Nat) (T : tT) (I : tI) (J : tJ) (R : tR) (Q : tQ), Ex X (d + 1) mX2_passes 1 [.ref x0, .int x1, rU] [.ref s0] (T, I, J, R) Q = (T[s0]? = some (3, 2) ∧ Ex X d mX2_next 0 [.ref s0] [] (T, I, J, R) (fun v σ1 => Ex X (d + 1) mX2_passes 4 [.ref x0, .int x1, rU] (v.toList ++ []) σ1 Q))) := ⟨fun X d x0 x1 σ Q => ex_P (i := .aload_n 0) (len := 1) (by decide +kernel) rfl,
  fun X d x0 x1 s0 T I J R Q => q_callV (k := 34) (as := []) (st := []) (show rlk mX2_passes.2.2.2.2.2.2 1 = some (.invokevirtual 34, 3) from by decide +kernel) rfl rfl rfl (Nat.le_of_ble_eq_true rfl) (Nat.le_of_ble_eq_true rfl) rfl⟩
set_option maxRecDepth 50000 in
theorem gX2_passes_4 : (∀ (X : tX) (d : Nat) (x0 : Nat) (x1 : Int32) (s0 : Int32) (σ : rS) (Q : tQ), Ex X d mX2_passes 4 [.ref x0, .int x1, rU] [.int s0] σ Q = Ex X d mX2_passes 5 [.ref x0, .int x1, rU] [.int x1, .int s0] σ Q) ∧
  (∀ (X : tX) (d : Nat) (x0 : Nat) (x1 : Int32) (s0 : Int32) (s1 : Int32) (σ : rS) (Q : tQ), Ex X d mX2_passes 5 [.ref x0, .int x1, rU] [.int s0, .int s1] σ Q = (if s1 = s0 then Ex X d mX2_passes 8 [.ref x0, .int x1, rU] [] σ Q else Ex X d mX2_passes 12 [.ref x0, .int x1, rU] [] σ Q)) := ⟨fun X d x0 x1 s0 σ Q => ex_P (i := .iload_n 1) (len := 1) (by decide +kernel) rfl,
  fun X d x0 x1 s0 s1 σ Q => q_icmp_ne (o := 7) (by decide +kernel) rfl⟩
set_option maxRecDepth 50000 in
theorem gX2_passes_8 : (∀ (X : tX) (d : Nat) (x0 : Nat) (x1 : Int32) (σ : rS) (Q : tQ), Ex X d mX2_passes 8 [.ref x0, .int x1, rU] [] σ Q = Ex X d mX2_passes 9 [.ref x0, .int x1, rU] [.int 1] σ Q) ∧
  (∀ (X : tX) (d : Nat) (x0 : Nat) (x1 : Int32) (s0 : Int32) (σ : rS) (Q : tQ), Ex X d mX2_passes 9 [.ref x0, .int x1, rU] [.int s0] σ Q = Ex X d mX2_passes 13 [.ref x0, .int x1, rU] [.int s0] σ Q) := ⟨fun X d x0 x1 σ Q => ex_P (i := .iconst 1) (len := 1) (by decide +kernel) rfl,
  fun X d x0 x1 s0 σ Q => q_goto (o := 4) (by decide +kernel) rfl⟩
set_option maxRecDepth 50000 in
theorem gX2_passes_12 : (∀ (X : tX) (d : Nat) (x0 : Nat) (x1 : Int32) (σ : rS) (Q : tQ), Ex X d mX2_passes 12 [.ref x0, .int x1, rU] [] σ Q = Ex X d mX2_passes 13 [.ref x0, .int x1, rU] [.int 0] σ Q) := fun X d x0 x1 σ Q => ex_P (i := .iconst 0) (len := 1) (by decide +kernel) rfl
set_option maxRecDepth 50000 in
theorem gX2_passes_13 : (∀ (X : tX) (d : Nat) (x0 : Nat) (x1 : Int32) (s0 : Int32) (σ : rS) (Q : tQ), Ex X d mX2_passes 13 [.ref x0, .int x1, rU] [.int s0] σ Q = Ex X d mX2_passes 14 [.ref x0, .int x1, .int s0] [] σ Q) ∧
  (∀ (X : tX) (d : Nat) (x0 : Nat) (x1 : Int32) (x2 : Int32) (σ : rS) (Q : tQ), Ex X d mX2_passes 14 [.ref x0, .int x1, .int x2] [] σ Q = Ex X d mX2_passes 15 [.ref x0, .int x1, .int x2] [.ref x0] σ Q) ∧
  (∀ (X : tX) (d : Nat) (x0 : Nat) (x1 : Int32) (x2 : Int32) (s0 : Nat) (σ : rS) (Q : tQ), Ex X d mX2_passes 15 [.ref x0, .int x1, .int x2] [.ref s0] σ Q = Ex X d mX2_passes 16 [.ref x0, .int x1, .int x2] [.ref s0, .ref s0] σ Q) ∧
  (∀ (X : tX) (d : Nat) (x0 : Nat) (x1 : Int32) (x2 : Int32) (s0 : Nat) (s1 : Nat) (T : tT) (I : tI) (J : tJ) (R : tR) (Q : tQ), Ex X d mX2_passes 16 [.ref x0, .int x1, .int x2] [.ref s0, .ref s1] (T, I, J, R) Q = (T[s0]? = some (3, 2) ∧ Ex X d mX2_passes 19 [.ref x0, .int x1, .int x2] [.int (I s0 2), .ref s1] (T, I, J, R) Q)) ∧
  (∀ (X : tX) (d : Nat) (x0 : Nat) (x1 : Int32) (x2 : Int32) (s0 : Int32) (s1 : Nat) (σ : rS) (Q : tQ), Ex X d mX2_passes 19 [.ref x0, .int x1, .int x2] [.int s0, .ref s1] σ Q = Ex X d mX2_passes 20 [.ref x0, .int x1, .int x2] [.int x2, .int s0, .ref s1] σ Q) ∧
  (∀ (X : tX) (d : Nat) (x0 : Nat) (x1 : Int32) (x2 : Int32) (s0 : Int32) (s1 : Int32) (s2 : Nat) (σ : rS) (Q : tQ), Ex X d mX2_passes 20 [.ref x0, .int x1, .int x2] [.int s0, .int s1, .ref s2] σ Q = (if s0 = 0 then Ex X d mX2_passes 27 [.ref x0, .int x1, .int x2] [.int s1, .ref s2] σ Q else Ex X d mX2_passes 23 [.ref x0, .int x1, .int x2] [.int s1, .ref s2] σ Q)) := ⟨fun X d x0 x1 s0 σ Q => ex_P (i := .istore_n 2) (len := 1) (by decide +kernel) rfl,
  fun X d x0 x1 x2 σ Q => ex_P (i := .aload_n 0) (len := 1) (by decide +kernel) rfl,
  fun X d x0 x1 x2 s0 σ Q => ex_P (i := .dup) (len := 1) (by decide +kernel) rfl,
  fun X d x0 x1 x2 s0 s1 T I J R Q => q_getI (k := 27) (by decide +kernel) rfl rfl (by decide),
  fun X d x0 x1 x2 s0 s1 σ Q => ex_P (i := .iload_n 2) (len := 1) (by decide +kernel) rfl,
  fun X d x0 x1 x2 s0 s1 s2 σ Q => q_if_eq (o := 7) (by decide +kernel) rfl⟩
set_option maxRecDepth 50000 in
theorem gX2_passes_23 : (∀ (X : tX) (d : Nat) (x0 : Nat) (x1 : Int32) (x2 : Int32) (s0 : Int32) (s1 : Nat) (σ : rS) (Q : tQ), Ex X d mX2_passes 23 [.ref x0, .int x1, .int x2] [.int s0, .ref s1] σ Q = Ex X d mX2_passes 24 [.ref x0, .int x1, .int x2] [.int 1, .int s0, .ref s1] σ Q) ∧
  (∀ (X : tX) (d : Nat) (x0 : Nat) (x1 : Int32) (x2 : Int32) (s0 : Int32) (s1 : Int32) (s2 : Nat) (σ : rS) (Q : tQ), Ex X d mX2_passes 24 [.ref x0, .int x1, .int x2] [.int s0, .int s1, .ref s2] σ Q = Ex X d mX2_passes 28 [.ref x0, .int x1, .int x2] [.int s0, .int s1, .ref s2] σ Q) := ⟨fun X d x0 x1 x2 s0 s1 σ Q => ex_P (i := .iconst 1) (len := 1) (by decide +kernel) rfl,
  fun X d x0 x1 x2 s0 s1 s2 σ Q => q_goto (o := 4) (by decide +kernel) rfl⟩
set_option maxRecDepth 50000 in
theorem gX2_passes_27 : (∀ (X : tX) (d : Nat) (x0 : Nat) (x1 : Int32) (x2 : Int32) (s0 : Int32) (s1 : Nat) (σ : rS) (Q : tQ), Ex X d mX2_passes 27 [.ref x0, .int x1, .int x2] [.int s0, .ref s1] σ Q = Ex X d mX2_passes 28 [.ref x0, .int x1, .int x2] [.int 0, .int s0, .ref s1] σ Q) := fun X d x0 x1 x2 s0 s1 σ Q => ex_P (i := .iconst 0) (len := 1) (by decide +kernel) rfl
set_option maxRecDepth 50000 in
theorem gX2_passes_28 : (∀ (X : tX) (d : Nat) (x0 : Nat) (x1 : Int32) (x2 : Int32) (s0 : Int32) (s1 : Int32) (s2 : Nat) (σ : rS) (Q : tQ), Ex X d mX2_passes 28 [.ref x0, .int x1, .int x2] [.int s0, .int s1, .ref s2] σ Q = Ex X d mX2_passes 29 [.ref x0, .int x1, .int x2] [.int (s1 + s0), .ref s2] σ Q) ∧
  (∀ (X : tX) (d : Nat) (x0 : Nat) (x1 : Int32) (x2 : Int32) (s0 : Int32) (s1 : Nat) (T : tT) (I : tI) (J : tJ) (R : tR) (Q : tQ), Ex X d mX2_passes 29 [.ref x0, .int x1, .int x2] [.int s0, .ref s1] (T, I, J, R) Q = (T[s1]? = some (3, 2) ∧ Ex X d mX2_passes 32 [.ref x0, .int x1, .int x2] [] (T, va_up I s1 (va_up (I s1) 2 s0), J, R) Q)) ∧
  (∀ (X : tX) (d : Nat) (x0 : Nat) (x1 : Int32) (x2 : Int32) (σ : rS) (Q : tQ), Ex X d mX2_passes 32 [.ref x0, .int x1, .int x2] [] σ Q = Ex X d mX2_passes 33 [.ref x0, .int x1, .int x2] [.int x2] σ Q) ∧
  (∀ (X : tX) (d : Nat) (x0 : Nat) (x1 : Int32) (x2 : Int32) (s0 : Int32) (σ : rS) (Q : tQ), Ex X d mX2_passes 33 [.ref x0, .int x1, .int x2] [.int s0] σ Q = ((s0 = 0 ∨ s0 = 1) ∧ Q (some (.int s0)) σ)) := ⟨fun X d x0 x1 x2 s0 s1 s2 σ Q => ex_P (i := .iadd) (len := 1) (by decide +kernel) rfl,
  fun X d x0 x1 x2 s0 s1 T I J R Q => q_putI (k := 27) (by decide +kernel) rfl rfl (by decide +kernel),
  fun X d x0 x1 x2 σ Q => ex_P (i := .iload_n 2) (len := 1) (by decide +kernel) rfl,
  fun X d x0 x1 x2 s0 σ Q => q_retZ (by decide +kernel) rfl⟩
set_option maxRecDepth 50000 in
theorem gX2_lines_0 : (∀ (X : tX) (d : Nat) (x0 : Nat) (σ : rS) (Q : tQ), Ex X d mX2_lines 0 [.ref x0, rU, rU] [] σ Q = Ex X d mX2_lines 1 [.ref x0, rU, rU] [.ref x0] σ Q) ∧
  (∀ (X : tX) (d : Nat) (x0 : Nat) (s0 : Nat) (T : tT) (I : tI) (J : tJ) (R : tR) (Q : tQ), Ex X (d + 1) mX2_lines 1 [.ref x0, rU, rU] [.ref s0] (T, I, J, R) Q = (T[s0]? = some (3, 2) ∧ Ex X d mX2_line 0 [.ref s0, rU] [] (T, I, J, R) (fun v σ1 => Ex X (d + 1) mX2_lines 4 [.ref x0, rU, rU] (v.toList ++ []) σ1 Q))) := ⟨fun X d x0 σ Q => ex_P (i := .aload_n 0) (len := 1) (by decide +kernel) rfl,
  fun X d x0 s0 T I J R Q => q_callV (k := 38) (as := []) (st := []) (show rlk mX2_lines.2.2.2.2.2.2 1 = some (.invokevirtual 38, 3) from by decide +kernel) rfl rfl rfl (Nat.le_of_ble_eq_true rfl) (Nat.le_of_ble_eq_true rfl) rfl⟩
set_option maxRecDepth 50000 in
theorem gX2_lines_4 : (∀ (X : tX) (d : Nat) (x0 : Nat) (s0 : Int32) (σ : rS) (Q : tQ), Ex X d mX2_lines 4 [.ref x0, rU, rU] [.int s0] σ Q = Ex X d mX2_lines 5 [.ref x0, .int s0, rU] [] σ Q) ∧
  (∀ (X : tX) (d : Nat) (x0 : Nat) (x1 : Int32) (σ : rS) (Q : tQ), Ex X d mX2_lines 5 [.ref x0, .int x1, rU] [] σ Q = Ex X d mX2_lines 6 [.ref x0, .int x1, rU] [.int 0] σ Q) ∧
  (∀ (X : tX) (d : Nat) (x0 : Nat) (x1 : Int32) (s0 : Int32) (σ : rS) (Q : tQ), Ex X d mX2_lines 6 [.ref x0, .int x1, rU] [.int s0] σ Q = Ex X d mX2_lines 7 [.ref x0, .int x1, .int s0] [] σ Q) := ⟨fun X d x0 s0 σ Q => ex_P (i := .istore_n 1) (len := 1) (by decide +kernel) rfl,
  fun X d x0 x1 σ Q => ex_P (i := .iconst 0) (len := 1) (by decide +kernel) rfl,
  fun X d x0 x1 s0 σ Q => ex_P (i := .istore_n 2) (len := 1) (by decide +kernel) rfl⟩
set_option maxRecDepth 50000 in
theorem gX2_lines_7 : (∀ (X : tX) (d : Nat) (x0 : Nat) (x1 : Int32) (x2 : Int32) (σ : rS) (Q : tQ), Ex X d mX2_lines 7 [.ref x0, .int x1, .int x2] [] σ Q = Ex X d mX2_lines 8 [.ref x0, .int x1, .int x2] [.int x1] σ Q) ∧
  (∀ (X : tX) (d : Nat) (x0 : Nat) (x1 : Int32) (x2 : Int32) (s0 : Int32) (σ : rS) (Q : tQ), Ex X d mX2_lines 8 [.ref x0, .int x1, .int x2] [.int s0] σ Q = (if s0 = 0 then Ex X d mX2_lines 56 [.ref x0, .int x1, .int x2] [] σ Q else Ex X d mX2_lines 11 [.ref x0, .int x1, .int x2] [] σ Q)) := ⟨fun X d x0 x1 x2 σ Q => ex_P (i := .iload_n 1) (len := 1) (by decide +kernel) rfl,
  fun X d x0 x1 x2 s0 σ Q => q_if_eq (o := 48) (by decide +kernel) rfl⟩
set_option maxRecDepth 50000 in
theorem gX2_lines_11 : (∀ (X : tX) (d : Nat) (x0 : Nat) (x1 : Int32) (x2 : Int32) (σ : rS) (Q : tQ), Ex X d mX2_lines 11 [.ref x0, .int x1, .int x2] [] σ Q = Ex X d mX2_lines 12 [.ref x0, .int x1, .int x2] [.ref x0] σ Q) ∧
  (∀ (X : tX) (d : Nat) (x0 : Nat) (x1 : Int32) (x2 : Int32) (s0 : Nat) (T : tT) (I : tI) (J : tJ) (R : tR) (Q : tQ), Ex X d mX2_lines 12 [.ref x0, .int x1, .int x2] [.ref s0] (T, I, J, R) Q = (T[s0]? = some (3, 2) ∧ Ex X d mX2_lines 15 [.ref x0, .int x1, .int x2] [.int (I s0 2)] (T, I, J, R) Q)) ∧
  (∀ (X : tX) (d : Nat) (x0 : Nat) (x1 : Int32) (x2 : Int32) (s0 : Int32) (σ : rS) (Q : tQ), Ex X d mX2_lines 15 [.ref x0, .int x1, .int x2] [.int s0] σ Q = Ex X d mX2_lines 16 [.ref x0, .int x1, .int x2] [.ref x0, .int s0] σ Q) ∧
  (∀ (X : tX) (d : Nat) (x0 : Nat) (x1 : Int32) (x2 : Int32) (s0 : Nat) (s1 : Int32) (T : tT) (I : tI) (J : tJ) (R : tR) (Q : tQ), Ex X d mX2_lines 16 [.ref x0, .int x1, .int x2] [.ref s0, .int s1] (T, I, J, R) Q = (T[s0]? = some (3, 2) ∧ Ex X d mX2_lines 19 [.ref x0, .int x1, .int x2] [.int (I s0 1), .int s1] (T, I, J, R) Q)) ∧
  (∀ (X : tX) (d : Nat) (x0 : Nat) (x1 : Int32) (x2 : Int32) (s0 : Int32) (s1 : Int32) (σ : rS) (Q : tQ), Ex X d mX2_lines 19 [.ref x0, .int x1, .int x2] [.int s0, .int s1] σ Q = (if s0 ≤ s1 then Ex X d mX2_lines 56 [.ref x0, .int x1, .int x2] [] σ Q else Ex X d mX2_lines 22 [.ref x0, .int x1, .int x2] [] σ Q)) := ⟨fun X d x0 x1 x2 σ Q => ex_P (i := .aload_n 0) (len := 1) (by decide +kernel) rfl,
  fun X d x0 x1 x2 s0 T I J R Q => q_getI (k := 27) (by decide +kernel) rfl rfl (by decide),
  fun X d x0 x1 x2 s0 σ Q => ex_P (i := .aload_n 0) (len := 1) (by decide +kernel) rfl,
  fun X d x0 x1 x2 s0 s1 T I J R Q => q_getI (k := 20) (by decide +kernel) rfl rfl (by decide),
  fun X d x0 x1 x2 s0 s1 σ Q => q_icmp_ge (o := 37) (by decide +kernel) rfl⟩
set_option maxRecDepth 50000 in
theorem gX2_lines_22 : (∀ (X : tX) (d : Nat) (x0 : Nat) (x1 : Int32) (x2 : Int32) (σ : rS) (Q : tQ), Ex X d mX2_lines 22 [.ref x0, .int x1, .int x2] [] σ Q = Ex X d mX2_lines 23 [.ref x0, .int x1, .int x2] [.int x2] σ Q) ∧
  (∀ (X : tX) (d : Nat) (x0 : Nat) (x1 : Int32) (x2 : Int32) (s0 : Int32) (σ : rS) (Q : tQ), Ex X d mX2_lines 23 [.ref x0, .int x1, .int x2] [.int s0] σ Q = Ex X d mX2_lines 25 [.ref x0, .int x1, .int x2] [.int 120, .int s0] σ Q) ∧
  (∀ (X : tX) (d : Nat) (x0 : Nat) (x1 : Int32) (x2 : Int32) (s0 : Int32) (s1 : Int32) (σ : rS) (Q : tQ), Ex X d mX2_lines 25 [.ref x0, .int x1, .int x2] [.int s0, .int s1] σ Q = (if s0 ≤ s1 then Ex X d mX2_lines 56 [.ref x0, .int x1, .int x2] [] σ Q else Ex X d mX2_lines 28 [.ref x0, .int x1, .int x2] [] σ Q)) := ⟨fun X d x0 x1 x2 σ Q => ex_P (i := .iload_n 2) (len := 1) (by decide +kernel) rfl,
  fun X d x0 x1 x2 s0 σ Q => ex_P (i := .bipush 120) (len := 2) (by decide +kernel) rfl,
  fun X d x0 x1 x2 s0 s1 σ Q => q_icmp_ge (o := 31) (by decide +kernel) rfl⟩
set_option maxRecDepth 50000 in
theorem gX2_lines_28 : (∀ (X : tX) (d : Nat) (x0 : Nat) (x1 : Int32) (x2 : Int32) (σ : rS) (Q : tQ), Ex X d mX2_lines 28 [.ref x0, .int x1, .int x2] [] σ Q = Ex X d mX2_lines 29 [.ref x0, .int x1, .int x2] [.ref x0] σ Q) ∧
  (∀ (X : tX) (d : Nat) (x0 : Nat) (x1 : Int32) (x2 : Int32) (s0 : Nat) (σ : rS) (Q : tQ), Ex X d mX2_lines 29 [.ref x0, .int x1, .int x2] [.ref s0] σ Q = Ex X d mX2_lines 31 [.ref x0, .int x1, .int x2] [.int 59, .ref s0] σ Q) ∧
  (∀ (X : tX) (d : Nat) (x0 : Nat) (x1 : Int32) (x2 : Int32) (s0 : Int32) (s1 : Nat) (T : tT) (I : tI) (J : tJ) (R : tR) (Q : tQ), Ex X (d + 1) mX2_lines 31 [.ref x0, .int x1, .int x2] [.int s0, .ref s1] (T, I, J, R) Q = (T[s1]? = some (3, 2) ∧ Ex X d mX2_passes 0 [.ref s1, .int s0, rU] [] (T, I, J, R) (fun v σ1 => Ex X (d + 1) mX2_lines 34 [.ref x0, .int x1, .int x2] (v.toList ++ []) σ1 Q))) := ⟨fun X d x0 x1 x2 σ Q => ex_P (i := .aload_n 0) (len := 1) (by decide +kernel) rfl,
  fun X d x0 x1 x2 s0 σ Q => ex_P (i := .bipush 59) (len := 2) (by decide +kernel) rfl,
  fun X d x0 x1 x2 s0 s1 T I J R Q => q_callV (k := 41) (as := [.int s0]) (st := []) (show rlk mX2_lines.2.2.2.2.2.2 31 = some (.invokevirtual 41, 3) from by decide +kernel) rfl rfl rfl (Nat.le_of_ble_eq_true rfl) (Nat.le_of_ble_eq_true rfl) rfl⟩
set_option maxRecDepth 50000 in
theorem gX2_lines_34 : (∀ (X : tX) (d : Nat) (x0 : Nat) (x1 : Int32) (x2 : Int32) (s0 : Int32) (σ : rS) (Q : tQ), Ex X d mX2_lines 34 [.ref x0, .int x1, .int x2] [.int s0] σ Q = (if s0 = 0 then Ex X d mX2_lines 48 [.ref x0, .int x1, .int x2] [] σ Q else Ex X d mX2_lines 37 [.ref x0, .int x1, .int x2] [] σ Q)) := fun X d x0 x1 x2 s0 σ Q => q_if_eq (o := 14) (by decide +kernel) rfl
set_option maxRecDepth 50000 in
theorem gX2_lines_37 : (∀ (X : tX) (d : Nat) (x0 : Nat) (x1 : Int32) (x2 : Int32) (σ : rS) (Q : tQ), Ex X d mX2_lines 37 [.ref x0, .int x1, .int x2] [] σ Q = Ex X d mX2_lines 38 [.ref x0, .int x1, .int x2] [.ref x0] σ Q) ∧
  (∀ (X : tX) (d : Nat) (x0 : Nat) (x1 : Int32) (x2 : Int32) (s0 : Nat) (T : tT) (I : tI) (J : tJ) (R : tR) (Q : tQ), Ex X (d + 1) mX2_lines 38 [.ref x0, .int x1, .int x2] [.ref s0] (T, I, J, R) Q = (T[s0]? = some (3, 2) ∧ Ex X d mX2_line 0 [.ref s0, rU] [] (T, I, J, R) (fun v σ1 => Ex X (d + 1) mX2_lines 41 [.ref x0, .int x1, .int x2] (v.toList ++ []) σ1 Q))) := ⟨fun X d x0 x1 x2 σ Q => ex_P (i := .aload_n 0) (len := 1) (by decide +kernel) rfl,
  fun X d x0 x1 x2 s0 T I J R Q => q_callV (k := 38) (as := []) (st := []) (show rlk mX2_lines.2.2.2.2.2.2 38 = some (.invokevirtual 38, 3) from by decide +kernel) rfl rfl rfl (Nat.le_of_ble_eq_true rfl) (Nat.le_of_ble_eq_true rfl) rfl⟩
set_option maxRecDepth 50000 in
theorem gX2_lines_41 : (∀ (X : tX) (d : Nat) (x0 : Nat) (x1 : Int32) (x2 : Int32) (s0 : Int32) (σ : rS) (Q : tQ), Ex X d mX2_lines 41 [.ref x0, .int x1, .int x2] [.int s0] σ Q = (if s0 = 0 then Ex X d mX2_lines 48 [.ref x0, .int x1, .int x2] [] σ Q else Ex X d mX2_lines 44 [.ref x0, .int x1, .int x2] [] σ Q)) := fun X d x0 x1 x2 s0 σ Q => q_if_eq (o := 7) (by decide +kernel) rfl
set_option maxRecDepth 50000 in
theorem gX2_lines_44 : (∀ (X : tX) (d : Nat) (x0 : Nat) (x1 : Int32) (x2 : Int32) (σ : rS) (Q : tQ), Ex X d mX2_lines 44 [.ref x0, .int x1, .int x2] [] σ Q = Ex X d mX2_lines 45 [.ref x0, .int x1, .int x2] [.int 1] σ Q) ∧
  (∀ (X : tX) (d : Nat) (x0 : Nat) (x1 : Int32) (x2 : Int32) (s0 : Int32) (σ : rS) (Q : tQ), Ex X d mX2_lines 45 [.ref x0, .int x1, .int x2] [.int s0] σ Q = Ex X d mX2_lines 49 [.ref x0, .int x1, .int x2] [.int s0] σ Q) := ⟨fun X d x0 x1 x2 σ Q => ex_P (i := .iconst 1) (len := 1) (by decide +kernel) rfl,
  fun X d x0 x1 x2 s0 σ Q => q_goto (o := 4) (by decide +kernel) rfl⟩
set_option maxRecDepth 50000 in
theorem gX2_lines_48 : (∀ (X : tX) (d : Nat) (x0 : Nat) (x1 : Int32) (x2 : Int32) (σ : rS) (Q : tQ), Ex X d mX2_lines 48 [.ref x0, .int x1, .int x2] [] σ Q = Ex X d mX2_lines 49 [.ref x0, .int x1, .int x2] [.int 0] σ Q) := fun X d x0 x1 x2 σ Q => ex_P (i := .iconst 0) (len := 1) (by decide +kernel) rfl
set_option maxRecDepth 50000 in
theorem gX2_lines_49 : (∀ (X : tX) (d : Nat) (x0 : Nat) (x1 : Int32) (x2 : Int32) (s0 : Int32) (σ : rS) (Q : tQ), Ex X d mX2_lines 49 [.ref x0, .int x1, .int x2] [.int s0] σ Q = Ex X d mX2_lines 50 [.ref x0, .int s0, .int x2] [] σ Q) ∧
  (∀ (X : tX) (d : Nat) (x0 : Nat) (x1 : Int32) (x2 : Int32) (σ : rS) (Q : tQ), Ex X d mX2_lines 50 [.ref x0, .int x1, .int x2] [] σ Q = Ex X d mX2_lines 53 [.ref x0, .int x1, .int (x2 + 1)] [] σ Q) ∧
  (∀ (X : tX) (d : Nat) (x0 : Nat) (x1 : Int32) (x2 : Int32) (σ : rS) (Q : tQ), Ex X d mX2_lines 53 [.ref x0, .int x1, .int x2] [] σ Q = Ex X d mX2_lines 7 [.ref x0, .int x1, .int x2] [] σ Q) := ⟨fun X d x0 x1 x2 s0 σ Q => ex_P (i := .istore_n 1) (len := 1) (by decide +kernel) rfl,
  fun X d x0 x1 x2 σ Q => ex_P (i := .iinc 2 1) (len := 3) (by decide +kernel) rfl,
  fun X d x0 x1 x2 σ Q => q_goto (o := (-46)) (by decide +kernel) rfl⟩
set_option maxRecDepth 50000 in
theorem gX2_lines_56 : (∀ (X : tX) (d : Nat) (x0 : Nat) (x1 : Int32) (x2 : Int32) (σ : rS) (Q : tQ), Ex X d mX2_lines 56 [.ref x0, .int x1, .int x2] [] σ Q = Ex X d mX2_lines 57 [.ref x0, .int x1, .int x2] [.int x1] σ Q) ∧
  (∀ (X : tX) (d : Nat) (x0 : Nat) (x1 : Int32) (x2 : Int32) (s0 : Int32) (σ : rS) (Q : tQ), Ex X d mX2_lines 57 [.ref x0, .int x1, .int x2] [.int s0] σ Q = ((s0 = 0 ∨ s0 = 1) ∧ Q (some (.int s0)) σ)) := ⟨fun X d x0 x1 x2 σ Q => ex_P (i := .iload_n 1) (len := 1) (by decide +kernel) rfl,
  fun X d x0 x1 x2 s0 σ Q => q_retZ (by decide +kernel) rfl⟩
set_option maxRecDepth 50000 in
theorem gX2_line_0 : (∀ (X : tX) (d : Nat) (x0 : Nat) (σ : rS) (Q : tQ), Ex X d mX2_line 0 [.ref x0, rU] [] σ Q = Ex X d mX2_line 1 [.ref x0, rU] [.ref x0] σ Q) ∧
  (∀ (X : tX) (d : Nat) (x0 : Nat) (s0 : Nat) (σ : rS) (Q : tQ), Ex X d mX2_line 1 [.ref x0, rU] [.ref s0] σ Q = Ex X d mX2_line 2 [.ref x0, rU] [.int 0, .ref s0] σ Q) ∧
  (∀ (X : tX) (d : Nat) (x0 : Nat) (s0 : Int32) (s1 : Nat) (T : tT) (I : tI) (J : tJ) (R : tR) (Q : tQ), Ex X (d + 1) mX2_line 2 [.ref x0, rU] [.int s0, .ref s1] (T, I, J, R) Q = (T[s1]? = some (3, 2) ∧ Ex X d mX2_either 0 [.ref s1, .int s0, rU, rU] [] (T, I, J, R) (fun v σ1 => Ex X (d + 1) mX2_line 5 [.ref x0, rU] (v.toList ++ []) σ1 Q))) := ⟨fun X d x0 σ Q => ex_P (i := .aload_n 0) (len := 1) (by decide +kernel) rfl,
  fun X d x0 s0 σ Q => ex_P (i := .iconst 0) (len := 1) (by decide +kernel) rfl,
  fun X d x0 s0 s1 T I J R Q => q_callV (k := 45) (as := [.int s0]) (st := []) (show rlk mX2_line.2.2.2.2.2.2 2 = some (.invokevirtual 45, 3) from by decide +kernel) rfl rfl rfl (Nat.le_of_ble_eq_true rfl) (Nat.le_of_ble_eq_true rfl) rfl⟩
set_option maxRecDepth 50000 in
theorem gX2_line_5 : (∀ (X : tX) (d : Nat) (x0 : Nat) (s0 : Int32) (σ : rS) (Q : tQ), Ex X d mX2_line 5 [.ref x0, rU] [.int s0] σ Q = Ex X d mX2_line 6 [.ref x0, .int s0] [] σ Q) ∧
  (∀ (X : tX) (d : Nat) (x0 : Nat) (x1 : Int32) (σ : rS) (Q : tQ), Ex X d mX2_line 6 [.ref x0, .int x1] [] σ Q = Ex X d mX2_line 7 [.ref x0, .int x1] [.int x1] σ Q) ∧
  (∀ (X : tX) (d : Nat) (x0 : Nat) (x1 : Int32) (s0 : Int32) (σ : rS) (Q : tQ), Ex X d mX2_line 7 [.ref x0, .int x1] [.int s0] σ Q = (if s0 = 0 then Ex X d mX2_line 34 [.ref x0, .int x1] [] σ Q else Ex X d mX2_line 10 [.ref x0, .int x1] [] σ Q)) := ⟨fun X d x0 s0 σ Q => ex_P (i := .istore_n 1) (len := 1) (by decide +kernel) rfl,
  fun X d x0 x1 σ Q => ex_P (i := .iload_n 1) (len := 1) (by decide +kernel) rfl,
  fun X d x0 x1 s0 σ Q => q_if_eq (o := 27) (by decide +kernel) rfl⟩
set_option maxRecDepth 50000 in
theorem gX2_line_10 : (∀ (X : tX) (d : Nat) (x0 : Nat) (x1 : Int32) (σ : rS) (Q : tQ), Ex X d mX2_line 10 [.ref x0, .int x1] [] σ Q = Ex X d mX2_line 11 [.ref x0, .int x1] [.ref x0] σ Q) ∧
  (∀ (X : tX) (d : Nat) (x0 : Nat) (x1 : Int32) (s0 : Nat) (σ : rS) (Q : tQ), Ex X d mX2_line 11 [.ref x0, .int x1] [.ref s0] σ Q = Ex X d mX2_line 13 [.ref x0, .int x1] [.int 63, .ref s0] σ Q) ∧
  (∀ (X : tX) (d : Nat) (x0 : Nat) (x1 : Int32) (s0 : Int32) (s1 : Nat) (T : tT) (I : tI) (J : tJ) (R : tR) (Q : tQ), Ex X (d + 1) mX2_line 13 [.ref x0, .int x1] [.int s0, .ref s1] (T, I, J, R) Q = (T[s1]? = some (3, 2) ∧ Ex X d mX2_passes 0 [.ref s1, .int s0, rU] [] (T, I, J, R) (fun v σ1 => Ex X (d + 1) mX2_line 16 [.ref x0, .int x1] (v.toList ++ []) σ1 Q))) := ⟨fun X d x0 x1 σ Q => ex_P (i := .aload_n 0) (len := 1) (by decide +kernel) rfl,
  fun X d x0 x1 s0 σ Q => ex_P (i := .bipush 63) (len := 2) (by decide +kernel) rfl,
  fun X d x0 x1 s0 s1 T I J R Q => q_callV (k := 41) (as := [.int s0]) (st := []) (show rlk mX2_line.2.2.2.2.2.2 13 = some (.invokevirtual 41, 3) from by decide +kernel) rfl rfl rfl (Nat.le_of_ble_eq_true rfl) (Nat.le_of_ble_eq_true rfl) rfl⟩
set_option maxRecDepth 50000 in
theorem gX2_line_16 : (∀ (X : tX) (d : Nat) (x0 : Nat) (x1 : Int32) (s0 : Int32) (σ : rS) (Q : tQ), Ex X d mX2_line 16 [.ref x0, .int x1] [.int s0] σ Q = (if s0 = 0 then Ex X d mX2_line 34 [.ref x0, .int x1] [] σ Q else Ex X d mX2_line 19 [.ref x0, .int x1] [] σ Q)) := fun X d x0 x1 s0 σ Q => q_if_eq (o := 18) (by decide +kernel) rfl
set_option maxRecDepth 50000 in
theorem gX2_line_19 : (∀ (X : tX) (d : Nat) (x0 : Nat) (x1 : Int32) (σ : rS) (Q : tQ), Ex X d mX2_line 19 [.ref x0, .int x1] [] σ Q = Ex X d mX2_line 20 [.ref x0, .int x1] [.ref x0] σ Q) ∧
  (∀ (X : tX) (d : Nat) (x0 : Nat) (x1 : Int32) (s0 : Nat) (T : tT) (I : tI) (J : tJ) (R : tR) (Q : tQ), Ex X d mX2_line 20 [.ref x0, .int x1] [.ref s0] (T, I, J, R) Q = (T[s0]? = some (3, 2) ∧ Ex X d mX2_line 23 [.ref x0, .int x1] [va_rf (R s0 3)] (T, I, J, R) Q)) ∧
  (∀ (X : tX) (d : Nat) (x0 : Nat) (x1 : Int32) (s0 : Nat) (σ : rS) (Q : tQ), Ex X d mX2_line 23 [.ref x0, .int x1] [.ref s0] σ Q = Ex X d mX2_line 25 [.ref x0, .int x1] [.int (-63), .ref s0] σ Q) ∧
  (∀ (X : tX) (d : Nat) (x0 : Nat) (x1 : Int32) (s0 : Int32) (s1 : Nat) (T : tT) (I : tI) (J : tJ) (R : tR) (Q : tQ), Ex X (d + 1) mX2_line 25 [.ref x0, .int x1] [.int s0, .ref s1] (T, I, J, R) Q = (T[s1]? = some (3, 1) ∧ Ex X d mX1_add 0 [.ref s1, .int s0] [] (T, I, J, R) (fun v σ1 => Ex X (d + 1) mX2_line 28 [.ref x0, .int x1] (v.toList ++ []) σ1 Q))) := ⟨fun X d x0 x1 σ Q => ex_P (i := .aload_n 0) (len := 1) (by decide +kernel) rfl,
  fun X d x0 x1 s0 T I J R Q => q_getR (k := 16) (by decide +kernel) rfl rfl,
  fun X d x0 x1 s0 σ Q => ex_P (i := .bipush (-63)) (len := 2) (by decide +kernel) rfl,
  fun X d x0 x1 s0 s1 T I J R Q => q_callV (k := 48) (as := [.int s0]) (st := []) (show rlk mX2_line.2.2.2.2.2.2 25 = some (.invokevirtual 48, 3) from by decide +kernel) rfl rfl rfl (Nat.le_of_ble_eq_true rfl) (Nat.le_of_ble_eq_true rfl) rfl⟩
set_option maxRecDepth 50000 in
theorem gX2_line_28 : (∀ (X : tX) (d : Nat) (x0 : Nat) (x1 : Int32) (σ : rS) (Q : tQ), Ex X d mX2_line 28 [.ref x0, .int x1] [] σ Q = Ex X d mX2_line 29 [.ref x0, .int x1] [.ref x0] σ Q) ∧
  (∀ (X : tX) (d : Nat) (x0 : Nat) (x1 : Int32) (s0 : Nat) (σ : rS) (Q : tQ), Ex X d mX2_line 29 [.ref x0, .int x1] [.ref s0] σ Q = Ex X d mX2_line 30 [.ref x0, .int x1] [.int 0, .ref s0] σ Q) ∧
  (∀ (X : tX) (d : Nat) (x0 : Nat) (x1 : Int32) (s0 : Int32) (s1 : Nat) (T : tT) (I : tI) (J : tJ) (R : tR) (Q : tQ), Ex X (d + 1) mX2_line 30 [.ref x0, .int x1] [.int s0, .ref s1] (T, I, J, R) Q = (T[s1]? = some (3, 2) ∧ Ex X d mX2_either 0 [.ref s1, .int s0, rU, rU] [] (T, I, J, R) (fun v σ1 => Ex X (d + 1) mX2_line 33 [.ref x0, .int x1] (v.toList ++ []) σ1 Q))) := ⟨fun X d x0 x1 σ Q => ex_P (i := .aload_n 0) (len := 1) (by decide +kernel) rfl,
  fun X d x0 x1 s0 σ Q => ex_P (i := .iconst 0) (len := 1) (by decide +kernel) rfl,
  fun X d x0 x1 s0 s1 T I J R Q => q_callV (k := 45) (as := [.int s0]) (st := []) (show rlk mX2_line.2.2.2.2.2.2 30 = some (.invokevirtual 45, 3) from by decide +kernel) rfl rfl rfl (Nat.le_of_ble_eq_true rfl) (Nat.le_of_ble_eq_true rfl) rfl⟩
set_option maxRecDepth 50000 in
theorem gX2_line_33 : (∀ (X : tX) (d : Nat) (x0 : Nat) (x1 : Int32) (s0 : Int32) (σ : rS) (Q : tQ), Ex X d mX2_line 33 [.ref x0, .int x1] [.int s0] σ Q = Ex X d mX2_line 34 [.ref x0, .int s0] [] σ Q) := fun X d x0 x1 s0 σ Q => ex_P (i := .istore_n 1) (len := 1) (by decide +kernel) rfl
set_option maxRecDepth 50000 in
theorem gX2_line_34 : (∀ (X : tX) (d : Nat) (x0 : Nat) (x1 : Int32) (σ : rS) (Q : tQ), Ex X d mX2_line 34 [.ref x0, .int x1] [] σ Q = Ex X d mX2_line 35 [.ref x0, .int x1] [.ref x0] σ Q) ∧
  (∀ (X : tX) (d : Nat) (x0 : Nat) (x1 : Int32) (s0 : Nat) (T : tT) (I : tI) (J : tJ) (R : tR) (Q : tQ), Ex X d mX2_line 35 [.ref x0, .int x1] [.ref s0] (T, I, J, R) Q = (T[s0]? = some (3, 2) ∧ Ex X d mX2_line 38 [.ref x0, .int x1] [va_rf (R s0 3)] (T, I, J, R) Q)) ∧
  (∀ (X : tX) (d : Nat) (x0 : Nat) (x1 : Int32) (s0 : Nat) (σ : rS) (Q : tQ), Ex X d mX2_line 38 [.ref x0, .int x1] [.ref s0] σ Q = Ex X d mX2_line 40 [.ref x0, .int x1] [.int (-59), .ref s0] σ Q) ∧
  (∀ (X : tX) (d : Nat) (x0 : Nat) (x1 : Int32) (s0 : Int32) (s1 : Nat) (T : tT) (I : tI) (J : tJ) (R : tR) (Q : tQ), Ex X (d + 1) mX2_line 40 [.ref x0, .int x1] [.int s0, .ref s1] (T, I, J, R) Q = (T[s1]? = some (3, 1) ∧ Ex X d mX1_add 0 [.ref s1, .int s0] [] (T, I, J, R) (fun v σ1 => Ex X (d + 1) mX2_line 43 [.ref x0, .int x1] (v.toList ++ []) σ1 Q))) := ⟨fun X d x0 x1 σ Q => ex_P (i := .aload_n 0) (len := 1) (by decide +kernel) rfl,
  fun X d x0 x1 s0 T I J R Q => q_getR (k := 16) (by decide +kernel) rfl rfl,
  fun X d x0 x1 s0 σ Q => ex_P (i := .bipush (-59)) (len := 2) (by decide +kernel) rfl,
  fun X d x0 x1 s0 s1 T I J R Q => q_callV (k := 48) (as := [.int s0]) (st := []) (show rlk mX2_line.2.2.2.2.2.2 40 = some (.invokevirtual 48, 3) from by decide +kernel) rfl rfl rfl (Nat.le_of_ble_eq_true rfl) (Nat.le_of_ble_eq_true rfl) rfl⟩
set_option maxRecDepth 50000 in
theorem gX2_line_43 : (∀ (X : tX) (d : Nat) (x0 : Nat) (x1 : Int32) (σ : rS) (Q : tQ), Ex X d mX2_line 43 [.ref x0, .int x1] [] σ Q = Ex X d mX2_line 44 [.ref x0, .int x1] [.int x1] σ Q) ∧
  (∀ (X : tX) (d : Nat) (x0 : Nat) (x1 : Int32) (s0 : Int32) (σ : rS) (Q : tQ), Ex X d mX2_line 44 [.ref x0, .int x1] [.int s0] σ Q = ((s0 = 0 ∨ s0 = 1) ∧ Q (some (.int s0)) σ)) := ⟨fun X d x0 x1 σ Q => ex_P (i := .iload_n 1) (len := 1) (by decide +kernel) rfl,
  fun X d x0 x1 s0 σ Q => q_retZ (by decide +kernel) rfl⟩
set_option maxRecDepth 50000 in
theorem gX2_either_0 : (∀ (X : tX) (d : Nat) (x0 : Nat) (x1 : Int32) (σ : rS) (Q : tQ), Ex X d mX2_either 0 [.ref x0, .int x1, rU, rU] [] σ Q = Ex X d mX2_either 1 [.ref x0, .int x1, rU, rU] [.ref x0] σ Q) ∧
  (∀ (X : tX) (d : Nat) (x0 : Nat) (x1 : Int32) (s0 : Nat) (σ : rS) (Q : tQ), Ex X d mX2_either 1 [.ref x0, .int x1, rU, rU] [.ref s0] σ Q = Ex X d mX2_either 2 [.ref x0, .int x1, rU, rU] [.int x1, .ref s0] σ Q) ∧
  (∀ (X : tX) (d : Nat) (x0 : Nat) (x1 : Int32) (s0 : Int32) (s1 : Nat) (T : tT) (I : tI) (J : tJ) (R : tR) (Q : tQ), Ex X (d + 1) mX2_either 2 [.ref x0, .int x1, rU, rU] [.int s0, .ref s1] (T, I, J, R) Q = (T[s1]? = some (3, 2) ∧ Ex X d mX2_both 0 [.ref s1, .int s0, rU, rU] [] (T, I, J, R) (fun v σ1 => Ex X (d + 1) mX2_either 5 [.ref x0, .int x1, rU, rU] (v.toList ++ []) σ1 Q))) := ⟨fun X d x0 x1 σ Q => ex_P (i := .aload_n 0) (len := 1) (by decide +kernel) rfl,
  fun X d x0 x1 s0 σ Q => ex_P (i := .iload_n 1) (len := 1) (by decide +kernel) rfl,
  fun X d x0 x1 s0 s1 T I J R Q => q_callV (k := 52) (as := [.int s0]) (st := []) (show rlk mX2_either.2.2.2.2.2.2 2 = some (.invokevirtual 52, 3) from by decide +kernel) rfl rfl rfl (Nat.le_of_ble_eq_true rfl) (Nat.le_of_ble_eq_true rfl) rfl⟩
set_option maxRecDepth 50000 in
theorem gX2_either_5 : (∀ (X : tX) (d : Nat) (x0 : Nat) (x1 : Int32) (s0 : Int32) (σ : rS) (Q : tQ), Ex X d mX2_either 5 [.ref x0, .int x1, rU, rU] [.int s0] σ Q = Ex X d mX2_either 6 [.ref x0, .int x1, .int s0, rU] [] σ Q) ∧
  (∀ (X : tX) (d : Nat) (x0 : Nat) (x1 : Int32) (x2 : Int32) (σ : rS) (Q : tQ), Ex X d mX2_either 6 [.ref x0, .int x1, .int x2, rU] [] σ Q = Ex X d mX2_either 7 [.ref x0, .int x1, .int x2, rU] [.int 0] σ Q) ∧
  (∀ (X : tX) (d : Nat) (x0 : Nat) (x1 : Int32) (x2 : Int32) (s0 : Int32) (σ : rS) (Q : tQ), Ex X d mX2_either 7 [.ref x0, .int x1, .int x2, rU] [.int s0] σ Q = Ex X d mX2_either 8 [.ref x0, .int x1, .int x2, .int s0] [] σ Q) := ⟨fun X d x0 x1 s0 σ Q => ex_P (i := .istore_n 2) (len := 1) (by decide +kernel) rfl,
  fun X d x0 x1 x2 σ Q => ex_P (i := .iconst 0) (len := 1) (by decide +kernel) rfl,
  fun X d x0 x1 x2 s0 σ Q => ex_P (i := .istore_n 3) (len := 1) (by decide +kernel) rfl⟩
set_option maxRecDepth 50000 in
theorem gX2_either_8 : (∀ (X : tX) (d : Nat) (x0 : Nat) (x1 : Int32) (x2 : Int32) (x3 : Int32) (σ : rS) (Q : tQ), Ex X d mX2_either 8 [.ref x0, .int x1, .int x2, .int x3] [] σ Q = Ex X d mX2_either 9 [.ref x0, .int x1, .int x2, .int x3] [.int x2] σ Q) ∧
  (∀ (X : tX) (d : Nat) (x0 : Nat) (x1 : Int32) (x2 : Int32) (x3 : Int32) (s0 : Int32) (σ : rS) (Q : tQ), Ex X d mX2_either 9 [.ref x0, .int x1, .int x2, .int x3] [.int s0] σ Q = (if s0 = 0 then Ex X d mX2_either 48 [.ref x0, .int x1, .int x2, .int x3] [] σ Q else Ex X d mX2_either 12 [.ref x0, .int x1, .int x2, .int x3] [] σ Q)) := ⟨fun X d x0 x1 x2 x3 σ Q => ex_P (i := .iload_n 2) (len := 1) (by decide +kernel) rfl,
  fun X d x0 x1 x2 x3 s0 σ Q => q_if_eq (o := 39) (by decide +kernel) rfl⟩
set_option maxRecDepth 50000 in
theorem gX2_either_12 : (∀ (X : tX) (d : Nat) (x0 : Nat) (x1 : Int32) (x2 : Int32) (x3 : Int32) (σ : rS) (Q : tQ), Ex X d mX2_either 12 [.ref x0, .int x1, .int x2, .int x3] [] σ Q = Ex X d mX2_either 13 [.ref x0, .int x1, .int x2, .int x3] [.int x3] σ Q) ∧
  (∀ (X : tX) (d : Nat) (x0 : Nat) (x1 : Int32) (x2 : Int32) (x3 : Int32) (s0 : Int32) (σ : rS) (Q : tQ), Ex X d mX2_either 13 [.ref x0, .int x1, .int x2, .int x3] [.int s0] σ Q = Ex X d mX2_either 15 [.ref x0, .int x1, .int x2, .int x3] [.int 120, .int s0] σ Q) ∧
  (∀ (X : tX) (d : Nat) (x0 : Nat) (x1 : Int32) (x2 : Int32) (x3 : Int32) (s0 : Int32) (s1 : Int32) (σ : rS) (Q : tQ), Ex X d mX2_either 15 [.ref x0, .int x1, .int x2, .int x3] [.int s0, .int s1] σ Q = (if s0 ≤ s1 then Ex X d mX2_either 48 [.ref x0, .int x1, .int x2, .int x3] [] σ Q else Ex X d mX2_either 18 [.ref x0, .int x1, .int x2, .int x3] [] σ Q)) := ⟨fun X d x0 x1 x2 x3 σ Q => ex_P (i := .iload_n 3) (len := 1) (by decide +kernel) rfl,
  fun X d x0 x1 x2 x3 s0 σ Q => ex_P (i := .bipush 120) (len := 2) (by decide +kernel) rfl,
  fun X d x0 x1 x2 x3 s0 s1 σ Q => q_icmp_ge (o := 33) (by decide +kernel) rfl⟩
set_option maxRecDepth 50000 in
theorem gX2_either_18 : (∀ (X : tX) (d : Nat) (x0 : Nat) (x1 : Int32) (x2 : Int32) (x3 : Int32) (σ : rS) (Q : tQ), Ex X d mX2_either 18 [.ref x0, .int x1, .int x2, .int x3] [] σ Q = Ex X d mX2_either 19 [.ref x0, .int x1, .int x2, .int x3] [.ref x0] σ Q) ∧
  (∀ (X : tX) (d : Nat) (x0 : Nat) (x1 : Int32) (x2 : Int32) (x3 : Int32) (s0 : Nat) (σ : rS) (Q : tQ), Ex X d mX2_either 19 [.ref x0, .int x1, .int x2, .int x3] [.ref s0] σ Q = Ex X d mX2_either 21 [.ref x0, .int x1, .int x2, .int x3] [.int 124, .ref s0] σ Q) ∧
  (∀ (X : tX) (d : Nat) (x0 : Nat) (x1 : Int32) (x2 : Int32) (x3 : Int32) (s0 : Int32) (s1 : Nat) (T : tT) (I : tI) (J : tJ) (R : tR) (Q : tQ), Ex X (d + 1) mX2_either 21 [.ref x0, .int x1, .int x2, .int x3] [.int s0, .ref s1] (T, I, J, R) Q = (T[s1]? = some (3, 2) ∧ Ex X d mX2_passes 0 [.ref s1, .int s0, rU] [] (T, I, J, R) (fun v σ1 => Ex X (d + 1) mX2_either 24 [.ref x0, .int x1, .int x2, .int x3] (v.toList ++ []) σ1 Q))) := ⟨fun X d x0 x1 x2 x3 σ Q => ex_P (i := .aload_n 0) (len := 1) (by decide +kernel) rfl,
  fun X d x0 x1 x2 x3 s0 σ Q => ex_P (i := .bipush 124) (len := 2) (by decide +kernel) rfl,
  fun X d x0 x1 x2 x3 s0 s1 T I J R Q => q_callV (k := 41) (as := [.int s0]) (st := []) (show rlk mX2_either.2.2.2.2.2.2 21 = some (.invokevirtual 41, 3) from by decide +kernel) rfl rfl rfl (Nat.le_of_ble_eq_true rfl) (Nat.le_of_ble_eq_true rfl) rfl⟩
set_option maxRecDepth 50000 in
theorem gX2_either_24 : (∀ (X : tX) (d : Nat) (x0 : Nat) (x1 : Int32) (x2 : Int32) (x3 : Int32) (s0 : Int32) (σ : rS) (Q : tQ), Ex X d mX2_either 24 [.ref x0, .int x1, .int x2, .int x3] [.int s0] σ Q = (if s0 = 0 then Ex X d mX2_either 48 [.ref x0, .int x1, .int x2, .int x3] [] σ Q else Ex X d mX2_either 27 [.ref x0, .int x1, .int x2, .int x3] [] σ Q)) := fun X d x0 x1 x2 x3 s0 σ Q => q_if_eq (o := 24) (by decide +kernel) rfl
set_option maxRecDepth 50000 in
theorem gX2_either_27 : (∀ (X : tX) (d : Nat) (x0 : Nat) (x1 : Int32) (x2 : Int32) (x3 : Int32) (σ : rS) (Q : tQ), Ex X d mX2_either 27 [.ref x0, .int x1, .int x2, .int x3] [] σ Q = Ex X d mX2_either 28 [.ref x0, .int x1, .int x2, .int x3] [.ref x0] σ Q) ∧
  (∀ (X : tX) (d : Nat) (x0 : Nat) (x1 : Int32) (x2 : Int32) (x3 : Int32) (s0 : Nat) (σ : rS) (Q : tQ), Ex X d mX2_either 28 [.ref x0, .int x1, .int x2, .int x3] [.ref s0] σ Q = Ex X d mX2_either 29 [.ref x0, .int x1, .int x2, .int x3] [.int x1, .ref s0] σ Q) ∧
  (∀ (X : tX) (d : Nat) (x0 : Nat) (x1 : Int32) (x2 : Int32) (x3 : Int32) (s0 : Int32) (s1 : Nat) (T : tT) (I : tI) (J : tJ) (R : tR) (Q : tQ), Ex X (d + 1) mX2_either 29 [.ref x0, .int x1, .int x2, .int x3] [.int s0, .ref s1] (T, I, J, R) Q = (T[s1]? = some (3, 2) ∧ Ex X d mX2_both 0 [.ref s1, .int s0, rU, rU] [] (T, I, J, R) (fun v σ1 => Ex X (d + 1) mX2_either 32 [.ref x0, .int x1, .int x2, .int x3] (v.toList ++ []) σ1 Q))) := ⟨fun X d x0 x1 x2 x3 σ Q => ex_P (i := .aload_n 0) (len := 1) (by decide +kernel) rfl,
  fun X d x0 x1 x2 x3 s0 σ Q => ex_P (i := .iload_n 1) (len := 1) (by decide +kernel) rfl,
  fun X d x0 x1 x2 x3 s0 s1 T I J R Q => q_callV (k := 52) (as := [.int s0]) (st := []) (show rlk mX2_either.2.2.2.2.2.2 29 = some (.invokevirtual 52, 3) from by decide +kernel) rfl rfl rfl (Nat.le_of_ble_eq_true rfl) (Nat.le_of_ble_eq_true rfl) rfl⟩
set_option maxRecDepth 50000 in
theorem gX2_either_32 : (∀ (X : tX) (d : Nat) (x0 : Nat) (x1 : Int32) (x2 : Int32) (x3 : Int32) (s0 : Int32) (σ : rS) (Q : tQ), Ex X d mX2_either 32 [.ref x0, .int x1, .int x2, .int x3] [.int s0] σ Q = Ex X d mX2_either 33 [.ref x0, .int x1, .int s0, .int x3] [] σ Q) ∧
  (∀ (X : tX) (d : Nat) (x0 : Nat) (x1 : Int32) (x2 : Int32) (x3 : Int32) (σ : rS) (Q : tQ), Ex X d mX2_either 33 [.ref x0, .int x1, .int x2, .int x3] [] σ Q = Ex X d mX2_either 34 [.ref x0, .int x1, .int x2, .int x3] [.ref x0] σ Q) ∧
  (∀ (X : tX) (d : Nat) (x0 : Nat) (x1 : Int32) (x2 : Int32) (x3 : Int32) (s0 : Nat) (T : tT) (I : tI) (J : tJ) (R : tR) (Q : tQ), Ex X d mX2_either 34 [.ref x0, .int x1, .int x2, .int x3] [.ref s0] (T, I, J, R) Q = (T[s0]? = some (3, 2) ∧ Ex X d mX2_either 37 [.ref x0, .int x1, .int x2, .int x3] [va_rf (R s0 3)] (T, I, J, R) Q)) ∧
  (∀ (X : tX) (d : Nat) (x0 : Nat) (x1 : Int32) (x2 : Int32) (x3 : Int32) (s0 : Nat) (σ : rS) (Q : tQ), Ex X d mX2_either 37 [.ref x0, .int x1, .int x2, .int x3] [.ref s0] σ Q = Ex X d mX2_either 39 [.ref x0, .int x1, .int x2, .int x3] [.int (-124), .ref s0] σ Q) ∧
  (∀ (X : tX) (d : Nat) (x0 : Nat) (x1 : Int32) (x2 : Int32) (x3 : Int32) (s0 : Int32) (s1 : Nat) (T : tT) (I : tI) (J : tJ) (R : tR) (Q : tQ), Ex X (d + 1) mX2_either 39 [.ref x0, .int x1, .int x2, .int x3] [.int s0, .ref s1] (T, I, J, R) Q = (T[s1]? = some (3, 1) ∧ Ex X d mX1_add 0 [.ref s1, .int s0] [] (T, I, J, R) (fun v σ1 => Ex X (d + 1) mX2_either 42 [.ref x0, .int x1, .int x2, .int x3] (v.toList ++ []) σ1 Q))) := ⟨fun X d x0 x1 x2 x3 s0 σ Q => ex_P (i := .istore_n 2) (len := 1) (by decide +kernel) rfl,
  fun X d x0 x1 x2 x3 σ Q => ex_P (i := .aload_n 0) (len := 1) (by decide +kernel) rfl,
  fun X d x0 x1 x2 x3 s0 T I J R Q => q_getR (k := 16) (by decide +kernel) rfl rfl,
  fun X d x0 x1 x2 x3 s0 σ Q => ex_P (i := .bipush (-124)) (len := 2) (by decide +kernel) rfl,
  fun X d x0 x1 x2 x3 s0 s1 T I J R Q => q_callV (k := 48) (as := [.int s0]) (st := []) (show rlk mX2_either.2.2.2.2.2.2 39 = some (.invokevirtual 48, 3) from by decide +kernel) rfl rfl rfl (Nat.le_of_ble_eq_true rfl) (Nat.le_of_ble_eq_true rfl) rfl⟩
set_option maxRecDepth 50000 in
theorem gX2_either_42 : (∀ (X : tX) (d : Nat) (x0 : Nat) (x1 : Int32) (x2 : Int32) (x3 : Int32) (σ : rS) (Q : tQ), Ex X d mX2_either 42 [.ref x0, .int x1, .int x2, .int x3] [] σ Q = Ex X d mX2_either 45 [.ref x0, .int x1, .int x2, .int (x3 + 1)] [] σ Q) ∧
  (∀ (X : tX) (d : Nat) (x0 : Nat) (x1 : Int32) (x2 : Int32) (x3 : Int32) (σ : rS) (Q : tQ), Ex X d mX2_either 45 [.ref x0, .int x1, .int x2, .int x3] [] σ Q = Ex X d mX2_either 8 [.ref x0, .int x1, .int x2, .int x3] [] σ Q) := ⟨fun X d x0 x1 x2 x3 σ Q => ex_P (i := .iinc 3 1) (len := 3) (by decide +kernel) rfl,
  fun X d x0 x1 x2 x3 σ Q => q_goto (o := (-37)) (by decide +kernel) rfl⟩
set_option maxRecDepth 50000 in
theorem gX2_either_48 : (∀ (X : tX) (d : Nat) (x0 : Nat) (x1 : Int32) (x2 : Int32) (x3 : Int32) (σ : rS) (Q : tQ), Ex X d mX2_either 48 [.ref x0, .int x1, .int x2, .int x3] [] σ Q = Ex X d mX2_either 49 [.ref x0, .int x1, .int x2, .int x3] [.int x2] σ Q) ∧
  (∀ (X : tX) (d : Nat) (x0 : Nat) (x1 : Int32) (x2 : Int32) (x3 : Int32) (s0 : Int32) (σ : rS) (Q : tQ), Ex X d mX2_either 49 [.ref x0, .int x1, .int x2, .int x3] [.int s0] σ Q = ((s0 = 0 ∨ s0 = 1) ∧ Q (some (.int s0)) σ)) := ⟨fun X d x0 x1 x2 x3 σ Q => ex_P (i := .iload_n 2) (len := 1) (by decide +kernel) rfl,
  fun X d x0 x1 x2 x3 s0 σ Q => q_retZ (by decide +kernel) rfl⟩
set_option maxRecDepth 50000 in
theorem gX2_both_0 : (∀ (X : tX) (d : Nat) (x0 : Nat) (x1 : Int32) (σ : rS) (Q : tQ), Ex X d mX2_both 0 [.ref x0, .int x1, rU, rU] [] σ Q = Ex X d mX2_both 1 [.ref x0, .int x1, rU, rU] [.ref x0] σ Q) ∧
  (∀ (X : tX) (d : Nat) (x0 : Nat) (x1 : Int32) (s0 : Nat) (σ : rS) (Q : tQ), Ex X d mX2_both 1 [.ref x0, .int x1, rU, rU] [.ref s0] σ Q = Ex X d mX2_both 2 [.ref x0, .int x1, rU, rU] [.int x1, .ref s0] σ Q) ∧
  (∀ (X : tX) (d : Nat) (x0 : Nat) (x1 : Int32) (s0 : Int32) (s1 : Nat) (T : tT) (I : tI) (J : tJ) (R : tR) (Q : tQ), Ex X (d + 1) mX2_both 2 [.ref x0, .int x1, rU, rU] [.int s0, .ref s1] (T, I, J, R) Q = (T[s1]? = some (3, 2) ∧ Ex X d mX2_compared 0 [.ref s1, .int s0, rU, rU] [] (T, I, J, R) (fun v σ1 => Ex X (d + 1) mX2_both 5 [.ref x0, .int x1, rU, rU] (v.toList ++ []) σ1 Q))) := ⟨fun X d x0 x1 σ Q => ex_P (i := .aload_n 0) (len := 1) (by decide +kernel) rfl,
  fun X d x0 x1 s0 σ Q => ex_P (i := .iload_n 1) (len := 1) (by decide +kernel) rfl,
  fun X d x0 x1 s0 s1 T I J R Q => q_callV (k := 55) (as := [.int s0]) (st := []) (show rlk mX2_both.2.2.2.2.2.2 2 = some (.invokevirtual 55, 3) from by decide +kernel) rfl rfl rfl (Nat.le_of_ble_eq_true rfl) (Nat.le_of_ble_eq_true rfl) rfl⟩
set_option maxRecDepth 50000 in
theorem gX2_both_5 : (∀ (X : tX) (d : Nat) (x0 : Nat) (x1 : Int32) (s0 : Int32) (σ : rS) (Q : tQ), Ex X d mX2_both 5 [.ref x0, .int x1, rU, rU] [.int s0] σ Q = Ex X d mX2_both 6 [.ref x0, .int x1, .int s0, rU] [] σ Q) ∧
  (∀ (X : tX) (d : Nat) (x0 : Nat) (x1 : Int32) (x2 : Int32) (σ : rS) (Q : tQ), Ex X d mX2_both 6 [.ref x0, .int x1, .int x2, rU] [] σ Q = Ex X d mX2_both 7 [.ref x0, .int x1, .int x2, rU] [.int 0] σ Q) ∧
  (∀ (X : tX) (d : Nat) (x0 : Nat) (x1 : Int32) (x2 : Int32) (s0 : Int32) (σ : rS) (Q : tQ), Ex X d mX2_both 7 [.ref x0, .int x1, .int x2, rU] [.int s0] σ Q = Ex X d mX2_both 8 [.ref x0, .int x1, .int x2, .int s0] [] σ Q) := ⟨fun X d x0 x1 s0 σ Q => ex_P (i := .istore_n 2) (len := 1) (by decide +kernel) rfl,
  fun X d x0 x1 x2 σ Q => ex_P (i := .iconst 0) (len := 1) (by decide +kernel) rfl,
  fun X d x0 x1 x2 s0 σ Q => ex_P (i := .istore_n 3) (len := 1) (by decide +kernel) rfl⟩
set_option maxRecDepth 50000 in
theorem gX2_both_8 : (∀ (X : tX) (d : Nat) (x0 : Nat) (x1 : Int32) (x2 : Int32) (x3 : Int32) (σ : rS) (Q : tQ), Ex X d mX2_both 8 [.ref x0, .int x1, .int x2, .int x3] [] σ Q = Ex X d mX2_both 9 [.ref x0, .int x1, .int x2, .int x3] [.int x2] σ Q) ∧
  (∀ (X : tX) (d : Nat) (x0 : Nat) (x1 : Int32) (x2 : Int32) (x3 : Int32) (s0 : Int32) (σ : rS) (Q : tQ), Ex X d mX2_both 9 [.ref x0, .int x1, .int x2, .int x3] [.int s0] σ Q = (if s0 = 0 then Ex X d mX2_both 48 [.ref x0, .int x1, .int x2, .int x3] [] σ Q else Ex X d mX2_both 12 [.ref x0, .int x1, .int x2, .int x3] [] σ Q)) := ⟨fun X d x0 x1 x2 x3 σ Q => ex_P (i := .iload_n 2) (len := 1) (by decide +kernel) rfl,
  fun X d x0 x1 x2 x3 s0 σ Q => q_if_eq (o := 39) (by decide +kernel) rfl⟩
set_option maxRecDepth 50000 in
theorem gX2_both_12 : (∀ (X : tX) (d : Nat) (x0 : Nat) (x1 : Int32) (x2 : Int32) (x3 : Int32) (σ : rS) (Q : tQ), Ex X d mX2_both 12 [.ref x0, .int x1, .int x2, .int x3] [] σ Q = Ex X d mX2_both 13 [.ref x0, .int x1, .int x2, .int x3] [.int x3] σ Q) ∧
  (∀ (X : tX) (d : Nat) (x0 : Nat) (x1 : Int32) (x2 : Int32) (x3 : Int32) (s0 : Int32) (σ : rS) (Q : tQ), Ex X d mX2_both 13 [.ref x0, .int x1, .int x2, .int x3] [.int s0] σ Q = Ex X d mX2_both 15 [.ref x0, .int x1, .int x2, .int x3] [.int 120, .int s0] σ Q) ∧
  (∀ (X : tX) (d : Nat) (x0 : Nat) (x1 : Int32) (x2 : Int32) (x3 : Int32) (s0 : Int32) (s1 : Int32) (σ : rS) (Q : tQ), Ex X d mX2_both 15 [.ref x0, .int x1, .int x2, .int x3] [.int s0, .int s1] σ Q = (if s0 ≤ s1 then Ex X d mX2_both 48 [.ref x0, .int x1, .int x2, .int x3] [] σ Q else Ex X d mX2_both 18 [.ref x0, .int x1, .int x2, .int x3] [] σ Q)) := ⟨fun X d x0 x1 x2 x3 σ Q => ex_P (i := .iload_n 3) (len := 1) (by decide +kernel) rfl,
  fun X d x0 x1 x2 x3 s0 σ Q => ex_P (i := .bipush 120) (len := 2) (by decide +kernel) rfl,
  fun X d x0 x1 x2 x3 s0 s1 σ Q => q_icmp_ge (o := 33) (by decide +kernel) rfl⟩
set_option maxRecDepth 50000 in
theorem gX2_both_18 : (∀ (X : tX) (d : Nat) (x0 : Nat) (x1 : Int32) (x2 : Int32) (x3 : Int32) (σ : rS) (Q : tQ), Ex X d mX2_both 18 [.ref x0, .int x1, .int x2, .int x3] [] σ Q = Ex X d mX2_both 19 [.ref x0, .int x1, .int x2, .int x3] [.ref x0] σ Q) ∧
  (∀ (X : tX) (d : Nat) (x0 : Nat) (x1 : Int32) (x2 : Int32) (x3 : Int32) (s0 : Nat) (σ : rS) (Q : tQ), Ex X d mX2_both 19 [.ref x0, .int x1, .int x2, .int x3] [.ref s0] σ Q = Ex X d mX2_both 21 [.ref x0, .int x1, .int x2, .int x3] [.int 38, .ref s0] σ Q) ∧
  (∀ (X : tX) (d : Nat) (x0 : Nat) (x1 : Int32) (x2 : Int32) (x3 : Int32) (s0 : Int32) (s1 : Nat) (T : tT) (I : tI) (J : tJ) (R : tR) (Q : tQ), Ex X (d + 1) mX2_both 21 [.ref x0, .int x1, .int x2, .int x3] [.int s0, .ref s1] (T, I, J, R) Q = (T[s1]? = some (3, 2) ∧ Ex X d mX2_passes 0 [.ref s1, .int s0, rU] [] (T, I, J, R) (fun v σ1 => Ex X (d + 1) mX2_both 24 [.ref x0, .int x1, .int x2, .int x3] (v.toList ++ []) σ1 Q))) := ⟨fun X d x0 x1 x2 x3 σ Q => ex_P (i := .aload_n 0) (len := 1) (by decide +kernel) rfl,
  fun X d x0 x1 x2 x3 s0 σ Q => ex_P (i := .bipush 38) (len := 2) (by decide +kernel) rfl,
  fun X d x0 x1 x2 x3 s0 s1 T I J R Q => q_callV (k := 41) (as := [.int s0]) (st := []) (show rlk mX2_both.2.2.2.2.2.2 21 = some (.invokevirtual 41, 3) from by decide +kernel) rfl rfl rfl (Nat.le_of_ble_eq_true rfl) (Nat.le_of_ble_eq_true rfl) rfl⟩
set_option maxRecDepth 50000 in
theorem gX2_both_24 : (∀ (X : tX) (d : Nat) (x0 : Nat) (x1 : Int32) (x2 : Int32) (x3 : Int32) (s0 : Int32) (σ : rS) (Q : tQ), Ex X d mX2_both 24 [.ref x0, .int x1, .int x2, .int x3] [.int s0] σ Q = (if s0 = 0 then Ex X d mX2_both 48 [.ref x0, .int x1, .int x2, .int x3] [] σ Q else Ex X d mX2_both 27 [.ref x0, .int x1, .int x2, .int x3] [] σ Q)) := fun X d x0 x1 x2 x3 s0 σ Q => q_if_eq (o := 24) (by decide +kernel) rfl
set_option maxRecDepth 50000 in
theorem gX2_both_27 : (∀ (X : tX) (d : Nat) (x0 : Nat) (x1 : Int32) (x2 : Int32) (x3 : Int32) (σ : rS) (Q : tQ), Ex X d mX2_both 27 [.ref x0, .int x1, .int x2, .int x3] [] σ Q = Ex X d mX2_both 28 [.ref x0, .int x1, .int x2, .int x3] [.ref x0] σ Q) ∧
  (∀ (X : tX) (d : Nat) (x0 : Nat) (x1 : Int32) (x2 : Int32) (x3 : Int32) (s0 : Nat) (σ : rS) (Q : tQ), Ex X d mX2_both 28 [.ref x0, .int x1, .int x2, .int x3] [.ref s0] σ Q = Ex X d mX2_both 29 [.ref x0, .int x1, .int x2, .int x3] [.int x1, .ref s0] σ Q) ∧
  (∀ (X : tX) (d : Nat) (x0 : Nat) (x1 : Int32) (x2 : Int32) (x3 : Int32) (s0 : Int32) (s1 : Nat) (T : tT) (I : tI) (J : tJ) (R : tR) (Q : tQ), Ex X (d + 1) mX2_both 29 [.ref x0, .int x1, .int x2, .int x3] [.int s0, .ref s1] (T, I, J, R) Q = (T[s1]? = some (3, 2) ∧ Ex X d mX2_compared 0 [.ref s1, .int s0, rU, rU] [] (T, I, J, R) (fun v σ1 => Ex X (d + 1) mX2_both 32 [.ref x0, .int x1, .int x2, .int x3] (v.toList ++ []) σ1 Q))) := ⟨fun X d x0 x1 x2 x3 σ Q => ex_P (i := .aload_n 0) (len := 1) (by decide +kernel) rfl,
  fun X d x0 x1 x2 x3 s0 σ Q => ex_P (i := .iload_n 1) (len := 1) (by decide +kernel) rfl,
  fun X d x0 x1 x2 x3 s0 s1 T I J R Q => q_callV (k := 55) (as := [.int s0]) (st := []) (show rlk mX2_both.2.2.2.2.2.2 29 = some (.invokevirtual 55, 3) from by decide +kernel) rfl rfl rfl (Nat.le_of_ble_eq_true rfl) (Nat.le_of_ble_eq_true rfl) rfl⟩
set_option maxRecDepth 50000 in
theorem gX2_both_32 : (∀ (X : tX) (d : Nat) (x0 : Nat) (x1 : Int32) (x2 : Int32) (x3 : Int32) (s0 : Int32) (σ : rS) (Q : tQ), Ex X d mX2_both 32 [.ref x0, .int x1, .int x2, .int x3] [.int s0] σ Q = Ex X d mX2_both 33 [.ref x0, .int x1, .int s0, .int x3] [] σ Q) ∧
  (∀ (X : tX) (d : Nat) (x0 : Nat) (x1 : Int32) (x2 : Int32) (x3 : Int32) (σ : rS) (Q : tQ), Ex X d mX2_both 33 [.ref x0, .int x1, .int x2, .int x3] [] σ Q = Ex X d mX2_both 34 [.ref x0, .int x1, .int x2, .int x3] [.ref x0] σ Q) ∧
  (∀ (X : tX) (d : Nat) (x0 : Nat) (x1 : Int32) (x2 : Int32) (x3 : Int32) (s0 : Nat) (T : tT) (I : tI) (J : tJ) (R : tR) (Q : tQ), Ex X d mX2_both 34 [.ref x0, .int x1, .int x2, .int x3] [.ref s0] (T, I, J, R) Q = (T[s0]? = some (3, 2) ∧ Ex X d mX2_both 37 [.ref x0, .int x1, .int x2, .int x3] [va_rf (R s0 3)] (T, I, J, R) Q)) ∧
  (∀ (X : tX) (d : Nat) (x0 : Nat) (x1 : Int32) (x2 : Int32) (x3 : Int32) (s0 : Nat) (σ : rS) (Q : tQ), Ex X d mX2_both 37 [.ref x0, .int x1, .int x2, .int x3] [.ref s0] σ Q = Ex X d mX2_both 39 [.ref x0, .int x1, .int x2, .int x3] [.int (-38), .ref s0] σ Q) ∧
  (∀ (X : tX) (d : Nat) (x0 : Nat) (x1 : Int32) (x2 : Int32) (x3 : Int32) (s0 : Int32) (s1 : Nat) (T : tT) (I : tI) (J : tJ) (R : tR) (Q : tQ), Ex X (d + 1) mX2_both 39 [.ref x0, .int x1, .int x2, .int x3] [.int s0, .ref s1] (T, I, J, R) Q = (T[s1]? = some (3, 1) ∧ Ex X d mX1_add 0 [.ref s1, .int s0] [] (T, I, J, R) (fun v σ1 => Ex X (d + 1) mX2_both 42 [.ref x0, .int x1, .int x2, .int x3] (v.toList ++ []) σ1 Q))) := ⟨fun X d x0 x1 x2 x3 s0 σ Q => ex_P (i := .istore_n 2) (len := 1) (by decide +kernel) rfl,
  fun X d x0 x1 x2 x3 σ Q => ex_P (i := .aload_n 0) (len := 1) (by decide +kernel) rfl,
  fun X d x0 x1 x2 x3 s0 T I J R Q => q_getR (k := 16) (by decide +kernel) rfl rfl,
  fun X d x0 x1 x2 x3 s0 σ Q => ex_P (i := .bipush (-38)) (len := 2) (by decide +kernel) rfl,
  fun X d x0 x1 x2 x3 s0 s1 T I J R Q => q_callV (k := 48) (as := [.int s0]) (st := []) (show rlk mX2_both.2.2.2.2.2.2 39 = some (.invokevirtual 48, 3) from by decide +kernel) rfl rfl rfl (Nat.le_of_ble_eq_true rfl) (Nat.le_of_ble_eq_true rfl) rfl⟩
set_option maxRecDepth 50000 in
theorem gX2_both_42 : (∀ (X : tX) (d : Nat) (x0 : Nat) (x1 : Int32) (x2 : Int32) (x3 : Int32) (σ : rS) (Q : tQ), Ex X d mX2_both 42 [.ref x0, .int x1, .int x2, .int x3] [] σ Q = Ex X d mX2_both 45 [.ref x0, .int x1, .int x2, .int (x3 + 1)] [] σ Q) ∧
  (∀ (X : tX) (d : Nat) (x0 : Nat) (x1 : Int32) (x2 : Int32) (x3 : Int32) (σ : rS) (Q : tQ), Ex X d mX2_both 45 [.ref x0, .int x1, .int x2, .int x3] [] σ Q = Ex X d mX2_both 8 [.ref x0, .int x1, .int x2, .int x3] [] σ Q) := ⟨fun X d x0 x1 x2 x3 σ Q => ex_P (i := .iinc 3 1) (len := 3) (by decide +kernel) rfl,
  fun X d x0 x1 x2 x3 σ Q => q_goto (o := (-37)) (by decide +kernel) rfl⟩
set_option maxRecDepth 50000 in
theorem gX2_both_48 : (∀ (X : tX) (d : Nat) (x0 : Nat) (x1 : Int32) (x2 : Int32) (x3 : Int32) (σ : rS) (Q : tQ), Ex X d mX2_both 48 [.ref x0, .int x1, .int x2, .int x3] [] σ Q = Ex X d mX2_both 49 [.ref x0, .int x1, .int x2, .int x3] [.int x2] σ Q) ∧
  (∀ (X : tX) (d : Nat) (x0 : Nat) (x1 : Int32) (x2 : Int32) (x3 : Int32) (s0 : Int32) (σ : rS) (Q : tQ), Ex X d mX2_both 49 [.ref x0, .int x1, .int x2, .int x3] [.int s0] σ Q = ((s0 = 0 ∨ s0 = 1) ∧ Q (some (.int s0)) σ)) := ⟨fun X d x0 x1 x2 x3 σ Q => ex_P (i := .iload_n 2) (len := 1) (by decide +kernel) rfl,
  fun X d x0 x1 x2 x3 s0 σ Q => q_retZ (by decide +kernel) rfl⟩
set_option maxRecDepth 50000 in
theorem gX2_compared_0 : (∀ (X : tX) (d : Nat) (x0 : Nat) (x1 : Int32) (σ : rS) (Q : tQ), Ex X d mX2_compared 0 [.ref x0, .int x1, rU, rU] [] σ Q = Ex X d mX2_compared 1 [.ref x0, .int x1, rU, rU] [.ref x0] σ Q) ∧
  (∀ (X : tX) (d : Nat) (x0 : Nat) (x1 : Int32) (s0 : Nat) (σ : rS) (Q : tQ), Ex X d mX2_compared 1 [.ref x0, .int x1, rU, rU] [.ref s0] σ Q = Ex X d mX2_compared 2 [.ref x0, .int x1, rU, rU] [.int x1, .ref s0] σ Q) ∧
  (∀ (X : tX) (d : Nat) (x0 : Nat) (x1 : Int32) (s0 : Int32) (s1 : Nat) (T : tT) (I : tI) (J : tJ) (R : tR) (Q : tQ), Ex X (d + 1) mX2_compared 2 [.ref x0, .int x1, rU, rU] [.int s0, .ref s1] (T, I, J, R) Q = (T[s1]? = some (3, 2) ∧ Ex X d mX2_sum 0 [.ref s1, .int s0, rU, rU, rU] [] (T, I, J, R) (fun v σ1 => Ex X (d + 1) mX2_compared 5 [.ref x0, .int x1, rU, rU] (v.toList ++ []) σ1 Q))) := ⟨fun X d x0 x1 σ Q => ex_P (i := .aload_n 0) (len := 1) (by decide +kernel) rfl,
  fun X d x0 x1 s0 σ Q => ex_P (i := .iload_n 1) (len := 1) (by decide +kernel) rfl,
  fun X d x0 x1 s0 s1 T I J R Q => q_callV (k := 58) (as := [.int s0]) (st := []) (show rlk mX2_compared.2.2.2.2.2.2 2 = some (.invokevirtual 58, 3) from by decide +kernel) rfl rfl rfl (Nat.le_of_ble_eq_true rfl) (Nat.le_of_ble_eq_true rfl) rfl⟩
set_option maxRecDepth 50000 in
theorem gX2_compared_5 : (∀ (X : tX) (d : Nat) (x0 : Nat) (x1 : Int32) (s0 : Int32) (σ : rS) (Q : tQ), Ex X d mX2_compared 5 [.ref x0, .int x1, rU, rU] [.int s0] σ Q = (if s0 = 0 then Ex X d mX2_compared 8 [.ref x0, .int x1, rU, rU] [] σ Q else Ex X d mX2_compared 10 [.ref x0, .int x1, rU, rU] [] σ Q)) := fun X d x0 x1 s0 σ Q => q_if_ne (o := 5) (by decide +kernel) rfl
set_option maxRecDepth 50000 in
theorem gX2_compared_8 : (∀ (X : tX) (d : Nat) (x0 : Nat) (x1 : Int32) (σ : rS) (Q : tQ), Ex X d mX2_compared 8 [.ref x0, .int x1, rU, rU] [] σ Q = Ex X d mX2_compared 9 [.ref x0, .int x1, rU, rU] [.int 0] σ Q) ∧
  (∀ (X : tX) (d : Nat) (x0 : Nat) (x1 : Int32) (s0 : Int32) (σ : rS) (Q : tQ), Ex X d mX2_compared 9 [.ref x0, .int x1, rU, rU] [.int s0] σ Q = ((s0 = 0 ∨ s0 = 1) ∧ Q (some (.int s0)) σ)) := ⟨fun X d x0 x1 σ Q => ex_P (i := .iconst 0) (len := 1) (by decide +kernel) rfl,
  fun X d x0 x1 s0 σ Q => q_retZ (by decide +kernel) rfl⟩
set_option maxRecDepth 50000 in
theorem gX2_compared_10 : (∀ (X : tX) (d : Nat) (x0 : Nat) (x1 : Int32) (σ : rS) (Q : tQ), Ex X d mX2_compared 10 [.ref x0, .int x1, rU, rU] [] σ Q = Ex X d mX2_compared 11 [.ref x0, .int x1, rU, rU] [.ref x0] σ Q) ∧
  (∀ (X : tX) (d : Nat) (x0 : Nat) (x1 : Int32) (s0 : Nat) (T : tT) (I : tI) (J : tJ) (R : tR) (Q : tQ), Ex X (d + 1) mX2_compared 11 [.ref x0, .int x1, rU, rU] [.ref s0] (T, I, J, R) Q = (T[s0]? = some (3, 2) ∧ Ex X d mX2_next 0 [.ref s0] [] (T, I, J, R) (fun v σ1 => Ex X (d + 1) mX2_compared 14 [.ref x0, .int x1, rU, rU] (v.toList ++ []) σ1 Q))) := ⟨fun X d x0 x1 σ Q => ex_P (i := .aload_n 0) (len := 1) (by decide +kernel) rfl,
  fun X d x0 x1 s0 T I J R Q => q_callV (k := 34) (as := []) (st := []) (show rlk mX2_compared.2.2.2.2.2.2 11 = some (.invokevirtual 34, 3) from by decide +kernel) rfl rfl rfl (Nat.le_of_ble_eq_true rfl) (Nat.le_of_ble_eq_true rfl) rfl⟩
set_option maxRecDepth 50000 in
theorem gX2_compared_14 : (∀ (X : tX) (d : Nat) (x0 : Nat) (x1 : Int32) (s0 : Int32) (σ : rS) (Q : tQ), Ex X d mX2_compared 14 [.ref x0, .int x1, rU, rU] [.int s0] σ Q = Ex X d mX2_compared 15 [.ref x0, .int x1, .int s0, rU] [] σ Q) ∧
  (∀ (X : tX) (d : Nat) (x0 : Nat) (x1 : Int32) (x2 : Int32) (σ : rS) (Q : tQ), Ex X d mX2_compared 15 [.ref x0, .int x1, .int x2, rU] [] σ Q = Ex X d mX2_compared 16 [.ref x0, .int x1, .int x2, rU] [.int x2] σ Q) ∧
  (∀ (X : tX) (d : Nat) (x0 : Nat) (x1 : Int32) (x2 : Int32) (s0 : Int32) (σ : rS) (Q : tQ), Ex X d mX2_compared 16 [.ref x0, .int x1, .int x2, rU] [.int s0] σ Q = Ex X d mX2_compared 18 [.ref x0, .int x1, .int x2, rU] [.int 60, .int s0] σ Q) ∧
  (∀ (X : tX) (d : Nat) (x0 : Nat) (x1 : Int32) (x2 : Int32) (s0 : Int32) (s1 : Int32) (σ : rS) (Q : tQ), Ex X d mX2_compared 18 [.ref x0, .int x1, .int x2, rU] [.int s0, .int s1] σ Q = (if s1 = s0 then Ex X d mX2_compared 35 [.ref x0, .int x1, .int x2, rU] [] σ Q else Ex X d mX2_compared 21 [.ref x0, .int x1, .int x2, rU] [] σ Q)) := ⟨fun X d x0 x1 s0 σ Q => ex_P (i := .istore_n 2) (len := 1) (by decide +kernel) rfl,
  fun X d x0 x1 x2 σ Q => ex_P (i := .iload_n 2) (len := 1) (by decide +kernel) rfl,
  fun X d x0 x1 x2 s0 σ Q => ex_P (i := .bipush 60) (len := 2) (by decide +kernel) rfl,
  fun X d x0 x1 x2 s0 s1 σ Q => q_icmp_eq (o := 17) (by decide +kernel) rfl⟩
set_option maxRecDepth 50000 in
theorem gX2_compared_21 : (∀ (X : tX) (d : Nat) (x0 : Nat) (x1 : Int32) (x2 : Int32) (σ : rS) (Q : tQ), Ex X d mX2_compared 21 [.ref x0, .int x1, .int x2, rU] [] σ Q = Ex X d mX2_compared 22 [.ref x0, .int x1, .int x2, rU] [.int x2] σ Q) ∧
  (∀ (X : tX) (d : Nat) (x0 : Nat) (x1 : Int32) (x2 : Int32) (s0 : Int32) (σ : rS) (Q : tQ), Ex X d mX2_compared 22 [.ref x0, .int x1, .int x2, rU] [.int s0] σ Q = Ex X d mX2_compared 24 [.ref x0, .int x1, .int x2, rU] [.int 61, .int s0] σ Q) ∧
  (∀ (X : tX) (d : Nat) (x0 : Nat) (x1 : Int32) (x2 : Int32) (s0 : Int32) (s1 : Int32) (σ : rS) (Q : tQ), Ex X d mX2_compared 24 [.ref x0, .int x1, .int x2, rU] [.int s0, .int s1] σ Q = (if s1 = s0 then Ex X d mX2_compared 35 [.ref x0, .int x1, .int x2, rU] [] σ Q else Ex X d mX2_compared 27 [.ref x0, .int x1, .int x2, rU] [] σ Q)) := ⟨fun X d x0 x1 x2 σ Q => ex_P (i := .iload_n 2) (len := 1) (by decide +kernel) rfl,
  fun X d x0 x1 x2 s0 σ Q => ex_P (i := .bipush 61) (len := 2) (by decide +kernel) rfl,
  fun X d x0 x1 x2 s0 s1 σ Q => q_icmp_eq (o := 11) (by decide +kernel) rfl⟩
set_option maxRecDepth 50000 in
theorem gX2_compared_27 : (∀ (X : tX) (d : Nat) (x0 : Nat) (x1 : Int32) (x2 : Int32) (σ : rS) (Q : tQ), Ex X d mX2_compared 27 [.ref x0, .int x1, .int x2, rU] [] σ Q = Ex X d mX2_compared 28 [.ref x0, .int x1, .int x2, rU] [.int x2] σ Q) ∧
  (∀ (X : tX) (d : Nat) (x0 : Nat) (x1 : Int32) (x2 : Int32) (s0 : Int32) (σ : rS) (Q : tQ), Ex X d mX2_compared 28 [.ref x0, .int x1, .int x2, rU] [.int s0] σ Q = Ex X d mX2_compared 30 [.ref x0, .int x1, .int x2, rU] [.int 62, .int s0] σ Q) ∧
  (∀ (X : tX) (d : Nat) (x0 : Nat) (x1 : Int32) (x2 : Int32) (s0 : Int32) (s1 : Int32) (σ : rS) (Q : tQ), Ex X d mX2_compared 30 [.ref x0, .int x1, .int x2, rU] [.int s0, .int s1] σ Q = (if s1 = s0 then Ex X d mX2_compared 35 [.ref x0, .int x1, .int x2, rU] [] σ Q else Ex X d mX2_compared 33 [.ref x0, .int x1, .int x2, rU] [] σ Q)) := ⟨fun X d x0 x1 x2 σ Q => ex_P (i := .iload_n 2) (len := 1) (by decide +kernel) rfl,
  fun X d x0 x1 x2 s0 σ Q => ex_P (i := .bipush 62) (len := 2) (by decide +kernel) rfl,
  fun X d x0 x1 x2 s0 s1 σ Q => q_icmp_eq (o := 5) (by decide +kernel) rfl⟩
set_option maxRecDepth 50000 in
theorem gX2_compared_33 : (∀ (X : tX) (d : Nat) (x0 : Nat) (x1 : Int32) (x2 : Int32) (σ : rS) (Q : tQ), Ex X d mX2_compared 33 [.ref x0, .int x1, .int x2, rU] [] σ Q = Ex X d mX2_compared 34 [.ref x0, .int x1, .int x2, rU] [.int 1] σ Q) ∧
  (∀ (X : tX) (d : Nat) (x0 : Nat) (x1 : Int32) (x2 : Int32) (s0 : Int32) (σ : rS) (Q : tQ), Ex X d mX2_compared 34 [.ref x0, .int x1, .int x2, rU] [.int s0] σ Q = ((s0 = 0 ∨ s0 = 1) ∧ Q (some (.int s0)) σ)) := ⟨fun X d x0 x1 x2 σ Q => ex_P (i := .iconst 1) (len := 1) (by decide +kernel) rfl,
  fun X d x0 x1 x2 s0 σ Q => q_retZ (by decide +kernel) rfl⟩
set_option maxRecDepth 50000 in
theorem gX2_compared_35 : (∀ (X : tX) (d : Nat) (x0 : Nat) (x1 : Int32) (x2 : Int32) (σ : rS) (Q : tQ), Ex X d mX2_compared 35 [.ref x0, .int x1, .int x2, rU] [] σ Q = Ex X d mX2_compared 36 [.ref x0, .int x1, .int x2, rU] [.ref x0] σ Q) ∧
  (∀ (X : tX) (d : Nat) (x0 : Nat) (x1 : Int32) (x2 : Int32) (s0 : Nat) (σ : rS) (Q : tQ), Ex X d mX2_compared 36 [.ref x0, .int x1, .int x2, rU] [.ref s0] σ Q = Ex X d mX2_compared 37 [.ref x0, .int x1, .int x2, rU] [.ref s0, .ref s0] σ Q) ∧
  (∀ (X : tX) (d : Nat) (x0 : Nat) (x1 : Int32) (x2 : Int32) (s0 : Nat) (s1 : Nat) (T : tT) (I : tI) (J : tJ) (R : tR) (Q : tQ), Ex X d mX2_compared 37 [.ref x0, .int x1, .int x2, rU] [.ref s0, .ref s1] (T, I, J, R) Q = (T[s0]? = some (3, 2) ∧ Ex X d mX2_compared 40 [.ref x0, .int x1, .int x2, rU] [.int (I s0 2), .ref s1] (T, I, J, R) Q)) ∧
  (∀ (X : tX) (d : Nat) (x0 : Nat) (x1 : Int32) (x2 : Int32) (s0 : Int32) (s1 : Nat) (σ : rS) (Q : tQ), Ex X d mX2_compared 40 [.ref x0, .int x1, .int x2, rU] [.int s0, .ref s1] σ Q = Ex X d mX2_compared 41 [.ref x0, .int x1, .int x2, rU] [.int 1, .int s0, .ref s1] σ Q) ∧
  (∀ (X : tX) (d : Nat) (x0 : Nat) (x1 : Int32) (x2 : Int32) (s0 : Int32) (s1 : Int32) (s2 : Nat) (σ : rS) (Q : tQ), Ex X d mX2_compared 41 [.ref x0, .int x1, .int x2, rU] [.int s0, .int s1, .ref s2] σ Q = Ex X d mX2_compared 42 [.ref x0, .int x1, .int x2, rU] [.int (s1 + s0), .ref s2] σ Q) ∧
  (∀ (X : tX) (d : Nat) (x0 : Nat) (x1 : Int32) (x2 : Int32) (s0 : Int32) (s1 : Nat) (T : tT) (I : tI) (J : tJ) (R : tR) (Q : tQ), Ex X d mX2_compared 42 [.ref x0, .int x1, .int x2, rU] [.int s0, .ref s1] (T, I, J, R) Q = (T[s1]? = some (3, 2) ∧ Ex X d mX2_compared 45 [.ref x0, .int x1, .int x2, rU] [] (T, va_up I s1 (va_up (I s1) 2 s0), J, R) Q)) ∧
  (∀ (X : tX) (d : Nat) (x0 : Nat) (x1 : Int32) (x2 : Int32) (σ : rS) (Q : tQ), Ex X d mX2_compared 45 [.ref x0, .int x1, .int x2, rU] [] σ Q = Ex X d mX2_compared 46 [.ref x0, .int x1, .int x2, rU] [.ref x0] σ Q) ∧
  (∀ (X : tX) (d : Nat) (x0 : Nat) (x1 : Int32) (x2 : Int32) (s0 : Nat) (σ : rS) (Q : tQ), Ex X d mX2_compared 46 [.ref x0, .int x1, .int x2, rU] [.ref s0] σ Q = Ex X d mX2_compared 47 [.ref x0, .int x1, .int x2, rU] [.int x1, .ref s0] σ Q) ∧
  (∀ (X : tX) (d : Nat) (x0 : Nat) (x1 : Int32) (x2 : Int32) (s0 : Int32) (s1 : Nat) (T : tT) (I : tI) (J : tJ) (R : tR) (Q : tQ), Ex X (d + 1) mX2_compared 47 [.ref x0, .int x1, .int x2, rU] [.int s0, .ref s1] (T, I, J, R) Q = (T[s1]? = some (3, 2) ∧ Ex X d mX2_sum 0 [.ref s1, .int s0, rU, rU, rU] [] (T, I, J, R) (fun v σ1 => Ex X (d + 1) mX2_compared 50 [.ref x0, .int x1, .int x2, rU] (v.toList ++ []) σ1 Q))) := ⟨fun X d x0 x1 x2 σ Q => ex_P (i := .aload_n 0) (len := 1) (by decide +kernel) rfl,
  fun X d x0 x1 x2 s0 σ Q => ex_P (i := .dup) (len := 1) (by decide +kernel) rfl,
  fun X d x0 x1 x2 s0 s1 T I J R Q => q_getI (k := 27) (by decide +kernel) rfl rfl (by decide),
  fun X d x0 x1 x2 s0 s1 σ Q => ex_P (i := .iconst 1) (len := 1) (by decide +kernel) rfl,
  fun X d x0 x1 x2 s0 s1 s2 σ Q => ex_P (i := .iadd) (len := 1) (by decide +kernel) rfl,
  fun X d x0 x1 x2 s0 s1 T I J R Q => q_putI (k := 27) (by decide +kernel) rfl rfl (by decide +kernel),
  fun X d x0 x1 x2 σ Q => ex_P (i := .aload_n 0) (len := 1) (by decide +kernel) rfl,
  fun X d x0 x1 x2 s0 σ Q => ex_P (i := .iload_n 1) (len := 1) (by decide +kernel) rfl,
  fun X d x0 x1 x2 s0 s1 T I J R Q => q_callV (k := 58) (as := [.int s0]) (st := []) (show rlk mX2_compared.2.2.2.2.2.2 47 = some (.invokevirtual 58, 3) from by decide +kernel) rfl rfl rfl (Nat.le_of_ble_eq_true rfl) (Nat.le_of_ble_eq_true rfl) rfl⟩
set_option maxRecDepth 50000 in
theorem gX2_compared_50 : (∀ (X : tX) (d : Nat) (x0 : Nat) (x1 : Int32) (x2 : Int32) (s0 : Int32) (σ : rS) (Q : tQ), Ex X d mX2_compared 50 [.ref x0, .int x1, .int x2, rU] [.int s0] σ Q = Ex X d mX2_compared 51 [.ref x0, .int x1, .int x2, .int s0] [] σ Q) ∧
  (∀ (X : tX) (d : Nat) (x0 : Nat) (x1 : Int32) (x2 : Int32) (x3 : Int32) (σ : rS) (Q : tQ), Ex X d mX2_compared 51 [.ref x0, .int x1, .int x2, .int x3] [] σ Q = Ex X d mX2_compared 52 [.ref x0, .int x1, .int x2, .int x3] [.ref x0] σ Q) ∧
  (∀ (X : tX) (d : Nat) (x0 : Nat) (x1 : Int32) (x2 : Int32) (x3 : Int32) (s0 : Nat) (T : tT) (I : tI) (J : tJ) (R : tR) (Q : tQ), Ex X d mX2_compared 52 [.ref x0, .int x1, .int x2, .int x3] [.ref s0] (T, I, J, R) Q = (T[s0]? = some (3, 2) ∧ Ex X d mX2_compared 55 [.ref x0, .int x1, .int x2, .int x3] [va_rf (R s0 3)] (T, I, J, R) Q)) ∧
  (∀ (X : tX) (d : Nat) (x0 : Nat) (x1 : Int32) (x2 : Int32) (x3 : Int32) (s0 : Nat) (σ : rS) (Q : tQ), Ex X d mX2_compared 55 [.ref x0, .int x1, .int x2, .int x3] [.ref s0] σ Q = Ex X d mX2_compared 56 [.ref x0, .int x1, .int x2, .int x3] [.int x2, .ref s0] σ Q) ∧
  (∀ (X : tX) (d : Nat) (x0 : Nat) (x1 : Int32) (x2 : Int32) (x3 : Int32) (s0 : Int32) (s1 : Nat) (σ : rS) (Q : tQ), Ex X d mX2_compared 56 [.ref x0, .int x1, .int x2, .int x3] [.int s0, .ref s1] σ Q = Ex X d mX2_compared 57 [.ref x0, .int x1, .int x2, .int x3] [.int (-s0), .ref s1] σ Q) ∧
  (∀ (X : tX) (d : Nat) (x0 : Nat) (x1 : Int32) (x2 : Int32) (x3 : Int32) (s0 : Int32) (s1 : Nat) (T : tT) (I : tI) (J : tJ) (R : tR) (Q : tQ), Ex X (d + 1) mX2_compared 57 [.ref x0, .int x1, .int x2, .int x3] [.int s0, .ref s1] (T, I, J, R) Q = (T[s1]? = some (3, 1) ∧ Ex X d mX1_add 0 [.ref s1, .int s0] [] (T, I, J, R) (fun v σ1 => Ex X (d + 1) mX2_compared 60 [.ref x0, .int x1, .int x2, .int x3] (v.toList ++ []) σ1 Q))) := ⟨fun X d x0 x1 x2 s0 σ Q => ex_P (i := .istore_n 3) (len := 1) (by decide +kernel) rfl,
  fun X d x0 x1 x2 x3 σ Q => ex_P (i := .aload_n 0) (len := 1) (by decide +kernel) rfl,
  fun X d x0 x1 x2 x3 s0 T I J R Q => q_getR (k := 16) (by decide +kernel) rfl rfl,
  fun X d x0 x1 x2 x3 s0 σ Q => ex_P (i := .iload_n 2) (len := 1) (by decide +kernel) rfl,
  fun X d x0 x1 x2 x3 s0 s1 σ Q => ex_P (i := .ineg) (len := 1) (by decide +kernel) rfl,
  fun X d x0 x1 x2 x3 s0 s1 T I J R Q => q_callV (k := 48) (as := [.int s0]) (st := []) (show rlk mX2_compared.2.2.2.2.2.2 57 = some (.invokevirtual 48, 3) from by decide +kernel) rfl rfl rfl (Nat.le_of_ble_eq_true rfl) (Nat.le_of_ble_eq_true rfl) rfl⟩
set_option maxRecDepth 50000 in
theorem gX2_compared_60 : (∀ (X : tX) (d : Nat) (x0 : Nat) (x1 : Int32) (x2 : Int32) (x3 : Int32) (σ : rS) (Q : tQ), Ex X d mX2_compared 60 [.ref x0, .int x1, .int x2, .int x3] [] σ Q = Ex X d mX2_compared 61 [.ref x0, .int x1, .int x2, .int x3] [.int x3] σ Q) ∧
  (∀ (X : tX) (d : Nat) (x0 : Nat) (x1 : Int32) (x2 : Int32) (x3 : Int32) (s0 : Int32) (σ : rS) (Q : tQ), Ex X d mX2_compared 61 [.ref x0, .int x1, .int x2, .int x3] [.int s0] σ Q = ((s0 = 0 ∨ s0 = 1) ∧ Q (some (.int s0)) σ)) := ⟨fun X d x0 x1 x2 x3 σ Q => ex_P (i := .iload_n 3) (len := 1) (by decide +kernel) rfl,
  fun X d x0 x1 x2 x3 s0 σ Q => q_retZ (by decide +kernel) rfl⟩
set_option maxRecDepth 50000 in
theorem gX2_sum_0 : (∀ (X : tX) (d : Nat) (x0 : Nat) (x1 : Int32) (σ : rS) (Q : tQ), Ex X d mX2_sum 0 [.ref x0, .int x1, rU, rU, rU] [] σ Q = Ex X d mX2_sum 1 [.ref x0, .int x1, rU, rU, rU] [.ref x0] σ Q) ∧
  (∀ (X : tX) (d : Nat) (x0 : Nat) (x1 : Int32) (s0 : Nat) (σ : rS) (Q : tQ), Ex X d mX2_sum 1 [.ref x0, .int x1, rU, rU, rU] [.ref s0] σ Q = Ex X d mX2_sum 2 [.ref x0, .int x1, rU, rU, rU] [.int x1, .ref s0] σ Q) ∧
  (∀ (X : tX) (d : Nat) (x0 : Nat) (x1 : Int32) (s0 : Int32) (s1 : Nat) (T : tT) (I : tI) (J : tJ) (R : tR) (Q : tQ), Ex X (d + 1) mX2_sum 2 [.ref x0, .int x1, rU, rU, rU] [.int s0, .ref s1] (T, I, J, R) Q = (T[s1]? = some (3, 2) ∧ Ex X d mX2_product 0 [.ref s1, .int s0, rU, rU, rU] [] (T, I, J, R) (fun v σ1 => Ex X (d + 1) mX2_sum 5 [.ref x0, .int x1, rU, rU, rU] (v.toList ++ []) σ1 Q))) := ⟨fun X d x0 x1 σ Q => ex_P (i := .aload_n 0) (len := 1) (by decide +kernel) rfl,
  fun X d x0 x1 s0 σ Q => ex_P (i := .iload_n 1) (len := 1) (by decide +kernel) rfl,
  fun X d x0 x1 s0 s1 T I J R Q => q_callV (k := 61) (as := [.int s0]) (st := []) (show rlk mX2_sum.2.2.2.2.2.2 2 = some (.invokevirtual 61, 3) from by decide +kernel) rfl rfl rfl (Nat.le_of_ble_eq_true rfl) (Nat.le_of_ble_eq_true rfl) rfl⟩
set_option maxRecDepth 50000 in
theorem gX2_sum_5 : (∀ (X : tX) (d : Nat) (x0 : Nat) (x1 : Int32) (s0 : Int32) (σ : rS) (Q : tQ), Ex X d mX2_sum 5 [.ref x0, .int x1, rU, rU, rU] [.int s0] σ Q = Ex X d mX2_sum 6 [.ref x0, .int x1, .int s0, rU, rU] [] σ Q) ∧
  (∀ (X : tX) (d : Nat) (x0 : Nat) (x1 : Int32) (x2 : Int32) (σ : rS) (Q : tQ), Ex X d mX2_sum 6 [.ref x0, .int x1, .int x2, rU, rU] [] σ Q = Ex X d mX2_sum 7 [.ref x0, .int x1, .int x2, rU, rU] [.ref x0] σ Q) ∧
  (∀ (X : tX) (d : Nat) (x0 : Nat) (x1 : Int32) (x2 : Int32) (s0 : Nat) (T : tT) (I : tI) (J : tJ) (R : tR) (Q : tQ), Ex X (d + 1) mX2_sum 7 [.ref x0, .int x1, .int x2, rU, rU] [.ref s0] (T, I, J, R) Q = (T[s0]? = some (3, 2) ∧ Ex X d mX2_next 0 [.ref s0] [] (T, I, J, R) (fun v σ1 => Ex X (d + 1) mX2_sum 10 [.ref x0, .int x1, .int x2, rU, rU] (v.toList ++ []) σ1 Q))) := ⟨fun X d x0 x1 s0 σ Q => ex_P (i := .istore_n 2) (len := 1) (by decide +kernel) rfl,
  fun X d x0 x1 x2 σ Q => ex_P (i := .aload_n 0) (len := 1) (by decide +kernel) rfl,
  fun X d x0 x1 x2 s0 T I J R Q => q_callV (k := 34) (as := []) (st := []) (show rlk mX2_sum.2.2.2.2.2.2 7 = some (.invokevirtual 34, 3) from by decide +kernel) rfl rfl rfl (Nat.le_of_ble_eq_true rfl) (Nat.le_of_ble_eq_true rfl) rfl⟩
set_option maxRecDepth 50000 in
theorem gX2_sum_10 : (∀ (X : tX) (d : Nat) (x0 : Nat) (x1 : Int32) (x2 : Int32) (s0 : Int32) (σ : rS) (Q : tQ), Ex X d mX2_sum 10 [.ref x0, .int x1, .int x2, rU, rU] [.int s0] σ Q = Ex X d mX2_sum 11 [.ref x0, .int x1, .int x2, .int s0, rU] [] σ Q) ∧
  (∀ (X : tX) (d : Nat) (x0 : Nat) (x1 : Int32) (x2 : Int32) (x3 : Int32) (σ : rS) (Q : tQ), Ex X d mX2_sum 11 [.ref x0, .int x1, .int x2, .int x3, rU] [] σ Q = Ex X d mX2_sum 12 [.ref x0, .int x1, .int x2, .int x3, rU] [.int 0] σ Q) ∧
  (∀ (X : tX) (d : Nat) (x0 : Nat) (x1 : Int32) (x2 : Int32) (x3 : Int32) (s0 : Int32) (σ : rS) (Q : tQ), Ex X d mX2_sum 12 [.ref x0, .int x1, .int x2, .int x3, rU] [.int s0] σ Q = Ex X d mX2_sum 14 [.ref x0, .int x1, .int x2, .int x3, .int s0] [] σ Q) := ⟨fun X d x0 x1 x2 s0 σ Q => ex_P (i := .istore_n 3) (len := 1) (by decide +kernel) rfl,
  fun X d x0 x1 x2 x3 σ Q => ex_P (i := .iconst 0) (len := 1) (by decide +kernel) rfl,
  fun X d x0 x1 x2 x3 s0 σ Q => ex_P (i := .istore 4) (len := 2) (by decide +kernel) rfl⟩
set_option maxRecDepth 50000 in
theorem gX2_sum_14 : (∀ (X : tX) (d : Nat) (x0 : Nat) (x1 : Int32) (x2 : Int32) (x3 : Int32) (x4 : Int32) (σ : rS) (Q : tQ), Ex X d mX2_sum 14 [.ref x0, .int x1, .int x2, .int x3, .int x4] [] σ Q = Ex X d mX2_sum 15 [.ref x0, .int x1, .int x2, .int x3, .int x4] [.int x2] σ Q) ∧
  (∀ (X : tX) (d : Nat) (x0 : Nat) (x1 : Int32) (x2 : Int32) (x3 : Int32) (x4 : Int32) (s0 : Int32) (σ : rS) (Q : tQ), Ex X d mX2_sum 15 [.ref x0, .int x1, .int x2, .int x3, .int x4] [.int s0] σ Q = (if s0 = 0 then Ex X d mX2_sum 73 [.ref x0, .int x1, .int x2, .int x3, .int x4] [] σ Q else Ex X d mX2_sum 18 [.ref x0, .int x1, .int x2, .int x3, .int x4] [] σ Q)) := ⟨fun X d x0 x1 x2 x3 x4 σ Q => ex_P (i := .iload_n 2) (len := 1) (by decide +kernel) rfl,
  fun X d x0 x1 x2 x3 x4 s0 σ Q => q_if_eq (o := 58) (by decide +kernel) rfl⟩
set_option maxRecDepth 50000 in
theorem gX2_sum_18 : (∀ (X : tX) (d : Nat) (x0 : Nat) (x1 : Int32) (x2 : Int32) (x3 : Int32) (x4 : Int32) (σ : rS) (Q : tQ), Ex X d mX2_sum 18 [.ref x0, .int x1, .int x2, .int x3, .int x4] [] σ Q = Ex X d mX2_sum 19 [.ref x0, .int x1, .int x2, .int x3, .int x4] [.int x3] σ Q) ∧
  (∀ (X : tX) (d : Nat) (x0 : Nat) (x1 : Int32) (x2 : Int32) (x3 : Int32) (x4 : Int32) (s0 : Int32) (σ : rS) (Q : tQ), Ex X d mX2_sum 19 [.ref x0, .int x1, .int x2, .int x3, .int x4] [.int s0] σ Q = Ex X d mX2_sum 21 [.ref x0, .int x1, .int x2, .int x3, .int x4] [.int 43, .int s0] σ Q) ∧
  (∀ (X : tX) (d : Nat) (x0 : Nat) (x1 : Int32) (x2 : Int32) (x3 : Int32) (x4 : Int32) (s0 : Int32) (s1 : Int32) (σ : rS) (Q : tQ), Ex X d mX2_sum 21 [.ref x0, .int x1, .int x2, .int x3, .int x4] [.int s0, .int s1] σ Q = (if s1 = s0 then Ex X d mX2_sum 30 [.ref x0, .int x1, .int x2, .int x3, .int x4] [] σ Q else Ex X d mX2_sum 24 [.ref x0, .int x1, .int x2, .int x3, .int x4] [] σ Q)) := ⟨fun X d x0 x1 x2 x3 x4 σ Q => ex_P (i := .iload_n 3) (len := 1) (by decide +kernel) rfl,
  fun X d x0 x1 x2 x3 x4 s0 σ Q => ex_P (i := .bipush 43) (len := 2) (by decide +kernel) rfl,
  fun X d x0 x1 x2 x3 x4 s0 s1 σ Q => q_icmp_eq (o := 9) (by decide +kernel) rfl⟩
set_option maxRecDepth 50000 in
theorem gX2_sum_24 : (∀ (X : tX) (d : Nat) (x0 : Nat) (x1 : Int32) (x2 : Int32) (x3 : Int32) (x4 : Int32) (σ : rS) (Q : tQ), Ex X d mX2_sum 24 [.ref x0, .int x1, .int x2, .int x3, .int x4] [] σ Q = Ex X d mX2_sum 25 [.ref x0, .int x1, .int x2, .int x3, .int x4] [.int x3] σ Q) ∧
  (∀ (X : tX) (d : Nat) (x0 : Nat) (x1 : Int32) (x2 : Int32) (x3 : Int32) (x4 : Int32) (s0 : Int32) (σ : rS) (Q : tQ), Ex X d mX2_sum 25 [.ref x0, .int x1, .int x2, .int x3, .int x4] [.int s0] σ Q = Ex X d mX2_sum 27 [.ref x0, .int x1, .int x2, .int x3, .int x4] [.int 45, .int s0] σ Q) ∧
  (∀ (X : tX) (d : Nat) (x0 : Nat) (x1 : Int32) (x2 : Int32) (x3 : Int32) (x4 : Int32) (s0 : Int32) (s1 : Int32) (σ : rS) (Q : tQ), Ex X d mX2_sum 27 [.ref x0, .int x1, .int x2, .int x3, .int x4] [.int s0, .int s1] σ Q = (if s1 = s0 then Ex X d mX2_sum 30 [.ref x0, .int x1, .int x2, .int x3, .int x4] [] σ Q else Ex X d mX2_sum 73 [.ref x0, .int x1, .int x2, .int x3, .int x4] [] σ Q)) := ⟨fun X d x0 x1 x2 x3 x4 σ Q => ex_P (i := .iload_n 3) (len := 1) (by decide +kernel) rfl,
  fun X d x0 x1 x2 x3 x4 s0 σ Q => ex_P (i := .bipush 45) (len := 2) (by decide +kernel) rfl,
  fun X d x0 x1 x2 x3 x4 s0 s1 σ Q => q_icmp_ne (o := 46) (by decide +kernel) rfl⟩
set_option maxRecDepth 50000 in
theorem gX2_sum_30 : (∀ (X : tX) (d : Nat) (x0 : Nat) (x1 : Int32) (x2 : Int32) (x3 : Int32) (x4 : Int32) (σ : rS) (Q : tQ), Ex X d mX2_sum 30 [.ref x0, .int x1, .int x2, .int x3, .int x4] [] σ Q = Ex X d mX2_sum 32 [.ref x0, .int x1, .int x2, .int x3, .int x4] [.int x4] σ Q) ∧
  (∀ (X : tX) (d : Nat) (x0 : Nat) (x1 : Int32) (x2 : Int32) (x3 : Int32) (x4 : Int32) (s0 : Int32) (σ : rS) (Q : tQ), Ex X d mX2_sum 32 [.ref x0, .int x1, .int x2, .int x3, .int x4] [.int s0] σ Q = Ex X d mX2_sum 34 [.ref x0, .int x1, .int x2, .int x3, .int x4] [.int 120, .int s0] σ Q) ∧
  (∀ (X : tX) (d : Nat) (x0 : Nat) (x1 : Int32) (x2 : Int32) (x3 : Int32) (x4 : Int32) (s0 : Int32) (s1 : Int32) (σ : rS) (Q : tQ), Ex X d mX2_sum 34 [.ref x0, .int x1, .int x2, .int x3, .int x4] [.int s0, .int s1] σ Q = (if s0 ≤ s1 then Ex X d mX2_sum 73 [.ref x0, .int x1, .int x2, .int x3, .int x4] [] σ Q else Ex X d mX2_sum 37 [.ref x0, .int x1, .int x2, .int x3, .int x4] [] σ Q)) := ⟨fun X d x0 x1 x2 x3 x4 σ Q => ex_P (i := .iload 4) (len := 2) (by decide +kernel) rfl,
  fun X d x0 x1 x2 x3 x4 s0 σ Q => ex_P (i := .bipush 120) (len := 2) (by decide +kernel) rfl,
  fun X d x0 x1 x2 x3 x4 s0 s1 σ Q => q_icmp_ge (o := 39) (by decide +kernel) rfl⟩
set_option maxRecDepth 50000 in
theorem gX2_sum_37 : (∀ (X : tX) (d : Nat) (x0 : Nat) (x1 : Int32) (x2 : Int32) (x3 : Int32) (x4 : Int32) (σ : rS) (Q : tQ), Ex X d mX2_sum 37 [.ref x0, .int x1, .int x2, .int x3, .int x4] [] σ Q = Ex X d mX2_sum 38 [.ref x0, .int x1, .int x2, .int x3, .int x4] [.ref x0] σ Q) ∧
  (∀ (X : tX) (d : Nat) (x0 : Nat) (x1 : Int32) (x2 : Int32) (x3 : Int32) (x4 : Int32) (s0 : Nat) (σ : rS) (Q : tQ), Ex X d mX2_sum 38 [.ref x0, .int x1, .int x2, .int x3, .int x4] [.ref s0] σ Q = Ex X d mX2_sum 39 [.ref x0, .int x1, .int x2, .int x3, .int x4] [.ref s0, .ref s0] σ Q) ∧
  (∀ (X : tX) (d : Nat) (x0 : Nat) (x1 : Int32) (x2 : Int32) (x3 : Int32) (x4 : Int32) (s0 : Nat) (s1 : Nat) (T : tT) (I : tI) (J : tJ) (R : tR) (Q : tQ), Ex X d mX2_sum 39 [.ref x0, .int x1, .int x2, .int x3, .int x4] [.ref s0, .ref s1] (T, I, J, R) Q = (T[s0]? = some (3, 2) ∧ Ex X d mX2_sum 42 [.ref x0, .int x1, .int x2, .int x3, .int x4] [.int (I s0 2), .ref s1] (T, I, J, R) Q)) ∧
  (∀ (X : tX) (d : Nat) (x0 : Nat) (x1 : Int32) (x2 : Int32) (x3 : Int32) (x4 : Int32) (s0 : Int32) (s1 : Nat) (σ : rS) (Q : tQ), Ex X d mX2_sum 42 [.ref x0, .int x1, .int x2, .int x3, .int x4] [.int s0, .ref s1] σ Q = Ex X d mX2_sum 43 [.ref x0, .int x1, .int x2, .int x3, .int x4] [.int 1, .int s0, .ref s1] σ Q) ∧
  (∀ (X : tX) (d : Nat) (x0 : Nat) (x1 : Int32) (x2 : Int32) (x3 : Int32) (x4 : Int32) (s0 : Int32) (s1 : Int32) (s2 : Nat) (σ : rS) (Q : tQ), Ex X d mX2_sum 43 [.ref x0, .int x1, .int x2, .int x3, .int x4] [.int s0, .int s1, .ref s2] σ Q = Ex X d mX2_sum 44 [.ref x0, .int x1, .int x2, .int x3, .int x4] [.int (s1 + s0), .ref s2] σ Q) ∧
  (∀ (X : tX) (d : Nat) (x0 : Nat) (x1 : Int32) (x2 : Int32) (x3 : Int32) (x4 : Int32) (s0 : Int32) (s1 : Nat) (T : tT) (I : tI) (J : tJ) (R : tR) (Q : tQ), Ex X d mX2_sum 44 [.ref x0, .int x1, .int x2, .int x3, .int x4] [.int s0, .ref s1] (T, I, J, R) Q = (T[s1]? = some (3, 2) ∧ Ex X d mX2_sum 47 [.ref x0, .int x1, .int x2, .int x3, .int x4] [] (T, va_up I s1 (va_up (I s1) 2 s0), J, R) Q)) ∧
  (∀ (X : tX) (d : Nat) (x0 : Nat) (x1 : Int32) (x2 : Int32) (x3 : Int32) (x4 : Int32) (σ : rS) (Q : tQ), Ex X d mX2_sum 47 [.ref x0, .int x1, .int x2, .int x3, .int x4] [] σ Q = Ex X d mX2_sum 48 [.ref x0, .int x1, .int x2, .int x3, .int x4] [.ref x0] σ Q) ∧
  (∀ (X : tX) (d : Nat) (x0 : Nat) (x1 : Int32) (x2 : Int32) (x3 : Int32) (x4 : Int32) (s0 : Nat) (σ : rS) (Q : tQ), Ex X d mX2_sum 48 [.ref x0, .int x1, .int x2, .int x3, .int x4] [.ref s0] σ Q = Ex X d mX2_sum 49 [.ref x0, .int x1, .int x2, .int x3, .int x4] [.int x1, .ref s0] σ Q) ∧
  (∀ (X : tX) (d : Nat) (x0 : Nat) (x1 : Int32) (x2 : Int32) (x3 : Int32) (x4 : Int32) (s0 : Int32) (s1 : Nat) (T : tT) (I : tI) (J : tJ) (R : tR) (Q : tQ), Ex X (d + 1) mX2_sum 49 [.ref x0, .int x1, .int x2, .int x3, .int x4] [.int s0, .ref s1] (T, I, J, R) Q = (T[s1]? = some (3, 2) ∧ Ex X d mX2_product 0 [.ref s1, .int s0, rU, rU, rU] [] (T, I, J, R) (fun v σ1 => Ex X (d + 1) mX2_sum 52 [.ref x0, .int x1, .int x2, .int x3, .int x4] (v.toList ++ []) σ1 Q))) := ⟨fun X d x0 x1 x2 x3 x4 σ Q => ex_P (i := .aload_n 0) (len := 1) (by decide +kernel) rfl,
  fun X d x0 x1 x2 x3 x4 s0 σ Q => ex_P (i := .dup) (len := 1) (by decide +kernel) rfl,
  fun X d x0 x1 x2 x3 x4 s0 s1 T I J R Q => q_getI (k := 27) (by decide +kernel) rfl rfl (by decide),
  fun X d x0 x1 x2 x3 x4 s0 s1 σ Q => ex_P (i := .iconst 1) (len := 1) (by decide +kernel) rfl,
  fun X d x0 x1 x2 x3 x4 s0 s1 s2 σ Q => ex_P (i := .iadd) (len := 1) (by decide +kernel) rfl,
  fun X d x0 x1 x2 x3 x4 s0 s1 T I J R Q => q_putI (k := 27) (by decide +kernel) rfl rfl (by decide +kernel),
  fun X d x0 x1 x2 x3 x4 σ Q => ex_P (i := .aload_n 0) (len := 1) (by decide +kernel) rfl,
  fun X d x0 x1 x2 x3 x4 s0 σ Q => ex_P (i := .iload_n 1) (len := 1) (by decide +kernel) rfl,
  fun X d x0 x1 x2 x3 x4 s0 s1 T I J R Q => q_callV (k := 61) (as := [.int s0]) (st := []) (show rlk mX2_sum.2.2.2.2.2.2 49 = some (.invokevirtual 61, 3) from by decide +kernel) rfl rfl rfl (Nat.le_of_ble_eq_true rfl) (Nat.le_of_ble_eq_true rfl) rfl⟩
set_option maxRecDepth 50000 in
theorem gX2_sum_52 : (∀ (X : tX) (d : Nat) (x0 : Nat) (x1 : Int32) (x2 : Int32) (x3 : Int32) (x4 : Int32) (s0 : Int32) (σ : rS) (Q : tQ), Ex X d mX2_sum 52 [.ref x0, .int x1, .int x2, .int x3, .int x4] [.int s0] σ Q = Ex X d mX2_sum 53 [.ref x0, .int x1, .int s0, .int x3, .int x4] [] σ Q) ∧
  (∀ (X : tX) (d : Nat) (x0 : Nat) (x1 : Int32) (x2 : Int32) (x3 : Int32) (x4 : Int32) (σ : rS) (Q : tQ), Ex X d mX2_sum 53 [.ref x0, .int x1, .int x2, .int x3, .int x4] [] σ Q = Ex X d mX2_sum 54 [.ref x0, .int x1, .int x2, .int x3, .int x4] [.ref x0] σ Q) ∧
  (∀ (X : tX) (d : Nat) (x0 : Nat) (x1 : Int32) (x2 : Int32) (x3 : Int32) (x4 : Int32) (s0 : Nat) (T : tT) (I : tI) (J : tJ) (R : tR) (Q : tQ), Ex X d mX2_sum 54 [.ref x0, .int x1, .int x2, .int x3, .int x4] [.ref s0] (T, I, J, R) Q = (T[s0]? = some (3, 2) ∧ Ex X d mX2_sum 57 [.ref x0, .int x1, .int x2, .int x3, .int x4] [va_rf (R s0 3)] (T, I, J, R) Q)) ∧
  (∀ (X : tX) (d : Nat) (x0 : Nat) (x1 : Int32) (x2 : Int32) (x3 : Int32) (x4 : Int32) (s0 : Nat) (σ : rS) (Q : tQ), Ex X d mX2_sum 57 [.ref x0, .int x1, .int x2, .int x3, .int x4] [.ref s0] σ Q = Ex X d mX2_sum 58 [.ref x0, .int x1, .int x2, .int x3, .int x4] [.int x3, .ref s0] σ Q) ∧
  (∀ (X : tX) (d : Nat) (x0 : Nat) (x1 : Int32) (x2 : Int32) (x3 : Int32) (x4 : Int32) (s0 : Int32) (s1 : Nat) (σ : rS) (Q : tQ), Ex X d mX2_sum 58 [.ref x0, .int x1, .int x2, .int x3, .int x4] [.int s0, .ref s1] σ Q = Ex X d mX2_sum 59 [.ref x0, .int x1, .int x2, .int x3, .int x4] [.int (-s0), .ref s1] σ Q) ∧
  (∀ (X : tX) (d : Nat) (x0 : Nat) (x1 : Int32) (x2 : Int32) (x3 : Int32) (x4 : Int32) (s0 : Int32) (s1 : Nat) (T : tT) (I : tI) (J : tJ) (R : tR) (Q : tQ), Ex X (d + 1) mX2_sum 59 [.ref x0, .int x1, .int x2, .int x3, .int x4] [.int s0, .ref s1] (T, I, J, R) Q = (T[s1]? = some (3, 1) ∧ Ex X d mX1_add 0 [.ref s1, .int s0] [] (T, I, J, R) (fun v σ1 => Ex X (d + 1) mX2_sum 62 [.ref x0, .int x1, .int x2, .int x3, .int x4] (v.toList ++ []) σ1 Q))) := ⟨fun X d x0 x1 x2 x3 x4 s0 σ Q => ex_P (i := .istore_n 2) (len := 1) (by decide +kernel) rfl,
  fun X d x0 x1 x2 x3 x4 σ Q => ex_P (i := .aload_n 0) (len := 1) (by decide +kernel) rfl,
  fun X d x0 x1 x2 x3 x4 s0 T I J R Q => q_getR (k := 16) (by decide +kernel) rfl rfl,
  fun X d x0 x1 x2 x3 x4 s0 σ Q => ex_P (i := .iload_n 3) (len := 1) (by decide +kernel) rfl,
  fun X d x0 x1 x2 x3 x4 s0 s1 σ Q => ex_P (i := .ineg) (len := 1) (by decide +kernel) rfl,
  fun X d x0 x1 x2 x3 x4 s0 s1 T I J R Q => q_callV (k := 48) (as := [.int s0]) (st := []) (show rlk mX2_sum.2.2.2.2.2.2 59 = some (.invokevirtual 48, 3) from by decide +kernel) rfl rfl rfl (Nat.le_of_ble_eq_true rfl) (Nat.le_of_ble_eq_true rfl) rfl⟩
set_option maxRecDepth 50000 in
theorem gX2_sum_62 : (∀ (X : tX) (d : Nat) (x0 : Nat) (x1 : Int32) (x2 : Int32) (x3 : Int32) (x4 : Int32) (σ : rS) (Q : tQ), Ex X d mX2_sum 62 [.ref x0, .int x1, .int x2, .int x3, .int x4] [] σ Q = Ex X d mX2_sum 63 [.ref x0, .int x1, .int x2, .int x3, .int x4] [.ref x0] σ Q) ∧
  (∀ (X : tX) (d : Nat) (x0 : Nat) (x1 : Int32) (x2 : Int32) (x3 : Int32) (x4 : Int32) (s0 : Nat) (T : tT) (I : tI) (J : tJ) (R : tR) (Q : tQ), Ex X (d + 1) mX2_sum 63 [.ref x0, .int x1, .int x2, .int x3, .int x4] [.ref s0] (T, I, J, R) Q = (T[s0]? = some (3, 2) ∧ Ex X d mX2_next 0 [.ref s0] [] (T, I, J, R) (fun v σ1 => Ex X (d + 1) mX2_sum 66 [.ref x0, .int x1, .int x2, .int x3, .int x4] (v.toList ++ []) σ1 Q))) := ⟨fun X d x0 x1 x2 x3 x4 σ Q => ex_P (i := .aload_n 0) (len := 1) (by decide +kernel) rfl,
  fun X d x0 x1 x2 x3 x4 s0 T I J R Q => q_callV (k := 34) (as := []) (st := []) (show rlk mX2_sum.2.2.2.2.2.2 63 = some (.invokevirtual 34, 3) from by decide +kernel) rfl rfl rfl (Nat.le_of_ble_eq_true rfl) (Nat.le_of_ble_eq_true rfl) rfl⟩
set_option maxRecDepth 50000 in
theorem gX2_sum_66 : (∀ (X : tX) (d : Nat) (x0 : Nat) (x1 : Int32) (x2 : Int32) (x3 : Int32) (x4 : Int32) (s0 : Int32) (σ : rS) (Q : tQ), Ex X d mX2_sum 66 [.ref x0, .int x1, .int x2, .int x3, .int x4] [.int s0] σ Q = Ex X d mX2_sum 67 [.ref x0, .int x1, .int x2, .int s0, .int x4] [] σ Q) ∧
  (∀ (X : tX) (d : Nat) (x0 : Nat) (x1 : Int32) (x2 : Int32) (x3 : Int32) (x4 : Int32) (σ : rS) (Q : tQ), Ex X d mX2_sum 67 [.ref x0, .int x1, .int x2, .int x3, .int x4] [] σ Q = Ex X d mX2_sum 70 [.ref x0, .int x1, .int x2, .int x3, .int (x4 + 1)] [] σ Q) ∧
  (∀ (X : tX) (d : Nat) (x0 : Nat) (x1 : Int32) (x2 : Int32) (x3 : Int32) (x4 : Int32) (σ : rS) (Q : tQ), Ex X d mX2_sum 70 [.ref x0, .int x1, .int x2, .int x3, .int x4] [] σ Q = Ex X d mX2_sum 14 [.ref x0, .int x1, .int x2, .int x3, .int x4] [] σ Q) := ⟨fun X d x0 x1 x2 x3 x4 s0 σ Q => ex_P (i := .istore_n 3) (len := 1) (by decide +kernel) rfl,
  fun X d x0 x1 x2 x3 x4 σ Q => ex_P (i := .iinc 4 1) (len := 3) (by decide +kernel) rfl,
  fun X d x0 x1 x2 x3 x4 σ Q => q_goto (o := (-56)) (by decide +kernel) rfl⟩
set_option maxRecDepth 50000 in
theorem gX2_sum_73 : (∀ (X : tX) (d : Nat) (x0 : Nat) (x1 : Int32) (x2 : Int32) (x3 : Int32) (x4 : Int32) (σ : rS) (Q : tQ), Ex X d mX2_sum 73 [.ref x0, .int x1, .int x2, .int x3, .int x4] [] σ Q = Ex X d mX2_sum 74 [.ref x0, .int x1, .int x2, .int x3, .int x4] [.int x2] σ Q) ∧
  (∀ (X : tX) (d : Nat) (x0 : Nat) (x1 : Int32) (x2 : Int32) (x3 : Int32) (x4 : Int32) (s0 : Int32) (σ : rS) (Q : tQ), Ex X d mX2_sum 74 [.ref x0, .int x1, .int x2, .int x3, .int x4] [.int s0] σ Q = ((s0 = 0 ∨ s0 = 1) ∧ Q (some (.int s0)) σ)) := ⟨fun X d x0 x1 x2 x3 x4 σ Q => ex_P (i := .iload_n 2) (len := 1) (by decide +kernel) rfl,
  fun X d x0 x1 x2 x3 x4 s0 σ Q => q_retZ (by decide +kernel) rfl⟩
set_option maxRecDepth 50000 in
theorem gX2_product_0 : (∀ (X : tX) (d : Nat) (x0 : Nat) (x1 : Int32) (σ : rS) (Q : tQ), Ex X d mX2_product 0 [.ref x0, .int x1, rU, rU, rU] [] σ Q = Ex X d mX2_product 1 [.ref x0, .int x1, rU, rU, rU] [.ref x0] σ Q) ∧
  (∀ (X : tX) (d : Nat) (x0 : Nat) (x1 : Int32) (s0 : Nat) (σ : rS) (Q : tQ), Ex X d mX2_product 1 [.ref x0, .int x1, rU, rU, rU] [.ref s0] σ Q = Ex X d mX2_product 2 [.ref x0, .int x1, rU, rU, rU] [.int x1, .ref s0] σ Q) ∧
  (∀ (X : tX) (d : Nat) (x0 : Nat) (x1 : Int32) (s0 : Int32) (s1 : Nat) (T : tT) (I : tI) (J : tJ) (R : tR) (Q : tQ), Ex X (d + 1) mX2_product 2 [.ref x0, .int x1, rU, rU, rU] [.int s0, .ref s1] (T, I, J, R) Q = (T[s1]? = some (3, 2) ∧ Ex X d mX2_operand 0 [.ref s1, .int s0, rU, rU] [] (T, I, J, R) (fun v σ1 => Ex X (d + 1) mX2_product 5 [.ref x0, .int x1, rU, rU, rU] (v.toList ++ []) σ1 Q))) := ⟨fun X d x0 x1 σ Q => ex_P (i := .aload_n 0) (len := 1) (by decide +kernel) rfl,
  fun X d x0 x1 s0 σ Q => ex_P (i := .iload_n 1) (len := 1) (by decide +kernel) rfl,
  fun X d x0 x1 s0 s1 T I J R Q => q_callV (k := 64) (as := [.int s0]) (st := []) (show rlk mX2_product.2.2.2.2.2.2 2 = some (.invokevirtual 64, 3) from by decide +kernel) rfl rfl rfl (Nat.le_of_ble_eq_true rfl) (Nat.le_of_ble_eq_true rfl) rfl⟩
set_option maxRecDepth 50000 in
theorem gX2_product_5 : (∀ (X : tX) (d : Nat) (x0 : Nat) (x1 : Int32) (s0 : Int32) (σ : rS) (Q : tQ), Ex X d mX2_product 5 [.ref x0, .int x1, rU, rU, rU] [.int s0] σ Q = Ex X d mX2_product 6 [.ref x0, .int x1, .int s0, rU, rU] [] σ Q) ∧
  (∀ (X : tX) (d : Nat) (x0 : Nat) (x1 : Int32) (x2 : Int32) (σ : rS) (Q : tQ), Ex X d mX2_product 6 [.ref x0, .int x1, .int x2, rU, rU] [] σ Q = Ex X d mX2_product 7 [.ref x0, .int x1, .int x2, rU, rU] [.ref x0] σ Q) ∧
  (∀ (X : tX) (d : Nat) (x0 : Nat) (x1 : Int32) (x2 : Int32) (s0 : Nat) (T : tT) (I : tI) (J : tJ) (R : tR) (Q : tQ), Ex X (d + 1) mX2_product 7 [.ref x0, .int x1, .int x2, rU, rU] [.ref s0] (T, I, J, R) Q = (T[s0]? = some (3, 2) ∧ Ex X d mX2_next 0 [.ref s0] [] (T, I, J, R) (fun v σ1 => Ex X (d + 1) mX2_product 10 [.ref x0, .int x1, .int x2, rU, rU] (v.toList ++ []) σ1 Q))) := ⟨fun X d x0 x1 s0 σ Q => ex_P (i := .istore_n 2) (len := 1) (by decide +kernel) rfl,
  fun X d x0 x1 x2 σ Q => ex_P (i := .aload_n 0) (len := 1) (by decide +kernel) rfl,
  fun X d x0 x1 x2 s0 T I J R Q => q_callV (k := 34) (as := []) (st := []) (show rlk mX2_product.2.2.2.2.2.2 7 = some (.invokevirtual 34, 3) from by decide +kernel) rfl rfl rfl (Nat.le_of_ble_eq_true rfl) (Nat.le_of_ble_eq_true rfl) rfl⟩
set_option maxRecDepth 50000 in
theorem gX2_product_10 : (∀ (X : tX) (d : Nat) (x0 : Nat) (x1 : Int32) (x2 : Int32) (s0 : Int32) (σ : rS) (Q : tQ), Ex X d mX2_product 10 [.ref x0, .int x1, .int x2, rU, rU] [.int s0] σ Q = Ex X d mX2_product 11 [.ref x0, .int x1, .int x2, .int s0, rU] [] σ Q) ∧
  (∀ (X : tX) (d : Nat) (x0 : Nat) (x1 : Int32) (x2 : Int32) (x3 : Int32) (σ : rS) (Q : tQ), Ex X d mX2_product 11 [.ref x0, .int x1, .int x2, .int x3, rU] [] σ Q = Ex X d mX2_product 12 [.ref x0, .int x1, .int x2, .int x3, rU] [.int 0] σ Q) ∧
  (∀ (X : tX) (d : Nat) (x0 : Nat) (x1 : Int32) (x2 : Int32) (x3 : Int32) (s0 : Int32) (σ : rS) (Q : tQ), Ex X d mX2_product 12 [.ref x0, .int x1, .int x2, .int x3, rU] [.int s0] σ Q = Ex X d mX2_product 14 [.ref x0, .int x1, .int x2, .int x3, .int s0] [] σ Q) := ⟨fun X d x0 x1 x2 s0 σ Q => ex_P (i := .istore_n 3) (len := 1) (by decide +kernel) rfl,
  fun X d x0 x1 x2 x3 σ Q => ex_P (i := .iconst 0) (len := 1) (by decide +kernel) rfl,
  fun X d x0 x1 x2 x3 s0 σ Q => ex_P (i := .istore 4) (len := 2) (by decide +kernel) rfl⟩
set_option maxRecDepth 50000 in
theorem gX2_product_14 : (∀ (X : tX) (d : Nat) (x0 : Nat) (x1 : Int32) (x2 : Int32) (x3 : Int32) (x4 : Int32) (σ : rS) (Q : tQ), Ex X d mX2_product 14 [.ref x0, .int x1, .int x2, .int x3, .int x4] [] σ Q = Ex X d mX2_product 15 [.ref x0, .int x1, .int x2, .int x3, .int x4] [.int x2] σ Q) ∧
  (∀ (X : tX) (d : Nat) (x0 : Nat) (x1 : Int32) (x2 : Int32) (x3 : Int32) (x4 : Int32) (s0 : Int32) (σ : rS) (Q : tQ), Ex X d mX2_product 15 [.ref x0, .int x1, .int x2, .int x3, .int x4] [.int s0] σ Q = (if s0 = 0 then Ex X d mX2_product 79 [.ref x0, .int x1, .int x2, .int x3, .int x4] [] σ Q else Ex X d mX2_product 18 [.ref x0, .int x1, .int x2, .int x3, .int x4] [] σ Q)) := ⟨fun X d x0 x1 x2 x3 x4 σ Q => ex_P (i := .iload_n 2) (len := 1) (by decide +kernel) rfl,
  fun X d x0 x1 x2 x3 x4 s0 σ Q => q_if_eq (o := 64) (by decide +kernel) rfl⟩
set_option maxRecDepth 50000 in
theorem gX2_product_18 : (∀ (X : tX) (d : Nat) (x0 : Nat) (x1 : Int32) (x2 : Int32) (x3 : Int32) (x4 : Int32) (σ : rS) (Q : tQ), Ex X d mX2_product 18 [.ref x0, .int x1, .int x2, .int x3, .int x4] [] σ Q = Ex X d mX2_product 19 [.ref x0, .int x1, .int x2, .int x3, .int x4] [.int x3] σ Q) ∧
  (∀ (X : tX) (d : Nat) (x0 : Nat) (x1 : Int32) (x2 : Int32) (x3 : Int32) (x4 : Int32) (s0 : Int32) (σ : rS) (Q : tQ), Ex X d mX2_product 19 [.ref x0, .int x1, .int x2, .int x3, .int x4] [.int s0] σ Q = Ex X d mX2_product 21 [.ref x0, .int x1, .int x2, .int x3, .int x4] [.int 42, .int s0] σ Q) ∧
  (∀ (X : tX) (d : Nat) (x0 : Nat) (x1 : Int32) (x2 : Int32) (x3 : Int32) (x4 : Int32) (s0 : Int32) (s1 : Int32) (σ : rS) (Q : tQ), Ex X d mX2_product 21 [.ref x0, .int x1, .int x2, .int x3, .int x4] [.int s0, .int s1] σ Q = (if s1 = s0 then Ex X d mX2_product 36 [.ref x0, .int x1, .int x2, .int x3, .int x4] [] σ Q else Ex X d mX2_product 24 [.ref x0, .int x1, .int x2, .int x3, .int x4] [] σ Q)) := ⟨fun X d x0 x1 x2 x3 x4 σ Q => ex_P (i := .iload_n 3) (len := 1) (by decide +kernel) rfl,
  fun X d x0 x1 x2 x3 x4 s0 σ Q => ex_P (i := .bipush 42) (len := 2) (by decide +kernel) rfl,
  fun X d x0 x1 x2 x3 x4 s0 s1 σ Q => q_icmp_eq (o := 15) (by decide +kernel) rfl⟩
set_option maxRecDepth 50000 in
theorem gX2_product_24 : (∀ (X : tX) (d : Nat) (x0 : Nat) (x1 : Int32) (x2 : Int32) (x3 : Int32) (x4 : Int32) (σ : rS) (Q : tQ), Ex X d mX2_product 24 [.ref x0, .int x1, .int x2, .int x3, .int x4] [] σ Q = Ex X d mX2_product 25 [.ref x0, .int x1, .int x2, .int x3, .int x4] [.int x3] σ Q) ∧
  (∀ (X : tX) (d : Nat) (x0 : Nat) (x1 : Int32) (x2 : Int32) (x3 : Int32) (x4 : Int32) (s0 : Int32) (σ : rS) (Q : tQ), Ex X d mX2_product 25 [.ref x0, .int x1, .int x2, .int x3, .int x4] [.int s0] σ Q = Ex X d mX2_product 27 [.ref x0, .int x1, .int x2, .int x3, .int x4] [.int 47, .int s0] σ Q) ∧
  (∀ (X : tX) (d : Nat) (x0 : Nat) (x1 : Int32) (x2 : Int32) (x3 : Int32) (x4 : Int32) (s0 : Int32) (s1 : Int32) (σ : rS) (Q : tQ), Ex X d mX2_product 27 [.ref x0, .int x1, .int x2, .int x3, .int x4] [.int s0, .int s1] σ Q = (if s1 = s0 then Ex X d mX2_product 36 [.ref x0, .int x1, .int x2, .int x3, .int x4] [] σ Q else Ex X d mX2_product 30 [.ref x0, .int x1, .int x2, .int x3, .int x4] [] σ Q)) := ⟨fun X d x0 x1 x2 x3 x4 σ Q => ex_P (i := .iload_n 3) (len := 1) (by decide +kernel) rfl,
  fun X d x0 x1 x2 x3 x4 s0 σ Q => ex_P (i := .bipush 47) (len := 2) (by decide +kernel) rfl,
  fun X d x0 x1 x2 x3 x4 s0 s1 σ Q => q_icmp_eq (o := 9) (by decide +kernel) rfl⟩
set_option maxRecDepth 50000 in
theorem gX2_product_30 : (∀ (X : tX) (d : Nat) (x0 : Nat) (x1 : Int32) (x2 : Int32) (x3 : Int32) (x4 : Int32) (σ : rS) (Q : tQ), Ex X d mX2_product 30 [.ref x0, .int x1, .int x2, .int x3, .int x4] [] σ Q = Ex X d mX2_product 31 [.ref x0, .int x1, .int x2, .int x3, .int x4] [.int x3] σ Q) ∧
  (∀ (X : tX) (d : Nat) (x0 : Nat) (x1 : Int32) (x2 : Int32) (x3 : Int32) (x4 : Int32) (s0 : Int32) (σ : rS) (Q : tQ), Ex X d mX2_product 31 [.ref x0, .int x1, .int x2, .int x3, .int x4] [.int s0] σ Q = Ex X d mX2_product 33 [.ref x0, .int x1, .int x2, .int x3, .int x4] [.int 37, .int s0] σ Q) ∧
  (∀ (X : tX) (d : Nat) (x0 : Nat) (x1 : Int32) (x2 : Int32) (x3 : Int32) (x4 : Int32) (s0 : Int32) (s1 : Int32) (σ : rS) (Q : tQ), Ex X d mX2_product 33 [.ref x0, .int x1, .int x2, .int x3, .int x4] [.int s0, .int s1] σ Q = (if s1 = s0 then Ex X d mX2_product 36 [.ref x0, .int x1, .int x2, .int x3, .int x4] [] σ Q else Ex X d mX2_product 79 [.ref x0, .int x1, .int x2, .int x3, .int x4] [] σ Q)) := ⟨fun X d x0 x1 x2 x3 x4 σ Q => ex_P (i := .iload_n 3) (len := 1) (by decide +kernel) rfl,
  fun X d x0 x1 x2 x3 x4 s0 σ Q => ex_P (i := .bipush 37) (len := 2) (by decide +kernel) rfl,
  fun X d x0 x1 x2 x3 x4 s0 s1 σ Q => q_icmp_ne (o := 46) (by decide +kernel) rfl⟩
set_option maxRecDepth 50000 in
theorem gX2_product_36 : (∀ (X : tX) (d : Nat) (x0 : Nat) (x1 : Int32) (x2 : Int32) (x3 : Int32) (x4 : Int32) (σ : rS) (Q : tQ), Ex X d mX2_product 36 [.ref x0, .int x1, .int x2, .int x3, .int x4] [] σ Q = Ex X d mX2_product 38 [.ref x0, .int x1, .int x2, .int x3, .int x4] [.int x4] σ Q) ∧
  (∀ (X : tX) (d : Nat) (x0 : Nat) (x1 : Int32) (x2 : Int32) (x3 : Int32) (x4 : Int32) (s0 : Int32) (σ : rS) (Q : tQ), Ex X d mX2_product 38 [.ref x0, .int x1, .int x2, .int x3, .int x4] [.int s0] σ Q = Ex X d mX2_product 40 [.ref x0, .int x1, .int x2, .int x3, .int x4] [.int 120, .int s0] σ Q) ∧
  (∀ (X : tX) (d : Nat) (x0 : Nat) (x1 : Int32) (x2 : Int32) (x3 : Int32) (x4 : Int32) (s0 : Int32) (s1 : Int32) (σ : rS) (Q : tQ), Ex X d mX2_product 40 [.ref x0, .int x1, .int x2, .int x3, .int x4] [.int s0, .int s1] σ Q = (if s0 ≤ s1 then Ex X d mX2_product 79 [.ref x0, .int x1, .int x2, .int x3, .int x4] [] σ Q else Ex X d mX2_product 43 [.ref x0, .int x1, .int x2, .int x3, .int x4] [] σ Q)) := ⟨fun X d x0 x1 x2 x3 x4 σ Q => ex_P (i := .iload 4) (len := 2) (by decide +kernel) rfl,
  fun X d x0 x1 x2 x3 x4 s0 σ Q => ex_P (i := .bipush 120) (len := 2) (by decide +kernel) rfl,
  fun X d x0 x1 x2 x3 x4 s0 s1 σ Q => q_icmp_ge (o := 39) (by decide +kernel) rfl⟩
set_option maxRecDepth 50000 in
theorem gX2_product_43 : (∀ (X : tX) (d : Nat) (x0 : Nat) (x1 : Int32) (x2 : Int32) (x3 : Int32) (x4 : Int32) (σ : rS) (Q : tQ), Ex X d mX2_product 43 [.ref x0, .int x1, .int x2, .int x3, .int x4] [] σ Q = Ex X d mX2_product 44 [.ref x0, .int x1, .int x2, .int x3, .int x4] [.ref x0] σ Q) ∧
  (∀ (X : tX) (d : Nat) (x0 : Nat) (x1 : Int32) (x2 : Int32) (x3 : Int32) (x4 : Int32) (s0 : Nat) (σ : rS) (Q : tQ), Ex X d mX2_product 44 [.ref x0, .int x1, .int x2, .int x3, .int x4] [.ref s0] σ Q = Ex X d mX2_product 45 [.ref x0, .int x1, .int x2, .int x3, .int x4] [.ref s0, .ref s0] σ Q) ∧
  (∀ (X : tX) (d : Nat) (x0 : Nat) (x1 : Int32) (x2 : Int32) (x3 : Int32) (x4 : Int32) (s0 : Nat) (s1 : Nat) (T : tT) (I : tI) (J : tJ) (R : tR) (Q : tQ), Ex X d mX2_product 45 [.ref x0, .int x1, .int x2, .int x3, .int x4] [.ref s0, .ref s1] (T, I, J, R) Q = (T[s0]? = some (3, 2) ∧ Ex X d mX2_product 48 [.ref x0, .int x1, .int x2, .int x3, .int x4] [.int (I s0 2), .ref s1] (T, I, J, R) Q)) ∧
  (∀ (X : tX) (d : Nat) (x0 : Nat) (x1 : Int32) (x2 : Int32) (x3 : Int32) (x4 : Int32) (s0 : Int32) (s1 : Nat) (σ : rS) (Q : tQ), Ex X d mX2_product 48 [.ref x0, .int x1, .int x2, .int x3, .int x4] [.int s0, .ref s1] σ Q = Ex X d mX2_product 49 [.ref x0, .int x1, .int x2, .int x3, .int x4] [.int 1, .int s0, .ref s1] σ Q) ∧
  (∀ (X : tX) (d : Nat) (x0 : Nat) (x1 : Int32) (x2 : Int32) (x3 : Int32) (x4 : Int32) (s0 : Int32) (s1 : Int32) (s2 : Nat) (σ : rS) (Q : tQ), Ex X d mX2_product 49 [.ref x0, .int x1, .int x2, .int x3, .int x4] [.int s0, .int s1, .ref s2] σ Q = Ex X d mX2_product 50 [.ref x0, .int x1, .int x2, .int x3, .int x4] [.int (s1 + s0), .ref s2] σ Q) ∧
  (∀ (X : tX) (d : Nat) (x0 : Nat) (x1 : Int32) (x2 : Int32) (x3 : Int32) (x4 : Int32) (s0 : Int32) (s1 : Nat) (T : tT) (I : tI) (J : tJ) (R : tR) (Q : tQ), Ex X d mX2_product 50 [.ref x0, .int x1, .int x2, .int x3, .int x4] [.int s0, .ref s1] (T, I, J, R) Q = (T[s1]? = some (3, 2) ∧ Ex X d mX2_product 53 [.ref x0, .int x1, .int x2, .int x3, .int x4] [] (T, va_up I s1 (va_up (I s1) 2 s0), J, R) Q)) ∧
  (∀ (X : tX) (d : Nat) (x0 : Nat) (x1 : Int32) (x2 : Int32) (x3 : Int32) (x4 : Int32) (σ : rS) (Q : tQ), Ex X d mX2_product 53 [.ref x0, .int x1, .int x2, .int x3, .int x4] [] σ Q = Ex X d mX2_product 54 [.ref x0, .int x1, .int x2, .int x3, .int x4] [.ref x0] σ Q) ∧
  (∀ (X : tX) (d : Nat) (x0 : Nat) (x1 : Int32) (x2 : Int32) (x3 : Int32) (x4 : Int32) (s0 : Nat) (σ : rS) (Q : tQ), Ex X d mX2_product 54 [.ref x0, .int x1, .int x2, .int x3, .int x4] [.ref s0] σ Q = Ex X d mX2_product 55 [.ref x0, .int x1, .int x2, .int x3, .int x4] [.int x1, .ref s0] σ Q) ∧
  (∀ (X : tX) (d : Nat) (x0 : Nat) (x1 : Int32) (x2 : Int32) (x3 : Int32) (x4 : Int32) (s0 : Int32) (s1 : Nat) (T : tT) (I : tI) (J : tJ) (R : tR) (Q : tQ), Ex X (d + 1) mX2_product 55 [.ref x0, .int x1, .int x2, .int x3, .int x4] [.int s0, .ref s1] (T, I, J, R) Q = (T[s1]? = some (3, 2) ∧ Ex X d mX2_operand 0 [.ref s1, .int s0, rU, rU] [] (T, I, J, R) (fun v σ1 => Ex X (d + 1) mX2_product 58 [.ref x0, .int x1, .int x2, .int x3, .int x4] (v.toList ++ []) σ1 Q))) := ⟨fun X d x0 x1 x2 x3 x4 σ Q => ex_P (i := .aload_n 0) (len := 1) (by decide +kernel) rfl,
  fun X d x0 x1 x2 x3 x4 s0 σ Q => ex_P (i := .dup) (len := 1) (by decide +kernel) rfl,
  fun X d x0 x1 x2 x3 x4 s0 s1 T I J R Q => q_getI (k := 27) (by decide +kernel) rfl rfl (by decide),
  fun X d x0 x1 x2 x3 x4 s0 s1 σ Q => ex_P (i := .iconst 1) (len := 1) (by decide +kernel) rfl,
  fun X d x0 x1 x2 x3 x4 s0 s1 s2 σ Q => ex_P (i := .iadd) (len := 1) (by decide +kernel) rfl,
  fun X d x0 x1 x2 x3 x4 s0 s1 T I J R Q => q_putI (k := 27) (by decide +kernel) rfl rfl (by decide +kernel),
  fun X d x0 x1 x2 x3 x4 σ Q => ex_P (i := .aload_n 0) (len := 1) (by decide +kernel) rfl,
  fun X d x0 x1 x2 x3 x4 s0 σ Q => ex_P (i := .iload_n 1) (len := 1) (by decide +kernel) rfl,
  fun X d x0 x1 x2 x3 x4 s0 s1 T I J R Q => q_callV (k := 64) (as := [.int s0]) (st := []) (show rlk mX2_product.2.2.2.2.2.2 55 = some (.invokevirtual 64, 3) from by decide +kernel) rfl rfl rfl (Nat.le_of_ble_eq_true rfl) (Nat.le_of_ble_eq_true rfl) rfl⟩
set_option maxRecDepth 50000 in
theorem gX2_product_58 : (∀ (X : tX) (d : Nat) (x0 : Nat) (x1 : Int32) (x2 : Int32) (x3 : Int32) (x4 : Int32) (s0 : Int32) (σ : rS) (Q : tQ), Ex X d mX2_product 58 [.ref x0, .int x1, .int x2, .int x3, .int x4] [.int s0] σ Q = Ex X d mX2_product 59 [.ref x0, .int x1, .int s0, .int x3, .int x4] [] σ Q) ∧
  (∀ (X : tX) (d : Nat) (x0 : Nat) (x1 : Int32) (x2 : Int32) (x3 : Int32) (x4 : Int32) (σ : rS) (Q : tQ), Ex X d mX2_product 59 [.ref x0, .int x1, .int x2, .int x3, .int x4] [] σ Q = Ex X d mX2_product 60 [.ref x0, .int x1, .int x2, .int x3, .int x4] [.ref x0] σ Q) ∧
  (∀ (X : tX) (d : Nat) (x0 : Nat) (x1 : Int32) (x2 : Int32) (x3 : Int32) (x4 : Int32) (s0 : Nat) (T : tT) (I : tI) (J : tJ) (R : tR) (Q : tQ), Ex X d mX2_product 60 [.ref x0, .int x1, .int x2, .int x3, .int x4] [.ref s0] (T, I, J, R) Q = (T[s0]? = some (3, 2) ∧ Ex X d mX2_product 63 [.ref x0, .int x1, .int x2, .int x3, .int x4] [va_rf (R s0 3)] (T, I, J, R) Q)) ∧
  (∀ (X : tX) (d : Nat) (x0 : Nat) (x1 : Int32) (x2 : Int32) (x3 : Int32) (x4 : Int32) (s0 : Nat) (σ : rS) (Q : tQ), Ex X d mX2_product 63 [.ref x0, .int x1, .int x2, .int x3, .int x4] [.ref s0] σ Q = Ex X d mX2_product 64 [.ref x0, .int x1, .int x2, .int x3, .int x4] [.int x3, .ref s0] σ Q) ∧
  (∀ (X : tX) (d : Nat) (x0 : Nat) (x1 : Int32) (x2 : Int32) (x3 : Int32) (x4 : Int32) (s0 : Int32) (s1 : Nat) (σ : rS) (Q : tQ), Ex X d mX2_product 64 [.ref x0, .int x1, .int x2, .int x3, .int x4] [.int s0, .ref s1] σ Q = Ex X d mX2_product 65 [.ref x0, .int x1, .int x2, .int x3, .int x4] [.int (-s0), .ref s1] σ Q) ∧
  (∀ (X : tX) (d : Nat) (x0 : Nat) (x1 : Int32) (x2 : Int32) (x3 : Int32) (x4 : Int32) (s0 : Int32) (s1 : Nat) (T : tT) (I : tI) (J : tJ) (R : tR) (Q : tQ), Ex X (d + 1) mX2_product 65 [.ref x0, .int x1, .int x2, .int x3, .int x4] [.int s0, .ref s1] (T, I, J, R) Q = (T[s1]? = some (3, 1) ∧ Ex X d mX1_add 0 [.ref s1, .int s0] [] (T, I, J, R) (fun v σ1 => Ex X (d + 1) mX2_product 68 [.ref x0, .int x1, .int x2, .int x3, .int x4] (v.toList ++ []) σ1 Q))) := ⟨fun X d x0 x1 x2 x3 x4 s0 σ Q => ex_P (i := .istore_n 2) (len := 1) (by decide +kernel) rfl,
  fun X d x0 x1 x2 x3 x4 σ Q => ex_P (i := .aload_n 0) (len := 1) (by decide +kernel) rfl,
  fun X d x0 x1 x2 x3 x4 s0 T I J R Q => q_getR (k := 16) (by decide +kernel) rfl rfl,
  fun X d x0 x1 x2 x3 x4 s0 σ Q => ex_P (i := .iload_n 3) (len := 1) (by decide +kernel) rfl,
  fun X d x0 x1 x2 x3 x4 s0 s1 σ Q => ex_P (i := .ineg) (len := 1) (by decide +kernel) rfl,
  fun X d x0 x1 x2 x3 x4 s0 s1 T I J R Q => q_callV (k := 48) (as := [.int s0]) (st := []) (show rlk mX2_product.2.2.2.2.2.2 65 = some (.invokevirtual 48, 3) from by decide +kernel) rfl rfl rfl (Nat.le_of_ble_eq_true rfl) (Nat.le_of_ble_eq_true rfl) rfl⟩
set_option maxRecDepth 50000 in
theorem gX2_product_68 : (∀ (X : tX) (d : Nat) (x0 : Nat) (x1 : Int32) (x2 : Int32) (x3 : Int32) (x4 : Int32) (σ : rS) (Q : tQ), Ex X d mX2_product 68 [.ref x0, .int x1, .int x2, .int x3, .int x4] [] σ Q = Ex X d mX2_product 69 [.ref x0, .int x1, .int x2, .int x3, .int x4] [.ref x0] σ Q) ∧
  (∀ (X : tX) (d : Nat) (x0 : Nat) (x1 : Int32) (x2 : Int32) (x3 : Int32) (x4 : Int32) (s0 : Nat) (T : tT) (I : tI) (J : tJ) (R : tR) (Q : tQ), Ex X (d + 1) mX2_product 69 [.ref x0, .int x1, .int x2, .int x3, .int x4] [.ref s0] (T, I, J, R) Q = (T[s0]? = some (3, 2) ∧ Ex X d mX2_next 0 [.ref s0] [] (T, I, J, R) (fun v σ1 => Ex X (d + 1) mX2_product 72 [.ref x0, .int x1, .int x2, .int x3, .int x4] (v.toList ++ []) σ1 Q))) := ⟨fun X d x0 x1 x2 x3 x4 σ Q => ex_P (i := .aload_n 0) (len := 1) (by decide +kernel) rfl,
  fun X d x0 x1 x2 x3 x4 s0 T I J R Q => q_callV (k := 34) (as := []) (st := []) (show rlk mX2_product.2.2.2.2.2.2 69 = some (.invokevirtual 34, 3) from by decide +kernel) rfl rfl rfl (Nat.le_of_ble_eq_true rfl) (Nat.le_of_ble_eq_true rfl) rfl⟩
set_option maxRecDepth 50000 in
theorem gX2_product_72 : (∀ (X : tX) (d : Nat) (x0 : Nat) (x1 : Int32) (x2 : Int32) (x3 : Int32) (x4 : Int32) (s0 : Int32) (σ : rS) (Q : tQ), Ex X d mX2_product 72 [.ref x0, .int x1, .int x2, .int x3, .int x4] [.int s0] σ Q = Ex X d mX2_product 73 [.ref x0, .int x1, .int x2, .int s0, .int x4] [] σ Q) ∧
  (∀ (X : tX) (d : Nat) (x0 : Nat) (x1 : Int32) (x2 : Int32) (x3 : Int32) (x4 : Int32) (σ : rS) (Q : tQ), Ex X d mX2_product 73 [.ref x0, .int x1, .int x2, .int x3, .int x4] [] σ Q = Ex X d mX2_product 76 [.ref x0, .int x1, .int x2, .int x3, .int (x4 + 1)] [] σ Q) ∧
  (∀ (X : tX) (d : Nat) (x0 : Nat) (x1 : Int32) (x2 : Int32) (x3 : Int32) (x4 : Int32) (σ : rS) (Q : tQ), Ex X d mX2_product 76 [.ref x0, .int x1, .int x2, .int x3, .int x4] [] σ Q = Ex X d mX2_product 14 [.ref x0, .int x1, .int x2, .int x3, .int x4] [] σ Q) := ⟨fun X d x0 x1 x2 x3 x4 s0 σ Q => ex_P (i := .istore_n 3) (len := 1) (by decide +kernel) rfl,
  fun X d x0 x1 x2 x3 x4 σ Q => ex_P (i := .iinc 4 1) (len := 3) (by decide +kernel) rfl,
  fun X d x0 x1 x2 x3 x4 σ Q => q_goto (o := (-62)) (by decide +kernel) rfl⟩
set_option maxRecDepth 50000 in
theorem gX2_product_79 : (∀ (X : tX) (d : Nat) (x0 : Nat) (x1 : Int32) (x2 : Int32) (x3 : Int32) (x4 : Int32) (σ : rS) (Q : tQ), Ex X d mX2_product 79 [.ref x0, .int x1, .int x2, .int x3, .int x4] [] σ Q = Ex X d mX2_product 80 [.ref x0, .int x1, .int x2, .int x3, .int x4] [.int x2] σ Q) ∧
  (∀ (X : tX) (d : Nat) (x0 : Nat) (x1 : Int32) (x2 : Int32) (x3 : Int32) (x4 : Int32) (s0 : Int32) (σ : rS) (Q : tQ), Ex X d mX2_product 80 [.ref x0, .int x1, .int x2, .int x3, .int x4] [.int s0] σ Q = ((s0 = 0 ∨ s0 = 1) ∧ Q (some (.int s0)) σ)) := ⟨fun X d x0 x1 x2 x3 x4 σ Q => ex_P (i := .iload_n 2) (len := 1) (by decide +kernel) rfl,
  fun X d x0 x1 x2 x3 x4 s0 σ Q => q_retZ (by decide +kernel) rfl⟩
set_option maxRecDepth 50000 in
theorem gX2_operand_0 : (∀ (X : tX) (d : Nat) (x0 : Nat) (x1 : Int32) (σ : rS) (Q : tQ), Ex X d mX2_operand 0 [.ref x0, .int x1, rU, rU] [] σ Q = Ex X d mX2_operand 1 [.ref x0, .int x1, rU, rU] [.ref x0] σ Q) ∧
  (∀ (X : tX) (d : Nat) (x0 : Nat) (x1 : Int32) (s0 : Nat) (T : tT) (I : tI) (J : tJ) (R : tR) (Q : tQ), Ex X (d + 1) mX2_operand 1 [.ref x0, .int x1, rU, rU] [.ref s0] (T, I, J, R) Q = (T[s0]? = some (3, 2) ∧ Ex X d mX2_next 0 [.ref s0] [] (T, I, J, R) (fun v σ1 => Ex X (d + 1) mX2_operand 4 [.ref x0, .int x1, rU, rU] (v.toList ++ []) σ1 Q))) := ⟨fun X d x0 x1 σ Q => ex_P (i := .aload_n 0) (len := 1) (by decide +kernel) rfl,
  fun X d x0 x1 s0 T I J R Q => q_callV (k := 34) (as := []) (st := []) (show rlk mX2_operand.2.2.2.2.2.2 1 = some (.invokevirtual 34, 3) from by decide +kernel) rfl rfl rfl (Nat.le_of_ble_eq_true rfl) (Nat.le_of_ble_eq_true rfl) rfl⟩
set_option maxRecDepth 50000 in
theorem gX2_operand_4 : (∀ (X : tX) (d : Nat) (x0 : Nat) (x1 : Int32) (s0 : Int32) (σ : rS) (Q : tQ), Ex X d mX2_operand 4 [.ref x0, .int x1, rU, rU] [.int s0] σ Q = Ex X d mX2_operand 5 [.ref x0, .int x1, .int s0, rU] [] σ Q) ∧
  (∀ (X : tX) (d : Nat) (x0 : Nat) (x1 : Int32) (x2 : Int32) (σ : rS) (Q : tQ), Ex X d mX2_operand 5 [.ref x0, .int x1, .int x2, rU] [] σ Q = Ex X d mX2_operand 6 [.ref x0, .int x1, .int x2, rU] [.int x2] σ Q) ∧
  (∀ (X : tX) (d : Nat) (x0 : Nat) (x1 : Int32) (x2 : Int32) (s0 : Int32) (σ : rS) (Q : tQ), Ex X (d + 1) mX2_operand 6 [.ref x0, .int x1, .int x2, rU] [.int s0] σ Q = Ex X d mX2_isDigit 0 [.int s0] [] σ (fun v σ1 => Ex X (d + 1) mX2_operand 9 [.ref x0, .int x1, .int x2, rU] (v.toList ++ []) σ1 Q)) := ⟨fun X d x0 x1 s0 σ Q => ex_P (i := .istore_n 2) (len := 1) (by decide +kernel) rfl,
  fun X d x0 x1 x2 σ Q => ex_P (i := .iload_n 2) (len := 1) (by decide +kernel) rfl,
  fun X d x0 x1 x2 s0 σ Q => q_callS (k := 67) (as := [.int s0]) (st := []) (show rlk mX2_operand.2.2.2.2.2.2 6 = some (.invokestatic 67, 3) from by decide +kernel) rfl (Or.inl rfl) rfl rfl rfl rfl rfl (Nat.le_of_ble_eq_true rfl) (Nat.le_of_ble_eq_true rfl) rfl⟩
set_option maxRecDepth 50000 in
theorem gX2_operand_9 : (∀ (X : tX) (d : Nat) (x0 : Nat) (x1 : Int32) (x2 : Int32) (s0 : Int32) (σ : rS) (Q : tQ), Ex X d mX2_operand 9 [.ref x0, .int x1, .int x2, rU] [.int s0] σ Q = (if s0 = 0 then Ex X d mX2_operand 18 [.ref x0, .int x1, .int x2, rU] [] σ Q else Ex X d mX2_operand 12 [.ref x0, .int x1, .int x2, rU] [] σ Q)) := fun X d x0 x1 x2 s0 σ Q => q_if_eq (o := 9) (by decide +kernel) rfl
set_option maxRecDepth 50000 in
theorem gX2_operand_12 : (∀ (X : tX) (d : Nat) (x0 : Nat) (x1 : Int32) (x2 : Int32) (σ : rS) (Q : tQ), Ex X d mX2_operand 12 [.ref x0, .int x1, .int x2, rU] [] σ Q = Ex X d mX2_operand 13 [.ref x0, .int x1, .int x2, rU] [.ref x0] σ Q) ∧
  (∀ (X : tX) (d : Nat) (x0 : Nat) (x1 : Int32) (x2 : Int32) (s0 : Nat) (T : tT) (I : tI) (J : tJ) (R : tR) (Q : tQ), Ex X (d + 1) mX2_operand 13 [.ref x0, .int x1, .int x2, rU] [.ref s0] (T, I, J, R) Q = (T[s0]? = some (3, 2) ∧ Ex X d mX2_number 0 [.ref s0, rU, rU] [] (T, I, J, R) (fun v σ1 => Ex X (d + 1) mX2_operand 16 [.ref x0, .int x1, .int x2, rU] (v.toList ++ []) σ1 Q))) := ⟨fun X d x0 x1 x2 σ Q => ex_P (i := .aload_n 0) (len := 1) (by decide +kernel) rfl,
  fun X d x0 x1 x2 s0 T I J R Q => q_callV (k := 70) (as := []) (st := []) (show rlk mX2_operand.2.2.2.2.2.2 13 = some (.invokevirtual 70, 3) from by decide +kernel) rfl rfl rfl (Nat.le_of_ble_eq_true rfl) (Nat.le_of_ble_eq_true rfl) rfl⟩
set_option maxRecDepth 50000 in
theorem gX2_operand_16 : (∀ (X : tX) (d : Nat) (x0 : Nat) (x1 : Int32) (x2 : Int32) (σ : rS) (Q : tQ), Ex X d mX2_operand 16 [.ref x0, .int x1, .int x2, rU] [] σ Q = Ex X d mX2_operand 17 [.ref x0, .int x1, .int x2, rU] [.int 1] σ Q) ∧
  (∀ (X : tX) (d : Nat) (x0 : Nat) (x1 : Int32) (x2 : Int32) (s0 : Int32) (σ : rS) (Q : tQ), Ex X d mX2_operand 17 [.ref x0, .int x1, .int x2, rU] [.int s0] σ Q = ((s0 = 0 ∨ s0 = 1) ∧ Q (some (.int s0)) σ)) := ⟨fun X d x0 x1 x2 σ Q => ex_P (i := .iconst 1) (len := 1) (by decide +kernel) rfl,
  fun X d x0 x1 x2 s0 σ Q => q_retZ (by decide +kernel) rfl⟩
set_option maxRecDepth 50000 in
theorem gX2_operand_18 : (∀ (X : tX) (d : Nat) (x0 : Nat) (x1 : Int32) (x2 : Int32) (σ : rS) (Q : tQ), Ex X d mX2_operand 18 [.ref x0, .int x1, .int x2, rU] [] σ Q = Ex X d mX2_operand 19 [.ref x0, .int x1, .int x2, rU] [.int x2] σ Q) ∧
  (∀ (X : tX) (d : Nat) (x0 : Nat) (x1 : Int32) (x2 : Int32) (s0 : Int32) (σ : rS) (Q : tQ), Ex X (d + 1) mX2_operand 19 [.ref x0, .int x1, .int x2, rU] [.int s0] σ Q = Ex X d mX1_isName 0 [.int s0] [] σ (fun v σ1 => Ex X (d + 1) mX2_operand 22 [.ref x0, .int x1, .int x2, rU] (v.toList ++ []) σ1 Q)) := ⟨fun X d x0 x1 x2 σ Q => ex_P (i := .iload_n 2) (len := 1) (by decide +kernel) rfl,
  fun X d x0 x1 x2 s0 σ Q => q_callS (k := 73) (as := [.int s0]) (st := []) (show rlk mX2_operand.2.2.2.2.2.2 19 = some (.invokestatic 73, 3) from by decide +kernel) rfl (Or.inl rfl) rfl rfl rfl rfl rfl (Nat.le_of_ble_eq_true rfl) (Nat.le_of_ble_eq_true rfl) rfl⟩
set_option maxRecDepth 50000 in
theorem gX2_operand_22 : (∀ (X : tX) (d : Nat) (x0 : Nat) (x1 : Int32) (x2 : Int32) (s0 : Int32) (σ : rS) (Q : tQ), Ex X d mX2_operand 22 [.ref x0, .int x1, .int x2, rU] [.int s0] σ Q = (if s0 = 0 then Ex X d mX2_operand 46 [.ref x0, .int x1, .int x2, rU] [] σ Q else Ex X d mX2_operand 25 [.ref x0, .int x1, .int x2, rU] [] σ Q)) := fun X d x0 x1 x2 s0 σ Q => q_if_eq (o := 24) (by decide +kernel) rfl
set_option maxRecDepth 50000 in
theorem gX2_operand_25 : (∀ (X : tX) (d : Nat) (x0 : Nat) (x1 : Int32) (x2 : Int32) (σ : rS) (Q : tQ), Ex X d mX2_operand 25 [.ref x0, .int x1, .int x2, rU] [] σ Q = Ex X d mX2_operand 26 [.ref x0, .int x1, .int x2, rU] [.ref x0] σ Q) ∧
  (∀ (X : tX) (d : Nat) (x0 : Nat) (x1 : Int32) (x2 : Int32) (s0 : Nat) (σ : rS) (Q : tQ), Ex X d mX2_operand 26 [.ref x0, .int x1, .int x2, rU] [.ref s0] σ Q = Ex X d mX2_operand 27 [.ref x0, .int x1, .int x2, rU] [.ref s0, .ref s0] σ Q) ∧
  (∀ (X : tX) (d : Nat) (x0 : Nat) (x1 : Int32) (x2 : Int32) (s0 : Nat) (s1 : Nat) (T : tT) (I : tI) (J : tJ) (R : tR) (Q : tQ), Ex X d mX2_operand 27 [.ref x0, .int x1, .int x2, rU] [.ref s0, .ref s1] (T, I, J, R) Q = (T[s0]? = some (3, 2) ∧ Ex X d mX2_operand 30 [.ref x0, .int x1, .int x2, rU] [.int (I s0 2), .ref s1] (T, I, J, R) Q)) ∧
  (∀ (X : tX) (d : Nat) (x0 : Nat) (x1 : Int32) (x2 : Int32) (s0 : Int32) (s1 : Nat) (σ : rS) (Q : tQ), Ex X d mX2_operand 30 [.ref x0, .int x1, .int x2, rU] [.int s0, .ref s1] σ Q = Ex X d mX2_operand 31 [.ref x0, .int x1, .int x2, rU] [.int 1, .int s0, .ref s1] σ Q) ∧
  (∀ (X : tX) (d : Nat) (x0 : Nat) (x1 : Int32) (x2 : Int32) (s0 : Int32) (s1 : Int32) (s2 : Nat) (σ : rS) (Q : tQ), Ex X d mX2_operand 31 [.ref x0, .int x1, .int x2, rU] [.int s0, .int s1, .ref s2] σ Q = Ex X d mX2_operand 32 [.ref x0, .int x1, .int x2, rU] [.int (s1 + s0), .ref s2] σ Q) ∧
  (∀ (X : tX) (d : Nat) (x0 : Nat) (x1 : Int32) (x2 : Int32) (s0 : Int32) (s1 : Nat) (T : tT) (I : tI) (J : tJ) (R : tR) (Q : tQ), Ex X d mX2_operand 32 [.ref x0, .int x1, .int x2, rU] [.int s0, .ref s1] (T, I, J, R) Q = (T[s1]? = some (3, 2) ∧ Ex X d mX2_operand 35 [.ref x0, .int x1, .int x2, rU] [] (T, va_up I s1 (va_up (I s1) 2 s0), J, R) Q)) ∧
  (∀ (X : tX) (d : Nat) (x0 : Nat) (x1 : Int32) (x2 : Int32) (σ : rS) (Q : tQ), Ex X d mX2_operand 35 [.ref x0, .int x1, .int x2, rU] [] σ Q = Ex X d mX2_operand 36 [.ref x0, .int x1, .int x2, rU] [.ref x0] σ Q) ∧
  (∀ (X : tX) (d : Nat) (x0 : Nat) (x1 : Int32) (x2 : Int32) (s0 : Nat) (T : tT) (I : tI) (J : tJ) (R : tR) (Q : tQ), Ex X d mX2_operand 36 [.ref x0, .int x1, .int x2, rU] [.ref s0] (T, I, J, R) Q = (T[s0]? = some (3, 2) ∧ Ex X d mX2_operand 39 [.ref x0, .int x1, .int x2, rU] [va_rf (R s0 3)] (T, I, J, R) Q)) ∧
  (∀ (X : tX) (d : Nat) (x0 : Nat) (x1 : Int32) (x2 : Int32) (s0 : Nat) (σ : rS) (Q : tQ), Ex X d mX2_operand 39 [.ref x0, .int x1, .int x2, rU] [.ref s0] σ Q = Ex X d mX2_operand 40 [.ref x0, .int x1, .int x2, rU] [.int x2, .ref s0] σ Q) ∧
  (∀ (X : tX) (d : Nat) (x0 : Nat) (x1 : Int32) (x2 : Int32) (s0 : Int32) (s1 : Nat) (σ : rS) (Q : tQ), Ex X d mX2_operand 40 [.ref x0, .int x1, .int x2, rU] [.int s0, .ref s1] σ Q = Ex X d mX2_operand 41 [.ref x0, .int x1, .int x2, rU] [.int (-s0), .ref s1] σ Q) ∧
  (∀ (X : tX) (d : Nat) (x0 : Nat) (x1 : Int32) (x2 : Int32) (s0 : Int32) (s1 : Nat) (T : tT) (I : tI) (J : tJ) (R : tR) (Q : tQ), Ex X (d + 1) mX2_operand 41 [.ref x0, .int x1, .int x2, rU] [.int s0, .ref s1] (T, I, J, R) Q = (T[s1]? = some (3, 1) ∧ Ex X d mX1_add 0 [.ref s1, .int s0] [] (T, I, J, R) (fun v σ1 => Ex X (d + 1) mX2_operand 44 [.ref x0, .int x1, .int x2, rU] (v.toList ++ []) σ1 Q))) := ⟨fun X d x0 x1 x2 σ Q => ex_P (i := .aload_n 0) (len := 1) (by decide +kernel) rfl,
  fun X d x0 x1 x2 s0 σ Q => ex_P (i := .dup) (len := 1) (by decide +kernel) rfl,
  fun X d x0 x1 x2 s0 s1 T I J R Q => q_getI (k := 27) (by decide +kernel) rfl rfl (by decide),
  fun X d x0 x1 x2 s0 s1 σ Q => ex_P (i := .iconst 1) (len := 1) (by decide +kernel) rfl,
  fun X d x0 x1 x2 s0 s1 s2 σ Q => ex_P (i := .iadd) (len := 1) (by decide +kernel) rfl,
  fun X d x0 x1 x2 s0 s1 T I J R Q => q_putI (k := 27) (by decide +kernel) rfl rfl (by decide +kernel),
  fun X d x0 x1 x2 σ Q => ex_P (i := .aload_n 0) (len := 1) (by decide +kernel) rfl,
  fun X d x0 x1 x2 s0 T I J R Q => q_getR (k := 16) (by decide +kernel) rfl rfl,
  fun X d x0 x1 x2 s0 σ Q => ex_P (i := .iload_n 2) (len := 1) (by decide +kernel) rfl,
  fun X d x0 x1 x2 s0 s1 σ Q => ex_P (i := .ineg) (len := 1) (by decide +kernel) rfl,
  fun X d x0 x1 x2 s0 s1 T I J R Q => q_callV (k := 48) (as := [.int s0]) (st := []) (show rlk mX2_operand.2.2.2.2.2.2 41 = some (.invokevirtual 48, 3) from by decide +kernel) rfl rfl rfl (Nat.le_of_ble_eq_true rfl) (Nat.le_of_ble_eq_true rfl) rfl⟩
set_option maxRecDepth 50000 in
theorem gX2_operand_44 : (∀ (X : tX) (d : Nat) (x0 : Nat) (x1 : Int32) (x2 : Int32) (σ : rS) (Q : tQ), Ex X d mX2_operand 44 [.ref x0, .int x1, .int x2, rU] [] σ Q = Ex X d mX2_operand 45 [.ref x0, .int x1, .int x2, rU] [.int 1] σ Q) ∧
  (∀ (X : tX) (d : Nat) (x0 : Nat) (x1 : Int32) (x2 : Int32) (s0 : Int32) (σ : rS) (Q : tQ), Ex X d mX2_operand 45 [.ref x0, .int x1, .int x2, rU] [.int s0] σ Q = ((s0 = 0 ∨ s0 = 1) ∧ Q (some (.int s0)) σ)) := ⟨fun X d x0 x1 x2 σ Q => ex_P (i := .iconst 1) (len := 1) (by decide +kernel) rfl,
  fun X d x0 x1 x2 s0 σ Q => q_retZ (by decide +kernel) rfl⟩
set_option maxRecDepth 50000 in
theorem gX2_operand_46 : (∀ (X : tX) (d : Nat) (x0 : Nat) (x1 : Int32) (x2 : Int32) (σ : rS) (Q : tQ), Ex X d mX2_operand 46 [.ref x0, .int x1, .int x2, rU] [] σ Q = Ex X d mX2_operand 47 [.ref x0, .int x1, .int x2, rU] [.int x1] σ Q) ∧
  (∀ (X : tX) (d : Nat) (x0 : Nat) (x1 : Int32) (x2 : Int32) (s0 : Int32) (σ : rS) (Q : tQ), Ex X d mX2_operand 47 [.ref x0, .int x1, .int x2, rU] [.int s0] σ Q = Ex X d mX2_operand 49 [.ref x0, .int x1, .int x2, rU] [.int 6, .int s0] σ Q) ∧
  (∀ (X : tX) (d : Nat) (x0 : Nat) (x1 : Int32) (x2 : Int32) (s0 : Int32) (s1 : Int32) (σ : rS) (Q : tQ), Ex X d mX2_operand 49 [.ref x0, .int x1, .int x2, rU] [.int s0, .int s1] σ Q = (if s0 ≤ s1 then Ex X d mX2_operand 70 [.ref x0, .int x1, .int x2, rU] [] σ Q else Ex X d mX2_operand 52 [.ref x0, .int x1, .int x2, rU] [] σ Q)) := ⟨fun X d x0 x1 x2 σ Q => ex_P (i := .iload_n 1) (len := 1) (by decide +kernel) rfl,
  fun X d x0 x1 x2 s0 σ Q => ex_P (i := .bipush 6) (len := 2) (by decide +kernel) rfl,
  fun X d x0 x1 x2 s0 s1 σ Q => q_icmp_ge (o := 21) (by decide +kernel) rfl⟩
set_option maxRecDepth 50000 in
theorem gX2_operand_52 : (∀ (X : tX) (d : Nat) (x0 : Nat) (x1 : Int32) (x2 : Int32) (σ : rS) (Q : tQ), Ex X d mX2_operand 52 [.ref x0, .int x1, .int x2, rU] [] σ Q = Ex X d mX2_operand 53 [.ref x0, .int x1, .int x2, rU] [.int x2] σ Q) ∧
  (∀ (X : tX) (d : Nat) (x0 : Nat) (x1 : Int32) (x2 : Int32) (s0 : Int32) (σ : rS) (Q : tQ), Ex X d mX2_operand 53 [.ref x0, .int x1, .int x2, rU] [.int s0] σ Q = Ex X d mX2_operand 55 [.ref x0, .int x1, .int x2, rU] [.int 40, .int s0] σ Q) ∧
  (∀ (X : tX) (d : Nat) (x0 : Nat) (x1 : Int32) (x2 : Int32) (s0 : Int32) (s1 : Int32) (σ : rS) (Q : tQ), Ex X d mX2_operand 55 [.ref x0, .int x1, .int x2, rU] [.int s0, .int s1] σ Q = (if s1 = s0 then Ex X d mX2_operand 72 [.ref x0, .int x1, .int x2, rU] [] σ Q else Ex X d mX2_operand 58 [.ref x0, .int x1, .int x2, rU] [] σ Q)) := ⟨fun X d x0 x1 x2 σ Q => ex_P (i := .iload_n 2) (len := 1) (by decide +kernel) rfl,
  fun X d x0 x1 x2 s0 σ Q => ex_P (i := .bipush 40) (len := 2) (by decide +kernel) rfl,
  fun X d x0 x1 x2 s0 s1 σ Q => q_icmp_eq (o := 17) (by decide +kernel) rfl⟩
set_option maxRecDepth 50000 in
theorem gX2_operand_58 : (∀ (X : tX) (d : Nat) (x0 : Nat) (x1 : Int32) (x2 : Int32) (σ : rS) (Q : tQ), Ex X d mX2_operand 58 [.ref x0, .int x1, .int x2, rU] [] σ Q = Ex X d mX2_operand 59 [.ref x0, .int x1, .int x2, rU] [.int x2] σ Q) ∧
  (∀ (X : tX) (d : Nat) (x0 : Nat) (x1 : Int32) (x2 : Int32) (s0 : Int32) (σ : rS) (Q : tQ), Ex X d mX2_operand 59 [.ref x0, .int x1, .int x2, rU] [.int s0] σ Q = Ex X d mX2_operand 61 [.ref x0, .int x1, .int x2, rU] [.int 33, .int s0] σ Q) ∧
  (∀ (X : tX) (d : Nat) (x0 : Nat) (x1 : Int32) (x2 : Int32) (s0 : Int32) (s1 : Int32) (σ : rS) (Q : tQ), Ex X d mX2_operand 61 [.ref x0, .int x1, .int x2, rU] [.int s0, .int s1] σ Q = (if s1 = s0 then Ex X d mX2_operand 72 [.ref x0, .int x1, .int x2, rU] [] σ Q else Ex X d mX2_operand 64 [.ref x0, .int x1, .int x2, rU] [] σ Q)) := ⟨fun X d x0 x1 x2 σ Q => ex_P (i := .iload_n 2) (len := 1) (by decide +kernel) rfl,
  fun X d x0 x1 x2 s0 σ Q => ex_P (i := .bipush 33) (len := 2) (by decide +kernel) rfl,
  fun X d x0 x1 x2 s0 s1 σ Q => q_icmp_eq (o := 11) (by decide +kernel) rfl⟩
set_option maxRecDepth 50000 in
theorem gX2_operand_64 : (∀ (X : tX) (d : Nat) (x0 : Nat) (x1 : Int32) (x2 : Int32) (σ : rS) (Q : tQ), Ex X d mX2_operand 64 [.ref x0, .int x1, .int x2, rU] [] σ Q = Ex X d mX2_operand 65 [.ref x0, .int x1, .int x2, rU] [.int x2] σ Q) ∧
  (∀ (X : tX) (d : Nat) (x0 : Nat) (x1 : Int32) (x2 : Int32) (s0 : Int32) (σ : rS) (Q : tQ), Ex X d mX2_operand 65 [.ref x0, .int x1, .int x2, rU] [.int s0] σ Q = Ex X d mX2_operand 67 [.ref x0, .int x1, .int x2, rU] [.int 45, .int s0] σ Q) ∧
  (∀ (X : tX) (d : Nat) (x0 : Nat) (x1 : Int32) (x2 : Int32) (s0 : Int32) (s1 : Int32) (σ : rS) (Q : tQ), Ex X d mX2_operand 67 [.ref x0, .int x1, .int x2, rU] [.int s0, .int s1] σ Q = (if s1 = s0 then Ex X d mX2_operand 72 [.ref x0, .int x1, .int x2, rU] [] σ Q else Ex X d mX2_operand 70 [.ref x0, .int x1, .int x2, rU] [] σ Q)) := ⟨fun X d x0 x1 x2 σ Q => ex_P (i := .iload_n 2) (len := 1) (by decide +kernel) rfl,
  fun X d x0 x1 x2 s0 σ Q => ex_P (i := .bipush 45) (len := 2) (by decide +kernel) rfl,
  fun X d x0 x1 x2 s0 s1 σ Q => q_icmp_eq (o := 5) (by decide +kernel) rfl⟩
set_option maxRecDepth 50000 in
theorem gX2_operand_70 : (∀ (X : tX) (d : Nat) (x0 : Nat) (x1 : Int32) (x2 : Int32) (σ : rS) (Q : tQ), Ex X d mX2_operand 70 [.ref x0, .int x1, .int x2, rU] [] σ Q = Ex X d mX2_operand 71 [.ref x0, .int x1, .int x2, rU] [.int 0] σ Q) ∧
  (∀ (X : tX) (d : Nat) (x0 : Nat) (x1 : Int32) (x2 : Int32) (s0 : Int32) (σ : rS) (Q : tQ), Ex X d mX2_operand 71 [.ref x0, .int x1, .int x2, rU] [.int s0] σ Q = ((s0 = 0 ∨ s0 = 1) ∧ Q (some (.int s0)) σ)) := ⟨fun X d x0 x1 x2 σ Q => ex_P (i := .iconst 0) (len := 1) (by decide +kernel) rfl,
  fun X d x0 x1 x2 s0 σ Q => q_retZ (by decide +kernel) rfl⟩
set_option maxRecDepth 50000 in
theorem gX2_operand_72 : (∀ (X : tX) (d : Nat) (x0 : Nat) (x1 : Int32) (x2 : Int32) (σ : rS) (Q : tQ), Ex X d mX2_operand 72 [.ref x0, .int x1, .int x2, rU] [] σ Q = Ex X d mX2_operand 73 [.ref x0, .int x1, .int x2, rU] [.ref x0] σ Q) ∧
  (∀ (X : tX) (d : Nat) (x0 : Nat) (x1 : Int32) (x2 : Int32) (s0 : Nat) (σ : rS) (Q : tQ), Ex X d mX2_operand 73 [.ref x0, .int x1, .int x2, rU] [.ref s0] σ Q = Ex X d mX2_operand 74 [.ref x0, .int x1, .int x2, rU] [.ref s0, .ref s0] σ Q) ∧
  (∀ (X : tX) (d : Nat) (x0 : Nat) (x1 : Int32) (x2 : Int32) (s0 : Nat) (s1 : Nat) (T : tT) (I : tI) (J : tJ) (R : tR) (Q : tQ), Ex X d mX2_operand 74 [.ref x0, .int x1, .int x2, rU] [.ref s0, .ref s1] (T, I, J, R) Q = (T[s0]? = some (3, 2) ∧ Ex X d mX2_operand 77 [.ref x0, .int x1, .int x2, rU] [.int (I s0 2), .ref s1] (T, I, J, R) Q)) ∧
  (∀ (X : tX) (d : Nat) (x0 : Nat) (x1 : Int32) (x2 : Int32) (s0 : Int32) (s1 : Nat) (σ : rS) (Q : tQ), Ex X d mX2_operand 77 [.ref x0, .int x1, .int x2, rU] [.int s0, .ref s1] σ Q = Ex X d mX2_operand 78 [.ref x0, .int x1, .int x2, rU] [.int 1, .int s0, .ref s1] σ Q) ∧
  (∀ (X : tX) (d : Nat) (x0 : Nat) (x1 : Int32) (x2 : Int32) (s0 : Int32) (s1 : Int32) (s2 : Nat) (σ : rS) (Q : tQ), Ex X d mX2_operand 78 [.ref x0, .int x1, .int x2, rU] [.int s0, .int s1, .ref s2] σ Q = Ex X d mX2_operand 79 [.ref x0, .int x1, .int x2, rU] [.int (s1 + s0), .ref s2] σ Q) ∧
  (∀ (X : tX) (d : Nat) (x0 : Nat) (x1 : Int32) (x2 : Int32) (s0 : Int32) (s1 : Nat) (T : tT) (I : tI) (J : tJ) (R : tR) (Q : tQ), Ex X d mX2_operand 79 [.ref x0, .int x1, .int x2, rU] [.int s0, .ref s1] (T, I, J, R) Q = (T[s1]? = some (3, 2) ∧ Ex X d mX2_operand 82 [.ref x0, .int x1, .int x2, rU] [] (T, va_up I s1 (va_up (I s1) 2 s0), J, R) Q)) ∧
  (∀ (X : tX) (d : Nat) (x0 : Nat) (x1 : Int32) (x2 : Int32) (σ : rS) (Q : tQ), Ex X d mX2_operand 82 [.ref x0, .int x1, .int x2, rU] [] σ Q = Ex X d mX2_operand 83 [.ref x0, .int x1, .int x2, rU] [.int x2] σ Q) ∧
  (∀ (X : tX) (d : Nat) (x0 : Nat) (x1 : Int32) (x2 : Int32) (s0 : Int32) (σ : rS) (Q : tQ), Ex X d mX2_operand 83 [.ref x0, .int x1, .int x2, rU] [.int s0] σ Q = Ex X d mX2_operand 85 [.ref x0, .int x1, .int x2, rU] [.int 40, .int s0] σ Q) ∧
  (∀ (X : tX) (d : Nat) (x0 : Nat) (x1 : Int32) (x2 : Int32) (s0 : Int32) (s1 : Int32) (σ : rS) (Q : tQ), Ex X d mX2_operand 85 [.ref x0, .int x1, .int x2, rU] [.int s0, .int s1] σ Q = (if s1 = s0 then Ex X d mX2_operand 88 [.ref x0, .int x1, .int x2, rU] [] σ Q else Ex X d mX2_operand 113 [.ref x0, .int x1, .int x2, rU] [] σ Q)) := ⟨fun X d x0 x1 x2 σ Q => ex_P (i := .aload_n 0) (len := 1) (by decide +kernel) rfl,
  fun X d x0 x1 x2 s0 σ Q => ex_P (i := .dup) (len := 1) (by decide +kernel) rfl,
  fun X d x0 x1 x2 s0 s1 T I J R Q => q_getI (k := 27) (by decide +kernel) rfl rfl (by decide),
  fun X d x0 x1 x2 s0 s1 σ Q => ex_P (i := .iconst 1) (len := 1) (by decide +kernel) rfl,
  fun X d x0 x1 x2 s0 s1 s2 σ Q => ex_P (i := .iadd) (len := 1) (by decide +kernel) rfl,
  fun X d x0 x1 x2 s0 s1 T I J R Q => q_putI (k := 27) (by decide +kernel) rfl rfl (by decide +kernel),
  fun X d x0 x1 x2 σ Q => ex_P (i := .iload_n 2) (len := 1) (by decide +kernel) rfl,
  fun X d x0 x1 x2 s0 σ Q => ex_P (i := .bipush 40) (len := 2) (by decide +kernel) rfl,
  fun X d x0 x1 x2 s0 s1 σ Q => q_icmp_ne (o := 28) (by decide +kernel) rfl⟩
set_option maxRecDepth 50000 in
theorem gX2_operand_88 : (∀ (X : tX) (d : Nat) (x0 : Nat) (x1 : Int32) (x2 : Int32) (σ : rS) (Q : tQ), Ex X d mX2_operand 88 [.ref x0, .int x1, .int x2, rU] [] σ Q = Ex X d mX2_operand 89 [.ref x0, .int x1, .int x2, rU] [.ref x0] σ Q) ∧
  (∀ (X : tX) (d : Nat) (x0 : Nat) (x1 : Int32) (x2 : Int32) (s0 : Nat) (σ : rS) (Q : tQ), Ex X d mX2_operand 89 [.ref x0, .int x1, .int x2, rU] [.ref s0] σ Q = Ex X d mX2_operand 90 [.ref x0, .int x1, .int x2, rU] [.int x1, .ref s0] σ Q) ∧
  (∀ (X : tX) (d : Nat) (x0 : Nat) (x1 : Int32) (x2 : Int32) (s0 : Int32) (s1 : Nat) (σ : rS) (Q : tQ), Ex X d mX2_operand 90 [.ref x0, .int x1, .int x2, rU] [.int s0, .ref s1] σ Q = Ex X d mX2_operand 91 [.ref x0, .int x1, .int x2, rU] [.int 1, .int s0, .ref s1] σ Q) ∧
  (∀ (X : tX) (d : Nat) (x0 : Nat) (x1 : Int32) (x2 : Int32) (s0 : Int32) (s1 : Int32) (s2 : Nat) (σ : rS) (Q : tQ), Ex X d mX2_operand 91 [.ref x0, .int x1, .int x2, rU] [.int s0, .int s1, .ref s2] σ Q = Ex X d mX2_operand 92 [.ref x0, .int x1, .int x2, rU] [.int (s1 + s0), .ref s2] σ Q) ∧
  (∀ (X : tX) (d : Nat) (x0 : Nat) (x1 : Int32) (x2 : Int32) (s0 : Int32) (s1 : Nat) (T : tT) (I : tI) (J : tJ) (R : tR) (Q : tQ), Ex X (d + 1) mX2_operand 92 [.ref x0, .int x1, .int x2, rU] [.int s0, .ref s1] (T, I, J, R) Q = (T[s1]? = some (3, 2) ∧ Ex X d mX2_either 0 [.ref s1, .int s0, rU, rU] [] (T, I, J, R) (fun v σ1 => Ex X (d + 1) mX2_operand 95 [.ref x0, .int x1, .int x2, rU] (v.toList ++ []) σ1 Q))) := ⟨fun X d x0 x1 x2 σ Q => ex_P (i := .aload_n 0) (len := 1) (by decide +kernel) rfl,
  fun X d x0 x1 x2 s0 σ Q => ex_P (i := .iload_n 1) (len := 1) (by decide +kernel) rfl,
  fun X d x0 x1 x2 s0 s1 σ Q => ex_P (i := .iconst 1) (len := 1) (by decide +kernel) rfl,
  fun X d x0 x1 x2 s0 s1 s2 σ Q => ex_P (i := .iadd) (len := 1) (by decide +kernel) rfl,
  fun X d x0 x1 x2 s0 s1 T I J R Q => q_callV (k := 45) (as := [.int s0]) (st := []) (show rlk mX2_operand.2.2.2.2.2.2 92 = some (.invokevirtual 45, 3) from by decide +kernel) rfl rfl rfl (Nat.le_of_ble_eq_true rfl) (Nat.le_of_ble_eq_true rfl) rfl⟩
set_option maxRecDepth 50000 in
theorem gX2_operand_95 : (∀ (X : tX) (d : Nat) (x0 : Nat) (x1 : Int32) (x2 : Int32) (s0 : Int32) (σ : rS) (Q : tQ), Ex X d mX2_operand 95 [.ref x0, .int x1, .int x2, rU] [.int s0] σ Q = (if s0 = 0 then Ex X d mX2_operand 111 [.ref x0, .int x1, .int x2, rU] [] σ Q else Ex X d mX2_operand 98 [.ref x0, .int x1, .int x2, rU] [] σ Q)) := fun X d x0 x1 x2 s0 σ Q => q_if_eq (o := 16) (by decide +kernel) rfl
set_option maxRecDepth 50000 in
theorem gX2_operand_98 : (∀ (X : tX) (d : Nat) (x0 : Nat) (x1 : Int32) (x2 : Int32) (σ : rS) (Q : tQ), Ex X d mX2_operand 98 [.ref x0, .int x1, .int x2, rU] [] σ Q = Ex X d mX2_operand 99 [.ref x0, .int x1, .int x2, rU] [.ref x0] σ Q) ∧
  (∀ (X : tX) (d : Nat) (x0 : Nat) (x1 : Int32) (x2 : Int32) (s0 : Nat) (σ : rS) (Q : tQ), Ex X d mX2_operand 99 [.ref x0, .int x1, .int x2, rU] [.ref s0] σ Q = Ex X d mX2_operand 101 [.ref x0, .int x1, .int x2, rU] [.int 41, .ref s0] σ Q) ∧
  (∀ (X : tX) (d : Nat) (x0 : Nat) (x1 : Int32) (x2 : Int32) (s0 : Int32) (s1 : Nat) (T : tT) (I : tI) (J : tJ) (R : tR) (Q : tQ), Ex X (d + 1) mX2_operand 101 [.ref x0, .int x1, .int x2, rU] [.int s0, .ref s1] (T, I, J, R) Q = (T[s1]? = some (3, 2) ∧ Ex X d mX2_passes 0 [.ref s1, .int s0, rU] [] (T, I, J, R) (fun v σ1 => Ex X (d + 1) mX2_operand 104 [.ref x0, .int x1, .int x2, rU] (v.toList ++ []) σ1 Q))) := ⟨fun X d x0 x1 x2 σ Q => ex_P (i := .aload_n 0) (len := 1) (by decide +kernel) rfl,
  fun X d x0 x1 x2 s0 σ Q => ex_P (i := .bipush 41) (len := 2) (by decide +kernel) rfl,
  fun X d x0 x1 x2 s0 s1 T I J R Q => q_callV (k := 41) (as := [.int s0]) (st := []) (show rlk mX2_operand.2.2.2.2.2.2 101 = some (.invokevirtual 41, 3) from by decide +kernel) rfl rfl rfl (Nat.le_of_ble_eq_true rfl) (Nat.le_of_ble_eq_true rfl) rfl⟩
set_option maxRecDepth 50000 in
theorem gX2_operand_104 : (∀ (X : tX) (d : Nat) (x0 : Nat) (x1 : Int32) (x2 : Int32) (s0 : Int32) (σ : rS) (Q : tQ), Ex X d mX2_operand 104 [.ref x0, .int x1, .int x2, rU] [.int s0] σ Q = (if s0 = 0 then Ex X d mX2_operand 111 [.ref x0, .int x1, .int x2, rU] [] σ Q else Ex X d mX2_operand 107 [.ref x0, .int x1, .int x2, rU] [] σ Q)) := fun X d x0 x1 x2 s0 σ Q => q_if_eq (o := 7) (by decide +kernel) rfl
set_option maxRecDepth 50000 in
theorem gX2_operand_107 : (∀ (X : tX) (d : Nat) (x0 : Nat) (x1 : Int32) (x2 : Int32) (σ : rS) (Q : tQ), Ex X d mX2_operand 107 [.ref x0, .int x1, .int x2, rU] [] σ Q = Ex X d mX2_operand 108 [.ref x0, .int x1, .int x2, rU] [.int 1] σ Q) ∧
  (∀ (X : tX) (d : Nat) (x0 : Nat) (x1 : Int32) (x2 : Int32) (s0 : Int32) (σ : rS) (Q : tQ), Ex X d mX2_operand 108 [.ref x0, .int x1, .int x2, rU] [.int s0] σ Q = Ex X d mX2_operand 112 [.ref x0, .int x1, .int x2, rU] [.int s0] σ Q) := ⟨fun X d x0 x1 x2 σ Q => ex_P (i := .iconst 1) (len := 1) (by decide +kernel) rfl,
  fun X d x0 x1 x2 s0 σ Q => q_goto (o := 4) (by decide +kernel) rfl⟩
set_option maxRecDepth 50000 in
theorem gX2_operand_111 : (∀ (X : tX) (d : Nat) (x0 : Nat) (x1 : Int32) (x2 : Int32) (σ : rS) (Q : tQ), Ex X d mX2_operand 111 [.ref x0, .int x1, .int x2, rU] [] σ Q = Ex X d mX2_operand 112 [.ref x0, .int x1, .int x2, rU] [.int 0] σ Q) := fun X d x0 x1 x2 σ Q => ex_P (i := .iconst 0) (len := 1) (by decide +kernel) rfl
set_option maxRecDepth 50000 in
theorem gX2_operand_112 : (∀ (X : tX) (d : Nat) (x0 : Nat) (x1 : Int32) (x2 : Int32) (s0 : Int32) (σ : rS) (Q : tQ), Ex X d mX2_operand 112 [.ref x0, .int x1, .int x2, rU] [.int s0] σ Q = ((s0 = 0 ∨ s0 = 1) ∧ Q (some (.int s0)) σ)) := fun X d x0 x1 x2 s0 σ Q => q_retZ (by decide +kernel) rfl
set_option maxRecDepth 50000 in
theorem gX2_operand_113 : (∀ (X : tX) (d : Nat) (x0 : Nat) (x1 : Int32) (x2 : Int32) (σ : rS) (Q : tQ), Ex X d mX2_operand 113 [.ref x0, .int x1, .int x2, rU] [] σ Q = Ex X d mX2_operand 114 [.ref x0, .int x1, .int x2, rU] [.ref x0] σ Q) ∧
  (∀ (X : tX) (d : Nat) (x0 : Nat) (x1 : Int32) (x2 : Int32) (s0 : Nat) (σ : rS) (Q : tQ), Ex X d mX2_operand 114 [.ref x0, .int x1, .int x2, rU] [.ref s0] σ Q = Ex X d mX2_operand 115 [.ref x0, .int x1, .int x2, rU] [.int x1, .ref s0] σ Q) ∧
  (∀ (X : tX) (d : Nat) (x0 : Nat) (x1 : Int32) (x2 : Int32) (s0 : Int32) (s1 : Nat) (σ : rS) (Q : tQ), Ex X d mX2_operand 115 [.ref x0, .int x1, .int x2, rU] [.int s0, .ref s1] σ Q = Ex X d mX2_operand 116 [.ref x0, .int x1, .int x2, rU] [.int 1, .int s0, .ref s1] σ Q) ∧
  (∀ (X : tX) (d : Nat) (x0 : Nat) (x1 : Int32) (x2 : Int32) (s0 : Int32) (s1 : Int32) (s2 : Nat) (σ : rS) (Q : tQ), Ex X d mX2_operand 116 [.ref x0, .int x1, .int x2, rU] [.int s0, .int s1, .ref s2] σ Q = Ex X d mX2_operand 117 [.ref x0, .int x1, .int x2, rU] [.int (s1 + s0), .ref s2] σ Q) ∧
  (∀ (X : tX) (d : Nat) (x0 : Nat) (x1 : Int32) (x2 : Int32) (s0 : Int32) (s1 : Nat) (T : tT) (I : tI) (J : tJ) (R : tR) (Q : tQ), Ex X (d + 1) mX2_operand 117 [.ref x0, .int x1, .int x2, rU] [.int s0, .ref s1] (T, I, J, R) Q = (T[s1]? = some (3, 2) ∧ Ex X d mX2_operand 0 [.ref s1, .int s0, rU, rU] [] (T, I, J, R) (fun v σ1 => Ex X (d + 1) mX2_operand 120 [.ref x0, .int x1, .int x2, rU] (v.toList ++ []) σ1 Q))) := ⟨fun X d x0 x1 x2 σ Q => ex_P (i := .aload_n 0) (len := 1) (by decide +kernel) rfl,
  fun X d x0 x1 x2 s0 σ Q => ex_P (i := .iload_n 1) (len := 1) (by decide +kernel) rfl,
  fun X d x0 x1 x2 s0 s1 σ Q => ex_P (i := .iconst 1) (len := 1) (by decide +kernel) rfl,
  fun X d x0 x1 x2 s0 s1 s2 σ Q => ex_P (i := .iadd) (len := 1) (by decide +kernel) rfl,
  fun X d x0 x1 x2 s0 s1 T I J R Q => q_callV (k := 64) (as := [.int s0]) (st := []) (show rlk mX2_operand.2.2.2.2.2.2 117 = some (.invokevirtual 64, 3) from by decide +kernel) rfl rfl rfl (Nat.le_of_ble_eq_true rfl) (Nat.le_of_ble_eq_true rfl) rfl⟩
set_option maxRecDepth 50000 in
theorem gX2_operand_120 : (∀ (X : tX) (d : Nat) (x0 : Nat) (x1 : Int32) (x2 : Int32) (s0 : Int32) (σ : rS) (Q : tQ), Ex X d mX2_operand 120 [.ref x0, .int x1, .int x2, rU] [.int s0] σ Q = Ex X d mX2_operand 121 [.ref x0, .int x1, .int x2, .int s0] [] σ Q) ∧
  (∀ (X : tX) (d : Nat) (x0 : Nat) (x1 : Int32) (x2 : Int32) (x3 : Int32) (σ : rS) (Q : tQ), Ex X d mX2_operand 121 [.ref x0, .int x1, .int x2, .int x3] [] σ Q = Ex X d mX2_operand 122 [.ref x0, .int x1, .int x2, .int x3] [.ref x0] σ Q) ∧
  (∀ (X : tX) (d : Nat) (x0 : Nat) (x1 : Int32) (x2 : Int32) (x3 : Int32) (s0 : Nat) (T : tT) (I : tI) (J : tJ) (R : tR) (Q : tQ), Ex X d mX2_operand 122 [.ref x0, .int x1, .int x2, .int x3] [.ref s0] (T, I, J, R) Q = (T[s0]? = some (3, 2) ∧ Ex X d mX2_operand 125 [.ref x0, .int x1, .int x2, .int x3] [va_rf (R s0 3)] (T, I, J, R) Q)) ∧
  (∀ (X : tX) (d : Nat) (x0 : Nat) (x1 : Int32) (x2 : Int32) (x3 : Int32) (s0 : Nat) (σ : rS) (Q : tQ), Ex X d mX2_operand 125 [.ref x0, .int x1, .int x2, .int x3] [.ref s0] σ Q = Ex X d mX2_operand 126 [.ref x0, .int x1, .int x2, .int x3] [.int x2, .ref s0] σ Q) ∧
  (∀ (X : tX) (d : Nat) (x0 : Nat) (x1 : Int32) (x2 : Int32) (x3 : Int32) (s0 : Int32) (s1 : Nat) (σ : rS) (Q : tQ), Ex X d mX2_operand 126 [.ref x0, .int x1, .int x2, .int x3] [.int s0, .ref s1] σ Q = Ex X d mX2_operand 128 [.ref x0, .int x1, .int x2, .int x3] [.int 45, .int s0, .ref s1] σ Q) ∧
  (∀ (X : tX) (d : Nat) (x0 : Nat) (x1 : Int32) (x2 : Int32) (x3 : Int32) (s0 : Int32) (s1 : Int32) (s2 : Nat) (σ : rS) (Q : tQ), Ex X d mX2_operand 128 [.ref x0, .int x1, .int x2, .int x3] [.int s0, .int s1, .ref s2] σ Q = (if s1 = s0 then Ex X d mX2_operand 131 [.ref x0, .int x1, .int x2, .int x3] [.ref s2] σ Q else Ex X d mX2_operand 136 [.ref x0, .int x1, .int x2, .int x3] [.ref s2] σ Q)) := ⟨fun X d x0 x1 x2 s0 σ Q => ex_P (i := .istore_n 3) (len := 1) (by decide +kernel) rfl,
  fun X d x0 x1 x2 x3 σ Q => ex_P (i := .aload_n 0) (len := 1) (by decide +kernel) rfl,
  fun X d x0 x1 x2 x3 s0 T I J R Q => q_getR (k := 16) (by decide +kernel) rfl rfl,
  fun X d x0 x1 x2 x3 s0 σ Q => ex_P (i := .iload_n 2) (len := 1) (by decide +kernel) rfl,
  fun X d x0 x1 x2 x3 s0 s1 σ Q => ex_P (i := .bipush 45) (len := 2) (by decide +kernel) rfl,
  fun X d x0 x1 x2 x3 s0 s1 s2 σ Q => q_icmp_ne (o := 8) (by decide +kernel) rfl⟩
set_option maxRecDepth 50000 in
theorem gX2_operand_131 : (∀ (X : tX) (d : Nat) (x0 : Nat) (x1 : Int32) (x2 : Int32) (x3 : Int32) (s0 : Nat) (σ : rS) (Q : tQ), Ex X d mX2_operand 131 [.ref x0, .int x1, .int x2, .int x3] [.ref s0] σ Q = Ex X d mX2_operand 133 [.ref x0, .int x1, .int x2, .int x3] [.int (-126), .ref s0] σ Q) ∧
  (∀ (X : tX) (d : Nat) (x0 : Nat) (x1 : Int32) (x2 : Int32) (x3 : Int32) (s0 : Int32) (s1 : Nat) (σ : rS) (Q : tQ), Ex X d mX2_operand 133 [.ref x0, .int x1, .int x2, .int x3] [.int s0, .ref s1] σ Q = Ex X d mX2_operand 138 [.ref x0, .int x1, .int x2, .int x3] [.int s0, .ref s1] σ Q) := ⟨fun X d x0 x1 x2 x3 s0 σ Q => ex_P (i := .bipush (-126)) (len := 2) (by decide +kernel) rfl,
  fun X d x0 x1 x2 x3 s0 s1 σ Q => q_goto (o := 5) (by decide +kernel) rfl⟩
set_option maxRecDepth 50000 in
theorem gX2_operand_136 : (∀ (X : tX) (d : Nat) (x0 : Nat) (x1 : Int32) (x2 : Int32) (x3 : Int32) (s0 : Nat) (σ : rS) (Q : tQ), Ex X d mX2_operand 136 [.ref x0, .int x1, .int x2, .int x3] [.ref s0] σ Q = Ex X d mX2_operand 138 [.ref x0, .int x1, .int x2, .int x3] [.int (-33), .ref s0] σ Q) := fun X d x0 x1 x2 x3 s0 σ Q => ex_P (i := .bipush (-33)) (len := 2) (by decide +kernel) rfl
set_option maxRecDepth 50000 in
theorem gX2_operand_138 : (∀ (X : tX) (d : Nat) (x0 : Nat) (x1 : Int32) (x2 : Int32) (x3 : Int32) (s0 : Int32) (s1 : Nat) (T : tT) (I : tI) (J : tJ) (R : tR) (Q : tQ), Ex X (d + 1) mX2_operand 138 [.ref x0, .int x1, .int x2, .int x3] [.int s0, .ref s1] (T, I, J, R) Q = (T[s1]? = some (3, 1) ∧ Ex X d mX1_add 0 [.ref s1, .int s0] [] (T, I, J, R) (fun v σ1 => Ex X (d + 1) mX2_operand 141 [.ref x0, .int x1, .int x2, .int x3] (v.toList ++ []) σ1 Q))) := fun X d x0 x1 x2 x3 s0 s1 T I J R Q => q_callV (k := 48) (as := [.int s0]) (st := []) (show rlk mX2_operand.2.2.2.2.2.2 138 = some (.invokevirtual 48, 3) from by decide +kernel) rfl rfl rfl (Nat.le_of_ble_eq_true rfl) (Nat.le_of_ble_eq_true rfl) rfl
set_option maxRecDepth 50000 in
theorem gX2_operand_141 : (∀ (X : tX) (d : Nat) (x0 : Nat) (x1 : Int32) (x2 : Int32) (x3 : Int32) (σ : rS) (Q : tQ), Ex X d mX2_operand 141 [.ref x0, .int x1, .int x2, .int x3] [] σ Q = Ex X d mX2_operand 142 [.ref x0, .int x1, .int x2, .int x3] [.int x3] σ Q) ∧
  (∀ (X : tX) (d : Nat) (x0 : Nat) (x1 : Int32) (x2 : Int32) (x3 : Int32) (s0 : Int32) (σ : rS) (Q : tQ), Ex X d mX2_operand 142 [.ref x0, .int x1, .int x2, .int x3] [.int s0] σ Q = ((s0 = 0 ∨ s0 = 1) ∧ Q (some (.int s0)) σ)) := ⟨fun X d x0 x1 x2 x3 σ Q => ex_P (i := .iload_n 3) (len := 1) (by decide +kernel) rfl,
  fun X d x0 x1 x2 x3 s0 σ Q => q_retZ (by decide +kernel) rfl⟩
set_option maxRecDepth 50000 in
theorem gX2_number_0 : (∀ (X : tX) (d : Nat) (x0 : Nat) (σ : rS) (Q : tQ), Ex X d mX2_number 0 [.ref x0, rU, rU] [] σ Q = Ex X d mX2_number 1 [.ref x0, rU, rU] [.int 0] σ Q) ∧
  (∀ (X : tX) (d : Nat) (x0 : Nat) (s0 : Int32) (σ : rS) (Q : tQ), Ex X d mX2_number 1 [.ref x0, rU, rU] [.int s0] σ Q = Ex X d mX2_number 2 [.ref x0, .int s0, rU] [] σ Q) ∧
  (∀ (X : tX) (d : Nat) (x0 : Nat) (x1 : Int32) (σ : rS) (Q : tQ), Ex X d mX2_number 2 [.ref x0, .int x1, rU] [] σ Q = Ex X d mX2_number 3 [.ref x0, .int x1, rU] [.int 0] σ Q) ∧
  (∀ (X : tX) (d : Nat) (x0 : Nat) (x1 : Int32) (s0 : Int32) (σ : rS) (Q : tQ), Ex X d mX2_number 3 [.ref x0, .int x1, rU] [.int s0] σ Q = Ex X d mX2_number 4 [.ref x0, .int x1, .int s0] [] σ Q) := ⟨fun X d x0 σ Q => ex_P (i := .iconst 0) (len := 1) (by decide +kernel) rfl,
  fun X d x0 s0 σ Q => ex_P (i := .istore_n 1) (len := 1) (by decide +kernel) rfl,
  fun X d x0 x1 σ Q => ex_P (i := .iconst 0) (len := 1) (by decide +kernel) rfl,
  fun X d x0 x1 s0 σ Q => ex_P (i := .istore_n 2) (len := 1) (by decide +kernel) rfl⟩
set_option maxRecDepth 50000 in
theorem gX2_number_4 : (∀ (X : tX) (d : Nat) (x0 : Nat) (x1 : Int32) (x2 : Int32) (σ : rS) (Q : tQ), Ex X d mX2_number 4 [.ref x0, .int x1, .int x2] [] σ Q = Ex X d mX2_number 5 [.ref x0, .int x1, .int x2] [.int x2] σ Q) ∧
  (∀ (X : tX) (d : Nat) (x0 : Nat) (x1 : Int32) (x2 : Int32) (s0 : Int32) (σ : rS) (Q : tQ), Ex X d mX2_number 5 [.ref x0, .int x1, .int x2] [.int s0] σ Q = Ex X d mX2_number 6 [.ref x0, .int x1, .int x2] [.int 4, .int s0] σ Q) ∧
  (∀ (X : tX) (d : Nat) (x0 : Nat) (x1 : Int32) (x2 : Int32) (s0 : Int32) (s1 : Int32) (σ : rS) (Q : tQ), Ex X d mX2_number 6 [.ref x0, .int x1, .int x2] [.int s0, .int s1] σ Q = (if s0 ≤ s1 then Ex X d mX2_number 48 [.ref x0, .int x1, .int x2] [] σ Q else Ex X d mX2_number 9 [.ref x0, .int x1, .int x2] [] σ Q)) := ⟨fun X d x0 x1 x2 σ Q => ex_P (i := .iload_n 2) (len := 1) (by decide +kernel) rfl,
  fun X d x0 x1 x2 s0 σ Q => ex_P (i := .iconst 4) (len := 1) (by decide +kernel) rfl,
  fun X d x0 x1 x2 s0 s1 σ Q => q_icmp_ge (o := 42) (by decide +kernel) rfl⟩
set_option maxRecDepth 50000 in
theorem gX2_number_9 : (∀ (X : tX) (d : Nat) (x0 : Nat) (x1 : Int32) (x2 : Int32) (σ : rS) (Q : tQ), Ex X d mX2_number 9 [.ref x0, .int x1, .int x2] [] σ Q = Ex X d mX2_number 10 [.ref x0, .int x1, .int x2] [.ref x0] σ Q) ∧
  (∀ (X : tX) (d : Nat) (x0 : Nat) (x1 : Int32) (x2 : Int32) (s0 : Nat) (T : tT) (I : tI) (J : tJ) (R : tR) (Q : tQ), Ex X (d + 1) mX2_number 10 [.ref x0, .int x1, .int x2] [.ref s0] (T, I, J, R) Q = (T[s0]? = some (3, 2) ∧ Ex X d mX2_next 0 [.ref s0] [] (T, I, J, R) (fun v σ1 => Ex X (d + 1) mX2_number 13 [.ref x0, .int x1, .int x2] (v.toList ++ []) σ1 Q))) := ⟨fun X d x0 x1 x2 σ Q => ex_P (i := .aload_n 0) (len := 1) (by decide +kernel) rfl,
  fun X d x0 x1 x2 s0 T I J R Q => q_callV (k := 34) (as := []) (st := []) (show rlk mX2_number.2.2.2.2.2.2 10 = some (.invokevirtual 34, 3) from by decide +kernel) rfl rfl rfl (Nat.le_of_ble_eq_true rfl) (Nat.le_of_ble_eq_true rfl) rfl⟩
set_option maxRecDepth 50000 in
theorem gX2_number_13 : (∀ (X : tX) (d : Nat) (x0 : Nat) (x1 : Int32) (x2 : Int32) (s0 : Int32) (σ : rS) (Q : tQ), Ex X (d + 1) mX2_number 13 [.ref x0, .int x1, .int x2] [.int s0] σ Q = Ex X d mX2_isDigit 0 [.int s0] [] σ (fun v σ1 => Ex X (d + 1) mX2_number 16 [.ref x0, .int x1, .int x2] (v.toList ++ []) σ1 Q)) := fun X d x0 x1 x2 s0 σ Q => q_callS (k := 67) (as := [.int s0]) (st := []) (show rlk mX2_number.2.2.2.2.2.2 13 = some (.invokestatic 67, 3) from by decide +kernel) rfl (Or.inl rfl) rfl rfl rfl rfl rfl (Nat.le_of_ble_eq_true rfl) (Nat.le_of_ble_eq_true rfl) rfl
set_option maxRecDepth 50000 in
theorem gX2_number_16 : (∀ (X : tX) (d : Nat) (x0 : Nat) (x1 : Int32) (x2 : Int32) (s0 : Int32) (σ : rS) (Q : tQ), Ex X d mX2_number 16 [.ref x0, .int x1, .int x2] [.int s0] σ Q = (if s0 = 0 then Ex X d mX2_number 48 [.ref x0, .int x1, .int x2] [] σ Q else Ex X d mX2_number 19 [.ref x0, .int x1, .int x2] [] σ Q)) := fun X d x0 x1 x2 s0 σ Q => q_if_eq (o := 32) (by decide +kernel) rfl
set_option maxRecDepth 50000 in
theorem gX2_number_19 : (∀ (X : tX) (d : Nat) (x0 : Nat) (x1 : Int32) (x2 : Int32) (σ : rS) (Q : tQ), Ex X d mX2_number 19 [.ref x0, .int x1, .int x2] [] σ Q = Ex X d mX2_number 21 [.ref x0, .int x1, .int x2] [.int 10] σ Q) ∧
  (∀ (X : tX) (d : Nat) (x0 : Nat) (x1 : Int32) (x2 : Int32) (s0 : Int32) (σ : rS) (Q : tQ), Ex X d mX2_number 21 [.ref x0, .int x1, .int x2] [.int s0] σ Q = Ex X d mX2_number 22 [.ref x0, .int x1, .int x2] [.int x1, .int s0] σ Q) ∧
  (∀ (X : tX) (d : Nat) (x0 : Nat) (x1 : Int32) (x2 : Int32) (s0 : Int32) (s1 : Int32) (σ : rS) (Q : tQ), Ex X d mX2_number 22 [.ref x0, .int x1, .int x2] [.int s0, .int s1] σ Q = Ex X d mX2_number 23 [.ref x0, .int x1, .int x2] [.int (s1 * s0)] σ Q) ∧
  (∀ (X : tX) (d : Nat) (x0 : Nat) (x1 : Int32) (x2 : Int32) (s0 : Int32) (σ : rS) (Q : tQ), Ex X d mX2_number 23 [.ref x0, .int x1, .int x2] [.int s0] σ Q = Ex X d mX2_number 24 [.ref x0, .int x1, .int x2] [.ref x0, .int s0] σ Q) ∧
  (∀ (X : tX) (d : Nat) (x0 : Nat) (x1 : Int32) (x2 : Int32) (s0 : Nat) (s1 : Int32) (T : tT) (I : tI) (J : tJ) (R : tR) (Q : tQ), Ex X (d + 1) mX2_number 24 [.ref x0, .int x1, .int x2] [.ref s0, .int s1] (T, I, J, R) Q = (T[s0]? = some (3, 2) ∧ Ex X d mX2_next 0 [.ref s0] [] (T, I, J, R) (fun v σ1 => Ex X (d + 1) mX2_number 27 [.ref x0, .int x1, .int x2] (v.toList ++ [.int s1]) σ1 Q))) := ⟨fun X d x0 x1 x2 σ Q => ex_P (i := .bipush 10) (len := 2) (by decide +kernel) rfl,
  fun X d x0 x1 x2 s0 σ Q => ex_P (i := .iload_n 1) (len := 1) (by decide +kernel) rfl,
  fun X d x0 x1 x2 s0 s1 σ Q => ex_P (i := .imul) (len := 1) (by decide +kernel) rfl,
  fun X d x0 x1 x2 s0 σ Q => ex_P (i := .aload_n 0) (len := 1) (by decide +kernel) rfl,
  fun X d x0 x1 x2 s0 s1 T I J R Q => q_callV (k := 34) (as := []) (st := [.int s1]) (show rlk mX2_number.2.2.2.2.2.2 24 = some (.invokevirtual 34, 3) from by decide +kernel) rfl rfl rfl (Nat.le_of_ble_eq_true rfl) (Nat.le_of_ble_eq_true rfl) rfl⟩
set_option maxRecDepth 50000 in
theorem gX2_number_27 : (∀ (X : tX) (d : Nat) (x0 : Nat) (x1 : Int32) (x2 : Int32) (s0 : Int32) (s1 : Int32) (σ : rS) (Q : tQ), Ex X d mX2_number 27 [.ref x0, .int x1, .int x2] [.int s0, .int s1] σ Q = Ex X d mX2_number 28 [.ref x0, .int x1, .int x2] [.int (s1 + s0)] σ Q) ∧
  (∀ (X : tX) (d : Nat) (x0 : Nat) (x1 : Int32) (x2 : Int32) (s0 : Int32) (σ : rS) (Q : tQ), Ex X d mX2_number 28 [.ref x0, .int x1, .int x2] [.int s0] σ Q = Ex X d mX2_number 30 [.ref x0, .int x1, .int x2] [.int 48, .int s0] σ Q) ∧
  (∀ (X : tX) (d : Nat) (x0 : Nat) (x1 : Int32) (x2 : Int32) (s0 : Int32) (s1 : Int32) (σ : rS) (Q : tQ), Ex X d mX2_number 30 [.ref x0, .int x1, .int x2] [.int s0, .int s1] σ Q = Ex X d mX2_number 31 [.ref x0, .int x1, .int x2] [.int (s1 - s0)] σ Q) ∧
  (∀ (X : tX) (d : Nat) (x0 : Nat) (x1 : Int32) (x2 : Int32) (s0 : Int32) (σ : rS) (Q : tQ), Ex X d mX2_number 31 [.ref x0, .int x1, .int x2] [.int s0] σ Q = Ex X d mX2_number 32 [.ref x0, .int s0, .int x2] [] σ Q) ∧
  (∀ (X : tX) (d : Nat) (x0 : Nat) (x1 : Int32) (x2 : Int32) (σ : rS) (Q : tQ), Ex X d mX2_number 32 [.ref x0, .int x1, .int x2] [] σ Q = Ex X d mX2_number 33 [.ref x0, .int x1, .int x2] [.ref x0] σ Q) ∧
  (∀ (X : tX) (d : Nat) (x0 : Nat) (x1 : Int32) (x2 : Int32) (s0 : Nat) (σ : rS) (Q : tQ), Ex X d mX2_number 33 [.ref x0, .int x1, .int x2] [.ref s0] σ Q = Ex X d mX2_number 34 [.ref x0, .int x1, .int x2] [.ref s0, .ref s0] σ Q) ∧
  (∀ (X : tX) (d : Nat) (x0 : Nat) (x1 : Int32) (x2 : Int32) (s0 : Nat) (s1 : Nat) (T : tT) (I : tI) (J : tJ) (R : tR) (Q : tQ), Ex X d mX2_number 34 [.ref x0, .int x1, .int x2] [.ref s0, .ref s1] (T, I, J, R) Q = (T[s0]? = some (3, 2) ∧ Ex X d mX2_number 37 [.ref x0, .int x1, .int x2] [.int (I s0 2), .ref s1] (T, I, J, R) Q)) ∧
  (∀ (X : tX) (d : Nat) (x0 : Nat) (x1 : Int32) (x2 : Int32) (s0 : Int32) (s1 : Nat) (σ : rS) (Q : tQ), Ex X d mX2_number 37 [.ref x0, .int x1, .int x2] [.int s0, .ref s1] σ Q = Ex X d mX2_number 38 [.ref x0, .int x1, .int x2] [.int 1, .int s0, .ref s1] σ Q) ∧
  (∀ (X : tX) (d : Nat) (x0 : Nat) (x1 : Int32) (x2 : Int32) (s0 : Int32) (s1 : Int32) (s2 : Nat) (σ : rS) (Q : tQ), Ex X d mX2_number 38 [.ref x0, .int x1, .int x2] [.int s0, .int s1, .ref s2] σ Q = Ex X d mX2_number 39 [.ref x0, .int x1, .int x2] [.int (s1 + s0), .ref s2] σ Q) ∧
  (∀ (X : tX) (d : Nat) (x0 : Nat) (x1 : Int32) (x2 : Int32) (s0 : Int32) (s1 : Nat) (T : tT) (I : tI) (J : tJ) (R : tR) (Q : tQ), Ex X d mX2_number 39 [.ref x0, .int x1, .int x2] [.int s0, .ref s1] (T, I, J, R) Q = (T[s1]? = some (3, 2) ∧ Ex X d mX2_number 42 [.ref x0, .int x1, .int x2] [] (T, va_up I s1 (va_up (I s1) 2 s0), J, R) Q)) ∧
  (∀ (X : tX) (d : Nat) (x0 : Nat) (x1 : Int32) (x2 : Int32) (σ : rS) (Q : tQ), Ex X d mX2_number 42 [.ref x0, .int x1, .int x2] [] σ Q = Ex X d mX2_number 45 [.ref x0, .int x1, .int (x2 + 1)] [] σ Q) ∧
  (∀ (X : tX) (d : Nat) (x0 : Nat) (x1 : Int32) (x2 : Int32) (σ : rS) (Q : tQ), Ex X d mX2_number 45 [.ref x0, .int x1, .int x2] [] σ Q = Ex X d mX2_number 4 [.ref x0, .int x1, .int x2] [] σ Q) := ⟨fun X d x0 x1 x2 s0 s1 σ Q => ex_P (i := .iadd) (len := 1) (by decide +kernel) rfl,
  fun X d x0 x1 x2 s0 σ Q => ex_P (i := .bipush 48) (len := 2) (by decide +kernel) rfl,
  fun X d x0 x1 x2 s0 s1 σ Q => ex_P (i := .isub) (len := 1) (by decide +kernel) rfl,
  fun X d x0 x1 x2 s0 σ Q => ex_P (i := .istore_n 1) (len := 1) (by decide +kernel) rfl,
  fun X d x0 x1 x2 σ Q => ex_P (i := .aload_n 0) (len := 1) (by decide +kernel) rfl,
  fun X d x0 x1 x2 s0 σ Q => ex_P (i := .dup) (len := 1) (by decide +kernel) rfl,
  fun X d x0 x1 x2 s0 s1 T I J R Q => q_getI (k := 27) (by decide +kernel) rfl rfl (by decide),
  fun X d x0 x1 x2 s0 s1 σ Q => ex_P (i := .iconst 1) (len := 1) (by decide +kernel) rfl,
  fun X d x0 x1 x2 s0 s1 s2 σ Q => ex_P (i := .iadd) (len := 1) (by decide +kernel) rfl,
  fun X d x0 x1 x2 s0 s1 T I J R Q => q_putI (k := 27) (by decide +kernel) rfl rfl (by decide +kernel),
  fun X d x0 x1 x2 σ Q => ex_P (i := .iinc 2 1) (len := 3) (by decide +kernel) rfl,
  fun X d x0 x1 x2 σ Q => q_goto (o := (-41)) (by decide +kernel) rfl⟩
set_option maxRecDepth 50000 in
theorem gX2_number_48 : (∀ (X : tX) (d : Nat) (x0 : Nat) (x1 : Int32) (x2 : Int32) (σ : rS) (Q : tQ), Ex X d mX2_number 48 [.ref x0, .int x1, .int x2] [] σ Q = Ex X d mX2_number 49 [.ref x0, .int x1, .int x2] [.ref x0] σ Q) ∧
  (∀ (X : tX) (d : Nat) (x0 : Nat) (x1 : Int32) (x2 : Int32) (s0 : Nat) (T : tT) (I : tI) (J : tJ) (R : tR) (Q : tQ), Ex X d mX2_number 49 [.ref x0, .int x1, .int x2] [.ref s0] (T, I, J, R) Q = (T[s0]? = some (3, 2) ∧ Ex X d mX2_number 52 [.ref x0, .int x1, .int x2] [va_rf (R s0 3)] (T, I, J, R) Q)) ∧
  (∀ (X : tX) (d : Nat) (x0 : Nat) (x1 : Int32) (x2 : Int32) (s0 : Nat) (σ : rS) (Q : tQ), Ex X d mX2_number 52 [.ref x0, .int x1, .int x2] [.ref s0] σ Q = Ex X d mX2_number 53 [.ref x0, .int x1, .int x2] [.int x1, .ref s0] σ Q) ∧
  (∀ (X : tX) (d : Nat) (x0 : Nat) (x1 : Int32) (x2 : Int32) (s0 : Int32) (s1 : Nat) (T : tT) (I : tI) (J : tJ) (R : tR) (Q : tQ), Ex X (d + 1) mX2_number 53 [.ref x0, .int x1, .int x2] [.int s0, .ref s1] (T, I, J, R) Q = (T[s1]? = some (3, 1) ∧ Ex X d mX1_add 0 [.ref s1, .int s0] [] (T, I, J, R) (fun v σ1 => Ex X (d + 1) mX2_number 56 [.ref x0, .int x1, .int x2] (v.toList ++ []) σ1 Q))) := ⟨fun X d x0 x1 x2 σ Q => ex_P (i := .aload_n 0) (len := 1) (by decide +kernel) rfl,
  fun X d x0 x1 x2 s0 T I J R Q => q_getR (k := 16) (by decide +kernel) rfl rfl,
  fun X d x0 x1 x2 s0 σ Q => ex_P (i := .iload_n 1) (len := 1) (by decide +kernel) rfl,
  fun X d x0 x1 x2 s0 s1 T I J R Q => q_callV (k := 48) (as := [.int s0]) (st := []) (show rlk mX2_number.2.2.2.2.2.2 53 = some (.invokevirtual 48, 3) from by decide +kernel) rfl rfl rfl (Nat.le_of_ble_eq_true rfl) (Nat.le_of_ble_eq_true rfl) rfl⟩
set_option maxRecDepth 50000 in
theorem gX2_number_56 : (∀ (X : tX) (d : Nat) (x0 : Nat) (x1 : Int32) (x2 : Int32) (σ : rS) (Q : tQ), Ex X d mX2_number 56 [.ref x0, .int x1, .int x2] [] σ Q = Q none σ) := fun X d x0 x1 x2 σ Q => q_retV (by decide +kernel) rfl
set_option maxRecDepth 50000 in
theorem gX2_isDigit_0 : (∀ (X : tX) (d : Nat) (x0 : Int32) (σ : rS) (Q : tQ), Ex X d mX2_isDigit 0 [.int x0] [] σ Q = Ex X d mX2_isDigit 1 [.int x0] [.int x0] σ Q) ∧
  (∀ (X : tX) (d : Nat) (x0 : Int32) (s0 : Int32) (σ : rS) (Q : tQ), Ex X d mX2_isDigit 1 [.int x0] [.int s0] σ Q = Ex X d mX2_isDigit 3 [.int x0] [.int 48, .int s0] σ Q) ∧
  (∀ (X : tX) (d : Nat) (x0 : Int32) (s0 : Int32) (s1 : Int32) (σ : rS) (Q : tQ), Ex X d mX2_isDigit 3 [.int x0] [.int s0, .int s1] σ Q = (if s1 < s0 then Ex X d mX2_isDigit 16 [.int x0] [] σ Q else Ex X d mX2_isDigit 6 [.int x0] [] σ Q)) := ⟨fun X d x0 σ Q => ex_P (i := .iload_n 0) (len := 1) (by decide +kernel) rfl,
  fun X d x0 s0 σ Q => ex_P (i := .bipush 48) (len := 2) (by decide +kernel) rfl,
  fun X d x0 s0 s1 σ Q => q_icmp_lt (o := 13) (by decide +kernel) rfl⟩
set_option maxRecDepth 50000 in
theorem gX2_isDigit_6 : (∀ (X : tX) (d : Nat) (x0 : Int32) (σ : rS) (Q : tQ), Ex X d mX2_isDigit 6 [.int x0] [] σ Q = Ex X d mX2_isDigit 7 [.int x0] [.int x0] σ Q) ∧
  (∀ (X : tX) (d : Nat) (x0 : Int32) (s0 : Int32) (σ : rS) (Q : tQ), Ex X d mX2_isDigit 7 [.int x0] [.int s0] σ Q = Ex X d mX2_isDigit 9 [.int x0] [.int 57, .int s0] σ Q) ∧
  (∀ (X : tX) (d : Nat) (x0 : Int32) (s0 : Int32) (s1 : Int32) (σ : rS) (Q : tQ), Ex X d mX2_isDigit 9 [.int x0] [.int s0, .int s1] σ Q = (if s0 < s1 then Ex X d mX2_isDigit 16 [.int x0] [] σ Q else Ex X d mX2_isDigit 12 [.int x0] [] σ Q)) := ⟨fun X d x0 σ Q => ex_P (i := .iload_n 0) (len := 1) (by decide +kernel) rfl,
  fun X d x0 s0 σ Q => ex_P (i := .bipush 57) (len := 2) (by decide +kernel) rfl,
  fun X d x0 s0 s1 σ Q => q_icmp_gt (o := 7) (by decide +kernel) rfl⟩
set_option maxRecDepth 50000 in
theorem gX2_isDigit_12 : (∀ (X : tX) (d : Nat) (x0 : Int32) (σ : rS) (Q : tQ), Ex X d mX2_isDigit 12 [.int x0] [] σ Q = Ex X d mX2_isDigit 13 [.int x0] [.int 1] σ Q) ∧
  (∀ (X : tX) (d : Nat) (x0 : Int32) (s0 : Int32) (σ : rS) (Q : tQ), Ex X d mX2_isDigit 13 [.int x0] [.int s0] σ Q = Ex X d mX2_isDigit 17 [.int x0] [.int s0] σ Q) := ⟨fun X d x0 σ Q => ex_P (i := .iconst 1) (len := 1) (by decide +kernel) rfl,
  fun X d x0 s0 σ Q => q_goto (o := 4) (by decide +kernel) rfl⟩
set_option maxRecDepth 50000 in
theorem gX2_isDigit_16 : (∀ (X : tX) (d : Nat) (x0 : Int32) (σ : rS) (Q : tQ), Ex X d mX2_isDigit 16 [.int x0] [] σ Q = Ex X d mX2_isDigit 17 [.int x0] [.int 0] σ Q) := fun X d x0 σ Q => ex_P (i := .iconst 0) (len := 1) (by decide +kernel) rfl
set_option maxRecDepth 50000 in
theorem gX2_isDigit_17 : (∀ (X : tX) (d : Nat) (x0 : Int32) (s0 : Int32) (σ : rS) (Q : tQ), Ex X d mX2_isDigit 17 [.int x0] [.int s0] σ Q = ((s0 = 0 ∨ s0 = 1) ∧ Q (some (.int s0)) σ)) := fun X d x0 s0 σ Q => q_retZ (by decide +kernel) rfl
