set_option maxRecDepth 50000 in
theorem gX0_init_0 : (∀ (X : tX) (d : Nat) (x0 : Nat) (σ : rS) (Q : tQ), Ex X d mX0_init 0 [.ref x0] [] σ Q = Ex X d mX0_init 1 [.ref x0] [.ref x0] σ Q) ∧
  (∀ (X : tX) (d : Nat) (x0 : Nat) (s0 : Nat) (T : tT) (I : tI) (J : tJ) (R : tR) (Q : tQ), Ex X (d + 1) mX0_init 1 [.ref x0] [.ref s0] (T, I, J, R) Q = Ex X (d + 1) mX0_init 4 [.ref x0] [] (T, I, J, R) Q) ∧
  (∀ (X : tX) (d : Nat) (x0 : Nat) (σ : rS) (Q : tQ), Ex X d mX0_init 4 [.ref x0] [] σ Q = Ex X d mX0_init 5 [.ref x0] [.ref x0] σ Q) ∧
  (∀ (X : tX) (d : Nat) (x0 : Nat) (s0 : Nat) (σ : rS) (Q : tQ), Ex X d mX0_init 5 [.ref x0] [.ref s0] σ Q = Ex X d mX0_init 7 [.ref x0] [.int 40, .ref s0] σ Q) ∧
  (∀ (X : tX) (d : Nat) (x0 : Nat) (s0 : Nat) (s1 : Nat) (T : tT) (I : tI) (J : tJ) (R : tR) (Q : tQ), Ex X d mX0_init 9 [.ref x0] [.ref s0, .ref s1] (T, I, J, R) Q = (T[s1]? = some (3, 0) ∧ Ex X d mX0_init 12 [.ref x0] [] (T, I, J, va_up R s1 (va_up (R s1) 0 (some s0))) Q)) ∧
  (∀ (X : tX) (d : Nat) (x0 : Nat) (σ : rS) (Q : tQ), Ex X d mX0_init 12 [.ref x0] [] σ Q = Ex X d mX0_init 13 [.ref x0] [.ref x0] σ Q) ∧
  (∀ (X : tX) (d : Nat) (x0 : Nat) (s0 : Nat) (σ : rS) (Q : tQ), Ex X d mX0_init 13 [.ref x0] [.ref s0] σ Q = Ex X d mX0_init 15 [.ref x0] [.int 40, .ref s0] σ Q) ∧
  (∀ (X : tX) (d : Nat) (x0 : Nat) (s0 : Nat) (s1 : Nat) (T : tT) (I : tI) (J : tJ) (R : tR) (Q : tQ), Ex X d mX0_init 17 [.ref x0] [.ref s0, .ref s1] (T, I, J, R) Q = (T[s1]? = some (3, 0) ∧ Ex X d mX0_init 20 [.ref x0] [] (T, I, J, va_up R s1 (va_up (R s1) 1 (some s0))) Q)) ∧
  (∀ (X : tX) (d : Nat) (x0 : Nat) (σ : rS) (Q : tQ), Ex X d mX0_init 20 [.ref x0] [] σ Q = Ex X d mX0_init 21 [.ref x0] [.ref x0] σ Q) ∧
  (∀ (X : tX) (d : Nat) (x0 : Nat) (s0 : Nat) (σ : rS) (Q : tQ), Ex X d mX0_init 21 [.ref x0] [.ref s0] σ Q = Ex X d mX0_init 23 [.ref x0] [.int 40, .ref s0] σ Q) ∧
  (∀ (X : tX) (d : Nat) (x0 : Nat) (s0 : Nat) (s1 : Nat) (T : tT) (I : tI) (J : tJ) (R : tR) (Q : tQ), Ex X d mX0_init 25 [.ref x0] [.ref s0, .ref s1] (T, I, J, R) Q = (T[s1]? = some (3, 0) ∧ Ex X d mX0_init 28 [.ref x0] [] (T, I, J, va_up R s1 (va_up (R s1) 2 (some s0))) Q)) ∧
  (∀ (X : tX) (d : Nat) (x0 : Nat) (σ : rS) (Q : tQ), Ex X d mX0_init 28 [.ref x0] [] σ Q = Ex X d mX0_init 29 [.ref x0] [.ref x0] σ Q) ∧
  (∀ (X : tX) (d : Nat) (x0 : Nat) (s0 : Nat) (σ : rS) (Q : tQ), Ex X d mX0_init 29 [.ref x0] [.ref s0] σ Q = Ex X d mX0_init 31 [.ref x0] [.int 40, .ref s0] σ Q) ∧
  (∀ (X : tX) (d : Nat) (x0 : Nat) (s0 : Nat) (s1 : Nat) (T : tT) (I : tI) (J : tJ) (R : tR) (Q : tQ), Ex X d mX0_init 33 [.ref x0] [.ref s0, .ref s1] (T, I, J, R) Q = (T[s1]? = some (3, 0) ∧ Ex X d mX0_init 36 [.ref x0] [] (T, I, J, va_up R s1 (va_up (R s1) 3 (some s0))) Q)) ∧
  (∀ (X : tX) (d : Nat) (x0 : Nat) (σ : rS) (Q : tQ), Ex X d mX0_init 36 [.ref x0] [] σ Q = Q none σ) := ⟨fun X d x0 σ Q => ex_P (i := .aload_n 0) (len := 1) (by decide +kernel) rfl,
  fun X d x0 s0 T I J R Q => q_objI (k := 1) (by decide +kernel) rfl (Nat.le_of_ble_eq_true rfl),
  fun X d x0 σ Q => ex_P (i := .aload_n 0) (len := 1) (by decide +kernel) rfl,
  fun X d x0 s0 σ Q => ex_P (i := .bipush 40) (len := 2) (by decide +kernel) rfl,
  fun X d x0 s0 s1 T I J R Q => q_putR (k := 9) (by decide +kernel) rfl rfl (by decide +kernel),
  fun X d x0 σ Q => ex_P (i := .aload_n 0) (len := 1) (by decide +kernel) rfl,
  fun X d x0 s0 σ Q => ex_P (i := .bipush 40) (len := 2) (by decide +kernel) rfl,
  fun X d x0 s0 s1 T I J R Q => q_putR (k := 13) (by decide +kernel) rfl rfl (by decide +kernel),
  fun X d x0 σ Q => ex_P (i := .aload_n 0) (len := 1) (by decide +kernel) rfl,
  fun X d x0 s0 σ Q => ex_P (i := .bipush 40) (len := 2) (by decide +kernel) rfl,
  fun X d x0 s0 s1 T I J R Q => q_putR (k := 16) (by decide +kernel) rfl rfl (by decide +kernel),
  fun X d x0 σ Q => ex_P (i := .aload_n 0) (len := 1) (by decide +kernel) rfl,
  fun X d x0 s0 σ Q => ex_P (i := .bipush 40) (len := 2) (by decide +kernel) rfl,
  fun X d x0 s0 s1 T I J R Q => q_putR (k := 19) (by decide +kernel) rfl rfl (by decide +kernel),
  fun X d x0 σ Q => q_retV (by decide +kernel) rfl⟩
set_option maxRecDepth 50000 in
theorem gX0_add_0 : (∀ (X : tX) (d : Nat) (x0 : Nat) (x1 : Int32) (x2 : Int32) (x3 : Int32) (x4 : Int32) (σ : rS) (Q : tQ), Ex X d mX0_add 0 [.ref x0, .int x1, .int x2, .int x3, .int x4] [] σ Q = Ex X d mX0_add 1 [.ref x0, .int x1, .int x2, .int x3, .int x4] [.ref x0] σ Q) ∧
  (∀ (X : tX) (d : Nat) (x0 : Nat) (x1 : Int32) (x2 : Int32) (x3 : Int32) (x4 : Int32) (s0 : Nat) (T : tT) (I : tI) (J : tJ) (R : tR) (Q : tQ), Ex X d mX0_add 1 [.ref x0, .int x1, .int x2, .int x3, .int x4] [.ref s0] (T, I, J, R) Q = (T[s0]? = some (3, 0) ∧ Ex X d mX0_add 4 [.ref x0, .int x1, .int x2, .int x3, .int x4] [.int (I s0 4)] (T, I, J, R) Q)) ∧
  (∀ (X : tX) (d : Nat) (x0 : Nat) (x1 : Int32) (x2 : Int32) (x3 : Int32) (x4 : Int32) (s0 : Int32) (σ : rS) (Q : tQ), Ex X d mX0_add 4 [.ref x0, .int x1, .int x2, .int x3, .int x4] [.int s0] σ Q = Ex X d mX0_add 6 [.ref x0, .int x1, .int x2, .int x3, .int x4] [.int 40, .int s0] σ Q) ∧
  (∀ (X : tX) (d : Nat) (x0 : Nat) (x1 : Int32) (x2 : Int32) (x3 : Int32) (x4 : Int32) (s0 : Int32) (s1 : Int32) (σ : rS) (Q : tQ), Ex X d mX0_add 6 [.ref x0, .int x1, .int x2, .int x3, .int x4] [.int s0, .int s1] σ Q = (if s1 < s0 then Ex X d mX0_add 13 [.ref x0, .int x1, .int x2, .int x3, .int x4] [] σ Q else Ex X d mX0_add 9 [.ref x0, .int x1, .int x2, .int x3, .int x4] [] σ Q)) := ⟨fun X d x0 x1 x2 x3 x4 σ Q => ex_P (i := .aload_n 0) (len := 1) (by decide +kernel) rfl,
  fun X d x0 x1 x2 x3 x4 s0 T I J R Q => q_getI (k := 22) (by decide +kernel) rfl rfl (by decide),
  fun X d x0 x1 x2 x3 x4 s0 σ Q => ex_P (i := .bipush 40) (len := 2) (by decide +kernel) rfl,
  fun X d x0 x1 x2 x3 x4 s0 s1 σ Q => q_icmp_lt (o := 7) (by decide +kernel) rfl⟩
set_option maxRecDepth 50000 in
theorem gX0_add_9 : (∀ (X : tX) (d : Nat) (x0 : Nat) (x1 : Int32) (x2 : Int32) (x3 : Int32) (x4 : Int32) (σ : rS) (Q : tQ), Ex X d mX0_add 9 [.ref x0, .int x1, .int x2, .int x3, .int x4] [] σ Q = Ex X d mX0_add 10 [.ref x0, .int x1, .int x2, .int x3, .int x4] [.ref x0] σ Q) ∧
  (∀ (X : tX) (d : Nat) (x0 : Nat) (x1 : Int32) (x2 : Int32) (x3 : Int32) (x4 : Int32) (s0 : Nat) (T : tT) (I : tI) (J : tJ) (R : tR) (Q : tQ), Ex X (d + 1) mX0_add 10 [.ref x0, .int x1, .int x2, .int x3, .int x4] [.ref s0] (T, I, J, R) Q = (T[s0]? = some (3, 0) ∧ Ex X d mX0_forgetOldest 0 [.ref s0] [] (T, I, J, R) (fun v σ1 => Ex X (d + 1) mX0_add 13 [.ref x0, .int x1, .int x2, .int x3, .int x4] (v.toList ++ []) σ1 Q))) := ⟨fun X d x0 x1 x2 x3 x4 σ Q => ex_P (i := .aload_n 0) (len := 1) (by decide +kernel) rfl,
  fun X d x0 x1 x2 x3 x4 s0 T I J R Q => q_callV (k := 26) (as := []) (st := []) (show rlk mX0_add.2.2.2.2.2.2 10 = some (.invokevirtual 26, 3) from by decide +kernel) rfl rfl rfl (Nat.le_of_ble_eq_true rfl) (Nat.le_of_ble_eq_true rfl) rfl⟩
set_option maxRecDepth 50000 in
theorem gX0_add_13 : (∀ (X : tX) (d : Nat) (x0 : Nat) (x1 : Int32) (x2 : Int32) (x3 : Int32) (x4 : Int32) (σ : rS) (Q : tQ), Ex X d mX0_add 13 [.ref x0, .int x1, .int x2, .int x3, .int x4] [] σ Q = Ex X d mX0_add 14 [.ref x0, .int x1, .int x2, .int x3, .int x4] [.ref x0] σ Q) ∧
  (∀ (X : tX) (d : Nat) (x0 : Nat) (x1 : Int32) (x2 : Int32) (x3 : Int32) (x4 : Int32) (s0 : Nat) (T : tT) (I : tI) (J : tJ) (R : tR) (Q : tQ), Ex X d mX0_add 14 [.ref x0, .int x1, .int x2, .int x3, .int x4] [.ref s0] (T, I, J, R) Q = (T[s0]? = some (3, 0) ∧ Ex X d mX0_add 17 [.ref x0, .int x1, .int x2, .int x3, .int x4] [va_rf (R s0 0)] (T, I, J, R) Q)) ∧
  (∀ (X : tX) (d : Nat) (x0 : Nat) (x1 : Int32) (x2 : Int32) (x3 : Int32) (x4 : Int32) (s0 : Nat) (σ : rS) (Q : tQ), Ex X d mX0_add 17 [.ref x0, .int x1, .int x2, .int x3, .int x4] [.ref s0] σ Q = Ex X d mX0_add 18 [.ref x0, .int x1, .int x2, .int x3, .int x4] [.ref x0, .ref s0] σ Q) ∧
  (∀ (X : tX) (d : Nat) (x0 : Nat) (x1 : Int32) (x2 : Int32) (x3 : Int32) (x4 : Int32) (s0 : Nat) (s1 : Nat) (T : tT) (I : tI) (J : tJ) (R : tR) (Q : tQ), Ex X d mX0_add 18 [.ref x0, .int x1, .int x2, .int x3, .int x4] [.ref s0, .ref s1] (T, I, J, R) Q = (T[s0]? = some (3, 0) ∧ Ex X d mX0_add 21 [.ref x0, .int x1, .int x2, .int x3, .int x4] [.int (I s0 4), .ref s1] (T, I, J, R) Q)) ∧
  (∀ (X : tX) (d : Nat) (x0 : Nat) (x1 : Int32) (x2 : Int32) (x3 : Int32) (x4 : Int32) (s0 : Int32) (s1 : Nat) (σ : rS) (Q : tQ), Ex X d mX0_add 21 [.ref x0, .int x1, .int x2, .int x3, .int x4] [.int s0, .ref s1] σ Q = Ex X d mX0_add 22 [.ref x0, .int x1, .int x2, .int x3, .int x4] [.int x1, .int s0, .ref s1] σ Q) ∧
  (∀ (X : tX) (d : Nat) (x0 : Nat) (x1 : Int32) (x2 : Int32) (x3 : Int32) (x4 : Int32) (s0 : Int32) (s1 : Int32) (s2 : Nat) (T : tT) (I : tI) (J : tJ) (R : tR) (Q : tQ), Ex X d mX0_add 22 [.ref x0, .int x1, .int x2, .int x3, .int x4] [.int s0, .int s1, .ref s2] (T, I, J, R) Q = (rIn T s2 0 s1 ∧ Ex X d mX0_add 23 [.ref x0, .int x1, .int x2, .int x3, .int x4] [] (T, va_up I s2 (va_up (I s2) s1.toNatClampNeg s0), J, R) Q)) ∧
  (∀ (X : tX) (d : Nat) (x0 : Nat) (x1 : Int32) (x2 : Int32) (x3 : Int32) (x4 : Int32) (σ : rS) (Q : tQ), Ex X d mX0_add 23 [.ref x0, .int x1, .int x2, .int x3, .int x4] [] σ Q = Ex X d mX0_add 24 [.ref x0, .int x1, .int x2, .int x3, .int x4] [.ref x0] σ Q) ∧
  (∀ (X : tX) (d : Nat) (x0 : Nat) (x1 : Int32) (x2 : Int32) (x3 : Int32) (x4 : Int32) (s0 : Nat) (T : tT) (I : tI) (J : tJ) (R : tR) (Q : tQ), Ex X d mX0_add 24 [.ref x0, .int x1, .int x2, .int x3, .int x4] [.ref s0] (T, I, J, R) Q = (T[s0]? = some (3, 0) ∧ Ex X d mX0_add 27 [.ref x0, .int x1, .int x2, .int x3, .int x4] [va_rf (R s0 1)] (T, I, J, R) Q)) ∧
  (∀ (X : tX) (d : Nat) (x0 : Nat) (x1 : Int32) (x2 : Int32) (x3 : Int32) (x4 : Int32) (s0 : Nat) (σ : rS) (Q : tQ), Ex X d mX0_add 27 [.ref x0, .int x1, .int x2, .int x3, .int x4] [.ref s0] σ Q = Ex X d mX0_add 28 [.ref x0, .int x1, .int x2, .int x3, .int x4] [.ref x0, .ref s0] σ Q) ∧
  (∀ (X : tX) (d : Nat) (x0 : Nat) (x1 : Int32) (x2 : Int32) (x3 : Int32) (x4 : Int32) (s0 : Nat) (s1 : Nat) (T : tT) (I : tI) (J : tJ) (R : tR) (Q : tQ), Ex X d mX0_add 28 [.ref x0, .int x1, .int x2, .int x3, .int x4] [.ref s0, .ref s1] (T, I, J, R) Q = (T[s0]? = some (3, 0) ∧ Ex X d mX0_add 31 [.ref x0, .int x1, .int x2, .int x3, .int x4] [.int (I s0 4), .ref s1] (T, I, J, R) Q)) ∧
  (∀ (X : tX) (d : Nat) (x0 : Nat) (x1 : Int32) (x2 : Int32) (x3 : Int32) (x4 : Int32) (s0 : Int32) (s1 : Nat) (σ : rS) (Q : tQ), Ex X d mX0_add 31 [.ref x0, .int x1, .int x2, .int x3, .int x4] [.int s0, .ref s1] σ Q = Ex X d mX0_add 32 [.ref x0, .int x1, .int x2, .int x3, .int x4] [.int x2, .int s0, .ref s1] σ Q) ∧
  (∀ (X : tX) (d : Nat) (x0 : Nat) (x1 : Int32) (x2 : Int32) (x3 : Int32) (x4 : Int32) (s0 : Int32) (s1 : Int32) (s2 : Nat) (T : tT) (I : tI) (J : tJ) (R : tR) (Q : tQ), Ex X d mX0_add 32 [.ref x0, .int x1, .int x2, .int x3, .int x4] [.int s0, .int s1, .ref s2] (T, I, J, R) Q = (rIn T s2 0 s1 ∧ Ex X d mX0_add 33 [.ref x0, .int x1, .int x2, .int x3, .int x4] [] (T, va_up I s2 (va_up (I s2) s1.toNatClampNeg s0), J, R) Q)) ∧
  (∀ (X : tX) (d : Nat) (x0 : Nat) (x1 : Int32) (x2 : Int32) (x3 : Int32) (x4 : Int32) (σ : rS) (Q : tQ), Ex X d mX0_add 33 [.ref x0, .int x1, .int x2, .int x3, .int x4] [] σ Q = Ex X d mX0_add 34 [.ref x0, .int x1, .int x2, .int x3, .int x4] [.ref x0] σ Q) ∧
  (∀ (X : tX) (d : Nat) (x0 : Nat) (x1 : Int32) (x2 : Int32) (x3 : Int32) (x4 : Int32) (s0 : Nat) (T : tT) (I : tI) (J : tJ) (R : tR) (Q : tQ), Ex X d mX0_add 34 [.ref x0, .int x1, .int x2, .int x3, .int x4] [.ref s0] (T, I, J, R) Q = (T[s0]? = some (3, 0) ∧ Ex X d mX0_add 37 [.ref x0, .int x1, .int x2, .int x3, .int x4] [va_rf (R s0 2)] (T, I, J, R) Q)) ∧
  (∀ (X : tX) (d : Nat) (x0 : Nat) (x1 : Int32) (x2 : Int32) (x3 : Int32) (x4 : Int32) (s0 : Nat) (σ : rS) (Q : tQ), Ex X d mX0_add 37 [.ref x0, .int x1, .int x2, .int x3, .int x4] [.ref s0] σ Q = Ex X d mX0_add 38 [.ref x0, .int x1, .int x2, .int x3, .int x4] [.ref x0, .ref s0] σ Q) ∧
  (∀ (X : tX) (d : Nat) (x0 : Nat) (x1 : Int32) (x2 : Int32) (x3 : Int32) (x4 : Int32) (s0 : Nat) (s1 : Nat) (T : tT) (I : tI) (J : tJ) (R : tR) (Q : tQ), Ex X d mX0_add 38 [.ref x0, .int x1, .int x2, .int x3, .int x4] [.ref s0, .ref s1] (T, I, J, R) Q = (T[s0]? = some (3, 0) ∧ Ex X d mX0_add 41 [.ref x0, .int x1, .int x2, .int x3, .int x4] [.int (I s0 4), .ref s1] (T, I, J, R) Q)) ∧
  (∀ (X : tX) (d : Nat) (x0 : Nat) (x1 : Int32) (x2 : Int32) (x3 : Int32) (x4 : Int32) (s0 : Int32) (s1 : Nat) (σ : rS) (Q : tQ), Ex X d mX0_add 41 [.ref x0, .int x1, .int x2, .int x3, .int x4] [.int s0, .ref s1] σ Q = Ex X d mX0_add 42 [.ref x0, .int x1, .int x2, .int x3, .int x4] [.int x3, .int s0, .ref s1] σ Q) ∧
  (∀ (X : tX) (d : Nat) (x0 : Nat) (x1 : Int32) (x2 : Int32) (x3 : Int32) (x4 : Int32) (s0 : Int32) (s1 : Int32) (s2 : Nat) (T : tT) (I : tI) (J : tJ) (R : tR) (Q : tQ), Ex X d mX0_add 42 [.ref x0, .int x1, .int x2, .int x3, .int x4] [.int s0, .int s1, .ref s2] (T, I, J, R) Q = (rIn T s2 0 s1 ∧ Ex X d mX0_add 43 [.ref x0, .int x1, .int x2, .int x3, .int x4] [] (T, va_up I s2 (va_up (I s2) s1.toNatClampNeg s0), J, R) Q)) ∧
  (∀ (X : tX) (d : Nat) (x0 : Nat) (x1 : Int32) (x2 : Int32) (x3 : Int32) (x4 : Int32) (σ : rS) (Q : tQ), Ex X d mX0_add 43 [.ref x0, .int x1, .int x2, .int x3, .int x4] [] σ Q = Ex X d mX0_add 44 [.ref x0, .int x1, .int x2, .int x3, .int x4] [.ref x0] σ Q) ∧
  (∀ (X : tX) (d : Nat) (x0 : Nat) (x1 : Int32) (x2 : Int32) (x3 : Int32) (x4 : Int32) (s0 : Nat) (T : tT) (I : tI) (J : tJ) (R : tR) (Q : tQ), Ex X d mX0_add 44 [.ref x0, .int x1, .int x2, .int x3, .int x4] [.ref s0] (T, I, J, R) Q = (T[s0]? = some (3, 0) ∧ Ex X d mX0_add 47 [.ref x0, .int x1, .int x2, .int x3, .int x4] [va_rf (R s0 3)] (T, I, J, R) Q)) ∧
  (∀ (X : tX) (d : Nat) (x0 : Nat) (x1 : Int32) (x2 : Int32) (x3 : Int32) (x4 : Int32) (s0 : Nat) (σ : rS) (Q : tQ), Ex X d mX0_add 47 [.ref x0, .int x1, .int x2, .int x3, .int x4] [.ref s0] σ Q = Ex X d mX0_add 48 [.ref x0, .int x1, .int x2, .int x3, .int x4] [.ref x0, .ref s0] σ Q) ∧
  (∀ (X : tX) (d : Nat) (x0 : Nat) (x1 : Int32) (x2 : Int32) (x3 : Int32) (x4 : Int32) (s0 : Nat) (s1 : Nat) (T : tT) (I : tI) (J : tJ) (R : tR) (Q : tQ), Ex X d mX0_add 48 [.ref x0, .int x1, .int x2, .int x3, .int x4] [.ref s0, .ref s1] (T, I, J, R) Q = (T[s0]? = some (3, 0) ∧ Ex X d mX0_add 51 [.ref x0, .int x1, .int x2, .int x3, .int x4] [.int (I s0 4), .ref s1] (T, I, J, R) Q)) ∧
  (∀ (X : tX) (d : Nat) (x0 : Nat) (x1 : Int32) (x2 : Int32) (x3 : Int32) (x4 : Int32) (s0 : Int32) (s1 : Nat) (σ : rS) (Q : tQ), Ex X d mX0_add 51 [.ref x0, .int x1, .int x2, .int x3, .int x4] [.int s0, .ref s1] σ Q = Ex X d mX0_add 53 [.ref x0, .int x1, .int x2, .int x3, .int x4] [.int x4, .int s0, .ref s1] σ Q) ∧
  (∀ (X : tX) (d : Nat) (x0 : Nat) (x1 : Int32) (x2 : Int32) (x3 : Int32) (x4 : Int32) (s0 : Int32) (s1 : Int32) (s2 : Nat) (T : tT) (I : tI) (J : tJ) (R : tR) (Q : tQ), Ex X d mX0_add 53 [.ref x0, .int x1, .int x2, .int x3, .int x4] [.int s0, .int s1, .ref s2] (T, I, J, R) Q = (rIn T s2 0 s1 ∧ Ex X d mX0_add 54 [.ref x0, .int x1, .int x2, .int x3, .int x4] [] (T, va_up I s2 (va_up (I s2) s1.toNatClampNeg s0), J, R) Q)) ∧
  (∀ (X : tX) (d : Nat) (x0 : Nat) (x1 : Int32) (x2 : Int32) (x3 : Int32) (x4 : Int32) (σ : rS) (Q : tQ), Ex X d mX0_add 54 [.ref x0, .int x1, .int x2, .int x3, .int x4] [] σ Q = Ex X d mX0_add 55 [.ref x0, .int x1, .int x2, .int x3, .int x4] [.ref x0] σ Q) ∧
  (∀ (X : tX) (d : Nat) (x0 : Nat) (x1 : Int32) (x2 : Int32) (x3 : Int32) (x4 : Int32) (s0 : Nat) (σ : rS) (Q : tQ), Ex X d mX0_add 55 [.ref x0, .int x1, .int x2, .int x3, .int x4] [.ref s0] σ Q = Ex X d mX0_add 56 [.ref x0, .int x1, .int x2, .int x3, .int x4] [.ref s0, .ref s0] σ Q) ∧
  (∀ (X : tX) (d : Nat) (x0 : Nat) (x1 : Int32) (x2 : Int32) (x3 : Int32) (x4 : Int32) (s0 : Nat) (s1 : Nat) (T : tT) (I : tI) (J : tJ) (R : tR) (Q : tQ), Ex X d mX0_add 56 [.ref x0, .int x1, .int x2, .int x3, .int x4] [.ref s0, .ref s1] (T, I, J, R) Q = (T[s0]? = some (3, 0) ∧ Ex X d mX0_add 59 [.ref x0, .int x1, .int x2, .int x3, .int x4] [.int (I s0 4), .ref s1] (T, I, J, R) Q)) ∧
  (∀ (X : tX) (d : Nat) (x0 : Nat) (x1 : Int32) (x2 : Int32) (x3 : Int32) (x4 : Int32) (s0 : Int32) (s1 : Nat) (σ : rS) (Q : tQ), Ex X d mX0_add 59 [.ref x0, .int x1, .int x2, .int x3, .int x4] [.int s0, .ref s1] σ Q = Ex X d mX0_add 60 [.ref x0, .int x1, .int x2, .int x3, .int x4] [.int 1, .int s0, .ref s1] σ Q) ∧
  (∀ (X : tX) (d : Nat) (x0 : Nat) (x1 : Int32) (x2 : Int32) (x3 : Int32) (x4 : Int32) (s0 : Int32) (s1 : Int32) (s2 : Nat) (σ : rS) (Q : tQ), Ex X d mX0_add 60 [.ref x0, .int x1, .int x2, .int x3, .int x4] [.int s0, .int s1, .ref s2] σ Q = Ex X d mX0_add 61 [.ref x0, .int x1, .int x2, .int x3, .int x4] [.int (s1 + s0), .ref s2] σ Q) ∧
  (∀ (X : tX) (d : Nat) (x0 : Nat) (x1 : Int32) (x2 : Int32) (x3 : Int32) (x4 : Int32) (s0 : Int32) (s1 : Nat) (T : tT) (I : tI) (J : tJ) (R : tR) (Q : tQ), Ex X d mX0_add 61 [.ref x0, .int x1, .int x2, .int x3, .int x4] [.int s0, .ref s1] (T, I, J, R) Q = (T[s1]? = some (3, 0) ∧ Ex X d mX0_add 64 [.ref x0, .int x1, .int x2, .int x3, .int x4] [] (T, va_up I s1 (va_up (I s1) 4 s0), J, R) Q)) ∧
  (∀ (X : tX) (d : Nat) (x0 : Nat) (x1 : Int32) (x2 : Int32) (x3 : Int32) (x4 : Int32) (σ : rS) (Q : tQ), Ex X d mX0_add 64 [.ref x0, .int x1, .int x2, .int x3, .int x4] [] σ Q = Ex X d mX0_add 65 [.ref x0, .int x1, .int x2, .int x3, .int x4] [.ref x0] σ Q) ∧
  (∀ (X : tX) (d : Nat) (x0 : Nat) (x1 : Int32) (x2 : Int32) (x3 : Int32) (x4 : Int32) (s0 : Nat) (σ : rS) (Q : tQ), Ex X d mX0_add 65 [.ref x0, .int x1, .int x2, .int x3, .int x4] [.ref s0] σ Q = Ex X d mX0_add 66 [.ref x0, .int x1, .int x2, .int x3, .int x4] [.ref x0, .ref s0] σ Q) ∧
  (∀ (X : tX) (d : Nat) (x0 : Nat) (x1 : Int32) (x2 : Int32) (x3 : Int32) (x4 : Int32) (s0 : Nat) (s1 : Nat) (T : tT) (I : tI) (J : tJ) (R : tR) (Q : tQ), Ex X d mX0_add 66 [.ref x0, .int x1, .int x2, .int x3, .int x4] [.ref s0, .ref s1] (T, I, J, R) Q = (T[s0]? = some (3, 0) ∧ Ex X d mX0_add 69 [.ref x0, .int x1, .int x2, .int x3, .int x4] [.int (I s0 4), .ref s1] (T, I, J, R) Q)) ∧
  (∀ (X : tX) (d : Nat) (x0 : Nat) (x1 : Int32) (x2 : Int32) (x3 : Int32) (x4 : Int32) (s0 : Int32) (s1 : Nat) (T : tT) (I : tI) (J : tJ) (R : tR) (Q : tQ), Ex X d mX0_add 69 [.ref x0, .int x1, .int x2, .int x3, .int x4] [.int s0, .ref s1] (T, I, J, R) Q = (T[s1]? = some (3, 0) ∧ Ex X d mX0_add 72 [.ref x0, .int x1, .int x2, .int x3, .int x4] [] (T, va_up I s1 (va_up (I s1) 5 s0), J, R) Q)) ∧
  (∀ (X : tX) (d : Nat) (x0 : Nat) (x1 : Int32) (x2 : Int32) (x3 : Int32) (x4 : Int32) (σ : rS) (Q : tQ), Ex X d mX0_add 72 [.ref x0, .int x1, .int x2, .int x3, .int x4] [] σ Q = Q none σ) := ⟨fun X d x0 x1 x2 x3 x4 σ Q => ex_P (i := .aload_n 0) (len := 1) (by decide +kernel) rfl,
  fun X d x0 x1 x2 x3 x4 s0 T I J R Q => q_getR (k := 9) (by decide +kernel) rfl rfl,
  fun X d x0 x1 x2 x3 x4 s0 σ Q => ex_P (i := .aload_n 0) (len := 1) (by decide +kernel) rfl,
  fun X d x0 x1 x2 x3 x4 s0 s1 T I J R Q => q_getI (k := 22) (by decide +kernel) rfl rfl (by decide),
  fun X d x0 x1 x2 x3 x4 s0 s1 σ Q => ex_P (i := .iload_n 1) (len := 1) (by decide +kernel) rfl,
  fun X d x0 x1 x2 x3 x4 s0 s1 s2 T I J R Q => q_iast (by decide +kernel),
  fun X d x0 x1 x2 x3 x4 σ Q => ex_P (i := .aload_n 0) (len := 1) (by decide +kernel) rfl,
  fun X d x0 x1 x2 x3 x4 s0 T I J R Q => q_getR (k := 13) (by decide +kernel) rfl rfl,
  fun X d x0 x1 x2 x3 x4 s0 σ Q => ex_P (i := .aload_n 0) (len := 1) (by decide +kernel) rfl,
  fun X d x0 x1 x2 x3 x4 s0 s1 T I J R Q => q_getI (k := 22) (by decide +kernel) rfl rfl (by decide),
  fun X d x0 x1 x2 x3 x4 s0 s1 σ Q => ex_P (i := .iload_n 2) (len := 1) (by decide +kernel) rfl,
  fun X d x0 x1 x2 x3 x4 s0 s1 s2 T I J R Q => q_iast (by decide +kernel),
  fun X d x0 x1 x2 x3 x4 σ Q => ex_P (i := .aload_n 0) (len := 1) (by decide +kernel) rfl,
  fun X d x0 x1 x2 x3 x4 s0 T I J R Q => q_getR (k := 16) (by decide +kernel) rfl rfl,
  fun X d x0 x1 x2 x3 x4 s0 σ Q => ex_P (i := .aload_n 0) (len := 1) (by decide +kernel) rfl,
  fun X d x0 x1 x2 x3 x4 s0 s1 T I J R Q => q_getI (k := 22) (by decide +kernel) rfl rfl (by decide),
  fun X d x0 x1 x2 x3 x4 s0 s1 σ Q => ex_P (i := .iload_n 3) (len := 1) (by decide +kernel) rfl,
  fun X d x0 x1 x2 x3 x4 s0 s1 s2 T I J R Q => q_iast (by decide +kernel),
  fun X d x0 x1 x2 x3 x4 σ Q => ex_P (i := .aload_n 0) (len := 1) (by decide +kernel) rfl,
  fun X d x0 x1 x2 x3 x4 s0 T I J R Q => q_getR (k := 19) (by decide +kernel) rfl rfl,
  fun X d x0 x1 x2 x3 x4 s0 σ Q => ex_P (i := .aload_n 0) (len := 1) (by decide +kernel) rfl,
  fun X d x0 x1 x2 x3 x4 s0 s1 T I J R Q => q_getI (k := 22) (by decide +kernel) rfl rfl (by decide),
  fun X d x0 x1 x2 x3 x4 s0 s1 σ Q => ex_P (i := .iload 4) (len := 2) (by decide +kernel) rfl,
  fun X d x0 x1 x2 x3 x4 s0 s1 s2 T I J R Q => q_iast (by decide +kernel),
  fun X d x0 x1 x2 x3 x4 σ Q => ex_P (i := .aload_n 0) (len := 1) (by decide +kernel) rfl,
  fun X d x0 x1 x2 x3 x4 s0 σ Q => ex_P (i := .dup) (len := 1) (by decide +kernel) rfl,
  fun X d x0 x1 x2 x3 x4 s0 s1 T I J R Q => q_getI (k := 22) (by decide +kernel) rfl rfl (by decide),
  fun X d x0 x1 x2 x3 x4 s0 s1 σ Q => ex_P (i := .iconst 1) (len := 1) (by decide +kernel) rfl,
  fun X d x0 x1 x2 x3 x4 s0 s1 s2 σ Q => ex_P (i := .iadd) (len := 1) (by decide +kernel) rfl,
  fun X d x0 x1 x2 x3 x4 s0 s1 T I J R Q => q_putI (k := 22) (by decide +kernel) rfl rfl (by decide +kernel),
  fun X d x0 x1 x2 x3 x4 σ Q => ex_P (i := .aload_n 0) (len := 1) (by decide +kernel) rfl,
  fun X d x0 x1 x2 x3 x4 s0 σ Q => ex_P (i := .aload_n 0) (len := 1) (by decide +kernel) rfl,
  fun X d x0 x1 x2 x3 x4 s0 s1 T I J R Q => q_getI (k := 22) (by decide +kernel) rfl rfl (by decide),
  fun X d x0 x1 x2 x3 x4 s0 s1 T I J R Q => q_putI (k := 29) (by decide +kernel) rfl rfl (by decide +kernel),
  fun X d x0 x1 x2 x3 x4 σ Q => q_retV (by decide +kernel) rfl⟩
set_option maxRecDepth 50000 in
theorem gX0_forgetOldest_0 : (∀ (X : tX) (d : Nat) (x0 : Nat) (σ : rS) (Q : tQ), Ex X d mX0_forgetOldest 0 [.ref x0] [] σ Q = Ex X d mX0_forgetOldest 1 [.ref x0] [.ref x0] σ Q) ∧
  (∀ (X : tX) (d : Nat) (x0 : Nat) (s0 : Nat) (T : tT) (I : tI) (J : tJ) (R : tR) (Q : tQ), Ex X d mX0_forgetOldest 1 [.ref x0] [.ref s0] (T, I, J, R) Q = (T[s0]? = some (3, 0) ∧ Ex X d mX0_forgetOldest 4 [.ref x0] [va_rf (R s0 0)] (T, I, J, R) Q)) ∧
  (∀ (X : tX) (d : Nat) (x0 : Nat) (s0 : Nat) (σ : rS) (Q : tQ), Ex X d mX0_forgetOldest 4 [.ref x0] [.ref s0] σ Q = Ex X d mX0_forgetOldest 5 [.ref x0] [.int 1, .ref s0] σ Q) ∧
  (∀ (X : tX) (d : Nat) (x0 : Nat) (s0 : Int32) (s1 : Nat) (σ : rS) (Q : tQ), Ex X d mX0_forgetOldest 5 [.ref x0] [.int s0, .ref s1] σ Q = Ex X d mX0_forgetOldest 6 [.ref x0] [.ref x0, .int s0, .ref s1] σ Q) ∧
  (∀ (X : tX) (d : Nat) (x0 : Nat) (s0 : Nat) (s1 : Int32) (s2 : Nat) (T : tT) (I : tI) (J : tJ) (R : tR) (Q : tQ), Ex X d mX0_forgetOldest 6 [.ref x0] [.ref s0, .int s1, .ref s2] (T, I, J, R) Q = (T[s0]? = some (3, 0) ∧ Ex X d mX0_forgetOldest 9 [.ref x0] [va_rf (R s0 0), .int s1, .ref s2] (T, I, J, R) Q)) ∧
  (∀ (X : tX) (d : Nat) (x0 : Nat) (s0 : Nat) (s1 : Int32) (s2 : Nat) (σ : rS) (Q : tQ), Ex X d mX0_forgetOldest 9 [.ref x0] [.ref s0, .int s1, .ref s2] σ Q = Ex X d mX0_forgetOldest 10 [.ref x0] [.int 0, .ref s0, .int s1, .ref s2] σ Q) ∧
  (∀ (X : tX) (d : Nat) (x0 : Nat) (s0 : Int32) (s1 : Nat) (s2 : Int32) (s3 : Nat) (σ : rS) (Q : tQ), Ex X d mX0_forgetOldest 10 [.ref x0] [.int s0, .ref s1, .int s2, .ref s3] σ Q = Ex X d mX0_forgetOldest 12 [.ref x0] [.int 39, .int s0, .ref s1, .int s2, .ref s3] σ Q) ∧
  (∀ (X : tX) (d : Nat) (x0 : Nat) (σ : rS) (Q : tQ), Ex X d mX0_forgetOldest 15 [.ref x0] [] σ Q = Ex X d mX0_forgetOldest 16 [.ref x0] [.ref x0] σ Q) ∧
  (∀ (X : tX) (d : Nat) (x0 : Nat) (s0 : Nat) (T : tT) (I : tI) (J : tJ) (R : tR) (Q : tQ), Ex X d mX0_forgetOldest 16 [.ref x0] [.ref s0] (T, I, J, R) Q = (T[s0]? = some (3, 0) ∧ Ex X d mX0_forgetOldest 19 [.ref x0] [va_rf (R s0 1)] (T, I, J, R) Q)) ∧
  (∀ (X : tX) (d : Nat) (x0 : Nat) (s0 : Nat) (σ : rS) (Q : tQ), Ex X d mX0_forgetOldest 19 [.ref x0] [.ref s0] σ Q = Ex X d mX0_forgetOldest 20 [.ref x0] [.int 1, .ref s0] σ Q) ∧
  (∀ (X : tX) (d : Nat) (x0 : Nat) (s0 : Int32) (s1 : Nat) (σ : rS) (Q : tQ), Ex X d mX0_forgetOldest 20 [.ref x0] [.int s0, .ref s1] σ Q = Ex X d mX0_forgetOldest 21 [.ref x0] [.ref x0, .int s0, .ref s1] σ Q) ∧
  (∀ (X : tX) (d : Nat) (x0 : Nat) (s0 : Nat) (s1 : Int32) (s2 : Nat) (T : tT) (I : tI) (J : tJ) (R : tR) (Q : tQ), Ex X d mX0_forgetOldest 21 [.ref x0] [.ref s0, .int s1, .ref s2] (T, I, J, R) Q = (T[s0]? = some (3, 0) ∧ Ex X d mX0_forgetOldest 24 [.ref x0] [va_rf (R s0 1), .int s1, .ref s2] (T, I, J, R) Q)) ∧
  (∀ (X : tX) (d : Nat) (x0 : Nat) (s0 : Nat) (s1 : Int32) (s2 : Nat) (σ : rS) (Q : tQ), Ex X d mX0_forgetOldest 24 [.ref x0] [.ref s0, .int s1, .ref s2] σ Q = Ex X d mX0_forgetOldest 25 [.ref x0] [.int 0, .ref s0, .int s1, .ref s2] σ Q) ∧
  (∀ (X : tX) (d : Nat) (x0 : Nat) (s0 : Int32) (s1 : Nat) (s2 : Int32) (s3 : Nat) (σ : rS) (Q : tQ), Ex X d mX0_forgetOldest 25 [.ref x0] [.int s0, .ref s1, .int s2, .ref s3] σ Q = Ex X d mX0_forgetOldest 27 [.ref x0] [.int 39, .int s0, .ref s1, .int s2, .ref s3] σ Q) ∧
  (∀ (X : tX) (d : Nat) (x0 : Nat) (σ : rS) (Q : tQ), Ex X d mX0_forgetOldest 30 [.ref x0] [] σ Q = Ex X d mX0_forgetOldest 31 [.ref x0] [.ref x0] σ Q) ∧
  (∀ (X : tX) (d : Nat) (x0 : Nat) (s0 : Nat) (T : tT) (I : tI) (J : tJ) (R : tR) (Q : tQ), Ex X d mX0_forgetOldest 31 [.ref x0] [.ref s0] (T, I, J, R) Q = (T[s0]? = some (3, 0) ∧ Ex X d mX0_forgetOldest 34 [.ref x0] [va_rf (R s0 2)] (T, I, J, R) Q)) ∧
  (∀ (X : tX) (d : Nat) (x0 : Nat) (s0 : Nat) (σ : rS) (Q : tQ), Ex X d mX0_forgetOldest 34 [.ref x0] [.ref s0] σ Q = Ex X d mX0_forgetOldest 35 [.ref x0] [.int 1, .ref s0] σ Q) ∧
  (∀ (X : tX) (d : Nat) (x0 : Nat) (s0 : Int32) (s1 : Nat) (σ : rS) (Q : tQ), Ex X d mX0_forgetOldest 35 [.ref x0] [.int s0, .ref s1] σ Q = Ex X d mX0_forgetOldest 36 [.ref x0] [.ref x0, .int s0, .ref s1] σ Q) ∧
  (∀ (X : tX) (d : Nat) (x0 : Nat) (s0 : Nat) (s1 : Int32) (s2 : Nat) (T : tT) (I : tI) (J : tJ) (R : tR) (Q : tQ), Ex X d mX0_forgetOldest 36 [.ref x0] [.ref s0, .int s1, .ref s2] (T, I, J, R) Q = (T[s0]? = some (3, 0) ∧ Ex X d mX0_forgetOldest 39 [.ref x0] [va_rf (R s0 2), .int s1, .ref s2] (T, I, J, R) Q)) ∧
  (∀ (X : tX) (d : Nat) (x0 : Nat) (s0 : Nat) (s1 : Int32) (s2 : Nat) (σ : rS) (Q : tQ), Ex X d mX0_forgetOldest 39 [.ref x0] [.ref s0, .int s1, .ref s2] σ Q = Ex X d mX0_forgetOldest 40 [.ref x0] [.int 0, .ref s0, .int s1, .ref s2] σ Q) ∧
  (∀ (X : tX) (d : Nat) (x0 : Nat) (s0 : Int32) (s1 : Nat) (s2 : Int32) (s3 : Nat) (σ : rS) (Q : tQ), Ex X d mX0_forgetOldest 40 [.ref x0] [.int s0, .ref s1, .int s2, .ref s3] σ Q = Ex X d mX0_forgetOldest 42 [.ref x0] [.int 39, .int s0, .ref s1, .int s2, .ref s3] σ Q) ∧
  (∀ (X : tX) (d : Nat) (x0 : Nat) (σ : rS) (Q : tQ), Ex X d mX0_forgetOldest 45 [.ref x0] [] σ Q = Ex X d mX0_forgetOldest 46 [.ref x0] [.ref x0] σ Q) ∧
  (∀ (X : tX) (d : Nat) (x0 : Nat) (s0 : Nat) (T : tT) (I : tI) (J : tJ) (R : tR) (Q : tQ), Ex X d mX0_forgetOldest 46 [.ref x0] [.ref s0] (T, I, J, R) Q = (T[s0]? = some (3, 0) ∧ Ex X d mX0_forgetOldest 49 [.ref x0] [va_rf (R s0 3)] (T, I, J, R) Q)) ∧
  (∀ (X : tX) (d : Nat) (x0 : Nat) (s0 : Nat) (σ : rS) (Q : tQ), Ex X d mX0_forgetOldest 49 [.ref x0] [.ref s0] σ Q = Ex X d mX0_forgetOldest 50 [.ref x0] [.int 1, .ref s0] σ Q) ∧
  (∀ (X : tX) (d : Nat) (x0 : Nat) (s0 : Int32) (s1 : Nat) (σ : rS) (Q : tQ), Ex X d mX0_forgetOldest 50 [.ref x0] [.int s0, .ref s1] σ Q = Ex X d mX0_forgetOldest 51 [.ref x0] [.ref x0, .int s0, .ref s1] σ Q) ∧
  (∀ (X : tX) (d : Nat) (x0 : Nat) (s0 : Nat) (s1 : Int32) (s2 : Nat) (T : tT) (I : tI) (J : tJ) (R : tR) (Q : tQ), Ex X d mX0_forgetOldest 51 [.ref x0] [.ref s0, .int s1, .ref s2] (T, I, J, R) Q = (T[s0]? = some (3, 0) ∧ Ex X d mX0_forgetOldest 54 [.ref x0] [va_rf (R s0 3), .int s1, .ref s2] (T, I, J, R) Q)) ∧
  (∀ (X : tX) (d : Nat) (x0 : Nat) (s0 : Nat) (s1 : Int32) (s2 : Nat) (σ : rS) (Q : tQ), Ex X d mX0_forgetOldest 54 [.ref x0] [.ref s0, .int s1, .ref s2] σ Q = Ex X d mX0_forgetOldest 55 [.ref x0] [.int 0, .ref s0, .int s1, .ref s2] σ Q) ∧
  (∀ (X : tX) (d : Nat) (x0 : Nat) (s0 : Int32) (s1 : Nat) (s2 : Int32) (s3 : Nat) (σ : rS) (Q : tQ), Ex X d mX0_forgetOldest 55 [.ref x0] [.int s0, .ref s1, .int s2, .ref s3] σ Q = Ex X d mX0_forgetOldest 57 [.ref x0] [.int 39, .int s0, .ref s1, .int s2, .ref s3] σ Q) ∧
  (∀ (X : tX) (d : Nat) (x0 : Nat) (σ : rS) (Q : tQ), Ex X d mX0_forgetOldest 60 [.ref x0] [] σ Q = Ex X d mX0_forgetOldest 61 [.ref x0] [.ref x0] σ Q) ∧
  (∀ (X : tX) (d : Nat) (x0 : Nat) (s0 : Nat) (σ : rS) (Q : tQ), Ex X d mX0_forgetOldest 61 [.ref x0] [.ref s0] σ Q = Ex X d mX0_forgetOldest 63 [.ref x0] [.int 39, .ref s0] σ Q) ∧
  (∀ (X : tX) (d : Nat) (x0 : Nat) (s0 : Int32) (s1 : Nat) (T : tT) (I : tI) (J : tJ) (R : tR) (Q : tQ), Ex X d mX0_forgetOldest 63 [.ref x0] [.int s0, .ref s1] (T, I, J, R) Q = (T[s1]? = some (3, 0) ∧ Ex X d mX0_forgetOldest 66 [.ref x0] [] (T, va_up I s1 (va_up (I s1) 4 s0), J, R) Q)) ∧
  (∀ (X : tX) (d : Nat) (x0 : Nat) (σ : rS) (Q : tQ), Ex X d mX0_forgetOldest 66 [.ref x0] [] σ Q = Q none σ) := ⟨fun X d x0 σ Q => ex_P (i := .aload_n 0) (len := 1) (by decide +kernel) rfl,
  fun X d x0 s0 T I J R Q => q_getR (k := 9) (by decide +kernel) rfl rfl,
  fun X d x0 s0 σ Q => ex_P (i := .iconst 1) (len := 1) (by decide +kernel) rfl,
  fun X d x0 s0 s1 σ Q => ex_P (i := .aload_n 0) (len := 1) (by decide +kernel) rfl,
  fun X d x0 s0 s1 s2 T I J R Q => q_getR (k := 9) (by decide +kernel) rfl rfl,
  fun X d x0 s0 s1 s2 σ Q => ex_P (i := .iconst 0) (len := 1) (by decide +kernel) rfl,
  fun X d x0 s0 s1 s2 s3 σ Q => ex_P (i := .bipush 39) (len := 2) (by decide +kernel) rfl,
  fun X d x0 σ Q => ex_P (i := .aload_n 0) (len := 1) (by decide +kernel) rfl,
  fun X d x0 s0 T I J R Q => q_getR (k := 13) (by decide +kernel) rfl rfl,
  fun X d x0 s0 σ Q => ex_P (i := .iconst 1) (len := 1) (by decide +kernel) rfl,
  fun X d x0 s0 s1 σ Q => ex_P (i := .aload_n 0) (len := 1) (by decide +kernel) rfl,
  fun X d x0 s0 s1 s2 T I J R Q => q_getR (k := 13) (by decide +kernel) rfl rfl,
  fun X d x0 s0 s1 s2 σ Q => ex_P (i := .iconst 0) (len := 1) (by decide +kernel) rfl,
  fun X d x0 s0 s1 s2 s3 σ Q => ex_P (i := .bipush 39) (len := 2) (by decide +kernel) rfl,
  fun X d x0 σ Q => ex_P (i := .aload_n 0) (len := 1) (by decide +kernel) rfl,
  fun X d x0 s0 T I J R Q => q_getR (k := 16) (by decide +kernel) rfl rfl,
  fun X d x0 s0 σ Q => ex_P (i := .iconst 1) (len := 1) (by decide +kernel) rfl,
  fun X d x0 s0 s1 σ Q => ex_P (i := .aload_n 0) (len := 1) (by decide +kernel) rfl,
  fun X d x0 s0 s1 s2 T I J R Q => q_getR (k := 16) (by decide +kernel) rfl rfl,
  fun X d x0 s0 s1 s2 σ Q => ex_P (i := .iconst 0) (len := 1) (by decide +kernel) rfl,
  fun X d x0 s0 s1 s2 s3 σ Q => ex_P (i := .bipush 39) (len := 2) (by decide +kernel) rfl,
  fun X d x0 σ Q => ex_P (i := .aload_n 0) (len := 1) (by decide +kernel) rfl,
  fun X d x0 s0 T I J R Q => q_getR (k := 19) (by decide +kernel) rfl rfl,
  fun X d x0 s0 σ Q => ex_P (i := .iconst 1) (len := 1) (by decide +kernel) rfl,
  fun X d x0 s0 s1 σ Q => ex_P (i := .aload_n 0) (len := 1) (by decide +kernel) rfl,
  fun X d x0 s0 s1 s2 T I J R Q => q_getR (k := 19) (by decide +kernel) rfl rfl,
  fun X d x0 s0 s1 s2 σ Q => ex_P (i := .iconst 0) (len := 1) (by decide +kernel) rfl,
  fun X d x0 s0 s1 s2 s3 σ Q => ex_P (i := .bipush 39) (len := 2) (by decide +kernel) rfl,
  fun X d x0 σ Q => ex_P (i := .aload_n 0) (len := 1) (by decide +kernel) rfl,
  fun X d x0 s0 σ Q => ex_P (i := .bipush 39) (len := 2) (by decide +kernel) rfl,
  fun X d x0 s0 s1 T I J R Q => q_putI (k := 22) (by decide +kernel) rfl rfl (by decide +kernel),
  fun X d x0 σ Q => q_retV (by decide +kernel) rfl⟩
set_option maxRecDepth 50000 in
theorem gX0_unmake_0 : (∀ (X : tX) (d : Nat) (x0 : Nat) (x1 : Nat) (σ : rS) (Q : tQ), Ex X d mX0_unmake 0 [.ref x0, .ref x1] [] σ Q = Ex X d mX0_unmake 1 [.ref x0, .ref x1] [.ref x0] σ Q) ∧
  (∀ (X : tX) (d : Nat) (x0 : Nat) (x1 : Nat) (s0 : Nat) (T : tT) (I : tI) (J : tJ) (R : tR) (Q : tQ), Ex X d mX0_unmake 1 [.ref x0, .ref x1] [.ref s0] (T, I, J, R) Q = (T[s0]? = some (3, 0) ∧ Ex X d mX0_unmake 4 [.ref x0, .ref x1] [.int (I s0 4)] (T, I, J, R) Q)) ∧
  (∀ (X : tX) (d : Nat) (x0 : Nat) (x1 : Nat) (s0 : Int32) (σ : rS) (Q : tQ), Ex X d mX0_unmake 4 [.ref x0, .ref x1] [.int s0] σ Q = (if 0 < s0 then Ex X d mX0_unmake 9 [.ref x0, .ref x1] [] σ Q else Ex X d mX0_unmake 7 [.ref x0, .ref x1] [] σ Q)) := ⟨fun X d x0 x1 σ Q => ex_P (i := .aload_n 0) (len := 1) (by decide +kernel) rfl,
  fun X d x0 x1 s0 T I J R Q => q_getI (k := 22) (by decide +kernel) rfl rfl (by decide),
  fun X d x0 x1 s0 σ Q => q_if_gt (o := 5) (by decide +kernel) rfl⟩
set_option maxRecDepth 50000 in
theorem gX0_unmake_7 : (∀ (X : tX) (d : Nat) (x0 : Nat) (x1 : Nat) (σ : rS) (Q : tQ), Ex X d mX0_unmake 7 [.ref x0, .ref x1] [] σ Q = Ex X d mX0_unmake 8 [.ref x0, .ref x1] [.int 0] σ Q) ∧
  (∀ (X : tX) (d : Nat) (x0 : Nat) (x1 : Nat) (s0 : Int32) (σ : rS) (Q : tQ), Ex X d mX0_unmake 8 [.ref x0, .ref x1] [.int s0] σ Q = ((s0 = 0 ∨ s0 = 1) ∧ Q (some (.int s0)) σ)) := ⟨fun X d x0 x1 σ Q => ex_P (i := .iconst 0) (len := 1) (by decide +kernel) rfl,
  fun X d x0 x1 s0 σ Q => q_retZ (by decide +kernel) rfl⟩
set_option maxRecDepth 50000 in
theorem gX0_unmake_9 : (∀ (X : tX) (d : Nat) (x0 : Nat) (x1 : Nat) (σ : rS) (Q : tQ), Ex X d mX0_unmake 9 [.ref x0, .ref x1] [] σ Q = Ex X d mX0_unmake 10 [.ref x0, .ref x1] [.ref x0] σ Q) ∧
  (∀ (X : tX) (d : Nat) (x0 : Nat) (x1 : Nat) (s0 : Nat) (σ : rS) (Q : tQ), Ex X d mX0_unmake 10 [.ref x0, .ref x1] [.ref s0] σ Q = Ex X d mX0_unmake 11 [.ref x0, .ref x1] [.ref s0, .ref s0] σ Q) ∧
  (∀ (X : tX) (d : Nat) (x0 : Nat) (x1 : Nat) (s0 : Nat) (s1 : Nat) (T : tT) (I : tI) (J : tJ) (R : tR) (Q : tQ), Ex X d mX0_unmake 11 [.ref x0, .ref x1] [.ref s0, .ref s1] (T, I, J, R) Q = (T[s0]? = some (3, 0) ∧ Ex X d mX0_unmake 14 [.ref x0, .ref x1] [.int (I s0 4), .ref s1] (T, I, J, R) Q)) ∧
  (∀ (X : tX) (d : Nat) (x0 : Nat) (x1 : Nat) (s0 : Int32) (s1 : Nat) (σ : rS) (Q : tQ), Ex X d mX0_unmake 14 [.ref x0, .ref x1] [.int s0, .ref s1] σ Q = Ex X d mX0_unmake 15 [.ref x0, .ref x1] [.int 1, .int s0, .ref s1] σ Q) ∧
  (∀ (X : tX) (d : Nat) (x0 : Nat) (x1 : Nat) (s0 : Int32) (s1 : Int32) (s2 : Nat) (σ : rS) (Q : tQ), Ex X d mX0_unmake 15 [.ref x0, .ref x1] [.int s0, .int s1, .ref s2] σ Q = Ex X d mX0_unmake 16 [.ref x0, .ref x1] [.int (s1 - s0), .ref s2] σ Q) ∧
  (∀ (X : tX) (d : Nat) (x0 : Nat) (x1 : Nat) (s0 : Int32) (s1 : Nat) (T : tT) (I : tI) (J : tJ) (R : tR) (Q : tQ), Ex X d mX0_unmake 16 [.ref x0, .ref x1] [.int s0, .ref s1] (T, I, J, R) Q = (T[s1]? = some (3, 0) ∧ Ex X d mX0_unmake 19 [.ref x0, .ref x1] [] (T, va_up I s1 (va_up (I s1) 4 s0), J, R) Q)) ∧
  (∀ (X : tX) (d : Nat) (x0 : Nat) (x1 : Nat) (σ : rS) (Q : tQ), Ex X d mX0_unmake 19 [.ref x0, .ref x1] [] σ Q = Ex X d mX0_unmake 20 [.ref x0, .ref x1] [.ref x1] σ Q) ∧
  (∀ (X : tX) (d : Nat) (x0 : Nat) (x1 : Nat) (s0 : Nat) (σ : rS) (Q : tQ), Ex X d mX0_unmake 20 [.ref x0, .ref x1] [.ref s0] σ Q = Ex X d mX0_unmake 21 [.ref x0, .ref x1] [.ref x0, .ref s0] σ Q) ∧
  (∀ (X : tX) (d : Nat) (x0 : Nat) (x1 : Nat) (s0 : Nat) (s1 : Nat) (T : tT) (I : tI) (J : tJ) (R : tR) (Q : tQ), Ex X d mX0_unmake 21 [.ref x0, .ref x1] [.ref s0, .ref s1] (T, I, J, R) Q = (T[s0]? = some (3, 0) ∧ Ex X d mX0_unmake 24 [.ref x0, .ref x1] [va_rf (R s0 0), .ref s1] (T, I, J, R) Q)) ∧
  (∀ (X : tX) (d : Nat) (x0 : Nat) (x1 : Nat) (s0 : Nat) (s1 : Nat) (σ : rS) (Q : tQ), Ex X d mX0_unmake 24 [.ref x0, .ref x1] [.ref s0, .ref s1] σ Q = Ex X d mX0_unmake 25 [.ref x0, .ref x1] [.ref x0, .ref s0, .ref s1] σ Q) ∧
  (∀ (X : tX) (d : Nat) (x0 : Nat) (x1 : Nat) (s0 : Nat) (s1 : Nat) (s2 : Nat) (T : tT) (I : tI) (J : tJ) (R : tR) (Q : tQ), Ex X d mX0_unmake 25 [.ref x0, .ref x1] [.ref s0, .ref s1, .ref s2] (T, I, J, R) Q = (T[s0]? = some (3, 0) ∧ Ex X d mX0_unmake 28 [.ref x0, .ref x1] [.int (I s0 4), .ref s1, .ref s2] (T, I, J, R) Q)) ∧
  (∀ (X : tX) (d : Nat) (x0 : Nat) (x1 : Nat) (s0 : Int32) (s1 : Nat) (s2 : Nat) (T : tT) (I : tI) (J : tJ) (R : tR) (Q : tQ), Ex X d mX0_unmake 28 [.ref x0, .ref x1] [.int s0, .ref s1, .ref s2] (T, I, J, R) Q = (rIn T s1 0 s0 ∧ Ex X d mX0_unmake 29 [.ref x0, .ref x1] [.int (I s1 s0.toNatClampNeg), .ref s2] (T, I, J, R) Q)) ∧
  (∀ (X : tX) (d : Nat) (x0 : Nat) (x1 : Nat) (s0 : Int32) (s1 : Nat) (σ : rS) (Q : tQ), Ex X d mX0_unmake 29 [.ref x0, .ref x1] [.int s0, .ref s1] σ Q = Ex X d mX0_unmake 30 [.ref x0, .ref x1] [.ref x0, .int s0, .ref s1] σ Q) ∧
  (∀ (X : tX) (d : Nat) (x0 : Nat) (x1 : Nat) (s0 : Nat) (s1 : Int32) (s2 : Nat) (T : tT) (I : tI) (J : tJ) (R : tR) (Q : tQ), Ex X d mX0_unmake 30 [.ref x0, .ref x1] [.ref s0, .int s1, .ref s2] (T, I, J, R) Q = (T[s0]? = some (3, 0) ∧ Ex X d mX0_unmake 33 [.ref x0, .ref x1] [va_rf (R s0 1), .int s1, .ref s2] (T, I, J, R) Q)) ∧
  (∀ (X : tX) (d : Nat) (x0 : Nat) (x1 : Nat) (s0 : Nat) (s1 : Int32) (s2 : Nat) (σ : rS) (Q : tQ), Ex X d mX0_unmake 33 [.ref x0, .ref x1] [.ref s0, .int s1, .ref s2] σ Q = Ex X d mX0_unmake 34 [.ref x0, .ref x1] [.ref x0, .ref s0, .int s1, .ref s2] σ Q) ∧
  (∀ (X : tX) (d : Nat) (x0 : Nat) (x1 : Nat) (s0 : Nat) (s1 : Nat) (s2 : Int32) (s3 : Nat) (T : tT) (I : tI) (J : tJ) (R : tR) (Q : tQ), Ex X d mX0_unmake 34 [.ref x0, .ref x1] [.ref s0, .ref s1, .int s2, .ref s3] (T, I, J, R) Q = (T[s0]? = some (3, 0) ∧ Ex X d mX0_unmake 37 [.ref x0, .ref x1] [.int (I s0 4), .ref s1, .int s2, .ref s3] (T, I, J, R) Q)) ∧
  (∀ (X : tX) (d : Nat) (x0 : Nat) (x1 : Nat) (s0 : Int32) (s1 : Nat) (s2 : Int32) (s3 : Nat) (T : tT) (I : tI) (J : tJ) (R : tR) (Q : tQ), Ex X d mX0_unmake 37 [.ref x0, .ref x1] [.int s0, .ref s1, .int s2, .ref s3] (T, I, J, R) Q = (rIn T s1 0 s0 ∧ Ex X d mX0_unmake 38 [.ref x0, .ref x1] [.int (I s1 s0.toNatClampNeg), .int s2, .ref s3] (T, I, J, R) Q)) ∧
  (∀ (X : tX) (d : Nat) (x0 : Nat) (x1 : Nat) (s0 : Int32) (s1 : Int32) (s2 : Nat) (σ : rS) (Q : tQ), Ex X d mX0_unmake 38 [.ref x0, .ref x1] [.int s0, .int s1, .ref s2] σ Q = Ex X d mX0_unmake 39 [.ref x0, .ref x1] [.ref x0, .int s0, .int s1, .ref s2] σ Q) ∧
  (∀ (X : tX) (d : Nat) (x0 : Nat) (x1 : Nat) (s0 : Nat) (s1 : Int32) (s2 : Int32) (s3 : Nat) (T : tT) (I : tI) (J : tJ) (R : tR) (Q : tQ), Ex X d mX0_unmake 39 [.ref x0, .ref x1] [.ref s0, .int s1, .int s2, .ref s3] (T, I, J, R) Q = (T[s0]? = some (3, 0) ∧ Ex X d mX0_unmake 42 [.ref x0, .ref x1] [va_rf (R s0 2), .int s1, .int s2, .ref s3] (T, I, J, R) Q)) ∧
  (∀ (X : tX) (d : Nat) (x0 : Nat) (x1 : Nat) (s0 : Nat) (s1 : Int32) (s2 : Int32) (s3 : Nat) (σ : rS) (Q : tQ), Ex X d mX0_unmake 42 [.ref x0, .ref x1] [.ref s0, .int s1, .int s2, .ref s3] σ Q = Ex X d mX0_unmake 43 [.ref x0, .ref x1] [.ref x0, .ref s0, .int s1, .int s2, .ref s3] σ Q) ∧
  (∀ (X : tX) (d : Nat) (x0 : Nat) (x1 : Nat) (s0 : Nat) (s1 : Nat) (s2 : Int32) (s3 : Int32) (s4 : Nat) (T : tT) (I : tI) (J : tJ) (R : tR) (Q : tQ), Ex X d mX0_unmake 43 [.ref x0, .ref x1] [.ref s0, .ref s1, .int s2, .int s3, .ref s4] (T, I, J, R) Q = (T[s0]? = some (3, 0) ∧ Ex X d mX0_unmake 46 [.ref x0, .ref x1] [.int (I s0 4), .ref s1, .int s2, .int s3, .ref s4] (T, I, J, R) Q)) ∧
  (∀ (X : tX) (d : Nat) (x0 : Nat) (x1 : Nat) (s0 : Int32) (s1 : Nat) (s2 : Int32) (s3 : Int32) (s4 : Nat) (T : tT) (I : tI) (J : tJ) (R : tR) (Q : tQ), Ex X d mX0_unmake 46 [.ref x0, .ref x1] [.int s0, .ref s1, .int s2, .int s3, .ref s4] (T, I, J, R) Q = (rIn T s1 0 s0 ∧ Ex X d mX0_unmake 47 [.ref x0, .ref x1] [.int (I s1 s0.toNatClampNeg), .int s2, .int s3, .ref s4] (T, I, J, R) Q)) ∧
  (∀ (X : tX) (d : Nat) (x0 : Nat) (x1 : Nat) (s0 : Int32) (s1 : Int32) (s2 : Int32) (s3 : Nat) (T : tT) (I : tI) (J : tJ) (R : tR) (Q : tQ), Ex X (d + 1) mX0_unmake 47 [.ref x0, .ref x1] [.int s0, .int s1, .int s2, .ref s3] (T, I, J, R) Q = (T[s3]? = some (3, 3) ∧ Ex X d mX3_become 0 [.ref s3, .int s2, .int s1, .int s0] [] (T, I, J, R) (fun v σ1 => Ex X (d + 1) mX0_unmake 50 [.ref x0, .ref x1] (v.toList ++ []) σ1 Q))) := ⟨fun X d x0 x1 σ Q => ex_P (i := .aload_n 0) (len := 1) (by decide +kernel) rfl,
  fun X d x0 x1 s0 σ Q => ex_P (i := .dup) (len := 1) (by decide +kernel) rfl,
  fun X d x0 x1 s0 s1 T I J R Q => q_getI (k := 22) (by decide +kernel) rfl rfl (by decide),
  fun X d x0 x1 s0 s1 σ Q => ex_P (i := .iconst 1) (len := 1) (by decide +kernel) rfl,
  fun X d x0 x1 s0 s1 s2 σ Q => ex_P (i := .isub) (len := 1) (by decide +kernel) rfl,
  fun X d x0 x1 s0 s1 T I J R Q => q_putI (k := 22) (by decide +kernel) rfl rfl (by decide +kernel),
  fun X d x0 x1 σ Q => ex_P (i := .aload_n 1) (len := 1) (by decide +kernel) rfl,
  fun X d x0 x1 s0 σ Q => ex_P (i := .aload_n 0) (len := 1) (by decide +kernel) rfl,
  fun X d x0 x1 s0 s1 T I J R Q => q_getR (k := 9) (by decide +kernel) rfl rfl,
  fun X d x0 x1 s0 s1 σ Q => ex_P (i := .aload_n 0) (len := 1) (by decide +kernel) rfl,
  fun X d x0 x1 s0 s1 s2 T I J R Q => q_getI (k := 22) (by decide +kernel) rfl rfl (by decide),
  fun X d x0 x1 s0 s1 s2 T I J R Q => q_iald (by decide +kernel),
  fun X d x0 x1 s0 s1 σ Q => ex_P (i := .aload_n 0) (len := 1) (by decide +kernel) rfl,
  fun X d x0 x1 s0 s1 s2 T I J R Q => q_getR (k := 13) (by decide +kernel) rfl rfl,
  fun X d x0 x1 s0 s1 s2 σ Q => ex_P (i := .aload_n 0) (len := 1) (by decide +kernel) rfl,
  fun X d x0 x1 s0 s1 s2 s3 T I J R Q => q_getI (k := 22) (by decide +kernel) rfl rfl (by decide),
  fun X d x0 x1 s0 s1 s2 s3 T I J R Q => q_iald (by decide +kernel),
  fun X d x0 x1 s0 s1 s2 σ Q => ex_P (i := .aload_n 0) (len := 1) (by decide +kernel) rfl,
  fun X d x0 x1 s0 s1 s2 s3 T I J R Q => q_getR (k := 16) (by decide +kernel) rfl rfl,
  fun X d x0 x1 s0 s1 s2 s3 σ Q => ex_P (i := .aload_n 0) (len := 1) (by decide +kernel) rfl,
  fun X d x0 x1 s0 s1 s2 s3 s4 T I J R Q => q_getI (k := 22) (by decide +kernel) rfl rfl (by decide),
  fun X d x0 x1 s0 s1 s2 s3 s4 T I J R Q => q_iald (by decide +kernel),
  fun X d x0 x1 s0 s1 s2 s3 T I J R Q => q_callV (k := 38) (as := [.int s2, .int s1, .int s0]) (st := []) (show rlk mX0_unmake.2.2.2.2.2.2 47 = some (.invokevirtual 38, 3) from by decide +kernel) rfl rfl rfl (Nat.le_of_ble_eq_true rfl) (Nat.le_of_ble_eq_true rfl) rfl⟩
set_option maxRecDepth 50000 in
theorem gX0_unmake_50 : (∀ (X : tX) (d : Nat) (x0 : Nat) (x1 : Nat) (σ : rS) (Q : tQ), Ex X d mX0_unmake 50 [.ref x0, .ref x1] [] σ Q = Ex X d mX0_unmake 51 [.ref x0, .ref x1] [.int 1] σ Q) ∧
  (∀ (X : tX) (d : Nat) (x0 : Nat) (x1 : Nat) (s0 : Int32) (σ : rS) (Q : tQ), Ex X d mX0_unmake 51 [.ref x0, .ref x1] [.int s0] σ Q = ((s0 = 0 ∨ s0 = 1) ∧ Q (some (.int s0)) σ)) := ⟨fun X d x0 x1 σ Q => ex_P (i := .iconst 1) (len := 1) (by decide +kernel) rfl,
  fun X d x0 x1 s0 σ Q => q_retZ (by decide +kernel) rfl⟩
set_option maxRecDepth 50000 in
theorem gX0_makeAgain_0 : (∀ (X : tX) (d : Nat) (x0 : Nat) (x1 : Nat) (σ : rS) (Q : tQ), Ex X d mX0_makeAgain 0 [.ref x0, .ref x1] [] σ Q = Ex X d mX0_makeAgain 1 [.ref x0, .ref x1] [.ref x0] σ Q) ∧
  (∀ (X : tX) (d : Nat) (x0 : Nat) (x1 : Nat) (s0 : Nat) (T : tT) (I : tI) (J : tJ) (R : tR) (Q : tQ), Ex X d mX0_makeAgain 1 [.ref x0, .ref x1] [.ref s0] (T, I, J, R) Q = (T[s0]? = some (3, 0) ∧ Ex X d mX0_makeAgain 4 [.ref x0, .ref x1] [.int (I s0 4)] (T, I, J, R) Q)) ∧
  (∀ (X : tX) (d : Nat) (x0 : Nat) (x1 : Nat) (s0 : Int32) (σ : rS) (Q : tQ), Ex X d mX0_makeAgain 4 [.ref x0, .ref x1] [.int s0] σ Q = Ex X d mX0_makeAgain 5 [.ref x0, .ref x1] [.ref x0, .int s0] σ Q) ∧
  (∀ (X : tX) (d : Nat) (x0 : Nat) (x1 : Nat) (s0 : Nat) (s1 : Int32) (T : tT) (I : tI) (J : tJ) (R : tR) (Q : tQ), Ex X d mX0_makeAgain 5 [.ref x0, .ref x1] [.ref s0, .int s1] (T, I, J, R) Q = (T[s0]? = some (3, 0) ∧ Ex X d mX0_makeAgain 8 [.ref x0, .ref x1] [.int (I s0 5), .int s1] (T, I, J, R) Q)) ∧
  (∀ (X : tX) (d : Nat) (x0 : Nat) (x1 : Nat) (s0 : Int32) (s1 : Int32) (σ : rS) (Q : tQ), Ex X d mX0_makeAgain 8 [.ref x0, .ref x1] [.int s0, .int s1] σ Q = (if s1 < s0 then Ex X d mX0_makeAgain 13 [.ref x0, .ref x1] [] σ Q else Ex X d mX0_makeAgain 11 [.ref x0, .ref x1] [] σ Q)) := ⟨fun X d x0 x1 σ Q => ex_P (i := .aload_n 0) (len := 1) (by decide +kernel) rfl,
  fun X d x0 x1 s0 T I J R Q => q_getI (k := 22) (by decide +kernel) rfl rfl (by decide),
  fun X d x0 x1 s0 σ Q => ex_P (i := .aload_n 0) (len := 1) (by decide +kernel) rfl,
  fun X d x0 x1 s0 s1 T I J R Q => q_getI (k := 29) (by decide +kernel) rfl rfl (by decide),
  fun X d x0 x1 s0 s1 σ Q => q_icmp_lt (o := 5) (by decide +kernel) rfl⟩
set_option maxRecDepth 50000 in
theorem gX0_makeAgain_11 : (∀ (X : tX) (d : Nat) (x0 : Nat) (x1 : Nat) (σ : rS) (Q : tQ), Ex X d mX0_makeAgain 11 [.ref x0, .ref x1] [] σ Q = Ex X d mX0_makeAgain 12 [.ref x0, .ref x1] [.int 0] σ Q) ∧
  (∀ (X : tX) (d : Nat) (x0 : Nat) (x1 : Nat) (s0 : Int32) (σ : rS) (Q : tQ), Ex X d mX0_makeAgain 12 [.ref x0, .ref x1] [.int s0] σ Q = ((s0 = 0 ∨ s0 = 1) ∧ Q (some (.int s0)) σ)) := ⟨fun X d x0 x1 σ Q => ex_P (i := .iconst 0) (len := 1) (by decide +kernel) rfl,
  fun X d x0 x1 s0 σ Q => q_retZ (by decide +kernel) rfl⟩
set_option maxRecDepth 50000 in
theorem gX0_makeAgain_13 : (∀ (X : tX) (d : Nat) (x0 : Nat) (x1 : Nat) (σ : rS) (Q : tQ), Ex X d mX0_makeAgain 13 [.ref x0, .ref x1] [] σ Q = Ex X d mX0_makeAgain 14 [.ref x0, .ref x1] [.ref x1] σ Q) ∧
  (∀ (X : tX) (d : Nat) (x0 : Nat) (x1 : Nat) (s0 : Nat) (σ : rS) (Q : tQ), Ex X d mX0_makeAgain 14 [.ref x0, .ref x1] [.ref s0] σ Q = Ex X d mX0_makeAgain 15 [.ref x0, .ref x1] [.ref x0, .ref s0] σ Q) ∧
  (∀ (X : tX) (d : Nat) (x0 : Nat) (x1 : Nat) (s0 : Nat) (s1 : Nat) (T : tT) (I : tI) (J : tJ) (R : tR) (Q : tQ), Ex X d mX0_makeAgain 15 [.ref x0, .ref x1] [.ref s0, .ref s1] (T, I, J, R) Q = (T[s0]? = some (3, 0) ∧ Ex X d mX0_makeAgain 18 [.ref x0, .ref x1] [va_rf (R s0 0), .ref s1] (T, I, J, R) Q)) ∧
  (∀ (X : tX) (d : Nat) (x0 : Nat) (x1 : Nat) (s0 : Nat) (s1 : Nat) (σ : rS) (Q : tQ), Ex X d mX0_makeAgain 18 [.ref x0, .ref x1] [.ref s0, .ref s1] σ Q = Ex X d mX0_makeAgain 19 [.ref x0, .ref x1] [.ref x0, .ref s0, .ref s1] σ Q) ∧
  (∀ (X : tX) (d : Nat) (x0 : Nat) (x1 : Nat) (s0 : Nat) (s1 : Nat) (s2 : Nat) (T : tT) (I : tI) (J : tJ) (R : tR) (Q : tQ), Ex X d mX0_makeAgain 19 [.ref x0, .ref x1] [.ref s0, .ref s1, .ref s2] (T, I, J, R) Q = (T[s0]? = some (3, 0) ∧ Ex X d mX0_makeAgain 22 [.ref x0, .ref x1] [.int (I s0 4), .ref s1, .ref s2] (T, I, J, R) Q)) ∧
  (∀ (X : tX) (d : Nat) (x0 : Nat) (x1 : Nat) (s0 : Int32) (s1 : Nat) (s2 : Nat) (T : tT) (I : tI) (J : tJ) (R : tR) (Q : tQ), Ex X d mX0_makeAgain 22 [.ref x0, .ref x1] [.int s0, .ref s1, .ref s2] (T, I, J, R) Q = (rIn T s1 0 s0 ∧ Ex X d mX0_makeAgain 23 [.ref x0, .ref x1] [.int (I s1 s0.toNatClampNeg), .ref s2] (T, I, J, R) Q)) ∧
  (∀ (X : tX) (d : Nat) (x0 : Nat) (x1 : Nat) (s0 : Int32) (s1 : Nat) (σ : rS) (Q : tQ), Ex X d mX0_makeAgain 23 [.ref x0, .ref x1] [.int s0, .ref s1] σ Q = Ex X d mX0_makeAgain 24 [.ref x0, .ref x1] [.ref x0, .int s0, .ref s1] σ Q) ∧
  (∀ (X : tX) (d : Nat) (x0 : Nat) (x1 : Nat) (s0 : Nat) (s1 : Int32) (s2 : Nat) (T : tT) (I : tI) (J : tJ) (R : tR) (Q : tQ), Ex X d mX0_makeAgain 24 [.ref x0, .ref x1] [.ref s0, .int s1, .ref s2] (T, I, J, R) Q = (T[s0]? = some (3, 0) ∧ Ex X d mX0_makeAgain 27 [.ref x0, .ref x1] [va_rf (R s0 1), .int s1, .ref s2] (T, I, J, R) Q)) ∧
  (∀ (X : tX) (d : Nat) (x0 : Nat) (x1 : Nat) (s0 : Nat) (s1 : Int32) (s2 : Nat) (σ : rS) (Q : tQ), Ex X d mX0_makeAgain 27 [.ref x0, .ref x1] [.ref s0, .int s1, .ref s2] σ Q = Ex X d mX0_makeAgain 28 [.ref x0, .ref x1] [.ref x0, .ref s0, .int s1, .ref s2] σ Q) ∧
  (∀ (X : tX) (d : Nat) (x0 : Nat) (x1 : Nat) (s0 : Nat) (s1 : Nat) (s2 : Int32) (s3 : Nat) (T : tT) (I : tI) (J : tJ) (R : tR) (Q : tQ), Ex X d mX0_makeAgain 28 [.ref x0, .ref x1] [.ref s0, .ref s1, .int s2, .ref s3] (T, I, J, R) Q = (T[s0]? = some (3, 0) ∧ Ex X d mX0_makeAgain 31 [.ref x0, .ref x1] [.int (I s0 4), .ref s1, .int s2, .ref s3] (T, I, J, R) Q)) ∧
  (∀ (X : tX) (d : Nat) (x0 : Nat) (x1 : Nat) (s0 : Int32) (s1 : Nat) (s2 : Int32) (s3 : Nat) (T : tT) (I : tI) (J : tJ) (R : tR) (Q : tQ), Ex X d mX0_makeAgain 31 [.ref x0, .ref x1] [.int s0, .ref s1, .int s2, .ref s3] (T, I, J, R) Q = (rIn T s1 0 s0 ∧ Ex X d mX0_makeAgain 32 [.ref x0, .ref x1] [.int (I s1 s0.toNatClampNeg), .int s2, .ref s3] (T, I, J, R) Q)) ∧
  (∀ (X : tX) (d : Nat) (x0 : Nat) (x1 : Nat) (s0 : Int32) (s1 : Int32) (s2 : Nat) (σ : rS) (Q : tQ), Ex X d mX0_makeAgain 32 [.ref x0, .ref x1] [.int s0, .int s1, .ref s2] σ Q = Ex X d mX0_makeAgain 33 [.ref x0, .ref x1] [.ref x0, .int s0, .int s1, .ref s2] σ Q) ∧
  (∀ (X : tX) (d : Nat) (x0 : Nat) (x1 : Nat) (s0 : Nat) (s1 : Int32) (s2 : Int32) (s3 : Nat) (T : tT) (I : tI) (J : tJ) (R : tR) (Q : tQ), Ex X d mX0_makeAgain 33 [.ref x0, .ref x1] [.ref s0, .int s1, .int s2, .ref s3] (T, I, J, R) Q = (T[s0]? = some (3, 0) ∧ Ex X d mX0_makeAgain 36 [.ref x0, .ref x1] [va_rf (R s0 3), .int s1, .int s2, .ref s3] (T, I, J, R) Q)) ∧
  (∀ (X : tX) (d : Nat) (x0 : Nat) (x1 : Nat) (s0 : Nat) (s1 : Int32) (s2 : Int32) (s3 : Nat) (σ : rS) (Q : tQ), Ex X d mX0_makeAgain 36 [.ref x0, .ref x1] [.ref s0, .int s1, .int s2, .ref s3] σ Q = Ex X d mX0_makeAgain 37 [.ref x0, .ref x1] [.ref x0, .ref s0, .int s1, .int s2, .ref s3] σ Q) ∧
  (∀ (X : tX) (d : Nat) (x0 : Nat) (x1 : Nat) (s0 : Nat) (s1 : Nat) (s2 : Int32) (s3 : Int32) (s4 : Nat) (T : tT) (I : tI) (J : tJ) (R : tR) (Q : tQ), Ex X d mX0_makeAgain 37 [.ref x0, .ref x1] [.ref s0, .ref s1, .int s2, .int s3, .ref s4] (T, I, J, R) Q = (T[s0]? = some (3, 0) ∧ Ex X d mX0_makeAgain 40 [.ref x0, .ref x1] [.int (I s0 4), .ref s1, .int s2, .int s3, .ref s4] (T, I, J, R) Q)) ∧
  (∀ (X : tX) (d : Nat) (x0 : Nat) (x1 : Nat) (s0 : Int32) (s1 : Nat) (s2 : Int32) (s3 : Int32) (s4 : Nat) (T : tT) (I : tI) (J : tJ) (R : tR) (Q : tQ), Ex X d mX0_makeAgain 40 [.ref x0, .ref x1] [.int s0, .ref s1, .int s2, .int s3, .ref s4] (T, I, J, R) Q = (rIn T s1 0 s0 ∧ Ex X d mX0_makeAgain 41 [.ref x0, .ref x1] [.int (I s1 s0.toNatClampNeg), .int s2, .int s3, .ref s4] (T, I, J, R) Q)) ∧
  (∀ (X : tX) (d : Nat) (x0 : Nat) (x1 : Nat) (s0 : Int32) (s1 : Int32) (s2 : Int32) (s3 : Nat) (T : tT) (I : tI) (J : tJ) (R : tR) (Q : tQ), Ex X (d + 1) mX0_makeAgain 41 [.ref x0, .ref x1] [.int s0, .int s1, .int s2, .ref s3] (T, I, J, R) Q = (T[s3]? = some (3, 3) ∧ Ex X d mX3_become 0 [.ref s3, .int s2, .int s1, .int s0] [] (T, I, J, R) (fun v σ1 => Ex X (d + 1) mX0_makeAgain 44 [.ref x0, .ref x1] (v.toList ++ []) σ1 Q))) := ⟨fun X d x0 x1 σ Q => ex_P (i := .aload_n 1) (len := 1) (by decide +kernel) rfl,
  fun X d x0 x1 s0 σ Q => ex_P (i := .aload_n 0) (len := 1) (by decide +kernel) rfl,
  fun X d x0 x1 s0 s1 T I J R Q => q_getR (k := 9) (by decide +kernel) rfl rfl,
  fun X d x0 x1 s0 s1 σ Q => ex_P (i := .aload_n 0) (len := 1) (by decide +kernel) rfl,
  fun X d x0 x1 s0 s1 s2 T I J R Q => q_getI (k := 22) (by decide +kernel) rfl rfl (by decide),
  fun X d x0 x1 s0 s1 s2 T I J R Q => q_iald (by decide +kernel),
  fun X d x0 x1 s0 s1 σ Q => ex_P (i := .aload_n 0) (len := 1) (by decide +kernel) rfl,
  fun X d x0 x1 s0 s1 s2 T I J R Q => q_getR (k := 13) (by decide +kernel) rfl rfl,
  fun X d x0 x1 s0 s1 s2 σ Q => ex_P (i := .aload_n 0) (len := 1) (by decide +kernel) rfl,
  fun X d x0 x1 s0 s1 s2 s3 T I J R Q => q_getI (k := 22) (by decide +kernel) rfl rfl (by decide),
  fun X d x0 x1 s0 s1 s2 s3 T I J R Q => q_iald (by decide +kernel),
  fun X d x0 x1 s0 s1 s2 σ Q => ex_P (i := .aload_n 0) (len := 1) (by decide +kernel) rfl,
  fun X d x0 x1 s0 s1 s2 s3 T I J R Q => q_getR (k := 19) (by decide +kernel) rfl rfl,
  fun X d x0 x1 s0 s1 s2 s3 σ Q => ex_P (i := .aload_n 0) (len := 1) (by decide +kernel) rfl,
  fun X d x0 x1 s0 s1 s2 s3 s4 T I J R Q => q_getI (k := 22) (by decide +kernel) rfl rfl (by decide),
  fun X d x0 x1 s0 s1 s2 s3 s4 T I J R Q => q_iald (by decide +kernel),
  fun X d x0 x1 s0 s1 s2 s3 T I J R Q => q_callV (k := 38) (as := [.int s2, .int s1, .int s0]) (st := []) (show rlk mX0_makeAgain.2.2.2.2.2.2 41 = some (.invokevirtual 38, 3) from by decide +kernel) rfl rfl rfl (Nat.le_of_ble_eq_true rfl) (Nat.le_of_ble_eq_true rfl) rfl⟩
set_option maxRecDepth 50000 in
theorem gX0_makeAgain_44 : (∀ (X : tX) (d : Nat) (x0 : Nat) (x1 : Nat) (σ : rS) (Q : tQ), Ex X d mX0_makeAgain 44 [.ref x0, .ref x1] [] σ Q = Ex X d mX0_makeAgain 45 [.ref x0, .ref x1] [.ref x0] σ Q) ∧
  (∀ (X : tX) (d : Nat) (x0 : Nat) (x1 : Nat) (s0 : Nat) (σ : rS) (Q : tQ), Ex X d mX0_makeAgain 45 [.ref x0, .ref x1] [.ref s0] σ Q = Ex X d mX0_makeAgain 46 [.ref x0, .ref x1] [.ref s0, .ref s0] σ Q) ∧
  (∀ (X : tX) (d : Nat) (x0 : Nat) (x1 : Nat) (s0 : Nat) (s1 : Nat) (T : tT) (I : tI) (J : tJ) (R : tR) (Q : tQ), Ex X d mX0_makeAgain 46 [.ref x0, .ref x1] [.ref s0, .ref s1] (T, I, J, R) Q = (T[s0]? = some (3, 0) ∧ Ex X d mX0_makeAgain 49 [.ref x0, .ref x1] [.int (I s0 4), .ref s1] (T, I, J, R) Q)) ∧
  (∀ (X : tX) (d : Nat) (x0 : Nat) (x1 : Nat) (s0 : Int32) (s1 : Nat) (σ : rS) (Q : tQ), Ex X d mX0_makeAgain 49 [.ref x0, .ref x1] [.int s0, .ref s1] σ Q = Ex X d mX0_makeAgain 50 [.ref x0, .ref x1] [.int 1, .int s0, .ref s1] σ Q) ∧
  (∀ (X : tX) (d : Nat) (x0 : Nat) (x1 : Nat) (s0 : Int32) (s1 : Int32) (s2 : Nat) (σ : rS) (Q : tQ), Ex X d mX0_makeAgain 50 [.ref x0, .ref x1] [.int s0, .int s1, .ref s2] σ Q = Ex X d mX0_makeAgain 51 [.ref x0, .ref x1] [.int (s1 + s0), .ref s2] σ Q) ∧
  (∀ (X : tX) (d : Nat) (x0 : Nat) (x1 : Nat) (s0 : Int32) (s1 : Nat) (T : tT) (I : tI) (J : tJ) (R : tR) (Q : tQ), Ex X d mX0_makeAgain 51 [.ref x0, .ref x1] [.int s0, .ref s1] (T, I, J, R) Q = (T[s1]? = some (3, 0) ∧ Ex X d mX0_makeAgain 54 [.ref x0, .ref x1] [] (T, va_up I s1 (va_up (I s1) 4 s0), J, R) Q)) ∧
  (∀ (X : tX) (d : Nat) (x0 : Nat) (x1 : Nat) (σ : rS) (Q : tQ), Ex X d mX0_makeAgain 54 [.ref x0, .ref x1] [] σ Q = Ex X d mX0_makeAgain 55 [.ref x0, .ref x1] [.int 1] σ Q) ∧
  (∀ (X : tX) (d : Nat) (x0 : Nat) (x1 : Nat) (s0 : Int32) (σ : rS) (Q : tQ), Ex X d mX0_makeAgain 55 [.ref x0, .ref x1] [.int s0] σ Q = ((s0 = 0 ∨ s0 = 1) ∧ Q (some (.int s0)) σ)) := ⟨fun X d x0 x1 σ Q => ex_P (i := .aload_n 0) (len := 1) (by decide +kernel) rfl,
  fun X d x0 x1 s0 σ Q => ex_P (i := .dup) (len := 1) (by decide +kernel) rfl,
  fun X d x0 x1 s0 s1 T I J R Q => q_getI (k := 22) (by decide +kernel) rfl rfl (by decide),
  fun X d x0 x1 s0 s1 σ Q => ex_P (i := .iconst 1) (len := 1) (by decide +kernel) rfl,
  fun X d x0 x1 s0 s1 s2 σ Q => ex_P (i := .iadd) (len := 1) (by decide +kernel) rfl,
  fun X d x0 x1 s0 s1 T I J R Q => q_putI (k := 22) (by decide +kernel) rfl rfl (by decide +kernel),
  fun X d x0 x1 σ Q => ex_P (i := .iconst 1) (len := 1) (by decide +kernel) rfl,
  fun X d x0 x1 s0 σ Q => q_retZ (by decide +kernel) rfl⟩
