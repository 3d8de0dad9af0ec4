set_option maxRecDepth 50000 in
theorem gX7_isS_0 : (∀ (X : tX) (d : Nat) (x0 : Nat) (σ : rS) (Q : tQ), Ex X d mX7_isS 0 [.ref x0, rU] [] σ Q = Ex X d mX7_isS 1 [.ref x0, rU] [.ref x0] σ Q) ∧
  (∀ (X : tX) (d : Nat) (x0 : Nat) (s0 : Nat) (T : tT) (I : tI) (J : tJ) (R : tR) (Q : tQ), Ex X (d + 1) mX7_isS 1 [.ref x0, rU] [.ref s0] (T, I, J, R) Q = (T[s0]? = some (3, 7) ∧ Ex X d mX7_isP 0 [.ref s0, rU] [] (T, I, J, R) (fun v σ1 => Ex X (d + 1) mX7_isS 4 [.ref x0, rU] (v.toList ++ []) σ1 Q))) := ⟨fun X d x0 σ Q => ex_P (i := .aload_n 0) (len := 1) (by decide +kernel) rfl,
  fun X d x0 s0 T I J R Q => q_callV (k := 178) (as := []) (st := []) (show rlk mX7_isS.2.2.2.2.2.2 1 = some (.invokevirtual 178, 3) from by decide +kernel) rfl rfl rfl (Nat.le_of_ble_eq_true rfl) (Nat.le_of_ble_eq_true rfl) rfl⟩
set_option maxRecDepth 50000 in
theorem gX7_isS_4 : (∀ (X : tX) (d : Nat) (x0 : Nat) (s0 : Int32) (σ : rS) (Q : tQ), Ex X d mX7_isS 4 [.ref x0, rU] [.int s0] σ Q = (if s0 = 0 then Ex X d mX7_isS 7 [.ref x0, rU] [] σ Q else Ex X d mX7_isS 9 [.ref x0, rU] [] σ Q)) := fun X d x0 s0 σ Q => q_if_ne (o := 5) (by decide +kernel) rfl
set_option maxRecDepth 50000 in
theorem gX7_isS_7 : (∀ (X : tX) (d : Nat) (x0 : Nat) (σ : rS) (Q : tQ), Ex X d mX7_isS 7 [.ref x0, rU] [] σ Q = Ex X d mX7_isS 8 [.ref x0, rU] [.int 0] σ Q) ∧
  (∀ (X : tX) (d : Nat) (x0 : Nat) (s0 : Int32) (σ : rS) (Q : tQ), Ex X d mX7_isS 8 [.ref x0, rU] [.int s0] σ Q = ((s0 = 0 ∨ s0 = 1) ∧ Q (some (.int s0)) σ)) := ⟨fun X d x0 σ Q => ex_P (i := .iconst 0) (len := 1) (by decide +kernel) rfl,
  fun X d x0 s0 σ Q => q_retZ (by decide +kernel) rfl⟩
set_option maxRecDepth 50000 in
theorem gX7_isS_9 : (∀ (X : tX) (d : Nat) (x0 : Nat) (v1 : Value) (σ : rS) (Q : tQ), Ex X d mX7_isS 9 [.ref x0, v1] [] σ Q = Ex X d mX7_isS 10 [.ref x0, v1] [.ref x0] σ Q) ∧
  (∀ (X : tX) (d : Nat) (x0 : Nat) (v1 : Value) (s0 : Nat) (T : tT) (I : tI) (J : tJ) (R : tR) (Q : tQ), Ex X (d + 1) mX7_isS 10 [.ref x0, v1] [.ref s0] (T, I, J, R) Q = (T[s0]? = some (3, 7) ∧ Ex X d mX7_sign 0 [.ref s0] [] (T, I, J, R) (fun v σ1 => Ex X (d + 1) mX7_isS 13 [.ref x0, v1] (v.toList ++ []) σ1 Q))) := ⟨fun X d x0 v1 σ Q => ex_P (i := .aload_n 0) (len := 1) (by decide +kernel) rfl,
  fun X d x0 v1 s0 T I J R Q => q_callV (k := 148) (as := []) (st := []) (show rlk mX7_isS.2.2.2.2.2.2 10 = some (.invokevirtual 148, 3) from by decide +kernel) rfl rfl rfl (Nat.le_of_ble_eq_true rfl) (Nat.le_of_ble_eq_true rfl) rfl⟩
set_option maxRecDepth 50000 in
theorem gX7_isS_13 : (∀ (X : tX) (d : Nat) (x0 : Nat) (v1 : Value) (s0 : Int32) (σ : rS) (Q : tQ), Ex X d mX7_isS 13 [.ref x0, v1] [.int s0] σ Q = Ex X d mX7_isS 15 [.ref x0, v1] [.int 43, .int s0] σ Q) ∧
  (∀ (X : tX) (d : Nat) (x0 : Nat) (v1 : Value) (s0 : Int32) (s1 : Int32) (σ : rS) (Q : tQ), Ex X d mX7_isS 15 [.ref x0, v1] [.int s0, .int s1] σ Q = (if s1 = s0 then Ex X d mX7_isS 18 [.ref x0, v1] [] σ Q else Ex X d mX7_isS 23 [.ref x0, v1] [] σ Q)) := ⟨fun X d x0 v1 s0 σ Q => ex_P (i := .bipush 43) (len := 2) (by decide +kernel) rfl,
  fun X d x0 v1 s0 s1 σ Q => q_icmp_ne (o := 8) (by decide +kernel) rfl⟩
set_option maxRecDepth 50000 in
theorem gX7_isS_18 : (∀ (X : tX) (d : Nat) (x0 : Nat) (v1 : Value) (σ : rS) (Q : tQ), Ex X d mX7_isS 18 [.ref x0, v1] [] σ Q = Ex X d mX7_isS 20 [.ref x0, v1] [.int 11] σ Q) ∧
  (∀ (X : tX) (d : Nat) (x0 : Nat) (v1 : Value) (s0 : Int32) (σ : rS) (Q : tQ), Ex X d mX7_isS 20 [.ref x0, v1] [.int s0] σ Q = Ex X d mX7_isS 38 [.ref x0, v1] [.int s0] σ Q) := ⟨fun X d x0 v1 σ Q => ex_P (i := .bipush 11) (len := 2) (by decide +kernel) rfl,
  fun X d x0 v1 s0 σ Q => q_goto (o := 18) (by decide +kernel) rfl⟩
set_option maxRecDepth 50000 in
theorem gX7_isS_23 : (∀ (X : tX) (d : Nat) (x0 : Nat) (v1 : Value) (σ : rS) (Q : tQ), Ex X d mX7_isS 23 [.ref x0, v1] [] σ Q = Ex X d mX7_isS 24 [.ref x0, v1] [.ref x0] σ Q) ∧
  (∀ (X : tX) (d : Nat) (x0 : Nat) (v1 : Value) (s0 : Nat) (T : tT) (I : tI) (J : tJ) (R : tR) (Q : tQ), Ex X (d + 1) mX7_isS 24 [.ref x0, v1] [.ref s0] (T, I, J, R) Q = (T[s0]? = some (3, 7) ∧ Ex X d mX7_sign 0 [.ref s0] [] (T, I, J, R) (fun v σ1 => Ex X (d + 1) mX7_isS 27 [.ref x0, v1] (v.toList ++ []) σ1 Q))) := ⟨fun X d x0 v1 σ Q => ex_P (i := .aload_n 0) (len := 1) (by decide +kernel) rfl,
  fun X d x0 v1 s0 T I J R Q => q_callV (k := 148) (as := []) (st := []) (show rlk mX7_isS.2.2.2.2.2.2 24 = some (.invokevirtual 148, 3) from by decide +kernel) rfl rfl rfl (Nat.le_of_ble_eq_true rfl) (Nat.le_of_ble_eq_true rfl) rfl⟩
set_option maxRecDepth 50000 in
theorem gX7_isS_27 : (∀ (X : tX) (d : Nat) (x0 : Nat) (v1 : Value) (s0 : Int32) (σ : rS) (Q : tQ), Ex X d mX7_isS 27 [.ref x0, v1] [.int s0] σ Q = Ex X d mX7_isS 29 [.ref x0, v1] [.int 45, .int s0] σ Q) ∧
  (∀ (X : tX) (d : Nat) (x0 : Nat) (v1 : Value) (s0 : Int32) (s1 : Int32) (σ : rS) (Q : tQ), Ex X d mX7_isS 29 [.ref x0, v1] [.int s0, .int s1] σ Q = (if s1 = s0 then Ex X d mX7_isS 32 [.ref x0, v1] [] σ Q else Ex X d mX7_isS 37 [.ref x0, v1] [] σ Q)) := ⟨fun X d x0 v1 s0 σ Q => ex_P (i := .bipush 45) (len := 2) (by decide +kernel) rfl,
  fun X d x0 v1 s0 s1 σ Q => q_icmp_ne (o := 8) (by decide +kernel) rfl⟩
set_option maxRecDepth 50000 in
theorem gX7_isS_32 : (∀ (X : tX) (d : Nat) (x0 : Nat) (v1 : Value) (σ : rS) (Q : tQ), Ex X d mX7_isS 32 [.ref x0, v1] [] σ Q = Ex X d mX7_isS 34 [.ref x0, v1] [.int 12] σ Q) ∧
  (∀ (X : tX) (d : Nat) (x0 : Nat) (v1 : Value) (s0 : Int32) (σ : rS) (Q : tQ), Ex X d mX7_isS 34 [.ref x0, v1] [.int s0] σ Q = Ex X d mX7_isS 38 [.ref x0, v1] [.int s0] σ Q) := ⟨fun X d x0 v1 σ Q => ex_P (i := .bipush 12) (len := 2) (by decide +kernel) rfl,
  fun X d x0 v1 s0 σ Q => q_goto (o := 4) (by decide +kernel) rfl⟩
set_option maxRecDepth 50000 in
theorem gX7_isS_37 : (∀ (X : tX) (d : Nat) (x0 : Nat) (v1 : Value) (σ : rS) (Q : tQ), Ex X d mX7_isS 37 [.ref x0, v1] [] σ Q = Ex X d mX7_isS 38 [.ref x0, v1] [.int (-1)] σ Q) := fun X d x0 v1 σ Q => ex_P (i := .iconst (-1)) (len := 1) (by decide +kernel) rfl
set_option maxRecDepth 50000 in
theorem gX7_isS_38 : (∀ (X : tX) (d : Nat) (x0 : Nat) (v1 : Value) (s0 : Int32) (σ : rS) (Q : tQ), Ex X d mX7_isS 38 [.ref x0, v1] [.int s0] σ Q = Ex X d mX7_isS 39 [.ref x0, .int s0] [] σ Q) ∧
  (∀ (X : tX) (d : Nat) (x0 : Nat) (x1 : Int32) (σ : rS) (Q : tQ), Ex X d mX7_isS 39 [.ref x0, .int x1] [] σ Q = Ex X d mX7_isS 40 [.ref x0, .int x1] [.int x1] σ Q) ∧
  (∀ (X : tX) (d : Nat) (x0 : Nat) (x1 : Int32) (s0 : Int32) (σ : rS) (Q : tQ), Ex X d mX7_isS 40 [.ref x0, .int x1] [.int s0] σ Q = (if 0 ≤ s0 then Ex X d mX7_isS 45 [.ref x0, .int x1] [] σ Q else Ex X d mX7_isS 43 [.ref x0, .int x1] [] σ Q)) := ⟨fun X d x0 v1 s0 σ Q => ex_P (i := .istore_n 1) (len := 1) (by decide +kernel) rfl,
  fun X d x0 x1 σ Q => ex_P (i := .iload_n 1) (len := 1) (by decide +kernel) rfl,
  fun X d x0 x1 s0 σ Q => q_if_ge (o := 5) (by decide +kernel) rfl⟩
set_option maxRecDepth 50000 in
theorem gX7_isS_43 : (∀ (X : tX) (d : Nat) (x0 : Nat) (x1 : Int32) (σ : rS) (Q : tQ), Ex X d mX7_isS 43 [.ref x0, .int x1] [] σ Q = Ex X d mX7_isS 44 [.ref x0, .int x1] [.int 1] σ Q) ∧
  (∀ (X : tX) (d : Nat) (x0 : Nat) (x1 : Int32) (s0 : Int32) (σ : rS) (Q : tQ), Ex X d mX7_isS 44 [.ref x0, .int x1] [.int s0] σ Q = ((s0 = 0 ∨ s0 = 1) ∧ Q (some (.int s0)) σ)) := ⟨fun X d x0 x1 σ Q => ex_P (i := .iconst 1) (len := 1) (by decide +kernel) rfl,
  fun X d x0 x1 s0 σ Q => q_retZ (by decide +kernel) rfl⟩
set_option maxRecDepth 50000 in
theorem gX7_isS_45 : (∀ (X : tX) (d : Nat) (x0 : Nat) (x1 : Int32) (σ : rS) (Q : tQ), Ex X d mX7_isS 45 [.ref x0, .int x1] [] σ Q = Ex X d mX7_isS 46 [.ref x0, .int x1] [.ref x0] σ Q) ∧
  (∀ (X : tX) (d : Nat) (x0 : Nat) (x1 : Int32) (s0 : Nat) (σ : rS) (Q : tQ), Ex X d mX7_isS 46 [.ref x0, .int x1] [.ref s0] σ Q = Ex X d mX7_isS 47 [.ref x0, .int x1] [.ref s0, .ref s0] σ Q) ∧
  (∀ (X : tX) (d : Nat) (x0 : Nat) (x1 : Int32) (s0 : Nat) (s1 : Nat) (T : tT) (I : tI) (J : tJ) (R : tR) (Q : tQ), Ex X d mX7_isS 47 [.ref x0, .int x1] [.ref s0, .ref s1] (T, I, J, R) Q = (T[s0]? = some (3, 7) ∧ Ex X d mX7_isS 50 [.ref x0, .int x1] [.int (I s0 12), .ref s1] (T, I, J, R) Q)) ∧
  (∀ (X : tX) (d : Nat) (x0 : Nat) (x1 : Int32) (s0 : Int32) (s1 : Nat) (σ : rS) (Q : tQ), Ex X d mX7_isS 50 [.ref x0, .int x1] [.int s0, .ref s1] σ Q = Ex X d mX7_isS 51 [.ref x0, .int x1] [.int 1, .int s0, .ref s1] σ Q) ∧
  (∀ (X : tX) (d : Nat) (x0 : Nat) (x1 : Int32) (s0 : Int32) (s1 : Int32) (s2 : Nat) (σ : rS) (Q : tQ), Ex X d mX7_isS 51 [.ref x0, .int x1] [.int s0, .int s1, .ref s2] σ Q = Ex X d mX7_isS 52 [.ref x0, .int x1] [.int (s1 + s0), .ref s2] σ Q) ∧
  (∀ (X : tX) (d : Nat) (x0 : Nat) (x1 : Int32) (s0 : Int32) (s1 : Nat) (T : tT) (I : tI) (J : tJ) (R : tR) (Q : tQ), Ex X d mX7_isS 52 [.ref x0, .int x1] [.int s0, .ref s1] (T, I, J, R) Q = (T[s1]? = some (3, 7) ∧ Ex X d mX7_isS 55 [.ref x0, .int x1] [] (T, va_up I s1 (va_up (I s1) 12 s0), J, R) Q)) ∧
  (∀ (X : tX) (d : Nat) (x0 : Nat) (x1 : Int32) (σ : rS) (Q : tQ), Ex X d mX7_isS 55 [.ref x0, .int x1] [] σ Q = Ex X d mX7_isS 56 [.ref x0, .int x1] [.ref x0] σ Q) ∧
  (∀ (X : tX) (d : Nat) (x0 : Nat) (x1 : Int32) (s0 : Nat) (T : tT) (I : tI) (J : tJ) (R : tR) (Q : tQ), Ex X (d + 1) mX7_isS 56 [.ref x0, .int x1] [.ref s0] (T, I, J, R) Q = (T[s0]? = some (3, 7) ∧ Ex X d mX7_isP 0 [.ref s0, rU] [] (T, I, J, R) (fun v σ1 => Ex X (d + 1) mX7_isS 59 [.ref x0, .int x1] (v.toList ++ []) σ1 Q))) := ⟨fun X d x0 x1 σ Q => ex_P (i := .aload_n 0) (len := 1) (by decide +kernel) rfl,
  fun X d x0 x1 s0 σ Q => ex_P (i := .dup) (len := 1) (by decide +kernel) rfl,
  fun X d x0 x1 s0 s1 T I J R Q => q_getI (k := 145) (by decide +kernel) rfl rfl (by decide),
  fun X d x0 x1 s0 s1 σ Q => ex_P (i := .iconst 1) (len := 1) (by decide +kernel) rfl,
  fun X d x0 x1 s0 s1 s2 σ Q => ex_P (i := .iadd) (len := 1) (by decide +kernel) rfl,
  fun X d x0 x1 s0 s1 T I J R Q => q_putI (k := 145) (by decide +kernel) rfl rfl (by decide +kernel),
  fun X d x0 x1 σ Q => ex_P (i := .aload_n 0) (len := 1) (by decide +kernel) rfl,
  fun X d x0 x1 s0 T I J R Q => q_callV (k := 178) (as := []) (st := []) (show rlk mX7_isS.2.2.2.2.2.2 56 = some (.invokevirtual 178, 3) from by decide +kernel) rfl rfl rfl (Nat.le_of_ble_eq_true rfl) (Nat.le_of_ble_eq_true rfl) rfl⟩
set_option maxRecDepth 50000 in
theorem gX7_isS_59 : (∀ (X : tX) (d : Nat) (x0 : Nat) (x1 : Int32) (s0 : Int32) (σ : rS) (Q : tQ), Ex X d mX7_isS 59 [.ref x0, .int x1] [.int s0] σ Q = (if s0 = 0 then Ex X d mX7_isS 62 [.ref x0, .int x1] [] σ Q else Ex X d mX7_isS 64 [.ref x0, .int x1] [] σ Q)) := fun X d x0 x1 s0 σ Q => q_if_ne (o := 5) (by decide +kernel) rfl
set_option maxRecDepth 50000 in
theorem gX7_isS_62 : (∀ (X : tX) (d : Nat) (x0 : Nat) (x1 : Int32) (σ : rS) (Q : tQ), Ex X d mX7_isS 62 [.ref x0, .int x1] [] σ Q = Ex X d mX7_isS 63 [.ref x0, .int x1] [.int 0] σ Q) ∧
  (∀ (X : tX) (d : Nat) (x0 : Nat) (x1 : Int32) (s0 : Int32) (σ : rS) (Q : tQ), Ex X d mX7_isS 63 [.ref x0, .int x1] [.int s0] σ Q = ((s0 = 0 ∨ s0 = 1) ∧ Q (some (.int s0)) σ)) := ⟨fun X d x0 x1 σ Q => ex_P (i := .iconst 0) (len := 1) (by decide +kernel) rfl,
  fun X d x0 x1 s0 σ Q => q_retZ (by decide +kernel) rfl⟩
set_option maxRecDepth 50000 in
theorem gX7_isS_64 : (∀ (X : tX) (d : Nat) (x0 : Nat) (x1 : Int32) (σ : rS) (Q : tQ), Ex X d mX7_isS 64 [.ref x0, .int x1] [] σ Q = Ex X d mX7_isS 65 [.ref x0, .int x1] [.ref x0] σ Q) ∧
  (∀ (X : tX) (d : Nat) (x0 : Nat) (x1 : Int32) (s0 : Nat) (σ : rS) (Q : tQ), Ex X d mX7_isS 65 [.ref x0, .int x1] [.ref s0] σ Q = Ex X d mX7_isS 66 [.ref x0, .int x1] [.int x1, .ref s0] σ Q) ∧
  (∀ (X : tX) (d : Nat) (x0 : Nat) (x1 : Int32) (s0 : Int32) (s1 : Nat) (T : tT) (I : tI) (J : tJ) (R : tR) (Q : tQ), Ex X (d + 1) mX7_isS 66 [.ref x0, .int x1] [.int s0, .ref s1] (T, I, J, R) Q = (T[s1]? = some (3, 7) ∧ Ex X d mX7_codes 0 [.ref s1, .int s0] [] (T, I, J, R) (fun v σ1 => Ex X (d + 1) mX7_isS 69 [.ref x0, .int x1] (v.toList ++ []) σ1 Q))) := ⟨fun X d x0 x1 σ Q => ex_P (i := .aload_n 0) (len := 1) (by decide +kernel) rfl,
  fun X d x0 x1 s0 σ Q => ex_P (i := .iload_n 1) (len := 1) (by decide +kernel) rfl,
  fun X d x0 x1 s0 s1 T I J R Q => q_callV (k := 159) (as := [.int s0]) (st := []) (show rlk mX7_isS.2.2.2.2.2.2 66 = some (.invokevirtual 159, 3) from by decide +kernel) rfl rfl rfl (Nat.le_of_ble_eq_true rfl) (Nat.le_of_ble_eq_true rfl) rfl⟩
set_option maxRecDepth 50000 in
theorem gX7_isS_69 : (∀ (X : tX) (d : Nat) (x0 : Nat) (x1 : Int32) (s0 : Int32) (σ : rS) (Q : tQ), Ex X d mX7_isS 69 [.ref x0, .int x1] [.int s0] σ Q = Ex X d mX7_isS 70 [.ref x0, .int x1] [] σ Q) ∧
  (∀ (X : tX) (d : Nat) (x0 : Nat) (x1 : Int32) (σ : rS) (Q : tQ), Ex X d mX7_isS 70 [.ref x0, .int x1] [] σ Q = Ex X d mX7_isS 9 [.ref x0, .int x1] [] σ Q) := ⟨fun X d x0 x1 s0 σ Q => ex_P (i := .pop) (len := 1) (by decide +kernel) rfl,
  fun X d x0 x1 σ Q => q_goto (o := (-61)) (by decide +kernel) rfl⟩
set_option maxRecDepth 50000 in
theorem gX7_isB_0 : (∀ (X : tX) (d : Nat) (x0 : Nat) (σ : rS) (Q : tQ), Ex X d mX7_isB 0 [.ref x0, rU] [] σ Q = Ex X d mX7_isB 1 [.ref x0, rU] [.ref x0] σ Q) ∧
  (∀ (X : tX) (d : Nat) (x0 : Nat) (s0 : Nat) (T : tT) (I : tI) (J : tJ) (R : tR) (Q : tQ), Ex X (d + 1) mX7_isB 1 [.ref x0, rU] [.ref s0] (T, I, J, R) Q = (T[s0]? = some (3, 7) ∧ Ex X d mX7_isS 0 [.ref s0, rU] [] (T, I, J, R) (fun v σ1 => Ex X (d + 1) mX7_isB 4 [.ref x0, rU] (v.toList ++ []) σ1 Q))) := ⟨fun X d x0 σ Q => ex_P (i := .aload_n 0) (len := 1) (by decide +kernel) rfl,
  fun X d x0 s0 T I J R Q => q_callV (k := 181) (as := []) (st := []) (show rlk mX7_isB.2.2.2.2.2.2 1 = some (.invokevirtual 181, 3) from by decide +kernel) rfl rfl rfl (Nat.le_of_ble_eq_true rfl) (Nat.le_of_ble_eq_true rfl) rfl⟩
set_option maxRecDepth 50000 in
theorem gX7_isB_4 : (∀ (X : tX) (d : Nat) (x0 : Nat) (s0 : Int32) (σ : rS) (Q : tQ), Ex X d mX7_isB 4 [.ref x0, rU] [.int s0] σ Q = (if s0 = 0 then Ex X d mX7_isB 7 [.ref x0, rU] [] σ Q else Ex X d mX7_isB 9 [.ref x0, rU] [] σ Q)) := fun X d x0 s0 σ Q => q_if_ne (o := 5) (by decide +kernel) rfl
set_option maxRecDepth 50000 in
theorem gX7_isB_7 : (∀ (X : tX) (d : Nat) (x0 : Nat) (σ : rS) (Q : tQ), Ex X d mX7_isB 7 [.ref x0, rU] [] σ Q = Ex X d mX7_isB 8 [.ref x0, rU] [.int 0] σ Q) ∧
  (∀ (X : tX) (d : Nat) (x0 : Nat) (s0 : Int32) (σ : rS) (Q : tQ), Ex X d mX7_isB 8 [.ref x0, rU] [.int s0] σ Q = ((s0 = 0 ∨ s0 = 1) ∧ Q (some (.int s0)) σ)) := ⟨fun X d x0 σ Q => ex_P (i := .iconst 0) (len := 1) (by decide +kernel) rfl,
  fun X d x0 s0 σ Q => q_retZ (by decide +kernel) rfl⟩
set_option maxRecDepth 50000 in
theorem gX7_isB_9 : (∀ (X : tX) (d : Nat) (x0 : Nat) (σ : rS) (Q : tQ), Ex X d mX7_isB 9 [.ref x0, rU] [] σ Q = Ex X d mX7_isB 10 [.ref x0, rU] [.ref x0] σ Q) ∧
  (∀ (X : tX) (d : Nat) (x0 : Nat) (s0 : Nat) (T : tT) (I : tI) (J : tJ) (R : tR) (Q : tQ), Ex X (d + 1) mX7_isB 10 [.ref x0, rU] [.ref s0] (T, I, J, R) Q = (T[s0]? = some (3, 7) ∧ Ex X d mX7_sign 0 [.ref s0] [] (T, I, J, R) (fun v σ1 => Ex X (d + 1) mX7_isB 13 [.ref x0, rU] (v.toList ++ []) σ1 Q))) := ⟨fun X d x0 σ Q => ex_P (i := .aload_n 0) (len := 1) (by decide +kernel) rfl,
  fun X d x0 s0 T I J R Q => q_callV (k := 148) (as := []) (st := []) (show rlk mX7_isB.2.2.2.2.2.2 10 = some (.invokevirtual 148, 3) from by decide +kernel) rfl rfl rfl (Nat.le_of_ble_eq_true rfl) (Nat.le_of_ble_eq_true rfl) rfl⟩
set_option maxRecDepth 50000 in
theorem gX7_isB_13 : (∀ (X : tX) (d : Nat) (x0 : Nat) (s0 : Int32) (σ : rS) (Q : tQ), Ex X d mX7_isB 13 [.ref x0, rU] [.int s0] σ Q = Ex X d mX7_isB 15 [.ref x0, rU] [.int 60, .int s0] σ Q) ∧
  (∀ (X : tX) (d : Nat) (x0 : Nat) (s0 : Int32) (s1 : Int32) (σ : rS) (Q : tQ), Ex X d mX7_isB 15 [.ref x0, rU] [.int s0, .int s1] σ Q = (if s1 = s0 then Ex X d mX7_isB 18 [.ref x0, rU] [] σ Q else Ex X d mX7_isB 23 [.ref x0, rU] [] σ Q)) := ⟨fun X d x0 s0 σ Q => ex_P (i := .bipush 60) (len := 2) (by decide +kernel) rfl,
  fun X d x0 s0 s1 σ Q => q_icmp_ne (o := 8) (by decide +kernel) rfl⟩
set_option maxRecDepth 50000 in
theorem gX7_isB_18 : (∀ (X : tX) (d : Nat) (x0 : Nat) (σ : rS) (Q : tQ), Ex X d mX7_isB 18 [.ref x0, rU] [] σ Q = Ex X d mX7_isB 20 [.ref x0, rU] [.int 8] σ Q) ∧
  (∀ (X : tX) (d : Nat) (x0 : Nat) (s0 : Int32) (σ : rS) (Q : tQ), Ex X d mX7_isB 20 [.ref x0, rU] [.int s0] σ Q = Ex X d mX7_isB 52 [.ref x0, rU] [.int s0] σ Q) := ⟨fun X d x0 σ Q => ex_P (i := .bipush 8) (len := 2) (by decide +kernel) rfl,
  fun X d x0 s0 σ Q => q_goto (o := 32) (by decide +kernel) rfl⟩
set_option maxRecDepth 50000 in
theorem gX7_isB_23 : (∀ (X : tX) (d : Nat) (x0 : Nat) (σ : rS) (Q : tQ), Ex X d mX7_isB 23 [.ref x0, rU] [] σ Q = Ex X d mX7_isB 24 [.ref x0, rU] [.ref x0] σ Q) ∧
  (∀ (X : tX) (d : Nat) (x0 : Nat) (s0 : Nat) (T : tT) (I : tI) (J : tJ) (R : tR) (Q : tQ), Ex X (d + 1) mX7_isB 24 [.ref x0, rU] [.ref s0] (T, I, J, R) Q = (T[s0]? = some (3, 7) ∧ Ex X d mX7_sign 0 [.ref s0] [] (T, I, J, R) (fun v σ1 => Ex X (d + 1) mX7_isB 27 [.ref x0, rU] (v.toList ++ []) σ1 Q))) := ⟨fun X d x0 σ Q => ex_P (i := .aload_n 0) (len := 1) (by decide +kernel) rfl,
  fun X d x0 s0 T I J R Q => q_callV (k := 148) (as := []) (st := []) (show rlk mX7_isB.2.2.2.2.2.2 24 = some (.invokevirtual 148, 3) from by decide +kernel) rfl rfl rfl (Nat.le_of_ble_eq_true rfl) (Nat.le_of_ble_eq_true rfl) rfl⟩
set_option maxRecDepth 50000 in
theorem gX7_isB_27 : (∀ (X : tX) (d : Nat) (x0 : Nat) (s0 : Int32) (σ : rS) (Q : tQ), Ex X d mX7_isB 27 [.ref x0, rU] [.int s0] σ Q = Ex X d mX7_isB 29 [.ref x0, rU] [.int 61, .int s0] σ Q) ∧
  (∀ (X : tX) (d : Nat) (x0 : Nat) (s0 : Int32) (s1 : Int32) (σ : rS) (Q : tQ), Ex X d mX7_isB 29 [.ref x0, rU] [.int s0, .int s1] σ Q = (if s1 = s0 then Ex X d mX7_isB 32 [.ref x0, rU] [] σ Q else Ex X d mX7_isB 37 [.ref x0, rU] [] σ Q)) := ⟨fun X d x0 s0 σ Q => ex_P (i := .bipush 61) (len := 2) (by decide +kernel) rfl,
  fun X d x0 s0 s1 σ Q => q_icmp_ne (o := 8) (by decide +kernel) rfl⟩
set_option maxRecDepth 50000 in
theorem gX7_isB_32 : (∀ (X : tX) (d : Nat) (x0 : Nat) (σ : rS) (Q : tQ), Ex X d mX7_isB 32 [.ref x0, rU] [] σ Q = Ex X d mX7_isB 34 [.ref x0, rU] [.int 9] σ Q) ∧
  (∀ (X : tX) (d : Nat) (x0 : Nat) (s0 : Int32) (σ : rS) (Q : tQ), Ex X d mX7_isB 34 [.ref x0, rU] [.int s0] σ Q = Ex X d mX7_isB 52 [.ref x0, rU] [.int s0] σ Q) := ⟨fun X d x0 σ Q => ex_P (i := .bipush 9) (len := 2) (by decide +kernel) rfl,
  fun X d x0 s0 σ Q => q_goto (o := 18) (by decide +kernel) rfl⟩
set_option maxRecDepth 50000 in
theorem gX7_isB_37 : (∀ (X : tX) (d : Nat) (x0 : Nat) (σ : rS) (Q : tQ), Ex X d mX7_isB 37 [.ref x0, rU] [] σ Q = Ex X d mX7_isB 38 [.ref x0, rU] [.ref x0] σ Q) ∧
  (∀ (X : tX) (d : Nat) (x0 : Nat) (s0 : Nat) (T : tT) (I : tI) (J : tJ) (R : tR) (Q : tQ), Ex X (d + 1) mX7_isB 38 [.ref x0, rU] [.ref s0] (T, I, J, R) Q = (T[s0]? = some (3, 7) ∧ Ex X d mX7_sign 0 [.ref s0] [] (T, I, J, R) (fun v σ1 => Ex X (d + 1) mX7_isB 41 [.ref x0, rU] (v.toList ++ []) σ1 Q))) := ⟨fun X d x0 σ Q => ex_P (i := .aload_n 0) (len := 1) (by decide +kernel) rfl,
  fun X d x0 s0 T I J R Q => q_callV (k := 148) (as := []) (st := []) (show rlk mX7_isB.2.2.2.2.2.2 38 = some (.invokevirtual 148, 3) from by decide +kernel) rfl rfl rfl (Nat.le_of_ble_eq_true rfl) (Nat.le_of_ble_eq_true rfl) rfl⟩
set_option maxRecDepth 50000 in
theorem gX7_isB_41 : (∀ (X : tX) (d : Nat) (x0 : Nat) (s0 : Int32) (σ : rS) (Q : tQ), Ex X d mX7_isB 41 [.ref x0, rU] [.int s0] σ Q = Ex X d mX7_isB 43 [.ref x0, rU] [.int 62, .int s0] σ Q) ∧
  (∀ (X : tX) (d : Nat) (x0 : Nat) (s0 : Int32) (s1 : Int32) (σ : rS) (Q : tQ), Ex X d mX7_isB 43 [.ref x0, rU] [.int s0, .int s1] σ Q = (if s1 = s0 then Ex X d mX7_isB 46 [.ref x0, rU] [] σ Q else Ex X d mX7_isB 51 [.ref x0, rU] [] σ Q)) := ⟨fun X d x0 s0 σ Q => ex_P (i := .bipush 62) (len := 2) (by decide +kernel) rfl,
  fun X d x0 s0 s1 σ Q => q_icmp_ne (o := 8) (by decide +kernel) rfl⟩
set_option maxRecDepth 50000 in
theorem gX7_isB_46 : (∀ (X : tX) (d : Nat) (x0 : Nat) (σ : rS) (Q : tQ), Ex X d mX7_isB 46 [.ref x0, rU] [] σ Q = Ex X d mX7_isB 48 [.ref x0, rU] [.int 10] σ Q) ∧
  (∀ (X : tX) (d : Nat) (x0 : Nat) (s0 : Int32) (σ : rS) (Q : tQ), Ex X d mX7_isB 48 [.ref x0, rU] [.int s0] σ Q = Ex X d mX7_isB 52 [.ref x0, rU] [.int s0] σ Q) := ⟨fun X d x0 σ Q => ex_P (i := .bipush 10) (len := 2) (by decide +kernel) rfl,
  fun X d x0 s0 σ Q => q_goto (o := 4) (by decide +kernel) rfl⟩
set_option maxRecDepth 50000 in
theorem gX7_isB_51 : (∀ (X : tX) (d : Nat) (x0 : Nat) (σ : rS) (Q : tQ), Ex X d mX7_isB 51 [.ref x0, rU] [] σ Q = Ex X d mX7_isB 52 [.ref x0, rU] [.int (-1)] σ Q) := fun X d x0 σ Q => ex_P (i := .iconst (-1)) (len := 1) (by decide +kernel) rfl
set_option maxRecDepth 50000 in
theorem gX7_isB_52 : (∀ (X : tX) (d : Nat) (x0 : Nat) (s0 : Int32) (σ : rS) (Q : tQ), Ex X d mX7_isB 52 [.ref x0, rU] [.int s0] σ Q = Ex X d mX7_isB 53 [.ref x0, .int s0] [] σ Q) ∧
  (∀ (X : tX) (d : Nat) (x0 : Nat) (x1 : Int32) (σ : rS) (Q : tQ), Ex X d mX7_isB 53 [.ref x0, .int x1] [] σ Q = Ex X d mX7_isB 54 [.ref x0, .int x1] [.int x1] σ Q) ∧
  (∀ (X : tX) (d : Nat) (x0 : Nat) (x1 : Int32) (s0 : Int32) (σ : rS) (Q : tQ), Ex X d mX7_isB 54 [.ref x0, .int x1] [.int s0] σ Q = (if 0 ≤ s0 then Ex X d mX7_isB 59 [.ref x0, .int x1] [] σ Q else Ex X d mX7_isB 57 [.ref x0, .int x1] [] σ Q)) := ⟨fun X d x0 s0 σ Q => ex_P (i := .istore_n 1) (len := 1) (by decide +kernel) rfl,
  fun X d x0 x1 σ Q => ex_P (i := .iload_n 1) (len := 1) (by decide +kernel) rfl,
  fun X d x0 x1 s0 σ Q => q_if_ge (o := 5) (by decide +kernel) rfl⟩
set_option maxRecDepth 50000 in
theorem gX7_isB_57 : (∀ (X : tX) (d : Nat) (x0 : Nat) (x1 : Int32) (σ : rS) (Q : tQ), Ex X d mX7_isB 57 [.ref x0, .int x1] [] σ Q = Ex X d mX7_isB 58 [.ref x0, .int x1] [.int 1] σ Q) ∧
  (∀ (X : tX) (d : Nat) (x0 : Nat) (x1 : Int32) (s0 : Int32) (σ : rS) (Q : tQ), Ex X d mX7_isB 58 [.ref x0, .int x1] [.int s0] σ Q = ((s0 = 0 ∨ s0 = 1) ∧ Q (some (.int s0)) σ)) := ⟨fun X d x0 x1 σ Q => ex_P (i := .iconst 1) (len := 1) (by decide +kernel) rfl,
  fun X d x0 x1 s0 σ Q => q_retZ (by decide +kernel) rfl⟩
set_option maxRecDepth 50000 in
theorem gX7_isB_59 : (∀ (X : tX) (d : Nat) (x0 : Nat) (x1 : Int32) (σ : rS) (Q : tQ), Ex X d mX7_isB 59 [.ref x0, .int x1] [] σ Q = Ex X d mX7_isB 60 [.ref x0, .int x1] [.ref x0] σ Q) ∧
  (∀ (X : tX) (d : Nat) (x0 : Nat) (x1 : Int32) (s0 : Nat) (σ : rS) (Q : tQ), Ex X d mX7_isB 60 [.ref x0, .int x1] [.ref s0] σ Q = Ex X d mX7_isB 61 [.ref x0, .int x1] [.ref s0, .ref s0] σ Q) ∧
  (∀ (X : tX) (d : Nat) (x0 : Nat) (x1 : Int32) (s0 : Nat) (s1 : Nat) (T : tT) (I : tI) (J : tJ) (R : tR) (Q : tQ), Ex X d mX7_isB 61 [.ref x0, .int x1] [.ref s0, .ref s1] (T, I, J, R) Q = (T[s0]? = some (3, 7) ∧ Ex X d mX7_isB 64 [.ref x0, .int x1] [.int (I s0 12), .ref s1] (T, I, J, R) Q)) ∧
  (∀ (X : tX) (d : Nat) (x0 : Nat) (x1 : Int32) (s0 : Int32) (s1 : Nat) (σ : rS) (Q : tQ), Ex X d mX7_isB 64 [.ref x0, .int x1] [.int s0, .ref s1] σ Q = Ex X d mX7_isB 65 [.ref x0, .int x1] [.int 1, .int s0, .ref s1] σ Q) ∧
  (∀ (X : tX) (d : Nat) (x0 : Nat) (x1 : Int32) (s0 : Int32) (s1 : Int32) (s2 : Nat) (σ : rS) (Q : tQ), Ex X d mX7_isB 65 [.ref x0, .int x1] [.int s0, .int s1, .ref s2] σ Q = Ex X d mX7_isB 66 [.ref x0, .int x1] [.int (s1 + s0), .ref s2] σ Q) ∧
  (∀ (X : tX) (d : Nat) (x0 : Nat) (x1 : Int32) (s0 : Int32) (s1 : Nat) (T : tT) (I : tI) (J : tJ) (R : tR) (Q : tQ), Ex X d mX7_isB 66 [.ref x0, .int x1] [.int s0, .ref s1] (T, I, J, R) Q = (T[s1]? = some (3, 7) ∧ Ex X d mX7_isB 69 [.ref x0, .int x1] [] (T, va_up I s1 (va_up (I s1) 12 s0), J, R) Q)) ∧
  (∀ (X : tX) (d : Nat) (x0 : Nat) (x1 : Int32) (σ : rS) (Q : tQ), Ex X d mX7_isB 69 [.ref x0, .int x1] [] σ Q = Ex X d mX7_isB 70 [.ref x0, .int x1] [.ref x0] σ Q) ∧
  (∀ (X : tX) (d : Nat) (x0 : Nat) (x1 : Int32) (s0 : Nat) (T : tT) (I : tI) (J : tJ) (R : tR) (Q : tQ), Ex X (d + 1) mX7_isB 70 [.ref x0, .int x1] [.ref s0] (T, I, J, R) Q = (T[s0]? = some (3, 7) ∧ Ex X d mX7_isS 0 [.ref s0, rU] [] (T, I, J, R) (fun v σ1 => Ex X (d + 1) mX7_isB 73 [.ref x0, .int x1] (v.toList ++ []) σ1 Q))) := ⟨fun X d x0 x1 σ Q => ex_P (i := .aload_n 0) (len := 1) (by decide +kernel) rfl,
  fun X d x0 x1 s0 σ Q => ex_P (i := .dup) (len := 1) (by decide +kernel) rfl,
  fun X d x0 x1 s0 s1 T I J R Q => q_getI (k := 145) (by decide +kernel) rfl rfl (by decide),
  fun X d x0 x1 s0 s1 σ Q => ex_P (i := .iconst 1) (len := 1) (by decide +kernel) rfl,
  fun X d x0 x1 s0 s1 s2 σ Q => ex_P (i := .iadd) (len := 1) (by decide +kernel) rfl,
  fun X d x0 x1 s0 s1 T I J R Q => q_putI (k := 145) (by decide +kernel) rfl rfl (by decide +kernel),
  fun X d x0 x1 σ Q => ex_P (i := .aload_n 0) (len := 1) (by decide +kernel) rfl,
  fun X d x0 x1 s0 T I J R Q => q_callV (k := 181) (as := []) (st := []) (show rlk mX7_isB.2.2.2.2.2.2 70 = some (.invokevirtual 181, 3) from by decide +kernel) rfl rfl rfl (Nat.le_of_ble_eq_true rfl) (Nat.le_of_ble_eq_true rfl) rfl⟩
set_option maxRecDepth 50000 in
theorem gX7_isB_73 : (∀ (X : tX) (d : Nat) (x0 : Nat) (x1 : Int32) (s0 : Int32) (σ : rS) (Q : tQ), Ex X d mX7_isB 73 [.ref x0, .int x1] [.int s0] σ Q = (if s0 = 0 then Ex X d mX7_isB 88 [.ref x0, .int x1] [] σ Q else Ex X d mX7_isB 76 [.ref x0, .int x1] [] σ Q)) := fun X d x0 x1 s0 σ Q => q_if_eq (o := 15) (by decide +kernel) rfl
set_option maxRecDepth 50000 in
theorem gX7_isB_76 : (∀ (X : tX) (d : Nat) (x0 : Nat) (x1 : Int32) (σ : rS) (Q : tQ), Ex X d mX7_isB 76 [.ref x0, .int x1] [] σ Q = Ex X d mX7_isB 77 [.ref x0, .int x1] [.ref x0] σ Q) ∧
  (∀ (X : tX) (d : Nat) (x0 : Nat) (x1 : Int32) (s0 : Nat) (σ : rS) (Q : tQ), Ex X d mX7_isB 77 [.ref x0, .int x1] [.ref s0] σ Q = Ex X d mX7_isB 78 [.ref x0, .int x1] [.int x1, .ref s0] σ Q) ∧
  (∀ (X : tX) (d : Nat) (x0 : Nat) (x1 : Int32) (s0 : Int32) (s1 : Nat) (T : tT) (I : tI) (J : tJ) (R : tR) (Q : tQ), Ex X (d + 1) mX7_isB 78 [.ref x0, .int x1] [.int s0, .ref s1] (T, I, J, R) Q = (T[s1]? = some (3, 7) ∧ Ex X d mX7_codes 0 [.ref s1, .int s0] [] (T, I, J, R) (fun v σ1 => Ex X (d + 1) mX7_isB 81 [.ref x0, .int x1] (v.toList ++ []) σ1 Q))) := ⟨fun X d x0 x1 σ Q => ex_P (i := .aload_n 0) (len := 1) (by decide +kernel) rfl,
  fun X d x0 x1 s0 σ Q => ex_P (i := .iload_n 1) (len := 1) (by decide +kernel) rfl,
  fun X d x0 x1 s0 s1 T I J R Q => q_callV (k := 159) (as := [.int s0]) (st := []) (show rlk mX7_isB.2.2.2.2.2.2 78 = some (.invokevirtual 159, 3) from by decide +kernel) rfl rfl rfl (Nat.le_of_ble_eq_true rfl) (Nat.le_of_ble_eq_true rfl) rfl⟩
set_option maxRecDepth 50000 in
theorem gX7_isB_81 : (∀ (X : tX) (d : Nat) (x0 : Nat) (x1 : Int32) (s0 : Int32) (σ : rS) (Q : tQ), Ex X d mX7_isB 81 [.ref x0, .int x1] [.int s0] σ Q = (if s0 = 0 then Ex X d mX7_isB 88 [.ref x0, .int x1] [] σ Q else Ex X d mX7_isB 84 [.ref x0, .int x1] [] σ Q)) := fun X d x0 x1 s0 σ Q => q_if_eq (o := 7) (by decide +kernel) rfl
set_option maxRecDepth 50000 in
theorem gX7_isB_84 : (∀ (X : tX) (d : Nat) (x0 : Nat) (x1 : Int32) (σ : rS) (Q : tQ), Ex X d mX7_isB 84 [.ref x0, .int x1] [] σ Q = Ex X d mX7_isB 85 [.ref x0, .int x1] [.int 1] σ Q) ∧
  (∀ (X : tX) (d : Nat) (x0 : Nat) (x1 : Int32) (s0 : Int32) (σ : rS) (Q : tQ), Ex X d mX7_isB 85 [.ref x0, .int x1] [.int s0] σ Q = Ex X d mX7_isB 89 [.ref x0, .int x1] [.int s0] σ Q) := ⟨fun X d x0 x1 σ Q => ex_P (i := .iconst 1) (len := 1) (by decide +kernel) rfl,
  fun X d x0 x1 s0 σ Q => q_goto (o := 4) (by decide +kernel) rfl⟩
set_option maxRecDepth 50000 in
theorem gX7_isB_88 : (∀ (X : tX) (d : Nat) (x0 : Nat) (x1 : Int32) (σ : rS) (Q : tQ), Ex X d mX7_isB 88 [.ref x0, .int x1] [] σ Q = Ex X d mX7_isB 89 [.ref x0, .int x1] [.int 0] σ Q) := fun X d x0 x1 σ Q => ex_P (i := .iconst 0) (len := 1) (by decide +kernel) rfl
set_option maxRecDepth 50000 in
theorem gX7_isB_89 : (∀ (X : tX) (d : Nat) (x0 : Nat) (x1 : Int32) (s0 : Int32) (σ : rS) (Q : tQ), Ex X d mX7_isB 89 [.ref x0, .int x1] [.int s0] σ Q = ((s0 = 0 ∨ s0 = 1) ∧ Q (some (.int s0)) σ)) := fun X d x0 x1 s0 σ Q => q_retZ (by decide +kernel) rfl
set_option maxRecDepth 50000 in
theorem gX7_isA_0 : (∀ (X : tX) (d : Nat) (x0 : Nat) (σ : rS) (Q : tQ), Ex X d mX7_isA 0 [.ref x0] [] σ Q = Ex X d mX7_isA 1 [.ref x0] [.ref x0] σ Q) ∧
  (∀ (X : tX) (d : Nat) (x0 : Nat) (s0 : Nat) (T : tT) (I : tI) (J : tJ) (R : tR) (Q : tQ), Ex X (d + 1) mX7_isA 1 [.ref x0] [.ref s0] (T, I, J, R) Q = (T[s0]? = some (3, 7) ∧ Ex X d mX7_isB 0 [.ref s0, rU] [] (T, I, J, R) (fun v σ1 => Ex X (d + 1) mX7_isA 4 [.ref x0] (v.toList ++ []) σ1 Q))) := ⟨fun X d x0 σ Q => ex_P (i := .aload_n 0) (len := 1) (by decide +kernel) rfl,
  fun X d x0 s0 T I J R Q => q_callV (k := 184) (as := []) (st := []) (show rlk mX7_isA.2.2.2.2.2.2 1 = some (.invokevirtual 184, 3) from by decide +kernel) rfl rfl rfl (Nat.le_of_ble_eq_true rfl) (Nat.le_of_ble_eq_true rfl) rfl⟩
set_option maxRecDepth 50000 in
theorem gX7_isA_4 : (∀ (X : tX) (d : Nat) (x0 : Nat) (s0 : Int32) (σ : rS) (Q : tQ), Ex X d mX7_isA 4 [.ref x0] [.int s0] σ Q = (if s0 = 0 then Ex X d mX7_isA 7 [.ref x0] [] σ Q else Ex X d mX7_isA 9 [.ref x0] [] σ Q)) := fun X d x0 s0 σ Q => q_if_ne (o := 5) (by decide +kernel) rfl
set_option maxRecDepth 50000 in
theorem gX7_isA_7 : (∀ (X : tX) (d : Nat) (x0 : Nat) (σ : rS) (Q : tQ), Ex X d mX7_isA 7 [.ref x0] [] σ Q = Ex X d mX7_isA 8 [.ref x0] [.int 0] σ Q) ∧
  (∀ (X : tX) (d : Nat) (x0 : Nat) (s0 : Int32) (σ : rS) (Q : tQ), Ex X d mX7_isA 8 [.ref x0] [.int s0] σ Q = ((s0 = 0 ∨ s0 = 1) ∧ Q (some (.int s0)) σ)) := ⟨fun X d x0 σ Q => ex_P (i := .iconst 0) (len := 1) (by decide +kernel) rfl,
  fun X d x0 s0 σ Q => q_retZ (by decide +kernel) rfl⟩
set_option maxRecDepth 50000 in
theorem gX7_isA_9 : (∀ (X : tX) (d : Nat) (x0 : Nat) (σ : rS) (Q : tQ), Ex X d mX7_isA 9 [.ref x0] [] σ Q = Ex X d mX7_isA 10 [.ref x0] [.ref x0] σ Q) ∧
  (∀ (X : tX) (d : Nat) (x0 : Nat) (s0 : Nat) (σ : rS) (Q : tQ), Ex X d mX7_isA 10 [.ref x0] [.ref s0] σ Q = Ex X d mX7_isA 12 [.ref x0] [.int 38, .ref s0] σ Q) ∧
  (∀ (X : tX) (d : Nat) (x0 : Nat) (s0 : Int32) (s1 : Nat) (T : tT) (I : tI) (J : tJ) (R : tR) (Q : tQ), Ex X (d + 1) mX7_isA 12 [.ref x0] [.int s0, .ref s1] (T, I, J, R) Q = (T[s1]? = some (3, 7) ∧ Ex X d mX7_is 0 [.ref s1, .int s0] [] (T, I, J, R) (fun v σ1 => Ex X (d + 1) mX7_isA 15 [.ref x0] (v.toList ++ []) σ1 Q))) := ⟨fun X d x0 σ Q => ex_P (i := .aload_n 0) (len := 1) (by decide +kernel) rfl,
  fun X d x0 s0 σ Q => ex_P (i := .bipush 38) (len := 2) (by decide +kernel) rfl,
  fun X d x0 s0 s1 T I J R Q => q_callV (k := 169) (as := [.int s0]) (st := []) (show rlk mX7_isA.2.2.2.2.2.2 12 = some (.invokevirtual 169, 3) from by decide +kernel) rfl rfl rfl (Nat.le_of_ble_eq_true rfl) (Nat.le_of_ble_eq_true rfl) rfl⟩
set_option maxRecDepth 50000 in
theorem gX7_isA_15 : (∀ (X : tX) (d : Nat) (x0 : Nat) (s0 : Int32) (σ : rS) (Q : tQ), Ex X d mX7_isA 15 [.ref x0] [.int s0] σ Q = (if s0 = 0 then Ex X d mX7_isA 37 [.ref x0] [] σ Q else Ex X d mX7_isA 18 [.ref x0] [] σ Q)) := fun X d x0 s0 σ Q => q_if_eq (o := 22) (by decide +kernel) rfl
set_option maxRecDepth 50000 in
theorem gX7_isA_18 : (∀ (X : tX) (d : Nat) (x0 : Nat) (σ : rS) (Q : tQ), Ex X d mX7_isA 18 [.ref x0] [] σ Q = Ex X d mX7_isA 19 [.ref x0] [.ref x0] σ Q) ∧
  (∀ (X : tX) (d : Nat) (x0 : Nat) (s0 : Nat) (T : tT) (I : tI) (J : tJ) (R : tR) (Q : tQ), Ex X (d + 1) mX7_isA 19 [.ref x0] [.ref s0] (T, I, J, R) Q = (T[s0]? = some (3, 7) ∧ Ex X d mX7_isB 0 [.ref s0, rU] [] (T, I, J, R) (fun v σ1 => Ex X (d + 1) mX7_isA 22 [.ref x0] (v.toList ++ []) σ1 Q))) := ⟨fun X d x0 σ Q => ex_P (i := .aload_n 0) (len := 1) (by decide +kernel) rfl,
  fun X d x0 s0 T I J R Q => q_callV (k := 184) (as := []) (st := []) (show rlk mX7_isA.2.2.2.2.2.2 19 = some (.invokevirtual 184, 3) from by decide +kernel) rfl rfl rfl (Nat.le_of_ble_eq_true rfl) (Nat.le_of_ble_eq_true rfl) rfl⟩
set_option maxRecDepth 50000 in
theorem gX7_isA_22 : (∀ (X : tX) (d : Nat) (x0 : Nat) (s0 : Int32) (σ : rS) (Q : tQ), Ex X d mX7_isA 22 [.ref x0] [.int s0] σ Q = (if s0 = 0 then Ex X d mX7_isA 25 [.ref x0] [] σ Q else Ex X d mX7_isA 27 [.ref x0] [] σ Q)) := fun X d x0 s0 σ Q => q_if_ne (o := 5) (by decide +kernel) rfl
set_option maxRecDepth 50000 in
theorem gX7_isA_25 : (∀ (X : tX) (d : Nat) (x0 : Nat) (σ : rS) (Q : tQ), Ex X d mX7_isA 25 [.ref x0] [] σ Q = Ex X d mX7_isA 26 [.ref x0] [.int 0] σ Q) ∧
  (∀ (X : tX) (d : Nat) (x0 : Nat) (s0 : Int32) (σ : rS) (Q : tQ), Ex X d mX7_isA 26 [.ref x0] [.int s0] σ Q = ((s0 = 0 ∨ s0 = 1) ∧ Q (some (.int s0)) σ)) := ⟨fun X d x0 σ Q => ex_P (i := .iconst 0) (len := 1) (by decide +kernel) rfl,
  fun X d x0 s0 σ Q => q_retZ (by decide +kernel) rfl⟩
set_option maxRecDepth 50000 in
theorem gX7_isA_27 : (∀ (X : tX) (d : Nat) (x0 : Nat) (σ : rS) (Q : tQ), Ex X d mX7_isA 27 [.ref x0] [] σ Q = Ex X d mX7_isA 28 [.ref x0] [.ref x0] σ Q) ∧
  (∀ (X : tX) (d : Nat) (x0 : Nat) (s0 : Nat) (σ : rS) (Q : tQ), Ex X d mX7_isA 28 [.ref x0] [.ref s0] σ Q = Ex X d mX7_isA 30 [.ref x0] [.int 7, .ref s0] σ Q) ∧
  (∀ (X : tX) (d : Nat) (x0 : Nat) (s0 : Int32) (s1 : Nat) (T : tT) (I : tI) (J : tJ) (R : tR) (Q : tQ), Ex X (d + 1) mX7_isA 30 [.ref x0] [.int s0, .ref s1] (T, I, J, R) Q = (T[s1]? = some (3, 7) ∧ Ex X d mX7_codes 0 [.ref s1, .int s0] [] (T, I, J, R) (fun v σ1 => Ex X (d + 1) mX7_isA 33 [.ref x0] (v.toList ++ []) σ1 Q))) := ⟨fun X d x0 σ Q => ex_P (i := .aload_n 0) (len := 1) (by decide +kernel) rfl,
  fun X d x0 s0 σ Q => ex_P (i := .bipush 7) (len := 2) (by decide +kernel) rfl,
  fun X d x0 s0 s1 T I J R Q => q_callV (k := 159) (as := [.int s0]) (st := []) (show rlk mX7_isA.2.2.2.2.2.2 30 = some (.invokevirtual 159, 3) from by decide +kernel) rfl rfl rfl (Nat.le_of_ble_eq_true rfl) (Nat.le_of_ble_eq_true rfl) rfl⟩
set_option maxRecDepth 50000 in
theorem gX7_isA_33 : (∀ (X : tX) (d : Nat) (x0 : Nat) (s0 : Int32) (σ : rS) (Q : tQ), Ex X d mX7_isA 33 [.ref x0] [.int s0] σ Q = Ex X d mX7_isA 34 [.ref x0] [] σ Q) ∧
  (∀ (X : tX) (d : Nat) (x0 : Nat) (σ : rS) (Q : tQ), Ex X d mX7_isA 34 [.ref x0] [] σ Q = Ex X d mX7_isA 9 [.ref x0] [] σ Q) := ⟨fun X d x0 s0 σ Q => ex_P (i := .pop) (len := 1) (by decide +kernel) rfl,
  fun X d x0 σ Q => q_goto (o := (-25)) (by decide +kernel) rfl⟩
set_option maxRecDepth 50000 in
theorem gX7_isA_37 : (∀ (X : tX) (d : Nat) (x0 : Nat) (σ : rS) (Q : tQ), Ex X d mX7_isA 37 [.ref x0] [] σ Q = Ex X d mX7_isA 38 [.ref x0] [.int 1] σ Q) ∧
  (∀ (X : tX) (d : Nat) (x0 : Nat) (s0 : Int32) (σ : rS) (Q : tQ), Ex X d mX7_isA 38 [.ref x0] [.int s0] σ Q = ((s0 = 0 ∨ s0 = 1) ∧ Q (some (.int s0)) σ)) := ⟨fun X d x0 σ Q => ex_P (i := .iconst 1) (len := 1) (by decide +kernel) rfl,
  fun X d x0 s0 σ Q => q_retZ (by decide +kernel) rfl⟩
set_option maxRecDepth 50000 in
theorem gX7_isE_0 : (∀ (X : tX) (d : Nat) (x0 : Nat) (σ : rS) (Q : tQ), Ex X d mX7_isE 0 [.ref x0] [] σ Q = Ex X d mX7_isE 1 [.ref x0] [.ref x0] σ Q) ∧
  (∀ (X : tX) (d : Nat) (x0 : Nat) (s0 : Nat) (T : tT) (I : tI) (J : tJ) (R : tR) (Q : tQ), Ex X (d + 1) mX7_isE 1 [.ref x0] [.ref s0] (T, I, J, R) Q = (T[s0]? = some (3, 7) ∧ Ex X d mX7_isA 0 [.ref s0] [] (T, I, J, R) (fun v σ1 => Ex X (d + 1) mX7_isE 4 [.ref x0] (v.toList ++ []) σ1 Q))) := ⟨fun X d x0 σ Q => ex_P (i := .aload_n 0) (len := 1) (by decide +kernel) rfl,
  fun X d x0 s0 T I J R Q => q_callV (k := 187) (as := []) (st := []) (show rlk mX7_isE.2.2.2.2.2.2 1 = some (.invokevirtual 187, 3) from by decide +kernel) rfl rfl rfl (Nat.le_of_ble_eq_true rfl) (Nat.le_of_ble_eq_true rfl) rfl⟩
set_option maxRecDepth 50000 in
theorem gX7_isE_4 : (∀ (X : tX) (d : Nat) (x0 : Nat) (s0 : Int32) (σ : rS) (Q : tQ), Ex X d mX7_isE 4 [.ref x0] [.int s0] σ Q = (if s0 = 0 then Ex X d mX7_isE 7 [.ref x0] [] σ Q else Ex X d mX7_isE 9 [.ref x0] [] σ Q)) := fun X d x0 s0 σ Q => q_if_ne (o := 5) (by decide +kernel) rfl
set_option maxRecDepth 50000 in
theorem gX7_isE_7 : (∀ (X : tX) (d : Nat) (x0 : Nat) (σ : rS) (Q : tQ), Ex X d mX7_isE 7 [.ref x0] [] σ Q = Ex X d mX7_isE 8 [.ref x0] [.int 0] σ Q) ∧
  (∀ (X : tX) (d : Nat) (x0 : Nat) (s0 : Int32) (σ : rS) (Q : tQ), Ex X d mX7_isE 8 [.ref x0] [.int s0] σ Q = ((s0 = 0 ∨ s0 = 1) ∧ Q (some (.int s0)) σ)) := ⟨fun X d x0 σ Q => ex_P (i := .iconst 0) (len := 1) (by decide +kernel) rfl,
  fun X d x0 s0 σ Q => q_retZ (by decide +kernel) rfl⟩
set_option maxRecDepth 50000 in
theorem gX7_isE_9 : (∀ (X : tX) (d : Nat) (x0 : Nat) (σ : rS) (Q : tQ), Ex X d mX7_isE 9 [.ref x0] [] σ Q = Ex X d mX7_isE 10 [.ref x0] [.ref x0] σ Q) ∧
  (∀ (X : tX) (d : Nat) (x0 : Nat) (s0 : Nat) (σ : rS) (Q : tQ), Ex X d mX7_isE 10 [.ref x0] [.ref s0] σ Q = Ex X d mX7_isE 12 [.ref x0] [.int 124, .ref s0] σ Q) ∧
  (∀ (X : tX) (d : Nat) (x0 : Nat) (s0 : Int32) (s1 : Nat) (T : tT) (I : tI) (J : tJ) (R : tR) (Q : tQ), Ex X (d + 1) mX7_isE 12 [.ref x0] [.int s0, .ref s1] (T, I, J, R) Q = (T[s1]? = some (3, 7) ∧ Ex X d mX7_is 0 [.ref s1, .int s0] [] (T, I, J, R) (fun v σ1 => Ex X (d + 1) mX7_isE 15 [.ref x0] (v.toList ++ []) σ1 Q))) := ⟨fun X d x0 σ Q => ex_P (i := .aload_n 0) (len := 1) (by decide +kernel) rfl,
  fun X d x0 s0 σ Q => ex_P (i := .bipush 124) (len := 2) (by decide +kernel) rfl,
  fun X d x0 s0 s1 T I J R Q => q_callV (k := 169) (as := [.int s0]) (st := []) (show rlk mX7_isE.2.2.2.2.2.2 12 = some (.invokevirtual 169, 3) from by decide +kernel) rfl rfl rfl (Nat.le_of_ble_eq_true rfl) (Nat.le_of_ble_eq_true rfl) rfl⟩
set_option maxRecDepth 50000 in
theorem gX7_isE_15 : (∀ (X : tX) (d : Nat) (x0 : Nat) (s0 : Int32) (σ : rS) (Q : tQ), Ex X d mX7_isE 15 [.ref x0] [.int s0] σ Q = (if s0 = 0 then Ex X d mX7_isE 37 [.ref x0] [] σ Q else Ex X d mX7_isE 18 [.ref x0] [] σ Q)) := fun X d x0 s0 σ Q => q_if_eq (o := 22) (by decide +kernel) rfl
set_option maxRecDepth 50000 in
theorem gX7_isE_18 : (∀ (X : tX) (d : Nat) (x0 : Nat) (σ : rS) (Q : tQ), Ex X d mX7_isE 18 [.ref x0] [] σ Q = Ex X d mX7_isE 19 [.ref x0] [.ref x0] σ Q) ∧
  (∀ (X : tX) (d : Nat) (x0 : Nat) (s0 : Nat) (T : tT) (I : tI) (J : tJ) (R : tR) (Q : tQ), Ex X (d + 1) mX7_isE 19 [.ref x0] [.ref s0] (T, I, J, R) Q = (T[s0]? = some (3, 7) ∧ Ex X d mX7_isA 0 [.ref s0] [] (T, I, J, R) (fun v σ1 => Ex X (d + 1) mX7_isE 22 [.ref x0] (v.toList ++ []) σ1 Q))) := ⟨fun X d x0 σ Q => ex_P (i := .aload_n 0) (len := 1) (by decide +kernel) rfl,
  fun X d x0 s0 T I J R Q => q_callV (k := 187) (as := []) (st := []) (show rlk mX7_isE.2.2.2.2.2.2 19 = some (.invokevirtual 187, 3) from by decide +kernel) rfl rfl rfl (Nat.le_of_ble_eq_true rfl) (Nat.le_of_ble_eq_true rfl) rfl⟩
set_option maxRecDepth 50000 in
theorem gX7_isE_22 : (∀ (X : tX) (d : Nat) (x0 : Nat) (s0 : Int32) (σ : rS) (Q : tQ), Ex X d mX7_isE 22 [.ref x0] [.int s0] σ Q = (if s0 = 0 then Ex X d mX7_isE 25 [.ref x0] [] σ Q else Ex X d mX7_isE 27 [.ref x0] [] σ Q)) := fun X d x0 s0 σ Q => q_if_ne (o := 5) (by decide +kernel) rfl
set_option maxRecDepth 50000 in
theorem gX7_isE_25 : (∀ (X : tX) (d : Nat) (x0 : Nat) (σ : rS) (Q : tQ), Ex X d mX7_isE 25 [.ref x0] [] σ Q = Ex X d mX7_isE 26 [.ref x0] [.int 0] σ Q) ∧
  (∀ (X : tX) (d : Nat) (x0 : Nat) (s0 : Int32) (σ : rS) (Q : tQ), Ex X d mX7_isE 26 [.ref x0] [.int s0] σ Q = ((s0 = 0 ∨ s0 = 1) ∧ Q (some (.int s0)) σ)) := ⟨fun X d x0 σ Q => ex_P (i := .iconst 0) (len := 1) (by decide +kernel) rfl,
  fun X d x0 s0 σ Q => q_retZ (by decide +kernel) rfl⟩
set_option maxRecDepth 50000 in
theorem gX7_isE_27 : (∀ (X : tX) (d : Nat) (x0 : Nat) (σ : rS) (Q : tQ), Ex X d mX7_isE 27 [.ref x0] [] σ Q = Ex X d mX7_isE 28 [.ref x0] [.ref x0] σ Q) ∧
  (∀ (X : tX) (d : Nat) (x0 : Nat) (s0 : Nat) (σ : rS) (Q : tQ), Ex X d mX7_isE 28 [.ref x0] [.ref s0] σ Q = Ex X d mX7_isE 30 [.ref x0] [.int 6, .ref s0] σ Q) ∧
  (∀ (X : tX) (d : Nat) (x0 : Nat) (s0 : Int32) (s1 : Nat) (T : tT) (I : tI) (J : tJ) (R : tR) (Q : tQ), Ex X (d + 1) mX7_isE 30 [.ref x0] [.int s0, .ref s1] (T, I, J, R) Q = (T[s1]? = some (3, 7) ∧ Ex X d mX7_codes 0 [.ref s1, .int s0] [] (T, I, J, R) (fun v σ1 => Ex X (d + 1) mX7_isE 33 [.ref x0] (v.toList ++ []) σ1 Q))) := ⟨fun X d x0 σ Q => ex_P (i := .aload_n 0) (len := 1) (by decide +kernel) rfl,
  fun X d x0 s0 σ Q => ex_P (i := .bipush 6) (len := 2) (by decide +kernel) rfl,
  fun X d x0 s0 s1 T I J R Q => q_callV (k := 159) (as := [.int s0]) (st := []) (show rlk mX7_isE.2.2.2.2.2.2 30 = some (.invokevirtual 159, 3) from by decide +kernel) rfl rfl rfl (Nat.le_of_ble_eq_true rfl) (Nat.le_of_ble_eq_true rfl) rfl⟩
set_option maxRecDepth 50000 in
theorem gX7_isE_33 : (∀ (X : tX) (d : Nat) (x0 : Nat) (s0 : Int32) (σ : rS) (Q : tQ), Ex X d mX7_isE 33 [.ref x0] [.int s0] σ Q = Ex X d mX7_isE 34 [.ref x0] [] σ Q) ∧
  (∀ (X : tX) (d : Nat) (x0 : Nat) (σ : rS) (Q : tQ), Ex X d mX7_isE 34 [.ref x0] [] σ Q = Ex X d mX7_isE 9 [.ref x0] [] σ Q) := ⟨fun X d x0 s0 σ Q => ex_P (i := .pop) (len := 1) (by decide +kernel) rfl,
  fun X d x0 σ Q => q_goto (o := (-25)) (by decide +kernel) rfl⟩
set_option maxRecDepth 50000 in
theorem gX7_isE_37 : (∀ (X : tX) (d : Nat) (x0 : Nat) (σ : rS) (Q : tQ), Ex X d mX7_isE 37 [.ref x0] [] σ Q = Ex X d mX7_isE 38 [.ref x0] [.int 1] σ Q) ∧
  (∀ (X : tX) (d : Nat) (x0 : Nat) (s0 : Int32) (σ : rS) (Q : tQ), Ex X d mX7_isE 38 [.ref x0] [.int s0] σ Q = ((s0 = 0 ∨ s0 = 1) ∧ Q (some (.int s0)) σ)) := ⟨fun X d x0 σ Q => ex_P (i := .iconst 1) (len := 1) (by decide +kernel) rfl,
  fun X d x0 s0 σ Q => q_retZ (by decide +kernel) rfl⟩
set_option maxRecDepth 50000 in
theorem gX7_isLine_0 : (∀ (X : tX) (d : Nat) (x0 : Nat) (σ : rS) (Q : tQ), Ex X d mX7_isLine 0 [.ref x0] [] σ Q = Ex X d mX7_isLine 1 [.ref x0] [.ref x0] σ Q) ∧
  (∀ (X : tX) (d : Nat) (x0 : Nat) (s0 : Nat) (T : tT) (I : tI) (J : tJ) (R : tR) (Q : tQ), Ex X d mX7_isLine 1 [.ref x0] [.ref s0] (T, I, J, R) Q = (T[s0]? = some (3, 7) ∧ Ex X d mX7_isLine 4 [.ref x0] [va_rf (R s0 16)] (T, I, J, R) Q)) ∧
  (∀ (X : tX) (d : Nat) (x0 : Nat) (s0 : Nat) (σ : rS) (Q : tQ), Ex X d mX7_isLine 4 [.ref x0] [.ref s0] σ Q = Ex X d mX7_isLine 5 [.ref x0] [.ref x0, .ref s0] σ Q) ∧
  (∀ (X : tX) (d : Nat) (x0 : Nat) (s0 : Nat) (s1 : Nat) (T : tT) (I : tI) (J : tJ) (R : tR) (Q : tQ), Ex X d mX7_isLine 5 [.ref x0] [.ref s0, .ref s1] (T, I, J, R) Q = (T[s0]? = some (3, 7) ∧ Ex X d mX7_isLine 8 [.ref x0] [.int (I s0 15), .ref s1] (T, I, J, R) Q)) ∧
  (∀ (X : tX) (d : Nat) (x0 : Nat) (s0 : Int32) (s1 : Nat) (σ : rS) (Q : tQ), Ex X d mX7_isLine 8 [.ref x0] [.int s0, .ref s1] σ Q = Ex X d mX7_isLine 9 [.ref x0] [.ref x0, .int s0, .ref s1] σ Q) ∧
  (∀ (X : tX) (d : Nat) (x0 : Nat) (s0 : Nat) (s1 : Int32) (s2 : Nat) (T : tT) (I : tI) (J : tJ) (R : tR) (Q : tQ), Ex X d mX7_isLine 9 [.ref x0] [.ref s0, .int s1, .ref s2] (T, I, J, R) Q = (T[s0]? = some (3, 7) ∧ Ex X d mX7_isLine 12 [.ref x0] [.int (I s0 14), .int s1, .ref s2] (T, I, J, R) Q)) ∧
  (∀ (X : tX) (d : Nat) (x0 : Nat) (s0 : Int32) (s1 : Int32) (s2 : Nat) (T : tT) (I : tI) (J : tJ) (R : tR) (Q : tQ), Ex X d mX7_isLine 12 [.ref x0] [.int s0, .int s1, .ref s2] (T, I, J, R) Q = (rIn T s2 0 s1 ∧ Ex X d mX7_isLine 13 [.ref x0] [] (T, va_up I s2 (va_up (I s2) s1.toNatClampNeg s0), J, R) Q)) ∧
  (∀ (X : tX) (d : Nat) (x0 : Nat) (σ : rS) (Q : tQ), Ex X d mX7_isLine 13 [.ref x0] [] σ Q = Ex X d mX7_isLine 14 [.ref x0] [.ref x0] σ Q) ∧
  (∀ (X : tX) (d : Nat) (x0 : Nat) (s0 : Nat) (T : tT) (I : tI) (J : tJ) (R : tR) (Q : tQ), Ex X (d + 1) mX7_isLine 14 [.ref x0] [.ref s0] (T, I, J, R) Q = (T[s0]? = some (3, 7) ∧ Ex X d mX7_isE 0 [.ref s0] [] (T, I, J, R) (fun v σ1 => Ex X (d + 1) mX7_isLine 17 [.ref x0] (v.toList ++ []) σ1 Q))) := ⟨fun X d x0 σ Q => ex_P (i := .aload_n 0) (len := 1) (by decide +kernel) rfl,
  fun X d x0 s0 T I J R Q => q_getR (k := 36) (by decide +kernel) rfl rfl,
  fun X d x0 s0 σ Q => ex_P (i := .aload_n 0) (len := 1) (by decide +kernel) rfl,
  fun X d x0 s0 s1 T I J R Q => q_getI (k := 190) (by decide +kernel) rfl rfl (by decide),
  fun X d x0 s0 s1 σ Q => ex_P (i := .aload_n 0) (len := 1) (by decide +kernel) rfl,
  fun X d x0 s0 s1 s2 T I J R Q => q_getI (k := 152) (by decide +kernel) rfl rfl (by decide),
  fun X d x0 s0 s1 s2 T I J R Q => q_iast (by decide +kernel),
  fun X d x0 σ Q => ex_P (i := .aload_n 0) (len := 1) (by decide +kernel) rfl,
  fun X d x0 s0 T I J R Q => q_callV (k := 175) (as := []) (st := []) (show rlk mX7_isLine.2.2.2.2.2.2 14 = some (.invokevirtual 175, 3) from by decide +kernel) rfl rfl rfl (Nat.le_of_ble_eq_true rfl) (Nat.le_of_ble_eq_true rfl) rfl⟩
set_option maxRecDepth 50000 in
theorem gX7_isLine_17 : (∀ (X : tX) (d : Nat) (x0 : Nat) (s0 : Int32) (σ : rS) (Q : tQ), Ex X d mX7_isLine 17 [.ref x0] [.int s0] σ Q = (if s0 = 0 then Ex X d mX7_isLine 20 [.ref x0] [] σ Q else Ex X d mX7_isLine 22 [.ref x0] [] σ Q)) := fun X d x0 s0 σ Q => q_if_ne (o := 5) (by decide +kernel) rfl
set_option maxRecDepth 50000 in
theorem gX7_isLine_20 : (∀ (X : tX) (d : Nat) (x0 : Nat) (σ : rS) (Q : tQ), Ex X d mX7_isLine 20 [.ref x0] [] σ Q = Ex X d mX7_isLine 21 [.ref x0] [.int 0] σ Q) ∧
  (∀ (X : tX) (d : Nat) (x0 : Nat) (s0 : Int32) (σ : rS) (Q : tQ), Ex X d mX7_isLine 21 [.ref x0] [.int s0] σ Q = ((s0 = 0 ∨ s0 = 1) ∧ Q (some (.int s0)) σ)) := ⟨fun X d x0 σ Q => ex_P (i := .iconst 0) (len := 1) (by decide +kernel) rfl,
  fun X d x0 s0 σ Q => q_retZ (by decide +kernel) rfl⟩
set_option maxRecDepth 50000 in
theorem gX7_isLine_22 : (∀ (X : tX) (d : Nat) (x0 : Nat) (σ : rS) (Q : tQ), Ex X d mX7_isLine 22 [.ref x0] [] σ Q = Ex X d mX7_isLine 23 [.ref x0] [.ref x0] σ Q) ∧
  (∀ (X : tX) (d : Nat) (x0 : Nat) (s0 : Nat) (T : tT) (I : tI) (J : tJ) (R : tR) (Q : tQ), Ex X d mX7_isLine 23 [.ref x0] [.ref s0] (T, I, J, R) Q = (T[s0]? = some (3, 7) ∧ Ex X d mX7_isLine 26 [.ref x0] [va_rf (R s0 17)] (T, I, J, R) Q)) ∧
  (∀ (X : tX) (d : Nat) (x0 : Nat) (s0 : Nat) (σ : rS) (Q : tQ), Ex X d mX7_isLine 26 [.ref x0] [.ref s0] σ Q = Ex X d mX7_isLine 27 [.ref x0] [.ref x0, .ref s0] σ Q) ∧
  (∀ (X : tX) (d : Nat) (x0 : Nat) (s0 : Nat) (s1 : Nat) (T : tT) (I : tI) (J : tJ) (R : tR) (Q : tQ), Ex X d mX7_isLine 27 [.ref x0] [.ref s0, .ref s1] (T, I, J, R) Q = (T[s0]? = some (3, 7) ∧ Ex X d mX7_isLine 30 [.ref x0] [.int (I s0 15), .ref s1] (T, I, J, R) Q)) ∧
  (∀ (X : tX) (d : Nat) (x0 : Nat) (s0 : Int32) (s1 : Nat) (σ : rS) (Q : tQ), Ex X d mX7_isLine 30 [.ref x0] [.int s0, .ref s1] σ Q = Ex X d mX7_isLine 31 [.ref x0] [.ref x0, .int s0, .ref s1] σ Q) ∧
  (∀ (X : tX) (d : Nat) (x0 : Nat) (s0 : Nat) (s1 : Int32) (s2 : Nat) (T : tT) (I : tI) (J : tJ) (R : tR) (Q : tQ), Ex X d mX7_isLine 31 [.ref x0] [.ref s0, .int s1, .ref s2] (T, I, J, R) Q = (T[s0]? = some (3, 7) ∧ Ex X d mX7_isLine 34 [.ref x0] [va_rf (R s0 16), .int s1, .ref s2] (T, I, J, R) Q)) ∧
  (∀ (X : tX) (d : Nat) (x0 : Nat) (s0 : Nat) (s1 : Int32) (s2 : Nat) (σ : rS) (Q : tQ), Ex X d mX7_isLine 34 [.ref x0] [.ref s0, .int s1, .ref s2] σ Q = Ex X d mX7_isLine 35 [.ref x0] [.ref x0, .ref s0, .int s1, .ref s2] σ Q) ∧
  (∀ (X : tX) (d : Nat) (x0 : Nat) (s0 : Nat) (s1 : Nat) (s2 : Int32) (s3 : Nat) (T : tT) (I : tI) (J : tJ) (R : tR) (Q : tQ), Ex X d mX7_isLine 35 [.ref x0] [.ref s0, .ref s1, .int s2, .ref s3] (T, I, J, R) Q = (T[s0]? = some (3, 7) ∧ Ex X d mX7_isLine 38 [.ref x0] [.int (I s0 15), .ref s1, .int s2, .ref s3] (T, I, J, R) Q)) ∧
  (∀ (X : tX) (d : Nat) (x0 : Nat) (s0 : Int32) (s1 : Nat) (s2 : Int32) (s3 : Nat) (T : tT) (I : tI) (J : tJ) (R : tR) (Q : tQ), Ex X d mX7_isLine 38 [.ref x0] [.int s0, .ref s1, .int s2, .ref s3] (T, I, J, R) Q = (rIn T s1 0 s0 ∧ Ex X d mX7_isLine 39 [.ref x0] [.int (I s1 s0.toNatClampNeg), .int s2, .ref s3] (T, I, J, R) Q)) ∧
  (∀ (X : tX) (d : Nat) (x0 : Nat) (s0 : Int32) (s1 : Int32) (s2 : Nat) (T : tT) (I : tI) (J : tJ) (R : tR) (Q : tQ), Ex X d mX7_isLine 39 [.ref x0] [.int s0, .int s1, .ref s2] (T, I, J, R) Q = (rIn T s2 0 s1 ∧ Ex X d mX7_isLine 40 [.ref x0] [] (T, va_up I s2 (va_up (I s2) s1.toNatClampNeg s0), J, R) Q)) ∧
  (∀ (X : tX) (d : Nat) (x0 : Nat) (σ : rS) (Q : tQ), Ex X d mX7_isLine 40 [.ref x0] [] σ Q = Ex X d mX7_isLine 41 [.ref x0] [.ref x0] σ Q) ∧
  (∀ (X : tX) (d : Nat) (x0 : Nat) (s0 : Nat) (σ : rS) (Q : tQ), Ex X d mX7_isLine 41 [.ref x0] [.ref s0] σ Q = Ex X d mX7_isLine 43 [.ref x0] [.int 63, .ref s0] σ Q) ∧
  (∀ (X : tX) (d : Nat) (x0 : Nat) (s0 : Int32) (s1 : Nat) (T : tT) (I : tI) (J : tJ) (R : tR) (Q : tQ), Ex X (d + 1) mX7_isLine 43 [.ref x0] [.int s0, .ref s1] (T, I, J, R) Q = (T[s1]? = some (3, 7) ∧ Ex X d mX7_is 0 [.ref s1, .int s0] [] (T, I, J, R) (fun v σ1 => Ex X (d + 1) mX7_isLine 46 [.ref x0] (v.toList ++ []) σ1 Q))) := ⟨fun X d x0 σ Q => ex_P (i := .aload_n 0) (len := 1) (by decide +kernel) rfl,
  fun X d x0 s0 T I J R Q => q_getR (k := 39) (by decide +kernel) rfl rfl,
  fun X d x0 s0 σ Q => ex_P (i := .aload_n 0) (len := 1) (by decide +kernel) rfl,
  fun X d x0 s0 s1 T I J R Q => q_getI (k := 190) (by decide +kernel) rfl rfl (by decide),
  fun X d x0 s0 s1 σ Q => ex_P (i := .aload_n 0) (len := 1) (by decide +kernel) rfl,
  fun X d x0 s0 s1 s2 T I J R Q => q_getR (k := 36) (by decide +kernel) rfl rfl,
  fun X d x0 s0 s1 s2 σ Q => ex_P (i := .aload_n 0) (len := 1) (by decide +kernel) rfl,
  fun X d x0 s0 s1 s2 s3 T I J R Q => q_getI (k := 190) (by decide +kernel) rfl rfl (by decide),
  fun X d x0 s0 s1 s2 s3 T I J R Q => q_iald (by decide +kernel),
  fun X d x0 s0 s1 s2 T I J R Q => q_iast (by decide +kernel),
  fun X d x0 σ Q => ex_P (i := .aload_n 0) (len := 1) (by decide +kernel) rfl,
  fun X d x0 s0 σ Q => ex_P (i := .bipush 63) (len := 2) (by decide +kernel) rfl,
  fun X d x0 s0 s1 T I J R Q => q_callV (k := 169) (as := [.int s0]) (st := []) (show rlk mX7_isLine.2.2.2.2.2.2 43 = some (.invokevirtual 169, 3) from by decide +kernel) rfl rfl rfl (Nat.le_of_ble_eq_true rfl) (Nat.le_of_ble_eq_true rfl) rfl⟩
set_option maxRecDepth 50000 in
theorem gX7_isLine_46 : (∀ (X : tX) (d : Nat) (x0 : Nat) (s0 : Int32) (σ : rS) (Q : tQ), Ex X d mX7_isLine 46 [.ref x0] [.int s0] σ Q = (if s0 = 0 then Ex X d mX7_isLine 71 [.ref x0] [] σ Q else Ex X d mX7_isLine 49 [.ref x0] [] σ Q)) := fun X d x0 s0 σ Q => q_if_eq (o := 25) (by decide +kernel) rfl
set_option maxRecDepth 50000 in
theorem gX7_isLine_49 : (∀ (X : tX) (d : Nat) (x0 : Nat) (σ : rS) (Q : tQ), Ex X d mX7_isLine 49 [.ref x0] [] σ Q = Ex X d mX7_isLine 50 [.ref x0] [.ref x0] σ Q) ∧
  (∀ (X : tX) (d : Nat) (x0 : Nat) (s0 : Nat) (T : tT) (I : tI) (J : tJ) (R : tR) (Q : tQ), Ex X d mX7_isLine 50 [.ref x0] [.ref s0] (T, I, J, R) Q = (T[s0]? = some (3, 7) ∧ Ex X d mX7_isLine 53 [.ref x0] [va_rf (R s0 17)] (T, I, J, R) Q)) ∧
  (∀ (X : tX) (d : Nat) (x0 : Nat) (s0 : Nat) (σ : rS) (Q : tQ), Ex X d mX7_isLine 53 [.ref x0] [.ref s0] σ Q = Ex X d mX7_isLine 54 [.ref x0] [.ref x0, .ref s0] σ Q) ∧
  (∀ (X : tX) (d : Nat) (x0 : Nat) (s0 : Nat) (s1 : Nat) (T : tT) (I : tI) (J : tJ) (R : tR) (Q : tQ), Ex X d mX7_isLine 54 [.ref x0] [.ref s0, .ref s1] (T, I, J, R) Q = (T[s0]? = some (3, 7) ∧ Ex X d mX7_isLine 57 [.ref x0] [.int (I s0 15), .ref s1] (T, I, J, R) Q)) ∧
  (∀ (X : tX) (d : Nat) (x0 : Nat) (s0 : Int32) (s1 : Nat) (σ : rS) (Q : tQ), Ex X d mX7_isLine 57 [.ref x0] [.int s0, .ref s1] σ Q = Ex X d mX7_isLine 58 [.ref x0] [.ref x0, .int s0, .ref s1] σ Q) ∧
  (∀ (X : tX) (d : Nat) (x0 : Nat) (s0 : Nat) (s1 : Int32) (s2 : Nat) (T : tT) (I : tI) (J : tJ) (R : tR) (Q : tQ), Ex X d mX7_isLine 58 [.ref x0] [.ref s0, .int s1, .ref s2] (T, I, J, R) Q = (T[s0]? = some (3, 7) ∧ Ex X d mX7_isLine 61 [.ref x0] [.int (I s0 14), .int s1, .ref s2] (T, I, J, R) Q)) ∧
  (∀ (X : tX) (d : Nat) (x0 : Nat) (s0 : Int32) (s1 : Int32) (s2 : Nat) (T : tT) (I : tI) (J : tJ) (R : tR) (Q : tQ), Ex X d mX7_isLine 61 [.ref x0] [.int s0, .int s1, .ref s2] (T, I, J, R) Q = (rIn T s2 0 s1 ∧ Ex X d mX7_isLine 62 [.ref x0] [] (T, va_up I s2 (va_up (I s2) s1.toNatClampNeg s0), J, R) Q)) ∧
  (∀ (X : tX) (d : Nat) (x0 : Nat) (σ : rS) (Q : tQ), Ex X d mX7_isLine 62 [.ref x0] [] σ Q = Ex X d mX7_isLine 63 [.ref x0] [.ref x0] σ Q) ∧
  (∀ (X : tX) (d : Nat) (x0 : Nat) (s0 : Nat) (T : tT) (I : tI) (J : tJ) (R : tR) (Q : tQ), Ex X (d + 1) mX7_isLine 63 [.ref x0] [.ref s0] (T, I, J, R) Q = (T[s0]? = some (3, 7) ∧ Ex X d mX7_isE 0 [.ref s0] [] (T, I, J, R) (fun v σ1 => Ex X (d + 1) mX7_isLine 66 [.ref x0] (v.toList ++ []) σ1 Q))) := ⟨fun X d x0 σ Q => ex_P (i := .aload_n 0) (len := 1) (by decide +kernel) rfl,
  fun X d x0 s0 T I J R Q => q_getR (k := 39) (by decide +kernel) rfl rfl,
  fun X d x0 s0 σ Q => ex_P (i := .aload_n 0) (len := 1) (by decide +kernel) rfl,
  fun X d x0 s0 s1 T I J R Q => q_getI (k := 190) (by decide +kernel) rfl rfl (by decide),
  fun X d x0 s0 s1 σ Q => ex_P (i := .aload_n 0) (len := 1) (by decide +kernel) rfl,
  fun X d x0 s0 s1 s2 T I J R Q => q_getI (k := 152) (by decide +kernel) rfl rfl (by decide),
  fun X d x0 s0 s1 s2 T I J R Q => q_iast (by decide +kernel),
  fun X d x0 σ Q => ex_P (i := .aload_n 0) (len := 1) (by decide +kernel) rfl,
  fun X d x0 s0 T I J R Q => q_callV (k := 175) (as := []) (st := []) (show rlk mX7_isLine.2.2.2.2.2.2 63 = some (.invokevirtual 175, 3) from by decide +kernel) rfl rfl rfl (Nat.le_of_ble_eq_true rfl) (Nat.le_of_ble_eq_true rfl) rfl⟩
set_option maxRecDepth 50000 in
theorem gX7_isLine_66 : (∀ (X : tX) (d : Nat) (x0 : Nat) (s0 : Int32) (σ : rS) (Q : tQ), Ex X d mX7_isLine 66 [.ref x0] [.int s0] σ Q = (if s0 = 0 then Ex X d mX7_isLine 69 [.ref x0] [] σ Q else Ex X d mX7_isLine 71 [.ref x0] [] σ Q)) := fun X d x0 s0 σ Q => q_if_ne (o := 5) (by decide +kernel) rfl
set_option maxRecDepth 50000 in
theorem gX7_isLine_69 : (∀ (X : tX) (d : Nat) (x0 : Nat) (σ : rS) (Q : tQ), Ex X d mX7_isLine 69 [.ref x0] [] σ Q = Ex X d mX7_isLine 70 [.ref x0] [.int 0] σ Q) ∧
  (∀ (X : tX) (d : Nat) (x0 : Nat) (s0 : Int32) (σ : rS) (Q : tQ), Ex X d mX7_isLine 70 [.ref x0] [.int s0] σ Q = ((s0 = 0 ∨ s0 = 1) ∧ Q (some (.int s0)) σ)) := ⟨fun X d x0 σ Q => ex_P (i := .iconst 0) (len := 1) (by decide +kernel) rfl,
  fun X d x0 s0 σ Q => q_retZ (by decide +kernel) rfl⟩
set_option maxRecDepth 50000 in
theorem gX7_isLine_71 : (∀ (X : tX) (d : Nat) (x0 : Nat) (σ : rS) (Q : tQ), Ex X d mX7_isLine 71 [.ref x0] [] σ Q = Ex X d mX7_isLine 72 [.ref x0] [.ref x0] σ Q) ∧
  (∀ (X : tX) (d : Nat) (x0 : Nat) (s0 : Nat) (T : tT) (I : tI) (J : tJ) (R : tR) (Q : tQ), Ex X d mX7_isLine 72 [.ref x0] [.ref s0] (T, I, J, R) Q = (T[s0]? = some (3, 7) ∧ Ex X d mX7_isLine 75 [.ref x0] [va_rf (R s0 18)] (T, I, J, R) Q)) ∧
  (∀ (X : tX) (d : Nat) (x0 : Nat) (s0 : Nat) (σ : rS) (Q : tQ), Ex X d mX7_isLine 75 [.ref x0] [.ref s0] σ Q = Ex X d mX7_isLine 76 [.ref x0] [.ref x0, .ref s0] σ Q) ∧
  (∀ (X : tX) (d : Nat) (x0 : Nat) (s0 : Nat) (s1 : Nat) (σ : rS) (Q : tQ), Ex X d mX7_isLine 76 [.ref x0] [.ref s0, .ref s1] σ Q = Ex X d mX7_isLine 77 [.ref x0] [.ref s0, .ref s0, .ref s1] σ Q) ∧
  (∀ (X : tX) (d : Nat) (x0 : Nat) (s0 : Nat) (s1 : Nat) (s2 : Nat) (T : tT) (I : tI) (J : tJ) (R : tR) (Q : tQ), Ex X d mX7_isLine 77 [.ref x0] [.ref s0, .ref s1, .ref s2] (T, I, J, R) Q = (T[s0]? = some (3, 7) ∧ Ex X d mX7_isLine 80 [.ref x0] [.int (I s0 15), .ref s1, .ref s2] (T, I, J, R) Q)) ∧
  (∀ (X : tX) (d : Nat) (x0 : Nat) (s0 : Int32) (s1 : Nat) (s2 : Nat) (σ : rS) (Q : tQ), Ex X d mX7_isLine 80 [.ref x0] [.int s0, .ref s1, .ref s2] σ Q = Ex X d mX7_isLine 81 [.ref x0] [.int s0, .ref s1, .int s0, .ref s2] σ Q) ∧
  (∀ (X : tX) (d : Nat) (x0 : Nat) (s0 : Int32) (s1 : Nat) (s2 : Int32) (s3 : Nat) (σ : rS) (Q : tQ), Ex X d mX7_isLine 81 [.ref x0] [.int s0, .ref s1, .int s2, .ref s3] σ Q = Ex X d mX7_isLine 82 [.ref x0] [.int 1, .int s0, .ref s1, .int s2, .ref s3] σ Q) ∧
  (∀ (X : tX) (d : Nat) (x0 : Nat) (s0 : Int32) (s1 : Int32) (s2 : Nat) (s3 : Int32) (s4 : Nat) (σ : rS) (Q : tQ), Ex X d mX7_isLine 82 [.ref x0] [.int s0, .int s1, .ref s2, .int s3, .ref s4] σ Q = Ex X d mX7_isLine 83 [.ref x0] [.int (s1 + s0), .ref s2, .int s3, .ref s4] σ Q) ∧
  (∀ (X : tX) (d : Nat) (x0 : Nat) (s0 : Int32) (s1 : Nat) (s2 : Int32) (s3 : Nat) (T : tT) (I : tI) (J : tJ) (R : tR) (Q : tQ), Ex X d mX7_isLine 83 [.ref x0] [.int s0, .ref s1, .int s2, .ref s3] (T, I, J, R) Q = (T[s1]? = some (3, 7) ∧ Ex X d mX7_isLine 86 [.ref x0] [.int s2, .ref s3] (T, va_up I s1 (va_up (I s1) 15 s0), J, R) Q)) ∧
  (∀ (X : tX) (d : Nat) (x0 : Nat) (s0 : Int32) (s1 : Nat) (σ : rS) (Q : tQ), Ex X d mX7_isLine 86 [.ref x0] [.int s0, .ref s1] σ Q = Ex X d mX7_isLine 87 [.ref x0] [.ref x0, .int s0, .ref s1] σ Q) ∧
  (∀ (X : tX) (d : Nat) (x0 : Nat) (s0 : Nat) (s1 : Int32) (s2 : Nat) (T : tT) (I : tI) (J : tJ) (R : tR) (Q : tQ), Ex X d mX7_isLine 87 [.ref x0] [.ref s0, .int s1, .ref s2] (T, I, J, R) Q = (T[s0]? = some (3, 7) ∧ Ex X d mX7_isLine 90 [.ref x0] [.int (I s0 14), .int s1, .ref s2] (T, I, J, R) Q)) ∧
  (∀ (X : tX) (d : Nat) (x0 : Nat) (s0 : Int32) (s1 : Int32) (s2 : Nat) (T : tT) (I : tI) (J : tJ) (R : tR) (Q : tQ), Ex X d mX7_isLine 90 [.ref x0] [.int s0, .int s1, .ref s2] (T, I, J, R) Q = (rIn T s2 0 s1 ∧ Ex X d mX7_isLine 91 [.ref x0] [] (T, va_up I s2 (va_up (I s2) s1.toNatClampNeg s0), J, R) Q)) ∧
  (∀ (X : tX) (d : Nat) (x0 : Nat) (σ : rS) (Q : tQ), Ex X d mX7_isLine 91 [.ref x0] [] σ Q = Ex X d mX7_isLine 92 [.ref x0] [.int 1] σ Q) ∧
  (∀ (X : tX) (d : Nat) (x0 : Nat) (s0 : Int32) (σ : rS) (Q : tQ), Ex X d mX7_isLine 92 [.ref x0] [.int s0] σ Q = ((s0 = 0 ∨ s0 = 1) ∧ Q (some (.int s0)) σ)) := ⟨fun X d x0 σ Q => ex_P (i := .aload_n 0) (len := 1) (by decide +kernel) rfl,
  fun X d x0 s0 T I J R Q => q_getR (k := 42) (by decide +kernel) rfl rfl,
  fun X d x0 s0 σ Q => ex_P (i := .aload_n 0) (len := 1) (by decide +kernel) rfl,
  fun X d x0 s0 s1 σ Q => ex_P (i := .dup) (len := 1) (by decide +kernel) rfl,
  fun X d x0 s0 s1 s2 T I J R Q => q_getI (k := 190) (by decide +kernel) rfl rfl (by decide),
  fun X d x0 s0 s1 s2 σ Q => ex_P (i := .dup_x1) (len := 1) (by decide +kernel) rfl,
  fun X d x0 s0 s1 s2 s3 σ Q => ex_P (i := .iconst 1) (len := 1) (by decide +kernel) rfl,
  fun X d x0 s0 s1 s2 s3 s4 σ Q => ex_P (i := .iadd) (len := 1) (by decide +kernel) rfl,
  fun X d x0 s0 s1 s2 s3 T I J R Q => q_putI (k := 190) (by decide +kernel) rfl rfl (by decide +kernel),
  fun X d x0 s0 s1 σ Q => ex_P (i := .aload_n 0) (len := 1) (by decide +kernel) rfl,
  fun X d x0 s0 s1 s2 T I J R Q => q_getI (k := 152) (by decide +kernel) rfl rfl (by decide),
  fun X d x0 s0 s1 s2 T I J R Q => q_iast (by decide +kernel),
  fun X d x0 σ Q => ex_P (i := .iconst 1) (len := 1) (by decide +kernel) rfl,
  fun X d x0 s0 σ Q => q_retZ (by decide +kernel) rfl⟩
set_option maxRecDepth 50000 in
theorem gX7_law_0 : (∀ (X : tX) (d : Nat) (x0 : Nat) (σ : rS) (Q : tQ), Ex X d mX7_law 0 [.ref x0, rU, rU, rU] [] σ Q = Ex X d mX7_law 1 [.ref x0, rU, rU, rU] [.ref x0] σ Q) ∧
  (∀ (X : tX) (d : Nat) (x0 : Nat) (s0 : Nat) (σ : rS) (Q : tQ), Ex X d mX7_law 1 [.ref x0, rU, rU, rU] [.ref s0] σ Q = Ex X d mX7_law 2 [.ref x0, rU, rU, rU] [.int 0, .ref s0] σ Q) ∧
  (∀ (X : tX) (d : Nat) (x0 : Nat) (s0 : Int32) (s1 : Nat) (T : tT) (I : tI) (J : tJ) (R : tR) (Q : tQ), Ex X d mX7_law 2 [.ref x0, rU, rU, rU] [.int s0, .ref s1] (T, I, J, R) Q = (T[s1]? = some (3, 7) ∧ Ex X d mX7_law 5 [.ref x0, rU, rU, rU] [] (T, va_up I s1 (va_up (I s1) 12 s0), J, R) Q)) ∧
  (∀ (X : tX) (d : Nat) (x0 : Nat) (σ : rS) (Q : tQ), Ex X d mX7_law 5 [.ref x0, rU, rU, rU] [] σ Q = Ex X d mX7_law 6 [.ref x0, rU, rU, rU] [.ref x0] σ Q) ∧
  (∀ (X : tX) (d : Nat) (x0 : Nat) (s0 : Nat) (σ : rS) (Q : tQ), Ex X d mX7_law 6 [.ref x0, rU, rU, rU] [.ref s0] σ Q = Ex X d mX7_law 7 [.ref x0, rU, rU, rU] [.int 0, .ref s0] σ Q) ∧
  (∀ (X : tX) (d : Nat) (x0 : Nat) (s0 : Int32) (s1 : Nat) (T : tT) (I : tI) (J : tJ) (R : tR) (Q : tQ), Ex X d mX7_law 7 [.ref x0, rU, rU, rU] [.int s0, .ref s1] (T, I, J, R) Q = (T[s1]? = some (3, 7) ∧ Ex X d mX7_law 10 [.ref x0, rU, rU, rU] [] (T, va_up I s1 (va_up (I s1) 13 s0), J, R) Q)) ∧
  (∀ (X : tX) (d : Nat) (x0 : Nat) (σ : rS) (Q : tQ), Ex X d mX7_law 10 [.ref x0, rU, rU, rU] [] σ Q = Ex X d mX7_law 11 [.ref x0, rU, rU, rU] [.ref x0] σ Q) ∧
  (∀ (X : tX) (d : Nat) (x0 : Nat) (s0 : Nat) (σ : rS) (Q : tQ), Ex X d mX7_law 11 [.ref x0, rU, rU, rU] [.ref s0] σ Q = Ex X d mX7_law 12 [.ref x0, rU, rU, rU] [.int 0, .ref s0] σ Q) ∧
  (∀ (X : tX) (d : Nat) (x0 : Nat) (s0 : Int32) (s1 : Nat) (T : tT) (I : tI) (J : tJ) (R : tR) (Q : tQ), Ex X d mX7_law 12 [.ref x0, rU, rU, rU] [.int s0, .ref s1] (T, I, J, R) Q = (T[s1]? = some (3, 7) ∧ Ex X d mX7_law 15 [.ref x0, rU, rU, rU] [] (T, va_up I s1 (va_up (I s1) 14 s0), J, R) Q)) ∧
  (∀ (X : tX) (d : Nat) (x0 : Nat) (σ : rS) (Q : tQ), Ex X d mX7_law 15 [.ref x0, rU, rU, rU] [] σ Q = Ex X d mX7_law 16 [.ref x0, rU, rU, rU] [.ref x0] σ Q) ∧
  (∀ (X : tX) (d : Nat) (x0 : Nat) (s0 : Nat) (σ : rS) (Q : tQ), Ex X d mX7_law 16 [.ref x0, rU, rU, rU] [.ref s0] σ Q = Ex X d mX7_law 17 [.ref x0, rU, rU, rU] [.int 0, .ref s0] σ Q) ∧
  (∀ (X : tX) (d : Nat) (x0 : Nat) (s0 : Int32) (s1 : Nat) (T : tT) (I : tI) (J : tJ) (R : tR) (Q : tQ), Ex X d mX7_law 17 [.ref x0, rU, rU, rU] [.int s0, .ref s1] (T, I, J, R) Q = (T[s1]? = some (3, 7) ∧ Ex X d mX7_law 20 [.ref x0, rU, rU, rU] [] (T, va_up I s1 (va_up (I s1) 15 s0), J, R) Q)) ∧
  (∀ (X : tX) (d : Nat) (x0 : Nat) (σ : rS) (Q : tQ), Ex X d mX7_law 20 [.ref x0, rU, rU, rU] [] σ Q = Ex X d mX7_law 21 [.ref x0, rU, rU, rU] [.ref x0] σ Q) ∧
  (∀ (X : tX) (d : Nat) (x0 : Nat) (s0 : Nat) (T : tT) (I : tI) (J : tJ) (R : tR) (Q : tQ), Ex X (d + 1) mX7_law 21 [.ref x0, rU, rU, rU] [.ref s0] (T, I, J, R) Q = (T[s0]? = some (3, 7) ∧ Ex X d mX7_isLine 0 [.ref s0] [] (T, I, J, R) (fun v σ1 => Ex X (d + 1) mX7_law 24 [.ref x0, rU, rU, rU] (v.toList ++ []) σ1 Q))) := ⟨fun X d x0 σ Q => ex_P (i := .aload_n 0) (len := 1) (by decide +kernel) rfl,
  fun X d x0 s0 σ Q => ex_P (i := .iconst 0) (len := 1) (by decide +kernel) rfl,
  fun X d x0 s0 s1 T I J R Q => q_putI (k := 145) (by decide +kernel) rfl rfl (by decide +kernel),
  fun X d x0 σ Q => ex_P (i := .aload_n 0) (len := 1) (by decide +kernel) rfl,
  fun X d x0 s0 σ Q => ex_P (i := .iconst 0) (len := 1) (by decide +kernel) rfl,
  fun X d x0 s0 s1 T I J R Q => q_putI (k := 166) (by decide +kernel) rfl rfl (by decide +kernel),
  fun X d x0 σ Q => ex_P (i := .aload_n 0) (len := 1) (by decide +kernel) rfl,
  fun X d x0 s0 σ Q => ex_P (i := .iconst 0) (len := 1) (by decide +kernel) rfl,
  fun X d x0 s0 s1 T I J R Q => q_putI (k := 152) (by decide +kernel) rfl rfl (by decide +kernel),
  fun X d x0 σ Q => ex_P (i := .aload_n 0) (len := 1) (by decide +kernel) rfl,
  fun X d x0 s0 σ Q => ex_P (i := .iconst 0) (len := 1) (by decide +kernel) rfl,
  fun X d x0 s0 s1 T I J R Q => q_putI (k := 190) (by decide +kernel) rfl rfl (by decide +kernel),
  fun X d x0 σ Q => ex_P (i := .aload_n 0) (len := 1) (by decide +kernel) rfl,
  fun X d x0 s0 T I J R Q => q_callV (k := 193) (as := []) (st := []) (show rlk mX7_law.2.2.2.2.2.2 21 = some (.invokevirtual 193, 3) from by decide +kernel) rfl rfl rfl (Nat.le_of_ble_eq_true rfl) (Nat.le_of_ble_eq_true rfl) rfl⟩
set_option maxRecDepth 50000 in
theorem gX7_law_24 : (∀ (X : tX) (d : Nat) (x0 : Nat) (s0 : Int32) (σ : rS) (Q : tQ), Ex X d mX7_law 24 [.ref x0, rU, rU, rU] [.int s0] σ Q = Ex X d mX7_law 25 [.ref x0, .int s0, rU, rU] [] σ Q) := fun X d x0 s0 σ Q => ex_P (i := .istore_n 1) (len := 1) (by decide +kernel) rfl
set_option maxRecDepth 50000 in
theorem gX7_law_25 : (∀ (X : tX) (d : Nat) (x0 : Nat) (x1 : Int32) (σ : rS) (Q : tQ), Ex X d mX7_law 25 [.ref x0, .int x1, rU, rU] [] σ Q = Ex X d mX7_law 26 [.ref x0, .int x1, rU, rU] [.int x1] σ Q) ∧
  (∀ (X : tX) (d : Nat) (x0 : Nat) (x1 : Int32) (s0 : Int32) (σ : rS) (Q : tQ), Ex X d mX7_law 26 [.ref x0, .int x1, rU, rU] [.int s0] σ Q = (if s0 = 0 then Ex X d mX7_law 46 [.ref x0, .int x1, rU, rU] [] σ Q else Ex X d mX7_law 29 [.ref x0, .int x1, rU, rU] [] σ Q)) := ⟨fun X d x0 x1 σ Q => ex_P (i := .iload_n 1) (len := 1) (by decide +kernel) rfl,
  fun X d x0 x1 s0 σ Q => q_if_eq (o := 20) (by decide +kernel) rfl⟩
set_option maxRecDepth 50000 in
theorem gX7_law_29 : (∀ (X : tX) (d : Nat) (x0 : Nat) (x1 : Int32) (σ : rS) (Q : tQ), Ex X d mX7_law 29 [.ref x0, .int x1, rU, rU] [] σ Q = Ex X d mX7_law 30 [.ref x0, .int x1, rU, rU] [.ref x0] σ Q) ∧
  (∀ (X : tX) (d : Nat) (x0 : Nat) (x1 : Int32) (s0 : Nat) (σ : rS) (Q : tQ), Ex X d mX7_law 30 [.ref x0, .int x1, rU, rU] [.ref s0] σ Q = Ex X d mX7_law 32 [.ref x0, .int x1, rU, rU] [.int 59, .ref s0] σ Q) ∧
  (∀ (X : tX) (d : Nat) (x0 : Nat) (x1 : Int32) (s0 : Int32) (s1 : Nat) (T : tT) (I : tI) (J : tJ) (R : tR) (Q : tQ), Ex X (d + 1) mX7_law 32 [.ref x0, .int x1, rU, rU] [.int s0, .ref s1] (T, I, J, R) Q = (T[s1]? = some (3, 7) ∧ Ex X d mX7_is 0 [.ref s1, .int s0] [] (T, I, J, R) (fun v σ1 => Ex X (d + 1) mX7_law 35 [.ref x0, .int x1, rU, rU] (v.toList ++ []) σ1 Q))) := ⟨fun X d x0 x1 σ Q => ex_P (i := .aload_n 0) (len := 1) (by decide +kernel) rfl,
  fun X d x0 x1 s0 σ Q => ex_P (i := .bipush 59) (len := 2) (by decide +kernel) rfl,
  fun X d x0 x1 s0 s1 T I J R Q => q_callV (k := 169) (as := [.int s0]) (st := []) (show rlk mX7_law.2.2.2.2.2.2 32 = some (.invokevirtual 169, 3) from by decide +kernel) rfl rfl rfl (Nat.le_of_ble_eq_true rfl) (Nat.le_of_ble_eq_true rfl) rfl⟩
set_option maxRecDepth 50000 in
theorem gX7_law_35 : (∀ (X : tX) (d : Nat) (x0 : Nat) (x1 : Int32) (s0 : Int32) (σ : rS) (Q : tQ), Ex X d mX7_law 35 [.ref x0, .int x1, rU, rU] [.int s0] σ Q = (if s0 = 0 then Ex X d mX7_law 46 [.ref x0, .int x1, rU, rU] [] σ Q else Ex X d mX7_law 38 [.ref x0, .int x1, rU, rU] [] σ Q)) := fun X d x0 x1 s0 σ Q => q_if_eq (o := 11) (by decide +kernel) rfl
set_option maxRecDepth 50000 in
theorem gX7_law_38 : (∀ (X : tX) (d : Nat) (x0 : Nat) (x1 : Int32) (σ : rS) (Q : tQ), Ex X d mX7_law 38 [.ref x0, .int x1, rU, rU] [] σ Q = Ex X d mX7_law 39 [.ref x0, .int x1, rU, rU] [.ref x0] σ Q) ∧
  (∀ (X : tX) (d : Nat) (x0 : Nat) (x1 : Int32) (s0 : Nat) (T : tT) (I : tI) (J : tJ) (R : tR) (Q : tQ), Ex X (d + 1) mX7_law 39 [.ref x0, .int x1, rU, rU] [.ref s0] (T, I, J, R) Q = (T[s0]? = some (3, 7) ∧ Ex X d mX7_isLine 0 [.ref s0] [] (T, I, J, R) (fun v σ1 => Ex X (d + 1) mX7_law 42 [.ref x0, .int x1, rU, rU] (v.toList ++ []) σ1 Q))) := ⟨fun X d x0 x1 σ Q => ex_P (i := .aload_n 0) (len := 1) (by decide +kernel) rfl,
  fun X d x0 x1 s0 T I J R Q => q_callV (k := 193) (as := []) (st := []) (show rlk mX7_law.2.2.2.2.2.2 39 = some (.invokevirtual 193, 3) from by decide +kernel) rfl rfl rfl (Nat.le_of_ble_eq_true rfl) (Nat.le_of_ble_eq_true rfl) rfl⟩
set_option maxRecDepth 50000 in
theorem gX7_law_42 : (∀ (X : tX) (d : Nat) (x0 : Nat) (x1 : Int32) (s0 : Int32) (σ : rS) (Q : tQ), Ex X d mX7_law 42 [.ref x0, .int x1, rU, rU] [.int s0] σ Q = Ex X d mX7_law 43 [.ref x0, .int s0, rU, rU] [] σ Q) ∧
  (∀ (X : tX) (d : Nat) (x0 : Nat) (x1 : Int32) (σ : rS) (Q : tQ), Ex X d mX7_law 43 [.ref x0, .int x1, rU, rU] [] σ Q = Ex X d mX7_law 25 [.ref x0, .int x1, rU, rU] [] σ Q) := ⟨fun X d x0 x1 s0 σ Q => ex_P (i := .istore_n 1) (len := 1) (by decide +kernel) rfl,
  fun X d x0 x1 σ Q => q_goto (o := (-18)) (by decide +kernel) rfl⟩
set_option maxRecDepth 50000 in
theorem gX7_law_46 : (∀ (X : tX) (d : Nat) (x0 : Nat) (x1 : Int32) (σ : rS) (Q : tQ), Ex X d mX7_law 46 [.ref x0, .int x1, rU, rU] [] σ Q = Ex X d mX7_law 47 [.ref x0, .int x1, rU, rU] [.int x1] σ Q) ∧
  (∀ (X : tX) (d : Nat) (x0 : Nat) (x1 : Int32) (s0 : Int32) (σ : rS) (Q : tQ), Ex X d mX7_law 47 [.ref x0, .int x1, rU, rU] [.int s0] σ Q = (if s0 = 0 then Ex X d mX7_law 65 [.ref x0, .int x1, rU, rU] [] σ Q else Ex X d mX7_law 50 [.ref x0, .int x1, rU, rU] [] σ Q)) := ⟨fun X d x0 x1 σ Q => ex_P (i := .iload_n 1) (len := 1) (by decide +kernel) rfl,
  fun X d x0 x1 s0 σ Q => q_if_eq (o := 18) (by decide +kernel) rfl⟩
set_option maxRecDepth 50000 in
theorem gX7_law_50 : (∀ (X : tX) (d : Nat) (x0 : Nat) (x1 : Int32) (σ : rS) (Q : tQ), Ex X d mX7_law 50 [.ref x0, .int x1, rU, rU] [] σ Q = Ex X d mX7_law 51 [.ref x0, .int x1, rU, rU] [.ref x0] σ Q) ∧
  (∀ (X : tX) (d : Nat) (x0 : Nat) (x1 : Int32) (s0 : Nat) (T : tT) (I : tI) (J : tJ) (R : tR) (Q : tQ), Ex X d mX7_law 51 [.ref x0, .int x1, rU, rU] [.ref s0] (T, I, J, R) Q = (T[s0]? = some (3, 7) ∧ Ex X d mX7_law 54 [.ref x0, .int x1, rU, rU] [.int (I s0 12)] (T, I, J, R) Q)) ∧
  (∀ (X : tX) (d : Nat) (x0 : Nat) (x1 : Int32) (s0 : Int32) (σ : rS) (Q : tQ), Ex X d mX7_law 54 [.ref x0, .int x1, rU, rU] [.int s0] σ Q = Ex X d mX7_law 55 [.ref x0, .int x1, rU, rU] [.ref x0, .int s0] σ Q) ∧
  (∀ (X : tX) (d : Nat) (x0 : Nat) (x1 : Int32) (s0 : Nat) (s1 : Int32) (T : tT) (I : tI) (J : tJ) (R : tR) (Q : tQ), Ex X d mX7_law 55 [.ref x0, .int x1, rU, rU] [.ref s0, .int s1] (T, I, J, R) Q = (T[s0]? = some (3, 7) ∧ Ex X d mX7_law 58 [.ref x0, .int x1, rU, rU] [.int (I s0 4), .int s1] (T, I, J, R) Q)) ∧
  (∀ (X : tX) (d : Nat) (x0 : Nat) (x1 : Int32) (s0 : Int32) (s1 : Int32) (σ : rS) (Q : tQ), Ex X d mX7_law 58 [.ref x0, .int x1, rU, rU] [.int s0, .int s1] σ Q = (if s1 = s0 then Ex X d mX7_law 61 [.ref x0, .int x1, rU, rU] [] σ Q else Ex X d mX7_law 65 [.ref x0, .int x1, rU, rU] [] σ Q)) := ⟨fun X d x0 x1 σ Q => ex_P (i := .aload_n 0) (len := 1) (by decide +kernel) rfl,
  fun X d x0 x1 s0 T I J R Q => q_getI (k := 145) (by decide +kernel) rfl rfl (by decide),
  fun X d x0 x1 s0 σ Q => ex_P (i := .aload_n 0) (len := 1) (by decide +kernel) rfl,
  fun X d x0 x1 s0 s1 T I J R Q => q_getI (k := 142) (by decide +kernel) rfl rfl (by decide),
  fun X d x0 x1 s0 s1 σ Q => q_icmp_ne (o := 7) (by decide +kernel) rfl⟩
set_option maxRecDepth 50000 in
theorem gX7_law_61 : (∀ (X : tX) (d : Nat) (x0 : Nat) (x1 : Int32) (σ : rS) (Q : tQ), Ex X d mX7_law 61 [.ref x0, .int x1, rU, rU] [] σ Q = Ex X d mX7_law 62 [.ref x0, .int x1, rU, rU] [.int 1] σ Q) ∧
  (∀ (X : tX) (d : Nat) (x0 : Nat) (x1 : Int32) (s0 : Int32) (σ : rS) (Q : tQ), Ex X d mX7_law 62 [.ref x0, .int x1, rU, rU] [.int s0] σ Q = Ex X d mX7_law 66 [.ref x0, .int x1, rU, rU] [.int s0] σ Q) := ⟨fun X d x0 x1 σ Q => ex_P (i := .iconst 1) (len := 1) (by decide +kernel) rfl,
  fun X d x0 x1 s0 σ Q => q_goto (o := 4) (by decide +kernel) rfl⟩
set_option maxRecDepth 50000 in
theorem gX7_law_65 : (∀ (X : tX) (d : Nat) (x0 : Nat) (x1 : Int32) (σ : rS) (Q : tQ), Ex X d mX7_law 65 [.ref x0, .int x1, rU, rU] [] σ Q = Ex X d mX7_law 66 [.ref x0, .int x1, rU, rU] [.int 0] σ Q) := fun X d x0 x1 σ Q => ex_P (i := .iconst 0) (len := 1) (by decide +kernel) rfl
set_option maxRecDepth 50000 in
theorem gX7_law_66 : (∀ (X : tX) (d : Nat) (x0 : Nat) (x1 : Int32) (s0 : Int32) (σ : rS) (Q : tQ), Ex X d mX7_law 66 [.ref x0, .int x1, rU, rU] [.int s0] σ Q = Ex X d mX7_law 67 [.ref x0, .int x1, .int s0, rU] [] σ Q) ∧
  (∀ (X : tX) (d : Nat) (x0 : Nat) (x1 : Int32) (x2 : Int32) (σ : rS) (Q : tQ), Ex X d mX7_law 67 [.ref x0, .int x1, .int x2, rU] [] σ Q = Ex X d mX7_law 68 [.ref x0, .int x1, .int x2, rU] [.ref x0] σ Q) ∧
  (∀ (X : tX) (d : Nat) (x0 : Nat) (x1 : Int32) (x2 : Int32) (s0 : Nat) (σ : rS) (Q : tQ), Ex X d mX7_law 68 [.ref x0, .int x1, .int x2, rU] [.ref s0] σ Q = Ex X d mX7_law 69 [.ref x0, .int x1, .int x2, rU] [.int 0, .ref s0] σ Q) ∧
  (∀ (X : tX) (d : Nat) (x0 : Nat) (x1 : Int32) (x2 : Int32) (s0 : Int32) (s1 : Nat) (T : tT) (I : tI) (J : tJ) (R : tR) (Q : tQ), Ex X d mX7_law 69 [.ref x0, .int x1, .int x2, rU] [.int s0, .ref s1] (T, I, J, R) Q = (T[s1]? = some (3, 7) ∧ Ex X d mX7_law 72 [.ref x0, .int x1, .int x2, rU] [] (T, va_up I s1 (va_up (I s1) 4 s0), J, R) Q)) ∧
  (∀ (X : tX) (d : Nat) (x0 : Nat) (x1 : Int32) (x2 : Int32) (σ : rS) (Q : tQ), Ex X d mX7_law 72 [.ref x0, .int x1, .int x2, rU] [] σ Q = Ex X d mX7_law 73 [.ref x0, .int x1, .int x2, rU] [.int x2] σ Q) ∧
  (∀ (X : tX) (d : Nat) (x0 : Nat) (x1 : Int32) (x2 : Int32) (s0 : Int32) (σ : rS) (Q : tQ), Ex X d mX7_law 73 [.ref x0, .int x1, .int x2, rU] [.int s0] σ Q = (if s0 = 0 then Ex X d mX7_law 76 [.ref x0, .int x1, .int x2, rU] [] σ Q else Ex X d mX7_law 84 [.ref x0, .int x1, .int x2, rU] [] σ Q)) := ⟨fun X d x0 x1 s0 σ Q => ex_P (i := .istore_n 2) (len := 1) (by decide +kernel) rfl,
  fun X d x0 x1 x2 σ Q => ex_P (i := .aload_n 0) (len := 1) (by decide +kernel) rfl,
  fun X d x0 x1 x2 s0 σ Q => ex_P (i := .iconst 0) (len := 1) (by decide +kernel) rfl,
  fun X d x0 x1 x2 s0 s1 T I J R Q => q_putI (k := 142) (by decide +kernel) rfl rfl (by decide +kernel),
  fun X d x0 x1 x2 σ Q => ex_P (i := .iload_n 2) (len := 1) (by decide +kernel) rfl,
  fun X d x0 x1 x2 s0 σ Q => q_if_ne (o := 11) (by decide +kernel) rfl⟩
set_option maxRecDepth 50000 in
theorem gX7_law_76 : (∀ (X : tX) (d : Nat) (x0 : Nat) (x1 : Int32) (x2 : Int32) (σ : rS) (Q : tQ), Ex X d mX7_law 76 [.ref x0, .int x1, .int x2, rU] [] σ Q = Ex X d mX7_law 78 [.ref x0, .int x1, .int x2, rU] [.int (-100)] σ Q) ∧
  (∀ (X : tX) (d : Nat) (x0 : Nat) (x1 : Int32) (x2 : Int32) (s0 : Int32) (σ : rS) (Q : tQ), Ex X d mX7_law 78 [.ref x0, .int x1, .int x2, rU] [.int s0] σ Q = Ex X d mX7_law 79 [.ref x0, .int x1, .int x2, rU] [.ref x0, .int s0] σ Q) ∧
  (∀ (X : tX) (d : Nat) (x0 : Nat) (x1 : Int32) (x2 : Int32) (s0 : Nat) (s1 : Int32) (T : tT) (I : tI) (J : tJ) (R : tR) (Q : tQ), Ex X d mX7_law 79 [.ref x0, .int x1, .int x2, rU] [.ref s0, .int s1] (T, I, J, R) Q = (T[s0]? = some (3, 7) ∧ Ex X d mX7_law 82 [.ref x0, .int x1, .int x2, rU] [.int (I s0 12), .int s1] (T, I, J, R) Q)) ∧
  (∀ (X : tX) (d : Nat) (x0 : Nat) (x1 : Int32) (x2 : Int32) (s0 : Int32) (s1 : Int32) (σ : rS) (Q : tQ), Ex X d mX7_law 82 [.ref x0, .int x1, .int x2, rU] [.int s0, .int s1] σ Q = Ex X d mX7_law 83 [.ref x0, .int x1, .int x2, rU] [.int (s1 - s0)] σ Q) ∧
  (∀ (X : tX) (d : Nat) (x0 : Nat) (x1 : Int32) (x2 : Int32) (s0 : Int32) (σ : rS) (Q : tQ), Ex X d mX7_law 83 [.ref x0, .int x1, .int x2, rU] [.int s0] σ Q = Q (some (.int s0)) σ) := ⟨fun X d x0 x1 x2 σ Q => ex_P (i := .bipush (-100)) (len := 2) (by decide +kernel) rfl,
  fun X d x0 x1 x2 s0 σ Q => ex_P (i := .aload_n 0) (len := 1) (by decide +kernel) rfl,
  fun X d x0 x1 x2 s0 s1 T I J R Q => q_getI (k := 145) (by decide +kernel) rfl rfl (by decide),
  fun X d x0 x1 x2 s0 s1 σ Q => ex_P (i := .isub) (len := 1) (by decide +kernel) rfl,
  fun X d x0 x1 x2 s0 σ Q => q_retI (by decide +kernel) rfl⟩
set_option maxRecDepth 50000 in
theorem gX7_law_84 : (∀ (X : tX) (d : Nat) (x0 : Nat) (x1 : Int32) (x2 : Int32) (σ : rS) (Q : tQ), Ex X d mX7_law 84 [.ref x0, .int x1, .int x2, rU] [] σ Q = Ex X d mX7_law 85 [.ref x0, .int x1, .int x2, rU] [.ref x0] σ Q) ∧
  (∀ (X : tX) (d : Nat) (x0 : Nat) (x1 : Int32) (x2 : Int32) (s0 : Nat) (σ : rS) (Q : tQ), Ex X d mX7_law 85 [.ref x0, .int x1, .int x2, rU] [.ref s0] σ Q = Ex X d mX7_law 86 [.ref x0, .int x1, .int x2, rU] [.int 1, .ref s0] σ Q) ∧
  (∀ (X : tX) (d : Nat) (x0 : Nat) (x1 : Int32) (x2 : Int32) (s0 : Int32) (s1 : Nat) (T : tT) (I : tI) (J : tJ) (R : tR) (Q : tQ), Ex X d mX7_law 86 [.ref x0, .int x1, .int x2, rU] [.int s0, .ref s1] (T, I, J, R) Q = (T[s1]? = some (3, 7) ∧ (s0 = 0 ∨ s0 = 1) ∧ Ex X d mX7_law 89 [.ref x0, .int x1, .int x2, rU] [] (T, va_up I s1 (va_up (I s1) 6 s0), J, R) Q)) ∧
  (∀ (X : tX) (d : Nat) (x0 : Nat) (x1 : Int32) (x2 : Int32) (σ : rS) (Q : tQ), Ex X d mX7_law 89 [.ref x0, .int x1, .int x2, rU] [] σ Q = Ex X d mX7_law 90 [.ref x0, .int x1, .int x2, rU] [.ref x0] σ Q) ∧
  (∀ (X : tX) (d : Nat) (x0 : Nat) (x1 : Int32) (x2 : Int32) (s0 : Nat) (σ : rS) (Q : tQ), Ex X d mX7_law 90 [.ref x0, .int x1, .int x2, rU] [.ref s0] σ Q = Ex X d mX7_law 91 [.ref x0, .int x1, .int x2, rU] [.ref x0, .ref s0] σ Q) ∧
  (∀ (X : tX) (d : Nat) (x0 : Nat) (x1 : Int32) (x2 : Int32) (s0 : Nat) (s1 : Nat) (T : tT) (I : tI) (J : tJ) (R : tR) (Q : tQ), Ex X d mX7_law 91 [.ref x0, .int x1, .int x2, rU] [.ref s0, .ref s1] (T, I, J, R) Q = (T[s0]? = some (3, 7) ∧ Ex X d mX7_law 94 [.ref x0, .int x1, .int x2, rU] [.int (I s0 15), .ref s1] (T, I, J, R) Q)) ∧
  (∀ (X : tX) (d : Nat) (x0 : Nat) (x1 : Int32) (x2 : Int32) (s0 : Int32) (s1 : Nat) (T : tT) (I : tI) (J : tJ) (R : tR) (Q : tQ), Ex X d mX7_law 94 [.ref x0, .int x1, .int x2, rU] [.int s0, .ref s1] (T, I, J, R) Q = (T[s1]? = some (3, 7) ∧ Ex X d mX7_law 97 [.ref x0, .int x1, .int x2, rU] [] (T, va_up I s1 (va_up (I s1) 7 s0), J, R) Q)) ∧
  (∀ (X : tX) (d : Nat) (x0 : Nat) (x1 : Int32) (x2 : Int32) (σ : rS) (Q : tQ), Ex X d mX7_law 97 [.ref x0, .int x1, .int x2, rU] [] σ Q = Ex X d mX7_law 98 [.ref x0, .int x1, .int x2, rU] [.int 0] σ Q) ∧
  (∀ (X : tX) (d : Nat) (x0 : Nat) (x1 : Int32) (x2 : Int32) (s0 : Int32) (σ : rS) (Q : tQ), Ex X d mX7_law 98 [.ref x0, .int x1, .int x2, rU] [.int s0] σ Q = Ex X d mX7_law 99 [.ref x0, .int x1, .int x2, .int s0] [] σ Q) := ⟨fun X d x0 x1 x2 σ Q => ex_P (i := .aload_n 0) (len := 1) (by decide +kernel) rfl,
  fun X d x0 x1 x2 s0 σ Q => ex_P (i := .iconst 1) (len := 1) (by decide +kernel) rfl,
  fun X d x0 x1 x2 s0 s1 T I J R Q => q_putZ (k := 196) (by decide +kernel) rfl rfl (by decide +kernel),
  fun X d x0 x1 x2 σ Q => ex_P (i := .aload_n 0) (len := 1) (by decide +kernel) rfl,
  fun X d x0 x1 x2 s0 σ Q => ex_P (i := .aload_n 0) (len := 1) (by decide +kernel) rfl,
  fun X d x0 x1 x2 s0 s1 T I J R Q => q_getI (k := 190) (by decide +kernel) rfl rfl (by decide),
  fun X d x0 x1 x2 s0 s1 T I J R Q => q_putI (k := 200) (by decide +kernel) rfl rfl (by decide +kernel),
  fun X d x0 x1 x2 σ Q => ex_P (i := .iconst 0) (len := 1) (by decide +kernel) rfl,
  fun X d x0 x1 x2 s0 σ Q => ex_P (i := .istore_n 3) (len := 1) (by decide +kernel) rfl⟩
set_option maxRecDepth 50000 in
theorem gX7_law_99 : (∀ (X : tX) (d : Nat) (x0 : Nat) (x1 : Int32) (x2 : Int32) (x3 : Int32) (σ : rS) (Q : tQ), Ex X d mX7_law 99 [.ref x0, .int x1, .int x2, .int x3] [] σ Q = Ex X d mX7_law 100 [.ref x0, .int x1, .int x2, .int x3] [.int x3] σ Q) ∧
  (∀ (X : tX) (d : Nat) (x0 : Nat) (x1 : Int32) (x2 : Int32) (x3 : Int32) (s0 : Int32) (σ : rS) (Q : tQ), Ex X d mX7_law 100 [.ref x0, .int x1, .int x2, .int x3] [.int s0] σ Q = Ex X d mX7_law 101 [.ref x0, .int x1, .int x2, .int x3] [.ref x0, .int s0] σ Q) ∧
  (∀ (X : tX) (d : Nat) (x0 : Nat) (x1 : Int32) (x2 : Int32) (x3 : Int32) (s0 : Nat) (s1 : Int32) (T : tT) (I : tI) (J : tJ) (R : tR) (Q : tQ), Ex X d mX7_law 101 [.ref x0, .int x1, .int x2, .int x3] [.ref s0, .int s1] (T, I, J, R) Q = (T[s0]? = some (3, 7) ∧ Ex X d mX7_law 104 [.ref x0, .int x1, .int x2, .int x3] [.int (I s0 7), .int s1] (T, I, J, R) Q)) ∧
  (∀ (X : tX) (d : Nat) (x0 : Nat) (x1 : Int32) (x2 : Int32) (x3 : Int32) (s0 : Int32) (s1 : Int32) (σ : rS) (Q : tQ), Ex X d mX7_law 104 [.ref x0, .int x1, .int x2, .int x3] [.int s0, .int s1] σ Q = (if s0 ≤ s1 then Ex X d mX7_law 149 [.ref x0, .int x1, .int x2, .int x3] [] σ Q else Ex X d mX7_law 107 [.ref x0, .int x1, .int x2, .int x3] [] σ Q)) := ⟨fun X d x0 x1 x2 x3 σ Q => ex_P (i := .iload_n 3) (len := 1) (by decide +kernel) rfl,
  fun X d x0 x1 x2 x3 s0 σ Q => ex_P (i := .aload_n 0) (len := 1) (by decide +kernel) rfl,
  fun X d x0 x1 x2 x3 s0 s1 T I J R Q => q_getI (k := 200) (by decide +kernel) rfl rfl (by decide),
  fun X d x0 x1 x2 x3 s0 s1 σ Q => q_icmp_ge (o := 45) (by decide +kernel) rfl⟩
set_option maxRecDepth 50000 in
theorem gX7_law_107 : (∀ (X : tX) (d : Nat) (x0 : Nat) (x1 : Int32) (x2 : Int32) (x3 : Int32) (σ : rS) (Q : tQ), Ex X d mX7_law 107 [.ref x0, .int x1, .int x2, .int x3] [] σ Q = Ex X d mX7_law 108 [.ref x0, .int x1, .int x2, .int x3] [.ref x0] σ Q) ∧
  (∀ (X : tX) (d : Nat) (x0 : Nat) (x1 : Int32) (x2 : Int32) (x3 : Int32) (s0 : Nat) (T : tT) (I : tI) (J : tJ) (R : tR) (Q : tQ), Ex X d mX7_law 108 [.ref x0, .int x1, .int x2, .int x3] [.ref s0] (T, I, J, R) Q = (T[s0]? = some (3, 7) ∧ Ex X d mX7_law 111 [.ref x0, .int x1, .int x2, .int x3] [va_rf (R s0 8)] (T, I, J, R) Q)) ∧
  (∀ (X : tX) (d : Nat) (x0 : Nat) (x1 : Int32) (x2 : Int32) (x3 : Int32) (s0 : Nat) (σ : rS) (Q : tQ), Ex X d mX7_law 111 [.ref x0, .int x1, .int x2, .int x3] [.ref s0] σ Q = Ex X d mX7_law 112 [.ref x0, .int x1, .int x2, .int x3] [.int x3, .ref s0] σ Q) ∧
  (∀ (X : tX) (d : Nat) (x0 : Nat) (x1 : Int32) (x2 : Int32) (x3 : Int32) (s0 : Int32) (s1 : Nat) (σ : rS) (Q : tQ), Ex X d mX7_law 112 [.ref x0, .int x1, .int x2, .int x3] [.int s0, .ref s1] σ Q = Ex X d mX7_law 113 [.ref x0, .int x1, .int x2, .int x3] [.ref x0, .int s0, .ref s1] σ Q) ∧
  (∀ (X : tX) (d : Nat) (x0 : Nat) (x1 : Int32) (x2 : Int32) (x3 : Int32) (s0 : Nat) (s1 : Int32) (s2 : Nat) (T : tT) (I : tI) (J : tJ) (R : tR) (Q : tQ), Ex X d mX7_law 113 [.ref x0, .int x1, .int x2, .int x3] [.ref s0, .int s1, .ref s2] (T, I, J, R) Q = (T[s0]? = some (3, 7) ∧ Ex X d mX7_law 116 [.ref x0, .int x1, .int x2, .int x3] [va_rf (R s0 16), .int s1, .ref s2] (T, I, J, R) Q)) ∧
  (∀ (X : tX) (d : Nat) (x0 : Nat) (x1 : Int32) (x2 : Int32) (x3 : Int32) (s0 : Nat) (s1 : Int32) (s2 : Nat) (σ : rS) (Q : tQ), Ex X d mX7_law 116 [.ref x0, .int x1, .int x2, .int x3] [.ref s0, .int s1, .ref s2] σ Q = Ex X d mX7_law 117 [.ref x0, .int x1, .int x2, .int x3] [.int x3, .ref s0, .int s1, .ref s2] σ Q) ∧
  (∀ (X : tX) (d : Nat) (x0 : Nat) (x1 : Int32) (x2 : Int32) (x3 : Int32) (s0 : Int32) (s1 : Nat) (s2 : Int32) (s3 : Nat) (T : tT) (I : tI) (J : tJ) (R : tR) (Q : tQ), Ex X d mX7_law 117 [.ref x0, .int x1, .int x2, .int x3] [.int s0, .ref s1, .int s2, .ref s3] (T, I, J, R) Q = (rIn T s1 0 s0 ∧ Ex X d mX7_law 118 [.ref x0, .int x1, .int x2, .int x3] [.int (I s1 s0.toNatClampNeg), .int s2, .ref s3] (T, I, J, R) Q)) ∧
  (∀ (X : tX) (d : Nat) (x0 : Nat) (x1 : Int32) (x2 : Int32) (x3 : Int32) (s0 : Int32) (s1 : Int32) (s2 : Nat) (T : tT) (I : tI) (J : tJ) (R : tR) (Q : tQ), Ex X d mX7_law 118 [.ref x0, .int x1, .int x2, .int x3] [.int s0, .int s1, .ref s2] (T, I, J, R) Q = (rIn T s2 0 s1 ∧ Ex X d mX7_law 119 [.ref x0, .int x1, .int x2, .int x3] [] (T, va_up I s2 (va_up (I s2) s1.toNatClampNeg s0), J, R) Q)) ∧
  (∀ (X : tX) (d : Nat) (x0 : Nat) (x1 : Int32) (x2 : Int32) (x3 : Int32) (σ : rS) (Q : tQ), Ex X d mX7_law 119 [.ref x0, .int x1, .int x2, .int x3] [] σ Q = Ex X d mX7_law 120 [.ref x0, .int x1, .int x2, .int x3] [.ref x0] σ Q) ∧
  (∀ (X : tX) (d : Nat) (x0 : Nat) (x1 : Int32) (x2 : Int32) (x3 : Int32) (s0 : Nat) (T : tT) (I : tI) (J : tJ) (R : tR) (Q : tQ), Ex X d mX7_law 120 [.ref x0, .int x1, .int x2, .int x3] [.ref s0] (T, I, J, R) Q = (T[s0]? = some (3, 7) ∧ Ex X d mX7_law 123 [.ref x0, .int x1, .int x2, .int x3] [va_rf (R s0 9)] (T, I, J, R) Q)) ∧
  (∀ (X : tX) (d : Nat) (x0 : Nat) (x1 : Int32) (x2 : Int32) (x3 : Int32) (s0 : Nat) (σ : rS) (Q : tQ), Ex X d mX7_law 123 [.ref x0, .int x1, .int x2, .int x3] [.ref s0] σ Q = Ex X d mX7_law 124 [.ref x0, .int x1, .int x2, .int x3] [.int x3, .ref s0] σ Q) ∧
  (∀ (X : tX) (d : Nat) (x0 : Nat) (x1 : Int32) (x2 : Int32) (x3 : Int32) (s0 : Int32) (s1 : Nat) (σ : rS) (Q : tQ), Ex X d mX7_law 124 [.ref x0, .int x1, .int x2, .int x3] [.int s0, .ref s1] σ Q = Ex X d mX7_law 125 [.ref x0, .int x1, .int x2, .int x3] [.ref x0, .int s0, .ref s1] σ Q) ∧
  (∀ (X : tX) (d : Nat) (x0 : Nat) (x1 : Int32) (x2 : Int32) (x3 : Int32) (s0 : Nat) (s1 : Int32) (s2 : Nat) (T : tT) (I : tI) (J : tJ) (R : tR) (Q : tQ), Ex X d mX7_law 125 [.ref x0, .int x1, .int x2, .int x3] [.ref s0, .int s1, .ref s2] (T, I, J, R) Q = (T[s0]? = some (3, 7) ∧ Ex X d mX7_law 128 [.ref x0, .int x1, .int x2, .int x3] [va_rf (R s0 17), .int s1, .ref s2] (T, I, J, R) Q)) ∧
  (∀ (X : tX) (d : Nat) (x0 : Nat) (x1 : Int32) (x2 : Int32) (x3 : Int32) (s0 : Nat) (s1 : Int32) (s2 : Nat) (σ : rS) (Q : tQ), Ex X d mX7_law 128 [.ref x0, .int x1, .int x2, .int x3] [.ref s0, .int s1, .ref s2] σ Q = Ex X d mX7_law 129 [.ref x0, .int x1, .int x2, .int x3] [.int x3, .ref s0, .int s1, .ref s2] σ Q) ∧
  (∀ (X : tX) (d : Nat) (x0 : Nat) (x1 : Int32) (x2 : Int32) (x3 : Int32) (s0 : Int32) (s1 : Nat) (s2 : Int32) (s3 : Nat) (T : tT) (I : tI) (J : tJ) (R : tR) (Q : tQ), Ex X d mX7_law 129 [.ref x0, .int x1, .int x2, .int x3] [.int s0, .ref s1, .int s2, .ref s3] (T, I, J, R) Q = (rIn T s1 0 s0 ∧ Ex X d mX7_law 130 [.ref x0, .int x1, .int x2, .int x3] [.int (I s1 s0.toNatClampNeg), .int s2, .ref s3] (T, I, J, R) Q)) ∧
  (∀ (X : tX) (d : Nat) (x0 : Nat) (x1 : Int32) (x2 : Int32) (x3 : Int32) (s0 : Int32) (s1 : Int32) (s2 : Nat) (T : tT) (I : tI) (J : tJ) (R : tR) (Q : tQ), Ex X d mX7_law 130 [.ref x0, .int x1, .int x2, .int x3] [.int s0, .int s1, .ref s2] (T, I, J, R) Q = (rIn T s2 0 s1 ∧ Ex X d mX7_law 131 [.ref x0, .int x1, .int x2, .int x3] [] (T, va_up I s2 (va_up (I s2) s1.toNatClampNeg s0), J, R) Q)) ∧
  (∀ (X : tX) (d : Nat) (x0 : Nat) (x1 : Int32) (x2 : Int32) (x3 : Int32) (σ : rS) (Q : tQ), Ex X d mX7_law 131 [.ref x0, .int x1, .int x2, .int x3] [] σ Q = Ex X d mX7_law 132 [.ref x0, .int x1, .int x2, .int x3] [.ref x0] σ Q) ∧
  (∀ (X : tX) (d : Nat) (x0 : Nat) (x1 : Int32) (x2 : Int32) (x3 : Int32) (s0 : Nat) (T : tT) (I : tI) (J : tJ) (R : tR) (Q : tQ), Ex X d mX7_law 132 [.ref x0, .int x1, .int x2, .int x3] [.ref s0] (T, I, J, R) Q = (T[s0]? = some (3, 7) ∧ Ex X d mX7_law 135 [.ref x0, .int x1, .int x2, .int x3] [va_rf (R s0 10)] (T, I, J, R) Q)) ∧
  (∀ (X : tX) (d : Nat) (x0 : Nat) (x1 : Int32) (x2 : Int32) (x3 : Int32) (s0 : Nat) (σ : rS) (Q : tQ), Ex X d mX7_law 135 [.ref x0, .int x1, .int x2, .int x3] [.ref s0] σ Q = Ex X d mX7_law 136 [.ref x0, .int x1, .int x2, .int x3] [.int x3, .ref s0] σ Q) ∧
  (∀ (X : tX) (d : Nat) (x0 : Nat) (x1 : Int32) (x2 : Int32) (x3 : Int32) (s0 : Int32) (s1 : Nat) (σ : rS) (Q : tQ), Ex X d mX7_law 136 [.ref x0, .int x1, .int x2, .int x3] [.int s0, .ref s1] σ Q = Ex X d mX7_law 137 [.ref x0, .int x1, .int x2, .int x3] [.ref x0, .int s0, .ref s1] σ Q) ∧
  (∀ (X : tX) (d : Nat) (x0 : Nat) (x1 : Int32) (x2 : Int32) (x3 : Int32) (s0 : Nat) (s1 : Int32) (s2 : Nat) (T : tT) (I : tI) (J : tJ) (R : tR) (Q : tQ), Ex X d mX7_law 137 [.ref x0, .int x1, .int x2, .int x3] [.ref s0, .int s1, .ref s2] (T, I, J, R) Q = (T[s0]? = some (3, 7) ∧ Ex X d mX7_law 140 [.ref x0, .int x1, .int x2, .int x3] [va_rf (R s0 18), .int s1, .ref s2] (T, I, J, R) Q)) ∧
  (∀ (X : tX) (d : Nat) (x0 : Nat) (x1 : Int32) (x2 : Int32) (x3 : Int32) (s0 : Nat) (s1 : Int32) (s2 : Nat) (σ : rS) (Q : tQ), Ex X d mX7_law 140 [.ref x0, .int x1, .int x2, .int x3] [.ref s0, .int s1, .ref s2] σ Q = Ex X d mX7_law 141 [.ref x0, .int x1, .int x2, .int x3] [.int x3, .ref s0, .int s1, .ref s2] σ Q) ∧
  (∀ (X : tX) (d : Nat) (x0 : Nat) (x1 : Int32) (x2 : Int32) (x3 : Int32) (s0 : Int32) (s1 : Nat) (s2 : Int32) (s3 : Nat) (T : tT) (I : tI) (J : tJ) (R : tR) (Q : tQ), Ex X d mX7_law 141 [.ref x0, .int x1, .int x2, .int x3] [.int s0, .ref s1, .int s2, .ref s3] (T, I, J, R) Q = (rIn T s1 0 s0 ∧ Ex X d mX7_law 142 [.ref x0, .int x1, .int x2, .int x3] [.int (I s1 s0.toNatClampNeg), .int s2, .ref s3] (T, I, J, R) Q)) ∧
  (∀ (X : tX) (d : Nat) (x0 : Nat) (x1 : Int32) (x2 : Int32) (x3 : Int32) (s0 : Int32) (s1 : Int32) (s2 : Nat) (T : tT) (I : tI) (J : tJ) (R : tR) (Q : tQ), Ex X d mX7_law 142 [.ref x0, .int x1, .int x2, .int x3] [.int s0, .int s1, .ref s2] (T, I, J, R) Q = (rIn T s2 0 s1 ∧ Ex X d mX7_law 143 [.ref x0, .int x1, .int x2, .int x3] [] (T, va_up I s2 (va_up (I s2) s1.toNatClampNeg s0), J, R) Q)) ∧
  (∀ (X : tX) (d : Nat) (x0 : Nat) (x1 : Int32) (x2 : Int32) (x3 : Int32) (σ : rS) (Q : tQ), Ex X d mX7_law 143 [.ref x0, .int x1, .int x2, .int x3] [] σ Q = Ex X d mX7_law 146 [.ref x0, .int x1, .int x2, .int (x3 + 1)] [] σ Q) ∧
  (∀ (X : tX) (d : Nat) (x0 : Nat) (x1 : Int32) (x2 : Int32) (x3 : Int32) (σ : rS) (Q : tQ), Ex X d mX7_law 146 [.ref x0, .int x1, .int x2, .int x3] [] σ Q = Ex X d mX7_law 99 [.ref x0, .int x1, .int x2, .int x3] [] σ Q) := ⟨fun X d x0 x1 x2 x3 σ Q => ex_P (i := .aload_n 0) (len := 1) (by decide +kernel) rfl,
  fun X d x0 x1 x2 x3 s0 T I J R Q => q_getR (k := 24) (by decide +kernel) rfl rfl,
  fun X d x0 x1 x2 x3 s0 σ Q => ex_P (i := .iload_n 3) (len := 1) (by decide +kernel) rfl,
  fun X d x0 x1 x2 x3 s0 s1 σ Q => ex_P (i := .aload_n 0) (len := 1) (by decide +kernel) rfl,
  fun X d x0 x1 x2 x3 s0 s1 s2 T I J R Q => q_getR (k := 36) (by decide +kernel) rfl rfl,
  fun X d x0 x1 x2 x3 s0 s1 s2 σ Q => ex_P (i := .iload_n 3) (len := 1) (by decide +kernel) rfl,
  fun X d x0 x1 x2 x3 s0 s1 s2 s3 T I J R Q => q_iald (by decide +kernel),
  fun X d x0 x1 x2 x3 s0 s1 s2 T I J R Q => q_iast (by decide +kernel),
  fun X d x0 x1 x2 x3 σ Q => ex_P (i := .aload_n 0) (len := 1) (by decide +kernel) rfl,
  fun X d x0 x1 x2 x3 s0 T I J R Q => q_getR (k := 27) (by decide +kernel) rfl rfl,
  fun X d x0 x1 x2 x3 s0 σ Q => ex_P (i := .iload_n 3) (len := 1) (by decide +kernel) rfl,
  fun X d x0 x1 x2 x3 s0 s1 σ Q => ex_P (i := .aload_n 0) (len := 1) (by decide +kernel) rfl,
  fun X d x0 x1 x2 x3 s0 s1 s2 T I J R Q => q_getR (k := 39) (by decide +kernel) rfl rfl,
  fun X d x0 x1 x2 x3 s0 s1 s2 σ Q => ex_P (i := .iload_n 3) (len := 1) (by decide +kernel) rfl,
  fun X d x0 x1 x2 x3 s0 s1 s2 s3 T I J R Q => q_iald (by decide +kernel),
  fun X d x0 x1 x2 x3 s0 s1 s2 T I J R Q => q_iast (by decide +kernel),
  fun X d x0 x1 x2 x3 σ Q => ex_P (i := .aload_n 0) (len := 1) (by decide +kernel) rfl,
  fun X d x0 x1 x2 x3 s0 T I J R Q => q_getR (k := 30) (by decide +kernel) rfl rfl,
  fun X d x0 x1 x2 x3 s0 σ Q => ex_P (i := .iload_n 3) (len := 1) (by decide +kernel) rfl,
  fun X d x0 x1 x2 x3 s0 s1 σ Q => ex_P (i := .aload_n 0) (len := 1) (by decide +kernel) rfl,
  fun X d x0 x1 x2 x3 s0 s1 s2 T I J R Q => q_getR (k := 42) (by decide +kernel) rfl rfl,
  fun X d x0 x1 x2 x3 s0 s1 s2 σ Q => ex_P (i := .iload_n 3) (len := 1) (by decide +kernel) rfl,
  fun X d x0 x1 x2 x3 s0 s1 s2 s3 T I J R Q => q_iald (by decide +kernel),
  fun X d x0 x1 x2 x3 s0 s1 s2 T I J R Q => q_iast (by decide +kernel),
  fun X d x0 x1 x2 x3 σ Q => ex_P (i := .iinc 3 1) (len := 3) (by decide +kernel) rfl,
  fun X d x0 x1 x2 x3 σ Q => q_goto (o := (-47)) (by decide +kernel) rfl⟩
set_option maxRecDepth 50000 in
theorem gX7_law_149 : (∀ (X : tX) (d : Nat) (x0 : Nat) (x1 : Int32) (x2 : Int32) (x3 : Int32) (σ : rS) (Q : tQ), Ex X d mX7_law 149 [.ref x0, .int x1, .int x2, .int x3] [] σ Q = Ex X d mX7_law 150 [.ref x0, .int x1, .int x2, .int x3] [.int 0] σ Q) ∧
  (∀ (X : tX) (d : Nat) (x0 : Nat) (x1 : Int32) (x2 : Int32) (x3 : Int32) (s0 : Int32) (σ : rS) (Q : tQ), Ex X d mX7_law 150 [.ref x0, .int x1, .int x2, .int x3] [.int s0] σ Q = Ex X d mX7_law 151 [.ref x0, .int x1, .int x2, .int s0] [] σ Q) := ⟨fun X d x0 x1 x2 x3 σ Q => ex_P (i := .iconst 0) (len := 1) (by decide +kernel) rfl,
  fun X d x0 x1 x2 x3 s0 σ Q => ex_P (i := .istore_n 3) (len := 1) (by decide +kernel) rfl⟩
set_option maxRecDepth 50000 in
theorem gX7_law_151 : (∀ (X : tX) (d : Nat) (x0 : Nat) (x1 : Int32) (x2 : Int32) (x3 : Int32) (σ : rS) (Q : tQ), Ex X d mX7_law 151 [.ref x0, .int x1, .int x2, .int x3] [] σ Q = Ex X d mX7_law 152 [.ref x0, .int x1, .int x2, .int x3] [.int x3] σ Q) ∧
  (∀ (X : tX) (d : Nat) (x0 : Nat) (x1 : Int32) (x2 : Int32) (x3 : Int32) (s0 : Int32) (σ : rS) (Q : tQ), Ex X d mX7_law 152 [.ref x0, .int x1, .int x2, .int x3] [.int s0] σ Q = Ex X d mX7_law 153 [.ref x0, .int x1, .int x2, .int x3] [.ref x0, .int s0] σ Q) ∧
  (∀ (X : tX) (d : Nat) (x0 : Nat) (x1 : Int32) (x2 : Int32) (x3 : Int32) (s0 : Nat) (s1 : Int32) (T : tT) (I : tI) (J : tJ) (R : tR) (Q : tQ), Ex X d mX7_law 153 [.ref x0, .int x1, .int x2, .int x3] [.ref s0, .int s1] (T, I, J, R) Q = (T[s0]? = some (3, 7) ∧ Ex X d mX7_law 156 [.ref x0, .int x1, .int x2, .int x3] [.int (I s0 14), .int s1] (T, I, J, R) Q)) ∧
  (∀ (X : tX) (d : Nat) (x0 : Nat) (x1 : Int32) (x2 : Int32) (x3 : Int32) (s0 : Int32) (s1 : Int32) (σ : rS) (Q : tQ), Ex X d mX7_law 156 [.ref x0, .int x1, .int x2, .int x3] [.int s0, .int s1] σ Q = (if s0 ≤ s1 then Ex X d mX7_law 177 [.ref x0, .int x1, .int x2, .int x3] [] σ Q else Ex X d mX7_law 159 [.ref x0, .int x1, .int x2, .int x3] [] σ Q)) := ⟨fun X d x0 x1 x2 x3 σ Q => ex_P (i := .iload_n 3) (len := 1) (by decide +kernel) rfl,
  fun X d x0 x1 x2 x3 s0 σ Q => ex_P (i := .aload_n 0) (len := 1) (by decide +kernel) rfl,
  fun X d x0 x1 x2 x3 s0 s1 T I J R Q => q_getI (k := 152) (by decide +kernel) rfl rfl (by decide),
  fun X d x0 x1 x2 x3 s0 s1 σ Q => q_icmp_ge (o := 21) (by decide +kernel) rfl⟩
set_option maxRecDepth 50000 in
theorem gX7_law_159 : (∀ (X : tX) (d : Nat) (x0 : Nat) (x1 : Int32) (x2 : Int32) (x3 : Int32) (σ : rS) (Q : tQ), Ex X d mX7_law 159 [.ref x0, .int x1, .int x2, .int x3] [] σ Q = Ex X d mX7_law 160 [.ref x0, .int x1, .int x2, .int x3] [.ref x0] σ Q) ∧
  (∀ (X : tX) (d : Nat) (x0 : Nat) (x1 : Int32) (x2 : Int32) (x3 : Int32) (s0 : Nat) (T : tT) (I : tI) (J : tJ) (R : tR) (Q : tQ), Ex X d mX7_law 160 [.ref x0, .int x1, .int x2, .int x3] [.ref s0] (T, I, J, R) Q = (T[s0]? = some (3, 7) ∧ Ex X d mX7_law 163 [.ref x0, .int x1, .int x2, .int x3] [va_rf (R s0 11)] (T, I, J, R) Q)) ∧
  (∀ (X : tX) (d : Nat) (x0 : Nat) (x1 : Int32) (x2 : Int32) (x3 : Int32) (s0 : Nat) (σ : rS) (Q : tQ), Ex X d mX7_law 163 [.ref x0, .int x1, .int x2, .int x3] [.ref s0] σ Q = Ex X d mX7_law 164 [.ref x0, .int x1, .int x2, .int x3] [.int x3, .ref s0] σ Q) ∧
  (∀ (X : tX) (d : Nat) (x0 : Nat) (x1 : Int32) (x2 : Int32) (x3 : Int32) (s0 : Int32) (s1 : Nat) (σ : rS) (Q : tQ), Ex X d mX7_law 164 [.ref x0, .int x1, .int x2, .int x3] [.int s0, .ref s1] σ Q = Ex X d mX7_law 165 [.ref x0, .int x1, .int x2, .int x3] [.ref x0, .int s0, .ref s1] σ Q) ∧
  (∀ (X : tX) (d : Nat) (x0 : Nat) (x1 : Int32) (x2 : Int32) (x3 : Int32) (s0 : Nat) (s1 : Int32) (s2 : Nat) (T : tT) (I : tI) (J : tJ) (R : tR) (Q : tQ), Ex X d mX7_law 165 [.ref x0, .int x1, .int x2, .int x3] [.ref s0, .int s1, .ref s2] (T, I, J, R) Q = (T[s0]? = some (3, 7) ∧ Ex X d mX7_law 168 [.ref x0, .int x1, .int x2, .int x3] [va_rf (R s0 19), .int s1, .ref s2] (T, I, J, R) Q)) ∧
  (∀ (X : tX) (d : Nat) (x0 : Nat) (x1 : Int32) (x2 : Int32) (x3 : Int32) (s0 : Nat) (s1 : Int32) (s2 : Nat) (σ : rS) (Q : tQ), Ex X d mX7_law 168 [.ref x0, .int x1, .int x2, .int x3] [.ref s0, .int s1, .ref s2] σ Q = Ex X d mX7_law 169 [.ref x0, .int x1, .int x2, .int x3] [.int x3, .ref s0, .int s1, .ref s2] σ Q) ∧
  (∀ (X : tX) (d : Nat) (x0 : Nat) (x1 : Int32) (x2 : Int32) (x3 : Int32) (s0 : Int32) (s1 : Nat) (s2 : Int32) (s3 : Nat) (T : tT) (I : tI) (J : tJ) (R : tR) (Q : tQ), Ex X d mX7_law 169 [.ref x0, .int x1, .int x2, .int x3] [.int s0, .ref s1, .int s2, .ref s3] (T, I, J, R) Q = (rIn T s1 0 s0 ∧ Ex X d mX7_law 170 [.ref x0, .int x1, .int x2, .int x3] [.int (I s1 s0.toNatClampNeg), .int s2, .ref s3] (T, I, J, R) Q)) ∧
  (∀ (X : tX) (d : Nat) (x0 : Nat) (x1 : Int32) (x2 : Int32) (x3 : Int32) (s0 : Int32) (s1 : Int32) (s2 : Nat) (T : tT) (I : tI) (J : tJ) (R : tR) (Q : tQ), Ex X d mX7_law 170 [.ref x0, .int x1, .int x2, .int x3] [.int s0, .int s1, .ref s2] (T, I, J, R) Q = (rIn T s2 0 s1 ∧ Ex X d mX7_law 171 [.ref x0, .int x1, .int x2, .int x3] [] (T, va_up I s2 (va_up (I s2) s1.toNatClampNeg s0), J, R) Q)) ∧
  (∀ (X : tX) (d : Nat) (x0 : Nat) (x1 : Int32) (x2 : Int32) (x3 : Int32) (σ : rS) (Q : tQ), Ex X d mX7_law 171 [.ref x0, .int x1, .int x2, .int x3] [] σ Q = Ex X d mX7_law 174 [.ref x0, .int x1, .int x2, .int (x3 + 1)] [] σ Q) ∧
  (∀ (X : tX) (d : Nat) (x0 : Nat) (x1 : Int32) (x2 : Int32) (x3 : Int32) (σ : rS) (Q : tQ), Ex X d mX7_law 174 [.ref x0, .int x1, .int x2, .int x3] [] σ Q = Ex X d mX7_law 151 [.ref x0, .int x1, .int x2, .int x3] [] σ Q) := ⟨fun X d x0 x1 x2 x3 σ Q => ex_P (i := .aload_n 0) (len := 1) (by decide +kernel) rfl,
  fun X d x0 x1 x2 x3 s0 T I J R Q => q_getR (k := 33) (by decide +kernel) rfl rfl,
  fun X d x0 x1 x2 x3 s0 σ Q => ex_P (i := .iload_n 3) (len := 1) (by decide +kernel) rfl,
  fun X d x0 x1 x2 x3 s0 s1 σ Q => ex_P (i := .aload_n 0) (len := 1) (by decide +kernel) rfl,
  fun X d x0 x1 x2 x3 s0 s1 s2 T I J R Q => q_getR (k := 45) (by decide +kernel) rfl rfl,
  fun X d x0 x1 x2 x3 s0 s1 s2 σ Q => ex_P (i := .iload_n 3) (len := 1) (by decide +kernel) rfl,
  fun X d x0 x1 x2 x3 s0 s1 s2 s3 T I J R Q => q_iald (by decide +kernel),
  fun X d x0 x1 x2 x3 s0 s1 s2 T I J R Q => q_iast (by decide +kernel),
  fun X d x0 x1 x2 x3 σ Q => ex_P (i := .iinc 3 1) (len := 3) (by decide +kernel) rfl,
  fun X d x0 x1 x2 x3 σ Q => q_goto (o := (-23)) (by decide +kernel) rfl⟩
set_option maxRecDepth 50000 in
theorem gX7_law_177 : (∀ (X : tX) (d : Nat) (x0 : Nat) (x1 : Int32) (x2 : Int32) (x3 : Int32) (σ : rS) (Q : tQ), Ex X d mX7_law 177 [.ref x0, .int x1, .int x2, .int x3] [] σ Q = Ex X d mX7_law 178 [.ref x0, .int x1, .int x2, .int x3] [.int 1] σ Q) ∧
  (∀ (X : tX) (d : Nat) (x0 : Nat) (x1 : Int32) (x2 : Int32) (x3 : Int32) (s0 : Int32) (σ : rS) (Q : tQ), Ex X d mX7_law 178 [.ref x0, .int x1, .int x2, .int x3] [.int s0] σ Q = Q (some (.int s0)) σ) := ⟨fun X d x0 x1 x2 x3 σ Q => ex_P (i := .iconst 1) (len := 1) (by decide +kernel) rfl,
  fun X d x0 x1 x2 x3 s0 σ Q => q_retI (by decide +kernel) rfl⟩
set_option maxRecDepth 50000 in
theorem gX7_both_0 : (∀ (X : tX) (d : Nat) (x0 : Int32) (x1 : Int32) (x2 : Int32) (σ : rS) (Q : tQ), Ex X d mX7_both 0 [.int x0, .int x1, .int x2] [] σ Q = Ex X d mX7_both 1 [.int x0, .int x1, .int x2] [.int x0] σ Q) := fun X d x0 x1 x2 σ Q => ex_P (i := .iload_n 0) (len := 1) (by decide +kernel) rfl
set_option maxRecDepth 50000 in
theorem gX7_both_52 : (∀ (X : tX) (d : Nat) (x0 : Int32) (x1 : Int32) (x2 : Int32) (σ : rS) (Q : tQ), Ex X d mX7_both 52 [.int x0, .int x1, .int x2] [] σ Q = Ex X d mX7_both 53 [.int x0, .int x1, .int x2] [.int x1] σ Q) ∧
  (∀ (X : tX) (d : Nat) (x0 : Int32) (x1 : Int32) (x2 : Int32) (s0 : Int32) (σ : rS) (Q : tQ), Ex X d mX7_both 53 [.int x0, .int x1, .int x2] [.int s0] σ Q = (if s0 = 0 then Ex X d mX7_both 56 [.int x0, .int x1, .int x2] [] σ Q else Ex X d mX7_both 60 [.int x0, .int x1, .int x2] [] σ Q)) := ⟨fun X d x0 x1 x2 σ Q => ex_P (i := .iload_n 1) (len := 1) (by decide +kernel) rfl,
  fun X d x0 x1 x2 s0 σ Q => q_if_ne (o := 7) (by decide +kernel) rfl⟩
set_option maxRecDepth 50000 in
theorem gX7_both_56 : (∀ (X : tX) (d : Nat) (x0 : Int32) (x1 : Int32) (x2 : Int32) (σ : rS) (Q : tQ), Ex X d mX7_both 56 [.int x0, .int x1, .int x2] [] σ Q = Ex X d mX7_both 57 [.int x0, .int x1, .int x2] [.int x2] σ Q) ∧
  (∀ (X : tX) (d : Nat) (x0 : Int32) (x1 : Int32) (x2 : Int32) (s0 : Int32) (σ : rS) (Q : tQ), Ex X d mX7_both 57 [.int x0, .int x1, .int x2] [.int s0] σ Q = (if s0 = 0 then Ex X d mX7_both 64 [.int x0, .int x1, .int x2] [] σ Q else Ex X d mX7_both 60 [.int x0, .int x1, .int x2] [] σ Q)) := ⟨fun X d x0 x1 x2 σ Q => ex_P (i := .iload_n 2) (len := 1) (by decide +kernel) rfl,
  fun X d x0 x1 x2 s0 σ Q => q_if_eq (o := 7) (by decide +kernel) rfl⟩
set_option maxRecDepth 50000 in
theorem gX7_both_60 : (∀ (X : tX) (d : Nat) (x0 : Int32) (x1 : Int32) (x2 : Int32) (σ : rS) (Q : tQ), Ex X d mX7_both 60 [.int x0, .int x1, .int x2] [] σ Q = Ex X d mX7_both 61 [.int x0, .int x1, .int x2] [.int 1] σ Q) ∧
  (∀ (X : tX) (d : Nat) (x0 : Int32) (x1 : Int32) (x2 : Int32) (s0 : Int32) (σ : rS) (Q : tQ), Ex X d mX7_both 61 [.int x0, .int x1, .int x2] [.int s0] σ Q = Ex X d mX7_both 65 [.int x0, .int x1, .int x2] [.int s0] σ Q) := ⟨fun X d x0 x1 x2 σ Q => ex_P (i := .iconst 1) (len := 1) (by decide +kernel) rfl,
  fun X d x0 x1 x2 s0 σ Q => q_goto (o := 4) (by decide +kernel) rfl⟩
set_option maxRecDepth 50000 in
theorem gX7_both_64 : (∀ (X : tX) (d : Nat) (x0 : Int32) (x1 : Int32) (x2 : Int32) (σ : rS) (Q : tQ), Ex X d mX7_both 64 [.int x0, .int x1, .int x2] [] σ Q = Ex X d mX7_both 65 [.int x0, .int x1, .int x2] [.int 0] σ Q) := fun X d x0 x1 x2 σ Q => ex_P (i := .iconst 0) (len := 1) (by decide +kernel) rfl
set_option maxRecDepth 50000 in
theorem gX7_both_65 : (∀ (X : tX) (d : Nat) (x0 : Int32) (x1 : Int32) (x2 : Int32) (s0 : Int32) (σ : rS) (Q : tQ), Ex X d mX7_both 65 [.int x0, .int x1, .int x2] [.int s0] σ Q = Q (some (.int s0)) σ) := fun X d x0 x1 x2 s0 σ Q => q_retI (by decide +kernel) rfl
set_option maxRecDepth 50000 in
theorem gX7_both_66 : (∀ (X : tX) (d : Nat) (x0 : Int32) (x1 : Int32) (x2 : Int32) (σ : rS) (Q : tQ), Ex X d mX7_both 66 [.int x0, .int x1, .int x2] [] σ Q = Ex X d mX7_both 67 [.int x0, .int x1, .int x2] [.int x1] σ Q) ∧
  (∀ (X : tX) (d : Nat) (x0 : Int32) (x1 : Int32) (x2 : Int32) (s0 : Int32) (σ : rS) (Q : tQ), Ex X d mX7_both 67 [.int x0, .int x1, .int x2] [.int s0] σ Q = (if s0 = 0 then Ex X d mX7_both 78 [.int x0, .int x1, .int x2] [] σ Q else Ex X d mX7_both 70 [.int x0, .int x1, .int x2] [] σ Q)) := ⟨fun X d x0 x1 x2 σ Q => ex_P (i := .iload_n 1) (len := 1) (by decide +kernel) rfl,
  fun X d x0 x1 x2 s0 σ Q => q_if_eq (o := 11) (by decide +kernel) rfl⟩
set_option maxRecDepth 50000 in
theorem gX7_both_70 : (∀ (X : tX) (d : Nat) (x0 : Int32) (x1 : Int32) (x2 : Int32) (σ : rS) (Q : tQ), Ex X d mX7_both 70 [.int x0, .int x1, .int x2] [] σ Q = Ex X d mX7_both 71 [.int x0, .int x1, .int x2] [.int x2] σ Q) ∧
  (∀ (X : tX) (d : Nat) (x0 : Int32) (x1 : Int32) (x2 : Int32) (s0 : Int32) (σ : rS) (Q : tQ), Ex X d mX7_both 71 [.int x0, .int x1, .int x2] [.int s0] σ Q = (if s0 = 0 then Ex X d mX7_both 78 [.int x0, .int x1, .int x2] [] σ Q else Ex X d mX7_both 74 [.int x0, .int x1, .int x2] [] σ Q)) := ⟨fun X d x0 x1 x2 σ Q => ex_P (i := .iload_n 2) (len := 1) (by decide +kernel) rfl,
  fun X d x0 x1 x2 s0 σ Q => q_if_eq (o := 7) (by decide +kernel) rfl⟩
set_option maxRecDepth 50000 in
theorem gX7_both_74 : (∀ (X : tX) (d : Nat) (x0 : Int32) (x1 : Int32) (x2 : Int32) (σ : rS) (Q : tQ), Ex X d mX7_both 74 [.int x0, .int x1, .int x2] [] σ Q = Ex X d mX7_both 75 [.int x0, .int x1, .int x2] [.int 1] σ Q) ∧
  (∀ (X : tX) (d : Nat) (x0 : Int32) (x1 : Int32) (x2 : Int32) (s0 : Int32) (σ : rS) (Q : tQ), Ex X d mX7_both 75 [.int x0, .int x1, .int x2] [.int s0] σ Q = Ex X d mX7_both 79 [.int x0, .int x1, .int x2] [.int s0] σ Q) := ⟨fun X d x0 x1 x2 σ Q => ex_P (i := .iconst 1) (len := 1) (by decide +kernel) rfl,
  fun X d x0 x1 x2 s0 σ Q => q_goto (o := 4) (by decide +kernel) rfl⟩
set_option maxRecDepth 50000 in
theorem gX7_both_78 : (∀ (X : tX) (d : Nat) (x0 : Int32) (x1 : Int32) (x2 : Int32) (σ : rS) (Q : tQ), Ex X d mX7_both 78 [.int x0, .int x1, .int x2] [] σ Q = Ex X d mX7_both 79 [.int x0, .int x1, .int x2] [.int 0] σ Q) := fun X d x0 x1 x2 σ Q => ex_P (i := .iconst 0) (len := 1) (by decide +kernel) rfl
set_option maxRecDepth 50000 in
theorem gX7_both_79 : (∀ (X : tX) (d : Nat) (x0 : Int32) (x1 : Int32) (x2 : Int32) (s0 : Int32) (σ : rS) (Q : tQ), Ex X d mX7_both 79 [.int x0, .int x1, .int x2] [.int s0] σ Q = Q (some (.int s0)) σ) := fun X d x0 x1 x2 s0 σ Q => q_retI (by decide +kernel) rfl
set_option maxRecDepth 50000 in
theorem gX7_both_80 : (∀ (X : tX) (d : Nat) (x0 : Int32) (x1 : Int32) (x2 : Int32) (σ : rS) (Q : tQ), Ex X d mX7_both 80 [.int x0, .int x1, .int x2] [] σ Q = Ex X d mX7_both 81 [.int x0, .int x1, .int x2] [.int x1] σ Q) ∧
  (∀ (X : tX) (d : Nat) (x0 : Int32) (x1 : Int32) (x2 : Int32) (s0 : Int32) (σ : rS) (Q : tQ), Ex X d mX7_both 81 [.int x0, .int x1, .int x2] [.int s0] σ Q = Ex X d mX7_both 82 [.int x0, .int x1, .int x2] [.int x2, .int s0] σ Q) ∧
  (∀ (X : tX) (d : Nat) (x0 : Int32) (x1 : Int32) (x2 : Int32) (s0 : Int32) (s1 : Int32) (σ : rS) (Q : tQ), Ex X d mX7_both 82 [.int x0, .int x1, .int x2] [.int s0, .int s1] σ Q = (if s0 ≤ s1 then Ex X d mX7_both 89 [.int x0, .int x1, .int x2] [] σ Q else Ex X d mX7_both 85 [.int x0, .int x1, .int x2] [] σ Q)) := ⟨fun X d x0 x1 x2 σ Q => ex_P (i := .iload_n 1) (len := 1) (by decide +kernel) rfl,
  fun X d x0 x1 x2 s0 σ Q => ex_P (i := .iload_n 2) (len := 1) (by decide +kernel) rfl,
  fun X d x0 x1 x2 s0 s1 σ Q => q_icmp_ge (o := 7) (by decide +kernel) rfl⟩
set_option maxRecDepth 50000 in
theorem gX7_both_85 : (∀ (X : tX) (d : Nat) (x0 : Int32) (x1 : Int32) (x2 : Int32) (σ : rS) (Q : tQ), Ex X d mX7_both 85 [.int x0, .int x1, .int x2] [] σ Q = Ex X d mX7_both 86 [.int x0, .int x1, .int x2] [.int 1] σ Q) ∧
  (∀ (X : tX) (d : Nat) (x0 : Int32) (x1 : Int32) (x2 : Int32) (s0 : Int32) (σ : rS) (Q : tQ), Ex X d mX7_both 86 [.int x0, .int x1, .int x2] [.int s0] σ Q = Ex X d mX7_both 90 [.int x0, .int x1, .int x2] [.int s0] σ Q) := ⟨fun X d x0 x1 x2 σ Q => ex_P (i := .iconst 1) (len := 1) (by decide +kernel) rfl,
  fun X d x0 x1 x2 s0 σ Q => q_goto (o := 4) (by decide +kernel) rfl⟩
set_option maxRecDepth 50000 in
theorem gX7_both_89 : (∀ (X : tX) (d : Nat) (x0 : Int32) (x1 : Int32) (x2 : Int32) (σ : rS) (Q : tQ), Ex X d mX7_both 89 [.int x0, .int x1, .int x2] [] σ Q = Ex X d mX7_both 90 [.int x0, .int x1, .int x2] [.int 0] σ Q) := fun X d x0 x1 x2 σ Q => ex_P (i := .iconst 0) (len := 1) (by decide +kernel) rfl
set_option maxRecDepth 50000 in
theorem gX7_both_90 : (∀ (X : tX) (d : Nat) (x0 : Int32) (x1 : Int32) (x2 : Int32) (s0 : Int32) (σ : rS) (Q : tQ), Ex X d mX7_both 90 [.int x0, .int x1, .int x2] [.int s0] σ Q = Q (some (.int s0)) σ) := fun X d x0 x1 x2 s0 σ Q => q_retI (by decide +kernel) rfl
set_option maxRecDepth 50000 in
theorem gX7_both_91 : (∀ (X : tX) (d : Nat) (x0 : Int32) (x1 : Int32) (x2 : Int32) (σ : rS) (Q : tQ), Ex X d mX7_both 91 [.int x0, .int x1, .int x2] [] σ Q = Ex X d mX7_both 92 [.int x0, .int x1, .int x2] [.int x1] σ Q) ∧
  (∀ (X : tX) (d : Nat) (x0 : Int32) (x1 : Int32) (x2 : Int32) (s0 : Int32) (σ : rS) (Q : tQ), Ex X d mX7_both 92 [.int x0, .int x1, .int x2] [.int s0] σ Q = Ex X d mX7_both 93 [.int x0, .int x1, .int x2] [.int x2, .int s0] σ Q) ∧
  (∀ (X : tX) (d : Nat) (x0 : Int32) (x1 : Int32) (x2 : Int32) (s0 : Int32) (s1 : Int32) (σ : rS) (Q : tQ), Ex X d mX7_both 93 [.int x0, .int x1, .int x2] [.int s0, .int s1] σ Q = (if s1 = s0 then Ex X d mX7_both 96 [.int x0, .int x1, .int x2] [] σ Q else Ex X d mX7_both 100 [.int x0, .int x1, .int x2] [] σ Q)) := ⟨fun X d x0 x1 x2 σ Q => ex_P (i := .iload_n 1) (len := 1) (by decide +kernel) rfl,
  fun X d x0 x1 x2 s0 σ Q => ex_P (i := .iload_n 2) (len := 1) (by decide +kernel) rfl,
  fun X d x0 x1 x2 s0 s1 σ Q => q_icmp_ne (o := 7) (by decide +kernel) rfl⟩
set_option maxRecDepth 50000 in
theorem gX7_both_96 : (∀ (X : tX) (d : Nat) (x0 : Int32) (x1 : Int32) (x2 : Int32) (σ : rS) (Q : tQ), Ex X d mX7_both 96 [.int x0, .int x1, .int x2] [] σ Q = Ex X d mX7_both 97 [.int x0, .int x1, .int x2] [.int 1] σ Q) ∧
  (∀ (X : tX) (d : Nat) (x0 : Int32) (x1 : Int32) (x2 : Int32) (s0 : Int32) (σ : rS) (Q : tQ), Ex X d mX7_both 97 [.int x0, .int x1, .int x2] [.int s0] σ Q = Ex X d mX7_both 101 [.int x0, .int x1, .int x2] [.int s0] σ Q) := ⟨fun X d x0 x1 x2 σ Q => ex_P (i := .iconst 1) (len := 1) (by decide +kernel) rfl,
  fun X d x0 x1 x2 s0 σ Q => q_goto (o := 4) (by decide +kernel) rfl⟩
set_option maxRecDepth 50000 in
theorem gX7_both_100 : (∀ (X : tX) (d : Nat) (x0 : Int32) (x1 : Int32) (x2 : Int32) (σ : rS) (Q : tQ), Ex X d mX7_both 100 [.int x0, .int x1, .int x2] [] σ Q = Ex X d mX7_both 101 [.int x0, .int x1, .int x2] [.int 0] σ Q) := fun X d x0 x1 x2 σ Q => ex_P (i := .iconst 0) (len := 1) (by decide +kernel) rfl
set_option maxRecDepth 50000 in
theorem gX7_both_101 : (∀ (X : tX) (d : Nat) (x0 : Int32) (x1 : Int32) (x2 : Int32) (s0 : Int32) (σ : rS) (Q : tQ), Ex X d mX7_both 101 [.int x0, .int x1, .int x2] [.int s0] σ Q = Q (some (.int s0)) σ) := fun X d x0 x1 x2 s0 σ Q => q_retI (by decide +kernel) rfl
set_option maxRecDepth 50000 in
theorem gX7_both_102 : (∀ (X : tX) (d : Nat) (x0 : Int32) (x1 : Int32) (x2 : Int32) (σ : rS) (Q : tQ), Ex X d mX7_both 102 [.int x0, .int x1, .int x2] [] σ Q = Ex X d mX7_both 103 [.int x0, .int x1, .int x2] [.int x1] σ Q) ∧
  (∀ (X : tX) (d : Nat) (x0 : Int32) (x1 : Int32) (x2 : Int32) (s0 : Int32) (σ : rS) (Q : tQ), Ex X d mX7_both 103 [.int x0, .int x1, .int x2] [.int s0] σ Q = Ex X d mX7_both 104 [.int x0, .int x1, .int x2] [.int x2, .int s0] σ Q) ∧
  (∀ (X : tX) (d : Nat) (x0 : Int32) (x1 : Int32) (x2 : Int32) (s0 : Int32) (s1 : Int32) (σ : rS) (Q : tQ), Ex X d mX7_both 104 [.int x0, .int x1, .int x2] [.int s0, .int s1] σ Q = (if s1 ≤ s0 then Ex X d mX7_both 111 [.int x0, .int x1, .int x2] [] σ Q else Ex X d mX7_both 107 [.int x0, .int x1, .int x2] [] σ Q)) := ⟨fun X d x0 x1 x2 σ Q => ex_P (i := .iload_n 1) (len := 1) (by decide +kernel) rfl,
  fun X d x0 x1 x2 s0 σ Q => ex_P (i := .iload_n 2) (len := 1) (by decide +kernel) rfl,
  fun X d x0 x1 x2 s0 s1 σ Q => q_icmp_le (o := 7) (by decide +kernel) rfl⟩
set_option maxRecDepth 50000 in
theorem gX7_both_107 : (∀ (X : tX) (d : Nat) (x0 : Int32) (x1 : Int32) (x2 : Int32) (σ : rS) (Q : tQ), Ex X d mX7_both 107 [.int x0, .int x1, .int x2] [] σ Q = Ex X d mX7_both 108 [.int x0, .int x1, .int x2] [.int 1] σ Q) ∧
  (∀ (X : tX) (d : Nat) (x0 : Int32) (x1 : Int32) (x2 : Int32) (s0 : Int32) (σ : rS) (Q : tQ), Ex X d mX7_both 108 [.int x0, .int x1, .int x2] [.int s0] σ Q = Ex X d mX7_both 112 [.int x0, .int x1, .int x2] [.int s0] σ Q) := ⟨fun X d x0 x1 x2 σ Q => ex_P (i := .iconst 1) (len := 1) (by decide +kernel) rfl,
  fun X d x0 x1 x2 s0 σ Q => q_goto (o := 4) (by decide +kernel) rfl⟩
set_option maxRecDepth 50000 in
theorem gX7_both_111 : (∀ (X : tX) (d : Nat) (x0 : Int32) (x1 : Int32) (x2 : Int32) (σ : rS) (Q : tQ), Ex X d mX7_both 111 [.int x0, .int x1, .int x2] [] σ Q = Ex X d mX7_both 112 [.int x0, .int x1, .int x2] [.int 0] σ Q) := fun X d x0 x1 x2 σ Q => ex_P (i := .iconst 0) (len := 1) (by decide +kernel) rfl
set_option maxRecDepth 50000 in
theorem gX7_both_112 : (∀ (X : tX) (d : Nat) (x0 : Int32) (x1 : Int32) (x2 : Int32) (s0 : Int32) (σ : rS) (Q : tQ), Ex X d mX7_both 112 [.int x0, .int x1, .int x2] [.int s0] σ Q = Q (some (.int s0)) σ) := fun X d x0 x1 x2 s0 σ Q => q_retI (by decide +kernel) rfl
set_option maxRecDepth 50000 in
theorem gX7_both_113 : (∀ (X : tX) (d : Nat) (x0 : Int32) (x1 : Int32) (x2 : Int32) (σ : rS) (Q : tQ), Ex X d mX7_both 113 [.int x0, .int x1, .int x2] [] σ Q = Ex X d mX7_both 114 [.int x0, .int x1, .int x2] [.int x1] σ Q) ∧
  (∀ (X : tX) (d : Nat) (x0 : Int32) (x1 : Int32) (x2 : Int32) (s0 : Int32) (σ : rS) (Q : tQ), Ex X d mX7_both 114 [.int x0, .int x1, .int x2] [.int s0] σ Q = Ex X d mX7_both 115 [.int x0, .int x1, .int x2] [.int x2, .int s0] σ Q) ∧
  (∀ (X : tX) (d : Nat) (x0 : Int32) (x1 : Int32) (x2 : Int32) (s0 : Int32) (s1 : Int32) (σ : rS) (Q : tQ), Ex X d mX7_both 115 [.int x0, .int x1, .int x2] [.int s0, .int s1] σ Q = Ex X d mX7_both 116 [.int x0, .int x1, .int x2] [.int (s1 + s0)] σ Q) ∧
  (∀ (X : tX) (d : Nat) (x0 : Int32) (x1 : Int32) (x2 : Int32) (s0 : Int32) (σ : rS) (Q : tQ), Ex X d mX7_both 116 [.int x0, .int x1, .int x2] [.int s0] σ Q = Q (some (.int s0)) σ) := ⟨fun X d x0 x1 x2 σ Q => ex_P (i := .iload_n 1) (len := 1) (by decide +kernel) rfl,
  fun X d x0 x1 x2 s0 σ Q => ex_P (i := .iload_n 2) (len := 1) (by decide +kernel) rfl,
  fun X d x0 x1 x2 s0 s1 σ Q => ex_P (i := .iadd) (len := 1) (by decide +kernel) rfl,
  fun X d x0 x1 x2 s0 σ Q => q_retI (by decide +kernel) rfl⟩
set_option maxRecDepth 50000 in
theorem gX7_both_117 : (∀ (X : tX) (d : Nat) (x0 : Int32) (x1 : Int32) (x2 : Int32) (σ : rS) (Q : tQ), Ex X d mX7_both 117 [.int x0, .int x1, .int x2] [] σ Q = Ex X d mX7_both 118 [.int x0, .int x1, .int x2] [.int x1] σ Q) ∧
  (∀ (X : tX) (d : Nat) (x0 : Int32) (x1 : Int32) (x2 : Int32) (s0 : Int32) (σ : rS) (Q : tQ), Ex X d mX7_both 118 [.int x0, .int x1, .int x2] [.int s0] σ Q = Ex X d mX7_both 119 [.int x0, .int x1, .int x2] [.int x2, .int s0] σ Q) ∧
  (∀ (X : tX) (d : Nat) (x0 : Int32) (x1 : Int32) (x2 : Int32) (s0 : Int32) (s1 : Int32) (σ : rS) (Q : tQ), Ex X d mX7_both 119 [.int x0, .int x1, .int x2] [.int s0, .int s1] σ Q = Ex X d mX7_both 120 [.int x0, .int x1, .int x2] [.int (s1 - s0)] σ Q) ∧
  (∀ (X : tX) (d : Nat) (x0 : Int32) (x1 : Int32) (x2 : Int32) (s0 : Int32) (σ : rS) (Q : tQ), Ex X d mX7_both 120 [.int x0, .int x1, .int x2] [.int s0] σ Q = Q (some (.int s0)) σ) := ⟨fun X d x0 x1 x2 σ Q => ex_P (i := .iload_n 1) (len := 1) (by decide +kernel) rfl,
  fun X d x0 x1 x2 s0 σ Q => ex_P (i := .iload_n 2) (len := 1) (by decide +kernel) rfl,
  fun X d x0 x1 x2 s0 s1 σ Q => ex_P (i := .isub) (len := 1) (by decide +kernel) rfl,
  fun X d x0 x1 x2 s0 σ Q => q_retI (by decide +kernel) rfl⟩
set_option maxRecDepth 50000 in
theorem gX7_both_121 : (∀ (X : tX) (d : Nat) (x0 : Int32) (x1 : Int32) (x2 : Int32) (σ : rS) (Q : tQ), Ex X d mX7_both 121 [.int x0, .int x1, .int x2] [] σ Q = Ex X d mX7_both 122 [.int x0, .int x1, .int x2] [.int x1] σ Q) ∧
  (∀ (X : tX) (d : Nat) (x0 : Int32) (x1 : Int32) (x2 : Int32) (s0 : Int32) (σ : rS) (Q : tQ), Ex X d mX7_both 122 [.int x0, .int x1, .int x2] [.int s0] σ Q = Ex X d mX7_both 123 [.int x0, .int x1, .int x2] [.int x2, .int s0] σ Q) ∧
  (∀ (X : tX) (d : Nat) (x0 : Int32) (x1 : Int32) (x2 : Int32) (s0 : Int32) (s1 : Int32) (σ : rS) (Q : tQ), Ex X d mX7_both 123 [.int x0, .int x1, .int x2] [.int s0, .int s1] σ Q = Ex X d mX7_both 124 [.int x0, .int x1, .int x2] [.int (s1 * s0)] σ Q) ∧
  (∀ (X : tX) (d : Nat) (x0 : Int32) (x1 : Int32) (x2 : Int32) (s0 : Int32) (σ : rS) (Q : tQ), Ex X d mX7_both 124 [.int x0, .int x1, .int x2] [.int s0] σ Q = Q (some (.int s0)) σ) := ⟨fun X d x0 x1 x2 σ Q => ex_P (i := .iload_n 1) (len := 1) (by decide +kernel) rfl,
  fun X d x0 x1 x2 s0 σ Q => ex_P (i := .iload_n 2) (len := 1) (by decide +kernel) rfl,
  fun X d x0 x1 x2 s0 s1 σ Q => ex_P (i := .imul) (len := 1) (by decide +kernel) rfl,
  fun X d x0 x1 x2 s0 σ Q => q_retI (by decide +kernel) rfl⟩
set_option maxRecDepth 50000 in
theorem gX7_both_125 : (∀ (X : tX) (d : Nat) (x0 : Int32) (x1 : Int32) (x2 : Int32) (σ : rS) (Q : tQ), Ex X d mX7_both 125 [.int x0, .int x1, .int x2] [] σ Q = Ex X d mX7_both 126 [.int x0, .int x1, .int x2] [.int x2] σ Q) ∧
  (∀ (X : tX) (d : Nat) (x0 : Int32) (x1 : Int32) (x2 : Int32) (s0 : Int32) (σ : rS) (Q : tQ), Ex X d mX7_both 126 [.int x0, .int x1, .int x2] [.int s0] σ Q = (if s0 = 0 then Ex X d mX7_both 129 [.int x0, .int x1, .int x2] [] σ Q else Ex X d mX7_both 133 [.int x0, .int x1, .int x2] [] σ Q)) := ⟨fun X d x0 x1 x2 σ Q => ex_P (i := .iload_n 2) (len := 1) (by decide +kernel) rfl,
  fun X d x0 x1 x2 s0 σ Q => q_if_ne (o := 7) (by decide +kernel) rfl⟩
set_option maxRecDepth 50000 in
theorem gX7_both_129 : (∀ (X : tX) (d : Nat) (x0 : Int32) (x1 : Int32) (x2 : Int32) (σ : rS) (Q : tQ), Ex X d mX7_both 129 [.int x0, .int x1, .int x2] [] σ Q = Ex X d mX7_both 130 [.int x0, .int x1, .int x2] [.int 0] σ Q) ∧
  (∀ (X : tX) (d : Nat) (x0 : Int32) (x1 : Int32) (x2 : Int32) (s0 : Int32) (σ : rS) (Q : tQ), Ex X d mX7_both 130 [.int x0, .int x1, .int x2] [.int s0] σ Q = Ex X d mX7_both 136 [.int x0, .int x1, .int x2] [.int s0] σ Q) := ⟨fun X d x0 x1 x2 σ Q => ex_P (i := .iconst 0) (len := 1) (by decide +kernel) rfl,
  fun X d x0 x1 x2 s0 σ Q => q_goto (o := 6) (by decide +kernel) rfl⟩
set_option maxRecDepth 50000 in
theorem gX7_both_133 : (∀ (X : tX) (d : Nat) (x0 : Int32) (x1 : Int32) (x2 : Int32) (σ : rS) (Q : tQ), Ex X d mX7_both 133 [.int x0, .int x1, .int x2] [] σ Q = Ex X d mX7_both 134 [.int x0, .int x1, .int x2] [.int x1] σ Q) ∧
  (∀ (X : tX) (d : Nat) (x0 : Int32) (x1 : Int32) (x2 : Int32) (s0 : Int32) (σ : rS) (Q : tQ), Ex X d mX7_both 134 [.int x0, .int x1, .int x2] [.int s0] σ Q = Ex X d mX7_both 135 [.int x0, .int x1, .int x2] [.int x2, .int s0] σ Q) ∧
  (∀ (X : tX) (d : Nat) (x0 : Int32) (x1 : Int32) (x2 : Int32) (s0 : Int32) (s1 : Int32) (σ : rS) (Q : tQ), Ex X d mX7_both 135 [.int x0, .int x1, .int x2] [.int s0, .int s1] σ Q = (¬ s0 = 0 ∧ Ex X d mX7_both 136 [.int x0, .int x1, .int x2] [.int (s1 / s0)] σ Q)) := ⟨fun X d x0 x1 x2 σ Q => ex_P (i := .iload_n 1) (len := 1) (by decide +kernel) rfl,
  fun X d x0 x1 x2 s0 σ Q => ex_P (i := .iload_n 2) (len := 1) (by decide +kernel) rfl,
  fun X d x0 x1 x2 s0 s1 σ Q => q_div (by decide +kernel)⟩
set_option maxRecDepth 50000 in
theorem gX7_both_136 : (∀ (X : tX) (d : Nat) (x0 : Int32) (x1 : Int32) (x2 : Int32) (s0 : Int32) (σ : rS) (Q : tQ), Ex X d mX7_both 136 [.int x0, .int x1, .int x2] [.int s0] σ Q = Q (some (.int s0)) σ) := fun X d x0 x1 x2 s0 σ Q => q_retI (by decide +kernel) rfl
set_option maxRecDepth 50000 in
theorem gX7_both_137 : (∀ (X : tX) (d : Nat) (x0 : Int32) (x1 : Int32) (x2 : Int32) (σ : rS) (Q : tQ), Ex X d mX7_both 137 [.int x0, .int x1, .int x2] [] σ Q = Ex X d mX7_both 138 [.int x0, .int x1, .int x2] [.int x2] σ Q) ∧
  (∀ (X : tX) (d : Nat) (x0 : Int32) (x1 : Int32) (x2 : Int32) (s0 : Int32) (σ : rS) (Q : tQ), Ex X d mX7_both 138 [.int x0, .int x1, .int x2] [.int s0] σ Q = (if s0 = 0 then Ex X d mX7_both 141 [.int x0, .int x1, .int x2] [] σ Q else Ex X d mX7_both 145 [.int x0, .int x1, .int x2] [] σ Q)) := ⟨fun X d x0 x1 x2 σ Q => ex_P (i := .iload_n 2) (len := 1) (by decide +kernel) rfl,
  fun X d x0 x1 x2 s0 σ Q => q_if_ne (o := 7) (by decide +kernel) rfl⟩
set_option maxRecDepth 50000 in
theorem gX7_both_141 : (∀ (X : tX) (d : Nat) (x0 : Int32) (x1 : Int32) (x2 : Int32) (σ : rS) (Q : tQ), Ex X d mX7_both 141 [.int x0, .int x1, .int x2] [] σ Q = Ex X d mX7_both 142 [.int x0, .int x1, .int x2] [.int 0] σ Q) ∧
  (∀ (X : tX) (d : Nat) (x0 : Int32) (x1 : Int32) (x2 : Int32) (s0 : Int32) (σ : rS) (Q : tQ), Ex X d mX7_both 142 [.int x0, .int x1, .int x2] [.int s0] σ Q = Ex X d mX7_both 148 [.int x0, .int x1, .int x2] [.int s0] σ Q) := ⟨fun X d x0 x1 x2 σ Q => ex_P (i := .iconst 0) (len := 1) (by decide +kernel) rfl,
  fun X d x0 x1 x2 s0 σ Q => q_goto (o := 6) (by decide +kernel) rfl⟩
set_option maxRecDepth 50000 in
theorem gX7_both_145 : (∀ (X : tX) (d : Nat) (x0 : Int32) (x1 : Int32) (x2 : Int32) (σ : rS) (Q : tQ), Ex X d mX7_both 145 [.int x0, .int x1, .int x2] [] σ Q = Ex X d mX7_both 146 [.int x0, .int x1, .int x2] [.int x1] σ Q) ∧
  (∀ (X : tX) (d : Nat) (x0 : Int32) (x1 : Int32) (x2 : Int32) (s0 : Int32) (σ : rS) (Q : tQ), Ex X d mX7_both 146 [.int x0, .int x1, .int x2] [.int s0] σ Q = Ex X d mX7_both 147 [.int x0, .int x1, .int x2] [.int x2, .int s0] σ Q) ∧
  (∀ (X : tX) (d : Nat) (x0 : Int32) (x1 : Int32) (x2 : Int32) (s0 : Int32) (s1 : Int32) (σ : rS) (Q : tQ), Ex X d mX7_both 147 [.int x0, .int x1, .int x2] [.int s0, .int s1] σ Q = (¬ s0 = 0 ∧ Ex X d mX7_both 148 [.int x0, .int x1, .int x2] [.int (s1 - s1 / s0 * s0)] σ Q)) := ⟨fun X d x0 x1 x2 σ Q => ex_P (i := .iload_n 1) (len := 1) (by decide +kernel) rfl,
  fun X d x0 x1 x2 s0 σ Q => ex_P (i := .iload_n 2) (len := 1) (by decide +kernel) rfl,
  fun X d x0 x1 x2 s0 s1 σ Q => q_rem (by decide +kernel)⟩
set_option maxRecDepth 50000 in
theorem gX7_both_148 : (∀ (X : tX) (d : Nat) (x0 : Int32) (x1 : Int32) (x2 : Int32) (s0 : Int32) (σ : rS) (Q : tQ), Ex X d mX7_both 148 [.int x0, .int x1, .int x2] [.int s0] σ Q = Q (some (.int s0)) σ) := fun X d x0 x1 x2 s0 σ Q => q_retI (by decide +kernel) rfl
set_option maxRecDepth 50000 in
theorem gX7_worked_0 : (∀ (X : tX) (d : Nat) (x0 : Nat) (x1 : Int32) (x2 : Int32) (σ : rS) (Q : tQ), Ex X d mX7_worked 0 [.ref x0, .int x1, .int x2, rU, rU, rU] [] σ Q = Ex X d mX7_worked 1 [.ref x0, .int x1, .int x2, rU, rU, rU] [.int 0] σ Q) ∧
  (∀ (X : tX) (d : Nat) (x0 : Nat) (x1 : Int32) (x2 : Int32) (s0 : Int32) (σ : rS) (Q : tQ), Ex X d mX7_worked 1 [.ref x0, .int x1, .int x2, rU, rU, rU] [.int s0] σ Q = Ex X d mX7_worked 2 [.ref x0, .int x1, .int x2, .int s0, rU, rU] [] σ Q) ∧
  (∀ (X : tX) (d : Nat) (x0 : Nat) (x1 : Int32) (x2 : Int32) (x3 : Int32) (σ : rS) (Q : tQ), Ex X d mX7_worked 2 [.ref x0, .int x1, .int x2, .int x3, rU, rU] [] σ Q = Ex X d mX7_worked 3 [.ref x0, .int x1, .int x2, .int x3, rU, rU] [.int x1] σ Q) ∧
  (∀ (X : tX) (d : Nat) (x0 : Nat) (x1 : Int32) (x2 : Int32) (x3 : Int32) (s0 : Int32) (σ : rS) (Q : tQ), Ex X d mX7_worked 3 [.ref x0, .int x1, .int x2, .int x3, rU, rU] [.int s0] σ Q = Ex X d mX7_worked 5 [.ref x0, .int x1, .int x2, .int x3, .int s0, rU] [] σ Q) := ⟨fun X d x0 x1 x2 σ Q => ex_P (i := .iconst 0) (len := 1) (by decide +kernel) rfl,
  fun X d x0 x1 x2 s0 σ Q => ex_P (i := .istore_n 3) (len := 1) (by decide +kernel) rfl,
  fun X d x0 x1 x2 x3 σ Q => ex_P (i := .iload_n 1) (len := 1) (by decide +kernel) rfl,
  fun X d x0 x1 x2 x3 s0 σ Q => ex_P (i := .istore 4) (len := 2) (by decide +kernel) rfl⟩
set_option maxRecDepth 50000 in
theorem gX7_worked_5 : (∀ (X : tX) (d : Nat) (x0 : Nat) (x1 : Int32) (x2 : Int32) (x3 : Int32) (x4 : Int32) (v5 : Value) (σ : rS) (Q : tQ), Ex X d mX7_worked 5 [.ref x0, .int x1, .int x2, .int x3, .int x4, v5] [] σ Q = Ex X d mX7_worked 7 [.ref x0, .int x1, .int x2, .int x3, .int x4, v5] [.int x4] σ Q) ∧
  (∀ (X : tX) (d : Nat) (x0 : Nat) (x1 : Int32) (x2 : Int32) (x3 : Int32) (x4 : Int32) (v5 : Value) (s0 : Int32) (σ : rS) (Q : tQ), Ex X d mX7_worked 7 [.ref x0, .int x1, .int x2, .int x3, .int x4, v5] [.int s0] σ Q = Ex X d mX7_worked 8 [.ref x0, .int x1, .int x2, .int x3, .int x4, v5] [.int x2, .int s0] σ Q) ∧
  (∀ (X : tX) (d : Nat) (x0 : Nat) (x1 : Int32) (x2 : Int32) (x3 : Int32) (x4 : Int32) (v5 : Value) (s0 : Int32) (s1 : Int32) (σ : rS) (Q : tQ), Ex X d mX7_worked 8 [.ref x0, .int x1, .int x2, .int x3, .int x4, v5] [.int s0, .int s1] σ Q = (if s0 ≤ s1 then Ex X d mX7_worked 163 [.ref x0, .int x1, .int x2, .int x3, .int x4, v5] [] σ Q else Ex X d mX7_worked 11 [.ref x0, .int x1, .int x2, .int x3, .int x4, v5] [] σ Q)) := ⟨fun X d x0 x1 x2 x3 x4 v5 σ Q => ex_P (i := .iload 4) (len := 2) (by decide +kernel) rfl,
  fun X d x0 x1 x2 x3 x4 v5 s0 σ Q => ex_P (i := .iload_n 2) (len := 1) (by decide +kernel) rfl,
  fun X d x0 x1 x2 x3 x4 v5 s0 s1 σ Q => q_icmp_ge (o := 155) (by decide +kernel) rfl⟩
set_option maxRecDepth 50000 in
theorem gX7_worked_11 : (∀ (X : tX) (d : Nat) (x0 : Nat) (x1 : Int32) (x2 : Int32) (x3 : Int32) (x4 : Int32) (v5 : Value) (σ : rS) (Q : tQ), Ex X d mX7_worked 11 [.ref x0, .int x1, .int x2, .int x3, .int x4, v5] [] σ Q = Ex X d mX7_worked 12 [.ref x0, .int x1, .int x2, .int x3, .int x4, v5] [.ref x0] σ Q) ∧
  (∀ (X : tX) (d : Nat) (x0 : Nat) (x1 : Int32) (x2 : Int32) (x3 : Int32) (x4 : Int32) (v5 : Value) (s0 : Nat) (T : tT) (I : tI) (J : tJ) (R : tR) (Q : tQ), Ex X d mX7_worked 12 [.ref x0, .int x1, .int x2, .int x3, .int x4, v5] [.ref s0] (T, I, J, R) Q = (T[s0]? = some (3, 7) ∧ Ex X d mX7_worked 15 [.ref x0, .int x1, .int x2, .int x3, .int x4, v5] [va_rf (R s0 11)] (T, I, J, R) Q)) ∧
  (∀ (X : tX) (d : Nat) (x0 : Nat) (x1 : Int32) (x2 : Int32) (x3 : Int32) (x4 : Int32) (v5 : Value) (s0 : Nat) (σ : rS) (Q : tQ), Ex X d mX7_worked 15 [.ref x0, .int x1, .int x2, .int x3, .int x4, v5] [.ref s0] σ Q = Ex X d mX7_worked 17 [.ref x0, .int x1, .int x2, .int x3, .int x4, v5] [.int x4, .ref s0] σ Q) ∧
  (∀ (X : tX) (d : Nat) (x0 : Nat) (x1 : Int32) (x2 : Int32) (x3 : Int32) (x4 : Int32) (v5 : Value) (s0 : Int32) (s1 : Nat) (T : tT) (I : tI) (J : tJ) (R : tR) (Q : tQ), Ex X d mX7_worked 17 [.ref x0, .int x1, .int x2, .int x3, .int x4, v5] [.int s0, .ref s1] (T, I, J, R) Q = (rIn T s1 0 s0 ∧ Ex X d mX7_worked 18 [.ref x0, .int x1, .int x2, .int x3, .int x4, v5] [.int (I s1 s0.toNatClampNeg)] (T, I, J, R) Q)) ∧
  (∀ (X : tX) (d : Nat) (x0 : Nat) (x1 : Int32) (x2 : Int32) (x3 : Int32) (x4 : Int32) (v5 : Value) (s0 : Int32) (σ : rS) (Q : tQ), Ex X d mX7_worked 18 [.ref x0, .int x1, .int x2, .int x3, .int x4, v5] [.int s0] σ Q = Ex X d mX7_worked 20 [.ref x0, .int x1, .int x2, .int x3, .int x4, .int s0] [] σ Q) ∧
  (∀ (X : tX) (d : Nat) (x0 : Nat) (x1 : Int32) (x2 : Int32) (x3 : Int32) (x4 : Int32) (x5 : Int32) (σ : rS) (Q : tQ), Ex X d mX7_worked 20 [.ref x0, .int x1, .int x2, .int x3, .int x4, .int x5] [] σ Q = Ex X d mX7_worked 22 [.ref x0, .int x1, .int x2, .int x3, .int x4, .int x5] [.int x5] σ Q) ∧
  (∀ (X : tX) (d : Nat) (x0 : Nat) (x1 : Int32) (x2 : Int32) (x3 : Int32) (x4 : Int32) (x5 : Int32) (s0 : Int32) (σ : rS) (Q : tQ), Ex X d mX7_worked 22 [.ref x0, .int x1, .int x2, .int x3, .int x4, .int x5] [.int s0] σ Q = Ex X d mX7_worked 24 [.ref x0, .int x1, .int x2, .int x3, .int x4, .int x5] [.int 18, .int s0] σ Q) ∧
  (∀ (X : tX) (d : Nat) (x0 : Nat) (x1 : Int32) (x2 : Int32) (x3 : Int32) (x4 : Int32) (x5 : Int32) (s0 : Int32) (s1 : Int32) (σ : rS) (Q : tQ), Ex X d mX7_worked 24 [.ref x0, .int x1, .int x2, .int x3, .int x4, .int x5] [.int s0, .int s1] σ Q = (if s0 ≤ s1 then Ex X d mX7_worked 33 [.ref x0, .int x1, .int x2, .int x3, .int x4, .int x5] [] σ Q else Ex X d mX7_worked 27 [.ref x0, .int x1, .int x2, .int x3, .int x4, .int x5] [] σ Q)) := ⟨fun X d x0 x1 x2 x3 x4 v5 σ Q => ex_P (i := .aload_n 0) (len := 1) (by decide +kernel) rfl,
  fun X d x0 x1 x2 x3 x4 v5 s0 T I J R Q => q_getR (k := 33) (by decide +kernel) rfl rfl,
  fun X d x0 x1 x2 x3 x4 v5 s0 σ Q => ex_P (i := .iload 4) (len := 2) (by decide +kernel) rfl,
  fun X d x0 x1 x2 x3 x4 v5 s0 s1 T I J R Q => q_iald (by decide +kernel),
  fun X d x0 x1 x2 x3 x4 v5 s0 σ Q => ex_P (i := .istore 5) (len := 2) (by decide +kernel) rfl,
  fun X d x0 x1 x2 x3 x4 x5 σ Q => ex_P (i := .iload 5) (len := 2) (by decide +kernel) rfl,
  fun X d x0 x1 x2 x3 x4 x5 s0 σ Q => ex_P (i := .bipush 18) (len := 2) (by decide +kernel) rfl,
  fun X d x0 x1 x2 x3 x4 x5 s0 s1 σ Q => q_icmp_ge (o := 9) (by decide +kernel) rfl⟩
set_option maxRecDepth 50000 in
theorem gX7_worked_27 : (∀ (X : tX) (d : Nat) (x0 : Nat) (x1 : Int32) (x2 : Int32) (x3 : Int32) (x4 : Int32) (x5 : Int32) (σ : rS) (Q : tQ), Ex X d mX7_worked 27 [.ref x0, .int x1, .int x2, .int x3, .int x4, .int x5] [] σ Q = Ex X d mX7_worked 29 [.ref x0, .int x1, .int x2, .int x3, .int x4, .int x5] [.int x5] σ Q) ∧
  (∀ (X : tX) (d : Nat) (x0 : Nat) (x1 : Int32) (x2 : Int32) (x3 : Int32) (x4 : Int32) (x5 : Int32) (s0 : Int32) (σ : rS) (Q : tQ), Ex X d mX7_worked 29 [.ref x0, .int x1, .int x2, .int x3, .int x4, .int x5] [.int s0] σ Q = Ex X d mX7_worked 30 [.ref x0, .int x1, .int x2, .int x3, .int x4, .int x5] [.int 5, .int s0] σ Q) ∧
  (∀ (X : tX) (d : Nat) (x0 : Nat) (x1 : Int32) (x2 : Int32) (x3 : Int32) (x4 : Int32) (x5 : Int32) (s0 : Int32) (s1 : Int32) (σ : rS) (Q : tQ), Ex X d mX7_worked 30 [.ref x0, .int x1, .int x2, .int x3, .int x4, .int x5] [.int s0, .int s1] σ Q = (if s0 < s1 then Ex X d mX7_worked 67 [.ref x0, .int x1, .int x2, .int x3, .int x4, .int x5] [] σ Q else Ex X d mX7_worked 33 [.ref x0, .int x1, .int x2, .int x3, .int x4, .int x5] [] σ Q)) := ⟨fun X d x0 x1 x2 x3 x4 x5 σ Q => ex_P (i := .iload 5) (len := 2) (by decide +kernel) rfl,
  fun X d x0 x1 x2 x3 x4 x5 s0 σ Q => ex_P (i := .iconst 5) (len := 1) (by decide +kernel) rfl,
  fun X d x0 x1 x2 x3 x4 x5 s0 s1 σ Q => q_icmp_gt (o := 37) (by decide +kernel) rfl⟩
set_option maxRecDepth 50000 in
theorem gX7_worked_33 : (∀ (X : tX) (d : Nat) (x0 : Nat) (x1 : Int32) (x2 : Int32) (x3 : Int32) (x4 : Int32) (x5 : Int32) (σ : rS) (Q : tQ), Ex X d mX7_worked 33 [.ref x0, .int x1, .int x2, .int x3, .int x4, .int x5] [] σ Q = Ex X d mX7_worked 34 [.ref x0, .int x1, .int x2, .int x3, .int x4, .int x5] [.ref x0] σ Q) ∧
  (∀ (X : tX) (d : Nat) (x0 : Nat) (x1 : Int32) (x2 : Int32) (x3 : Int32) (x4 : Int32) (x5 : Int32) (s0 : Nat) (T : tT) (I : tI) (J : tJ) (R : tR) (Q : tQ), Ex X d mX7_worked 34 [.ref x0, .int x1, .int x2, .int x3, .int x4, .int x5] [.ref s0] (T, I, J, R) Q = (T[s0]? = some (3, 7) ∧ Ex X d mX7_worked 37 [.ref x0, .int x1, .int x2, .int x3, .int x4, .int x5] [va_rf (R s0 20)] (T, I, J, R) Q)) ∧
  (∀ (X : tX) (d : Nat) (x0 : Nat) (x1 : Int32) (x2 : Int32) (x3 : Int32) (x4 : Int32) (x5 : Int32) (s0 : Nat) (σ : rS) (Q : tQ), Ex X d mX7_worked 37 [.ref x0, .int x1, .int x2, .int x3, .int x4, .int x5] [.ref s0] σ Q = Ex X d mX7_worked 38 [.ref x0, .int x1, .int x2, .int x3, .int x4, .int x5] [.int x3, .ref s0] σ Q) ∧
  (∀ (X : tX) (d : Nat) (x0 : Nat) (x1 : Int32) (x2 : Int32) (x3 : Int32) (x4 : Int32) (x5 : Int32) (s0 : Int32) (s1 : Nat) (σ : rS) (Q : tQ), Ex X d mX7_worked 38 [.ref x0, .int x1, .int x2, .int x3, .int x4, .int x5] [.int s0, .ref s1] σ Q = Ex X d mX7_worked 41 [.ref x0, .int x1, .int x2, .int (x3 + 1), .int x4, .int x5] [.int s0, .ref s1] σ Q) ∧
  (∀ (X : tX) (d : Nat) (x0 : Nat) (x1 : Int32) (x2 : Int32) (x3 : Int32) (x4 : Int32) (x5 : Int32) (s0 : Int32) (s1 : Nat) (σ : rS) (Q : tQ), Ex X d mX7_worked 41 [.ref x0, .int x1, .int x2, .int x3, .int x4, .int x5] [.int s0, .ref s1] σ Q = Ex X d mX7_worked 43 [.ref x0, .int x1, .int x2, .int x3, .int x4, .int x5] [.int x5, .int s0, .ref s1] σ Q) ∧
  (∀ (X : tX) (d : Nat) (x0 : Nat) (x1 : Int32) (x2 : Int32) (x3 : Int32) (x4 : Int32) (x5 : Int32) (s0 : Int32) (s1 : Int32) (s2 : Nat) (σ : rS) (Q : tQ), Ex X d mX7_worked 43 [.ref x0, .int x1, .int x2, .int x3, .int x4, .int x5] [.int s0, .int s1, .ref s2] σ Q = Ex X d mX7_worked 45 [.ref x0, .int x1, .int x2, .int x3, .int x4, .int x5] [.int 18, .int s0, .int s1, .ref s2] σ Q) ∧
  (∀ (X : tX) (d : Nat) (x0 : Nat) (x1 : Int32) (x2 : Int32) (x3 : Int32) (x4 : Int32) (x5 : Int32) (s0 : Int32) (s1 : Int32) (s2 : Int32) (s3 : Nat) (σ : rS) (Q : tQ), Ex X d mX7_worked 45 [.ref x0, .int x1, .int x2, .int x3, .int x4, .int x5] [.int s0, .int s1, .int s2, .ref s3] σ Q = (if s1 < s0 then Ex X d mX7_worked 56 [.ref x0, .int x1, .int x2, .int x3, .int x4, .int x5] [.int s2, .ref s3] σ Q else Ex X d mX7_worked 48 [.ref x0, .int x1, .int x2, .int x3, .int x4, .int x5] [.int s2, .ref s3] σ Q)) := ⟨fun X d x0 x1 x2 x3 x4 x5 σ Q => ex_P (i := .aload_n 0) (len := 1) (by decide +kernel) rfl,
  fun X d x0 x1 x2 x3 x4 x5 s0 T I J R Q => q_getR (k := 48) (by decide +kernel) rfl rfl,
  fun X d x0 x1 x2 x3 x4 x5 s0 σ Q => ex_P (i := .iload_n 3) (len := 1) (by decide +kernel) rfl,
  fun X d x0 x1 x2 x3 x4 x5 s0 s1 σ Q => ex_P (i := .iinc 3 1) (len := 3) (by decide +kernel) rfl,
  fun X d x0 x1 x2 x3 x4 x5 s0 s1 σ Q => ex_P (i := .iload 5) (len := 2) (by decide +kernel) rfl,
  fun X d x0 x1 x2 x3 x4 x5 s0 s1 s2 σ Q => ex_P (i := .bipush 18) (len := 2) (by decide +kernel) rfl,
  fun X d x0 x1 x2 x3 x4 x5 s0 s1 s2 s3 σ Q => q_icmp_lt (o := 11) (by decide +kernel) rfl⟩
set_option maxRecDepth 50000 in
theorem gX7_worked_48 : (∀ (X : tX) (d : Nat) (x0 : Nat) (x1 : Int32) (x2 : Int32) (x3 : Int32) (x4 : Int32) (x5 : Int32) (s0 : Int32) (s1 : Nat) (σ : rS) (Q : tQ), Ex X d mX7_worked 48 [.ref x0, .int x1, .int x2, .int x3, .int x4, .int x5] [.int s0, .ref s1] σ Q = Ex X d mX7_worked 50 [.ref x0, .int x1, .int x2, .int x3, .int x4, .int x5] [.int x5, .int s0, .ref s1] σ Q) ∧
  (∀ (X : tX) (d : Nat) (x0 : Nat) (x1 : Int32) (x2 : Int32) (x3 : Int32) (x4 : Int32) (x5 : Int32) (s0 : Int32) (s1 : Int32) (s2 : Nat) (σ : rS) (Q : tQ), Ex X d mX7_worked 50 [.ref x0, .int x1, .int x2, .int x3, .int x4, .int x5] [.int s0, .int s1, .ref s2] σ Q = Ex X d mX7_worked 52 [.ref x0, .int x1, .int x2, .int x3, .int x4, .int x5] [.int 18, .int s0, .int s1, .ref s2] σ Q) ∧
  (∀ (X : tX) (d : Nat) (x0 : Nat) (x1 : Int32) (x2 : Int32) (x3 : Int32) (x4 : Int32) (x5 : Int32) (s0 : Int32) (s1 : Int32) (s2 : Int32) (s3 : Nat) (σ : rS) (Q : tQ), Ex X d mX7_worked 52 [.ref x0, .int x1, .int x2, .int x3, .int x4, .int x5] [.int s0, .int s1, .int s2, .ref s3] σ Q = Ex X d mX7_worked 53 [.ref x0, .int x1, .int x2, .int x3, .int x4, .int x5] [.int (s1 - s0), .int s2, .ref s3] σ Q) ∧
  (∀ (X : tX) (d : Nat) (x0 : Nat) (x1 : Int32) (x2 : Int32) (x3 : Int32) (x4 : Int32) (x5 : Int32) (s0 : Int32) (s1 : Int32) (s2 : Nat) (σ : rS) (Q : tQ), Ex X d mX7_worked 53 [.ref x0, .int x1, .int x2, .int x3, .int x4, .int x5] [.int s0, .int s1, .ref s2] σ Q = Ex X d mX7_worked 63 [.ref x0, .int x1, .int x2, .int x3, .int x4, .int x5] [.int s0, .int s1, .ref s2] σ Q) := ⟨fun X d x0 x1 x2 x3 x4 x5 s0 s1 σ Q => ex_P (i := .iload 5) (len := 2) (by decide +kernel) rfl,
  fun X d x0 x1 x2 x3 x4 x5 s0 s1 s2 σ Q => ex_P (i := .bipush 18) (len := 2) (by decide +kernel) rfl,
  fun X d x0 x1 x2 x3 x4 x5 s0 s1 s2 s3 σ Q => ex_P (i := .isub) (len := 1) (by decide +kernel) rfl,
  fun X d x0 x1 x2 x3 x4 x5 s0 s1 s2 σ Q => q_goto (o := 10) (by decide +kernel) rfl⟩
set_option maxRecDepth 50000 in
theorem gX7_worked_56 : (∀ (X : tX) (d : Nat) (x0 : Nat) (x1 : Int32) (x2 : Int32) (x3 : Int32) (x4 : Int32) (x5 : Int32) (s0 : Int32) (s1 : Nat) (σ : rS) (Q : tQ), Ex X d mX7_worked 56 [.ref x0, .int x1, .int x2, .int x3, .int x4, .int x5] [.int s0, .ref s1] σ Q = Ex X d mX7_worked 57 [.ref x0, .int x1, .int x2, .int x3, .int x4, .int x5] [.ref x0, .int s0, .ref s1] σ Q) ∧
  (∀ (X : tX) (d : Nat) (x0 : Nat) (x1 : Int32) (x2 : Int32) (x3 : Int32) (x4 : Int32) (x5 : Int32) (s0 : Nat) (s1 : Int32) (s2 : Nat) (T : tT) (I : tI) (J : tJ) (R : tR) (Q : tQ), Ex X d mX7_worked 57 [.ref x0, .int x1, .int x2, .int x3, .int x4, .int x5] [.ref s0, .int s1, .ref s2] (T, I, J, R) Q = (T[s0]? = some (3, 7) ∧ Ex X d mX7_worked 60 [.ref x0, .int x1, .int x2, .int x3, .int x4, .int x5] [va_rf (R s0 21), .int s1, .ref s2] (T, I, J, R) Q)) ∧
  (∀ (X : tX) (d : Nat) (x0 : Nat) (x1 : Int32) (x2 : Int32) (x3 : Int32) (x4 : Int32) (x5 : Int32) (s0 : Nat) (s1 : Int32) (s2 : Nat) (σ : rS) (Q : tQ), Ex X d mX7_worked 60 [.ref x0, .int x1, .int x2, .int x3, .int x4, .int x5] [.ref s0, .int s1, .ref s2] σ Q = Ex X d mX7_worked 62 [.ref x0, .int x1, .int x2, .int x3, .int x4, .int x5] [.int x5, .ref s0, .int s1, .ref s2] σ Q) ∧
  (∀ (X : tX) (d : Nat) (x0 : Nat) (x1 : Int32) (x2 : Int32) (x3 : Int32) (x4 : Int32) (x5 : Int32) (s0 : Int32) (s1 : Nat) (s2 : Int32) (s3 : Nat) (T : tT) (I : tI) (J : tJ) (R : tR) (Q : tQ), Ex X d mX7_worked 62 [.ref x0, .int x1, .int x2, .int x3, .int x4, .int x5] [.int s0, .ref s1, .int s2, .ref s3] (T, I, J, R) Q = (rIn T s1 0 s0 ∧ Ex X d mX7_worked 63 [.ref x0, .int x1, .int x2, .int x3, .int x4, .int x5] [.int (I s1 s0.toNatClampNeg), .int s2, .ref s3] (T, I, J, R) Q)) := ⟨fun X d x0 x1 x2 x3 x4 x5 s0 s1 σ Q => ex_P (i := .aload_n 0) (len := 1) (by decide +kernel) rfl,
  fun X d x0 x1 x2 x3 x4 x5 s0 s1 s2 T I J R Q => q_getR (k := 51) (by decide +kernel) rfl rfl,
  fun X d x0 x1 x2 x3 x4 x5 s0 s1 s2 σ Q => ex_P (i := .iload 5) (len := 2) (by decide +kernel) rfl,
  fun X d x0 x1 x2 x3 x4 x5 s0 s1 s2 s3 T I J R Q => q_iald (by decide +kernel)⟩
set_option maxRecDepth 50000 in
theorem gX7_worked_63 : (∀ (X : tX) (d : Nat) (x0 : Nat) (x1 : Int32) (x2 : Int32) (x3 : Int32) (x4 : Int32) (x5 : Int32) (s0 : Int32) (s1 : Int32) (s2 : Nat) (T : tT) (I : tI) (J : tJ) (R : tR) (Q : tQ), Ex X d mX7_worked 63 [.ref x0, .int x1, .int x2, .int x3, .int x4, .int x5] [.int s0, .int s1, .ref s2] (T, I, J, R) Q = (rIn T s2 0 s1 ∧ Ex X d mX7_worked 64 [.ref x0, .int x1, .int x2, .int x3, .int x4, .int x5] [] (T, va_up I s2 (va_up (I s2) s1.toNatClampNeg s0), J, R) Q)) ∧
  (∀ (X : tX) (d : Nat) (x0 : Nat) (x1 : Int32) (x2 : Int32) (x3 : Int32) (x4 : Int32) (x5 : Int32) (σ : rS) (Q : tQ), Ex X d mX7_worked 64 [.ref x0, .int x1, .int x2, .int x3, .int x4, .int x5] [] σ Q = Ex X d mX7_worked 157 [.ref x0, .int x1, .int x2, .int x3, .int x4, .int x5] [] σ Q) := ⟨fun X d x0 x1 x2 x3 x4 x5 s0 s1 s2 T I J R Q => q_iast (by decide +kernel),
  fun X d x0 x1 x2 x3 x4 x5 σ Q => q_goto (o := 93) (by decide +kernel) rfl⟩
set_option maxRecDepth 50000 in
theorem gX7_worked_67 : (∀ (X : tX) (d : Nat) (x0 : Nat) (x1 : Int32) (x2 : Int32) (x3 : Int32) (x4 : Int32) (x5 : Int32) (σ : rS) (Q : tQ), Ex X d mX7_worked 67 [.ref x0, .int x1, .int x2, .int x3, .int x4, .int x5] [] σ Q = Ex X d mX7_worked 69 [.ref x0, .int x1, .int x2, .int x3, .int x4, .int x5] [.int x5] σ Q) ∧
  (∀ (X : tX) (d : Nat) (x0 : Nat) (x1 : Int32) (x2 : Int32) (x3 : Int32) (x4 : Int32) (x5 : Int32) (s0 : Int32) (σ : rS) (Q : tQ), Ex X d mX7_worked 69 [.ref x0, .int x1, .int x2, .int x3, .int x4, .int x5] [.int s0] σ Q = Ex X d mX7_worked 71 [.ref x0, .int x1, .int x2, .int x3, .int x4, .int x5] [.int 16, .int s0] σ Q) ∧
  (∀ (X : tX) (d : Nat) (x0 : Nat) (x1 : Int32) (x2 : Int32) (x3 : Int32) (x4 : Int32) (x5 : Int32) (s0 : Int32) (s1 : Int32) (σ : rS) (Q : tQ), Ex X d mX7_worked 71 [.ref x0, .int x1, .int x2, .int x3, .int x4, .int x5] [.int s0, .int s1] σ Q = (if s1 = s0 then Ex X d mX7_worked 81 [.ref x0, .int x1, .int x2, .int x3, .int x4, .int x5] [] σ Q else Ex X d mX7_worked 74 [.ref x0, .int x1, .int x2, .int x3, .int x4, .int x5] [] σ Q)) := ⟨fun X d x0 x1 x2 x3 x4 x5 σ Q => ex_P (i := .iload 5) (len := 2) (by decide +kernel) rfl,
  fun X d x0 x1 x2 x3 x4 x5 s0 σ Q => ex_P (i := .bipush 16) (len := 2) (by decide +kernel) rfl,
  fun X d x0 x1 x2 x3 x4 x5 s0 s1 σ Q => q_icmp_eq (o := 10) (by decide +kernel) rfl⟩
set_option maxRecDepth 50000 in
theorem gX7_worked_74 : (∀ (X : tX) (d : Nat) (x0 : Nat) (x1 : Int32) (x2 : Int32) (x3 : Int32) (x4 : Int32) (x5 : Int32) (σ : rS) (Q : tQ), Ex X d mX7_worked 74 [.ref x0, .int x1, .int x2, .int x3, .int x4, .int x5] [] σ Q = Ex X d mX7_worked 76 [.ref x0, .int x1, .int x2, .int x3, .int x4, .int x5] [.int x5] σ Q) ∧
  (∀ (X : tX) (d : Nat) (x0 : Nat) (x1 : Int32) (x2 : Int32) (x3 : Int32) (x4 : Int32) (x5 : Int32) (s0 : Int32) (σ : rS) (Q : tQ), Ex X d mX7_worked 76 [.ref x0, .int x1, .int x2, .int x3, .int x4, .int x5] [.int s0] σ Q = Ex X d mX7_worked 78 [.ref x0, .int x1, .int x2, .int x3, .int x4, .int x5] [.int 17, .int s0] σ Q) ∧
  (∀ (X : tX) (d : Nat) (x0 : Nat) (x1 : Int32) (x2 : Int32) (x3 : Int32) (x4 : Int32) (x5 : Int32) (s0 : Int32) (s1 : Int32) (σ : rS) (Q : tQ), Ex X d mX7_worked 78 [.ref x0, .int x1, .int x2, .int x3, .int x4, .int x5] [.int s0, .int s1] σ Q = (if s1 = s0 then Ex X d mX7_worked 81 [.ref x0, .int x1, .int x2, .int x3, .int x4, .int x5] [] σ Q else Ex X d mX7_worked 127 [.ref x0, .int x1, .int x2, .int x3, .int x4, .int x5] [] σ Q)) := ⟨fun X d x0 x1 x2 x3 x4 x5 σ Q => ex_P (i := .iload 5) (len := 2) (by decide +kernel) rfl,
  fun X d x0 x1 x2 x3 x4 x5 s0 σ Q => ex_P (i := .bipush 17) (len := 2) (by decide +kernel) rfl,
  fun X d x0 x1 x2 x3 x4 x5 s0 s1 σ Q => q_icmp_ne (o := 49) (by decide +kernel) rfl⟩
set_option maxRecDepth 50000 in
theorem gX7_worked_81 : (∀ (X : tX) (d : Nat) (x0 : Nat) (x1 : Int32) (x2 : Int32) (x3 : Int32) (x4 : Int32) (x5 : Int32) (σ : rS) (Q : tQ), Ex X d mX7_worked 81 [.ref x0, .int x1, .int x2, .int x3, .int x4, .int x5] [] σ Q = Ex X d mX7_worked 82 [.ref x0, .int x1, .int x2, .int x3, .int x4, .int x5] [.ref x0] σ Q) ∧
  (∀ (X : tX) (d : Nat) (x0 : Nat) (x1 : Int32) (x2 : Int32) (x3 : Int32) (x4 : Int32) (x5 : Int32) (s0 : Nat) (T : tT) (I : tI) (J : tJ) (R : tR) (Q : tQ), Ex X d mX7_worked 82 [.ref x0, .int x1, .int x2, .int x3, .int x4, .int x5] [.ref s0] (T, I, J, R) Q = (T[s0]? = some (3, 7) ∧ Ex X d mX7_worked 85 [.ref x0, .int x1, .int x2, .int x3, .int x4, .int x5] [va_rf (R s0 20)] (T, I, J, R) Q)) ∧
  (∀ (X : tX) (d : Nat) (x0 : Nat) (x1 : Int32) (x2 : Int32) (x3 : Int32) (x4 : Int32) (x5 : Int32) (s0 : Nat) (σ : rS) (Q : tQ), Ex X d mX7_worked 85 [.ref x0, .int x1, .int x2, .int x3, .int x4, .int x5] [.ref s0] σ Q = Ex X d mX7_worked 86 [.ref x0, .int x1, .int x2, .int x3, .int x4, .int x5] [.int x3, .ref s0] σ Q) ∧
  (∀ (X : tX) (d : Nat) (x0 : Nat) (x1 : Int32) (x2 : Int32) (x3 : Int32) (x4 : Int32) (x5 : Int32) (s0 : Int32) (s1 : Nat) (σ : rS) (Q : tQ), Ex X d mX7_worked 86 [.ref x0, .int x1, .int x2, .int x3, .int x4, .int x5] [.int s0, .ref s1] σ Q = Ex X d mX7_worked 87 [.ref x0, .int x1, .int x2, .int x3, .int x4, .int x5] [.int 1, .int s0, .ref s1] σ Q) ∧
  (∀ (X : tX) (d : Nat) (x0 : Nat) (x1 : Int32) (x2 : Int32) (x3 : Int32) (x4 : Int32) (x5 : Int32) (s0 : Int32) (s1 : Int32) (s2 : Nat) (σ : rS) (Q : tQ), Ex X d mX7_worked 87 [.ref x0, .int x1, .int x2, .int x3, .int x4, .int x5] [.int s0, .int s1, .ref s2] σ Q = Ex X d mX7_worked 88 [.ref x0, .int x1, .int x2, .int x3, .int x4, .int x5] [.int (s1 - s0), .ref s2] σ Q) ∧
  (∀ (X : tX) (d : Nat) (x0 : Nat) (x1 : Int32) (x2 : Int32) (x3 : Int32) (x4 : Int32) (x5 : Int32) (s0 : Int32) (s1 : Nat) (σ : rS) (Q : tQ), Ex X d mX7_worked 88 [.ref x0, .int x1, .int x2, .int x3, .int x4, .int x5] [.int s0, .ref s1] σ Q = Ex X d mX7_worked 90 [.ref x0, .int x1, .int x2, .int x3, .int x4, .int x5] [.int x5, .int s0, .ref s1] σ Q) ∧
  (∀ (X : tX) (d : Nat) (x0 : Nat) (x1 : Int32) (x2 : Int32) (x3 : Int32) (x4 : Int32) (x5 : Int32) (s0 : Int32) (s1 : Int32) (s2 : Nat) (σ : rS) (Q : tQ), Ex X d mX7_worked 90 [.ref x0, .int x1, .int x2, .int x3, .int x4, .int x5] [.int s0, .int s1, .ref s2] σ Q = Ex X d mX7_worked 92 [.ref x0, .int x1, .int x2, .int x3, .int x4, .int x5] [.int 17, .int s0, .int s1, .ref s2] σ Q) ∧
  (∀ (X : tX) (d : Nat) (x0 : Nat) (x1 : Int32) (x2 : Int32) (x3 : Int32) (x4 : Int32) (x5 : Int32) (s0 : Int32) (s1 : Int32) (s2 : Int32) (s3 : Nat) (σ : rS) (Q : tQ), Ex X d mX7_worked 92 [.ref x0, .int x1, .int x2, .int x3, .int x4, .int x5] [.int s0, .int s1, .int s2, .ref s3] σ Q = (if s1 = s0 then Ex X d mX7_worked 95 [.ref x0, .int x1, .int x2, .int x3, .int x4, .int x5] [.int s2, .ref s3] σ Q else Ex X d mX7_worked 107 [.ref x0, .int x1, .int x2, .int x3, .int x4, .int x5] [.int s2, .ref s3] σ Q)) := ⟨fun X d x0 x1 x2 x3 x4 x5 σ Q => ex_P (i := .aload_n 0) (len := 1) (by decide +kernel) rfl,
  fun X d x0 x1 x2 x3 x4 x5 s0 T I J R Q => q_getR (k := 48) (by decide +kernel) rfl rfl,
  fun X d x0 x1 x2 x3 x4 x5 s0 σ Q => ex_P (i := .iload_n 3) (len := 1) (by decide +kernel) rfl,
  fun X d x0 x1 x2 x3 x4 x5 s0 s1 σ Q => ex_P (i := .iconst 1) (len := 1) (by decide +kernel) rfl,
  fun X d x0 x1 x2 x3 x4 x5 s0 s1 s2 σ Q => ex_P (i := .isub) (len := 1) (by decide +kernel) rfl,
  fun X d x0 x1 x2 x3 x4 x5 s0 s1 σ Q => ex_P (i := .iload 5) (len := 2) (by decide +kernel) rfl,
  fun X d x0 x1 x2 x3 x4 x5 s0 s1 s2 σ Q => ex_P (i := .bipush 17) (len := 2) (by decide +kernel) rfl,
  fun X d x0 x1 x2 x3 x4 x5 s0 s1 s2 s3 σ Q => q_icmp_ne (o := 15) (by decide +kernel) rfl⟩
set_option maxRecDepth 50000 in
theorem gX7_worked_95 : (∀ (X : tX) (d : Nat) (x0 : Nat) (x1 : Int32) (x2 : Int32) (x3 : Int32) (x4 : Int32) (x5 : Int32) (s0 : Int32) (s1 : Nat) (σ : rS) (Q : tQ), Ex X d mX7_worked 95 [.ref x0, .int x1, .int x2, .int x3, .int x4, .int x5] [.int s0, .ref s1] σ Q = Ex X d mX7_worked 96 [.ref x0, .int x1, .int x2, .int x3, .int x4, .int x5] [.ref x0, .int s0, .ref s1] σ Q) ∧
  (∀ (X : tX) (d : Nat) (x0 : Nat) (x1 : Int32) (x2 : Int32) (x3 : Int32) (x4 : Int32) (x5 : Int32) (s0 : Nat) (s1 : Int32) (s2 : Nat) (T : tT) (I : tI) (J : tJ) (R : tR) (Q : tQ), Ex X d mX7_worked 96 [.ref x0, .int x1, .int x2, .int x3, .int x4, .int x5] [.ref s0, .int s1, .ref s2] (T, I, J, R) Q = (T[s0]? = some (3, 7) ∧ Ex X d mX7_worked 99 [.ref x0, .int x1, .int x2, .int x3, .int x4, .int x5] [va_rf (R s0 20), .int s1, .ref s2] (T, I, J, R) Q)) ∧
  (∀ (X : tX) (d : Nat) (x0 : Nat) (x1 : Int32) (x2 : Int32) (x3 : Int32) (x4 : Int32) (x5 : Int32) (s0 : Nat) (s1 : Int32) (s2 : Nat) (σ : rS) (Q : tQ), Ex X d mX7_worked 99 [.ref x0, .int x1, .int x2, .int x3, .int x4, .int x5] [.ref s0, .int s1, .ref s2] σ Q = Ex X d mX7_worked 100 [.ref x0, .int x1, .int x2, .int x3, .int x4, .int x5] [.int x3, .ref s0, .int s1, .ref s2] σ Q) ∧
  (∀ (X : tX) (d : Nat) (x0 : Nat) (x1 : Int32) (x2 : Int32) (x3 : Int32) (x4 : Int32) (x5 : Int32) (s0 : Int32) (s1 : Nat) (s2 : Int32) (s3 : Nat) (σ : rS) (Q : tQ), Ex X d mX7_worked 100 [.ref x0, .int x1, .int x2, .int x3, .int x4, .int x5] [.int s0, .ref s1, .int s2, .ref s3] σ Q = Ex X d mX7_worked 101 [.ref x0, .int x1, .int x2, .int x3, .int x4, .int x5] [.int 1, .int s0, .ref s1, .int s2, .ref s3] σ Q) ∧
  (∀ (X : tX) (d : Nat) (x0 : Nat) (x1 : Int32) (x2 : Int32) (x3 : Int32) (x4 : Int32) (x5 : Int32) (s0 : Int32) (s1 : Int32) (s2 : Nat) (s3 : Int32) (s4 : Nat) (σ : rS) (Q : tQ), Ex X d mX7_worked 101 [.ref x0, .int x1, .int x2, .int x3, .int x4, .int x5] [.int s0, .int s1, .ref s2, .int s3, .ref s4] σ Q = Ex X d mX7_worked 102 [.ref x0, .int x1, .int x2, .int x3, .int x4, .int x5] [.int (s1 - s0), .ref s2, .int s3, .ref s4] σ Q) ∧
  (∀ (X : tX) (d : Nat) (x0 : Nat) (x1 : Int32) (x2 : Int32) (x3 : Int32) (x4 : Int32) (x5 : Int32) (s0 : Int32) (s1 : Nat) (s2 : Int32) (s3 : Nat) (T : tT) (I : tI) (J : tJ) (R : tR) (Q : tQ), Ex X d mX7_worked 102 [.ref x0, .int x1, .int x2, .int x3, .int x4, .int x5] [.int s0, .ref s1, .int s2, .ref s3] (T, I, J, R) Q = (rIn T s1 0 s0 ∧ Ex X d mX7_worked 103 [.ref x0, .int x1, .int x2, .int x3, .int x4, .int x5] [.int (I s1 s0.toNatClampNeg), .int s2, .ref s3] (T, I, J, R) Q)) ∧
  (∀ (X : tX) (d : Nat) (x0 : Nat) (x1 : Int32) (x2 : Int32) (x3 : Int32) (x4 : Int32) (x5 : Int32) (s0 : Int32) (s1 : Int32) (s2 : Nat) (σ : rS) (Q : tQ), Ex X d mX7_worked 103 [.ref x0, .int x1, .int x2, .int x3, .int x4, .int x5] [.int s0, .int s1, .ref s2] σ Q = Ex X d mX7_worked 104 [.ref x0, .int x1, .int x2, .int x3, .int x4, .int x5] [.int (-s0), .int s1, .ref s2] σ Q) ∧
  (∀ (X : tX) (d : Nat) (x0 : Nat) (x1 : Int32) (x2 : Int32) (x3 : Int32) (x4 : Int32) (x5 : Int32) (s0 : Int32) (s1 : Int32) (s2 : Nat) (σ : rS) (Q : tQ), Ex X d mX7_worked 104 [.ref x0, .int x1, .int x2, .int x3, .int x4, .int x5] [.int s0, .int s1, .ref s2] σ Q = Ex X d mX7_worked 123 [.ref x0, .int x1, .int x2, .int x3, .int x4, .int x5] [.int s0, .int s1, .ref s2] σ Q) := ⟨fun X d x0 x1 x2 x3 x4 x5 s0 s1 σ Q => ex_P (i := .aload_n 0) (len := 1) (by decide +kernel) rfl,
  fun X d x0 x1 x2 x3 x4 x5 s0 s1 s2 T I J R Q => q_getR (k := 48) (by decide +kernel) rfl rfl,
  fun X d x0 x1 x2 x3 x4 x5 s0 s1 s2 σ Q => ex_P (i := .iload_n 3) (len := 1) (by decide +kernel) rfl,
  fun X d x0 x1 x2 x3 x4 x5 s0 s1 s2 s3 σ Q => ex_P (i := .iconst 1) (len := 1) (by decide +kernel) rfl,
  fun X d x0 x1 x2 x3 x4 x5 s0 s1 s2 s3 s4 σ Q => ex_P (i := .isub) (len := 1) (by decide +kernel) rfl,
  fun X d x0 x1 x2 x3 x4 x5 s0 s1 s2 s3 T I J R Q => q_iald (by decide +kernel),
  fun X d x0 x1 x2 x3 x4 x5 s0 s1 s2 σ Q => ex_P (i := .ineg) (len := 1) (by decide +kernel) rfl,
  fun X d x0 x1 x2 x3 x4 x5 s0 s1 s2 σ Q => q_goto (o := 19) (by decide +kernel) rfl⟩
set_option maxRecDepth 50000 in
theorem gX7_worked_107 : (∀ (X : tX) (d : Nat) (x0 : Nat) (x1 : Int32) (x2 : Int32) (x3 : Int32) (x4 : Int32) (x5 : Int32) (s0 : Int32) (s1 : Nat) (σ : rS) (Q : tQ), Ex X d mX7_worked 107 [.ref x0, .int x1, .int x2, .int x3, .int x4, .int x5] [.int s0, .ref s1] σ Q = Ex X d mX7_worked 108 [.ref x0, .int x1, .int x2, .int x3, .int x4, .int x5] [.ref x0, .int s0, .ref s1] σ Q) ∧
  (∀ (X : tX) (d : Nat) (x0 : Nat) (x1 : Int32) (x2 : Int32) (x3 : Int32) (x4 : Int32) (x5 : Int32) (s0 : Nat) (s1 : Int32) (s2 : Nat) (T : tT) (I : tI) (J : tJ) (R : tR) (Q : tQ), Ex X d mX7_worked 108 [.ref x0, .int x1, .int x2, .int x3, .int x4, .int x5] [.ref s0, .int s1, .ref s2] (T, I, J, R) Q = (T[s0]? = some (3, 7) ∧ Ex X d mX7_worked 111 [.ref x0, .int x1, .int x2, .int x3, .int x4, .int x5] [va_rf (R s0 20), .int s1, .ref s2] (T, I, J, R) Q)) ∧
  (∀ (X : tX) (d : Nat) (x0 : Nat) (x1 : Int32) (x2 : Int32) (x3 : Int32) (x4 : Int32) (x5 : Int32) (s0 : Nat) (s1 : Int32) (s2 : Nat) (σ : rS) (Q : tQ), Ex X d mX7_worked 111 [.ref x0, .int x1, .int x2, .int x3, .int x4, .int x5] [.ref s0, .int s1, .ref s2] σ Q = Ex X d mX7_worked 112 [.ref x0, .int x1, .int x2, .int x3, .int x4, .int x5] [.int x3, .ref s0, .int s1, .ref s2] σ Q) ∧
  (∀ (X : tX) (d : Nat) (x0 : Nat) (x1 : Int32) (x2 : Int32) (x3 : Int32) (x4 : Int32) (x5 : Int32) (s0 : Int32) (s1 : Nat) (s2 : Int32) (s3 : Nat) (σ : rS) (Q : tQ), Ex X d mX7_worked 112 [.ref x0, .int x1, .int x2, .int x3, .int x4, .int x5] [.int s0, .ref s1, .int s2, .ref s3] σ Q = Ex X d mX7_worked 113 [.ref x0, .int x1, .int x2, .int x3, .int x4, .int x5] [.int 1, .int s0, .ref s1, .int s2, .ref s3] σ Q) ∧
  (∀ (X : tX) (d : Nat) (x0 : Nat) (x1 : Int32) (x2 : Int32) (x3 : Int32) (x4 : Int32) (x5 : Int32) (s0 : Int32) (s1 : Int32) (s2 : Nat) (s3 : Int32) (s4 : Nat) (σ : rS) (Q : tQ), Ex X d mX7_worked 113 [.ref x0, .int x1, .int x2, .int x3, .int x4, .int x5] [.int s0, .int s1, .ref s2, .int s3, .ref s4] σ Q = Ex X d mX7_worked 114 [.ref x0, .int x1, .int x2, .int x3, .int x4, .int x5] [.int (s1 - s0), .ref s2, .int s3, .ref s4] σ Q) ∧
  (∀ (X : tX) (d : Nat) (x0 : Nat) (x1 : Int32) (x2 : Int32) (x3 : Int32) (x4 : Int32) (x5 : Int32) (s0 : Int32) (s1 : Nat) (s2 : Int32) (s3 : Nat) (T : tT) (I : tI) (J : tJ) (R : tR) (Q : tQ), Ex X d mX7_worked 114 [.ref x0, .int x1, .int x2, .int x3, .int x4, .int x5] [.int s0, .ref s1, .int s2, .ref s3] (T, I, J, R) Q = (rIn T s1 0 s0 ∧ Ex X d mX7_worked 115 [.ref x0, .int x1, .int x2, .int x3, .int x4, .int x5] [.int (I s1 s0.toNatClampNeg), .int s2, .ref s3] (T, I, J, R) Q)) ∧
  (∀ (X : tX) (d : Nat) (x0 : Nat) (x1 : Int32) (x2 : Int32) (x3 : Int32) (x4 : Int32) (x5 : Int32) (s0 : Int32) (s1 : Int32) (s2 : Nat) (σ : rS) (Q : tQ), Ex X d mX7_worked 115 [.ref x0, .int x1, .int x2, .int x3, .int x4, .int x5] [.int s0, .int s1, .ref s2] σ Q = (if s0 = 0 then Ex X d mX7_worked 118 [.ref x0, .int x1, .int x2, .int x3, .int x4, .int x5] [.int s1, .ref s2] σ Q else Ex X d mX7_worked 122 [.ref x0, .int x1, .int x2, .int x3, .int x4, .int x5] [.int s1, .ref s2] σ Q)) := ⟨fun X d x0 x1 x2 x3 x4 x5 s0 s1 σ Q => ex_P (i := .aload_n 0) (len := 1) (by decide +kernel) rfl,
  fun X d x0 x1 x2 x3 x4 x5 s0 s1 s2 T I J R Q => q_getR (k := 48) (by decide +kernel) rfl rfl,
  fun X d x0 x1 x2 x3 x4 x5 s0 s1 s2 σ Q => ex_P (i := .iload_n 3) (len := 1) (by decide +kernel) rfl,
  fun X d x0 x1 x2 x3 x4 x5 s0 s1 s2 s3 σ Q => ex_P (i := .iconst 1) (len := 1) (by decide +kernel) rfl,
  fun X d x0 x1 x2 x3 x4 x5 s0 s1 s2 s3 s4 σ Q => ex_P (i := .isub) (len := 1) (by decide +kernel) rfl,
  fun X d x0 x1 x2 x3 x4 x5 s0 s1 s2 s3 T I J R Q => q_iald (by decide +kernel),
  fun X d x0 x1 x2 x3 x4 x5 s0 s1 s2 σ Q => q_if_ne (o := 7) (by decide +kernel) rfl⟩
set_option maxRecDepth 50000 in
theorem gX7_worked_118 : (∀ (X : tX) (d : Nat) (x0 : Nat) (x1 : Int32) (x2 : Int32) (x3 : Int32) (x4 : Int32) (x5 : Int32) (s0 : Int32) (s1 : Nat) (σ : rS) (Q : tQ), Ex X d mX7_worked 118 [.ref x0, .int x1, .int x2, .int x3, .int x4, .int x5] [.int s0, .ref s1] σ Q = Ex X d mX7_worked 119 [.ref x0, .int x1, .int x2, .int x3, .int x4, .int x5] [.int 1, .int s0, .ref s1] σ Q) ∧
  (∀ (X : tX) (d : Nat) (x0 : Nat) (x1 : Int32) (x2 : Int32) (x3 : Int32) (x4 : Int32) (x5 : Int32) (s0 : Int32) (s1 : Int32) (s2 : Nat) (σ : rS) (Q : tQ), Ex X d mX7_worked 119 [.ref x0, .int x1, .int x2, .int x3, .int x4, .int x5] [.int s0, .int s1, .ref s2] σ Q = Ex X d mX7_worked 123 [.ref x0, .int x1, .int x2, .int x3, .int x4, .int x5] [.int s0, .int s1, .ref s2] σ Q) := ⟨fun X d x0 x1 x2 x3 x4 x5 s0 s1 σ Q => ex_P (i := .iconst 1) (len := 1) (by decide +kernel) rfl,
  fun X d x0 x1 x2 x3 x4 x5 s0 s1 s2 σ Q => q_goto (o := 4) (by decide +kernel) rfl⟩
set_option maxRecDepth 50000 in
theorem gX7_worked_122 : (∀ (X : tX) (d : Nat) (x0 : Nat) (x1 : Int32) (x2 : Int32) (x3 : Int32) (x4 : Int32) (x5 : Int32) (s0 : Int32) (s1 : Nat) (σ : rS) (Q : tQ), Ex X d mX7_worked 122 [.ref x0, .int x1, .int x2, .int x3, .int x4, .int x5] [.int s0, .ref s1] σ Q = Ex X d mX7_worked 123 [.ref x0, .int x1, .int x2, .int x3, .int x4, .int x5] [.int 0, .int s0, .ref s1] σ Q) := fun X d x0 x1 x2 x3 x4 x5 s0 s1 σ Q => ex_P (i := .iconst 0) (len := 1) (by decide +kernel) rfl
set_option maxRecDepth 50000 in
theorem gX7_worked_123 : (∀ (X : tX) (d : Nat) (x0 : Nat) (x1 : Int32) (x2 : Int32) (x3 : Int32) (x4 : Int32) (x5 : Int32) (s0 : Int32) (s1 : Int32) (s2 : Nat) (T : tT) (I : tI) (J : tJ) (R : tR) (Q : tQ), Ex X d mX7_worked 123 [.ref x0, .int x1, .int x2, .int x3, .int x4, .int x5] [.int s0, .int s1, .ref s2] (T, I, J, R) Q = (rIn T s2 0 s1 ∧ Ex X d mX7_worked 124 [.ref x0, .int x1, .int x2, .int x3, .int x4, .int x5] [] (T, va_up I s2 (va_up (I s2) s1.toNatClampNeg s0), J, R) Q)) ∧
  (∀ (X : tX) (d : Nat) (x0 : Nat) (x1 : Int32) (x2 : Int32) (x3 : Int32) (x4 : Int32) (x5 : Int32) (σ : rS) (Q : tQ), Ex X d mX7_worked 124 [.ref x0, .int x1, .int x2, .int x3, .int x4, .int x5] [] σ Q = Ex X d mX7_worked 157 [.ref x0, .int x1, .int x2, .int x3, .int x4, .int x5] [] σ Q) := ⟨fun X d x0 x1 x2 x3 x4 x5 s0 s1 s2 T I J R Q => q_iast (by decide +kernel),
  fun X d x0 x1 x2 x3 x4 x5 σ Q => q_goto (o := 33) (by decide +kernel) rfl⟩
set_option maxRecDepth 50000 in
theorem gX7_worked_127 : (∀ (X : tX) (d : Nat) (x0 : Nat) (x1 : Int32) (x2 : Int32) (x3 : Int32) (x4 : Int32) (x5 : Int32) (σ : rS) (Q : tQ), Ex X d mX7_worked 127 [.ref x0, .int x1, .int x2, .int x3, .int x4, .int x5] [] σ Q = Ex X d mX7_worked 130 [.ref x0, .int x1, .int x2, .int (x3 + Int32.ofInt (-1)), .int x4, .int x5] [] σ Q) ∧
  (∀ (X : tX) (d : Nat) (x0 : Nat) (x1 : Int32) (x2 : Int32) (x3 : Int32) (x4 : Int32) (x5 : Int32) (σ : rS) (Q : tQ), Ex X d mX7_worked 130 [.ref x0, .int x1, .int x2, .int x3, .int x4, .int x5] [] σ Q = Ex X d mX7_worked 131 [.ref x0, .int x1, .int x2, .int x3, .int x4, .int x5] [.ref x0] σ Q) ∧
  (∀ (X : tX) (d : Nat) (x0 : Nat) (x1 : Int32) (x2 : Int32) (x3 : Int32) (x4 : Int32) (x5 : Int32) (s0 : Nat) (T : tT) (I : tI) (J : tJ) (R : tR) (Q : tQ), Ex X d mX7_worked 131 [.ref x0, .int x1, .int x2, .int x3, .int x4, .int x5] [.ref s0] (T, I, J, R) Q = (T[s0]? = some (3, 7) ∧ Ex X d mX7_worked 134 [.ref x0, .int x1, .int x2, .int x3, .int x4, .int x5] [va_rf (R s0 20)] (T, I, J, R) Q)) ∧
  (∀ (X : tX) (d : Nat) (x0 : Nat) (x1 : Int32) (x2 : Int32) (x3 : Int32) (x4 : Int32) (x5 : Int32) (s0 : Nat) (σ : rS) (Q : tQ), Ex X d mX7_worked 134 [.ref x0, .int x1, .int x2, .int x3, .int x4, .int x5] [.ref s0] σ Q = Ex X d mX7_worked 135 [.ref x0, .int x1, .int x2, .int x3, .int x4, .int x5] [.int x3, .ref s0] σ Q) ∧
  (∀ (X : tX) (d : Nat) (x0 : Nat) (x1 : Int32) (x2 : Int32) (x3 : Int32) (x4 : Int32) (x5 : Int32) (s0 : Int32) (s1 : Nat) (σ : rS) (Q : tQ), Ex X d mX7_worked 135 [.ref x0, .int x1, .int x2, .int x3, .int x4, .int x5] [.int s0, .ref s1] σ Q = Ex X d mX7_worked 136 [.ref x0, .int x1, .int x2, .int x3, .int x4, .int x5] [.int 1, .int s0, .ref s1] σ Q) ∧
  (∀ (X : tX) (d : Nat) (x0 : Nat) (x1 : Int32) (x2 : Int32) (x3 : Int32) (x4 : Int32) (x5 : Int32) (s0 : Int32) (s1 : Int32) (s2 : Nat) (σ : rS) (Q : tQ), Ex X d mX7_worked 136 [.ref x0, .int x1, .int x2, .int x3, .int x4, .int x5] [.int s0, .int s1, .ref s2] σ Q = Ex X d mX7_worked 137 [.ref x0, .int x1, .int x2, .int x3, .int x4, .int x5] [.int (s1 - s0), .ref s2] σ Q) ∧
  (∀ (X : tX) (d : Nat) (x0 : Nat) (x1 : Int32) (x2 : Int32) (x3 : Int32) (x4 : Int32) (x5 : Int32) (s0 : Int32) (s1 : Nat) (σ : rS) (Q : tQ), Ex X d mX7_worked 137 [.ref x0, .int x1, .int x2, .int x3, .int x4, .int x5] [.int s0, .ref s1] σ Q = Ex X d mX7_worked 139 [.ref x0, .int x1, .int x2, .int x3, .int x4, .int x5] [.int x5, .int s0, .ref s1] σ Q) ∧
  (∀ (X : tX) (d : Nat) (x0 : Nat) (x1 : Int32) (x2 : Int32) (x3 : Int32) (x4 : Int32) (x5 : Int32) (s0 : Int32) (s1 : Int32) (s2 : Nat) (σ : rS) (Q : tQ), Ex X d mX7_worked 139 [.ref x0, .int x1, .int x2, .int x3, .int x4, .int x5] [.int s0, .int s1, .ref s2] σ Q = Ex X d mX7_worked 140 [.ref x0, .int x1, .int x2, .int x3, .int x4, .int x5] [.ref x0, .int s0, .int s1, .ref s2] σ Q) ∧
  (∀ (X : tX) (d : Nat) (x0 : Nat) (x1 : Int32) (x2 : Int32) (x3 : Int32) (x4 : Int32) (x5 : Int32) (s0 : Nat) (s1 : Int32) (s2 : Int32) (s3 : Nat) (T : tT) (I : tI) (J : tJ) (R : tR) (Q : tQ), Ex X d mX7_worked 140 [.ref x0, .int x1, .int x2, .int x3, .int x4, .int x5] [.ref s0, .int s1, .int s2, .ref s3] (T, I, J, R) Q = (T[s0]? = some (3, 7) ∧ Ex X d mX7_worked 143 [.ref x0, .int x1, .int x2, .int x3, .int x4, .int x5] [va_rf (R s0 20), .int s1, .int s2, .ref s3] (T, I, J, R) Q)) ∧
  (∀ (X : tX) (d : Nat) (x0 : Nat) (x1 : Int32) (x2 : Int32) (x3 : Int32) (x4 : Int32) (x5 : Int32) (s0 : Nat) (s1 : Int32) (s2 : Int32) (s3 : Nat) (σ : rS) (Q : tQ), Ex X d mX7_worked 143 [.ref x0, .int x1, .int x2, .int x3, .int x4, .int x5] [.ref s0, .int s1, .int s2, .ref s3] σ Q = Ex X d mX7_worked 144 [.ref x0, .int x1, .int x2, .int x3, .int x4, .int x5] [.int x3, .ref s0, .int s1, .int s2, .ref s3] σ Q) ∧
  (∀ (X : tX) (d : Nat) (x0 : Nat) (x1 : Int32) (x2 : Int32) (x3 : Int32) (x4 : Int32) (x5 : Int32) (s0 : Int32) (s1 : Nat) (s2 : Int32) (s3 : Int32) (s4 : Nat) (σ : rS) (Q : tQ), Ex X d mX7_worked 144 [.ref x0, .int x1, .int x2, .int x3, .int x4, .int x5] [.int s0, .ref s1, .int s2, .int s3, .ref s4] σ Q = Ex X d mX7_worked 145 [.ref x0, .int x1, .int x2, .int x3, .int x4, .int x5] [.int 1, .int s0, .ref s1, .int s2, .int s3, .ref s4] σ Q) ∧
  (∀ (X : tX) (d : Nat) (x0 : Nat) (x1 : Int32) (x2 : Int32) (x3 : Int32) (x4 : Int32) (x5 : Int32) (s0 : Int32) (s1 : Int32) (s2 : Nat) (s3 : Int32) (s4 : Int32) (s5 : Nat) (σ : rS) (Q : tQ), Ex X d mX7_worked 145 [.ref x0, .int x1, .int x2, .int x3, .int x4, .int x5] [.int s0, .int s1, .ref s2, .int s3, .int s4, .ref s5] σ Q = Ex X d mX7_worked 146 [.ref x0, .int x1, .int x2, .int x3, .int x4, .int x5] [.int (s1 - s0), .ref s2, .int s3, .int s4, .ref s5] σ Q) ∧
  (∀ (X : tX) (d : Nat) (x0 : Nat) (x1 : Int32) (x2 : Int32) (x3 : Int32) (x4 : Int32) (x5 : Int32) (s0 : Int32) (s1 : Nat) (s2 : Int32) (s3 : Int32) (s4 : Nat) (T : tT) (I : tI) (J : tJ) (R : tR) (Q : tQ), Ex X d mX7_worked 146 [.ref x0, .int x1, .int x2, .int x3, .int x4, .int x5] [.int s0, .ref s1, .int s2, .int s3, .ref s4] (T, I, J, R) Q = (rIn T s1 0 s0 ∧ Ex X d mX7_worked 147 [.ref x0, .int x1, .int x2, .int x3, .int x4, .int x5] [.int (I s1 s0.toNatClampNeg), .int s2, .int s3, .ref s4] (T, I, J, R) Q)) ∧
  (∀ (X : tX) (d : Nat) (x0 : Nat) (x1 : Int32) (x2 : Int32) (x3 : Int32) (x4 : Int32) (x5 : Int32) (s0 : Int32) (s1 : Int32) (s2 : Int32) (s3 : Nat) (σ : rS) (Q : tQ), Ex X d mX7_worked 147 [.ref x0, .int x1, .int x2, .int x3, .int x4, .int x5] [.int s0, .int s1, .int s2, .ref s3] σ Q = Ex X d mX7_worked 148 [.ref x0, .int x1, .int x2, .int x3, .int x4, .int x5] [.ref x0, .int s0, .int s1, .int s2, .ref s3] σ Q) ∧
  (∀ (X : tX) (d : Nat) (x0 : Nat) (x1 : Int32) (x2 : Int32) (x3 : Int32) (x4 : Int32) (x5 : Int32) (s0 : Nat) (s1 : Int32) (s2 : Int32) (s3 : Int32) (s4 : Nat) (T : tT) (I : tI) (J : tJ) (R : tR) (Q : tQ), Ex X d mX7_worked 148 [.ref x0, .int x1, .int x2, .int x3, .int x4, .int x5] [.ref s0, .int s1, .int s2, .int s3, .ref s4] (T, I, J, R) Q = (T[s0]? = some (3, 7) ∧ Ex X d mX7_worked 151 [.ref x0, .int x1, .int x2, .int x3, .int x4, .int x5] [va_rf (R s0 20), .int s1, .int s2, .int s3, .ref s4] (T, I, J, R) Q)) ∧
  (∀ (X : tX) (d : Nat) (x0 : Nat) (x1 : Int32) (x2 : Int32) (x3 : Int32) (x4 : Int32) (x5 : Int32) (s0 : Nat) (s1 : Int32) (s2 : Int32) (s3 : Int32) (s4 : Nat) (σ : rS) (Q : tQ), Ex X d mX7_worked 151 [.ref x0, .int x1, .int x2, .int x3, .int x4, .int x5] [.ref s0, .int s1, .int s2, .int s3, .ref s4] σ Q = Ex X d mX7_worked 152 [.ref x0, .int x1, .int x2, .int x3, .int x4, .int x5] [.int x3, .ref s0, .int s1, .int s2, .int s3, .ref s4] σ Q) ∧
  (∀ (X : tX) (d : Nat) (x0 : Nat) (x1 : Int32) (x2 : Int32) (x3 : Int32) (x4 : Int32) (x5 : Int32) (s0 : Int32) (s1 : Nat) (s2 : Int32) (s3 : Int32) (s4 : Int32) (s5 : Nat) (T : tT) (I : tI) (J : tJ) (R : tR) (Q : tQ), Ex X d mX7_worked 152 [.ref x0, .int x1, .int x2, .int x3, .int x4, .int x5] [.int s0, .ref s1, .int s2, .int s3, .int s4, .ref s5] (T, I, J, R) Q = (rIn T s1 0 s0 ∧ Ex X d mX7_worked 153 [.ref x0, .int x1, .int x2, .int x3, .int x4, .int x5] [.int (I s1 s0.toNatClampNeg), .int s2, .int s3, .int s4, .ref s5] (T, I, J, R) Q)) ∧
  (∀ (X : tX) (d : Nat) (x0 : Nat) (x1 : Int32) (x2 : Int32) (x3 : Int32) (x4 : Int32) (x5 : Int32) (s0 : Int32) (s1 : Int32) (s2 : Int32) (s3 : Int32) (s4 : Nat) (σ : rS) (Q : tQ), Ex X (d + 1) mX7_worked 153 [.ref x0, .int x1, .int x2, .int x3, .int x4, .int x5] [.int s0, .int s1, .int s2, .int s3, .ref s4] σ Q = Ex X d mX7_both 0 [.int s2, .int s1, .int s0] [] σ (fun v σ1 => Ex X (d + 1) mX7_worked 156 [.ref x0, .int x1, .int x2, .int x3, .int x4, .int x5] (v.toList ++ [.int s3, .ref s4]) σ1 Q)) := ⟨fun X d x0 x1 x2 x3 x4 x5 σ Q => ex_P (i := .iinc 3 (-1)) (len := 3) (by decide +kernel) rfl,
  fun X d x0 x1 x2 x3 x4 x5 σ Q => ex_P (i := .aload_n 0) (len := 1) (by decide +kernel) rfl,
  fun X d x0 x1 x2 x3 x4 x5 s0 T I J R Q => q_getR (k := 48) (by decide +kernel) rfl rfl,
  fun X d x0 x1 x2 x3 x4 x5 s0 σ Q => ex_P (i := .iload_n 3) (len := 1) (by decide +kernel) rfl,
  fun X d x0 x1 x2 x3 x4 x5 s0 s1 σ Q => ex_P (i := .iconst 1) (len := 1) (by decide +kernel) rfl,
  fun X d x0 x1 x2 x3 x4 x5 s0 s1 s2 σ Q => ex_P (i := .isub) (len := 1) (by decide +kernel) rfl,
  fun X d x0 x1 x2 x3 x4 x5 s0 s1 σ Q => ex_P (i := .iload 5) (len := 2) (by decide +kernel) rfl,
  fun X d x0 x1 x2 x3 x4 x5 s0 s1 s2 σ Q => ex_P (i := .aload_n 0) (len := 1) (by decide +kernel) rfl,
  fun X d x0 x1 x2 x3 x4 x5 s0 s1 s2 s3 T I J R Q => q_getR (k := 48) (by decide +kernel) rfl rfl,
  fun X d x0 x1 x2 x3 x4 x5 s0 s1 s2 s3 σ Q => ex_P (i := .iload_n 3) (len := 1) (by decide +kernel) rfl,
  fun X d x0 x1 x2 x3 x4 x5 s0 s1 s2 s3 s4 σ Q => ex_P (i := .iconst 1) (len := 1) (by decide +kernel) rfl,
  fun X d x0 x1 x2 x3 x4 x5 s0 s1 s2 s3 s4 s5 σ Q => ex_P (i := .isub) (len := 1) (by decide +kernel) rfl,
  fun X d x0 x1 x2 x3 x4 x5 s0 s1 s2 s3 s4 T I J R Q => q_iald (by decide +kernel),
  fun X d x0 x1 x2 x3 x4 x5 s0 s1 s2 s3 σ Q => ex_P (i := .aload_n 0) (len := 1) (by decide +kernel) rfl,
  fun X d x0 x1 x2 x3 x4 x5 s0 s1 s2 s3 s4 T I J R Q => q_getR (k := 48) (by decide +kernel) rfl rfl,
  fun X d x0 x1 x2 x3 x4 x5 s0 s1 s2 s3 s4 σ Q => ex_P (i := .iload_n 3) (len := 1) (by decide +kernel) rfl,
  fun X d x0 x1 x2 x3 x4 x5 s0 s1 s2 s3 s4 s5 T I J R Q => q_iald (by decide +kernel),
  fun X d x0 x1 x2 x3 x4 x5 s0 s1 s2 s3 s4 σ Q => q_callS (k := 203) (as := [.int s2, .int s1, .int s0]) (st := [.int s3, .ref s4]) (show rlk mX7_worked.2.2.2.2.2.2 153 = some (.invokestatic 203, 3) from by decide +kernel) rfl (Or.inl rfl) rfl rfl rfl rfl rfl (Nat.le_of_ble_eq_true rfl) (Nat.le_of_ble_eq_true rfl) rfl⟩
set_option maxRecDepth 50000 in
theorem gX7_worked_156 : (∀ (X : tX) (d : Nat) (x0 : Nat) (x1 : Int32) (x2 : Int32) (x3 : Int32) (x4 : Int32) (x5 : Int32) (s0 : Int32) (s1 : Int32) (s2 : Nat) (T : tT) (I : tI) (J : tJ) (R : tR) (Q : tQ), Ex X d mX7_worked 156 [.ref x0, .int x1, .int x2, .int x3, .int x4, .int x5] [.int s0, .int s1, .ref s2] (T, I, J, R) Q = (rIn T s2 0 s1 ∧ Ex X d mX7_worked 157 [.ref x0, .int x1, .int x2, .int x3, .int x4, .int x5] [] (T, va_up I s2 (va_up (I s2) s1.toNatClampNeg s0), J, R) Q)) := fun X d x0 x1 x2 x3 x4 x5 s0 s1 s2 T I J R Q => q_iast (by decide +kernel)
set_option maxRecDepth 50000 in
theorem gX7_worked_157 : (∀ (X : tX) (d : Nat) (x0 : Nat) (x1 : Int32) (x2 : Int32) (x3 : Int32) (x4 : Int32) (x5 : Int32) (σ : rS) (Q : tQ), Ex X d mX7_worked 157 [.ref x0, .int x1, .int x2, .int x3, .int x4, .int x5] [] σ Q = Ex X d mX7_worked 160 [.ref x0, .int x1, .int x2, .int x3, .int (x4 + 1), .int x5] [] σ Q) ∧
  (∀ (X : tX) (d : Nat) (x0 : Nat) (x1 : Int32) (x2 : Int32) (x3 : Int32) (x4 : Int32) (x5 : Int32) (σ : rS) (Q : tQ), Ex X d mX7_worked 160 [.ref x0, .int x1, .int x2, .int x3, .int x4, .int x5] [] σ Q = Ex X d mX7_worked 5 [.ref x0, .int x1, .int x2, .int x3, .int x4, .int x5] [] σ Q) := ⟨fun X d x0 x1 x2 x3 x4 x5 σ Q => ex_P (i := .iinc 4 1) (len := 3) (by decide +kernel) rfl,
  fun X d x0 x1 x2 x3 x4 x5 σ Q => q_goto (o := (-155)) (by decide +kernel) rfl⟩
set_option maxRecDepth 50000 in
theorem gX7_worked_163 : (∀ (X : tX) (d : Nat) (x0 : Nat) (x1 : Int32) (x2 : Int32) (x3 : Int32) (x4 : Int32) (v5 : Value) (σ : rS) (Q : tQ), Ex X d mX7_worked 163 [.ref x0, .int x1, .int x2, .int x3, .int x4, v5] [] σ Q = Ex X d mX7_worked 164 [.ref x0, .int x1, .int x2, .int x3, .int x4, v5] [.ref x0] σ Q) ∧
  (∀ (X : tX) (d : Nat) (x0 : Nat) (x1 : Int32) (x2 : Int32) (x3 : Int32) (x4 : Int32) (v5 : Value) (s0 : Nat) (T : tT) (I : tI) (J : tJ) (R : tR) (Q : tQ), Ex X d mX7_worked 164 [.ref x0, .int x1, .int x2, .int x3, .int x4, v5] [.ref s0] (T, I, J, R) Q = (T[s0]? = some (3, 7) ∧ Ex X d mX7_worked 167 [.ref x0, .int x1, .int x2, .int x3, .int x4, v5] [va_rf (R s0 20)] (T, I, J, R) Q)) ∧
  (∀ (X : tX) (d : Nat) (x0 : Nat) (x1 : Int32) (x2 : Int32) (x3 : Int32) (x4 : Int32) (v5 : Value) (s0 : Nat) (σ : rS) (Q : tQ), Ex X d mX7_worked 167 [.ref x0, .int x1, .int x2, .int x3, .int x4, v5] [.ref s0] σ Q = Ex X d mX7_worked 168 [.ref x0, .int x1, .int x2, .int x3, .int x4, v5] [.int 0, .ref s0] σ Q) ∧
  (∀ (X : tX) (d : Nat) (x0 : Nat) (x1 : Int32) (x2 : Int32) (x3 : Int32) (x4 : Int32) (v5 : Value) (s0 : Int32) (s1 : Nat) (T : tT) (I : tI) (J : tJ) (R : tR) (Q : tQ), Ex X d mX7_worked 168 [.ref x0, .int x1, .int x2, .int x3, .int x4, v5] [.int s0, .ref s1] (T, I, J, R) Q = (rIn T s1 0 s0 ∧ Ex X d mX7_worked 169 [.ref x0, .int x1, .int x2, .int x3, .int x4, v5] [.int (I s1 s0.toNatClampNeg)] (T, I, J, R) Q)) ∧
  (∀ (X : tX) (d : Nat) (x0 : Nat) (x1 : Int32) (x2 : Int32) (x3 : Int32) (x4 : Int32) (v5 : Value) (s0 : Int32) (σ : rS) (Q : tQ), Ex X d mX7_worked 169 [.ref x0, .int x1, .int x2, .int x3, .int x4, v5] [.int s0] σ Q = Q (some (.int s0)) σ) := ⟨fun X d x0 x1 x2 x3 x4 v5 σ Q => ex_P (i := .aload_n 0) (len := 1) (by decide +kernel) rfl,
  fun X d x0 x1 x2 x3 x4 v5 s0 T I J R Q => q_getR (k := 48) (by decide +kernel) rfl rfl,
  fun X d x0 x1 x2 x3 x4 v5 s0 σ Q => ex_P (i := .iconst 0) (len := 1) (by decide +kernel) rfl,
  fun X d x0 x1 x2 x3 x4 v5 s0 s1 T I J R Q => q_iald (by decide +kernel),
  fun X d x0 x1 x2 x3 x4 v5 s0 σ Q => q_retI (by decide +kernel) rfl⟩
set_option maxRecDepth 50000 in
theorem gX7_byLaw_0 : (∀ (X : tX) (d : Nat) (x0 : Nat) (x1 : Int32) (σ : rS) (Q : tQ), Ex X d mX7_byLaw 0 [.ref x0, .int x1, rU] [] σ Q = Ex X d mX7_byLaw 1 [.ref x0, .int x1, rU] [.ref x0] σ Q) ∧
  (∀ (X : tX) (d : Nat) (x0 : Nat) (x1 : Int32) (s0 : Nat) (T : tT) (I : tI) (J : tJ) (R : tR) (Q : tQ), Ex X d mX7_byLaw 1 [.ref x0, .int x1, rU] [.ref s0] (T, I, J, R) Q = (T[s0]? = some (3, 7) ∧ Ex X d mX7_byLaw 4 [.ref x0, .int x1, rU] [va_rf (R s0 21)] (T, I, J, R) Q)) ∧
  (∀ (X : tX) (d : Nat) (x0 : Nat) (x1 : Int32) (s0 : Nat) (σ : rS) (Q : tQ), Ex X d mX7_byLaw 4 [.ref x0, .int x1, rU] [.ref s0] σ Q = Ex X d mX7_byLaw 5 [.ref x0, .int x1, rU] [.int 0, .ref s0] σ Q) ∧
  (∀ (X : tX) (d : Nat) (x0 : Nat) (x1 : Int32) (s0 : Int32) (s1 : Nat) (σ : rS) (Q : tQ), Ex X d mX7_byLaw 5 [.ref x0, .int x1, rU] [.int s0, .ref s1] σ Q = Ex X d mX7_byLaw 6 [.ref x0, .int x1, rU] [.ref x0, .int s0, .ref s1] σ Q) ∧
  (∀ (X : tX) (d : Nat) (x0 : Nat) (x1 : Int32) (s0 : Nat) (s1 : Int32) (s2 : Nat) (T : tT) (I : tI) (J : tJ) (R : tR) (Q : tQ), Ex X d mX7_byLaw 6 [.ref x0, .int x1, rU] [.ref s0, .int s1, .ref s2] (T, I, J, R) Q = (T[s0]? = some (3, 7) ∧ Ex X d mX7_byLaw 9 [.ref x0, .int x1, rU] [va_rf (R s0 1), .int s1, .ref s2] (T, I, J, R) Q)) ∧
  (∀ (X : tX) (d : Nat) (x0 : Nat) (x1 : Int32) (s0 : Nat) (s1 : Int32) (s2 : Nat) (σ : rS) (Q : tQ), Ex X d mX7_byLaw 9 [.ref x0, .int x1, rU] [.ref s0, .int s1, .ref s2] σ Q = Ex X d mX7_byLaw 10 [.ref x0, .int x1, rU] [.int x1, .ref s0, .int s1, .ref s2] σ Q) ∧
  (∀ (X : tX) (d : Nat) (x0 : Nat) (x1 : Int32) (s0 : Int32) (s1 : Nat) (s2 : Int32) (s3 : Nat) (T : tT) (I : tI) (J : tJ) (R : tR) (Q : tQ), Ex X d mX7_byLaw 10 [.ref x0, .int x1, rU] [.int s0, .ref s1, .int s2, .ref s3] (T, I, J, R) Q = (rIn T s1 0 s0 ∧ Ex X d mX7_byLaw 11 [.ref x0, .int x1, rU] [.int (I s1 s0.toNatClampNeg), .int s2, .ref s3] (T, I, J, R) Q)) ∧
  (∀ (X : tX) (d : Nat) (x0 : Nat) (x1 : Int32) (s0 : Int32) (s1 : Int32) (s2 : Nat) (T : tT) (I : tI) (J : tJ) (R : tR) (Q : tQ), Ex X d mX7_byLaw 11 [.ref x0, .int x1, rU] [.int s0, .int s1, .ref s2] (T, I, J, R) Q = (rIn T s2 0 s1 ∧ Ex X d mX7_byLaw 12 [.ref x0, .int x1, rU] [] (T, va_up I s2 (va_up (I s2) s1.toNatClampNeg s0), J, R) Q)) ∧
  (∀ (X : tX) (d : Nat) (x0 : Nat) (x1 : Int32) (σ : rS) (Q : tQ), Ex X d mX7_byLaw 12 [.ref x0, .int x1, rU] [] σ Q = Ex X d mX7_byLaw 13 [.ref x0, .int x1, rU] [.ref x0] σ Q) ∧
  (∀ (X : tX) (d : Nat) (x0 : Nat) (x1 : Int32) (s0 : Nat) (T : tT) (I : tI) (J : tJ) (R : tR) (Q : tQ), Ex X d mX7_byLaw 13 [.ref x0, .int x1, rU] [.ref s0] (T, I, J, R) Q = (T[s0]? = some (3, 7) ∧ Ex X d mX7_byLaw 16 [.ref x0, .int x1, rU] [va_rf (R s0 21)] (T, I, J, R) Q)) ∧
  (∀ (X : tX) (d : Nat) (x0 : Nat) (x1 : Int32) (s0 : Nat) (σ : rS) (Q : tQ), Ex X d mX7_byLaw 16 [.ref x0, .int x1, rU] [.ref s0] σ Q = Ex X d mX7_byLaw 17 [.ref x0, .int x1, rU] [.int 1, .ref s0] σ Q) ∧
  (∀ (X : tX) (d : Nat) (x0 : Nat) (x1 : Int32) (s0 : Int32) (s1 : Nat) (σ : rS) (Q : tQ), Ex X d mX7_byLaw 17 [.ref x0, .int x1, rU] [.int s0, .ref s1] σ Q = Ex X d mX7_byLaw 18 [.ref x0, .int x1, rU] [.int x1, .int s0, .ref s1] σ Q) ∧
  (∀ (X : tX) (d : Nat) (x0 : Nat) (x1 : Int32) (s0 : Int32) (s1 : Int32) (s2 : Nat) (σ : rS) (Q : tQ), Ex X d mX7_byLaw 18 [.ref x0, .int x1, rU] [.int s0, .int s1, .ref s2] σ Q = Ex X d mX7_byLaw 19 [.ref x0, .int x1, rU] [.int 1, .int s0, .int s1, .ref s2] σ Q) ∧
  (∀ (X : tX) (d : Nat) (x0 : Nat) (x1 : Int32) (s0 : Int32) (s1 : Int32) (s2 : Int32) (s3 : Nat) (σ : rS) (Q : tQ), Ex X d mX7_byLaw 19 [.ref x0, .int x1, rU] [.int s0, .int s1, .int s2, .ref s3] σ Q = Ex X d mX7_byLaw 20 [.ref x0, .int x1, rU] [.int (s1 + s0), .int s2, .ref s3] σ Q) ∧
  (∀ (X : tX) (d : Nat) (x0 : Nat) (x1 : Int32) (s0 : Int32) (s1 : Int32) (s2 : Nat) (σ : rS) (Q : tQ), Ex X d mX7_byLaw 20 [.ref x0, .int x1, rU] [.int s0, .int s1, .ref s2] σ Q = Ex X d mX7_byLaw 21 [.ref x0, .int x1, rU] [.ref x0, .int s0, .int s1, .ref s2] σ Q) ∧
  (∀ (X : tX) (d : Nat) (x0 : Nat) (x1 : Int32) (s0 : Nat) (s1 : Int32) (s2 : Int32) (s3 : Nat) (T : tT) (I : tI) (J : tJ) (R : tR) (Q : tQ), Ex X d mX7_byLaw 21 [.ref x0, .int x1, rU] [.ref s0, .int s1, .int s2, .ref s3] (T, I, J, R) Q = (T[s0]? = some (3, 7) ∧ Ex X d mX7_byLaw 24 [.ref x0, .int x1, rU] [.int (I s0 0), .int s1, .int s2, .ref s3] (T, I, J, R) Q)) ∧
  (∀ (X : tX) (d : Nat) (x0 : Nat) (x1 : Int32) (s0 : Int32) (s1 : Int32) (s2 : Int32) (s3 : Nat) (σ : rS) (Q : tQ), Ex X d mX7_byLaw 24 [.ref x0, .int x1, rU] [.int s0, .int s1, .int s2, .ref s3] σ Q = (if s0 ≤ s1 then Ex X d mX7_byLaw 38 [.ref x0, .int x1, rU] [.int s2, .ref s3] σ Q else Ex X d mX7_byLaw 27 [.ref x0, .int x1, rU] [.int s2, .ref s3] σ Q)) := ⟨fun X d x0 x1 σ Q => ex_P (i := .aload_n 0) (len := 1) (by decide +kernel) rfl,
  fun X d x0 x1 s0 T I J R Q => q_getR (k := 51) (by decide +kernel) rfl rfl,
  fun X d x0 x1 s0 σ Q => ex_P (i := .iconst 0) (len := 1) (by decide +kernel) rfl,
  fun X d x0 x1 s0 s1 σ Q => ex_P (i := .aload_n 0) (len := 1) (by decide +kernel) rfl,
  fun X d x0 x1 s0 s1 s2 T I J R Q => q_getR (k := 9) (by decide +kernel) rfl rfl,
  fun X d x0 x1 s0 s1 s2 σ Q => ex_P (i := .iload_n 1) (len := 1) (by decide +kernel) rfl,
  fun X d x0 x1 s0 s1 s2 s3 T I J R Q => q_iald (by decide +kernel),
  fun X d x0 x1 s0 s1 s2 T I J R Q => q_iast (by decide +kernel),
  fun X d x0 x1 σ Q => ex_P (i := .aload_n 0) (len := 1) (by decide +kernel) rfl,
  fun X d x0 x1 s0 T I J R Q => q_getR (k := 51) (by decide +kernel) rfl rfl,
  fun X d x0 x1 s0 σ Q => ex_P (i := .iconst 1) (len := 1) (by decide +kernel) rfl,
  fun X d x0 x1 s0 s1 σ Q => ex_P (i := .iload_n 1) (len := 1) (by decide +kernel) rfl,
  fun X d x0 x1 s0 s1 s2 σ Q => ex_P (i := .iconst 1) (len := 1) (by decide +kernel) rfl,
  fun X d x0 x1 s0 s1 s2 s3 σ Q => ex_P (i := .iadd) (len := 1) (by decide +kernel) rfl,
  fun X d x0 x1 s0 s1 s2 σ Q => ex_P (i := .aload_n 0) (len := 1) (by decide +kernel) rfl,
  fun X d x0 x1 s0 s1 s2 s3 T I J R Q => q_getI (k := 97) (by decide +kernel) rfl rfl (by decide),
  fun X d x0 x1 s0 s1 s2 s3 σ Q => q_icmp_ge (o := 14) (by decide +kernel) rfl⟩
set_option maxRecDepth 50000 in
theorem gX7_byLaw_27 : (∀ (X : tX) (d : Nat) (x0 : Nat) (x1 : Int32) (s0 : Int32) (s1 : Nat) (σ : rS) (Q : tQ), Ex X d mX7_byLaw 27 [.ref x0, .int x1, rU] [.int s0, .ref s1] σ Q = Ex X d mX7_byLaw 28 [.ref x0, .int x1, rU] [.ref x0, .int s0, .ref s1] σ Q) ∧
  (∀ (X : tX) (d : Nat) (x0 : Nat) (x1 : Int32) (s0 : Nat) (s1 : Int32) (s2 : Nat) (T : tT) (I : tI) (J : tJ) (R : tR) (Q : tQ), Ex X d mX7_byLaw 28 [.ref x0, .int x1, rU] [.ref s0, .int s1, .ref s2] (T, I, J, R) Q = (T[s0]? = some (3, 7) ∧ Ex X d mX7_byLaw 31 [.ref x0, .int x1, rU] [va_rf (R s0 1), .int s1, .ref s2] (T, I, J, R) Q)) ∧
  (∀ (X : tX) (d : Nat) (x0 : Nat) (x1 : Int32) (s0 : Nat) (s1 : Int32) (s2 : Nat) (σ : rS) (Q : tQ), Ex X d mX7_byLaw 31 [.ref x0, .int x1, rU] [.ref s0, .int s1, .ref s2] σ Q = Ex X d mX7_byLaw 32 [.ref x0, .int x1, rU] [.int x1, .ref s0, .int s1, .ref s2] σ Q) ∧
  (∀ (X : tX) (d : Nat) (x0 : Nat) (x1 : Int32) (s0 : Int32) (s1 : Nat) (s2 : Int32) (s3 : Nat) (σ : rS) (Q : tQ), Ex X d mX7_byLaw 32 [.ref x0, .int x1, rU] [.int s0, .ref s1, .int s2, .ref s3] σ Q = Ex X d mX7_byLaw 33 [.ref x0, .int x1, rU] [.int 1, .int s0, .ref s1, .int s2, .ref s3] σ Q) ∧
  (∀ (X : tX) (d : Nat) (x0 : Nat) (x1 : Int32) (s0 : Int32) (s1 : Int32) (s2 : Nat) (s3 : Int32) (s4 : Nat) (σ : rS) (Q : tQ), Ex X d mX7_byLaw 33 [.ref x0, .int x1, rU] [.int s0, .int s1, .ref s2, .int s3, .ref s4] σ Q = Ex X d mX7_byLaw 34 [.ref x0, .int x1, rU] [.int (s1 + s0), .ref s2, .int s3, .ref s4] σ Q) ∧
  (∀ (X : tX) (d : Nat) (x0 : Nat) (x1 : Int32) (s0 : Int32) (s1 : Nat) (s2 : Int32) (s3 : Nat) (T : tT) (I : tI) (J : tJ) (R : tR) (Q : tQ), Ex X d mX7_byLaw 34 [.ref x0, .int x1, rU] [.int s0, .ref s1, .int s2, .ref s3] (T, I, J, R) Q = (rIn T s1 0 s0 ∧ Ex X d mX7_byLaw 35 [.ref x0, .int x1, rU] [.int (I s1 s0.toNatClampNeg), .int s2, .ref s3] (T, I, J, R) Q)) ∧
  (∀ (X : tX) (d : Nat) (x0 : Nat) (x1 : Int32) (s0 : Int32) (s1 : Int32) (s2 : Nat) (σ : rS) (Q : tQ), Ex X d mX7_byLaw 35 [.ref x0, .int x1, rU] [.int s0, .int s1, .ref s2] σ Q = Ex X d mX7_byLaw 39 [.ref x0, .int x1, rU] [.int s0, .int s1, .ref s2] σ Q) := ⟨fun X d x0 x1 s0 s1 σ Q => ex_P (i := .aload_n 0) (len := 1) (by decide +kernel) rfl,
  fun X d x0 x1 s0 s1 s2 T I J R Q => q_getR (k := 9) (by decide +kernel) rfl rfl,
  fun X d x0 x1 s0 s1 s2 σ Q => ex_P (i := .iload_n 1) (len := 1) (by decide +kernel) rfl,
  fun X d x0 x1 s0 s1 s2 s3 σ Q => ex_P (i := .iconst 1) (len := 1) (by decide +kernel) rfl,
  fun X d x0 x1 s0 s1 s2 s3 s4 σ Q => ex_P (i := .iadd) (len := 1) (by decide +kernel) rfl,
  fun X d x0 x1 s0 s1 s2 s3 T I J R Q => q_iald (by decide +kernel),
  fun X d x0 x1 s0 s1 s2 σ Q => q_goto (o := 4) (by decide +kernel) rfl⟩
set_option maxRecDepth 50000 in
theorem gX7_byLaw_38 : (∀ (X : tX) (d : Nat) (x0 : Nat) (x1 : Int32) (s0 : Int32) (s1 : Nat) (σ : rS) (Q : tQ), Ex X d mX7_byLaw 38 [.ref x0, .int x1, rU] [.int s0, .ref s1] σ Q = Ex X d mX7_byLaw 39 [.ref x0, .int x1, rU] [.int 0, .int s0, .ref s1] σ Q) := fun X d x0 x1 s0 s1 σ Q => ex_P (i := .iconst 0) (len := 1) (by decide +kernel) rfl
set_option maxRecDepth 50000 in
theorem gX7_byLaw_39 : (∀ (X : tX) (d : Nat) (x0 : Nat) (x1 : Int32) (s0 : Int32) (s1 : Int32) (s2 : Nat) (T : tT) (I : tI) (J : tJ) (R : tR) (Q : tQ), Ex X d mX7_byLaw 39 [.ref x0, .int x1, rU] [.int s0, .int s1, .ref s2] (T, I, J, R) Q = (rIn T s2 0 s1 ∧ Ex X d mX7_byLaw 40 [.ref x0, .int x1, rU] [] (T, va_up I s2 (va_up (I s2) s1.toNatClampNeg s0), J, R) Q)) ∧
  (∀ (X : tX) (d : Nat) (x0 : Nat) (x1 : Int32) (σ : rS) (Q : tQ), Ex X d mX7_byLaw 40 [.ref x0, .int x1, rU] [] σ Q = Ex X d mX7_byLaw 41 [.ref x0, .int x1, rU] [.ref x0] σ Q) ∧
  (∀ (X : tX) (d : Nat) (x0 : Nat) (x1 : Int32) (s0 : Nat) (T : tT) (I : tI) (J : tJ) (R : tR) (Q : tQ), Ex X d mX7_byLaw 41 [.ref x0, .int x1, rU] [.ref s0] (T, I, J, R) Q = (T[s0]? = some (3, 7) ∧ Ex X d mX7_byLaw 44 [.ref x0, .int x1, rU] [va_rf (R s0 21)] (T, I, J, R) Q)) ∧
  (∀ (X : tX) (d : Nat) (x0 : Nat) (x1 : Int32) (s0 : Nat) (σ : rS) (Q : tQ), Ex X d mX7_byLaw 44 [.ref x0, .int x1, rU] [.ref s0] σ Q = Ex X d mX7_byLaw 45 [.ref x0, .int x1, rU] [.int 2, .ref s0] σ Q) ∧
  (∀ (X : tX) (d : Nat) (x0 : Nat) (x1 : Int32) (s0 : Int32) (s1 : Nat) (σ : rS) (Q : tQ), Ex X d mX7_byLaw 45 [.ref x0, .int x1, rU] [.int s0, .ref s1] σ Q = Ex X d mX7_byLaw 46 [.ref x0, .int x1, rU] [.ref x0, .int s0, .ref s1] σ Q) ∧
  (∀ (X : tX) (d : Nat) (x0 : Nat) (x1 : Int32) (s0 : Nat) (s1 : Int32) (s2 : Nat) (T : tT) (I : tI) (J : tJ) (R : tR) (Q : tQ), Ex X d mX7_byLaw 46 [.ref x0, .int x1, rU] [.ref s0, .int s1, .ref s2] (T, I, J, R) Q = (T[s0]? = some (3, 7) ∧ Ex X d mX7_byLaw 49 [.ref x0, .int x1, rU] [va_rf (R s0 2), .int s1, .ref s2] (T, I, J, R) Q)) ∧
  (∀ (X : tX) (d : Nat) (x0 : Nat) (x1 : Int32) (s0 : Nat) (s1 : Int32) (s2 : Nat) (σ : rS) (Q : tQ), Ex X d mX7_byLaw 49 [.ref x0, .int x1, rU] [.ref s0, .int s1, .ref s2] σ Q = Ex X d mX7_byLaw 50 [.ref x0, .int x1, rU] [.ref x0, .ref s0, .int s1, .ref s2] σ Q) ∧
  (∀ (X : tX) (d : Nat) (x0 : Nat) (x1 : Int32) (s0 : Nat) (s1 : Nat) (s2 : Int32) (s3 : Nat) (T : tT) (I : tI) (J : tJ) (R : tR) (Q : tQ), Ex X d mX7_byLaw 50 [.ref x0, .int x1, rU] [.ref s0, .ref s1, .int s2, .ref s3] (T, I, J, R) Q = (T[s0]? = some (3, 7) ∧ Ex X d mX7_byLaw 53 [.ref x0, .int x1, rU] [va_rf (R s0 3), .ref s1, .int s2, .ref s3] (T, I, J, R) Q)) ∧
  (∀ (X : tX) (d : Nat) (x0 : Nat) (x1 : Int32) (s0 : Nat) (s1 : Nat) (s2 : Int32) (s3 : Nat) (σ : rS) (Q : tQ), Ex X d mX7_byLaw 53 [.ref x0, .int x1, rU] [.ref s0, .ref s1, .int s2, .ref s3] σ Q = Ex X d mX7_byLaw 54 [.ref x0, .int x1, rU] [.int 1, .ref s0, .ref s1, .int s2, .ref s3] σ Q) ∧
  (∀ (X : tX) (d : Nat) (x0 : Nat) (x1 : Int32) (s0 : Int32) (s1 : Nat) (s2 : Nat) (s3 : Int32) (s4 : Nat) (T : tT) (I : tI) (J : tJ) (R : tR) (Q : tQ), Ex X d mX7_byLaw 54 [.ref x0, .int x1, rU] [.int s0, .ref s1, .ref s2, .int s3, .ref s4] (T, I, J, R) Q = (rIn T s1 0 s0 ∧ Ex X d mX7_byLaw 55 [.ref x0, .int x1, rU] [.int (I s1 s0.toNatClampNeg), .ref s2, .int s3, .ref s4] (T, I, J, R) Q)) ∧
  (∀ (X : tX) (d : Nat) (x0 : Nat) (x1 : Int32) (s0 : Int32) (s1 : Nat) (s2 : Int32) (s3 : Nat) (T : tT) (I : tI) (J : tJ) (R : tR) (Q : tQ), Ex X d mX7_byLaw 55 [.ref x0, .int x1, rU] [.int s0, .ref s1, .int s2, .ref s3] (T, I, J, R) Q = (rIn T s1 0 s0 ∧ Ex X d mX7_byLaw 56 [.ref x0, .int x1, rU] [.int (I s1 s0.toNatClampNeg), .int s2, .ref s3] (T, I, J, R) Q)) ∧
  (∀ (X : tX) (d : Nat) (x0 : Nat) (x1 : Int32) (s0 : Int32) (s1 : Int32) (s2 : Nat) (T : tT) (I : tI) (J : tJ) (R : tR) (Q : tQ), Ex X d mX7_byLaw 56 [.ref x0, .int x1, rU] [.int s0, .int s1, .ref s2] (T, I, J, R) Q = (rIn T s2 0 s1 ∧ Ex X d mX7_byLaw 57 [.ref x0, .int x1, rU] [] (T, va_up I s2 (va_up (I s2) s1.toNatClampNeg s0), J, R) Q)) ∧
  (∀ (X : tX) (d : Nat) (x0 : Nat) (x1 : Int32) (σ : rS) (Q : tQ), Ex X d mX7_byLaw 57 [.ref x0, .int x1, rU] [] σ Q = Ex X d mX7_byLaw 58 [.ref x0, .int x1, rU] [.ref x0] σ Q) ∧
  (∀ (X : tX) (d : Nat) (x0 : Nat) (x1 : Int32) (s0 : Nat) (T : tT) (I : tI) (J : tJ) (R : tR) (Q : tQ), Ex X d mX7_byLaw 58 [.ref x0, .int x1, rU] [.ref s0] (T, I, J, R) Q = (T[s0]? = some (3, 7) ∧ Ex X d mX7_byLaw 61 [.ref x0, .int x1, rU] [va_rf (R s0 21)] (T, I, J, R) Q)) ∧
  (∀ (X : tX) (d : Nat) (x0 : Nat) (x1 : Int32) (s0 : Nat) (σ : rS) (Q : tQ), Ex X d mX7_byLaw 61 [.ref x0, .int x1, rU] [.ref s0] σ Q = Ex X d mX7_byLaw 62 [.ref x0, .int x1, rU] [.int 3, .ref s0] σ Q) ∧
  (∀ (X : tX) (d : Nat) (x0 : Nat) (x1 : Int32) (s0 : Int32) (s1 : Nat) (σ : rS) (Q : tQ), Ex X d mX7_byLaw 62 [.ref x0, .int x1, rU] [.int s0, .ref s1] σ Q = Ex X d mX7_byLaw 63 [.ref x0, .int x1, rU] [.ref x0, .int s0, .ref s1] σ Q) ∧
  (∀ (X : tX) (d : Nat) (x0 : Nat) (x1 : Int32) (s0 : Nat) (s1 : Int32) (s2 : Nat) (T : tT) (I : tI) (J : tJ) (R : tR) (Q : tQ), Ex X d mX7_byLaw 63 [.ref x0, .int x1, rU] [.ref s0, .int s1, .ref s2] (T, I, J, R) Q = (T[s0]? = some (3, 7) ∧ Ex X d mX7_byLaw 66 [.ref x0, .int x1, rU] [va_rf (R s0 1), .int s1, .ref s2] (T, I, J, R) Q)) ∧
  (∀ (X : tX) (d : Nat) (x0 : Nat) (x1 : Int32) (s0 : Nat) (s1 : Int32) (s2 : Nat) (σ : rS) (Q : tQ), Ex X d mX7_byLaw 66 [.ref x0, .int x1, rU] [.ref s0, .int s1, .ref s2] σ Q = Ex X d mX7_byLaw 68 [.ref x0, .int x1, rU] [.int 24, .ref s0, .int s1, .ref s2] σ Q) ∧
  (∀ (X : tX) (d : Nat) (x0 : Nat) (x1 : Int32) (s0 : Int32) (s1 : Nat) (s2 : Int32) (s3 : Nat) (σ : rS) (Q : tQ), Ex X d mX7_byLaw 68 [.ref x0, .int x1, rU] [.int s0, .ref s1, .int s2, .ref s3] σ Q = Ex X d mX7_byLaw 69 [.ref x0, .int x1, rU] [.int x1, .int s0, .ref s1, .int s2, .ref s3] σ Q) ∧
  (∀ (X : tX) (d : Nat) (x0 : Nat) (x1 : Int32) (s0 : Int32) (s1 : Int32) (s2 : Nat) (s3 : Int32) (s4 : Nat) (σ : rS) (Q : tQ), Ex X d mX7_byLaw 69 [.ref x0, .int x1, rU] [.int s0, .int s1, .ref s2, .int s3, .ref s4] σ Q = Ex X d mX7_byLaw 70 [.ref x0, .int x1, rU] [.int (s1 + s0), .ref s2, .int s3, .ref s4] σ Q) ∧
  (∀ (X : tX) (d : Nat) (x0 : Nat) (x1 : Int32) (s0 : Int32) (s1 : Nat) (s2 : Int32) (s3 : Nat) (T : tT) (I : tI) (J : tJ) (R : tR) (Q : tQ), Ex X d mX7_byLaw 70 [.ref x0, .int x1, rU] [.int s0, .ref s1, .int s2, .ref s3] (T, I, J, R) Q = (rIn T s1 0 s0 ∧ Ex X d mX7_byLaw 71 [.ref x0, .int x1, rU] [.int (I s1 s0.toNatClampNeg), .int s2, .ref s3] (T, I, J, R) Q)) ∧
  (∀ (X : tX) (d : Nat) (x0 : Nat) (x1 : Int32) (s0 : Int32) (s1 : Int32) (s2 : Nat) (T : tT) (I : tI) (J : tJ) (R : tR) (Q : tQ), Ex X d mX7_byLaw 71 [.ref x0, .int x1, rU] [.int s0, .int s1, .ref s2] (T, I, J, R) Q = (rIn T s2 0 s1 ∧ Ex X d mX7_byLaw 72 [.ref x0, .int x1, rU] [] (T, va_up I s2 (va_up (I s2) s1.toNatClampNeg s0), J, R) Q)) ∧
  (∀ (X : tX) (d : Nat) (x0 : Nat) (x1 : Int32) (σ : rS) (Q : tQ), Ex X d mX7_byLaw 72 [.ref x0, .int x1, rU] [] σ Q = Ex X d mX7_byLaw 73 [.ref x0, .int x1, rU] [.ref x0] σ Q) ∧
  (∀ (X : tX) (d : Nat) (x0 : Nat) (x1 : Int32) (s0 : Nat) (T : tT) (I : tI) (J : tJ) (R : tR) (Q : tQ), Ex X d mX7_byLaw 73 [.ref x0, .int x1, rU] [.ref s0] (T, I, J, R) Q = (T[s0]? = some (3, 7) ∧ Ex X d mX7_byLaw 76 [.ref x0, .int x1, rU] [va_rf (R s0 21)] (T, I, J, R) Q)) ∧
  (∀ (X : tX) (d : Nat) (x0 : Nat) (x1 : Int32) (s0 : Nat) (σ : rS) (Q : tQ), Ex X d mX7_byLaw 76 [.ref x0, .int x1, rU] [.ref s0] σ Q = Ex X d mX7_byLaw 77 [.ref x0, .int x1, rU] [.int 4, .ref s0] σ Q) ∧
  (∀ (X : tX) (d : Nat) (x0 : Nat) (x1 : Int32) (s0 : Int32) (s1 : Nat) (σ : rS) (Q : tQ), Ex X d mX7_byLaw 77 [.ref x0, .int x1, rU] [.int s0, .ref s1] σ Q = Ex X d mX7_byLaw 78 [.ref x0, .int x1, rU] [.ref x0, .int s0, .ref s1] σ Q) ∧
  (∀ (X : tX) (d : Nat) (x0 : Nat) (x1 : Int32) (s0 : Nat) (s1 : Int32) (s2 : Nat) (T : tT) (I : tI) (J : tJ) (R : tR) (Q : tQ), Ex X d mX7_byLaw 78 [.ref x0, .int x1, rU] [.ref s0, .int s1, .ref s2] (T, I, J, R) Q = (T[s0]? = some (3, 7) ∧ Ex X d mX7_byLaw 81 [.ref x0, .int x1, rU] [va_rf (R s0 1), .int s1, .ref s2] (T, I, J, R) Q)) ∧
  (∀ (X : tX) (d : Nat) (x0 : Nat) (x1 : Int32) (s0 : Nat) (s1 : Int32) (s2 : Nat) (σ : rS) (Q : tQ), Ex X d mX7_byLaw 81 [.ref x0, .int x1, rU] [.ref s0, .int s1, .ref s2] σ Q = Ex X d mX7_byLaw 83 [.ref x0, .int x1, rU] [.int 16, .ref s0, .int s1, .ref s2] σ Q) ∧
  (∀ (X : tX) (d : Nat) (x0 : Nat) (x1 : Int32) (s0 : Int32) (s1 : Nat) (s2 : Int32) (s3 : Nat) (σ : rS) (Q : tQ), Ex X d mX7_byLaw 83 [.ref x0, .int x1, rU] [.int s0, .ref s1, .int s2, .ref s3] σ Q = Ex X d mX7_byLaw 84 [.ref x0, .int x1, rU] [.int x1, .int s0, .ref s1, .int s2, .ref s3] σ Q) ∧
  (∀ (X : tX) (d : Nat) (x0 : Nat) (x1 : Int32) (s0 : Int32) (s1 : Int32) (s2 : Nat) (s3 : Int32) (s4 : Nat) (σ : rS) (Q : tQ), Ex X d mX7_byLaw 84 [.ref x0, .int x1, rU] [.int s0, .int s1, .ref s2, .int s3, .ref s4] σ Q = Ex X d mX7_byLaw 85 [.ref x0, .int x1, rU] [.int (s1 + s0), .ref s2, .int s3, .ref s4] σ Q) ∧
  (∀ (X : tX) (d : Nat) (x0 : Nat) (x1 : Int32) (s0 : Int32) (s1 : Nat) (s2 : Int32) (s3 : Nat) (T : tT) (I : tI) (J : tJ) (R : tR) (Q : tQ), Ex X d mX7_byLaw 85 [.ref x0, .int x1, rU] [.int s0, .ref s1, .int s2, .ref s3] (T, I, J, R) Q = (rIn T s1 0 s0 ∧ Ex X d mX7_byLaw 86 [.ref x0, .int x1, rU] [.int (I s1 s0.toNatClampNeg), .int s2, .ref s3] (T, I, J, R) Q)) ∧
  (∀ (X : tX) (d : Nat) (x0 : Nat) (x1 : Int32) (s0 : Int32) (s1 : Int32) (s2 : Nat) (T : tT) (I : tI) (J : tJ) (R : tR) (Q : tQ), Ex X d mX7_byLaw 86 [.ref x0, .int x1, rU] [.int s0, .int s1, .ref s2] (T, I, J, R) Q = (rIn T s2 0 s1 ∧ Ex X d mX7_byLaw 87 [.ref x0, .int x1, rU] [] (T, va_up I s2 (va_up (I s2) s1.toNatClampNeg s0), J, R) Q)) ∧
  (∀ (X : tX) (d : Nat) (x0 : Nat) (x1 : Int32) (σ : rS) (Q : tQ), Ex X d mX7_byLaw 87 [.ref x0, .int x1, rU] [] σ Q = Ex X d mX7_byLaw 88 [.ref x0, .int x1, rU] [.ref x0] σ Q) ∧
  (∀ (X : tX) (d : Nat) (x0 : Nat) (x1 : Int32) (s0 : Nat) (T : tT) (I : tI) (J : tJ) (R : tR) (Q : tQ), Ex X d mX7_byLaw 88 [.ref x0, .int x1, rU] [.ref s0] (T, I, J, R) Q = (T[s0]? = some (3, 7) ∧ Ex X d mX7_byLaw 91 [.ref x0, .int x1, rU] [va_rf (R s0 21)] (T, I, J, R) Q)) ∧
  (∀ (X : tX) (d : Nat) (x0 : Nat) (x1 : Int32) (s0 : Nat) (σ : rS) (Q : tQ), Ex X d mX7_byLaw 91 [.ref x0, .int x1, rU] [.ref s0] σ Q = Ex X d mX7_byLaw 92 [.ref x0, .int x1, rU] [.int 5, .ref s0] σ Q) ∧
  (∀ (X : tX) (d : Nat) (x0 : Nat) (x1 : Int32) (s0 : Int32) (s1 : Nat) (σ : rS) (Q : tQ), Ex X d mX7_byLaw 92 [.ref x0, .int x1, rU] [.int s0, .ref s1] σ Q = Ex X d mX7_byLaw 93 [.ref x0, .int x1, rU] [.ref x0, .int s0, .ref s1] σ Q) ∧
  (∀ (X : tX) (d : Nat) (x0 : Nat) (x1 : Int32) (s0 : Nat) (s1 : Int32) (s2 : Nat) (T : tT) (I : tI) (J : tJ) (R : tR) (Q : tQ), Ex X d mX7_byLaw 93 [.ref x0, .int x1, rU] [.ref s0, .int s1, .ref s2] (T, I, J, R) Q = (T[s0]? = some (3, 7) ∧ Ex X d mX7_byLaw 96 [.ref x0, .int x1, rU] [va_rf (R s0 3), .int s1, .ref s2] (T, I, J, R) Q)) ∧
  (∀ (X : tX) (d : Nat) (x0 : Nat) (x1 : Int32) (s0 : Nat) (s1 : Int32) (s2 : Nat) (σ : rS) (Q : tQ), Ex X d mX7_byLaw 96 [.ref x0, .int x1, rU] [.ref s0, .int s1, .ref s2] σ Q = Ex X d mX7_byLaw 97 [.ref x0, .int x1, rU] [.int 1, .ref s0, .int s1, .ref s2] σ Q) ∧
  (∀ (X : tX) (d : Nat) (x0 : Nat) (x1 : Int32) (s0 : Int32) (s1 : Nat) (s2 : Int32) (s3 : Nat) (T : tT) (I : tI) (J : tJ) (R : tR) (Q : tQ), Ex X d mX7_byLaw 97 [.ref x0, .int x1, rU] [.int s0, .ref s1, .int s2, .ref s3] (T, I, J, R) Q = (rIn T s1 0 s0 ∧ Ex X d mX7_byLaw 98 [.ref x0, .int x1, rU] [.int (I s1 s0.toNatClampNeg), .int s2, .ref s3] (T, I, J, R) Q)) ∧
  (∀ (X : tX) (d : Nat) (x0 : Nat) (x1 : Int32) (s0 : Int32) (s1 : Int32) (s2 : Nat) (T : tT) (I : tI) (J : tJ) (R : tR) (Q : tQ), Ex X d mX7_byLaw 98 [.ref x0, .int x1, rU] [.int s0, .int s1, .ref s2] (T, I, J, R) Q = (rIn T s2 0 s1 ∧ Ex X d mX7_byLaw 99 [.ref x0, .int x1, rU] [] (T, va_up I s2 (va_up (I s2) s1.toNatClampNeg s0), J, R) Q)) ∧
  (∀ (X : tX) (d : Nat) (x0 : Nat) (x1 : Int32) (σ : rS) (Q : tQ), Ex X d mX7_byLaw 99 [.ref x0, .int x1, rU] [] σ Q = Ex X d mX7_byLaw 100 [.ref x0, .int x1, rU] [.int 0] σ Q) ∧
  (∀ (X : tX) (d : Nat) (x0 : Nat) (x1 : Int32) (s0 : Int32) (σ : rS) (Q : tQ), Ex X d mX7_byLaw 100 [.ref x0, .int x1, rU] [.int s0] σ Q = Ex X d mX7_byLaw 101 [.ref x0, .int x1, .int s0] [] σ Q) := ⟨fun X d x0 x1 s0 s1 s2 T I J R Q => q_iast (by decide +kernel),
  fun X d x0 x1 σ Q => ex_P (i := .aload_n 0) (len := 1) (by decide +kernel) rfl,
  fun X d x0 x1 s0 T I J R Q => q_getR (k := 51) (by decide +kernel) rfl rfl,
  fun X d x0 x1 s0 σ Q => ex_P (i := .iconst 2) (len := 1) (by decide +kernel) rfl,
  fun X d x0 x1 s0 s1 σ Q => ex_P (i := .aload_n 0) (len := 1) (by decide +kernel) rfl,
  fun X d x0 x1 s0 s1 s2 T I J R Q => q_getR (k := 15) (by decide +kernel) rfl rfl,
  fun X d x0 x1 s0 s1 s2 σ Q => ex_P (i := .aload_n 0) (len := 1) (by decide +kernel) rfl,
  fun X d x0 x1 s0 s1 s2 s3 T I J R Q => q_getR (k := 18) (by decide +kernel) rfl rfl,
  fun X d x0 x1 s0 s1 s2 s3 σ Q => ex_P (i := .iconst 1) (len := 1) (by decide +kernel) rfl,
  fun X d x0 x1 s0 s1 s2 s3 s4 T I J R Q => q_iald (by decide +kernel),
  fun X d x0 x1 s0 s1 s2 s3 T I J R Q => q_iald (by decide +kernel),
  fun X d x0 x1 s0 s1 s2 T I J R Q => q_iast (by decide +kernel),
  fun X d x0 x1 σ Q => ex_P (i := .aload_n 0) (len := 1) (by decide +kernel) rfl,
  fun X d x0 x1 s0 T I J R Q => q_getR (k := 51) (by decide +kernel) rfl rfl,
  fun X d x0 x1 s0 σ Q => ex_P (i := .iconst 3) (len := 1) (by decide +kernel) rfl,
  fun X d x0 x1 s0 s1 σ Q => ex_P (i := .aload_n 0) (len := 1) (by decide +kernel) rfl,
  fun X d x0 x1 s0 s1 s2 T I J R Q => q_getR (k := 9) (by decide +kernel) rfl rfl,
  fun X d x0 x1 s0 s1 s2 σ Q => ex_P (i := .bipush 24) (len := 2) (by decide +kernel) rfl,
  fun X d x0 x1 s0 s1 s2 s3 σ Q => ex_P (i := .iload_n 1) (len := 1) (by decide +kernel) rfl,
  fun X d x0 x1 s0 s1 s2 s3 s4 σ Q => ex_P (i := .iadd) (len := 1) (by decide +kernel) rfl,
  fun X d x0 x1 s0 s1 s2 s3 T I J R Q => q_iald (by decide +kernel),
  fun X d x0 x1 s0 s1 s2 T I J R Q => q_iast (by decide +kernel),
  fun X d x0 x1 σ Q => ex_P (i := .aload_n 0) (len := 1) (by decide +kernel) rfl,
  fun X d x0 x1 s0 T I J R Q => q_getR (k := 51) (by decide +kernel) rfl rfl,
  fun X d x0 x1 s0 σ Q => ex_P (i := .iconst 4) (len := 1) (by decide +kernel) rfl,
  fun X d x0 x1 s0 s1 σ Q => ex_P (i := .aload_n 0) (len := 1) (by decide +kernel) rfl,
  fun X d x0 x1 s0 s1 s2 T I J R Q => q_getR (k := 9) (by decide +kernel) rfl rfl,
  fun X d x0 x1 s0 s1 s2 σ Q => ex_P (i := .bipush 16) (len := 2) (by decide +kernel) rfl,
  fun X d x0 x1 s0 s1 s2 s3 σ Q => ex_P (i := .iload_n 1) (len := 1) (by decide +kernel) rfl,
  fun X d x0 x1 s0 s1 s2 s3 s4 σ Q => ex_P (i := .iadd) (len := 1) (by decide +kernel) rfl,
  fun X d x0 x1 s0 s1 s2 s3 T I J R Q => q_iald (by decide +kernel),
  fun X d x0 x1 s0 s1 s2 T I J R Q => q_iast (by decide +kernel),
  fun X d x0 x1 σ Q => ex_P (i := .aload_n 0) (len := 1) (by decide +kernel) rfl,
  fun X d x0 x1 s0 T I J R Q => q_getR (k := 51) (by decide +kernel) rfl rfl,
  fun X d x0 x1 s0 σ Q => ex_P (i := .iconst 5) (len := 1) (by decide +kernel) rfl,
  fun X d x0 x1 s0 s1 σ Q => ex_P (i := .aload_n 0) (len := 1) (by decide +kernel) rfl,
  fun X d x0 x1 s0 s1 s2 T I J R Q => q_getR (k := 18) (by decide +kernel) rfl rfl,
  fun X d x0 x1 s0 s1 s2 σ Q => ex_P (i := .iconst 1) (len := 1) (by decide +kernel) rfl,
  fun X d x0 x1 s0 s1 s2 s3 T I J R Q => q_iald (by decide +kernel),
  fun X d x0 x1 s0 s1 s2 T I J R Q => q_iast (by decide +kernel),
  fun X d x0 x1 σ Q => ex_P (i := .iconst 0) (len := 1) (by decide +kernel) rfl,
  fun X d x0 x1 s0 σ Q => ex_P (i := .istore_n 2) (len := 1) (by decide +kernel) rfl⟩
set_option maxRecDepth 50000 in
theorem gX7_byLaw_101 : (∀ (X : tX) (d : Nat) (x0 : Nat) (x1 : Int32) (x2 : Int32) (σ : rS) (Q : tQ), Ex X d mX7_byLaw 101 [.ref x0, .int x1, .int x2] [] σ Q = Ex X d mX7_byLaw 102 [.ref x0, .int x1, .int x2] [.int x2] σ Q) ∧
  (∀ (X : tX) (d : Nat) (x0 : Nat) (x1 : Int32) (x2 : Int32) (s0 : Int32) (σ : rS) (Q : tQ), Ex X d mX7_byLaw 102 [.ref x0, .int x1, .int x2] [.int s0] σ Q = Ex X d mX7_byLaw 103 [.ref x0, .int x1, .int x2] [.ref x0, .int s0] σ Q) ∧
  (∀ (X : tX) (d : Nat) (x0 : Nat) (x1 : Int32) (x2 : Int32) (s0 : Nat) (s1 : Int32) (T : tT) (I : tI) (J : tJ) (R : tR) (Q : tQ), Ex X d mX7_byLaw 103 [.ref x0, .int x1, .int x2] [.ref s0, .int s1] (T, I, J, R) Q = (T[s0]? = some (3, 7) ∧ Ex X d mX7_byLaw 106 [.ref x0, .int x1, .int x2] [.int (I s0 7), .int s1] (T, I, J, R) Q)) ∧
  (∀ (X : tX) (d : Nat) (x0 : Nat) (x1 : Int32) (x2 : Int32) (s0 : Int32) (s1 : Int32) (σ : rS) (Q : tQ), Ex X d mX7_byLaw 106 [.ref x0, .int x1, .int x2] [.int s0, .int s1] σ Q = (if s0 ≤ s1 then Ex X d mX7_byLaw 169 [.ref x0, .int x1, .int x2] [] σ Q else Ex X d mX7_byLaw 109 [.ref x0, .int x1, .int x2] [] σ Q)) := ⟨fun X d x0 x1 x2 σ Q => ex_P (i := .iload_n 2) (len := 1) (by decide +kernel) rfl,
  fun X d x0 x1 x2 s0 σ Q => ex_P (i := .aload_n 0) (len := 1) (by decide +kernel) rfl,
  fun X d x0 x1 x2 s0 s1 T I J R Q => q_getI (k := 200) (by decide +kernel) rfl rfl (by decide),
  fun X d x0 x1 x2 s0 s1 σ Q => q_icmp_ge (o := 63) (by decide +kernel) rfl⟩
set_option maxRecDepth 50000 in
theorem gX7_byLaw_109 : (∀ (X : tX) (d : Nat) (x0 : Nat) (x1 : Int32) (x2 : Int32) (σ : rS) (Q : tQ), Ex X d mX7_byLaw 109 [.ref x0, .int x1, .int x2] [] σ Q = Ex X d mX7_byLaw 110 [.ref x0, .int x1, .int x2] [.ref x0] σ Q) ∧
  (∀ (X : tX) (d : Nat) (x0 : Nat) (x1 : Int32) (x2 : Int32) (s0 : Nat) (T : tT) (I : tI) (J : tJ) (R : tR) (Q : tQ), Ex X d mX7_byLaw 110 [.ref x0, .int x1, .int x2] [.ref s0] (T, I, J, R) Q = (T[s0]? = some (3, 7) ∧ Ex X d mX7_byLaw 113 [.ref x0, .int x1, .int x2] [va_rf (R s0 9)] (T, I, J, R) Q)) ∧
  (∀ (X : tX) (d : Nat) (x0 : Nat) (x1 : Int32) (x2 : Int32) (s0 : Nat) (σ : rS) (Q : tQ), Ex X d mX7_byLaw 113 [.ref x0, .int x1, .int x2] [.ref s0] σ Q = Ex X d mX7_byLaw 114 [.ref x0, .int x1, .int x2] [.int x2, .ref s0] σ Q) ∧
  (∀ (X : tX) (d : Nat) (x0 : Nat) (x1 : Int32) (x2 : Int32) (s0 : Int32) (s1 : Nat) (T : tT) (I : tI) (J : tJ) (R : tR) (Q : tQ), Ex X d mX7_byLaw 114 [.ref x0, .int x1, .int x2] [.int s0, .ref s1] (T, I, J, R) Q = (rIn T s1 0 s0 ∧ Ex X d mX7_byLaw 115 [.ref x0, .int x1, .int x2] [.int (I s1 s0.toNatClampNeg)] (T, I, J, R) Q)) ∧
  (∀ (X : tX) (d : Nat) (x0 : Nat) (x1 : Int32) (x2 : Int32) (s0 : Int32) (σ : rS) (Q : tQ), Ex X d mX7_byLaw 115 [.ref x0, .int x1, .int x2] [.int s0] σ Q = Ex X d mX7_byLaw 116 [.ref x0, .int x1, .int x2] [.ref x0, .int s0] σ Q) ∧
  (∀ (X : tX) (d : Nat) (x0 : Nat) (x1 : Int32) (x2 : Int32) (s0 : Nat) (s1 : Int32) (T : tT) (I : tI) (J : tJ) (R : tR) (Q : tQ), Ex X d mX7_byLaw 116 [.ref x0, .int x1, .int x2] [.ref s0, .int s1] (T, I, J, R) Q = (T[s0]? = some (3, 7) ∧ Ex X d mX7_byLaw 119 [.ref x0, .int x1, .int x2] [va_rf (R s0 8), .int s1] (T, I, J, R) Q)) ∧
  (∀ (X : tX) (d : Nat) (x0 : Nat) (x1 : Int32) (x2 : Int32) (s0 : Nat) (s1 : Int32) (σ : rS) (Q : tQ), Ex X d mX7_byLaw 119 [.ref x0, .int x1, .int x2] [.ref s0, .int s1] σ Q = Ex X d mX7_byLaw 120 [.ref x0, .int x1, .int x2] [.int x2, .ref s0, .int s1] σ Q) ∧
  (∀ (X : tX) (d : Nat) (x0 : Nat) (x1 : Int32) (x2 : Int32) (s0 : Int32) (s1 : Nat) (s2 : Int32) (T : tT) (I : tI) (J : tJ) (R : tR) (Q : tQ), Ex X d mX7_byLaw 120 [.ref x0, .int x1, .int x2] [.int s0, .ref s1, .int s2] (T, I, J, R) Q = (rIn T s1 0 s0 ∧ Ex X d mX7_byLaw 121 [.ref x0, .int x1, .int x2] [.int (I s1 s0.toNatClampNeg), .int s2] (T, I, J, R) Q)) ∧
  (∀ (X : tX) (d : Nat) (x0 : Nat) (x1 : Int32) (x2 : Int32) (s0 : Int32) (s1 : Int32) (σ : rS) (Q : tQ), Ex X d mX7_byLaw 121 [.ref x0, .int x1, .int x2] [.int s0, .int s1] σ Q = (if s1 ≤ s0 then Ex X d mX7_byLaw 146 [.ref x0, .int x1, .int x2] [] σ Q else Ex X d mX7_byLaw 124 [.ref x0, .int x1, .int x2] [] σ Q)) := ⟨fun X d x0 x1 x2 σ Q => ex_P (i := .aload_n 0) (len := 1) (by decide +kernel) rfl,
  fun X d x0 x1 x2 s0 T I J R Q => q_getR (k := 27) (by decide +kernel) rfl rfl,
  fun X d x0 x1 x2 s0 σ Q => ex_P (i := .iload_n 2) (len := 1) (by decide +kernel) rfl,
  fun X d x0 x1 x2 s0 s1 T I J R Q => q_iald (by decide +kernel),
  fun X d x0 x1 x2 s0 σ Q => ex_P (i := .aload_n 0) (len := 1) (by decide +kernel) rfl,
  fun X d x0 x1 x2 s0 s1 T I J R Q => q_getR (k := 24) (by decide +kernel) rfl rfl,
  fun X d x0 x1 x2 s0 s1 σ Q => ex_P (i := .iload_n 2) (len := 1) (by decide +kernel) rfl,
  fun X d x0 x1 x2 s0 s1 s2 T I J R Q => q_iald (by decide +kernel),
  fun X d x0 x1 x2 s0 s1 σ Q => q_icmp_le (o := 25) (by decide +kernel) rfl⟩
set_option maxRecDepth 50000 in
theorem gX7_byLaw_124 : (∀ (X : tX) (d : Nat) (x0 : Nat) (x1 : Int32) (x2 : Int32) (σ : rS) (Q : tQ), Ex X d mX7_byLaw 124 [.ref x0, .int x1, .int x2] [] σ Q = Ex X d mX7_byLaw 125 [.ref x0, .int x1, .int x2] [.ref x0] σ Q) ∧
  (∀ (X : tX) (d : Nat) (x0 : Nat) (x1 : Int32) (x2 : Int32) (s0 : Nat) (σ : rS) (Q : tQ), Ex X d mX7_byLaw 125 [.ref x0, .int x1, .int x2] [.ref s0] σ Q = Ex X d mX7_byLaw 126 [.ref x0, .int x1, .int x2] [.ref x0, .ref s0] σ Q) ∧
  (∀ (X : tX) (d : Nat) (x0 : Nat) (x1 : Int32) (x2 : Int32) (s0 : Nat) (s1 : Nat) (T : tT) (I : tI) (J : tJ) (R : tR) (Q : tQ), Ex X d mX7_byLaw 126 [.ref x0, .int x1, .int x2] [.ref s0, .ref s1] (T, I, J, R) Q = (T[s0]? = some (3, 7) ∧ Ex X d mX7_byLaw 129 [.ref x0, .int x1, .int x2] [va_rf (R s0 8), .ref s1] (T, I, J, R) Q)) ∧
  (∀ (X : tX) (d : Nat) (x0 : Nat) (x1 : Int32) (x2 : Int32) (s0 : Nat) (s1 : Nat) (σ : rS) (Q : tQ), Ex X d mX7_byLaw 129 [.ref x0, .int x1, .int x2] [.ref s0, .ref s1] σ Q = Ex X d mX7_byLaw 130 [.ref x0, .int x1, .int x2] [.int x2, .ref s0, .ref s1] σ Q) ∧
  (∀ (X : tX) (d : Nat) (x0 : Nat) (x1 : Int32) (x2 : Int32) (s0 : Int32) (s1 : Nat) (s2 : Nat) (T : tT) (I : tI) (J : tJ) (R : tR) (Q : tQ), Ex X d mX7_byLaw 130 [.ref x0, .int x1, .int x2] [.int s0, .ref s1, .ref s2] (T, I, J, R) Q = (rIn T s1 0 s0 ∧ Ex X d mX7_byLaw 131 [.ref x0, .int x1, .int x2] [.int (I s1 s0.toNatClampNeg), .ref s2] (T, I, J, R) Q)) ∧
  (∀ (X : tX) (d : Nat) (x0 : Nat) (x1 : Int32) (x2 : Int32) (s0 : Int32) (s1 : Nat) (σ : rS) (Q : tQ), Ex X d mX7_byLaw 131 [.ref x0, .int x1, .int x2] [.int s0, .ref s1] σ Q = Ex X d mX7_byLaw 132 [.ref x0, .int x1, .int x2] [.ref x0, .int s0, .ref s1] σ Q) ∧
  (∀ (X : tX) (d : Nat) (x0 : Nat) (x1 : Int32) (x2 : Int32) (s0 : Nat) (s1 : Int32) (s2 : Nat) (T : tT) (I : tI) (J : tJ) (R : tR) (Q : tQ), Ex X d mX7_byLaw 132 [.ref x0, .int x1, .int x2] [.ref s0, .int s1, .ref s2] (T, I, J, R) Q = (T[s0]? = some (3, 7) ∧ Ex X d mX7_byLaw 135 [.ref x0, .int x1, .int x2] [va_rf (R s0 9), .int s1, .ref s2] (T, I, J, R) Q)) ∧
  (∀ (X : tX) (d : Nat) (x0 : Nat) (x1 : Int32) (x2 : Int32) (s0 : Nat) (s1 : Int32) (s2 : Nat) (σ : rS) (Q : tQ), Ex X d mX7_byLaw 135 [.ref x0, .int x1, .int x2] [.ref s0, .int s1, .ref s2] σ Q = Ex X d mX7_byLaw 136 [.ref x0, .int x1, .int x2] [.int x2, .ref s0, .int s1, .ref s2] σ Q) ∧
  (∀ (X : tX) (d : Nat) (x0 : Nat) (x1 : Int32) (x2 : Int32) (s0 : Int32) (s1 : Nat) (s2 : Int32) (s3 : Nat) (T : tT) (I : tI) (J : tJ) (R : tR) (Q : tQ), Ex X d mX7_byLaw 136 [.ref x0, .int x1, .int x2] [.int s0, .ref s1, .int s2, .ref s3] (T, I, J, R) Q = (rIn T s1 0 s0 ∧ Ex X d mX7_byLaw 137 [.ref x0, .int x1, .int x2] [.int (I s1 s0.toNatClampNeg), .int s2, .ref s3] (T, I, J, R) Q)) ∧
  (∀ (X : tX) (d : Nat) (x0 : Nat) (x1 : Int32) (x2 : Int32) (s0 : Int32) (s1 : Int32) (s2 : Nat) (T : tT) (I : tI) (J : tJ) (R : tR) (Q : tQ), Ex X (d + 1) mX7_byLaw 137 [.ref x0, .int x1, .int x2] [.int s0, .int s1, .ref s2] (T, I, J, R) Q = (T[s2]? = some (3, 7) ∧ Ex X d mX7_worked 0 [.ref s2, .int s1, .int s0, rU, rU, rU] [] (T, I, J, R) (fun v σ1 => Ex X (d + 1) mX7_byLaw 140 [.ref x0, .int x1, .int x2] (v.toList ++ []) σ1 Q))) := ⟨fun X d x0 x1 x2 σ Q => ex_P (i := .aload_n 0) (len := 1) (by decide +kernel) rfl,
  fun X d x0 x1 x2 s0 σ Q => ex_P (i := .aload_n 0) (len := 1) (by decide +kernel) rfl,
  fun X d x0 x1 x2 s0 s1 T I J R Q => q_getR (k := 24) (by decide +kernel) rfl rfl,
  fun X d x0 x1 x2 s0 s1 σ Q => ex_P (i := .iload_n 2) (len := 1) (by decide +kernel) rfl,
  fun X d x0 x1 x2 s0 s1 s2 T I J R Q => q_iald (by decide +kernel),
  fun X d x0 x1 x2 s0 s1 σ Q => ex_P (i := .aload_n 0) (len := 1) (by decide +kernel) rfl,
  fun X d x0 x1 x2 s0 s1 s2 T I J R Q => q_getR (k := 27) (by decide +kernel) rfl rfl,
  fun X d x0 x1 x2 s0 s1 s2 σ Q => ex_P (i := .iload_n 2) (len := 1) (by decide +kernel) rfl,
  fun X d x0 x1 x2 s0 s1 s2 s3 T I J R Q => q_iald (by decide +kernel),
  fun X d x0 x1 x2 s0 s1 s2 T I J R Q => q_callV (k := 206) (as := [.int s1, .int s0]) (st := []) (show rlk mX7_byLaw.2.2.2.2.2.2 137 = some (.invokevirtual 206, 3) from by decide +kernel) rfl rfl rfl (Nat.le_of_ble_eq_true rfl) (Nat.le_of_ble_eq_true rfl) rfl⟩
set_option maxRecDepth 50000 in
theorem gX7_byLaw_140 : (∀ (X : tX) (d : Nat) (x0 : Nat) (x1 : Int32) (x2 : Int32) (s0 : Int32) (σ : rS) (Q : tQ), Ex X d mX7_byLaw 140 [.ref x0, .int x1, .int x2] [.int s0] σ Q = (if s0 = 0 then Ex X d mX7_byLaw 143 [.ref x0, .int x1, .int x2] [] σ Q else Ex X d mX7_byLaw 146 [.ref x0, .int x1, .int x2] [] σ Q)) := fun X d x0 x1 x2 s0 σ Q => q_if_ne (o := 6) (by decide +kernel) rfl
set_option maxRecDepth 50000 in
theorem gX7_byLaw_143 : (∀ (X : tX) (d : Nat) (x0 : Nat) (x1 : Int32) (x2 : Int32) (σ : rS) (Q : tQ), Ex X d mX7_byLaw 143 [.ref x0, .int x1, .int x2] [] σ Q = Ex X d mX7_byLaw 163 [.ref x0, .int x1, .int x2] [] σ Q) := fun X d x0 x1 x2 σ Q => q_goto (o := 20) (by decide +kernel) rfl
set_option maxRecDepth 50000 in
theorem gX7_byLaw_146 : (∀ (X : tX) (d : Nat) (x0 : Nat) (x1 : Int32) (x2 : Int32) (σ : rS) (Q : tQ), Ex X d mX7_byLaw 146 [.ref x0, .int x1, .int x2] [] σ Q = Ex X d mX7_byLaw 147 [.ref x0, .int x1, .int x2] [.ref x0] σ Q) ∧
  (∀ (X : tX) (d : Nat) (x0 : Nat) (x1 : Int32) (x2 : Int32) (s0 : Nat) (σ : rS) (Q : tQ), Ex X d mX7_byLaw 147 [.ref x0, .int x1, .int x2] [.ref s0] σ Q = Ex X d mX7_byLaw 148 [.ref x0, .int x1, .int x2] [.ref x0, .ref s0] σ Q) ∧
  (∀ (X : tX) (d : Nat) (x0 : Nat) (x1 : Int32) (x2 : Int32) (s0 : Nat) (s1 : Nat) (T : tT) (I : tI) (J : tJ) (R : tR) (Q : tQ), Ex X d mX7_byLaw 148 [.ref x0, .int x1, .int x2] [.ref s0, .ref s1] (T, I, J, R) Q = (T[s0]? = some (3, 7) ∧ Ex X d mX7_byLaw 151 [.ref x0, .int x1, .int x2] [va_rf (R s0 9), .ref s1] (T, I, J, R) Q)) ∧
  (∀ (X : tX) (d : Nat) (x0 : Nat) (x1 : Int32) (x2 : Int32) (s0 : Nat) (s1 : Nat) (σ : rS) (Q : tQ), Ex X d mX7_byLaw 151 [.ref x0, .int x1, .int x2] [.ref s0, .ref s1] σ Q = Ex X d mX7_byLaw 152 [.ref x0, .int x1, .int x2] [.int x2, .ref s0, .ref s1] σ Q) ∧
  (∀ (X : tX) (d : Nat) (x0 : Nat) (x1 : Int32) (x2 : Int32) (s0 : Int32) (s1 : Nat) (s2 : Nat) (T : tT) (I : tI) (J : tJ) (R : tR) (Q : tQ), Ex X d mX7_byLaw 152 [.ref x0, .int x1, .int x2] [.int s0, .ref s1, .ref s2] (T, I, J, R) Q = (rIn T s1 0 s0 ∧ Ex X d mX7_byLaw 153 [.ref x0, .int x1, .int x2] [.int (I s1 s0.toNatClampNeg), .ref s2] (T, I, J, R) Q)) ∧
  (∀ (X : tX) (d : Nat) (x0 : Nat) (x1 : Int32) (x2 : Int32) (s0 : Int32) (s1 : Nat) (σ : rS) (Q : tQ), Ex X d mX7_byLaw 153 [.ref x0, .int x1, .int x2] [.int s0, .ref s1] σ Q = Ex X d mX7_byLaw 154 [.ref x0, .int x1, .int x2] [.ref x0, .int s0, .ref s1] σ Q) ∧
  (∀ (X : tX) (d : Nat) (x0 : Nat) (x1 : Int32) (x2 : Int32) (s0 : Nat) (s1 : Int32) (s2 : Nat) (T : tT) (I : tI) (J : tJ) (R : tR) (Q : tQ), Ex X d mX7_byLaw 154 [.ref x0, .int x1, .int x2] [.ref s0, .int s1, .ref s2] (T, I, J, R) Q = (T[s0]? = some (3, 7) ∧ Ex X d mX7_byLaw 157 [.ref x0, .int x1, .int x2] [va_rf (R s0 10), .int s1, .ref s2] (T, I, J, R) Q)) ∧
  (∀ (X : tX) (d : Nat) (x0 : Nat) (x1 : Int32) (x2 : Int32) (s0 : Nat) (s1 : Int32) (s2 : Nat) (σ : rS) (Q : tQ), Ex X d mX7_byLaw 157 [.ref x0, .int x1, .int x2] [.ref s0, .int s1, .ref s2] σ Q = Ex X d mX7_byLaw 158 [.ref x0, .int x1, .int x2] [.int x2, .ref s0, .int s1, .ref s2] σ Q) ∧
  (∀ (X : tX) (d : Nat) (x0 : Nat) (x1 : Int32) (x2 : Int32) (s0 : Int32) (s1 : Nat) (s2 : Int32) (s3 : Nat) (T : tT) (I : tI) (J : tJ) (R : tR) (Q : tQ), Ex X d mX7_byLaw 158 [.ref x0, .int x1, .int x2] [.int s0, .ref s1, .int s2, .ref s3] (T, I, J, R) Q = (rIn T s1 0 s0 ∧ Ex X d mX7_byLaw 159 [.ref x0, .int x1, .int x2] [.int (I s1 s0.toNatClampNeg), .int s2, .ref s3] (T, I, J, R) Q)) ∧
  (∀ (X : tX) (d : Nat) (x0 : Nat) (x1 : Int32) (x2 : Int32) (s0 : Int32) (s1 : Int32) (s2 : Nat) (T : tT) (I : tI) (J : tJ) (R : tR) (Q : tQ), Ex X (d + 1) mX7_byLaw 159 [.ref x0, .int x1, .int x2] [.int s0, .int s1, .ref s2] (T, I, J, R) Q = (T[s2]? = some (3, 7) ∧ Ex X d mX7_worked 0 [.ref s2, .int s1, .int s0, rU, rU, rU] [] (T, I, J, R) (fun v σ1 => Ex X (d + 1) mX7_byLaw 162 [.ref x0, .int x1, .int x2] (v.toList ++ []) σ1 Q))) := ⟨fun X d x0 x1 x2 σ Q => ex_P (i := .aload_n 0) (len := 1) (by decide +kernel) rfl,
  fun X d x0 x1 x2 s0 σ Q => ex_P (i := .aload_n 0) (len := 1) (by decide +kernel) rfl,
  fun X d x0 x1 x2 s0 s1 T I J R Q => q_getR (k := 27) (by decide +kernel) rfl rfl,
  fun X d x0 x1 x2 s0 s1 σ Q => ex_P (i := .iload_n 2) (len := 1) (by decide +kernel) rfl,
  fun X d x0 x1 x2 s0 s1 s2 T I J R Q => q_iald (by decide +kernel),
  fun X d x0 x1 x2 s0 s1 σ Q => ex_P (i := .aload_n 0) (len := 1) (by decide +kernel) rfl,
  fun X d x0 x1 x2 s0 s1 s2 T I J R Q => q_getR (k := 30) (by decide +kernel) rfl rfl,
  fun X d x0 x1 x2 s0 s1 s2 σ Q => ex_P (i := .iload_n 2) (len := 1) (by decide +kernel) rfl,
  fun X d x0 x1 x2 s0 s1 s2 s3 T I J R Q => q_iald (by decide +kernel),
  fun X d x0 x1 x2 s0 s1 s2 T I J R Q => q_callV (k := 206) (as := [.int s1, .int s0]) (st := []) (show rlk mX7_byLaw.2.2.2.2.2.2 159 = some (.invokevirtual 206, 3) from by decide +kernel) rfl rfl rfl (Nat.le_of_ble_eq_true rfl) (Nat.le_of_ble_eq_true rfl) rfl⟩
set_option maxRecDepth 50000 in
theorem gX7_byLaw_162 : (∀ (X : tX) (d : Nat) (x0 : Nat) (x1 : Int32) (x2 : Int32) (s0 : Int32) (σ : rS) (Q : tQ), Ex X d mX7_byLaw 162 [.ref x0, .int x1, .int x2] [.int s0] σ Q = Q (some (.int s0)) σ) := fun X d x0 x1 x2 s0 σ Q => q_retI (by decide +kernel) rfl
set_option maxRecDepth 50000 in
theorem gX7_byLaw_163 : (∀ (X : tX) (d : Nat) (x0 : Nat) (x1 : Int32) (x2 : Int32) (σ : rS) (Q : tQ), Ex X d mX7_byLaw 163 [.ref x0, .int x1, .int x2] [] σ Q = Ex X d mX7_byLaw 166 [.ref x0, .int x1, .int (x2 + 1)] [] σ Q) ∧
  (∀ (X : tX) (d : Nat) (x0 : Nat) (x1 : Int32) (x2 : Int32) (σ : rS) (Q : tQ), Ex X d mX7_byLaw 166 [.ref x0, .int x1, .int x2] [] σ Q = Ex X d mX7_byLaw 101 [.ref x0, .int x1, .int x2] [] σ Q) := ⟨fun X d x0 x1 x2 σ Q => ex_P (i := .iinc 2 1) (len := 3) (by decide +kernel) rfl,
  fun X d x0 x1 x2 σ Q => q_goto (o := (-65)) (by decide +kernel) rfl⟩
set_option maxRecDepth 50000 in
theorem gX7_byLaw_169 : (∀ (X : tX) (d : Nat) (x0 : Nat) (x1 : Int32) (x2 : Int32) (σ : rS) (Q : tQ), Ex X d mX7_byLaw 169 [.ref x0, .int x1, .int x2] [] σ Q = Ex X d mX7_byLaw 170 [.ref x0, .int x1, .int x2] [.int 0] σ Q) ∧
  (∀ (X : tX) (d : Nat) (x0 : Nat) (x1 : Int32) (x2 : Int32) (s0 : Int32) (σ : rS) (Q : tQ), Ex X d mX7_byLaw 170 [.ref x0, .int x1, .int x2] [.int s0] σ Q = Q (some (.int s0)) σ) := ⟨fun X d x0 x1 x2 σ Q => ex_P (i := .iconst 0) (len := 1) (by decide +kernel) rfl,
  fun X d x0 x1 x2 s0 σ Q => q_retI (by decide +kernel) rfl⟩
set_option maxRecDepth 50000 in
theorem gX7_goesFrom_0 : (∀ (X : tX) (d : Nat) (x0 : Nat) (x1 : Int32) (σ : rS) (Q : tQ), Ex X d mX7_goesFrom 0 [.ref x0, .int x1, rU] [] σ Q = Ex X d mX7_goesFrom 1 [.ref x0, .int x1, rU] [.ref x0] σ Q) ∧
  (∀ (X : tX) (d : Nat) (x0 : Nat) (x1 : Int32) (s0 : Nat) (T : tT) (I : tI) (J : tJ) (R : tR) (Q : tQ), Ex X d mX7_goesFrom 1 [.ref x0, .int x1, rU] [.ref s0] (T, I, J, R) Q = (T[s0]? = some (3, 7) ∧ Ex X d mX7_goesFrom 4 [.ref x0, .int x1, rU] [.int (I s0 6)] (T, I, J, R) Q)) ∧
  (∀ (X : tX) (d : Nat) (x0 : Nat) (x1 : Int32) (s0 : Int32) (σ : rS) (Q : tQ), Ex X d mX7_goesFrom 4 [.ref x0, .int x1, rU] [.int s0] σ Q = (if s0 = 0 then Ex X d mX7_goesFrom 15 [.ref x0, .int x1, rU] [] σ Q else Ex X d mX7_goesFrom 7 [.ref x0, .int x1, rU] [] σ Q)) := ⟨fun X d x0 x1 σ Q => ex_P (i := .aload_n 0) (len := 1) (by decide +kernel) rfl,
  fun X d x0 x1 s0 T I J R Q => q_getI (k := 196) (by decide +kernel) rfl rfl (by decide),
  fun X d x0 x1 s0 σ Q => q_if_eq (o := 11) (by decide +kernel) rfl⟩
set_option maxRecDepth 50000 in
theorem gX7_goesFrom_7 : (∀ (X : tX) (d : Nat) (x0 : Nat) (x1 : Int32) (σ : rS) (Q : tQ), Ex X d mX7_goesFrom 7 [.ref x0, .int x1, rU] [] σ Q = Ex X d mX7_goesFrom 8 [.ref x0, .int x1, rU] [.ref x0] σ Q) ∧
  (∀ (X : tX) (d : Nat) (x0 : Nat) (x1 : Int32) (s0 : Nat) (σ : rS) (Q : tQ), Ex X d mX7_goesFrom 8 [.ref x0, .int x1, rU] [.ref s0] σ Q = Ex X d mX7_goesFrom 9 [.ref x0, .int x1, rU] [.int x1, .ref s0] σ Q) ∧
  (∀ (X : tX) (d : Nat) (x0 : Nat) (x1 : Int32) (s0 : Int32) (s1 : Nat) (T : tT) (I : tI) (J : tJ) (R : tR) (Q : tQ), Ex X (d + 1) mX7_goesFrom 9 [.ref x0, .int x1, rU] [.int s0, .ref s1] (T, I, J, R) Q = (T[s1]? = some (3, 7) ∧ Ex X d mX7_byLaw 0 [.ref s1, .int s0, rU] [] (T, I, J, R) (fun v σ1 => Ex X (d + 1) mX7_goesFrom 12 [.ref x0, .int x1, rU] (v.toList ++ []) σ1 Q))) := ⟨fun X d x0 x1 σ Q => ex_P (i := .aload_n 0) (len := 1) (by decide +kernel) rfl,
  fun X d x0 x1 s0 σ Q => ex_P (i := .iload_n 1) (len := 1) (by decide +kernel) rfl,
  fun X d x0 x1 s0 s1 T I J R Q => q_callV (k := 209) (as := [.int s0]) (st := []) (show rlk mX7_goesFrom.2.2.2.2.2.2 9 = some (.invokevirtual 209, 3) from by decide +kernel) rfl rfl rfl (Nat.le_of_ble_eq_true rfl) (Nat.le_of_ble_eq_true rfl) rfl⟩
set_option maxRecDepth 50000 in
theorem gX7_goesFrom_12 : (∀ (X : tX) (d : Nat) (x0 : Nat) (x1 : Int32) (s0 : Int32) (σ : rS) (Q : tQ), Ex X d mX7_goesFrom 12 [.ref x0, .int x1, rU] [.int s0] σ Q = Ex X d mX7_goesFrom 47 [.ref x0, .int x1, rU] [.int s0] σ Q) := fun X d x0 x1 s0 σ Q => q_goto (o := 35) (by decide +kernel) rfl
set_option maxRecDepth 50000 in
theorem gX7_goesFrom_15 : (∀ (X : tX) (d : Nat) (x0 : Nat) (x1 : Int32) (σ : rS) (Q : tQ), Ex X d mX7_goesFrom 15 [.ref x0, .int x1, rU] [] σ Q = Ex X d mX7_goesFrom 16 [.ref x0, .int x1, rU] [.ref x0] σ Q) ∧
  (∀ (X : tX) (d : Nat) (x0 : Nat) (x1 : Int32) (s0 : Nat) (T : tT) (I : tI) (J : tJ) (R : tR) (Q : tQ), Ex X d mX7_goesFrom 16 [.ref x0, .int x1, rU] [.ref s0] (T, I, J, R) Q = (T[s0]? = some (3, 7) ∧ Ex X d mX7_goesFrom 19 [.ref x0, .int x1, rU] [va_rf (R s0 1)] (T, I, J, R) Q)) ∧
  (∀ (X : tX) (d : Nat) (x0 : Nat) (x1 : Int32) (s0 : Nat) (σ : rS) (Q : tQ), Ex X d mX7_goesFrom 19 [.ref x0, .int x1, rU] [.ref s0] σ Q = Ex X d mX7_goesFrom 20 [.ref x0, .int x1, rU] [.int x1, .ref s0] σ Q) ∧
  (∀ (X : tX) (d : Nat) (x0 : Nat) (x1 : Int32) (s0 : Int32) (s1 : Nat) (T : tT) (I : tI) (J : tJ) (R : tR) (Q : tQ), Ex X d mX7_goesFrom 20 [.ref x0, .int x1, rU] [.int s0, .ref s1] (T, I, J, R) Q = (rIn T s1 0 s0 ∧ Ex X d mX7_goesFrom 21 [.ref x0, .int x1, rU] [.int (I s1 s0.toNatClampNeg)] (T, I, J, R) Q)) ∧
  (∀ (X : tX) (d : Nat) (x0 : Nat) (x1 : Int32) (s0 : Int32) (σ : rS) (Q : tQ), Ex X d mX7_goesFrom 21 [.ref x0, .int x1, rU] [.int s0] σ Q = Ex X d mX7_goesFrom 22 [.ref x0, .int x1, rU] [.int 5, .int s0] σ Q) ∧
  (∀ (X : tX) (d : Nat) (x0 : Nat) (x1 : Int32) (s0 : Int32) (s1 : Int32) (σ : rS) (Q : tQ), Ex X d mX7_goesFrom 22 [.ref x0, .int x1, rU] [.int s0, .int s1] σ Q = (¬ s0 = 0 ∧ Ex X d mX7_goesFrom 23 [.ref x0, .int x1, rU] [.int (s1 / s0)] σ Q)) ∧
  (∀ (X : tX) (d : Nat) (x0 : Nat) (x1 : Int32) (s0 : Int32) (σ : rS) (Q : tQ), Ex X d mX7_goesFrom 23 [.ref x0, .int x1, rU] [.int s0] σ Q = Ex X d mX7_goesFrom 24 [.ref x0, .int x1, rU] [.int 2, .int s0] σ Q) ∧
  (∀ (X : tX) (d : Nat) (x0 : Nat) (x1 : Int32) (s0 : Int32) (s1 : Int32) (σ : rS) (Q : tQ), Ex X d mX7_goesFrom 24 [.ref x0, .int x1, rU] [.int s0, .int s1] σ Q = Ex X d mX7_goesFrom 25 [.ref x0, .int x1, rU] [.ref x0, .int s0, .int s1] σ Q) ∧
  (∀ (X : tX) (d : Nat) (x0 : Nat) (x1 : Int32) (s0 : Nat) (s1 : Int32) (s2 : Int32) (T : tT) (I : tI) (J : tJ) (R : tR) (Q : tQ), Ex X d mX7_goesFrom 25 [.ref x0, .int x1, rU] [.ref s0, .int s1, .int s2] (T, I, J, R) Q = (T[s0]? = some (3, 7) ∧ Ex X d mX7_goesFrom 28 [.ref x0, .int x1, rU] [va_rf (R s0 1), .int s1, .int s2] (T, I, J, R) Q)) ∧
  (∀ (X : tX) (d : Nat) (x0 : Nat) (x1 : Int32) (s0 : Nat) (s1 : Int32) (s2 : Int32) (σ : rS) (Q : tQ), Ex X d mX7_goesFrom 28 [.ref x0, .int x1, rU] [.ref s0, .int s1, .int s2] σ Q = Ex X d mX7_goesFrom 30 [.ref x0, .int x1, rU] [.int 16, .ref s0, .int s1, .int s2] σ Q) ∧
  (∀ (X : tX) (d : Nat) (x0 : Nat) (x1 : Int32) (s0 : Int32) (s1 : Nat) (s2 : Int32) (s3 : Int32) (σ : rS) (Q : tQ), Ex X d mX7_goesFrom 30 [.ref x0, .int x1, rU] [.int s0, .ref s1, .int s2, .int s3] σ Q = Ex X d mX7_goesFrom 31 [.ref x0, .int x1, rU] [.int x1, .int s0, .ref s1, .int s2, .int s3] σ Q) ∧
  (∀ (X : tX) (d : Nat) (x0 : Nat) (x1 : Int32) (s0 : Int32) (s1 : Int32) (s2 : Nat) (s3 : Int32) (s4 : Int32) (σ : rS) (Q : tQ), Ex X d mX7_goesFrom 31 [.ref x0, .int x1, rU] [.int s0, .int s1, .ref s2, .int s3, .int s4] σ Q = Ex X d mX7_goesFrom 32 [.ref x0, .int x1, rU] [.int (s1 + s0), .ref s2, .int s3, .int s4] σ Q) ∧
  (∀ (X : tX) (d : Nat) (x0 : Nat) (x1 : Int32) (s0 : Int32) (s1 : Nat) (s2 : Int32) (s3 : Int32) (T : tT) (I : tI) (J : tJ) (R : tR) (Q : tQ), Ex X d mX7_goesFrom 32 [.ref x0, .int x1, rU] [.int s0, .ref s1, .int s2, .int s3] (T, I, J, R) Q = (rIn T s1 0 s0 ∧ Ex X d mX7_goesFrom 33 [.ref x0, .int x1, rU] [.int (I s1 s0.toNatClampNeg), .int s2, .int s3] (T, I, J, R) Q)) ∧
  (∀ (X : tX) (d : Nat) (x0 : Nat) (x1 : Int32) (s0 : Int32) (s1 : Int32) (s2 : Int32) (σ : rS) (Q : tQ), Ex X d mX7_goesFrom 33 [.ref x0, .int x1, rU] [.int s0, .int s1, .int s2] σ Q = Ex X d mX7_goesFrom 34 [.ref x0, .int x1, rU] [.int (s1 * s0), .int s2] σ Q) ∧
  (∀ (X : tX) (d : Nat) (x0 : Nat) (x1 : Int32) (s0 : Int32) (s1 : Int32) (σ : rS) (Q : tQ), Ex X d mX7_goesFrom 34 [.ref x0, .int x1, rU] [.int s0, .int s1] σ Q = Ex X d mX7_goesFrom 35 [.ref x0, .int x1, rU] [.int (s1 - s0)] σ Q) ∧
  (∀ (X : tX) (d : Nat) (x0 : Nat) (x1 : Int32) (s0 : Int32) (σ : rS) (Q : tQ), Ex X d mX7_goesFrom 35 [.ref x0, .int x1, rU] [.int s0] σ Q = Ex X d mX7_goesFrom 36 [.ref x0, .int x1, rU] [.ref x0, .int s0] σ Q) ∧
  (∀ (X : tX) (d : Nat) (x0 : Nat) (x1 : Int32) (s0 : Nat) (s1 : Int32) (T : tT) (I : tI) (J : tJ) (R : tR) (Q : tQ), Ex X d mX7_goesFrom 36 [.ref x0, .int x1, rU] [.ref s0, .int s1] (T, I, J, R) Q = (T[s0]? = some (3, 7) ∧ Ex X d mX7_goesFrom 39 [.ref x0, .int x1, rU] [va_rf (R s0 1), .int s1] (T, I, J, R) Q)) ∧
  (∀ (X : tX) (d : Nat) (x0 : Nat) (x1 : Int32) (s0 : Nat) (s1 : Int32) (σ : rS) (Q : tQ), Ex X d mX7_goesFrom 39 [.ref x0, .int x1, rU] [.ref s0, .int s1] σ Q = Ex X d mX7_goesFrom 41 [.ref x0, .int x1, rU] [.int 24, .ref s0, .int s1] σ Q) ∧
  (∀ (X : tX) (d : Nat) (x0 : Nat) (x1 : Int32) (s0 : Int32) (s1 : Nat) (s2 : Int32) (σ : rS) (Q : tQ), Ex X d mX7_goesFrom 41 [.ref x0, .int x1, rU] [.int s0, .ref s1, .int s2] σ Q = Ex X d mX7_goesFrom 42 [.ref x0, .int x1, rU] [.int x1, .int s0, .ref s1, .int s2] σ Q) ∧
  (∀ (X : tX) (d : Nat) (x0 : Nat) (x1 : Int32) (s0 : Int32) (s1 : Int32) (s2 : Nat) (s3 : Int32) (σ : rS) (Q : tQ), Ex X d mX7_goesFrom 42 [.ref x0, .int x1, rU] [.int s0, .int s1, .ref s2, .int s3] σ Q = Ex X d mX7_goesFrom 43 [.ref x0, .int x1, rU] [.int (s1 + s0), .ref s2, .int s3] σ Q) ∧
  (∀ (X : tX) (d : Nat) (x0 : Nat) (x1 : Int32) (s0 : Int32) (s1 : Nat) (s2 : Int32) (T : tT) (I : tI) (J : tJ) (R : tR) (Q : tQ), Ex X d mX7_goesFrom 43 [.ref x0, .int x1, rU] [.int s0, .ref s1, .int s2] (T, I, J, R) Q = (rIn T s1 0 s0 ∧ Ex X d mX7_goesFrom 44 [.ref x0, .int x1, rU] [.int (I s1 s0.toNatClampNeg), .int s2] (T, I, J, R) Q)) ∧
  (∀ (X : tX) (d : Nat) (x0 : Nat) (x1 : Int32) (s0 : Int32) (s1 : Int32) (σ : rS) (Q : tQ), Ex X d mX7_goesFrom 44 [.ref x0, .int x1, rU] [.int s0, .int s1] σ Q = Ex X d mX7_goesFrom 45 [.ref x0, .int x1, rU] [.int 3, .int s0, .int s1] σ Q) ∧
  (∀ (X : tX) (d : Nat) (x0 : Nat) (x1 : Int32) (s0 : Int32) (s1 : Int32) (s2 : Int32) (σ : rS) (Q : tQ), Ex X d mX7_goesFrom 45 [.ref x0, .int x1, rU] [.int s0, .int s1, .int s2] σ Q = (¬ s0 = 0 ∧ Ex X d mX7_goesFrom 46 [.ref x0, .int x1, rU] [.int (s1 / s0), .int s2] σ Q)) ∧
  (∀ (X : tX) (d : Nat) (x0 : Nat) (x1 : Int32) (s0 : Int32) (s1 : Int32) (σ : rS) (Q : tQ), Ex X d mX7_goesFrom 46 [.ref x0, .int x1, rU] [.int s0, .int s1] σ Q = Ex X d mX7_goesFrom 47 [.ref x0, .int x1, rU] [.int (s1 - s0)] σ Q) := ⟨fun X d x0 x1 σ Q => ex_P (i := .aload_n 0) (len := 1) (by decide +kernel) rfl,
  fun X d x0 x1 s0 T I J R Q => q_getR (k := 9) (by decide +kernel) rfl rfl,
  fun X d x0 x1 s0 σ Q => ex_P (i := .iload_n 1) (len := 1) (by decide +kernel) rfl,
  fun X d x0 x1 s0 s1 T I J R Q => q_iald (by decide +kernel),
  fun X d x0 x1 s0 σ Q => ex_P (i := .iconst 5) (len := 1) (by decide +kernel) rfl,
  fun X d x0 x1 s0 s1 σ Q => q_div (by decide +kernel),
  fun X d x0 x1 s0 σ Q => ex_P (i := .iconst 2) (len := 1) (by decide +kernel) rfl,
  fun X d x0 x1 s0 s1 σ Q => ex_P (i := .aload_n 0) (len := 1) (by decide +kernel) rfl,
  fun X d x0 x1 s0 s1 s2 T I J R Q => q_getR (k := 9) (by decide +kernel) rfl rfl,
  fun X d x0 x1 s0 s1 s2 σ Q => ex_P (i := .bipush 16) (len := 2) (by decide +kernel) rfl,
  fun X d x0 x1 s0 s1 s2 s3 σ Q => ex_P (i := .iload_n 1) (len := 1) (by decide +kernel) rfl,
  fun X d x0 x1 s0 s1 s2 s3 s4 σ Q => ex_P (i := .iadd) (len := 1) (by decide +kernel) rfl,
  fun X d x0 x1 s0 s1 s2 s3 T I J R Q => q_iald (by decide +kernel),
  fun X d x0 x1 s0 s1 s2 σ Q => ex_P (i := .imul) (len := 1) (by decide +kernel) rfl,
  fun X d x0 x1 s0 s1 σ Q => ex_P (i := .isub) (len := 1) (by decide +kernel) rfl,
  fun X d x0 x1 s0 σ Q => ex_P (i := .aload_n 0) (len := 1) (by decide +kernel) rfl,
  fun X d x0 x1 s0 s1 T I J R Q => q_getR (k := 9) (by decide +kernel) rfl rfl,
  fun X d x0 x1 s0 s1 σ Q => ex_P (i := .bipush 24) (len := 2) (by decide +kernel) rfl,
  fun X d x0 x1 s0 s1 s2 σ Q => ex_P (i := .iload_n 1) (len := 1) (by decide +kernel) rfl,
  fun X d x0 x1 s0 s1 s2 s3 σ Q => ex_P (i := .iadd) (len := 1) (by decide +kernel) rfl,
  fun X d x0 x1 s0 s1 s2 T I J R Q => q_iald (by decide +kernel),
  fun X d x0 x1 s0 s1 σ Q => ex_P (i := .iconst 3) (len := 1) (by decide +kernel) rfl,
  fun X d x0 x1 s0 s1 s2 σ Q => q_div (by decide +kernel),
  fun X d x0 x1 s0 s1 σ Q => ex_P (i := .isub) (len := 1) (by decide +kernel) rfl⟩
set_option maxRecDepth 50000 in
theorem gX7_goesFrom_47 : (∀ (X : tX) (d : Nat) (x0 : Nat) (x1 : Int32) (s0 : Int32) (σ : rS) (Q : tQ), Ex X d mX7_goesFrom 47 [.ref x0, .int x1, rU] [.int s0] σ Q = Ex X d mX7_goesFrom 48 [.ref x0, .int x1, .int s0] [] σ Q) ∧
  (∀ (X : tX) (d : Nat) (x0 : Nat) (x1 : Int32) (x2 : Int32) (σ : rS) (Q : tQ), Ex X d mX7_goesFrom 48 [.ref x0, .int x1, .int x2] [] σ Q = Ex X d mX7_goesFrom 49 [.ref x0, .int x1, .int x2] [.int 0] σ Q) ∧
  (∀ (X : tX) (d : Nat) (x0 : Nat) (x1 : Int32) (x2 : Int32) (s0 : Int32) (σ : rS) (Q : tQ), Ex X d mX7_goesFrom 49 [.ref x0, .int x1, .int x2] [.int s0] σ Q = Ex X d mX7_goesFrom 51 [.ref x0, .int x1, .int x2] [.int 20, .int s0] σ Q) ∧
  (∀ (X : tX) (d : Nat) (x0 : Nat) (x1 : Int32) (x2 : Int32) (s0 : Int32) (s1 : Int32) (σ : rS) (Q : tQ), Ex X d mX7_goesFrom 51 [.ref x0, .int x1, .int x2] [.int s0, .int s1] σ Q = Ex X d mX7_goesFrom 52 [.ref x0, .int x1, .int x2] [.ref x0, .int s0, .int s1] σ Q) ∧
  (∀ (X : tX) (d : Nat) (x0 : Nat) (x1 : Int32) (x2 : Int32) (s0 : Nat) (s1 : Int32) (s2 : Int32) (T : tT) (I : tI) (J : tJ) (R : tR) (Q : tQ), Ex X d mX7_goesFrom 52 [.ref x0, .int x1, .int x2] [.ref s0, .int s1, .int s2] (T, I, J, R) Q = (T[s0]? = some (3, 7) ∧ Ex X d mX7_goesFrom 55 [.ref x0, .int x1, .int x2] [va_rf (R s0 1), .int s1, .int s2] (T, I, J, R) Q)) ∧
  (∀ (X : tX) (d : Nat) (x0 : Nat) (x1 : Int32) (x2 : Int32) (s0 : Nat) (s1 : Int32) (s2 : Int32) (σ : rS) (Q : tQ), Ex X d mX7_goesFrom 55 [.ref x0, .int x1, .int x2] [.ref s0, .int s1, .int s2] σ Q = Ex X d mX7_goesFrom 56 [.ref x0, .int x1, .int x2] [.int x1, .ref s0, .int s1, .int s2] σ Q) ∧
  (∀ (X : tX) (d : Nat) (x0 : Nat) (x1 : Int32) (x2 : Int32) (s0 : Int32) (s1 : Nat) (s2 : Int32) (s3 : Int32) (T : tT) (I : tI) (J : tJ) (R : tR) (Q : tQ), Ex X d mX7_goesFrom 56 [.ref x0, .int x1, .int x2] [.int s0, .ref s1, .int s2, .int s3] (T, I, J, R) Q = (rIn T s1 0 s0 ∧ Ex X d mX7_goesFrom 57 [.ref x0, .int x1, .int x2] [.int (I s1 s0.toNatClampNeg), .int s2, .int s3] (T, I, J, R) Q)) ∧
  (∀ (X : tX) (d : Nat) (x0 : Nat) (x1 : Int32) (x2 : Int32) (s0 : Int32) (s1 : Int32) (s2 : Int32) (T : tT) (I : tI) (J : tJ) (R : tR) (Q : tQ), Ex X (d + 1) mX7_goesFrom 57 [.ref x0, .int x1, .int x2] [.int s0, .int s1, .int s2] (T, I, J, R) Q = Ex X (d + 1) mX7_goesFrom 60 [.ref x0, .int x1, .int x2] [.int (if s0 < s1 then s0 else s1), .int s2] (T, I, J, R) Q) ∧
  (∀ (X : tX) (d : Nat) (x0 : Nat) (x1 : Int32) (x2 : Int32) (s0 : Int32) (s1 : Int32) (σ : rS) (Q : tQ), Ex X d mX7_goesFrom 60 [.ref x0, .int x1, .int x2] [.int s0, .int s1] σ Q = Ex X d mX7_goesFrom 61 [.ref x0, .int x1, .int x2] [.int x2, .int s0, .int s1] σ Q) ∧
  (∀ (X : tX) (d : Nat) (x0 : Nat) (x1 : Int32) (x2 : Int32) (s0 : Int32) (s1 : Int32) (s2 : Int32) (T : tT) (I : tI) (J : tJ) (R : tR) (Q : tQ), Ex X (d + 1) mX7_goesFrom 61 [.ref x0, .int x1, .int x2] [.int s0, .int s1, .int s2] (T, I, J, R) Q = Ex X (d + 1) mX7_goesFrom 64 [.ref x0, .int x1, .int x2] [.int (if s0 < s1 then s0 else s1), .int s2] (T, I, J, R) Q) ∧
  (∀ (X : tX) (d : Nat) (x0 : Nat) (x1 : Int32) (x2 : Int32) (s0 : Int32) (s1 : Int32) (T : tT) (I : tI) (J : tJ) (R : tR) (Q : tQ), Ex X (d + 1) mX7_goesFrom 64 [.ref x0, .int x1, .int x2] [.int s0, .int s1] (T, I, J, R) Q = Ex X (d + 1) mX7_goesFrom 67 [.ref x0, .int x1, .int x2] [.int (if s1 < s0 then s0 else s1)] (T, I, J, R) Q) ∧
  (∀ (X : tX) (d : Nat) (x0 : Nat) (x1 : Int32) (x2 : Int32) (s0 : Int32) (σ : rS) (Q : tQ), Ex X d mX7_goesFrom 67 [.ref x0, .int x1, .int x2] [.int s0] σ Q = Q (some (.int s0)) σ) := ⟨fun X d x0 x1 s0 σ Q => ex_P (i := .istore_n 2) (len := 1) (by decide +kernel) rfl,
  fun X d x0 x1 x2 σ Q => ex_P (i := .iconst 0) (len := 1) (by decide +kernel) rfl,
  fun X d x0 x1 x2 s0 σ Q => ex_P (i := .bipush 20) (len := 2) (by decide +kernel) rfl,
  fun X d x0 x1 x2 s0 s1 σ Q => ex_P (i := .aload_n 0) (len := 1) (by decide +kernel) rfl,
  fun X d x0 x1 x2 s0 s1 s2 T I J R Q => q_getR (k := 9) (by decide +kernel) rfl rfl,
  fun X d x0 x1 x2 s0 s1 s2 σ Q => ex_P (i := .iload_n 1) (len := 1) (by decide +kernel) rfl,
  fun X d x0 x1 x2 s0 s1 s2 s3 T I J R Q => q_iald (by decide +kernel),
  fun X d x0 x1 x2 s0 s1 s2 T I J R Q => q_min (k := 212) (by decide +kernel) rfl rfl (Nat.le_of_ble_eq_true rfl),
  fun X d x0 x1 x2 s0 s1 σ Q => ex_P (i := .iload_n 2) (len := 1) (by decide +kernel) rfl,
  fun X d x0 x1 x2 s0 s1 s2 T I J R Q => q_min (k := 212) (by decide +kernel) rfl rfl (Nat.le_of_ble_eq_true rfl),
  fun X d x0 x1 x2 s0 s1 T I J R Q => q_max (k := 217) (by decide +kernel) rfl (Nat.le_of_ble_eq_true rfl),
  fun X d x0 x1 x2 s0 σ Q => q_retI (by decide +kernel) rfl⟩
set_option maxRecDepth 50000 in
theorem gX7_goes_0 : (∀ (X : tX) (d : Nat) (x0 : Nat) (x1 : Int32) (σ : rS) (Q : tQ), Ex X d mX7_goes 0 [.ref x0, .int x1] [] σ Q = Ex X d mX7_goes 1 [.ref x0, .int x1] [.ref x0] σ Q) ∧
  (∀ (X : tX) (d : Nat) (x0 : Nat) (x1 : Int32) (s0 : Nat) (σ : rS) (Q : tQ), Ex X d mX7_goes 1 [.ref x0, .int x1] [.ref s0] σ Q = Ex X d mX7_goes 2 [.ref x0, .int x1] [.int x1, .ref s0] σ Q) ∧
  (∀ (X : tX) (d : Nat) (x0 : Nat) (x1 : Int32) (s0 : Int32) (s1 : Nat) (T : tT) (I : tI) (J : tJ) (R : tR) (Q : tQ), Ex X (d + 1) mX7_goes 2 [.ref x0, .int x1] [.int s0, .ref s1] (T, I, J, R) Q = (T[s1]? = some (3, 7) ∧ Ex X d mX7_isOne 0 [.ref s1, .int s0] [] (T, I, J, R) (fun v σ1 => Ex X (d + 1) mX7_goes 5 [.ref x0, .int x1] (v.toList ++ []) σ1 Q))) := ⟨fun X d x0 x1 σ Q => ex_P (i := .aload_n 0) (len := 1) (by decide +kernel) rfl,
  fun X d x0 x1 s0 σ Q => ex_P (i := .iload_n 1) (len := 1) (by decide +kernel) rfl,
  fun X d x0 x1 s0 s1 T I J R Q => q_callV (k := 119) (as := [.int s0]) (st := []) (show rlk mX7_goes.2.2.2.2.2.2 2 = some (.invokevirtual 119, 3) from by decide +kernel) rfl rfl rfl (Nat.le_of_ble_eq_true rfl) (Nat.le_of_ble_eq_true rfl) rfl⟩
set_option maxRecDepth 50000 in
theorem gX7_goes_5 : (∀ (X : tX) (d : Nat) (x0 : Nat) (x1 : Int32) (s0 : Int32) (σ : rS) (Q : tQ), Ex X d mX7_goes 5 [.ref x0, .int x1] [.int s0] σ Q = (if s0 = 0 then Ex X d mX7_goes 16 [.ref x0, .int x1] [] σ Q else Ex X d mX7_goes 8 [.ref x0, .int x1] [] σ Q)) := fun X d x0 x1 s0 σ Q => q_if_eq (o := 11) (by decide +kernel) rfl
set_option maxRecDepth 50000 in
theorem gX7_goes_8 : (∀ (X : tX) (d : Nat) (x0 : Nat) (x1 : Int32) (σ : rS) (Q : tQ), Ex X d mX7_goes 8 [.ref x0, .int x1] [] σ Q = Ex X d mX7_goes 9 [.ref x0, .int x1] [.ref x0] σ Q) ∧
  (∀ (X : tX) (d : Nat) (x0 : Nat) (x1 : Int32) (s0 : Nat) (σ : rS) (Q : tQ), Ex X d mX7_goes 9 [.ref x0, .int x1] [.ref s0] σ Q = Ex X d mX7_goes 10 [.ref x0, .int x1] [.int x1, .ref s0] σ Q) ∧
  (∀ (X : tX) (d : Nat) (x0 : Nat) (x1 : Int32) (s0 : Int32) (s1 : Nat) (T : tT) (I : tI) (J : tJ) (R : tR) (Q : tQ), Ex X (d + 1) mX7_goes 10 [.ref x0, .int x1] [.int s0, .ref s1] (T, I, J, R) Q = (T[s1]? = some (3, 7) ∧ Ex X d mX7_goesFrom 0 [.ref s1, .int s0, rU] [] (T, I, J, R) (fun v σ1 => Ex X (d + 1) mX7_goes 13 [.ref x0, .int x1] (v.toList ++ []) σ1 Q))) := ⟨fun X d x0 x1 σ Q => ex_P (i := .aload_n 0) (len := 1) (by decide +kernel) rfl,
  fun X d x0 x1 s0 σ Q => ex_P (i := .iload_n 1) (len := 1) (by decide +kernel) rfl,
  fun X d x0 x1 s0 s1 T I J R Q => q_callV (k := 220) (as := [.int s0]) (st := []) (show rlk mX7_goes.2.2.2.2.2.2 10 = some (.invokevirtual 220, 3) from by decide +kernel) rfl rfl rfl (Nat.le_of_ble_eq_true rfl) (Nat.le_of_ble_eq_true rfl) rfl⟩
set_option maxRecDepth 50000 in
theorem gX7_goes_13 : (∀ (X : tX) (d : Nat) (x0 : Nat) (x1 : Int32) (s0 : Int32) (σ : rS) (Q : tQ), Ex X d mX7_goes 13 [.ref x0, .int x1] [.int s0] σ Q = Ex X d mX7_goes 17 [.ref x0, .int x1] [.int s0] σ Q) := fun X d x0 x1 s0 σ Q => q_goto (o := 4) (by decide +kernel) rfl
set_option maxRecDepth 50000 in
theorem gX7_goes_16 : (∀ (X : tX) (d : Nat) (x0 : Nat) (x1 : Int32) (σ : rS) (Q : tQ), Ex X d mX7_goes 16 [.ref x0, .int x1] [] σ Q = Ex X d mX7_goes 17 [.ref x0, .int x1] [.int (-1)] σ Q) := fun X d x0 x1 σ Q => ex_P (i := .iconst (-1)) (len := 1) (by decide +kernel) rfl
set_option maxRecDepth 50000 in
theorem gX7_goes_17 : (∀ (X : tX) (d : Nat) (x0 : Nat) (x1 : Int32) (s0 : Int32) (σ : rS) (Q : tQ), Ex X d mX7_goes 17 [.ref x0, .int x1] [.int s0] σ Q = Q (some (.int s0)) σ) := fun X d x0 x1 s0 σ Q => q_retI (by decide +kernel) rfl
set_option maxRecDepth 50000 in
theorem gX7_passes_0 : (∀ (X : tX) (d : Nat) (x0 : Nat) (σ : rS) (Q : tQ), Ex X d mX7_passes 0 [.ref x0, rU] [] σ Q = Ex X d mX7_passes 1 [.ref x0, rU] [.int 0] σ Q) ∧
  (∀ (X : tX) (d : Nat) (x0 : Nat) (s0 : Int32) (σ : rS) (Q : tQ), Ex X d mX7_passes 1 [.ref x0, rU] [.int s0] σ Q = Ex X d mX7_passes 2 [.ref x0, .int s0] [] σ Q) := ⟨fun X d x0 σ Q => ex_P (i := .iconst 0) (len := 1) (by decide +kernel) rfl,
  fun X d x0 s0 σ Q => ex_P (i := .istore_n 1) (len := 1) (by decide +kernel) rfl⟩
set_option maxRecDepth 50000 in
theorem gX7_passes_2 : (∀ (X : tX) (d : Nat) (x0 : Nat) (x1 : Int32) (σ : rS) (Q : tQ), Ex X d mX7_passes 2 [.ref x0, .int x1] [] σ Q = Ex X d mX7_passes 3 [.ref x0, .int x1] [.int x1] σ Q) ∧
  (∀ (X : tX) (d : Nat) (x0 : Nat) (x1 : Int32) (s0 : Int32) (σ : rS) (Q : tQ), Ex X d mX7_passes 3 [.ref x0, .int x1] [.int s0] σ Q = Ex X d mX7_passes 4 [.ref x0, .int x1] [.ref x0, .int s0] σ Q) ∧
  (∀ (X : tX) (d : Nat) (x0 : Nat) (x1 : Int32) (s0 : Nat) (s1 : Int32) (T : tT) (I : tI) (J : tJ) (R : tR) (Q : tQ), Ex X d mX7_passes 4 [.ref x0, .int x1] [.ref s0, .int s1] (T, I, J, R) Q = (T[s0]? = some (3, 7) ∧ Ex X d mX7_passes 7 [.ref x0, .int x1] [.int (I s0 0), .int s1] (T, I, J, R) Q)) ∧
  (∀ (X : tX) (d : Nat) (x0 : Nat) (x1 : Int32) (s0 : Int32) (s1 : Int32) (σ : rS) (Q : tQ), Ex X d mX7_passes 7 [.ref x0, .int x1] [.int s0, .int s1] σ Q = (if s0 ≤ s1 then Ex X d mX7_passes 27 [.ref x0, .int x1] [] σ Q else Ex X d mX7_passes 10 [.ref x0, .int x1] [] σ Q)) := ⟨fun X d x0 x1 σ Q => ex_P (i := .iload_n 1) (len := 1) (by decide +kernel) rfl,
  fun X d x0 x1 s0 σ Q => ex_P (i := .aload_n 0) (len := 1) (by decide +kernel) rfl,
  fun X d x0 x1 s0 s1 T I J R Q => q_getI (k := 97) (by decide +kernel) rfl rfl (by decide),
  fun X d x0 x1 s0 s1 σ Q => q_icmp_ge (o := 20) (by decide +kernel) rfl⟩
set_option maxRecDepth 50000 in
theorem gX7_passes_10 : (∀ (X : tX) (d : Nat) (x0 : Nat) (x1 : Int32) (σ : rS) (Q : tQ), Ex X d mX7_passes 10 [.ref x0, .int x1] [] σ Q = Ex X d mX7_passes 11 [.ref x0, .int x1] [.ref x0] σ Q) ∧
  (∀ (X : tX) (d : Nat) (x0 : Nat) (x1 : Int32) (s0 : Nat) (T : tT) (I : tI) (J : tJ) (R : tR) (Q : tQ), Ex X d mX7_passes 11 [.ref x0, .int x1] [.ref s0] (T, I, J, R) Q = (T[s0]? = some (3, 7) ∧ Ex X d mX7_passes 14 [.ref x0, .int x1] [va_rf (R s0 37)] (T, I, J, R) Q)) ∧
  (∀ (X : tX) (d : Nat) (x0 : Nat) (x1 : Int32) (s0 : Nat) (σ : rS) (Q : tQ), Ex X d mX7_passes 14 [.ref x0, .int x1] [.ref s0] σ Q = Ex X d mX7_passes 15 [.ref x0, .int x1] [.int x1, .ref s0] σ Q) ∧
  (∀ (X : tX) (d : Nat) (x0 : Nat) (x1 : Int32) (s0 : Int32) (s1 : Nat) (σ : rS) (Q : tQ), Ex X d mX7_passes 15 [.ref x0, .int x1] [.int s0, .ref s1] σ Q = Ex X d mX7_passes 16 [.ref x0, .int x1] [.ref x0, .int s0, .ref s1] σ Q) ∧
  (∀ (X : tX) (d : Nat) (x0 : Nat) (x1 : Int32) (s0 : Nat) (s1 : Int32) (s2 : Nat) (σ : rS) (Q : tQ), Ex X d mX7_passes 16 [.ref x0, .int x1] [.ref s0, .int s1, .ref s2] σ Q = Ex X d mX7_passes 17 [.ref x0, .int x1] [.int x1, .ref s0, .int s1, .ref s2] σ Q) ∧
  (∀ (X : tX) (d : Nat) (x0 : Nat) (x1 : Int32) (s0 : Int32) (s1 : Nat) (s2 : Int32) (s3 : Nat) (T : tT) (I : tI) (J : tJ) (R : tR) (Q : tQ), Ex X (d + 1) mX7_passes 17 [.ref x0, .int x1] [.int s0, .ref s1, .int s2, .ref s3] (T, I, J, R) Q = (T[s1]? = some (3, 7) ∧ Ex X d mX7_goesFrom 0 [.ref s1, .int s0, rU] [] (T, I, J, R) (fun v σ1 => Ex X (d + 1) mX7_passes 20 [.ref x0, .int x1] (v.toList ++ [.int s2, .ref s3]) σ1 Q))) := ⟨fun X d x0 x1 σ Q => ex_P (i := .aload_n 0) (len := 1) (by decide +kernel) rfl,
  fun X d x0 x1 s0 T I J R Q => q_getR (k := 82) (by decide +kernel) rfl rfl,
  fun X d x0 x1 s0 σ Q => ex_P (i := .iload_n 1) (len := 1) (by decide +kernel) rfl,
  fun X d x0 x1 s0 s1 σ Q => ex_P (i := .aload_n 0) (len := 1) (by decide +kernel) rfl,
  fun X d x0 x1 s0 s1 s2 σ Q => ex_P (i := .iload_n 1) (len := 1) (by decide +kernel) rfl,
  fun X d x0 x1 s0 s1 s2 s3 T I J R Q => q_callV (k := 220) (as := [.int s0]) (st := [.int s2, .ref s3]) (show rlk mX7_passes.2.2.2.2.2.2 17 = some (.invokevirtual 220, 3) from by decide +kernel) rfl rfl rfl (Nat.le_of_ble_eq_true rfl) (Nat.le_of_ble_eq_true rfl) rfl⟩
set_option maxRecDepth 50000 in
theorem gX7_passes_20 : (∀ (X : tX) (d : Nat) (x0 : Nat) (x1 : Int32) (s0 : Int32) (s1 : Int32) (s2 : Nat) (T : tT) (I : tI) (J : tJ) (R : tR) (Q : tQ), Ex X d mX7_passes 20 [.ref x0, .int x1] [.int s0, .int s1, .ref s2] (T, I, J, R) Q = (rIn T s2 0 s1 ∧ Ex X d mX7_passes 21 [.ref x0, .int x1] [] (T, va_up I s2 (va_up (I s2) s1.toNatClampNeg s0), J, R) Q)) ∧
  (∀ (X : tX) (d : Nat) (x0 : Nat) (x1 : Int32) (σ : rS) (Q : tQ), Ex X d mX7_passes 21 [.ref x0, .int x1] [] σ Q = Ex X d mX7_passes 24 [.ref x0, .int (x1 + 1)] [] σ Q) ∧
  (∀ (X : tX) (d : Nat) (x0 : Nat) (x1 : Int32) (σ : rS) (Q : tQ), Ex X d mX7_passes 24 [.ref x0, .int x1] [] σ Q = Ex X d mX7_passes 2 [.ref x0, .int x1] [] σ Q) := ⟨fun X d x0 x1 s0 s1 s2 T I J R Q => q_iast (by decide +kernel),
  fun X d x0 x1 σ Q => ex_P (i := .iinc 1 1) (len := 3) (by decide +kernel) rfl,
  fun X d x0 x1 σ Q => q_goto (o := (-22)) (by decide +kernel) rfl⟩
set_option maxRecDepth 50000 in
theorem gX7_passes_27 : (∀ (X : tX) (d : Nat) (x0 : Nat) (x1 : Int32) (σ : rS) (Q : tQ), Ex X d mX7_passes 27 [.ref x0, .int x1] [] σ Q = Ex X d mX7_passes 28 [.ref x0, .int x1] [.int 0] σ Q) ∧
  (∀ (X : tX) (d : Nat) (x0 : Nat) (x1 : Int32) (s0 : Int32) (σ : rS) (Q : tQ), Ex X d mX7_passes 28 [.ref x0, .int x1] [.int s0] σ Q = Ex X d mX7_passes 29 [.ref x0, .int s0] [] σ Q) := ⟨fun X d x0 x1 σ Q => ex_P (i := .iconst 0) (len := 1) (by decide +kernel) rfl,
  fun X d x0 x1 s0 σ Q => ex_P (i := .istore_n 1) (len := 1) (by decide +kernel) rfl⟩
set_option maxRecDepth 50000 in
theorem gX7_passes_29 : (∀ (X : tX) (d : Nat) (x0 : Nat) (x1 : Int32) (σ : rS) (Q : tQ), Ex X d mX7_passes 29 [.ref x0, .int x1] [] σ Q = Ex X d mX7_passes 30 [.ref x0, .int x1] [.int x1] σ Q) ∧
  (∀ (X : tX) (d : Nat) (x0 : Nat) (x1 : Int32) (s0 : Int32) (σ : rS) (Q : tQ), Ex X d mX7_passes 30 [.ref x0, .int x1] [.int s0] σ Q = Ex X d mX7_passes 31 [.ref x0, .int x1] [.ref x0, .int s0] σ Q) ∧
  (∀ (X : tX) (d : Nat) (x0 : Nat) (x1 : Int32) (s0 : Nat) (s1 : Int32) (T : tT) (I : tI) (J : tJ) (R : tR) (Q : tQ), Ex X d mX7_passes 31 [.ref x0, .int x1] [.ref s0, .int s1] (T, I, J, R) Q = (T[s0]? = some (3, 7) ∧ Ex X d mX7_passes 34 [.ref x0, .int x1] [.int (I s0 0), .int s1] (T, I, J, R) Q)) ∧
  (∀ (X : tX) (d : Nat) (x0 : Nat) (x1 : Int32) (s0 : Int32) (s1 : Int32) (σ : rS) (Q : tQ), Ex X d mX7_passes 34 [.ref x0, .int x1] [.int s0, .int s1] σ Q = (if s0 ≤ s1 then Ex X d mX7_passes 105 [.ref x0, .int x1] [] σ Q else Ex X d mX7_passes 37 [.ref x0, .int x1] [] σ Q)) := ⟨fun X d x0 x1 σ Q => ex_P (i := .iload_n 1) (len := 1) (by decide +kernel) rfl,
  fun X d x0 x1 s0 σ Q => ex_P (i := .aload_n 0) (len := 1) (by decide +kernel) rfl,
  fun X d x0 x1 s0 s1 T I J R Q => q_getI (k := 97) (by decide +kernel) rfl rfl (by decide),
  fun X d x0 x1 s0 s1 σ Q => q_icmp_ge (o := 71) (by decide +kernel) rfl⟩
set_option maxRecDepth 50000 in
theorem gX7_passes_37 : (∀ (X : tX) (d : Nat) (x0 : Nat) (x1 : Int32) (σ : rS) (Q : tQ), Ex X d mX7_passes 37 [.ref x0, .int x1] [] σ Q = Ex X d mX7_passes 38 [.ref x0, .int x1] [.ref x0] σ Q) ∧
  (∀ (X : tX) (d : Nat) (x0 : Nat) (x1 : Int32) (s0 : Nat) (T : tT) (I : tI) (J : tJ) (R : tR) (Q : tQ), Ex X d mX7_passes 38 [.ref x0, .int x1] [.ref s0] (T, I, J, R) Q = (T[s0]? = some (3, 7) ∧ Ex X d mX7_passes 41 [.ref x0, .int x1] [va_rf (R s0 1)] (T, I, J, R) Q)) ∧
  (∀ (X : tX) (d : Nat) (x0 : Nat) (x1 : Int32) (s0 : Nat) (σ : rS) (Q : tQ), Ex X d mX7_passes 41 [.ref x0, .int x1] [.ref s0] σ Q = Ex X d mX7_passes 42 [.ref x0, .int x1] [.int x1, .ref s0] σ Q) ∧
  (∀ (X : tX) (d : Nat) (x0 : Nat) (x1 : Int32) (s0 : Int32) (s1 : Nat) (σ : rS) (Q : tQ), Ex X d mX7_passes 42 [.ref x0, .int x1] [.int s0, .ref s1] σ Q = Ex X d mX7_passes 43 [.ref x0, .int x1] [.int 0, .int s0, .ref s1] σ Q) ∧
  (∀ (X : tX) (d : Nat) (x0 : Nat) (x1 : Int32) (s0 : Int32) (s1 : Int32) (s2 : Nat) (σ : rS) (Q : tQ), Ex X d mX7_passes 43 [.ref x0, .int x1] [.int s0, .int s1, .ref s2] σ Q = Ex X d mX7_passes 45 [.ref x0, .int x1] [.int 99, .int s0, .int s1, .ref s2] σ Q) ∧
  (∀ (X : tX) (d : Nat) (x0 : Nat) (x1 : Int32) (s0 : Int32) (s1 : Int32) (s2 : Int32) (s3 : Nat) (σ : rS) (Q : tQ), Ex X d mX7_passes 45 [.ref x0, .int x1] [.int s0, .int s1, .int s2, .ref s3] σ Q = Ex X d mX7_passes 46 [.ref x0, .int x1] [.ref x0, .int s0, .int s1, .int s2, .ref s3] σ Q) ∧
  (∀ (X : tX) (d : Nat) (x0 : Nat) (x1 : Int32) (s0 : Nat) (s1 : Int32) (s2 : Int32) (s3 : Int32) (s4 : Nat) (T : tT) (I : tI) (J : tJ) (R : tR) (Q : tQ), Ex X d mX7_passes 46 [.ref x0, .int x1] [.ref s0, .int s1, .int s2, .int s3, .ref s4] (T, I, J, R) Q = (T[s0]? = some (3, 7) ∧ Ex X d mX7_passes 49 [.ref x0, .int x1] [va_rf (R s0 1), .int s1, .int s2, .int s3, .ref s4] (T, I, J, R) Q)) ∧
  (∀ (X : tX) (d : Nat) (x0 : Nat) (x1 : Int32) (s0 : Nat) (s1 : Int32) (s2 : Int32) (s3 : Int32) (s4 : Nat) (σ : rS) (Q : tQ), Ex X d mX7_passes 49 [.ref x0, .int x1] [.ref s0, .int s1, .int s2, .int s3, .ref s4] σ Q = Ex X d mX7_passes 50 [.ref x0, .int x1] [.int x1, .ref s0, .int s1, .int s2, .int s3, .ref s4] σ Q) ∧
  (∀ (X : tX) (d : Nat) (x0 : Nat) (x1 : Int32) (s0 : Int32) (s1 : Nat) (s2 : Int32) (s3 : Int32) (s4 : Int32) (s5 : Nat) (T : tT) (I : tI) (J : tJ) (R : tR) (Q : tQ), Ex X d mX7_passes 50 [.ref x0, .int x1] [.int s0, .ref s1, .int s2, .int s3, .int s4, .ref s5] (T, I, J, R) Q = (rIn T s1 0 s0 ∧ Ex X d mX7_passes 51 [.ref x0, .int x1] [.int (I s1 s0.toNatClampNeg), .int s2, .int s3, .int s4, .ref s5] (T, I, J, R) Q)) ∧
  (∀ (X : tX) (d : Nat) (x0 : Nat) (x1 : Int32) (s0 : Int32) (s1 : Int32) (s2 : Int32) (s3 : Int32) (s4 : Nat) (σ : rS) (Q : tQ), Ex X d mX7_passes 51 [.ref x0, .int x1] [.int s0, .int s1, .int s2, .int s3, .ref s4] σ Q = Ex X d mX7_passes 52 [.ref x0, .int x1] [.ref x0, .int s0, .int s1, .int s2, .int s3, .ref s4] σ Q) ∧
  (∀ (X : tX) (d : Nat) (x0 : Nat) (x1 : Int32) (s0 : Nat) (s1 : Int32) (s2 : Int32) (s3 : Int32) (s4 : Int32) (s5 : Nat) (T : tT) (I : tI) (J : tJ) (R : tR) (Q : tQ), Ex X d mX7_passes 52 [.ref x0, .int x1] [.ref s0, .int s1, .int s2, .int s3, .int s4, .ref s5] (T, I, J, R) Q = (T[s0]? = some (3, 7) ∧ Ex X d mX7_passes 55 [.ref x0, .int x1] [va_rf (R s0 2), .int s1, .int s2, .int s3, .int s4, .ref s5] (T, I, J, R) Q)) ∧
  (∀ (X : tX) (d : Nat) (x0 : Nat) (x1 : Int32) (s0 : Nat) (s1 : Int32) (s2 : Int32) (s3 : Int32) (s4 : Int32) (s5 : Nat) (σ : rS) (Q : tQ), Ex X d mX7_passes 55 [.ref x0, .int x1] [.ref s0, .int s1, .int s2, .int s3, .int s4, .ref s5] σ Q = Ex X d mX7_passes 56 [.ref x0, .int x1] [.ref x0, .ref s0, .int s1, .int s2, .int s3, .int s4, .ref s5] σ Q) ∧
  (∀ (X : tX) (d : Nat) (x0 : Nat) (x1 : Int32) (s0 : Nat) (s1 : Nat) (s2 : Int32) (s3 : Int32) (s4 : Int32) (s5 : Int32) (s6 : Nat) (T : tT) (I : tI) (J : tJ) (R : tR) (Q : tQ), Ex X d mX7_passes 56 [.ref x0, .int x1] [.ref s0, .ref s1, .int s2, .int s3, .int s4, .int s5, .ref s6] (T, I, J, R) Q = (T[s0]? = some (3, 7) ∧ Ex X d mX7_passes 59 [.ref x0, .int x1] [va_rf (R s0 3), .ref s1, .int s2, .int s3, .int s4, .int s5, .ref s6] (T, I, J, R) Q)) ∧
  (∀ (X : tX) (d : Nat) (x0 : Nat) (x1 : Int32) (s0 : Nat) (s1 : Nat) (s2 : Int32) (s3 : Int32) (s4 : Int32) (s5 : Int32) (s6 : Nat) (σ : rS) (Q : tQ), Ex X d mX7_passes 59 [.ref x0, .int x1] [.ref s0, .ref s1, .int s2, .int s3, .int s4, .int s5, .ref s6] σ Q = Ex X d mX7_passes 60 [.ref x0, .int x1] [.int 1, .ref s0, .ref s1, .int s2, .int s3, .int s4, .int s5, .ref s6] σ Q) ∧
  (∀ (X : tX) (d : Nat) (x0 : Nat) (x1 : Int32) (s0 : Int32) (s1 : Nat) (s2 : Nat) (s3 : Int32) (s4 : Int32) (s5 : Int32) (s6 : Int32) (s7 : Nat) (T : tT) (I : tI) (J : tJ) (R : tR) (Q : tQ), Ex X d mX7_passes 60 [.ref x0, .int x1] [.int s0, .ref s1, .ref s2, .int s3, .int s4, .int s5, .int s6, .ref s7] (T, I, J, R) Q = (rIn T s1 0 s0 ∧ Ex X d mX7_passes 61 [.ref x0, .int x1] [.int (I s1 s0.toNatClampNeg), .ref s2, .int s3, .int s4, .int s5, .int s6, .ref s7] (T, I, J, R) Q)) ∧
  (∀ (X : tX) (d : Nat) (x0 : Nat) (x1 : Int32) (s0 : Int32) (s1 : Nat) (s2 : Int32) (s3 : Int32) (s4 : Int32) (s5 : Int32) (s6 : Nat) (T : tT) (I : tI) (J : tJ) (R : tR) (Q : tQ), Ex X d mX7_passes 61 [.ref x0, .int x1] [.int s0, .ref s1, .int s2, .int s3, .int s4, .int s5, .ref s6] (T, I, J, R) Q = (rIn T s1 0 s0 ∧ Ex X d mX7_passes 62 [.ref x0, .int x1] [.int (I s1 s0.toNatClampNeg), .int s2, .int s3, .int s4, .int s5, .ref s6] (T, I, J, R) Q)) ∧
  (∀ (X : tX) (d : Nat) (x0 : Nat) (x1 : Int32) (s0 : Int32) (s1 : Int32) (s2 : Int32) (s3 : Int32) (s4 : Int32) (s5 : Nat) (σ : rS) (Q : tQ), Ex X d mX7_passes 62 [.ref x0, .int x1] [.int s0, .int s1, .int s2, .int s3, .int s4, .ref s5] σ Q = Ex X d mX7_passes 63 [.ref x0, .int x1] [.int (s1 + s0), .int s2, .int s3, .int s4, .ref s5] σ Q) ∧
  (∀ (X : tX) (d : Nat) (x0 : Nat) (x1 : Int32) (s0 : Int32) (s1 : Int32) (s2 : Int32) (s3 : Int32) (s4 : Nat) (σ : rS) (Q : tQ), Ex X d mX7_passes 63 [.ref x0, .int x1] [.int s0, .int s1, .int s2, .int s3, .ref s4] σ Q = Ex X d mX7_passes 64 [.ref x0, .int x1] [.int x1, .int s0, .int s1, .int s2, .int s3, .ref s4] σ Q) ∧
  (∀ (X : tX) (d : Nat) (x0 : Nat) (x1 : Int32) (s0 : Int32) (s1 : Int32) (s2 : Int32) (s3 : Int32) (s4 : Int32) (s5 : Nat) (σ : rS) (Q : tQ), Ex X d mX7_passes 64 [.ref x0, .int x1] [.int s0, .int s1, .int s2, .int s3, .int s4, .ref s5] σ Q = (if s0 = 0 then Ex X d mX7_passes 67 [.ref x0, .int x1] [.int s1, .int s2, .int s3, .int s4, .ref s5] σ Q else Ex X d mX7_passes 76 [.ref x0, .int x1] [.int s1, .int s2, .int s3, .int s4, .ref s5] σ Q)) := ⟨fun X d x0 x1 σ Q => ex_P (i := .aload_n 0) (len := 1) (by decide +kernel) rfl,
  fun X d x0 x1 s0 T I J R Q => q_getR (k := 9) (by decide +kernel) rfl rfl,
  fun X d x0 x1 s0 σ Q => ex_P (i := .iload_n 1) (len := 1) (by decide +kernel) rfl,
  fun X d x0 x1 s0 s1 σ Q => ex_P (i := .iconst 0) (len := 1) (by decide +kernel) rfl,
  fun X d x0 x1 s0 s1 s2 σ Q => ex_P (i := .bipush 99) (len := 2) (by decide +kernel) rfl,
  fun X d x0 x1 s0 s1 s2 s3 σ Q => ex_P (i := .aload_n 0) (len := 1) (by decide +kernel) rfl,
  fun X d x0 x1 s0 s1 s2 s3 s4 T I J R Q => q_getR (k := 9) (by decide +kernel) rfl rfl,
  fun X d x0 x1 s0 s1 s2 s3 s4 σ Q => ex_P (i := .iload_n 1) (len := 1) (by decide +kernel) rfl,
  fun X d x0 x1 s0 s1 s2 s3 s4 s5 T I J R Q => q_iald (by decide +kernel),
  fun X d x0 x1 s0 s1 s2 s3 s4 σ Q => ex_P (i := .aload_n 0) (len := 1) (by decide +kernel) rfl,
  fun X d x0 x1 s0 s1 s2 s3 s4 s5 T I J R Q => q_getR (k := 15) (by decide +kernel) rfl rfl,
  fun X d x0 x1 s0 s1 s2 s3 s4 s5 σ Q => ex_P (i := .aload_n 0) (len := 1) (by decide +kernel) rfl,
  fun X d x0 x1 s0 s1 s2 s3 s4 s5 s6 T I J R Q => q_getR (k := 18) (by decide +kernel) rfl rfl,
  fun X d x0 x1 s0 s1 s2 s3 s4 s5 s6 σ Q => ex_P (i := .iconst 1) (len := 1) (by decide +kernel) rfl,
  fun X d x0 x1 s0 s1 s2 s3 s4 s5 s6 s7 T I J R Q => q_iald (by decide +kernel),
  fun X d x0 x1 s0 s1 s2 s3 s4 s5 s6 T I J R Q => q_iald (by decide +kernel),
  fun X d x0 x1 s0 s1 s2 s3 s4 s5 σ Q => ex_P (i := .iadd) (len := 1) (by decide +kernel) rfl,
  fun X d x0 x1 s0 s1 s2 s3 s4 σ Q => ex_P (i := .iload_n 1) (len := 1) (by decide +kernel) rfl,
  fun X d x0 x1 s0 s1 s2 s3 s4 s5 σ Q => q_if_ne (o := 12) (by decide +kernel) rfl⟩
set_option maxRecDepth 50000 in
theorem gX7_passes_67 : (∀ (X : tX) (d : Nat) (x0 : Nat) (x1 : Int32) (s0 : Int32) (s1 : Int32) (s2 : Int32) (s3 : Int32) (s4 : Nat) (σ : rS) (Q : tQ), Ex X d mX7_passes 67 [.ref x0, .int x1] [.int s0, .int s1, .int s2, .int s3, .ref s4] σ Q = Ex X d mX7_passes 68 [.ref x0, .int x1] [.ref x0, .int s0, .int s1, .int s2, .int s3, .ref s4] σ Q) ∧
  (∀ (X : tX) (d : Nat) (x0 : Nat) (x1 : Int32) (s0 : Nat) (s1 : Int32) (s2 : Int32) (s3 : Int32) (s4 : Int32) (s5 : Nat) (T : tT) (I : tI) (J : tJ) (R : tR) (Q : tQ), Ex X d mX7_passes 68 [.ref x0, .int x1] [.ref s0, .int s1, .int s2, .int s3, .int s4, .ref s5] (T, I, J, R) Q = (T[s0]? = some (3, 7) ∧ Ex X d mX7_passes 71 [.ref x0, .int x1] [va_rf (R s0 3), .int s1, .int s2, .int s3, .int s4, .ref s5] (T, I, J, R) Q)) ∧
  (∀ (X : tX) (d : Nat) (x0 : Nat) (x1 : Int32) (s0 : Nat) (s1 : Int32) (s2 : Int32) (s3 : Int32) (s4 : Int32) (s5 : Nat) (σ : rS) (Q : tQ), Ex X d mX7_passes 71 [.ref x0, .int x1] [.ref s0, .int s1, .int s2, .int s3, .int s4, .ref s5] σ Q = Ex X d mX7_passes 72 [.ref x0, .int x1] [.int 0, .ref s0, .int s1, .int s2, .int s3, .int s4, .ref s5] σ Q) ∧
  (∀ (X : tX) (d : Nat) (x0 : Nat) (x1 : Int32) (s0 : Int32) (s1 : Nat) (s2 : Int32) (s3 : Int32) (s4 : Int32) (s5 : Int32) (s6 : Nat) (T : tT) (I : tI) (J : tJ) (R : tR) (Q : tQ), Ex X d mX7_passes 72 [.ref x0, .int x1] [.int s0, .ref s1, .int s2, .int s3, .int s4, .int s5, .ref s6] (T, I, J, R) Q = (rIn T s1 0 s0 ∧ Ex X d mX7_passes 73 [.ref x0, .int x1] [.int (I s1 s0.toNatClampNeg), .int s2, .int s3, .int s4, .int s5, .ref s6] (T, I, J, R) Q)) ∧
  (∀ (X : tX) (d : Nat) (x0 : Nat) (x1 : Int32) (s0 : Int32) (s1 : Int32) (s2 : Int32) (s3 : Int32) (s4 : Int32) (s5 : Nat) (σ : rS) (Q : tQ), Ex X d mX7_passes 73 [.ref x0, .int x1] [.int s0, .int s1, .int s2, .int s3, .int s4, .ref s5] σ Q = Ex X d mX7_passes 84 [.ref x0, .int x1] [.int s0, .int s1, .int s2, .int s3, .int s4, .ref s5] σ Q) := ⟨fun X d x0 x1 s0 s1 s2 s3 s4 σ Q => ex_P (i := .aload_n 0) (len := 1) (by decide +kernel) rfl,
  fun X d x0 x1 s0 s1 s2 s3 s4 s5 T I J R Q => q_getR (k := 18) (by decide +kernel) rfl rfl,
  fun X d x0 x1 s0 s1 s2 s3 s4 s5 σ Q => ex_P (i := .iconst 0) (len := 1) (by decide +kernel) rfl,
  fun X d x0 x1 s0 s1 s2 s3 s4 s5 s6 T I J R Q => q_iald (by decide +kernel),
  fun X d x0 x1 s0 s1 s2 s3 s4 s5 σ Q => q_goto (o := 11) (by decide +kernel) rfl⟩
set_option maxRecDepth 50000 in
theorem gX7_passes_76 : (∀ (X : tX) (d : Nat) (x0 : Nat) (x1 : Int32) (s0 : Int32) (s1 : Int32) (s2 : Int32) (s3 : Int32) (s4 : Nat) (σ : rS) (Q : tQ), Ex X d mX7_passes 76 [.ref x0, .int x1] [.int s0, .int s1, .int s2, .int s3, .ref s4] σ Q = Ex X d mX7_passes 77 [.ref x0, .int x1] [.ref x0, .int s0, .int s1, .int s2, .int s3, .ref s4] σ Q) ∧
  (∀ (X : tX) (d : Nat) (x0 : Nat) (x1 : Int32) (s0 : Nat) (s1 : Int32) (s2 : Int32) (s3 : Int32) (s4 : Int32) (s5 : Nat) (T : tT) (I : tI) (J : tJ) (R : tR) (Q : tQ), Ex X d mX7_passes 77 [.ref x0, .int x1] [.ref s0, .int s1, .int s2, .int s3, .int s4, .ref s5] (T, I, J, R) Q = (T[s0]? = some (3, 7) ∧ Ex X d mX7_passes 80 [.ref x0, .int x1] [va_rf (R s0 37), .int s1, .int s2, .int s3, .int s4, .ref s5] (T, I, J, R) Q)) ∧
  (∀ (X : tX) (d : Nat) (x0 : Nat) (x1 : Int32) (s0 : Nat) (s1 : Int32) (s2 : Int32) (s3 : Int32) (s4 : Int32) (s5 : Nat) (σ : rS) (Q : tQ), Ex X d mX7_passes 80 [.ref x0, .int x1] [.ref s0, .int s1, .int s2, .int s3, .int s4, .ref s5] σ Q = Ex X d mX7_passes 81 [.ref x0, .int x1] [.int x1, .ref s0, .int s1, .int s2, .int s3, .int s4, .ref s5] σ Q) ∧
  (∀ (X : tX) (d : Nat) (x0 : Nat) (x1 : Int32) (s0 : Int32) (s1 : Nat) (s2 : Int32) (s3 : Int32) (s4 : Int32) (s5 : Int32) (s6 : Nat) (σ : rS) (Q : tQ), Ex X d mX7_passes 81 [.ref x0, .int x1] [.int s0, .ref s1, .int s2, .int s3, .int s4, .int s5, .ref s6] σ Q = Ex X d mX7_passes 82 [.ref x0, .int x1] [.int 1, .int s0, .ref s1, .int s2, .int s3, .int s4, .int s5, .ref s6] σ Q) ∧
  (∀ (X : tX) (d : Nat) (x0 : Nat) (x1 : Int32) (s0 : Int32) (s1 : Int32) (s2 : Nat) (s3 : Int32) (s4 : Int32) (s5 : Int32) (s6 : Int32) (s7 : Nat) (σ : rS) (Q : tQ), Ex X d mX7_passes 82 [.ref x0, .int x1] [.int s0, .int s1, .ref s2, .int s3, .int s4, .int s5, .int s6, .ref s7] σ Q = Ex X d mX7_passes 83 [.ref x0, .int x1] [.int (s1 - s0), .ref s2, .int s3, .int s4, .int s5, .int s6, .ref s7] σ Q) ∧
  (∀ (X : tX) (d : Nat) (x0 : Nat) (x1 : Int32) (s0 : Int32) (s1 : Nat) (s2 : Int32) (s3 : Int32) (s4 : Int32) (s5 : Int32) (s6 : Nat) (T : tT) (I : tI) (J : tJ) (R : tR) (Q : tQ), Ex X d mX7_passes 83 [.ref x0, .int x1] [.int s0, .ref s1, .int s2, .int s3, .int s4, .int s5, .ref s6] (T, I, J, R) Q = (rIn T s1 0 s0 ∧ Ex X d mX7_passes 84 [.ref x0, .int x1] [.int (I s1 s0.toNatClampNeg), .int s2, .int s3, .int s4, .int s5, .ref s6] (T, I, J, R) Q)) := ⟨fun X d x0 x1 s0 s1 s2 s3 s4 σ Q => ex_P (i := .aload_n 0) (len := 1) (by decide +kernel) rfl,
  fun X d x0 x1 s0 s1 s2 s3 s4 s5 T I J R Q => q_getR (k := 82) (by decide +kernel) rfl rfl,
  fun X d x0 x1 s0 s1 s2 s3 s4 s5 σ Q => ex_P (i := .iload_n 1) (len := 1) (by decide +kernel) rfl,
  fun X d x0 x1 s0 s1 s2 s3 s4 s5 s6 σ Q => ex_P (i := .iconst 1) (len := 1) (by decide +kernel) rfl,
  fun X d x0 x1 s0 s1 s2 s3 s4 s5 s6 s7 σ Q => ex_P (i := .isub) (len := 1) (by decide +kernel) rfl,
  fun X d x0 x1 s0 s1 s2 s3 s4 s5 s6 T I J R Q => q_iald (by decide +kernel)⟩
set_option maxRecDepth 50000 in
theorem gX7_passes_84 : (∀ (X : tX) (d : Nat) (x0 : Nat) (x1 : Int32) (s0 : Int32) (s1 : Int32) (s2 : Int32) (s3 : Int32) (s4 : Int32) (s5 : Nat) (σ : rS) (Q : tQ), Ex X d mX7_passes 84 [.ref x0, .int x1] [.int s0, .int s1, .int s2, .int s3, .int s4, .ref s5] σ Q = Ex X d mX7_passes 85 [.ref x0, .int x1] [.int (s1 + s0), .int s2, .int s3, .int s4, .ref s5] σ Q) ∧
  (∀ (X : tX) (d : Nat) (x0 : Nat) (x1 : Int32) (s0 : Int32) (s1 : Int32) (s2 : Int32) (s3 : Int32) (s4 : Nat) (σ : rS) (Q : tQ), Ex X d mX7_passes 85 [.ref x0, .int x1] [.int s0, .int s1, .int s2, .int s3, .ref s4] σ Q = Ex X d mX7_passes 86 [.ref x0, .int x1] [.ref x0, .int s0, .int s1, .int s2, .int s3, .ref s4] σ Q) ∧
  (∀ (X : tX) (d : Nat) (x0 : Nat) (x1 : Int32) (s0 : Nat) (s1 : Int32) (s2 : Int32) (s3 : Int32) (s4 : Int32) (s5 : Nat) (T : tT) (I : tI) (J : tJ) (R : tR) (Q : tQ), Ex X d mX7_passes 86 [.ref x0, .int x1] [.ref s0, .int s1, .int s2, .int s3, .int s4, .ref s5] (T, I, J, R) Q = (T[s0]? = some (3, 7) ∧ Ex X d mX7_passes 89 [.ref x0, .int x1] [va_rf (R s0 37), .int s1, .int s2, .int s3, .int s4, .ref s5] (T, I, J, R) Q)) ∧
  (∀ (X : tX) (d : Nat) (x0 : Nat) (x1 : Int32) (s0 : Nat) (s1 : Int32) (s2 : Int32) (s3 : Int32) (s4 : Int32) (s5 : Nat) (σ : rS) (Q : tQ), Ex X d mX7_passes 89 [.ref x0, .int x1] [.ref s0, .int s1, .int s2, .int s3, .int s4, .ref s5] σ Q = Ex X d mX7_passes 90 [.ref x0, .int x1] [.int x1, .ref s0, .int s1, .int s2, .int s3, .int s4, .ref s5] σ Q) ∧
  (∀ (X : tX) (d : Nat) (x0 : Nat) (x1 : Int32) (s0 : Int32) (s1 : Nat) (s2 : Int32) (s3 : Int32) (s4 : Int32) (s5 : Int32) (s6 : Nat) (T : tT) (I : tI) (J : tJ) (R : tR) (Q : tQ), Ex X d mX7_passes 90 [.ref x0, .int x1] [.int s0, .ref s1, .int s2, .int s3, .int s4, .int s5, .ref s6] (T, I, J, R) Q = (rIn T s1 0 s0 ∧ Ex X d mX7_passes 91 [.ref x0, .int x1] [.int (I s1 s0.toNatClampNeg), .int s2, .int s3, .int s4, .int s5, .ref s6] (T, I, J, R) Q)) ∧
  (∀ (X : tX) (d : Nat) (x0 : Nat) (x1 : Int32) (s0 : Int32) (s1 : Int32) (s2 : Int32) (s3 : Int32) (s4 : Int32) (s5 : Nat) (σ : rS) (Q : tQ), Ex X d mX7_passes 91 [.ref x0, .int x1] [.int s0, .int s1, .int s2, .int s3, .int s4, .ref s5] σ Q = Ex X d mX7_passes 92 [.ref x0, .int x1] [.int (s1 - s0), .int s2, .int s3, .int s4, .ref s5] σ Q) ∧
  (∀ (X : tX) (d : Nat) (x0 : Nat) (x1 : Int32) (s0 : Int32) (s1 : Int32) (s2 : Int32) (s3 : Int32) (s4 : Nat) (T : tT) (I : tI) (J : tJ) (R : tR) (Q : tQ), Ex X (d + 1) mX7_passes 92 [.ref x0, .int x1] [.int s0, .int s1, .int s2, .int s3, .ref s4] (T, I, J, R) Q = Ex X (d + 1) mX7_passes 95 [.ref x0, .int x1] [.int (if s0 < s1 then s0 else s1), .int s2, .int s3, .ref s4] (T, I, J, R) Q) ∧
  (∀ (X : tX) (d : Nat) (x0 : Nat) (x1 : Int32) (s0 : Int32) (s1 : Int32) (s2 : Int32) (s3 : Nat) (T : tT) (I : tI) (J : tJ) (R : tR) (Q : tQ), Ex X (d + 1) mX7_passes 95 [.ref x0, .int x1] [.int s0, .int s1, .int s2, .ref s3] (T, I, J, R) Q = Ex X (d + 1) mX7_passes 98 [.ref x0, .int x1] [.int (if s1 < s0 then s0 else s1), .int s2, .ref s3] (T, I, J, R) Q) ∧
  (∀ (X : tX) (d : Nat) (x0 : Nat) (x1 : Int32) (s0 : Int32) (s1 : Int32) (s2 : Nat) (T : tT) (I : tI) (J : tJ) (R : tR) (Q : tQ), Ex X d mX7_passes 98 [.ref x0, .int x1] [.int s0, .int s1, .ref s2] (T, I, J, R) Q = (rIn T s2 0 s1 ∧ Ex X d mX7_passes 99 [.ref x0, .int x1] [] (T, va_up I s2 (va_up (I s2) s1.toNatClampNeg s0), J, R) Q)) ∧
  (∀ (X : tX) (d : Nat) (x0 : Nat) (x1 : Int32) (σ : rS) (Q : tQ), Ex X d mX7_passes 99 [.ref x0, .int x1] [] σ Q = Ex X d mX7_passes 102 [.ref x0, .int (x1 + 1)] [] σ Q) ∧
  (∀ (X : tX) (d : Nat) (x0 : Nat) (x1 : Int32) (σ : rS) (Q : tQ), Ex X d mX7_passes 102 [.ref x0, .int x1] [] σ Q = Ex X d mX7_passes 29 [.ref x0, .int x1] [] σ Q) := ⟨fun X d x0 x1 s0 s1 s2 s3 s4 s5 σ Q => ex_P (i := .iadd) (len := 1) (by decide +kernel) rfl,
  fun X d x0 x1 s0 s1 s2 s3 s4 σ Q => ex_P (i := .aload_n 0) (len := 1) (by decide +kernel) rfl,
  fun X d x0 x1 s0 s1 s2 s3 s4 s5 T I J R Q => q_getR (k := 82) (by decide +kernel) rfl rfl,
  fun X d x0 x1 s0 s1 s2 s3 s4 s5 σ Q => ex_P (i := .iload_n 1) (len := 1) (by decide +kernel) rfl,
  fun X d x0 x1 s0 s1 s2 s3 s4 s5 s6 T I J R Q => q_iald (by decide +kernel),
  fun X d x0 x1 s0 s1 s2 s3 s4 s5 σ Q => ex_P (i := .isub) (len := 1) (by decide +kernel) rfl,
  fun X d x0 x1 s0 s1 s2 s3 s4 T I J R Q => q_min (k := 212) (by decide +kernel) rfl rfl (Nat.le_of_ble_eq_true rfl),
  fun X d x0 x1 s0 s1 s2 s3 T I J R Q => q_max (k := 217) (by decide +kernel) rfl (Nat.le_of_ble_eq_true rfl),
  fun X d x0 x1 s0 s1 s2 T I J R Q => q_iast (by decide +kernel),
  fun X d x0 x1 σ Q => ex_P (i := .iinc 1 1) (len := 3) (by decide +kernel) rfl,
  fun X d x0 x1 σ Q => q_goto (o := (-73)) (by decide +kernel) rfl⟩
set_option maxRecDepth 50000 in
theorem gX7_passes_105 : (∀ (X : tX) (d : Nat) (x0 : Nat) (x1 : Int32) (σ : rS) (Q : tQ), Ex X d mX7_passes 105 [.ref x0, .int x1] [] σ Q = Ex X d mX7_passes 106 [.ref x0, .int x1] [.ref x0] σ Q) ∧
  (∀ (X : tX) (d : Nat) (x0 : Nat) (x1 : Int32) (s0 : Nat) (T : tT) (I : tI) (J : tJ) (R : tR) (Q : tQ), Ex X d mX7_passes 106 [.ref x0, .int x1] [.ref s0] (T, I, J, R) Q = (T[s0]? = some (3, 7) ∧ Ex X d mX7_passes 109 [.ref x0, .int x1] [va_rf (R s0 3)] (T, I, J, R) Q)) ∧
  (∀ (X : tX) (d : Nat) (x0 : Nat) (x1 : Int32) (s0 : Nat) (σ : rS) (Q : tQ), Ex X d mX7_passes 109 [.ref x0, .int x1] [.ref s0] σ Q = Ex X d mX7_passes 110 [.ref x0, .int x1] [.int 1, .ref s0] σ Q) ∧
  (∀ (X : tX) (d : Nat) (x0 : Nat) (x1 : Int32) (s0 : Int32) (s1 : Nat) (σ : rS) (Q : tQ), Ex X d mX7_passes 110 [.ref x0, .int x1] [.int s0, .ref s1] σ Q = Ex X d mX7_passes 111 [.ref x0, .int x1] [.ref x0, .int s0, .ref s1] σ Q) ∧
  (∀ (X : tX) (d : Nat) (x0 : Nat) (x1 : Int32) (s0 : Nat) (s1 : Int32) (s2 : Nat) (T : tT) (I : tI) (J : tJ) (R : tR) (Q : tQ), Ex X d mX7_passes 111 [.ref x0, .int x1] [.ref s0, .int s1, .ref s2] (T, I, J, R) Q = (T[s0]? = some (3, 7) ∧ Ex X d mX7_passes 114 [.ref x0, .int x1] [va_rf (R s0 3), .int s1, .ref s2] (T, I, J, R) Q)) ∧
  (∀ (X : tX) (d : Nat) (x0 : Nat) (x1 : Int32) (s0 : Nat) (s1 : Int32) (s2 : Nat) (σ : rS) (Q : tQ), Ex X d mX7_passes 114 [.ref x0, .int x1] [.ref s0, .int s1, .ref s2] σ Q = Ex X d mX7_passes 115 [.ref x0, .int x1] [.int 1, .ref s0, .int s1, .ref s2] σ Q) ∧
  (∀ (X : tX) (d : Nat) (x0 : Nat) (x1 : Int32) (s0 : Int32) (s1 : Nat) (s2 : Int32) (s3 : Nat) (T : tT) (I : tI) (J : tJ) (R : tR) (Q : tQ), Ex X d mX7_passes 115 [.ref x0, .int x1] [.int s0, .ref s1, .int s2, .ref s3] (T, I, J, R) Q = (rIn T s1 0 s0 ∧ Ex X d mX7_passes 116 [.ref x0, .int x1] [.int (I s1 s0.toNatClampNeg), .int s2, .ref s3] (T, I, J, R) Q)) ∧
  (∀ (X : tX) (d : Nat) (x0 : Nat) (x1 : Int32) (s0 : Int32) (s1 : Int32) (s2 : Nat) (σ : rS) (Q : tQ), Ex X d mX7_passes 116 [.ref x0, .int x1] [.int s0, .int s1, .ref s2] σ Q = Ex X d mX7_passes 117 [.ref x0, .int x1] [.int 1, .int s0, .int s1, .ref s2] σ Q) ∧
  (∀ (X : tX) (d : Nat) (x0 : Nat) (x1 : Int32) (s0 : Int32) (s1 : Int32) (s2 : Int32) (s3 : Nat) (σ : rS) (Q : tQ), Ex X d mX7_passes 117 [.ref x0, .int x1] [.int s0, .int s1, .int s2, .ref s3] σ Q = Ex X d mX7_passes 118 [.ref x0, .int x1] [.int (s1 + s0), .int s2, .ref s3] σ Q) ∧
  (∀ (X : tX) (d : Nat) (x0 : Nat) (x1 : Int32) (s0 : Int32) (s1 : Int32) (s2 : Nat) (σ : rS) (Q : tQ), Ex X d mX7_passes 118 [.ref x0, .int x1] [.int s0, .int s1, .ref s2] σ Q = Ex X d mX7_passes 120 [.ref x0, .int x1] [.int 7, .int s0, .int s1, .ref s2] σ Q) ∧
  (∀ (X : tX) (d : Nat) (x0 : Nat) (x1 : Int32) (s0 : Int32) (s1 : Int32) (s2 : Int32) (s3 : Nat) (σ : rS) (Q : tQ), Ex X d mX7_passes 120 [.ref x0, .int x1] [.int s0, .int s1, .int s2, .ref s3] σ Q = (¬ s0 = 0 ∧ Ex X d mX7_passes 121 [.ref x0, .int x1] [.int (s1 - s1 / s0 * s0), .int s2, .ref s3] σ Q)) ∧
  (∀ (X : tX) (d : Nat) (x0 : Nat) (x1 : Int32) (s0 : Int32) (s1 : Int32) (s2 : Nat) (T : tT) (I : tI) (J : tJ) (R : tR) (Q : tQ), Ex X d mX7_passes 121 [.ref x0, .int x1] [.int s0, .int s1, .ref s2] (T, I, J, R) Q = (rIn T s2 0 s1 ∧ Ex X d mX7_passes 122 [.ref x0, .int x1] [] (T, va_up I s2 (va_up (I s2) s1.toNatClampNeg s0), J, R) Q)) ∧
  (∀ (X : tX) (d : Nat) (x0 : Nat) (x1 : Int32) (σ : rS) (Q : tQ), Ex X d mX7_passes 122 [.ref x0, .int x1] [] σ Q = Q none σ) := ⟨fun X d x0 x1 σ Q => ex_P (i := .aload_n 0) (len := 1) (by decide +kernel) rfl,
  fun X d x0 x1 s0 T I J R Q => q_getR (k := 18) (by decide +kernel) rfl rfl,
  fun X d x0 x1 s0 σ Q => ex_P (i := .iconst 1) (len := 1) (by decide +kernel) rfl,
  fun X d x0 x1 s0 s1 σ Q => ex_P (i := .aload_n 0) (len := 1) (by decide +kernel) rfl,
  fun X d x0 x1 s0 s1 s2 T I J R Q => q_getR (k := 18) (by decide +kernel) rfl rfl,
  fun X d x0 x1 s0 s1 s2 σ Q => ex_P (i := .iconst 1) (len := 1) (by decide +kernel) rfl,
  fun X d x0 x1 s0 s1 s2 s3 T I J R Q => q_iald (by decide +kernel),
  fun X d x0 x1 s0 s1 s2 σ Q => ex_P (i := .iconst 1) (len := 1) (by decide +kernel) rfl,
  fun X d x0 x1 s0 s1 s2 s3 σ Q => ex_P (i := .iadd) (len := 1) (by decide +kernel) rfl,
  fun X d x0 x1 s0 s1 s2 σ Q => ex_P (i := .bipush 7) (len := 2) (by decide +kernel) rfl,
  fun X d x0 x1 s0 s1 s2 s3 σ Q => q_rem (by decide +kernel),
  fun X d x0 x1 s0 s1 s2 T I J R Q => q_iast (by decide +kernel),
  fun X d x0 x1 σ Q => q_retV (by decide +kernel) rfl⟩
set_option maxRecDepth 50000 in
theorem gX7_goesOn_0 : (∀ (X : tX) (d : Nat) (x0 : Nat) (x1 : Int32) (σ : rS) (Q : tQ), Ex X d mX7_goesOn 0 [.ref x0, .int x1, rU] [] σ Q = Ex X d mX7_goesOn 1 [.ref x0, .int x1, rU] [.int 0] σ Q) ∧
  (∀ (X : tX) (d : Nat) (x0 : Nat) (x1 : Int32) (s0 : Int32) (σ : rS) (Q : tQ), Ex X d mX7_goesOn 1 [.ref x0, .int x1, rU] [.int s0] σ Q = Ex X d mX7_goesOn 2 [.ref x0, .int x1, .int s0] [] σ Q) := ⟨fun X d x0 x1 σ Q => ex_P (i := .iconst 0) (len := 1) (by decide +kernel) rfl,
  fun X d x0 x1 s0 σ Q => ex_P (i := .istore_n 2) (len := 1) (by decide +kernel) rfl⟩
set_option maxRecDepth 50000 in
theorem gX7_goesOn_2 : (∀ (X : tX) (d : Nat) (x0 : Nat) (x1 : Int32) (x2 : Int32) (σ : rS) (Q : tQ), Ex X d mX7_goesOn 2 [.ref x0, .int x1, .int x2] [] σ Q = Ex X d mX7_goesOn 3 [.ref x0, .int x1, .int x2] [.int x2] σ Q) ∧
  (∀ (X : tX) (d : Nat) (x0 : Nat) (x1 : Int32) (x2 : Int32) (s0 : Int32) (σ : rS) (Q : tQ), Ex X d mX7_goesOn 3 [.ref x0, .int x1, .int x2] [.int s0] σ Q = Ex X d mX7_goesOn 4 [.ref x0, .int x1, .int x2] [.int x1, .int s0] σ Q) ∧
  (∀ (X : tX) (d : Nat) (x0 : Nat) (x1 : Int32) (x2 : Int32) (s0 : Int32) (s1 : Int32) (σ : rS) (Q : tQ), Ex X d mX7_goesOn 4 [.ref x0, .int x1, .int x2] [.int s0, .int s1] σ Q = (if s0 ≤ s1 then Ex X d mX7_goesOn 17 [.ref x0, .int x1, .int x2] [] σ Q else Ex X d mX7_goesOn 7 [.ref x0, .int x1, .int x2] [] σ Q)) := ⟨fun X d x0 x1 x2 σ Q => ex_P (i := .iload_n 2) (len := 1) (by decide +kernel) rfl,
  fun X d x0 x1 x2 s0 σ Q => ex_P (i := .iload_n 1) (len := 1) (by decide +kernel) rfl,
  fun X d x0 x1 x2 s0 s1 σ Q => q_icmp_ge (o := 13) (by decide +kernel) rfl⟩
set_option maxRecDepth 50000 in
theorem gX7_goesOn_7 : (∀ (X : tX) (d : Nat) (x0 : Nat) (x1 : Int32) (x2 : Int32) (σ : rS) (Q : tQ), Ex X d mX7_goesOn 7 [.ref x0, .int x1, .int x2] [] σ Q = Ex X d mX7_goesOn 8 [.ref x0, .int x1, .int x2] [.ref x0] σ Q) ∧
  (∀ (X : tX) (d : Nat) (x0 : Nat) (x1 : Int32) (x2 : Int32) (s0 : Nat) (T : tT) (I : tI) (J : tJ) (R : tR) (Q : tQ), Ex X (d + 1) mX7_goesOn 8 [.ref x0, .int x1, .int x2] [.ref s0] (T, I, J, R) Q = (T[s0]? = some (3, 7) ∧ Ex X d mX7_passes 0 [.ref s0, rU] [] (T, I, J, R) (fun v σ1 => Ex X (d + 1) mX7_goesOn 11 [.ref x0, .int x1, .int x2] (v.toList ++ []) σ1 Q))) := ⟨fun X d x0 x1 x2 σ Q => ex_P (i := .aload_n 0) (len := 1) (by decide +kernel) rfl,
  fun X d x0 x1 x2 s0 T I J R Q => q_callV (k := 223) (as := []) (st := []) (show rlk mX7_goesOn.2.2.2.2.2.2 8 = some (.invokevirtual 223, 3) from by decide +kernel) rfl rfl rfl (Nat.le_of_ble_eq_true rfl) (Nat.le_of_ble_eq_true rfl) rfl⟩
set_option maxRecDepth 50000 in
theorem gX7_goesOn_11 : (∀ (X : tX) (d : Nat) (x0 : Nat) (x1 : Int32) (x2 : Int32) (σ : rS) (Q : tQ), Ex X d mX7_goesOn 11 [.ref x0, .int x1, .int x2] [] σ Q = Ex X d mX7_goesOn 14 [.ref x0, .int x1, .int (x2 + 1)] [] σ Q) ∧
  (∀ (X : tX) (d : Nat) (x0 : Nat) (x1 : Int32) (x2 : Int32) (σ : rS) (Q : tQ), Ex X d mX7_goesOn 14 [.ref x0, .int x1, .int x2] [] σ Q = Ex X d mX7_goesOn 2 [.ref x0, .int x1, .int x2] [] σ Q) := ⟨fun X d x0 x1 x2 σ Q => ex_P (i := .iinc 2 1) (len := 3) (by decide +kernel) rfl,
  fun X d x0 x1 x2 σ Q => q_goto (o := (-12)) (by decide +kernel) rfl⟩
set_option maxRecDepth 50000 in
theorem gX7_goesOn_17 : (∀ (X : tX) (d : Nat) (x0 : Nat) (x1 : Int32) (x2 : Int32) (σ : rS) (Q : tQ), Ex X d mX7_goesOn 17 [.ref x0, .int x1, .int x2] [] σ Q = Q none σ) := fun X d x0 x1 x2 σ Q => q_retV (by decide +kernel) rfl
set_option maxRecDepth 50000 in
theorem gX7_keeps_0 : (∀ (X : tX) (d : Nat) (x0 : Nat) (x1 : Nat) (σ : rS) (Q : tQ), Ex X d mX7_keeps 0 [.ref x0, .ref x1, rU] [] σ Q = Ex X d mX7_keeps 1 [.ref x0, .ref x1, rU] [.int 0] σ Q) ∧
  (∀ (X : tX) (d : Nat) (x0 : Nat) (x1 : Nat) (s0 : Int32) (σ : rS) (Q : tQ), Ex X d mX7_keeps 1 [.ref x0, .ref x1, rU] [.int s0] σ Q = Ex X d mX7_keeps 2 [.ref x0, .ref x1, .int s0] [] σ Q) := ⟨fun X d x0 x1 σ Q => ex_P (i := .iconst 0) (len := 1) (by decide +kernel) rfl,
  fun X d x0 x1 s0 σ Q => ex_P (i := .istore_n 2) (len := 1) (by decide +kernel) rfl⟩
set_option maxRecDepth 50000 in
theorem gX7_keeps_2 : (∀ (X : tX) (d : Nat) (x0 : Nat) (x1 : Nat) (x2 : Int32) (σ : rS) (Q : tQ), Ex X d mX7_keeps 2 [.ref x0, .ref x1, .int x2] [] σ Q = Ex X d mX7_keeps 3 [.ref x0, .ref x1, .int x2] [.int x2] σ Q) ∧
  (∀ (X : tX) (d : Nat) (x0 : Nat) (x1 : Nat) (x2 : Int32) (s0 : Int32) (σ : rS) (Q : tQ), Ex X d mX7_keeps 3 [.ref x0, .ref x1, .int x2] [.int s0] σ Q = Ex X d mX7_keeps 5 [.ref x0, .ref x1, .int x2] [.int 8, .int s0] σ Q) ∧
  (∀ (X : tX) (d : Nat) (x0 : Nat) (x1 : Nat) (x2 : Int32) (s0 : Int32) (s1 : Int32) (σ : rS) (Q : tQ), Ex X d mX7_keeps 5 [.ref x0, .ref x1, .int x2] [.int s0, .int s1] σ Q = (if s0 ≤ s1 then Ex X d mX7_keeps 53 [.ref x0, .ref x1, .int x2] [] σ Q else Ex X d mX7_keeps 8 [.ref x0, .ref x1, .int x2] [] σ Q)) := ⟨fun X d x0 x1 x2 σ Q => ex_P (i := .iload_n 2) (len := 1) (by decide +kernel) rfl,
  fun X d x0 x1 x2 s0 σ Q => ex_P (i := .bipush 8) (len := 2) (by decide +kernel) rfl,
  fun X d x0 x1 x2 s0 s1 σ Q => q_icmp_ge (o := 48) (by decide +kernel) rfl⟩
set_option maxRecDepth 50000 in
theorem gX7_keeps_8 : (∀ (X : tX) (d : Nat) (x0 : Nat) (x1 : Nat) (x2 : Int32) (σ : rS) (Q : tQ), Ex X d mX7_keeps 8 [.ref x0, .ref x1, .int x2] [] σ Q = Ex X d mX7_keeps 9 [.ref x0, .ref x1, .int x2] [.ref x1] σ Q) ∧
  (∀ (X : tX) (d : Nat) (x0 : Nat) (x1 : Nat) (x2 : Int32) (s0 : Nat) (σ : rS) (Q : tQ), Ex X d mX7_keeps 9 [.ref x0, .ref x1, .int x2] [.ref s0] σ Q = Ex X d mX7_keeps 10 [.ref x0, .ref x1, .int x2] [.int x2, .ref s0] σ Q) ∧
  (∀ (X : tX) (d : Nat) (x0 : Nat) (x1 : Nat) (x2 : Int32) (s0 : Int32) (s1 : Nat) (σ : rS) (Q : tQ), Ex X d mX7_keeps 10 [.ref x0, .ref x1, .int x2] [.int s0, .ref s1] σ Q = Ex X d mX7_keeps 11 [.ref x0, .ref x1, .int x2] [.ref x0, .int s0, .ref s1] σ Q) ∧
  (∀ (X : tX) (d : Nat) (x0 : Nat) (x1 : Nat) (x2 : Int32) (s0 : Nat) (s1 : Int32) (s2 : Nat) (T : tT) (I : tI) (J : tJ) (R : tR) (Q : tQ), Ex X d mX7_keeps 11 [.ref x0, .ref x1, .int x2] [.ref s0, .int s1, .ref s2] (T, I, J, R) Q = (T[s0]? = some (3, 7) ∧ Ex X d mX7_keeps 14 [.ref x0, .ref x1, .int x2] [va_rf (R s0 1), .int s1, .ref s2] (T, I, J, R) Q)) ∧
  (∀ (X : tX) (d : Nat) (x0 : Nat) (x1 : Nat) (x2 : Int32) (s0 : Nat) (s1 : Int32) (s2 : Nat) (σ : rS) (Q : tQ), Ex X d mX7_keeps 14 [.ref x0, .ref x1, .int x2] [.ref s0, .int s1, .ref s2] σ Q = Ex X d mX7_keeps 15 [.ref x0, .ref x1, .int x2] [.int x2, .ref s0, .int s1, .ref s2] σ Q) ∧
  (∀ (X : tX) (d : Nat) (x0 : Nat) (x1 : Nat) (x2 : Int32) (s0 : Int32) (s1 : Nat) (s2 : Int32) (s3 : Nat) (T : tT) (I : tI) (J : tJ) (R : tR) (Q : tQ), Ex X d mX7_keeps 15 [.ref x0, .ref x1, .int x2] [.int s0, .ref s1, .int s2, .ref s3] (T, I, J, R) Q = (rIn T s1 0 s0 ∧ Ex X d mX7_keeps 16 [.ref x0, .ref x1, .int x2] [.int (I s1 s0.toNatClampNeg), .int s2, .ref s3] (T, I, J, R) Q)) ∧
  (∀ (X : tX) (d : Nat) (x0 : Nat) (x1 : Nat) (x2 : Int32) (s0 : Int32) (s1 : Int32) (s2 : Nat) (T : tT) (I : tI) (J : tJ) (R : tR) (Q : tQ), Ex X d mX7_keeps 16 [.ref x0, .ref x1, .int x2] [.int s0, .int s1, .ref s2] (T, I, J, R) Q = (rIn T s2 0 s1 ∧ Ex X d mX7_keeps 17 [.ref x0, .ref x1, .int x2] [] (T, va_up I s2 (va_up (I s2) s1.toNatClampNeg s0), J, R) Q)) ∧
  (∀ (X : tX) (d : Nat) (x0 : Nat) (x1 : Nat) (x2 : Int32) (σ : rS) (Q : tQ), Ex X d mX7_keeps 17 [.ref x0, .ref x1, .int x2] [] σ Q = Ex X d mX7_keeps 18 [.ref x0, .ref x1, .int x2] [.ref x1] σ Q) ∧
  (∀ (X : tX) (d : Nat) (x0 : Nat) (x1 : Nat) (x2 : Int32) (s0 : Nat) (σ : rS) (Q : tQ), Ex X d mX7_keeps 18 [.ref x0, .ref x1, .int x2] [.ref s0] σ Q = Ex X d mX7_keeps 20 [.ref x0, .ref x1, .int x2] [.int 8, .ref s0] σ Q) ∧
  (∀ (X : tX) (d : Nat) (x0 : Nat) (x1 : Nat) (x2 : Int32) (s0 : Int32) (s1 : Nat) (σ : rS) (Q : tQ), Ex X d mX7_keeps 20 [.ref x0, .ref x1, .int x2] [.int s0, .ref s1] σ Q = Ex X d mX7_keeps 21 [.ref x0, .ref x1, .int x2] [.int x2, .int s0, .ref s1] σ Q) ∧
  (∀ (X : tX) (d : Nat) (x0 : Nat) (x1 : Nat) (x2 : Int32) (s0 : Int32) (s1 : Int32) (s2 : Nat) (σ : rS) (Q : tQ), Ex X d mX7_keeps 21 [.ref x0, .ref x1, .int x2] [.int s0, .int s1, .ref s2] σ Q = Ex X d mX7_keeps 22 [.ref x0, .ref x1, .int x2] [.int (s1 + s0), .ref s2] σ Q) ∧
  (∀ (X : tX) (d : Nat) (x0 : Nat) (x1 : Nat) (x2 : Int32) (s0 : Int32) (s1 : Nat) (σ : rS) (Q : tQ), Ex X d mX7_keeps 22 [.ref x0, .ref x1, .int x2] [.int s0, .ref s1] σ Q = Ex X d mX7_keeps 23 [.ref x0, .ref x1, .int x2] [.ref x0, .int s0, .ref s1] σ Q) ∧
  (∀ (X : tX) (d : Nat) (x0 : Nat) (x1 : Nat) (x2 : Int32) (s0 : Nat) (s1 : Int32) (s2 : Nat) (T : tT) (I : tI) (J : tJ) (R : tR) (Q : tQ), Ex X d mX7_keeps 23 [.ref x0, .ref x1, .int x2] [.ref s0, .int s1, .ref s2] (T, I, J, R) Q = (T[s0]? = some (3, 7) ∧ Ex X d mX7_keeps 26 [.ref x0, .ref x1, .int x2] [va_rf (R s0 1), .int s1, .ref s2] (T, I, J, R) Q)) ∧
  (∀ (X : tX) (d : Nat) (x0 : Nat) (x1 : Nat) (x2 : Int32) (s0 : Nat) (s1 : Int32) (s2 : Nat) (σ : rS) (Q : tQ), Ex X d mX7_keeps 26 [.ref x0, .ref x1, .int x2] [.ref s0, .int s1, .ref s2] σ Q = Ex X d mX7_keeps 28 [.ref x0, .ref x1, .int x2] [.int 16, .ref s0, .int s1, .ref s2] σ Q) ∧
  (∀ (X : tX) (d : Nat) (x0 : Nat) (x1 : Nat) (x2 : Int32) (s0 : Int32) (s1 : Nat) (s2 : Int32) (s3 : Nat) (σ : rS) (Q : tQ), Ex X d mX7_keeps 28 [.ref x0, .ref x1, .int x2] [.int s0, .ref s1, .int s2, .ref s3] σ Q = Ex X d mX7_keeps 29 [.ref x0, .ref x1, .int x2] [.int x2, .int s0, .ref s1, .int s2, .ref s3] σ Q) ∧
  (∀ (X : tX) (d : Nat) (x0 : Nat) (x1 : Nat) (x2 : Int32) (s0 : Int32) (s1 : Int32) (s2 : Nat) (s3 : Int32) (s4 : Nat) (σ : rS) (Q : tQ), Ex X d mX7_keeps 29 [.ref x0, .ref x1, .int x2] [.int s0, .int s1, .ref s2, .int s3, .ref s4] σ Q = Ex X d mX7_keeps 30 [.ref x0, .ref x1, .int x2] [.int (s1 + s0), .ref s2, .int s3, .ref s4] σ Q) ∧
  (∀ (X : tX) (d : Nat) (x0 : Nat) (x1 : Nat) (x2 : Int32) (s0 : Int32) (s1 : Nat) (s2 : Int32) (s3 : Nat) (T : tT) (I : tI) (J : tJ) (R : tR) (Q : tQ), Ex X d mX7_keeps 30 [.ref x0, .ref x1, .int x2] [.int s0, .ref s1, .int s2, .ref s3] (T, I, J, R) Q = (rIn T s1 0 s0 ∧ Ex X d mX7_keeps 31 [.ref x0, .ref x1, .int x2] [.int (I s1 s0.toNatClampNeg), .int s2, .ref s3] (T, I, J, R) Q)) ∧
  (∀ (X : tX) (d : Nat) (x0 : Nat) (x1 : Nat) (x2 : Int32) (s0 : Int32) (s1 : Int32) (s2 : Nat) (T : tT) (I : tI) (J : tJ) (R : tR) (Q : tQ), Ex X d mX7_keeps 31 [.ref x0, .ref x1, .int x2] [.int s0, .int s1, .ref s2] (T, I, J, R) Q = (rIn T s2 0 s1 ∧ Ex X d mX7_keeps 32 [.ref x0, .ref x1, .int x2] [] (T, va_up I s2 (va_up (I s2) s1.toNatClampNeg s0), J, R) Q)) ∧
  (∀ (X : tX) (d : Nat) (x0 : Nat) (x1 : Nat) (x2 : Int32) (σ : rS) (Q : tQ), Ex X d mX7_keeps 32 [.ref x0, .ref x1, .int x2] [] σ Q = Ex X d mX7_keeps 33 [.ref x0, .ref x1, .int x2] [.ref x1] σ Q) ∧
  (∀ (X : tX) (d : Nat) (x0 : Nat) (x1 : Nat) (x2 : Int32) (s0 : Nat) (σ : rS) (Q : tQ), Ex X d mX7_keeps 33 [.ref x0, .ref x1, .int x2] [.ref s0] σ Q = Ex X d mX7_keeps 35 [.ref x0, .ref x1, .int x2] [.int 16, .ref s0] σ Q) ∧
  (∀ (X : tX) (d : Nat) (x0 : Nat) (x1 : Nat) (x2 : Int32) (s0 : Int32) (s1 : Nat) (σ : rS) (Q : tQ), Ex X d mX7_keeps 35 [.ref x0, .ref x1, .int x2] [.int s0, .ref s1] σ Q = Ex X d mX7_keeps 36 [.ref x0, .ref x1, .int x2] [.int x2, .int s0, .ref s1] σ Q) ∧
  (∀ (X : tX) (d : Nat) (x0 : Nat) (x1 : Nat) (x2 : Int32) (s0 : Int32) (s1 : Int32) (s2 : Nat) (σ : rS) (Q : tQ), Ex X d mX7_keeps 36 [.ref x0, .ref x1, .int x2] [.int s0, .int s1, .ref s2] σ Q = Ex X d mX7_keeps 37 [.ref x0, .ref x1, .int x2] [.int (s1 + s0), .ref s2] σ Q) ∧
  (∀ (X : tX) (d : Nat) (x0 : Nat) (x1 : Nat) (x2 : Int32) (s0 : Int32) (s1 : Nat) (σ : rS) (Q : tQ), Ex X d mX7_keeps 37 [.ref x0, .ref x1, .int x2] [.int s0, .ref s1] σ Q = Ex X d mX7_keeps 38 [.ref x0, .ref x1, .int x2] [.ref x0, .int s0, .ref s1] σ Q) ∧
  (∀ (X : tX) (d : Nat) (x0 : Nat) (x1 : Nat) (x2 : Int32) (s0 : Nat) (s1 : Int32) (s2 : Nat) (T : tT) (I : tI) (J : tJ) (R : tR) (Q : tQ), Ex X d mX7_keeps 38 [.ref x0, .ref x1, .int x2] [.ref s0, .int s1, .ref s2] (T, I, J, R) Q = (T[s0]? = some (3, 7) ∧ Ex X d mX7_keeps 41 [.ref x0, .ref x1, .int x2] [va_rf (R s0 1), .int s1, .ref s2] (T, I, J, R) Q)) ∧
  (∀ (X : tX) (d : Nat) (x0 : Nat) (x1 : Nat) (x2 : Int32) (s0 : Nat) (s1 : Int32) (s2 : Nat) (σ : rS) (Q : tQ), Ex X d mX7_keeps 41 [.ref x0, .ref x1, .int x2] [.ref s0, .int s1, .ref s2] σ Q = Ex X d mX7_keeps 43 [.ref x0, .ref x1, .int x2] [.int 24, .ref s0, .int s1, .ref s2] σ Q) ∧
  (∀ (X : tX) (d : Nat) (x0 : Nat) (x1 : Nat) (x2 : Int32) (s0 : Int32) (s1 : Nat) (s2 : Int32) (s3 : Nat) (σ : rS) (Q : tQ), Ex X d mX7_keeps 43 [.ref x0, .ref x1, .int x2] [.int s0, .ref s1, .int s2, .ref s3] σ Q = Ex X d mX7_keeps 44 [.ref x0, .ref x1, .int x2] [.int x2, .int s0, .ref s1, .int s2, .ref s3] σ Q) ∧
  (∀ (X : tX) (d : Nat) (x0 : Nat) (x1 : Nat) (x2 : Int32) (s0 : Int32) (s1 : Int32) (s2 : Nat) (s3 : Int32) (s4 : Nat) (σ : rS) (Q : tQ), Ex X d mX7_keeps 44 [.ref x0, .ref x1, .int x2] [.int s0, .int s1, .ref s2, .int s3, .ref s4] σ Q = Ex X d mX7_keeps 45 [.ref x0, .ref x1, .int x2] [.int (s1 + s0), .ref s2, .int s3, .ref s4] σ Q) ∧
  (∀ (X : tX) (d : Nat) (x0 : Nat) (x1 : Nat) (x2 : Int32) (s0 : Int32) (s1 : Nat) (s2 : Int32) (s3 : Nat) (T : tT) (I : tI) (J : tJ) (R : tR) (Q : tQ), Ex X d mX7_keeps 45 [.ref x0, .ref x1, .int x2] [.int s0, .ref s1, .int s2, .ref s3] (T, I, J, R) Q = (rIn T s1 0 s0 ∧ Ex X d mX7_keeps 46 [.ref x0, .ref x1, .int x2] [.int (I s1 s0.toNatClampNeg), .int s2, .ref s3] (T, I, J, R) Q)) ∧
  (∀ (X : tX) (d : Nat) (x0 : Nat) (x1 : Nat) (x2 : Int32) (s0 : Int32) (s1 : Int32) (s2 : Nat) (T : tT) (I : tI) (J : tJ) (R : tR) (Q : tQ), Ex X d mX7_keeps 46 [.ref x0, .ref x1, .int x2] [.int s0, .int s1, .ref s2] (T, I, J, R) Q = (rIn T s2 0 s1 ∧ Ex X d mX7_keeps 47 [.ref x0, .ref x1, .int x2] [] (T, va_up I s2 (va_up (I s2) s1.toNatClampNeg s0), J, R) Q)) ∧
  (∀ (X : tX) (d : Nat) (x0 : Nat) (x1 : Nat) (x2 : Int32) (σ : rS) (Q : tQ), Ex X d mX7_keeps 47 [.ref x0, .ref x1, .int x2] [] σ Q = Ex X d mX7_keeps 50 [.ref x0, .ref x1, .int (x2 + 1)] [] σ Q) ∧
  (∀ (X : tX) (d : Nat) (x0 : Nat) (x1 : Nat) (x2 : Int32) (σ : rS) (Q : tQ), Ex X d mX7_keeps 50 [.ref x0, .ref x1, .int x2] [] σ Q = Ex X d mX7_keeps 2 [.ref x0, .ref x1, .int x2] [] σ Q) := ⟨fun X d x0 x1 x2 σ Q => ex_P (i := .aload_n 1) (len := 1) (by decide +kernel) rfl,
  fun X d x0 x1 x2 s0 σ Q => ex_P (i := .iload_n 2) (len := 1) (by decide +kernel) rfl,
  fun X d x0 x1 x2 s0 s1 σ Q => ex_P (i := .aload_n 0) (len := 1) (by decide +kernel) rfl,
  fun X d x0 x1 x2 s0 s1 s2 T I J R Q => q_getR (k := 9) (by decide +kernel) rfl rfl,
  fun X d x0 x1 x2 s0 s1 s2 σ Q => ex_P (i := .iload_n 2) (len := 1) (by decide +kernel) rfl,
  fun X d x0 x1 x2 s0 s1 s2 s3 T I J R Q => q_iald (by decide +kernel),
  fun X d x0 x1 x2 s0 s1 s2 T I J R Q => q_iast (by decide +kernel),
  fun X d x0 x1 x2 σ Q => ex_P (i := .aload_n 1) (len := 1) (by decide +kernel) rfl,
  fun X d x0 x1 x2 s0 σ Q => ex_P (i := .bipush 8) (len := 2) (by decide +kernel) rfl,
  fun X d x0 x1 x2 s0 s1 σ Q => ex_P (i := .iload_n 2) (len := 1) (by decide +kernel) rfl,
  fun X d x0 x1 x2 s0 s1 s2 σ Q => ex_P (i := .iadd) (len := 1) (by decide +kernel) rfl,
  fun X d x0 x1 x2 s0 s1 σ Q => ex_P (i := .aload_n 0) (len := 1) (by decide +kernel) rfl,
  fun X d x0 x1 x2 s0 s1 s2 T I J R Q => q_getR (k := 9) (by decide +kernel) rfl rfl,
  fun X d x0 x1 x2 s0 s1 s2 σ Q => ex_P (i := .bipush 16) (len := 2) (by decide +kernel) rfl,
  fun X d x0 x1 x2 s0 s1 s2 s3 σ Q => ex_P (i := .iload_n 2) (len := 1) (by decide +kernel) rfl,
  fun X d x0 x1 x2 s0 s1 s2 s3 s4 σ Q => ex_P (i := .iadd) (len := 1) (by decide +kernel) rfl,
  fun X d x0 x1 x2 s0 s1 s2 s3 T I J R Q => q_iald (by decide +kernel),
  fun X d x0 x1 x2 s0 s1 s2 T I J R Q => q_iast (by decide +kernel),
  fun X d x0 x1 x2 σ Q => ex_P (i := .aload_n 1) (len := 1) (by decide +kernel) rfl,
  fun X d x0 x1 x2 s0 σ Q => ex_P (i := .bipush 16) (len := 2) (by decide +kernel) rfl,
  fun X d x0 x1 x2 s0 s1 σ Q => ex_P (i := .iload_n 2) (len := 1) (by decide +kernel) rfl,
  fun X d x0 x1 x2 s0 s1 s2 σ Q => ex_P (i := .iadd) (len := 1) (by decide +kernel) rfl,
  fun X d x0 x1 x2 s0 s1 σ Q => ex_P (i := .aload_n 0) (len := 1) (by decide +kernel) rfl,
  fun X d x0 x1 x2 s0 s1 s2 T I J R Q => q_getR (k := 9) (by decide +kernel) rfl rfl,
  fun X d x0 x1 x2 s0 s1 s2 σ Q => ex_P (i := .bipush 24) (len := 2) (by decide +kernel) rfl,
  fun X d x0 x1 x2 s0 s1 s2 s3 σ Q => ex_P (i := .iload_n 2) (len := 1) (by decide +kernel) rfl,
  fun X d x0 x1 x2 s0 s1 s2 s3 s4 σ Q => ex_P (i := .iadd) (len := 1) (by decide +kernel) rfl,
  fun X d x0 x1 x2 s0 s1 s2 s3 T I J R Q => q_iald (by decide +kernel),
  fun X d x0 x1 x2 s0 s1 s2 T I J R Q => q_iast (by decide +kernel),
  fun X d x0 x1 x2 σ Q => ex_P (i := .iinc 2 1) (len := 3) (by decide +kernel) rfl,
  fun X d x0 x1 x2 σ Q => q_goto (o := (-48)) (by decide +kernel) rfl⟩
set_option maxRecDepth 50000 in
theorem gX7_keeps_53 : (∀ (X : tX) (d : Nat) (x0 : Nat) (x1 : Nat) (x2 : Int32) (σ : rS) (Q : tQ), Ex X d mX7_keeps 53 [.ref x0, .ref x1, .int x2] [] σ Q = Ex X d mX7_keeps 54 [.ref x0, .ref x1, .int x2] [.ref x1] σ Q) ∧
  (∀ (X : tX) (d : Nat) (x0 : Nat) (x1 : Nat) (x2 : Int32) (s0 : Nat) (σ : rS) (Q : tQ), Ex X d mX7_keeps 54 [.ref x0, .ref x1, .int x2] [.ref s0] σ Q = Ex X d mX7_keeps 56 [.ref x0, .ref x1, .int x2] [.int 24, .ref s0] σ Q) ∧
  (∀ (X : tX) (d : Nat) (x0 : Nat) (x1 : Nat) (x2 : Int32) (s0 : Int32) (s1 : Nat) (σ : rS) (Q : tQ), Ex X d mX7_keeps 56 [.ref x0, .ref x1, .int x2] [.int s0, .ref s1] σ Q = Ex X d mX7_keeps 57 [.ref x0, .ref x1, .int x2] [.ref x0, .int s0, .ref s1] σ Q) ∧
  (∀ (X : tX) (d : Nat) (x0 : Nat) (x1 : Nat) (x2 : Int32) (s0 : Nat) (s1 : Int32) (s2 : Nat) (T : tT) (I : tI) (J : tJ) (R : tR) (Q : tQ), Ex X d mX7_keeps 57 [.ref x0, .ref x1, .int x2] [.ref s0, .int s1, .ref s2] (T, I, J, R) Q = (T[s0]? = some (3, 7) ∧ Ex X d mX7_keeps 60 [.ref x0, .ref x1, .int x2] [va_rf (R s0 3), .int s1, .ref s2] (T, I, J, R) Q)) ∧
  (∀ (X : tX) (d : Nat) (x0 : Nat) (x1 : Nat) (x2 : Int32) (s0 : Nat) (s1 : Int32) (s2 : Nat) (σ : rS) (Q : tQ), Ex X d mX7_keeps 60 [.ref x0, .ref x1, .int x2] [.ref s0, .int s1, .ref s2] σ Q = Ex X d mX7_keeps 61 [.ref x0, .ref x1, .int x2] [.int 1, .ref s0, .int s1, .ref s2] σ Q) ∧
  (∀ (X : tX) (d : Nat) (x0 : Nat) (x1 : Nat) (x2 : Int32) (s0 : Int32) (s1 : Nat) (s2 : Int32) (s3 : Nat) (T : tT) (I : tI) (J : tJ) (R : tR) (Q : tQ), Ex X d mX7_keeps 61 [.ref x0, .ref x1, .int x2] [.int s0, .ref s1, .int s2, .ref s3] (T, I, J, R) Q = (rIn T s1 0 s0 ∧ Ex X d mX7_keeps 62 [.ref x0, .ref x1, .int x2] [.int (I s1 s0.toNatClampNeg), .int s2, .ref s3] (T, I, J, R) Q)) ∧
  (∀ (X : tX) (d : Nat) (x0 : Nat) (x1 : Nat) (x2 : Int32) (s0 : Int32) (s1 : Int32) (s2 : Nat) (T : tT) (I : tI) (J : tJ) (R : tR) (Q : tQ), Ex X d mX7_keeps 62 [.ref x0, .ref x1, .int x2] [.int s0, .int s1, .ref s2] (T, I, J, R) Q = (rIn T s2 0 s1 ∧ Ex X d mX7_keeps 63 [.ref x0, .ref x1, .int x2] [] (T, va_up I s2 (va_up (I s2) s1.toNatClampNeg s0), J, R) Q)) ∧
  (∀ (X : tX) (d : Nat) (x0 : Nat) (x1 : Nat) (x2 : Int32) (σ : rS) (Q : tQ), Ex X d mX7_keeps 63 [.ref x0, .ref x1, .int x2] [] σ Q = Q none σ) := ⟨fun X d x0 x1 x2 σ Q => ex_P (i := .aload_n 1) (len := 1) (by decide +kernel) rfl,
  fun X d x0 x1 x2 s0 σ Q => ex_P (i := .bipush 24) (len := 2) (by decide +kernel) rfl,
  fun X d x0 x1 x2 s0 s1 σ Q => ex_P (i := .aload_n 0) (len := 1) (by decide +kernel) rfl,
  fun X d x0 x1 x2 s0 s1 s2 T I J R Q => q_getR (k := 18) (by decide +kernel) rfl rfl,
  fun X d x0 x1 x2 s0 s1 s2 σ Q => ex_P (i := .iconst 1) (len := 1) (by decide +kernel) rfl,
  fun X d x0 x1 x2 s0 s1 s2 s3 T I J R Q => q_iald (by decide +kernel),
  fun X d x0 x1 x2 s0 s1 s2 T I J R Q => q_iast (by decide +kernel),
  fun X d x0 x1 x2 σ Q => q_retV (by decide +kernel) rfl⟩
set_option maxRecDepth 50000 in
theorem gX7_laysBack_0 : (∀ (X : tX) (d : Nat) (x0 : Nat) (x1 : Nat) (x2 : Int32) (σ : rS) (Q : tQ), Ex X d mX7_laysBack 0 [.ref x0, .ref x1, .int x2, rU] [] σ Q = Ex X d mX7_laysBack 1 [.ref x0, .ref x1, .int x2, rU] [.int 0] σ Q) ∧
  (∀ (X : tX) (d : Nat) (x0 : Nat) (x1 : Nat) (x2 : Int32) (s0 : Int32) (σ : rS) (Q : tQ), Ex X d mX7_laysBack 1 [.ref x0, .ref x1, .int x2, rU] [.int s0] σ Q = Ex X d mX7_laysBack 2 [.ref x0, .ref x1, .int x2, .int s0] [] σ Q) := ⟨fun X d x0 x1 x2 σ Q => ex_P (i := .iconst 0) (len := 1) (by decide +kernel) rfl,
  fun X d x0 x1 x2 s0 σ Q => ex_P (i := .istore_n 3) (len := 1) (by decide +kernel) rfl⟩
set_option maxRecDepth 50000 in
theorem gX7_laysBack_2 : (∀ (X : tX) (d : Nat) (x0 : Nat) (x1 : Nat) (x2 : Int32) (x3 : Int32) (σ : rS) (Q : tQ), Ex X d mX7_laysBack 2 [.ref x0, .ref x1, .int x2, .int x3] [] σ Q = Ex X d mX7_laysBack 3 [.ref x0, .ref x1, .int x2, .int x3] [.int x3] σ Q) ∧
  (∀ (X : tX) (d : Nat) (x0 : Nat) (x1 : Nat) (x2 : Int32) (x3 : Int32) (s0 : Int32) (σ : rS) (Q : tQ), Ex X d mX7_laysBack 3 [.ref x0, .ref x1, .int x2, .int x3] [.int s0] σ Q = Ex X d mX7_laysBack 4 [.ref x0, .ref x1, .int x2, .int x3] [.int x2, .int s0] σ Q) ∧
  (∀ (X : tX) (d : Nat) (x0 : Nat) (x1 : Nat) (x2 : Int32) (x3 : Int32) (s0 : Int32) (s1 : Int32) (σ : rS) (Q : tQ), Ex X d mX7_laysBack 4 [.ref x0, .ref x1, .int x2, .int x3] [.int s0, .int s1] σ Q = (if s0 ≤ s1 then Ex X d mX7_laysBack 52 [.ref x0, .ref x1, .int x2, .int x3] [] σ Q else Ex X d mX7_laysBack 7 [.ref x0, .ref x1, .int x2, .int x3] [] σ Q)) := ⟨fun X d x0 x1 x2 x3 σ Q => ex_P (i := .iload_n 3) (len := 1) (by decide +kernel) rfl,
  fun X d x0 x1 x2 x3 s0 σ Q => ex_P (i := .iload_n 2) (len := 1) (by decide +kernel) rfl,
  fun X d x0 x1 x2 x3 s0 s1 σ Q => q_icmp_ge (o := 48) (by decide +kernel) rfl⟩
set_option maxRecDepth 50000 in
theorem gX7_laysBack_7 : (∀ (X : tX) (d : Nat) (x0 : Nat) (x1 : Nat) (x2 : Int32) (x3 : Int32) (σ : rS) (Q : tQ), Ex X d mX7_laysBack 7 [.ref x0, .ref x1, .int x2, .int x3] [] σ Q = Ex X d mX7_laysBack 8 [.ref x0, .ref x1, .int x2, .int x3] [.ref x0] σ Q) ∧
  (∀ (X : tX) (d : Nat) (x0 : Nat) (x1 : Nat) (x2 : Int32) (x3 : Int32) (s0 : Nat) (T : tT) (I : tI) (J : tJ) (R : tR) (Q : tQ), Ex X d mX7_laysBack 8 [.ref x0, .ref x1, .int x2, .int x3] [.ref s0] (T, I, J, R) Q = (T[s0]? = some (3, 7) ∧ Ex X d mX7_laysBack 11 [.ref x0, .ref x1, .int x2, .int x3] [va_rf (R s0 1)] (T, I, J, R) Q)) ∧
  (∀ (X : tX) (d : Nat) (x0 : Nat) (x1 : Nat) (x2 : Int32) (x3 : Int32) (s0 : Nat) (σ : rS) (Q : tQ), Ex X d mX7_laysBack 11 [.ref x0, .ref x1, .int x2, .int x3] [.ref s0] σ Q = Ex X d mX7_laysBack 12 [.ref x0, .ref x1, .int x2, .int x3] [.int x3, .ref s0] σ Q) ∧
  (∀ (X : tX) (d : Nat) (x0 : Nat) (x1 : Nat) (x2 : Int32) (x3 : Int32) (s0 : Int32) (s1 : Nat) (σ : rS) (Q : tQ), Ex X d mX7_laysBack 12 [.ref x0, .ref x1, .int x2, .int x3] [.int s0, .ref s1] σ Q = Ex X d mX7_laysBack 13 [.ref x0, .ref x1, .int x2, .int x3] [.ref x1, .int s0, .ref s1] σ Q) ∧
  (∀ (X : tX) (d : Nat) (x0 : Nat) (x1 : Nat) (x2 : Int32) (x3 : Int32) (s0 : Nat) (s1 : Int32) (s2 : Nat) (σ : rS) (Q : tQ), Ex X d mX7_laysBack 13 [.ref x0, .ref x1, .int x2, .int x3] [.ref s0, .int s1, .ref s2] σ Q = Ex X d mX7_laysBack 14 [.ref x0, .ref x1, .int x2, .int x3] [.int x3, .ref s0, .int s1, .ref s2] σ Q) ∧
  (∀ (X : tX) (d : Nat) (x0 : Nat) (x1 : Nat) (x2 : Int32) (x3 : Int32) (s0 : Int32) (s1 : Nat) (s2 : Int32) (s3 : Nat) (T : tT) (I : tI) (J : tJ) (R : tR) (Q : tQ), Ex X d mX7_laysBack 14 [.ref x0, .ref x1, .int x2, .int x3] [.int s0, .ref s1, .int s2, .ref s3] (T, I, J, R) Q = (rIn T s1 0 s0 ∧ Ex X d mX7_laysBack 15 [.ref x0, .ref x1, .int x2, .int x3] [.int (I s1 s0.toNatClampNeg), .int s2, .ref s3] (T, I, J, R) Q)) ∧
  (∀ (X : tX) (d : Nat) (x0 : Nat) (x1 : Nat) (x2 : Int32) (x3 : Int32) (s0 : Int32) (s1 : Int32) (s2 : Nat) (T : tT) (I : tI) (J : tJ) (R : tR) (Q : tQ), Ex X d mX7_laysBack 15 [.ref x0, .ref x1, .int x2, .int x3] [.int s0, .int s1, .ref s2] (T, I, J, R) Q = (rIn T s2 0 s1 ∧ Ex X d mX7_laysBack 16 [.ref x0, .ref x1, .int x2, .int x3] [] (T, va_up I s2 (va_up (I s2) s1.toNatClampNeg s0), J, R) Q)) ∧
  (∀ (X : tX) (d : Nat) (x0 : Nat) (x1 : Nat) (x2 : Int32) (x3 : Int32) (σ : rS) (Q : tQ), Ex X d mX7_laysBack 16 [.ref x0, .ref x1, .int x2, .int x3] [] σ Q = Ex X d mX7_laysBack 17 [.ref x0, .ref x1, .int x2, .int x3] [.ref x0] σ Q) ∧
  (∀ (X : tX) (d : Nat) (x0 : Nat) (x1 : Nat) (x2 : Int32) (x3 : Int32) (s0 : Nat) (T : tT) (I : tI) (J : tJ) (R : tR) (Q : tQ), Ex X d mX7_laysBack 17 [.ref x0, .ref x1, .int x2, .int x3] [.ref s0] (T, I, J, R) Q = (T[s0]? = some (3, 7) ∧ Ex X d mX7_laysBack 20 [.ref x0, .ref x1, .int x2, .int x3] [va_rf (R s0 1)] (T, I, J, R) Q)) ∧
  (∀ (X : tX) (d : Nat) (x0 : Nat) (x1 : Nat) (x2 : Int32) (x3 : Int32) (s0 : Nat) (σ : rS) (Q : tQ), Ex X d mX7_laysBack 20 [.ref x0, .ref x1, .int x2, .int x3] [.ref s0] σ Q = Ex X d mX7_laysBack 22 [.ref x0, .ref x1, .int x2, .int x3] [.int 16, .ref s0] σ Q) ∧
  (∀ (X : tX) (d : Nat) (x0 : Nat) (x1 : Nat) (x2 : Int32) (x3 : Int32) (s0 : Int32) (s1 : Nat) (σ : rS) (Q : tQ), Ex X d mX7_laysBack 22 [.ref x0, .ref x1, .int x2, .int x3] [.int s0, .ref s1] σ Q = Ex X d mX7_laysBack 23 [.ref x0, .ref x1, .int x2, .int x3] [.int x3, .int s0, .ref s1] σ Q) ∧
  (∀ (X : tX) (d : Nat) (x0 : Nat) (x1 : Nat) (x2 : Int32) (x3 : Int32) (s0 : Int32) (s1 : Int32) (s2 : Nat) (σ : rS) (Q : tQ), Ex X d mX7_laysBack 23 [.ref x0, .ref x1, .int x2, .int x3] [.int s0, .int s1, .ref s2] σ Q = Ex X d mX7_laysBack 24 [.ref x0, .ref x1, .int x2, .int x3] [.int (s1 + s0), .ref s2] σ Q) ∧
  (∀ (X : tX) (d : Nat) (x0 : Nat) (x1 : Nat) (x2 : Int32) (x3 : Int32) (s0 : Int32) (s1 : Nat) (σ : rS) (Q : tQ), Ex X d mX7_laysBack 24 [.ref x0, .ref x1, .int x2, .int x3] [.int s0, .ref s1] σ Q = Ex X d mX7_laysBack 25 [.ref x0, .ref x1, .int x2, .int x3] [.ref x1, .int s0, .ref s1] σ Q) ∧
  (∀ (X : tX) (d : Nat) (x0 : Nat) (x1 : Nat) (x2 : Int32) (x3 : Int32) (s0 : Nat) (s1 : Int32) (s2 : Nat) (σ : rS) (Q : tQ), Ex X d mX7_laysBack 25 [.ref x0, .ref x1, .int x2, .int x3] [.ref s0, .int s1, .ref s2] σ Q = Ex X d mX7_laysBack 27 [.ref x0, .ref x1, .int x2, .int x3] [.int 8, .ref s0, .int s1, .ref s2] σ Q) ∧
  (∀ (X : tX) (d : Nat) (x0 : Nat) (x1 : Nat) (x2 : Int32) (x3 : Int32) (s0 : Int32) (s1 : Nat) (s2 : Int32) (s3 : Nat) (σ : rS) (Q : tQ), Ex X d mX7_laysBack 27 [.ref x0, .ref x1, .int x2, .int x3] [.int s0, .ref s1, .int s2, .ref s3] σ Q = Ex X d mX7_laysBack 28 [.ref x0, .ref x1, .int x2, .int x3] [.int x3, .int s0, .ref s1, .int s2, .ref s3] σ Q) ∧
  (∀ (X : tX) (d : Nat) (x0 : Nat) (x1 : Nat) (x2 : Int32) (x3 : Int32) (s0 : Int32) (s1 : Int32) (s2 : Nat) (s3 : Int32) (s4 : Nat) (σ : rS) (Q : tQ), Ex X d mX7_laysBack 28 [.ref x0, .ref x1, .int x2, .int x3] [.int s0, .int s1, .ref s2, .int s3, .ref s4] σ Q = Ex X d mX7_laysBack 29 [.ref x0, .ref x1, .int x2, .int x3] [.int (s1 + s0), .ref s2, .int s3, .ref s4] σ Q) ∧
  (∀ (X : tX) (d : Nat) (x0 : Nat) (x1 : Nat) (x2 : Int32) (x3 : Int32) (s0 : Int32) (s1 : Nat) (s2 : Int32) (s3 : Nat) (T : tT) (I : tI) (J : tJ) (R : tR) (Q : tQ), Ex X d mX7_laysBack 29 [.ref x0, .ref x1, .int x2, .int x3] [.int s0, .ref s1, .int s2, .ref s3] (T, I, J, R) Q = (rIn T s1 0 s0 ∧ Ex X d mX7_laysBack 30 [.ref x0, .ref x1, .int x2, .int x3] [.int (I s1 s0.toNatClampNeg), .int s2, .ref s3] (T, I, J, R) Q)) ∧
  (∀ (X : tX) (d : Nat) (x0 : Nat) (x1 : Nat) (x2 : Int32) (x3 : Int32) (s0 : Int32) (s1 : Int32) (s2 : Nat) (T : tT) (I : tI) (J : tJ) (R : tR) (Q : tQ), Ex X d mX7_laysBack 30 [.ref x0, .ref x1, .int x2, .int x3] [.int s0, .int s1, .ref s2] (T, I, J, R) Q = (rIn T s2 0 s1 ∧ Ex X d mX7_laysBack 31 [.ref x0, .ref x1, .int x2, .int x3] [] (T, va_up I s2 (va_up (I s2) s1.toNatClampNeg s0), J, R) Q)) ∧
  (∀ (X : tX) (d : Nat) (x0 : Nat) (x1 : Nat) (x2 : Int32) (x3 : Int32) (σ : rS) (Q : tQ), Ex X d mX7_laysBack 31 [.ref x0, .ref x1, .int x2, .int x3] [] σ Q = Ex X d mX7_laysBack 32 [.ref x0, .ref x1, .int x2, .int x3] [.ref x0] σ Q) ∧
  (∀ (X : tX) (d : Nat) (x0 : Nat) (x1 : Nat) (x2 : Int32) (x3 : Int32) (s0 : Nat) (T : tT) (I : tI) (J : tJ) (R : tR) (Q : tQ), Ex X d mX7_laysBack 32 [.ref x0, .ref x1, .int x2, .int x3] [.ref s0] (T, I, J, R) Q = (T[s0]? = some (3, 7) ∧ Ex X d mX7_laysBack 35 [.ref x0, .ref x1, .int x2, .int x3] [va_rf (R s0 1)] (T, I, J, R) Q)) ∧
  (∀ (X : tX) (d : Nat) (x0 : Nat) (x1 : Nat) (x2 : Int32) (x3 : Int32) (s0 : Nat) (σ : rS) (Q : tQ), Ex X d mX7_laysBack 35 [.ref x0, .ref x1, .int x2, .int x3] [.ref s0] σ Q = Ex X d mX7_laysBack 37 [.ref x0, .ref x1, .int x2, .int x3] [.int 24, .ref s0] σ Q) ∧
  (∀ (X : tX) (d : Nat) (x0 : Nat) (x1 : Nat) (x2 : Int32) (x3 : Int32) (s0 : Int32) (s1 : Nat) (σ : rS) (Q : tQ), Ex X d mX7_laysBack 37 [.ref x0, .ref x1, .int x2, .int x3] [.int s0, .ref s1] σ Q = Ex X d mX7_laysBack 38 [.ref x0, .ref x1, .int x2, .int x3] [.int x3, .int s0, .ref s1] σ Q) ∧
  (∀ (X : tX) (d : Nat) (x0 : Nat) (x1 : Nat) (x2 : Int32) (x3 : Int32) (s0 : Int32) (s1 : Int32) (s2 : Nat) (σ : rS) (Q : tQ), Ex X d mX7_laysBack 38 [.ref x0, .ref x1, .int x2, .int x3] [.int s0, .int s1, .ref s2] σ Q = Ex X d mX7_laysBack 39 [.ref x0, .ref x1, .int x2, .int x3] [.int (s1 + s0), .ref s2] σ Q) ∧
  (∀ (X : tX) (d : Nat) (x0 : Nat) (x1 : Nat) (x2 : Int32) (x3 : Int32) (s0 : Int32) (s1 : Nat) (σ : rS) (Q : tQ), Ex X d mX7_laysBack 39 [.ref x0, .ref x1, .int x2, .int x3] [.int s0, .ref s1] σ Q = Ex X d mX7_laysBack 40 [.ref x0, .ref x1, .int x2, .int x3] [.ref x1, .int s0, .ref s1] σ Q) ∧
  (∀ (X : tX) (d : Nat) (x0 : Nat) (x1 : Nat) (x2 : Int32) (x3 : Int32) (s0 : Nat) (s1 : Int32) (s2 : Nat) (σ : rS) (Q : tQ), Ex X d mX7_laysBack 40 [.ref x0, .ref x1, .int x2, .int x3] [.ref s0, .int s1, .ref s2] σ Q = Ex X d mX7_laysBack 42 [.ref x0, .ref x1, .int x2, .int x3] [.int 16, .ref s0, .int s1, .ref s2] σ Q) ∧
  (∀ (X : tX) (d : Nat) (x0 : Nat) (x1 : Nat) (x2 : Int32) (x3 : Int32) (s0 : Int32) (s1 : Nat) (s2 : Int32) (s3 : Nat) (σ : rS) (Q : tQ), Ex X d mX7_laysBack 42 [.ref x0, .ref x1, .int x2, .int x3] [.int s0, .ref s1, .int s2, .ref s3] σ Q = Ex X d mX7_laysBack 43 [.ref x0, .ref x1, .int x2, .int x3] [.int x3, .int s0, .ref s1, .int s2, .ref s3] σ Q) ∧
  (∀ (X : tX) (d : Nat) (x0 : Nat) (x1 : Nat) (x2 : Int32) (x3 : Int32) (s0 : Int32) (s1 : Int32) (s2 : Nat) (s3 : Int32) (s4 : Nat) (σ : rS) (Q : tQ), Ex X d mX7_laysBack 43 [.ref x0, .ref x1, .int x2, .int x3] [.int s0, .int s1, .ref s2, .int s3, .ref s4] σ Q = Ex X d mX7_laysBack 44 [.ref x0, .ref x1, .int x2, .int x3] [.int (s1 + s0), .ref s2, .int s3, .ref s4] σ Q) ∧
  (∀ (X : tX) (d : Nat) (x0 : Nat) (x1 : Nat) (x2 : Int32) (x3 : Int32) (s0 : Int32) (s1 : Nat) (s2 : Int32) (s3 : Nat) (T : tT) (I : tI) (J : tJ) (R : tR) (Q : tQ), Ex X d mX7_laysBack 44 [.ref x0, .ref x1, .int x2, .int x3] [.int s0, .ref s1, .int s2, .ref s3] (T, I, J, R) Q = (rIn T s1 0 s0 ∧ Ex X d mX7_laysBack 45 [.ref x0, .ref x1, .int x2, .int x3] [.int (I s1 s0.toNatClampNeg), .int s2, .ref s3] (T, I, J, R) Q)) ∧
  (∀ (X : tX) (d : Nat) (x0 : Nat) (x1 : Nat) (x2 : Int32) (x3 : Int32) (s0 : Int32) (s1 : Int32) (s2 : Nat) (T : tT) (I : tI) (J : tJ) (R : tR) (Q : tQ), Ex X d mX7_laysBack 45 [.ref x0, .ref x1, .int x2, .int x3] [.int s0, .int s1, .ref s2] (T, I, J, R) Q = (rIn T s2 0 s1 ∧ Ex X d mX7_laysBack 46 [.ref x0, .ref x1, .int x2, .int x3] [] (T, va_up I s2 (va_up (I s2) s1.toNatClampNeg s0), J, R) Q)) ∧
  (∀ (X : tX) (d : Nat) (x0 : Nat) (x1 : Nat) (x2 : Int32) (x3 : Int32) (σ : rS) (Q : tQ), Ex X d mX7_laysBack 46 [.ref x0, .ref x1, .int x2, .int x3] [] σ Q = Ex X d mX7_laysBack 49 [.ref x0, .ref x1, .int x2, .int (x3 + 1)] [] σ Q) ∧
  (∀ (X : tX) (d : Nat) (x0 : Nat) (x1 : Nat) (x2 : Int32) (x3 : Int32) (σ : rS) (Q : tQ), Ex X d mX7_laysBack 49 [.ref x0, .ref x1, .int x2, .int x3] [] σ Q = Ex X d mX7_laysBack 2 [.ref x0, .ref x1, .int x2, .int x3] [] σ Q) := ⟨fun X d x0 x1 x2 x3 σ Q => ex_P (i := .aload_n 0) (len := 1) (by decide +kernel) rfl,
  fun X d x0 x1 x2 x3 s0 T I J R Q => q_getR (k := 9) (by decide +kernel) rfl rfl,
  fun X d x0 x1 x2 x3 s0 σ Q => ex_P (i := .iload_n 3) (len := 1) (by decide +kernel) rfl,
  fun X d x0 x1 x2 x3 s0 s1 σ Q => ex_P (i := .aload_n 1) (len := 1) (by decide +kernel) rfl,
  fun X d x0 x1 x2 x3 s0 s1 s2 σ Q => ex_P (i := .iload_n 3) (len := 1) (by decide +kernel) rfl,
  fun X d x0 x1 x2 x3 s0 s1 s2 s3 T I J R Q => q_iald (by decide +kernel),
  fun X d x0 x1 x2 x3 s0 s1 s2 T I J R Q => q_iast (by decide +kernel),
  fun X d x0 x1 x2 x3 σ Q => ex_P (i := .aload_n 0) (len := 1) (by decide +kernel) rfl,
  fun X d x0 x1 x2 x3 s0 T I J R Q => q_getR (k := 9) (by decide +kernel) rfl rfl,
  fun X d x0 x1 x2 x3 s0 σ Q => ex_P (i := .bipush 16) (len := 2) (by decide +kernel) rfl,
  fun X d x0 x1 x2 x3 s0 s1 σ Q => ex_P (i := .iload_n 3) (len := 1) (by decide +kernel) rfl,
  fun X d x0 x1 x2 x3 s0 s1 s2 σ Q => ex_P (i := .iadd) (len := 1) (by decide +kernel) rfl,
  fun X d x0 x1 x2 x3 s0 s1 σ Q => ex_P (i := .aload_n 1) (len := 1) (by decide +kernel) rfl,
  fun X d x0 x1 x2 x3 s0 s1 s2 σ Q => ex_P (i := .bipush 8) (len := 2) (by decide +kernel) rfl,
  fun X d x0 x1 x2 x3 s0 s1 s2 s3 σ Q => ex_P (i := .iload_n 3) (len := 1) (by decide +kernel) rfl,
  fun X d x0 x1 x2 x3 s0 s1 s2 s3 s4 σ Q => ex_P (i := .iadd) (len := 1) (by decide +kernel) rfl,
  fun X d x0 x1 x2 x3 s0 s1 s2 s3 T I J R Q => q_iald (by decide +kernel),
  fun X d x0 x1 x2 x3 s0 s1 s2 T I J R Q => q_iast (by decide +kernel),
  fun X d x0 x1 x2 x3 σ Q => ex_P (i := .aload_n 0) (len := 1) (by decide +kernel) rfl,
  fun X d x0 x1 x2 x3 s0 T I J R Q => q_getR (k := 9) (by decide +kernel) rfl rfl,
  fun X d x0 x1 x2 x3 s0 σ Q => ex_P (i := .bipush 24) (len := 2) (by decide +kernel) rfl,
  fun X d x0 x1 x2 x3 s0 s1 σ Q => ex_P (i := .iload_n 3) (len := 1) (by decide +kernel) rfl,
  fun X d x0 x1 x2 x3 s0 s1 s2 σ Q => ex_P (i := .iadd) (len := 1) (by decide +kernel) rfl,
  fun X d x0 x1 x2 x3 s0 s1 σ Q => ex_P (i := .aload_n 1) (len := 1) (by decide +kernel) rfl,
  fun X d x0 x1 x2 x3 s0 s1 s2 σ Q => ex_P (i := .bipush 16) (len := 2) (by decide +kernel) rfl,
  fun X d x0 x1 x2 x3 s0 s1 s2 s3 σ Q => ex_P (i := .iload_n 3) (len := 1) (by decide +kernel) rfl,
  fun X d x0 x1 x2 x3 s0 s1 s2 s3 s4 σ Q => ex_P (i := .iadd) (len := 1) (by decide +kernel) rfl,
  fun X d x0 x1 x2 x3 s0 s1 s2 s3 T I J R Q => q_iald (by decide +kernel),
  fun X d x0 x1 x2 x3 s0 s1 s2 T I J R Q => q_iast (by decide +kernel),
  fun X d x0 x1 x2 x3 σ Q => ex_P (i := .iinc 3 1) (len := 3) (by decide +kernel) rfl,
  fun X d x0 x1 x2 x3 σ Q => q_goto (o := (-47)) (by decide +kernel) rfl⟩
set_option maxRecDepth 50000 in
theorem gX7_laysBack_52 : (∀ (X : tX) (d : Nat) (x0 : Nat) (x1 : Nat) (x2 : Int32) (x3 : Int32) (σ : rS) (Q : tQ), Ex X d mX7_laysBack 52 [.ref x0, .ref x1, .int x2, .int x3] [] σ Q = Ex X d mX7_laysBack 53 [.ref x0, .ref x1, .int x2, .int x3] [.ref x0] σ Q) ∧
  (∀ (X : tX) (d : Nat) (x0 : Nat) (x1 : Nat) (x2 : Int32) (x3 : Int32) (s0 : Nat) (T : tT) (I : tI) (J : tJ) (R : tR) (Q : tQ), Ex X d mX7_laysBack 53 [.ref x0, .ref x1, .int x2, .int x3] [.ref s0] (T, I, J, R) Q = (T[s0]? = some (3, 7) ∧ Ex X d mX7_laysBack 56 [.ref x0, .ref x1, .int x2, .int x3] [va_rf (R s0 3)] (T, I, J, R) Q)) ∧
  (∀ (X : tX) (d : Nat) (x0 : Nat) (x1 : Nat) (x2 : Int32) (x3 : Int32) (s0 : Nat) (σ : rS) (Q : tQ), Ex X d mX7_laysBack 56 [.ref x0, .ref x1, .int x2, .int x3] [.ref s0] σ Q = Ex X d mX7_laysBack 57 [.ref x0, .ref x1, .int x2, .int x3] [.int 1, .ref s0] σ Q) ∧
  (∀ (X : tX) (d : Nat) (x0 : Nat) (x1 : Nat) (x2 : Int32) (x3 : Int32) (s0 : Int32) (s1 : Nat) (σ : rS) (Q : tQ), Ex X d mX7_laysBack 57 [.ref x0, .ref x1, .int x2, .int x3] [.int s0, .ref s1] σ Q = Ex X d mX7_laysBack 58 [.ref x0, .ref x1, .int x2, .int x3] [.ref x1, .int s0, .ref s1] σ Q) ∧
  (∀ (X : tX) (d : Nat) (x0 : Nat) (x1 : Nat) (x2 : Int32) (x3 : Int32) (s0 : Nat) (s1 : Int32) (s2 : Nat) (σ : rS) (Q : tQ), Ex X d mX7_laysBack 58 [.ref x0, .ref x1, .int x2, .int x3] [.ref s0, .int s1, .ref s2] σ Q = Ex X d mX7_laysBack 60 [.ref x0, .ref x1, .int x2, .int x3] [.int 24, .ref s0, .int s1, .ref s2] σ Q) ∧
  (∀ (X : tX) (d : Nat) (x0 : Nat) (x1 : Nat) (x2 : Int32) (x3 : Int32) (s0 : Int32) (s1 : Nat) (s2 : Int32) (s3 : Nat) (T : tT) (I : tI) (J : tJ) (R : tR) (Q : tQ), Ex X d mX7_laysBack 60 [.ref x0, .ref x1, .int x2, .int x3] [.int s0, .ref s1, .int s2, .ref s3] (T, I, J, R) Q = (rIn T s1 0 s0 ∧ Ex X d mX7_laysBack 61 [.ref x0, .ref x1, .int x2, .int x3] [.int (I s1 s0.toNatClampNeg), .int s2, .ref s3] (T, I, J, R) Q)) ∧
  (∀ (X : tX) (d : Nat) (x0 : Nat) (x1 : Nat) (x2 : Int32) (x3 : Int32) (s0 : Int32) (s1 : Int32) (s2 : Nat) (T : tT) (I : tI) (J : tJ) (R : tR) (Q : tQ), Ex X d mX7_laysBack 61 [.ref x0, .ref x1, .int x2, .int x3] [.int s0, .int s1, .ref s2] (T, I, J, R) Q = (rIn T s2 0 s1 ∧ Ex X d mX7_laysBack 62 [.ref x0, .ref x1, .int x2, .int x3] [] (T, va_up I s2 (va_up (I s2) s1.toNatClampNeg s0), J, R) Q)) ∧
  (∀ (X : tX) (d : Nat) (x0 : Nat) (x1 : Nat) (x2 : Int32) (x3 : Int32) (σ : rS) (Q : tQ), Ex X d mX7_laysBack 62 [.ref x0, .ref x1, .int x2, .int x3] [] σ Q = Q none σ) := ⟨fun X d x0 x1 x2 x3 σ Q => ex_P (i := .aload_n 0) (len := 1) (by decide +kernel) rfl,
  fun X d x0 x1 x2 x3 s0 T I J R Q => q_getR (k := 18) (by decide +kernel) rfl rfl,
  fun X d x0 x1 x2 x3 s0 σ Q => ex_P (i := .iconst 1) (len := 1) (by decide +kernel) rfl,
  fun X d x0 x1 x2 x3 s0 s1 σ Q => ex_P (i := .aload_n 1) (len := 1) (by decide +kernel) rfl,
  fun X d x0 x1 x2 x3 s0 s1 s2 σ Q => ex_P (i := .bipush 24) (len := 2) (by decide +kernel) rfl,
  fun X d x0 x1 x2 x3 s0 s1 s2 s3 T I J R Q => q_iald (by decide +kernel),
  fun X d x0 x1 x2 x3 s0 s1 s2 T I J R Q => q_iast (by decide +kernel),
  fun X d x0 x1 x2 x3 σ Q => q_retV (by decide +kernel) rfl⟩
set_option maxRecDepth 50000 in
theorem gX7_isOver_0 : (∀ (X : tX) (d : Nat) (x0 : Nat) (x1 : Int32) (σ : rS) (Q : tQ), Ex X d mX7_isOver 0 [.ref x0, .int x1] [] σ Q = Ex X d mX7_isOver 1 [.ref x0, .int x1] [.ref x0] σ Q) ∧
  (∀ (X : tX) (d : Nat) (x0 : Nat) (x1 : Int32) (s0 : Nat) (T : tT) (I : tI) (J : tJ) (R : tR) (Q : tQ), Ex X d mX7_isOver 1 [.ref x0, .int x1] [.ref s0] (T, I, J, R) Q = (T[s0]? = some (3, 7) ∧ Ex X d mX7_isOver 4 [.ref x0, .int x1] [va_rf (R s0 1)] (T, I, J, R) Q)) ∧
  (∀ (X : tX) (d : Nat) (x0 : Nat) (x1 : Int32) (s0 : Nat) (σ : rS) (Q : tQ), Ex X d mX7_isOver 4 [.ref x0, .int x1] [.ref s0] σ Q = Ex X d mX7_isOver 5 [.ref x0, .int x1] [.int x1, .ref s0] σ Q) ∧
  (∀ (X : tX) (d : Nat) (x0 : Nat) (x1 : Int32) (s0 : Int32) (s1 : Nat) (T : tT) (I : tI) (J : tJ) (R : tR) (Q : tQ), Ex X d mX7_isOver 5 [.ref x0, .int x1] [.int s0, .ref s1] (T, I, J, R) Q = (rIn T s1 0 s0 ∧ Ex X d mX7_isOver 6 [.ref x0, .int x1] [.int (I s1 s0.toNatClampNeg)] (T, I, J, R) Q)) ∧
  (∀ (X : tX) (d : Nat) (x0 : Nat) (x1 : Int32) (s0 : Int32) (σ : rS) (Q : tQ), Ex X d mX7_isOver 6 [.ref x0, .int x1] [.int s0] σ Q = Ex X d mX7_isOver 7 [.ref x0, .int x1] [.ref x0, .int s0] σ Q) ∧
  (∀ (X : tX) (d : Nat) (x0 : Nat) (x1 : Int32) (s0 : Nat) (s1 : Int32) (T : tT) (I : tI) (J : tJ) (R : tR) (Q : tQ), Ex X d mX7_isOver 7 [.ref x0, .int x1] [.ref s0, .int s1] (T, I, J, R) Q = (T[s0]? = some (3, 7) ∧ Ex X d mX7_isOver 10 [.ref x0, .int x1] [va_rf (R s0 1), .int s1] (T, I, J, R) Q)) ∧
  (∀ (X : tX) (d : Nat) (x0 : Nat) (x1 : Int32) (s0 : Nat) (s1 : Int32) (σ : rS) (Q : tQ), Ex X d mX7_isOver 10 [.ref x0, .int x1] [.ref s0, .int s1] σ Q = Ex X d mX7_isOver 12 [.ref x0, .int x1] [.int 8, .ref s0, .int s1] σ Q) ∧
  (∀ (X : tX) (d : Nat) (x0 : Nat) (x1 : Int32) (s0 : Int32) (s1 : Nat) (s2 : Int32) (σ : rS) (Q : tQ), Ex X d mX7_isOver 12 [.ref x0, .int x1] [.int s0, .ref s1, .int s2] σ Q = Ex X d mX7_isOver 13 [.ref x0, .int x1] [.int x1, .int s0, .ref s1, .int s2] σ Q) ∧
  (∀ (X : tX) (d : Nat) (x0 : Nat) (x1 : Int32) (s0 : Int32) (s1 : Int32) (s2 : Nat) (s3 : Int32) (σ : rS) (Q : tQ), Ex X d mX7_isOver 13 [.ref x0, .int x1] [.int s0, .int s1, .ref s2, .int s3] σ Q = Ex X d mX7_isOver 14 [.ref x0, .int x1] [.int (s1 + s0), .ref s2, .int s3] σ Q) ∧
  (∀ (X : tX) (d : Nat) (x0 : Nat) (x1 : Int32) (s0 : Int32) (s1 : Nat) (s2 : Int32) (T : tT) (I : tI) (J : tJ) (R : tR) (Q : tQ), Ex X d mX7_isOver 14 [.ref x0, .int x1] [.int s0, .ref s1, .int s2] (T, I, J, R) Q = (rIn T s1 0 s0 ∧ Ex X d mX7_isOver 15 [.ref x0, .int x1] [.int (I s1 s0.toNatClampNeg), .int s2] (T, I, J, R) Q)) ∧
  (∀ (X : tX) (d : Nat) (x0 : Nat) (x1 : Int32) (s0 : Int32) (s1 : Int32) (σ : rS) (Q : tQ), Ex X d mX7_isOver 15 [.ref x0, .int x1] [.int s0, .int s1] σ Q = (if s1 < s0 then Ex X d mX7_isOver 22 [.ref x0, .int x1] [] σ Q else Ex X d mX7_isOver 18 [.ref x0, .int x1] [] σ Q)) := ⟨fun X d x0 x1 σ Q => ex_P (i := .aload_n 0) (len := 1) (by decide +kernel) rfl,
  fun X d x0 x1 s0 T I J R Q => q_getR (k := 9) (by decide +kernel) rfl rfl,
  fun X d x0 x1 s0 σ Q => ex_P (i := .iload_n 1) (len := 1) (by decide +kernel) rfl,
  fun X d x0 x1 s0 s1 T I J R Q => q_iald (by decide +kernel),
  fun X d x0 x1 s0 σ Q => ex_P (i := .aload_n 0) (len := 1) (by decide +kernel) rfl,
  fun X d x0 x1 s0 s1 T I J R Q => q_getR (k := 9) (by decide +kernel) rfl rfl,
  fun X d x0 x1 s0 s1 σ Q => ex_P (i := .bipush 8) (len := 2) (by decide +kernel) rfl,
  fun X d x0 x1 s0 s1 s2 σ Q => ex_P (i := .iload_n 1) (len := 1) (by decide +kernel) rfl,
  fun X d x0 x1 s0 s1 s2 s3 σ Q => ex_P (i := .iadd) (len := 1) (by decide +kernel) rfl,
  fun X d x0 x1 s0 s1 s2 T I J R Q => q_iald (by decide +kernel),
  fun X d x0 x1 s0 s1 σ Q => q_icmp_lt (o := 7) (by decide +kernel) rfl⟩
set_option maxRecDepth 50000 in
theorem gX7_isOver_18 : (∀ (X : tX) (d : Nat) (x0 : Nat) (x1 : Int32) (σ : rS) (Q : tQ), Ex X d mX7_isOver 18 [.ref x0, .int x1] [] σ Q = Ex X d mX7_isOver 19 [.ref x0, .int x1] [.int 1] σ Q) ∧
  (∀ (X : tX) (d : Nat) (x0 : Nat) (x1 : Int32) (s0 : Int32) (σ : rS) (Q : tQ), Ex X d mX7_isOver 19 [.ref x0, .int x1] [.int s0] σ Q = Ex X d mX7_isOver 23 [.ref x0, .int x1] [.int s0] σ Q) := ⟨fun X d x0 x1 σ Q => ex_P (i := .iconst 1) (len := 1) (by decide +kernel) rfl,
  fun X d x0 x1 s0 σ Q => q_goto (o := 4) (by decide +kernel) rfl⟩
set_option maxRecDepth 50000 in
theorem gX7_isOver_22 : (∀ (X : tX) (d : Nat) (x0 : Nat) (x1 : Int32) (σ : rS) (Q : tQ), Ex X d mX7_isOver 22 [.ref x0, .int x1] [] σ Q = Ex X d mX7_isOver 23 [.ref x0, .int x1] [.int 0] σ Q) := fun X d x0 x1 σ Q => ex_P (i := .iconst 0) (len := 1) (by decide +kernel) rfl
set_option maxRecDepth 50000 in
theorem gX7_isOver_23 : (∀ (X : tX) (d : Nat) (x0 : Nat) (x1 : Int32) (s0 : Int32) (σ : rS) (Q : tQ), Ex X d mX7_isOver 23 [.ref x0, .int x1] [.int s0] σ Q = ((s0 = 0 ∨ s0 = 1) ∧ Q (some (.int s0)) σ)) := fun X d x0 x1 s0 σ Q => q_retZ (by decide +kernel) rfl
set_option maxRecDepth 50000 in
theorem gX7_over_0 : (∀ (X : tX) (d : Nat) (x0 : Nat) (σ : rS) (Q : tQ), Ex X d mX7_over 0 [.ref x0, rU, rU] [] σ Q = Ex X d mX7_over 1 [.ref x0, rU, rU] [.int 0] σ Q) ∧
  (∀ (X : tX) (d : Nat) (x0 : Nat) (s0 : Int32) (σ : rS) (Q : tQ), Ex X d mX7_over 1 [.ref x0, rU, rU] [.int s0] σ Q = Ex X d mX7_over 2 [.ref x0, .int s0, rU] [] σ Q) ∧
  (∀ (X : tX) (d : Nat) (x0 : Nat) (x1 : Int32) (σ : rS) (Q : tQ), Ex X d mX7_over 2 [.ref x0, .int x1, rU] [] σ Q = Ex X d mX7_over 3 [.ref x0, .int x1, rU] [.int 0] σ Q) ∧
  (∀ (X : tX) (d : Nat) (x0 : Nat) (x1 : Int32) (s0 : Int32) (σ : rS) (Q : tQ), Ex X d mX7_over 3 [.ref x0, .int x1, rU] [.int s0] σ Q = Ex X d mX7_over 4 [.ref x0, .int x1, .int s0] [] σ Q) := ⟨fun X d x0 σ Q => ex_P (i := .iconst 0) (len := 1) (by decide +kernel) rfl,
  fun X d x0 s0 σ Q => ex_P (i := .istore_n 1) (len := 1) (by decide +kernel) rfl,
  fun X d x0 x1 σ Q => ex_P (i := .iconst 0) (len := 1) (by decide +kernel) rfl,
  fun X d x0 x1 s0 σ Q => ex_P (i := .istore_n 2) (len := 1) (by decide +kernel) rfl⟩
set_option maxRecDepth 50000 in
theorem gX7_over_4 : (∀ (X : tX) (d : Nat) (x0 : Nat) (x1 : Int32) (x2 : Int32) (σ : rS) (Q : tQ), Ex X d mX7_over 4 [.ref x0, .int x1, .int x2] [] σ Q = Ex X d mX7_over 5 [.ref x0, .int x1, .int x2] [.int x2] σ Q) ∧
  (∀ (X : tX) (d : Nat) (x0 : Nat) (x1 : Int32) (x2 : Int32) (s0 : Int32) (σ : rS) (Q : tQ), Ex X d mX7_over 5 [.ref x0, .int x1, .int x2] [.int s0] σ Q = Ex X d mX7_over 6 [.ref x0, .int x1, .int x2] [.ref x0, .int s0] σ Q) ∧
  (∀ (X : tX) (d : Nat) (x0 : Nat) (x1 : Int32) (x2 : Int32) (s0 : Nat) (s1 : Int32) (T : tT) (I : tI) (J : tJ) (R : tR) (Q : tQ), Ex X d mX7_over 6 [.ref x0, .int x1, .int x2] [.ref s0, .int s1] (T, I, J, R) Q = (T[s0]? = some (3, 7) ∧ Ex X d mX7_over 9 [.ref x0, .int x1, .int x2] [.int (I s0 0), .int s1] (T, I, J, R) Q)) ∧
  (∀ (X : tX) (d : Nat) (x0 : Nat) (x1 : Int32) (x2 : Int32) (s0 : Int32) (s1 : Int32) (σ : rS) (Q : tQ), Ex X d mX7_over 9 [.ref x0, .int x1, .int x2] [.int s0, .int s1] σ Q = (if s0 ≤ s1 then Ex X d mX7_over 32 [.ref x0, .int x1, .int x2] [] σ Q else Ex X d mX7_over 12 [.ref x0, .int x1, .int x2] [] σ Q)) := ⟨fun X d x0 x1 x2 σ Q => ex_P (i := .iload_n 2) (len := 1) (by decide +kernel) rfl,
  fun X d x0 x1 x2 s0 σ Q => ex_P (i := .aload_n 0) (len := 1) (by decide +kernel) rfl,
  fun X d x0 x1 x2 s0 s1 T I J R Q => q_getI (k := 97) (by decide +kernel) rfl rfl (by decide),
  fun X d x0 x1 x2 s0 s1 σ Q => q_icmp_ge (o := 23) (by decide +kernel) rfl⟩
set_option maxRecDepth 50000 in
theorem gX7_over_12 : (∀ (X : tX) (d : Nat) (x0 : Nat) (x1 : Int32) (x2 : Int32) (σ : rS) (Q : tQ), Ex X d mX7_over 12 [.ref x0, .int x1, .int x2] [] σ Q = Ex X d mX7_over 13 [.ref x0, .int x1, .int x2] [.ref x0] σ Q) ∧
  (∀ (X : tX) (d : Nat) (x0 : Nat) (x1 : Int32) (x2 : Int32) (s0 : Nat) (σ : rS) (Q : tQ), Ex X d mX7_over 13 [.ref x0, .int x1, .int x2] [.ref s0] σ Q = Ex X d mX7_over 14 [.ref x0, .int x1, .int x2] [.int x2, .ref s0] σ Q) ∧
  (∀ (X : tX) (d : Nat) (x0 : Nat) (x1 : Int32) (x2 : Int32) (s0 : Int32) (s1 : Nat) (T : tT) (I : tI) (J : tJ) (R : tR) (Q : tQ), Ex X (d + 1) mX7_over 14 [.ref x0, .int x1, .int x2] [.int s0, .ref s1] (T, I, J, R) Q = (T[s1]? = some (3, 7) ∧ Ex X d mX7_isOver 0 [.ref s1, .int s0] [] (T, I, J, R) (fun v σ1 => Ex X (d + 1) mX7_over 17 [.ref x0, .int x1, .int x2] (v.toList ++ []) σ1 Q))) := ⟨fun X d x0 x1 x2 σ Q => ex_P (i := .aload_n 0) (len := 1) (by decide +kernel) rfl,
  fun X d x0 x1 x2 s0 σ Q => ex_P (i := .iload_n 2) (len := 1) (by decide +kernel) rfl,
  fun X d x0 x1 x2 s0 s1 T I J R Q => q_callV (k := 226) (as := [.int s0]) (st := []) (show rlk mX7_over.2.2.2.2.2.2 14 = some (.invokevirtual 226, 3) from by decide +kernel) rfl rfl rfl (Nat.le_of_ble_eq_true rfl) (Nat.le_of_ble_eq_true rfl) rfl⟩
set_option maxRecDepth 50000 in
theorem gX7_over_17 : (∀ (X : tX) (d : Nat) (x0 : Nat) (x1 : Int32) (x2 : Int32) (s0 : Int32) (σ : rS) (Q : tQ), Ex X d mX7_over 17 [.ref x0, .int x1, .int x2] [.int s0] σ Q = (if s0 = 0 then Ex X d mX7_over 26 [.ref x0, .int x1, .int x2] [] σ Q else Ex X d mX7_over 20 [.ref x0, .int x1, .int x2] [] σ Q)) := fun X d x0 x1 x2 s0 σ Q => q_if_eq (o := 9) (by decide +kernel) rfl
set_option maxRecDepth 50000 in
theorem gX7_over_20 : (∀ (X : tX) (d : Nat) (x0 : Nat) (x1 : Int32) (x2 : Int32) (σ : rS) (Q : tQ), Ex X d mX7_over 20 [.ref x0, .int x1, .int x2] [] σ Q = Ex X d mX7_over 21 [.ref x0, .int x1, .int x2] [.int x1] σ Q) ∧
  (∀ (X : tX) (d : Nat) (x0 : Nat) (x1 : Int32) (x2 : Int32) (s0 : Int32) (σ : rS) (Q : tQ), Ex X d mX7_over 21 [.ref x0, .int x1, .int x2] [.int s0] σ Q = Ex X d mX7_over 22 [.ref x0, .int x1, .int x2] [.int 1, .int s0] σ Q) ∧
  (∀ (X : tX) (d : Nat) (x0 : Nat) (x1 : Int32) (x2 : Int32) (s0 : Int32) (s1 : Int32) (σ : rS) (Q : tQ), Ex X d mX7_over 22 [.ref x0, .int x1, .int x2] [.int s0, .int s1] σ Q = Ex X d mX7_over 23 [.ref x0, .int x1, .int x2] [.int x2, .int s0, .int s1] σ Q) ∧
  (∀ (X : tX) (d : Nat) (x0 : Nat) (x1 : Int32) (x2 : Int32) (s0 : Int32) (s1 : Int32) (s2 : Int32) (σ : rS) (Q : tQ), Ex X d mX7_over 23 [.ref x0, .int x1, .int x2] [.int s0, .int s1, .int s2] σ Q = Ex X d mX7_over 24 [.ref x0, .int x1, .int x2] [.int (s1 <<< (s0 &&& 31)), .int s2] σ Q) ∧
  (∀ (X : tX) (d : Nat) (x0 : Nat) (x1 : Int32) (x2 : Int32) (s0 : Int32) (s1 : Int32) (σ : rS) (Q : tQ), Ex X d mX7_over 24 [.ref x0, .int x1, .int x2] [.int s0, .int s1] σ Q = Ex X d mX7_over 25 [.ref x0, .int x1, .int x2] [.int (s1 ||| s0)] σ Q) ∧
  (∀ (X : tX) (d : Nat) (x0 : Nat) (x1 : Int32) (x2 : Int32) (s0 : Int32) (σ : rS) (Q : tQ), Ex X d mX7_over 25 [.ref x0, .int x1, .int x2] [.int s0] σ Q = Ex X d mX7_over 26 [.ref x0, .int s0, .int x2] [] σ Q) := ⟨fun X d x0 x1 x2 σ Q => ex_P (i := .iload_n 1) (len := 1) (by decide +kernel) rfl,
  fun X d x0 x1 x2 s0 σ Q => ex_P (i := .iconst 1) (len := 1) (by decide +kernel) rfl,
  fun X d x0 x1 x2 s0 s1 σ Q => ex_P (i := .iload_n 2) (len := 1) (by decide +kernel) rfl,
  fun X d x0 x1 x2 s0 s1 s2 σ Q => ex_P (i := .ishl) (len := 1) (by decide +kernel) rfl,
  fun X d x0 x1 x2 s0 s1 σ Q => ex_P (i := .ior) (len := 1) (by decide +kernel) rfl,
  fun X d x0 x1 x2 s0 σ Q => ex_P (i := .istore_n 1) (len := 1) (by decide +kernel) rfl⟩
set_option maxRecDepth 50000 in
theorem gX7_over_26 : (∀ (X : tX) (d : Nat) (x0 : Nat) (x1 : Int32) (x2 : Int32) (σ : rS) (Q : tQ), Ex X d mX7_over 26 [.ref x0, .int x1, .int x2] [] σ Q = Ex X d mX7_over 29 [.ref x0, .int x1, .int (x2 + 1)] [] σ Q) ∧
  (∀ (X : tX) (d : Nat) (x0 : Nat) (x1 : Int32) (x2 : Int32) (σ : rS) (Q : tQ), Ex X d mX7_over 29 [.ref x0, .int x1, .int x2] [] σ Q = Ex X d mX7_over 4 [.ref x0, .int x1, .int x2] [] σ Q) := ⟨fun X d x0 x1 x2 σ Q => ex_P (i := .iinc 2 1) (len := 3) (by decide +kernel) rfl,
  fun X d x0 x1 x2 σ Q => q_goto (o := (-25)) (by decide +kernel) rfl⟩
set_option maxRecDepth 50000 in
theorem gX7_over_32 : (∀ (X : tX) (d : Nat) (x0 : Nat) (x1 : Int32) (x2 : Int32) (σ : rS) (Q : tQ), Ex X d mX7_over 32 [.ref x0, .int x1, .int x2] [] σ Q = Ex X d mX7_over 33 [.ref x0, .int x1, .int x2] [.int x1] σ Q) ∧
  (∀ (X : tX) (d : Nat) (x0 : Nat) (x1 : Int32) (x2 : Int32) (s0 : Int32) (σ : rS) (Q : tQ), Ex X d mX7_over 33 [.ref x0, .int x1, .int x2] [.int s0] σ Q = Q (some (.int s0)) σ) := ⟨fun X d x0 x1 x2 σ Q => ex_P (i := .iload_n 1) (len := 1) (by decide +kernel) rfl,
  fun X d x0 x1 x2 s0 σ Q => q_retI (by decide +kernel) rfl⟩
set_option maxRecDepth 50000 in
theorem gX7_allLevel_0 : (∀ (X : tX) (d : Nat) (x0 : Nat) (σ : rS) (Q : tQ), Ex X d mX7_allLevel 0 [.ref x0, rU, rU] [] σ Q = Ex X d mX7_allLevel 1 [.ref x0, rU, rU] [.int 0] σ Q) ∧
  (∀ (X : tX) (d : Nat) (x0 : Nat) (s0 : Int32) (σ : rS) (Q : tQ), Ex X d mX7_allLevel 1 [.ref x0, rU, rU] [.int s0] σ Q = Ex X d mX7_allLevel 2 [.ref x0, .int s0, rU] [] σ Q) ∧
  (∀ (X : tX) (d : Nat) (x0 : Nat) (x1 : Int32) (σ : rS) (Q : tQ), Ex X d mX7_allLevel 2 [.ref x0, .int x1, rU] [] σ Q = Ex X d mX7_allLevel 3 [.ref x0, .int x1, rU] [.int 0] σ Q) ∧
  (∀ (X : tX) (d : Nat) (x0 : Nat) (x1 : Int32) (s0 : Int32) (σ : rS) (Q : tQ), Ex X d mX7_allLevel 3 [.ref x0, .int x1, rU] [.int s0] σ Q = Ex X d mX7_allLevel 4 [.ref x0, .int x1, .int s0] [] σ Q) := ⟨fun X d x0 σ Q => ex_P (i := .iconst 0) (len := 1) (by decide +kernel) rfl,
  fun X d x0 s0 σ Q => ex_P (i := .istore_n 1) (len := 1) (by decide +kernel) rfl,
  fun X d x0 x1 σ Q => ex_P (i := .iconst 0) (len := 1) (by decide +kernel) rfl,
  fun X d x0 x1 s0 σ Q => ex_P (i := .istore_n 2) (len := 1) (by decide +kernel) rfl⟩
set_option maxRecDepth 50000 in
theorem gX7_allLevel_4 : (∀ (X : tX) (d : Nat) (x0 : Nat) (x1 : Int32) (x2 : Int32) (σ : rS) (Q : tQ), Ex X d mX7_allLevel 4 [.ref x0, .int x1, .int x2] [] σ Q = Ex X d mX7_allLevel 5 [.ref x0, .int x1, .int x2] [.int x2] σ Q) ∧
  (∀ (X : tX) (d : Nat) (x0 : Nat) (x1 : Int32) (x2 : Int32) (s0 : Int32) (σ : rS) (Q : tQ), Ex X d mX7_allLevel 5 [.ref x0, .int x1, .int x2] [.int s0] σ Q = Ex X d mX7_allLevel 6 [.ref x0, .int x1, .int x2] [.ref x0, .int s0] σ Q) ∧
  (∀ (X : tX) (d : Nat) (x0 : Nat) (x1 : Int32) (x2 : Int32) (s0 : Nat) (s1 : Int32) (T : tT) (I : tI) (J : tJ) (R : tR) (Q : tQ), Ex X d mX7_allLevel 6 [.ref x0, .int x1, .int x2] [.ref s0, .int s1] (T, I, J, R) Q = (T[s0]? = some (3, 7) ∧ Ex X d mX7_allLevel 9 [.ref x0, .int x1, .int x2] [.int (I s0 0), .int s1] (T, I, J, R) Q)) ∧
  (∀ (X : tX) (d : Nat) (x0 : Nat) (x1 : Int32) (x2 : Int32) (s0 : Int32) (s1 : Int32) (σ : rS) (Q : tQ), Ex X d mX7_allLevel 9 [.ref x0, .int x1, .int x2] [.int s0, .int s1] σ Q = (if s0 ≤ s1 then Ex X d mX7_allLevel 27 [.ref x0, .int x1, .int x2] [] σ Q else Ex X d mX7_allLevel 12 [.ref x0, .int x1, .int x2] [] σ Q)) := ⟨fun X d x0 x1 x2 σ Q => ex_P (i := .iload_n 2) (len := 1) (by decide +kernel) rfl,
  fun X d x0 x1 x2 s0 σ Q => ex_P (i := .aload_n 0) (len := 1) (by decide +kernel) rfl,
  fun X d x0 x1 x2 s0 s1 T I J R Q => q_getI (k := 97) (by decide +kernel) rfl rfl (by decide),
  fun X d x0 x1 x2 s0 s1 σ Q => q_icmp_ge (o := 18) (by decide +kernel) rfl⟩
set_option maxRecDepth 50000 in
theorem gX7_allLevel_12 : (∀ (X : tX) (d : Nat) (x0 : Nat) (x1 : Int32) (x2 : Int32) (σ : rS) (Q : tQ), Ex X d mX7_allLevel 12 [.ref x0, .int x1, .int x2] [] σ Q = Ex X d mX7_allLevel 13 [.ref x0, .int x1, .int x2] [.int x1] σ Q) ∧
  (∀ (X : tX) (d : Nat) (x0 : Nat) (x1 : Int32) (x2 : Int32) (s0 : Int32) (σ : rS) (Q : tQ), Ex X d mX7_allLevel 13 [.ref x0, .int x1, .int x2] [.int s0] σ Q = Ex X d mX7_allLevel 14 [.ref x0, .int x1, .int x2] [.ref x0, .int s0] σ Q) ∧
  (∀ (X : tX) (d : Nat) (x0 : Nat) (x1 : Int32) (x2 : Int32) (s0 : Nat) (s1 : Int32) (T : tT) (I : tI) (J : tJ) (R : tR) (Q : tQ), Ex X d mX7_allLevel 14 [.ref x0, .int x1, .int x2] [.ref s0, .int s1] (T, I, J, R) Q = (T[s0]? = some (3, 7) ∧ Ex X d mX7_allLevel 17 [.ref x0, .int x1, .int x2] [va_rf (R s0 1), .int s1] (T, I, J, R) Q)) ∧
  (∀ (X : tX) (d : Nat) (x0 : Nat) (x1 : Int32) (x2 : Int32) (s0 : Nat) (s1 : Int32) (σ : rS) (Q : tQ), Ex X d mX7_allLevel 17 [.ref x0, .int x1, .int x2] [.ref s0, .int s1] σ Q = Ex X d mX7_allLevel 18 [.ref x0, .int x1, .int x2] [.int x2, .ref s0, .int s1] σ Q) ∧
  (∀ (X : tX) (d : Nat) (x0 : Nat) (x1 : Int32) (x2 : Int32) (s0 : Int32) (s1 : Nat) (s2 : Int32) (T : tT) (I : tI) (J : tJ) (R : tR) (Q : tQ), Ex X d mX7_allLevel 18 [.ref x0, .int x1, .int x2] [.int s0, .ref s1, .int s2] (T, I, J, R) Q = (rIn T s1 0 s0 ∧ Ex X d mX7_allLevel 19 [.ref x0, .int x1, .int x2] [.int (I s1 s0.toNatClampNeg), .int s2] (T, I, J, R) Q)) ∧
  (∀ (X : tX) (d : Nat) (x0 : Nat) (x1 : Int32) (x2 : Int32) (s0 : Int32) (s1 : Int32) (σ : rS) (Q : tQ), Ex X d mX7_allLevel 19 [.ref x0, .int x1, .int x2] [.int s0, .int s1] σ Q = Ex X d mX7_allLevel 20 [.ref x0, .int x1, .int x2] [.int (s1 + s0)] σ Q) ∧
  (∀ (X : tX) (d : Nat) (x0 : Nat) (x1 : Int32) (x2 : Int32) (s0 : Int32) (σ : rS) (Q : tQ), Ex X d mX7_allLevel 20 [.ref x0, .int x1, .int x2] [.int s0] σ Q = Ex X d mX7_allLevel 21 [.ref x0, .int s0, .int x2] [] σ Q) ∧
  (∀ (X : tX) (d : Nat) (x0 : Nat) (x1 : Int32) (x2 : Int32) (σ : rS) (Q : tQ), Ex X d mX7_allLevel 21 [.ref x0, .int x1, .int x2] [] σ Q = Ex X d mX7_allLevel 24 [.ref x0, .int x1, .int (x2 + 1)] [] σ Q) ∧
  (∀ (X : tX) (d : Nat) (x0 : Nat) (x1 : Int32) (x2 : Int32) (σ : rS) (Q : tQ), Ex X d mX7_allLevel 24 [.ref x0, .int x1, .int x2] [] σ Q = Ex X d mX7_allLevel 4 [.ref x0, .int x1, .int x2] [] σ Q) := ⟨fun X d x0 x1 x2 σ Q => ex_P (i := .iload_n 1) (len := 1) (by decide +kernel) rfl,
  fun X d x0 x1 x2 s0 σ Q => ex_P (i := .aload_n 0) (len := 1) (by decide +kernel) rfl,
  fun X d x0 x1 x2 s0 s1 T I J R Q => q_getR (k := 9) (by decide +kernel) rfl rfl,
  fun X d x0 x1 x2 s0 s1 σ Q => ex_P (i := .iload_n 2) (len := 1) (by decide +kernel) rfl,
  fun X d x0 x1 x2 s0 s1 s2 T I J R Q => q_iald (by decide +kernel),
  fun X d x0 x1 x2 s0 s1 σ Q => ex_P (i := .iadd) (len := 1) (by decide +kernel) rfl,
  fun X d x0 x1 x2 s0 σ Q => ex_P (i := .istore_n 1) (len := 1) (by decide +kernel) rfl,
  fun X d x0 x1 x2 σ Q => ex_P (i := .iinc 2 1) (len := 3) (by decide +kernel) rfl,
  fun X d x0 x1 x2 σ Q => q_goto (o := (-20)) (by decide +kernel) rfl⟩
set_option maxRecDepth 50000 in
theorem gX7_allLevel_27 : (∀ (X : tX) (d : Nat) (x0 : Nat) (x1 : Int32) (x2 : Int32) (σ : rS) (Q : tQ), Ex X d mX7_allLevel 27 [.ref x0, .int x1, .int x2] [] σ Q = Ex X d mX7_allLevel 28 [.ref x0, .int x1, .int x2] [.int x1] σ Q) ∧
  (∀ (X : tX) (d : Nat) (x0 : Nat) (x1 : Int32) (x2 : Int32) (s0 : Int32) (σ : rS) (Q : tQ), Ex X d mX7_allLevel 28 [.ref x0, .int x1, .int x2] [.int s0] σ Q = Q (some (.int s0)) σ) := ⟨fun X d x0 x1 x2 σ Q => ex_P (i := .iload_n 1) (len := 1) (by decide +kernel) rfl,
  fun X d x0 x1 x2 s0 σ Q => q_retI (by decide +kernel) rfl⟩
set_option maxRecDepth 50000 in
theorem gX7_signOf_0 : (∀ (X : tX) (d : Nat) (x0 : Nat) (x1 : Int32) (σ : rS) (Q : tQ), Ex X d mX7_signOf 0 [.ref x0, .int x1, rU] [] σ Q = Ex X d mX7_signOf 1 [.ref x0, .int x1, rU] [.ref x0] σ Q) ∧
  (∀ (X : tX) (d : Nat) (x0 : Nat) (x1 : Int32) (s0 : Nat) (T : tT) (I : tI) (J : tJ) (R : tR) (Q : tQ), Ex X d mX7_signOf 1 [.ref x0, .int x1, rU] [.ref s0] (T, I, J, R) Q = (T[s0]? = some (3, 7) ∧ Ex X d mX7_signOf 4 [.ref x0, .int x1, rU] [va_rf (R s0 1)] (T, I, J, R) Q)) ∧
  (∀ (X : tX) (d : Nat) (x0 : Nat) (x1 : Int32) (s0 : Nat) (σ : rS) (Q : tQ), Ex X d mX7_signOf 4 [.ref x0, .int x1, rU] [.ref s0] σ Q = Ex X d mX7_signOf 5 [.ref x0, .int x1, rU] [.int x1, .ref s0] σ Q) ∧
  (∀ (X : tX) (d : Nat) (x0 : Nat) (x1 : Int32) (s0 : Int32) (s1 : Nat) (T : tT) (I : tI) (J : tJ) (R : tR) (Q : tQ), Ex X d mX7_signOf 5 [.ref x0, .int x1, rU] [.int s0, .ref s1] (T, I, J, R) Q = (rIn T s1 0 s0 ∧ Ex X d mX7_signOf 6 [.ref x0, .int x1, rU] [.int (I s1 s0.toNatClampNeg)] (T, I, J, R) Q)) ∧
  (∀ (X : tX) (d : Nat) (x0 : Nat) (x1 : Int32) (s0 : Int32) (σ : rS) (Q : tQ), Ex X d mX7_signOf 6 [.ref x0, .int x1, rU] [.int s0] σ Q = Ex X d mX7_signOf 7 [.ref x0, .int x1, .int s0] [] σ Q) ∧
  (∀ (X : tX) (d : Nat) (x0 : Nat) (x1 : Int32) (x2 : Int32) (σ : rS) (Q : tQ), Ex X d mX7_signOf 7 [.ref x0, .int x1, .int x2] [] σ Q = Ex X d mX7_signOf 8 [.ref x0, .int x1, .int x2] [.ref x0] σ Q) ∧
  (∀ (X : tX) (d : Nat) (x0 : Nat) (x1 : Int32) (x2 : Int32) (s0 : Nat) (T : tT) (I : tI) (J : tJ) (R : tR) (Q : tQ), Ex X (d + 1) mX7_signOf 8 [.ref x0, .int x1, .int x2] [.ref s0] (T, I, J, R) Q = (T[s0]? = some (3, 7) ∧ Ex X d mX7_passes 0 [.ref s0, rU] [] (T, I, J, R) (fun v σ1 => Ex X (d + 1) mX7_signOf 11 [.ref x0, .int x1, .int x2] (v.toList ++ []) σ1 Q))) := ⟨fun X d x0 x1 σ Q => ex_P (i := .aload_n 0) (len := 1) (by decide +kernel) rfl,
  fun X d x0 x1 s0 T I J R Q => q_getR (k := 9) (by decide +kernel) rfl rfl,
  fun X d x0 x1 s0 σ Q => ex_P (i := .iload_n 1) (len := 1) (by decide +kernel) rfl,
  fun X d x0 x1 s0 s1 T I J R Q => q_iald (by decide +kernel),
  fun X d x0 x1 s0 σ Q => ex_P (i := .istore_n 2) (len := 1) (by decide +kernel) rfl,
  fun X d x0 x1 x2 σ Q => ex_P (i := .aload_n 0) (len := 1) (by decide +kernel) rfl,
  fun X d x0 x1 x2 s0 T I J R Q => q_callV (k := 223) (as := []) (st := []) (show rlk mX7_signOf.2.2.2.2.2.2 8 = some (.invokevirtual 223, 3) from by decide +kernel) rfl rfl rfl (Nat.le_of_ble_eq_true rfl) (Nat.le_of_ble_eq_true rfl) rfl⟩
set_option maxRecDepth 50000 in
theorem gX7_signOf_11 : (∀ (X : tX) (d : Nat) (x0 : Nat) (x1 : Int32) (x2 : Int32) (σ : rS) (Q : tQ), Ex X d mX7_signOf 11 [.ref x0, .int x1, .int x2] [] σ Q = Ex X d mX7_signOf 12 [.ref x0, .int x1, .int x2] [.ref x0] σ Q) ∧
  (∀ (X : tX) (d : Nat) (x0 : Nat) (x1 : Int32) (x2 : Int32) (s0 : Nat) (T : tT) (I : tI) (J : tJ) (R : tR) (Q : tQ), Ex X d mX7_signOf 12 [.ref x0, .int x1, .int x2] [.ref s0] (T, I, J, R) Q = (T[s0]? = some (3, 7) ∧ Ex X d mX7_signOf 15 [.ref x0, .int x1, .int x2] [va_rf (R s0 1)] (T, I, J, R) Q)) ∧
  (∀ (X : tX) (d : Nat) (x0 : Nat) (x1 : Int32) (x2 : Int32) (s0 : Nat) (σ : rS) (Q : tQ), Ex X d mX7_signOf 15 [.ref x0, .int x1, .int x2] [.ref s0] σ Q = Ex X d mX7_signOf 16 [.ref x0, .int x1, .int x2] [.int x1, .ref s0] σ Q) ∧
  (∀ (X : tX) (d : Nat) (x0 : Nat) (x1 : Int32) (x2 : Int32) (s0 : Int32) (s1 : Nat) (T : tT) (I : tI) (J : tJ) (R : tR) (Q : tQ), Ex X d mX7_signOf 16 [.ref x0, .int x1, .int x2] [.int s0, .ref s1] (T, I, J, R) Q = (rIn T s1 0 s0 ∧ Ex X d mX7_signOf 17 [.ref x0, .int x1, .int x2] [.int (I s1 s0.toNatClampNeg)] (T, I, J, R) Q)) ∧
  (∀ (X : tX) (d : Nat) (x0 : Nat) (x1 : Int32) (x2 : Int32) (s0 : Int32) (σ : rS) (Q : tQ), Ex X d mX7_signOf 17 [.ref x0, .int x1, .int x2] [.int s0] σ Q = Ex X d mX7_signOf 18 [.ref x0, .int x1, .int x2] [.int x2, .int s0] σ Q) ∧
  (∀ (X : tX) (d : Nat) (x0 : Nat) (x1 : Int32) (x2 : Int32) (s0 : Int32) (s1 : Int32) (σ : rS) (Q : tQ), Ex X d mX7_signOf 18 [.ref x0, .int x1, .int x2] [.int s0, .int s1] σ Q = (if s1 ≤ s0 then Ex X d mX7_signOf 25 [.ref x0, .int x1, .int x2] [] σ Q else Ex X d mX7_signOf 21 [.ref x0, .int x1, .int x2] [] σ Q)) := ⟨fun X d x0 x1 x2 σ Q => ex_P (i := .aload_n 0) (len := 1) (by decide +kernel) rfl,
  fun X d x0 x1 x2 s0 T I J R Q => q_getR (k := 9) (by decide +kernel) rfl rfl,
  fun X d x0 x1 x2 s0 σ Q => ex_P (i := .iload_n 1) (len := 1) (by decide +kernel) rfl,
  fun X d x0 x1 x2 s0 s1 T I J R Q => q_iald (by decide +kernel),
  fun X d x0 x1 x2 s0 σ Q => ex_P (i := .iload_n 2) (len := 1) (by decide +kernel) rfl,
  fun X d x0 x1 x2 s0 s1 σ Q => q_icmp_le (o := 7) (by decide +kernel) rfl⟩
set_option maxRecDepth 50000 in
theorem gX7_signOf_21 : (∀ (X : tX) (d : Nat) (x0 : Nat) (x1 : Int32) (x2 : Int32) (σ : rS) (Q : tQ), Ex X d mX7_signOf 21 [.ref x0, .int x1, .int x2] [] σ Q = Ex X d mX7_signOf 22 [.ref x0, .int x1, .int x2] [.int 1] σ Q) ∧
  (∀ (X : tX) (d : Nat) (x0 : Nat) (x1 : Int32) (x2 : Int32) (s0 : Int32) (σ : rS) (Q : tQ), Ex X d mX7_signOf 22 [.ref x0, .int x1, .int x2] [.int s0] σ Q = Ex X d mX7_signOf 40 [.ref x0, .int x1, .int x2] [.int s0] σ Q) := ⟨fun X d x0 x1 x2 σ Q => ex_P (i := .iconst 1) (len := 1) (by decide +kernel) rfl,
  fun X d x0 x1 x2 s0 σ Q => q_goto (o := 18) (by decide +kernel) rfl⟩
set_option maxRecDepth 50000 in
theorem gX7_signOf_25 : (∀ (X : tX) (d : Nat) (x0 : Nat) (x1 : Int32) (x2 : Int32) (σ : rS) (Q : tQ), Ex X d mX7_signOf 25 [.ref x0, .int x1, .int x2] [] σ Q = Ex X d mX7_signOf 26 [.ref x0, .int x1, .int x2] [.ref x0] σ Q) ∧
  (∀ (X : tX) (d : Nat) (x0 : Nat) (x1 : Int32) (x2 : Int32) (s0 : Nat) (T : tT) (I : tI) (J : tJ) (R : tR) (Q : tQ), Ex X d mX7_signOf 26 [.ref x0, .int x1, .int x2] [.ref s0] (T, I, J, R) Q = (T[s0]? = some (3, 7) ∧ Ex X d mX7_signOf 29 [.ref x0, .int x1, .int x2] [va_rf (R s0 1)] (T, I, J, R) Q)) ∧
  (∀ (X : tX) (d : Nat) (x0 : Nat) (x1 : Int32) (x2 : Int32) (s0 : Nat) (σ : rS) (Q : tQ), Ex X d mX7_signOf 29 [.ref x0, .int x1, .int x2] [.ref s0] σ Q = Ex X d mX7_signOf 30 [.ref x0, .int x1, .int x2] [.int x1, .ref s0] σ Q) ∧
  (∀ (X : tX) (d : Nat) (x0 : Nat) (x1 : Int32) (x2 : Int32) (s0 : Int32) (s1 : Nat) (T : tT) (I : tI) (J : tJ) (R : tR) (Q : tQ), Ex X d mX7_signOf 30 [.ref x0, .int x1, .int x2] [.int s0, .ref s1] (T, I, J, R) Q = (rIn T s1 0 s0 ∧ Ex X d mX7_signOf 31 [.ref x0, .int x1, .int x2] [.int (I s1 s0.toNatClampNeg)] (T, I, J, R) Q)) ∧
  (∀ (X : tX) (d : Nat) (x0 : Nat) (x1 : Int32) (x2 : Int32) (s0 : Int32) (σ : rS) (Q : tQ), Ex X d mX7_signOf 31 [.ref x0, .int x1, .int x2] [.int s0] σ Q = Ex X d mX7_signOf 32 [.ref x0, .int x1, .int x2] [.int x2, .int s0] σ Q) ∧
  (∀ (X : tX) (d : Nat) (x0 : Nat) (x1 : Int32) (x2 : Int32) (s0 : Int32) (s1 : Int32) (σ : rS) (Q : tQ), Ex X d mX7_signOf 32 [.ref x0, .int x1, .int x2] [.int s0, .int s1] σ Q = (if s0 ≤ s1 then Ex X d mX7_signOf 39 [.ref x0, .int x1, .int x2] [] σ Q else Ex X d mX7_signOf 35 [.ref x0, .int x1, .int x2] [] σ Q)) := ⟨fun X d x0 x1 x2 σ Q => ex_P (i := .aload_n 0) (len := 1) (by decide +kernel) rfl,
  fun X d x0 x1 x2 s0 T I J R Q => q_getR (k := 9) (by decide +kernel) rfl rfl,
  fun X d x0 x1 x2 s0 σ Q => ex_P (i := .iload_n 1) (len := 1) (by decide +kernel) rfl,
  fun X d x0 x1 x2 s0 s1 T I J R Q => q_iald (by decide +kernel),
  fun X d x0 x1 x2 s0 σ Q => ex_P (i := .iload_n 2) (len := 1) (by decide +kernel) rfl,
  fun X d x0 x1 x2 s0 s1 σ Q => q_icmp_ge (o := 7) (by decide +kernel) rfl⟩
set_option maxRecDepth 50000 in
theorem gX7_signOf_35 : (∀ (X : tX) (d : Nat) (x0 : Nat) (x1 : Int32) (x2 : Int32) (σ : rS) (Q : tQ), Ex X d mX7_signOf 35 [.ref x0, .int x1, .int x2] [] σ Q = Ex X d mX7_signOf 36 [.ref x0, .int x1, .int x2] [.int 2] σ Q) ∧
  (∀ (X : tX) (d : Nat) (x0 : Nat) (x1 : Int32) (x2 : Int32) (s0 : Int32) (σ : rS) (Q : tQ), Ex X d mX7_signOf 36 [.ref x0, .int x1, .int x2] [.int s0] σ Q = Ex X d mX7_signOf 40 [.ref x0, .int x1, .int x2] [.int s0] σ Q) := ⟨fun X d x0 x1 x2 σ Q => ex_P (i := .iconst 2) (len := 1) (by decide +kernel) rfl,
  fun X d x0 x1 x2 s0 σ Q => q_goto (o := 4) (by decide +kernel) rfl⟩
set_option maxRecDepth 50000 in
theorem gX7_signOf_39 : (∀ (X : tX) (d : Nat) (x0 : Nat) (x1 : Int32) (x2 : Int32) (σ : rS) (Q : tQ), Ex X d mX7_signOf 39 [.ref x0, .int x1, .int x2] [] σ Q = Ex X d mX7_signOf 40 [.ref x0, .int x1, .int x2] [.int 0] σ Q) := fun X d x0 x1 x2 σ Q => ex_P (i := .iconst 0) (len := 1) (by decide +kernel) rfl
set_option maxRecDepth 50000 in
theorem gX7_signOf_40 : (∀ (X : tX) (d : Nat) (x0 : Nat) (x1 : Int32) (x2 : Int32) (s0 : Int32) (σ : rS) (Q : tQ), Ex X d mX7_signOf 40 [.ref x0, .int x1, .int x2] [.int s0] σ Q = Q (some (.int s0)) σ) := fun X d x0 x1 x2 s0 σ Q => q_retI (by decide +kernel) rfl
set_option maxRecDepth 50000 in
theorem gX7_later_0 : (∀ (X : tX) (d : Nat) (x0 : Nat) (x1 : Int32) (x2 : Int32) (x3 : Int32) (σ : rS) (Q : tQ), Ex X d mX7_later 0 [.ref x0, .int x1, .int x2, .int x3, rU] [] σ Q = Ex X d mX7_later 1 [.ref x0, .int x1, .int x2, .int x3, rU] [.int x3] σ Q) ∧
  (∀ (X : tX) (d : Nat) (x0 : Nat) (x1 : Int32) (x2 : Int32) (x3 : Int32) (s0 : Int32) (σ : rS) (Q : tQ), Ex X d mX7_later 1 [.ref x0, .int x1, .int x2, .int x3, rU] [.int s0] σ Q = Ex X d mX7_later 2 [.ref x0, .int x1, .int x2, .int x3, rU] [.int 0, .int s0] σ Q) ∧
  (∀ (X : tX) (d : Nat) (x0 : Nat) (x1 : Int32) (x2 : Int32) (x3 : Int32) (s0 : Int32) (s1 : Int32) (σ : rS) (Q : tQ), Ex X d mX7_later 2 [.ref x0, .int x1, .int x2, .int x3, rU] [.int s0, .int s1] σ Q = Ex X d mX7_later 3 [.ref x0, .int x1, .int x2, .int x3, rU] [.int 1, .int s0, .int s1] σ Q) ∧
  (∀ (X : tX) (d : Nat) (x0 : Nat) (x1 : Int32) (x2 : Int32) (x3 : Int32) (s0 : Int32) (s1 : Int32) (s2 : Int32) (σ : rS) (Q : tQ), Ex X (d + 1) mX7_later 3 [.ref x0, .int x1, .int x2, .int x3, rU] [.int s0, .int s1, .int s2] σ Q = Ex X d mX7_within 0 [.int s2, .int s1, .int s0] [] σ (fun v σ1 => Ex X (d + 1) mX7_later 6 [.ref x0, .int x1, .int x2, .int x3, rU] (v.toList ++ []) σ1 Q)) := ⟨fun X d x0 x1 x2 x3 σ Q => ex_P (i := .iload_n 3) (len := 1) (by decide +kernel) rfl,
  fun X d x0 x1 x2 x3 s0 σ Q => ex_P (i := .iconst 0) (len := 1) (by decide +kernel) rfl,
  fun X d x0 x1 x2 x3 s0 s1 σ Q => ex_P (i := .iconst 1) (len := 1) (by decide +kernel) rfl,
  fun X d x0 x1 x2 x3 s0 s1 s2 σ Q => q_callS (k := 101) (as := [.int s2, .int s1, .int s0]) (st := []) (show rlk mX7_later.2.2.2.2.2.2 3 = some (.invokestatic 101, 3) from by decide +kernel) rfl (Or.inl rfl) rfl rfl rfl rfl rfl (Nat.le_of_ble_eq_true rfl) (Nat.le_of_ble_eq_true rfl) rfl⟩
set_option maxRecDepth 50000 in
theorem gX7_later_6 : (∀ (X : tX) (d : Nat) (x0 : Nat) (x1 : Int32) (x2 : Int32) (x3 : Int32) (s0 : Int32) (σ : rS) (Q : tQ), Ex X d mX7_later 6 [.ref x0, .int x1, .int x2, .int x3, rU] [.int s0] σ Q = (if s0 = 0 then Ex X d mX7_later 27 [.ref x0, .int x1, .int x2, .int x3, rU] [] σ Q else Ex X d mX7_later 9 [.ref x0, .int x1, .int x2, .int x3, rU] [] σ Q)) := fun X d x0 x1 x2 x3 s0 σ Q => q_if_eq (o := 21) (by decide +kernel) rfl
set_option maxRecDepth 50000 in
theorem gX7_later_9 : (∀ (X : tX) (d : Nat) (x0 : Nat) (x1 : Int32) (x2 : Int32) (x3 : Int32) (σ : rS) (Q : tQ), Ex X d mX7_later 9 [.ref x0, .int x1, .int x2, .int x3, rU] [] σ Q = Ex X d mX7_later 10 [.ref x0, .int x1, .int x2, .int x3, rU] [.int x1] σ Q) ∧
  (∀ (X : tX) (d : Nat) (x0 : Nat) (x1 : Int32) (x2 : Int32) (x3 : Int32) (s0 : Int32) (σ : rS) (Q : tQ), Ex X d mX7_later 10 [.ref x0, .int x1, .int x2, .int x3, rU] [.int s0] σ Q = Ex X d mX7_later 11 [.ref x0, .int x1, .int x2, .int x3, rU] [.int x3, .int s0] σ Q) ∧
  (∀ (X : tX) (d : Nat) (x0 : Nat) (x1 : Int32) (x2 : Int32) (x3 : Int32) (s0 : Int32) (s1 : Int32) (σ : rS) (Q : tQ), Ex X d mX7_later 11 [.ref x0, .int x1, .int x2, .int x3, rU] [.int s0, .int s1] σ Q = Ex X d mX7_later 13 [.ref x0, .int x1, .int x2, .int x3, rU] [.int 60, .int s0, .int s1] σ Q) ∧
  (∀ (X : tX) (d : Nat) (x0 : Nat) (x1 : Int32) (x2 : Int32) (x3 : Int32) (s0 : Int32) (s1 : Int32) (s2 : Int32) (σ : rS) (Q : tQ), Ex X (d + 1) mX7_later 13 [.ref x0, .int x1, .int x2, .int x3, rU] [.int s0, .int s1, .int s2] σ Q = Ex X d mX7_within 0 [.int s2, .int s1, .int s0] [] σ (fun v σ1 => Ex X (d + 1) mX7_later 16 [.ref x0, .int x1, .int x2, .int x3, rU] (v.toList ++ []) σ1 Q)) := ⟨fun X d x0 x1 x2 x3 σ Q => ex_P (i := .iload_n 1) (len := 1) (by decide +kernel) rfl,
  fun X d x0 x1 x2 x3 s0 σ Q => ex_P (i := .iload_n 3) (len := 1) (by decide +kernel) rfl,
  fun X d x0 x1 x2 x3 s0 s1 σ Q => ex_P (i := .bipush 60) (len := 2) (by decide +kernel) rfl,
  fun X d x0 x1 x2 x3 s0 s1 s2 σ Q => q_callS (k := 101) (as := [.int s2, .int s1, .int s0]) (st := []) (show rlk mX7_later.2.2.2.2.2.2 13 = some (.invokestatic 101, 3) from by decide +kernel) rfl (Or.inl rfl) rfl rfl rfl rfl rfl (Nat.le_of_ble_eq_true rfl) (Nat.le_of_ble_eq_true rfl) rfl⟩
set_option maxRecDepth 50000 in
theorem gX7_later_16 : (∀ (X : tX) (d : Nat) (x0 : Nat) (x1 : Int32) (x2 : Int32) (x3 : Int32) (s0 : Int32) (σ : rS) (Q : tQ), Ex X d mX7_later 16 [.ref x0, .int x1, .int x2, .int x3, rU] [.int s0] σ Q = (if s0 = 0 then Ex X d mX7_later 27 [.ref x0, .int x1, .int x2, .int x3, rU] [] σ Q else Ex X d mX7_later 19 [.ref x0, .int x1, .int x2, .int x3, rU] [] σ Q)) := fun X d x0 x1 x2 x3 s0 σ Q => q_if_eq (o := 11) (by decide +kernel) rfl
set_option maxRecDepth 50000 in
theorem gX7_later_19 : (∀ (X : tX) (d : Nat) (x0 : Nat) (x1 : Int32) (x2 : Int32) (x3 : Int32) (σ : rS) (Q : tQ), Ex X d mX7_later 19 [.ref x0, .int x1, .int x2, .int x3, rU] [] σ Q = Ex X d mX7_later 20 [.ref x0, .int x1, .int x2, .int x3, rU] [.ref x0] σ Q) ∧
  (∀ (X : tX) (d : Nat) (x0 : Nat) (x1 : Int32) (x2 : Int32) (x3 : Int32) (s0 : Nat) (σ : rS) (Q : tQ), Ex X d mX7_later 20 [.ref x0, .int x1, .int x2, .int x3, rU] [.ref s0] σ Q = Ex X d mX7_later 21 [.ref x0, .int x1, .int x2, .int x3, rU] [.int x2, .ref s0] σ Q) ∧
  (∀ (X : tX) (d : Nat) (x0 : Nat) (x1 : Int32) (x2 : Int32) (x3 : Int32) (s0 : Int32) (s1 : Nat) (T : tT) (I : tI) (J : tJ) (R : tR) (Q : tQ), Ex X (d + 1) mX7_later 21 [.ref x0, .int x1, .int x2, .int x3, rU] [.int s0, .ref s1] (T, I, J, R) Q = (T[s1]? = some (3, 7) ∧ Ex X d mX7_isOne 0 [.ref s1, .int s0] [] (T, I, J, R) (fun v σ1 => Ex X (d + 1) mX7_later 24 [.ref x0, .int x1, .int x2, .int x3, rU] (v.toList ++ []) σ1 Q))) := ⟨fun X d x0 x1 x2 x3 σ Q => ex_P (i := .aload_n 0) (len := 1) (by decide +kernel) rfl,
  fun X d x0 x1 x2 x3 s0 σ Q => ex_P (i := .iload_n 2) (len := 1) (by decide +kernel) rfl,
  fun X d x0 x1 x2 x3 s0 s1 T I J R Q => q_callV (k := 119) (as := [.int s0]) (st := []) (show rlk mX7_later.2.2.2.2.2.2 21 = some (.invokevirtual 119, 3) from by decide +kernel) rfl rfl rfl (Nat.le_of_ble_eq_true rfl) (Nat.le_of_ble_eq_true rfl) rfl⟩
set_option maxRecDepth 50000 in
theorem gX7_later_24 : (∀ (X : tX) (d : Nat) (x0 : Nat) (x1 : Int32) (x2 : Int32) (x3 : Int32) (s0 : Int32) (σ : rS) (Q : tQ), Ex X d mX7_later 24 [.ref x0, .int x1, .int x2, .int x3, rU] [.int s0] σ Q = (if s0 = 0 then Ex X d mX7_later 27 [.ref x0, .int x1, .int x2, .int x3, rU] [] σ Q else Ex X d mX7_later 29 [.ref x0, .int x1, .int x2, .int x3, rU] [] σ Q)) := fun X d x0 x1 x2 x3 s0 σ Q => q_if_ne (o := 5) (by decide +kernel) rfl
set_option maxRecDepth 50000 in
theorem gX7_later_27 : (∀ (X : tX) (d : Nat) (x0 : Nat) (x1 : Int32) (x2 : Int32) (x3 : Int32) (σ : rS) (Q : tQ), Ex X d mX7_later 27 [.ref x0, .int x1, .int x2, .int x3, rU] [] σ Q = Ex X d mX7_later 28 [.ref x0, .int x1, .int x2, .int x3, rU] [.int (-1)] σ Q) ∧
  (∀ (X : tX) (d : Nat) (x0 : Nat) (x1 : Int32) (x2 : Int32) (x3 : Int32) (s0 : Int32) (σ : rS) (Q : tQ), Ex X d mX7_later 28 [.ref x0, .int x1, .int x2, .int x3, rU] [.int s0] σ Q = Q (some (.int s0)) σ) := ⟨fun X d x0 x1 x2 x3 σ Q => ex_P (i := .iconst (-1)) (len := 1) (by decide +kernel) rfl,
  fun X d x0 x1 x2 x3 s0 σ Q => q_retI (by decide +kernel) rfl⟩
set_option maxRecDepth 50000 in
theorem gX7_later_29 : (∀ (X : tX) (d : Nat) (x0 : Nat) (x1 : Int32) (x2 : Int32) (x3 : Int32) (σ : rS) (Q : tQ), Ex X d mX7_later 29 [.ref x0, .int x1, .int x2, .int x3, rU] [] σ Q = Ex X d mX7_later 30 [.ref x0, .int x1, .int x2, .int x3, rU] [.ref x0] σ Q) ∧
  (∀ (X : tX) (d : Nat) (x0 : Nat) (x1 : Int32) (x2 : Int32) (x3 : Int32) (s0 : Nat) (σ : rS) (Q : tQ), Ex X d mX7_later 30 [.ref x0, .int x1, .int x2, .int x3, rU] [.ref s0] σ Q = Ex X d mX7_later 31 [.ref x0, .int x1, .int x2, .int x3, rU] [.ref x0, .ref s0] σ Q) ∧
  (∀ (X : tX) (d : Nat) (x0 : Nat) (x1 : Int32) (x2 : Int32) (x3 : Int32) (s0 : Nat) (s1 : Nat) (T : tT) (I : tI) (J : tJ) (R : tR) (Q : tQ), Ex X d mX7_later 31 [.ref x0, .int x1, .int x2, .int x3, rU] [.ref s0, .ref s1] (T, I, J, R) Q = (T[s0]? = some (3, 7) ∧ Ex X d mX7_later 34 [.ref x0, .int x1, .int x2, .int x3, rU] [va_rf (R s0 38), .ref s1] (T, I, J, R) Q)) ∧
  (∀ (X : tX) (d : Nat) (x0 : Nat) (x1 : Int32) (x2 : Int32) (x3 : Int32) (s0 : Nat) (s1 : Nat) (T : tT) (I : tI) (J : tJ) (R : tR) (Q : tQ), Ex X (d + 1) mX7_later 34 [.ref x0, .int x1, .int x2, .int x3, rU] [.ref s0, .ref s1] (T, I, J, R) Q = (T[s1]? = some (3, 7) ∧ Ex X d mX7_keeps 0 [.ref s1, .ref s0, rU] [] (T, I, J, R) (fun v σ1 => Ex X (d + 1) mX7_later 37 [.ref x0, .int x1, .int x2, .int x3, rU] (v.toList ++ []) σ1 Q))) := ⟨fun X d x0 x1 x2 x3 σ Q => ex_P (i := .aload_n 0) (len := 1) (by decide +kernel) rfl,
  fun X d x0 x1 x2 x3 s0 σ Q => ex_P (i := .aload_n 0) (len := 1) (by decide +kernel) rfl,
  fun X d x0 x1 x2 x3 s0 s1 T I J R Q => q_getR (k := 85) (by decide +kernel) rfl rfl,
  fun X d x0 x1 x2 x3 s0 s1 T I J R Q => q_callV (k := 229) (as := [.ref s0]) (st := []) (show rlk mX7_later.2.2.2.2.2.2 34 = some (.invokevirtual 229, 3) from by decide +kernel) rfl rfl rfl (Nat.le_of_ble_eq_true rfl) (Nat.le_of_ble_eq_true rfl) rfl⟩
set_option maxRecDepth 50000 in
theorem gX7_later_37 : (∀ (X : tX) (d : Nat) (x0 : Nat) (x1 : Int32) (x2 : Int32) (x3 : Int32) (σ : rS) (Q : tQ), Ex X d mX7_later 37 [.ref x0, .int x1, .int x2, .int x3, rU] [] σ Q = Ex X d mX7_later 38 [.ref x0, .int x1, .int x2, .int x3, rU] [.ref x0] σ Q) ∧
  (∀ (X : tX) (d : Nat) (x0 : Nat) (x1 : Int32) (x2 : Int32) (x3 : Int32) (s0 : Nat) (σ : rS) (Q : tQ), Ex X d mX7_later 38 [.ref x0, .int x1, .int x2, .int x3, rU] [.ref s0] σ Q = Ex X d mX7_later 39 [.ref x0, .int x1, .int x2, .int x3, rU] [.int x1, .ref s0] σ Q) ∧
  (∀ (X : tX) (d : Nat) (x0 : Nat) (x1 : Int32) (x2 : Int32) (x3 : Int32) (s0 : Int32) (s1 : Nat) (σ : rS) (Q : tQ), Ex X d mX7_later 39 [.ref x0, .int x1, .int x2, .int x3, rU] [.int s0, .ref s1] σ Q = Ex X d mX7_later 40 [.ref x0, .int x1, .int x2, .int x3, rU] [.int x3, .int s0, .ref s1] σ Q) ∧
  (∀ (X : tX) (d : Nat) (x0 : Nat) (x1 : Int32) (x2 : Int32) (x3 : Int32) (s0 : Int32) (s1 : Int32) (s2 : Nat) (σ : rS) (Q : tQ), Ex X d mX7_later 40 [.ref x0, .int x1, .int x2, .int x3, rU] [.int s0, .int s1, .ref s2] σ Q = Ex X d mX7_later 41 [.ref x0, .int x1, .int x2, .int x3, rU] [.int (s1 - s0), .ref s2] σ Q) ∧
  (∀ (X : tX) (d : Nat) (x0 : Nat) (x1 : Int32) (x2 : Int32) (x3 : Int32) (s0 : Int32) (s1 : Nat) (T : tT) (I : tI) (J : tJ) (R : tR) (Q : tQ), Ex X (d + 1) mX7_later 41 [.ref x0, .int x1, .int x2, .int x3, rU] [.int s0, .ref s1] (T, I, J, R) Q = (T[s1]? = some (3, 7) ∧ Ex X d mX7_goesOn 0 [.ref s1, .int s0, rU] [] (T, I, J, R) (fun v σ1 => Ex X (d + 1) mX7_later 44 [.ref x0, .int x1, .int x2, .int x3, rU] (v.toList ++ []) σ1 Q))) := ⟨fun X d x0 x1 x2 x3 σ Q => ex_P (i := .aload_n 0) (len := 1) (by decide +kernel) rfl,
  fun X d x0 x1 x2 x3 s0 σ Q => ex_P (i := .iload_n 1) (len := 1) (by decide +kernel) rfl,
  fun X d x0 x1 x2 x3 s0 s1 σ Q => ex_P (i := .iload_n 3) (len := 1) (by decide +kernel) rfl,
  fun X d x0 x1 x2 x3 s0 s1 s2 σ Q => ex_P (i := .isub) (len := 1) (by decide +kernel) rfl,
  fun X d x0 x1 x2 x3 s0 s1 T I J R Q => q_callV (k := 233) (as := [.int s0]) (st := []) (show rlk mX7_later.2.2.2.2.2.2 41 = some (.invokevirtual 233, 3) from by decide +kernel) rfl rfl rfl (Nat.le_of_ble_eq_true rfl) (Nat.le_of_ble_eq_true rfl) rfl⟩
set_option maxRecDepth 50000 in
theorem gX7_later_44 : (∀ (X : tX) (d : Nat) (x0 : Nat) (x1 : Int32) (x2 : Int32) (x3 : Int32) (σ : rS) (Q : tQ), Ex X d mX7_later 44 [.ref x0, .int x1, .int x2, .int x3, rU] [] σ Q = Ex X d mX7_later 45 [.ref x0, .int x1, .int x2, .int x3, rU] [.int x3] σ Q) ∧
  (∀ (X : tX) (d : Nat) (x0 : Nat) (x1 : Int32) (x2 : Int32) (x3 : Int32) (s0 : Int32) (σ : rS) (Q : tQ), Ex X d mX7_later 45 [.ref x0, .int x1, .int x2, .int x3, rU] [.int s0] σ Q = (if s0 = 0 then Ex X d mX7_later 48 [.ref x0, .int x1, .int x2, .int x3, rU] [] σ Q else Ex X d mX7_later 57 [.ref x0, .int x1, .int x2, .int x3, rU] [] σ Q)) := ⟨fun X d x0 x1 x2 x3 σ Q => ex_P (i := .iload_n 3) (len := 1) (by decide +kernel) rfl,
  fun X d x0 x1 x2 x3 s0 σ Q => q_if_ne (o := 12) (by decide +kernel) rfl⟩
set_option maxRecDepth 50000 in
theorem gX7_later_48 : (∀ (X : tX) (d : Nat) (x0 : Nat) (x1 : Int32) (x2 : Int32) (x3 : Int32) (σ : rS) (Q : tQ), Ex X d mX7_later 48 [.ref x0, .int x1, .int x2, .int x3, rU] [] σ Q = Ex X d mX7_later 49 [.ref x0, .int x1, .int x2, .int x3, rU] [.ref x0] σ Q) ∧
  (∀ (X : tX) (d : Nat) (x0 : Nat) (x1 : Int32) (x2 : Int32) (x3 : Int32) (s0 : Nat) (T : tT) (I : tI) (J : tJ) (R : tR) (Q : tQ), Ex X d mX7_later 49 [.ref x0, .int x1, .int x2, .int x3, rU] [.ref s0] (T, I, J, R) Q = (T[s0]? = some (3, 7) ∧ Ex X d mX7_later 52 [.ref x0, .int x1, .int x2, .int x3, rU] [va_rf (R s0 1)] (T, I, J, R) Q)) ∧
  (∀ (X : tX) (d : Nat) (x0 : Nat) (x1 : Int32) (x2 : Int32) (x3 : Int32) (s0 : Nat) (σ : rS) (Q : tQ), Ex X d mX7_later 52 [.ref x0, .int x1, .int x2, .int x3, rU] [.ref s0] σ Q = Ex X d mX7_later 53 [.ref x0, .int x1, .int x2, .int x3, rU] [.int x2, .ref s0] σ Q) ∧
  (∀ (X : tX) (d : Nat) (x0 : Nat) (x1 : Int32) (x2 : Int32) (x3 : Int32) (s0 : Int32) (s1 : Nat) (T : tT) (I : tI) (J : tJ) (R : tR) (Q : tQ), Ex X d mX7_later 53 [.ref x0, .int x1, .int x2, .int x3, rU] [.int s0, .ref s1] (T, I, J, R) Q = (rIn T s1 0 s0 ∧ Ex X d mX7_later 54 [.ref x0, .int x1, .int x2, .int x3, rU] [.int (I s1 s0.toNatClampNeg)] (T, I, J, R) Q)) ∧
  (∀ (X : tX) (d : Nat) (x0 : Nat) (x1 : Int32) (x2 : Int32) (x3 : Int32) (s0 : Int32) (σ : rS) (Q : tQ), Ex X d mX7_later 54 [.ref x0, .int x1, .int x2, .int x3, rU] [.int s0] σ Q = Ex X d mX7_later 62 [.ref x0, .int x1, .int x2, .int x3, rU] [.int s0] σ Q) := ⟨fun X d x0 x1 x2 x3 σ Q => ex_P (i := .aload_n 0) (len := 1) (by decide +kernel) rfl,
  fun X d x0 x1 x2 x3 s0 T I J R Q => q_getR (k := 9) (by decide +kernel) rfl rfl,
  fun X d x0 x1 x2 x3 s0 σ Q => ex_P (i := .iload_n 2) (len := 1) (by decide +kernel) rfl,
  fun X d x0 x1 x2 x3 s0 s1 T I J R Q => q_iald (by decide +kernel),
  fun X d x0 x1 x2 x3 s0 σ Q => q_goto (o := 8) (by decide +kernel) rfl⟩
set_option maxRecDepth 50000 in
theorem gX7_later_57 : (∀ (X : tX) (d : Nat) (x0 : Nat) (x1 : Int32) (x2 : Int32) (x3 : Int32) (σ : rS) (Q : tQ), Ex X d mX7_later 57 [.ref x0, .int x1, .int x2, .int x3, rU] [] σ Q = Ex X d mX7_later 58 [.ref x0, .int x1, .int x2, .int x3, rU] [.ref x0] σ Q) ∧
  (∀ (X : tX) (d : Nat) (x0 : Nat) (x1 : Int32) (x2 : Int32) (x3 : Int32) (s0 : Nat) (σ : rS) (Q : tQ), Ex X d mX7_later 58 [.ref x0, .int x1, .int x2, .int x3, rU] [.ref s0] σ Q = Ex X d mX7_later 59 [.ref x0, .int x1, .int x2, .int x3, rU] [.int x2, .ref s0] σ Q) ∧
  (∀ (X : tX) (d : Nat) (x0 : Nat) (x1 : Int32) (x2 : Int32) (x3 : Int32) (s0 : Int32) (s1 : Nat) (T : tT) (I : tI) (J : tJ) (R : tR) (Q : tQ), Ex X (d + 1) mX7_later 59 [.ref x0, .int x1, .int x2, .int x3, rU] [.int s0, .ref s1] (T, I, J, R) Q = (T[s1]? = some (3, 7) ∧ Ex X d mX7_signOf 0 [.ref s1, .int s0, rU] [] (T, I, J, R) (fun v σ1 => Ex X (d + 1) mX7_later 62 [.ref x0, .int x1, .int x2, .int x3, rU] (v.toList ++ []) σ1 Q))) := ⟨fun X d x0 x1 x2 x3 σ Q => ex_P (i := .aload_n 0) (len := 1) (by decide +kernel) rfl,
  fun X d x0 x1 x2 x3 s0 σ Q => ex_P (i := .iload_n 2) (len := 1) (by decide +kernel) rfl,
  fun X d x0 x1 x2 x3 s0 s1 T I J R Q => q_callV (k := 237) (as := [.int s0]) (st := []) (show rlk mX7_later.2.2.2.2.2.2 59 = some (.invokevirtual 237, 3) from by decide +kernel) rfl rfl rfl (Nat.le_of_ble_eq_true rfl) (Nat.le_of_ble_eq_true rfl) rfl⟩
set_option maxRecDepth 50000 in
theorem gX7_later_62 : (∀ (X : tX) (d : Nat) (x0 : Nat) (x1 : Int32) (x2 : Int32) (x3 : Int32) (s0 : Int32) (σ : rS) (Q : tQ), Ex X d mX7_later 62 [.ref x0, .int x1, .int x2, .int x3, rU] [.int s0] σ Q = Ex X d mX7_later 64 [.ref x0, .int x1, .int x2, .int x3, .int s0] [] σ Q) ∧
  (∀ (X : tX) (d : Nat) (x0 : Nat) (x1 : Int32) (x2 : Int32) (x3 : Int32) (x4 : Int32) (σ : rS) (Q : tQ), Ex X d mX7_later 64 [.ref x0, .int x1, .int x2, .int x3, .int x4] [] σ Q = Ex X d mX7_later 65 [.ref x0, .int x1, .int x2, .int x3, .int x4] [.ref x0] σ Q) ∧
  (∀ (X : tX) (d : Nat) (x0 : Nat) (x1 : Int32) (x2 : Int32) (x3 : Int32) (x4 : Int32) (s0 : Nat) (σ : rS) (Q : tQ), Ex X d mX7_later 65 [.ref x0, .int x1, .int x2, .int x3, .int x4] [.ref s0] σ Q = Ex X d mX7_later 66 [.ref x0, .int x1, .int x2, .int x3, .int x4] [.ref x0, .ref s0] σ Q) ∧
  (∀ (X : tX) (d : Nat) (x0 : Nat) (x1 : Int32) (x2 : Int32) (x3 : Int32) (x4 : Int32) (s0 : Nat) (s1 : Nat) (T : tT) (I : tI) (J : tJ) (R : tR) (Q : tQ), Ex X d mX7_later 66 [.ref x0, .int x1, .int x2, .int x3, .int x4] [.ref s0, .ref s1] (T, I, J, R) Q = (T[s0]? = some (3, 7) ∧ Ex X d mX7_later 69 [.ref x0, .int x1, .int x2, .int x3, .int x4] [va_rf (R s0 38), .ref s1] (T, I, J, R) Q)) ∧
  (∀ (X : tX) (d : Nat) (x0 : Nat) (x1 : Int32) (x2 : Int32) (x3 : Int32) (x4 : Int32) (s0 : Nat) (s1 : Nat) (σ : rS) (Q : tQ), Ex X d mX7_later 69 [.ref x0, .int x1, .int x2, .int x3, .int x4] [.ref s0, .ref s1] σ Q = Ex X d mX7_later 71 [.ref x0, .int x1, .int x2, .int x3, .int x4] [.int 8, .ref s0, .ref s1] σ Q) ∧
  (∀ (X : tX) (d : Nat) (x0 : Nat) (x1 : Int32) (x2 : Int32) (x3 : Int32) (x4 : Int32) (s0 : Int32) (s1 : Nat) (s2 : Nat) (T : tT) (I : tI) (J : tJ) (R : tR) (Q : tQ), Ex X (d + 1) mX7_later 71 [.ref x0, .int x1, .int x2, .int x3, .int x4] [.int s0, .ref s1, .ref s2] (T, I, J, R) Q = (T[s2]? = some (3, 7) ∧ Ex X d mX7_laysBack 0 [.ref s2, .ref s1, .int s0, rU] [] (T, I, J, R) (fun v σ1 => Ex X (d + 1) mX7_later 74 [.ref x0, .int x1, .int x2, .int x3, .int x4] (v.toList ++ []) σ1 Q))) := ⟨fun X d x0 x1 x2 x3 s0 σ Q => ex_P (i := .istore 4) (len := 2) (by decide +kernel) rfl,
  fun X d x0 x1 x2 x3 x4 σ Q => ex_P (i := .aload_n 0) (len := 1) (by decide +kernel) rfl,
  fun X d x0 x1 x2 x3 x4 s0 σ Q => ex_P (i := .aload_n 0) (len := 1) (by decide +kernel) rfl,
  fun X d x0 x1 x2 x3 x4 s0 s1 T I J R Q => q_getR (k := 85) (by decide +kernel) rfl rfl,
  fun X d x0 x1 x2 x3 x4 s0 s1 σ Q => ex_P (i := .bipush 8) (len := 2) (by decide +kernel) rfl,
  fun X d x0 x1 x2 x3 x4 s0 s1 s2 T I J R Q => q_callV (k := 240) (as := [.ref s1, .int s0]) (st := []) (show rlk mX7_later.2.2.2.2.2.2 71 = some (.invokevirtual 240, 3) from by decide +kernel) rfl rfl rfl (Nat.le_of_ble_eq_true rfl) (Nat.le_of_ble_eq_true rfl) rfl⟩
set_option maxRecDepth 50000 in
theorem gX7_later_74 : (∀ (X : tX) (d : Nat) (x0 : Nat) (x1 : Int32) (x2 : Int32) (x3 : Int32) (x4 : Int32) (σ : rS) (Q : tQ), Ex X d mX7_later 74 [.ref x0, .int x1, .int x2, .int x3, .int x4] [] σ Q = Ex X d mX7_later 76 [.ref x0, .int x1, .int x2, .int x3, .int x4] [.int x4] σ Q) ∧
  (∀ (X : tX) (d : Nat) (x0 : Nat) (x1 : Int32) (x2 : Int32) (x3 : Int32) (x4 : Int32) (s0 : Int32) (σ : rS) (Q : tQ), Ex X d mX7_later 76 [.ref x0, .int x1, .int x2, .int x3, .int x4] [.int s0] σ Q = Q (some (.int s0)) σ) := ⟨fun X d x0 x1 x2 x3 x4 σ Q => ex_P (i := .iload 4) (len := 2) (by decide +kernel) rfl,
  fun X d x0 x1 x2 x3 x4 s0 σ Q => q_retI (by decide +kernel) rfl⟩
