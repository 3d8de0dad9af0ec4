set_option maxRecDepth 50000 in
theorem gJ6_numberOfTrailingZeros_0f7a4_0 : (∀ (X : tX) (d : Nat) (x0 : Int32) (σ : rS) (Q : tQ), Ex X d mJ6_numberOfTrailingZeros_0f7a4 0 [.int x0, rU] [] σ Q = Ex X d mJ6_numberOfTrailingZeros_0f7a4 1 [.int x0, rU] [.int x0] σ Q) ∧
  (∀ (X : tX) (d : Nat) (x0 : Int32) (s0 : Int32) (σ : rS) (Q : tQ), Ex X d mJ6_numberOfTrailingZeros_0f7a4 1 [.int x0, rU] [.int s0] σ Q = Ex X d mJ6_numberOfTrailingZeros_0f7a4 2 [.int x0, rU] [.int (-1), .int s0] σ Q) ∧
  (∀ (X : tX) (d : Nat) (x0 : Int32) (s0 : Int32) (s1 : Int32) (σ : rS) (Q : tQ), Ex X d mJ6_numberOfTrailingZeros_0f7a4 2 [.int x0, rU] [.int s0, .int s1] σ Q = Ex X d mJ6_numberOfTrailingZeros_0f7a4 3 [.int x0, rU] [.int (s1 ^^^ s0)] σ Q) ∧
  (∀ (X : tX) (d : Nat) (x0 : Int32) (s0 : Int32) (σ : rS) (Q : tQ), Ex X d mJ6_numberOfTrailingZeros_0f7a4 3 [.int x0, rU] [.int s0] σ Q = Ex X d mJ6_numberOfTrailingZeros_0f7a4 4 [.int x0, rU] [.int x0, .int s0] σ Q) ∧
  (∀ (X : tX) (d : Nat) (x0 : Int32) (s0 : Int32) (s1 : Int32) (σ : rS) (Q : tQ), Ex X d mJ6_numberOfTrailingZeros_0f7a4 4 [.int x0, rU] [.int s0, .int s1] σ Q = Ex X d mJ6_numberOfTrailingZeros_0f7a4 5 [.int x0, rU] [.int 1, .int s0, .int s1] σ Q) ∧
  (∀ (X : tX) (d : Nat) (x0 : Int32) (s0 : Int32) (s1 : Int32) (s2 : Int32) (σ : rS) (Q : tQ), Ex X d mJ6_numberOfTrailingZeros_0f7a4 5 [.int x0, rU] [.int s0, .int s1, .int s2] σ Q = Ex X d mJ6_numberOfTrailingZeros_0f7a4 6 [.int x0, rU] [.int (s1 - s0), .int s2] σ Q) ∧
  (∀ (X : tX) (d : Nat) (x0 : Int32) (s0 : Int32) (s1 : Int32) (σ : rS) (Q : tQ), Ex X d mJ6_numberOfTrailingZeros_0f7a4 6 [.int x0, rU] [.int s0, .int s1] σ Q = Ex X d mJ6_numberOfTrailingZeros_0f7a4 7 [.int x0, rU] [.int (s1 &&& s0)] σ Q) ∧
  (∀ (X : tX) (d : Nat) (x0 : Int32) (s0 : Int32) (σ : rS) (Q : tQ), Ex X d mJ6_numberOfTrailingZeros_0f7a4 7 [.int x0, rU] [.int s0] σ Q = Ex X d mJ6_numberOfTrailingZeros_0f7a4 8 [.int s0, rU] [] σ Q) ∧
  (∀ (X : tX) (d : Nat) (x0 : Int32) (σ : rS) (Q : tQ), Ex X d mJ6_numberOfTrailingZeros_0f7a4 8 [.int x0, rU] [] σ Q = Ex X d mJ6_numberOfTrailingZeros_0f7a4 9 [.int x0, rU] [.int x0] σ Q) ∧
  (∀ (X : tX) (d : Nat) (x0 : Int32) (s0 : Int32) (σ : rS) (Q : tQ), Ex X d mJ6_numberOfTrailingZeros_0f7a4 9 [.int x0, rU] [.int s0] σ Q = (if 0 < s0 then Ex X d mJ6_numberOfTrailingZeros_0f7a4 17 [.int x0, rU] [] σ Q else Ex X d mJ6_numberOfTrailingZeros_0f7a4 12 [.int x0, rU] [] σ Q)) := ⟨fun X d x0 σ Q => ex_P (i := .iload_n 0) (len := 1) (by decide +kernel) rfl,
  fun X d x0 s0 σ Q => ex_P (i := .iconst (-1)) (len := 1) (by decide +kernel) rfl,
  fun X d x0 s0 s1 σ Q => ex_P (i := .ixor) (len := 1) (by decide +kernel) rfl,
  fun X d x0 s0 σ Q => ex_P (i := .iload_n 0) (len := 1) (by decide +kernel) rfl,
  fun X d x0 s0 s1 σ Q => ex_P (i := .iconst 1) (len := 1) (by decide +kernel) rfl,
  fun X d x0 s0 s1 s2 σ Q => ex_P (i := .isub) (len := 1) (by decide +kernel) rfl,
  fun X d x0 s0 s1 σ Q => ex_P (i := .iand) (len := 1) (by decide +kernel) rfl,
  fun X d x0 s0 σ Q => ex_P (i := .istore_n 0) (len := 1) (by decide +kernel) rfl,
  fun X d x0 σ Q => ex_P (i := .iload_n 0) (len := 1) (by decide +kernel) rfl,
  fun X d x0 s0 σ Q => q_if_gt (o := 8) (by decide +kernel) rfl⟩
set_option maxRecDepth 50000 in
theorem gJ6_numberOfTrailingZeros_0f7a4_12 : (∀ (X : tX) (d : Nat) (x0 : Int32) (σ : rS) (Q : tQ), Ex X d mJ6_numberOfTrailingZeros_0f7a4 12 [.int x0, rU] [] σ Q = Ex X d mJ6_numberOfTrailingZeros_0f7a4 13 [.int x0, rU] [.int x0] σ Q) ∧
  (∀ (X : tX) (d : Nat) (x0 : Int32) (s0 : Int32) (σ : rS) (Q : tQ), Ex X d mJ6_numberOfTrailingZeros_0f7a4 13 [.int x0, rU] [.int s0] σ Q = Ex X d mJ6_numberOfTrailingZeros_0f7a4 15 [.int x0, rU] [.int 32, .int s0] σ Q) ∧
  (∀ (X : tX) (d : Nat) (x0 : Int32) (s0 : Int32) (s1 : Int32) (σ : rS) (Q : tQ), Ex X d mJ6_numberOfTrailingZeros_0f7a4 15 [.int x0, rU] [.int s0, .int s1] σ Q = Ex X d mJ6_numberOfTrailingZeros_0f7a4 16 [.int x0, rU] [.int (s1 &&& s0)] σ Q) ∧
  (∀ (X : tX) (d : Nat) (x0 : Int32) (s0 : Int32) (σ : rS) (Q : tQ), Ex X d mJ6_numberOfTrailingZeros_0f7a4 16 [.int x0, rU] [.int s0] σ Q = Q (some (.int s0)) σ) := ⟨fun X d x0 σ Q => ex_P (i := .iload_n 0) (len := 1) (by decide +kernel) rfl,
  fun X d x0 s0 σ Q => ex_P (i := .bipush 32) (len := 2) (by decide +kernel) rfl,
  fun X d x0 s0 s1 σ Q => ex_P (i := .iand) (len := 1) (by decide +kernel) rfl,
  fun X d x0 s0 σ Q => q_retI (by decide +kernel) rfl⟩
set_option maxRecDepth 50000 in
theorem gJ6_numberOfTrailingZeros_0f7a4_17 : (∀ (X : tX) (d : Nat) (x0 : Int32) (σ : rS) (Q : tQ), Ex X d mJ6_numberOfTrailingZeros_0f7a4 17 [.int x0, rU] [] σ Q = Ex X d mJ6_numberOfTrailingZeros_0f7a4 18 [.int x0, rU] [.int 1] σ Q) ∧
  (∀ (X : tX) (d : Nat) (x0 : Int32) (s0 : Int32) (σ : rS) (Q : tQ), Ex X d mJ6_numberOfTrailingZeros_0f7a4 18 [.int x0, rU] [.int s0] σ Q = Ex X d mJ6_numberOfTrailingZeros_0f7a4 19 [.int x0, .int s0] [] σ Q) ∧
  (∀ (X : tX) (d : Nat) (x0 : Int32) (x1 : Int32) (σ : rS) (Q : tQ), Ex X d mJ6_numberOfTrailingZeros_0f7a4 19 [.int x0, .int x1] [] σ Q = Ex X d mJ6_numberOfTrailingZeros_0f7a4 20 [.int x0, .int x1] [.int x0] σ Q) ∧
  (∀ (X : tX) (d : Nat) (x0 : Int32) (x1 : Int32) (s0 : Int32) (T : tT) (I : tI) (J : tJ) (R : tR) (Q : tQ), Ex X d mJ6_numberOfTrailingZeros_0f7a4 20 [.int x0, .int x1] [.int s0] (T, I, J, R) Q = Ex X d mJ6_numberOfTrailingZeros_0f7a4 23 [.int x0, .int x1] [.int 65536, .int s0] (T, I, J, R) Q) ∧
  (∀ (X : tX) (d : Nat) (x0 : Int32) (x1 : Int32) (s0 : Int32) (s1 : Int32) (σ : rS) (Q : tQ), Ex X d mJ6_numberOfTrailingZeros_0f7a4 23 [.int x0, .int x1] [.int s0, .int s1] σ Q = (if s1 ≤ s0 then Ex X d mJ6_numberOfTrailingZeros_0f7a4 34 [.int x0, .int x1] [] σ Q else Ex X d mJ6_numberOfTrailingZeros_0f7a4 26 [.int x0, .int x1] [] σ Q)) := ⟨fun X d x0 σ Q => ex_P (i := .iconst 1) (len := 1) (by decide +kernel) rfl,
  fun X d x0 s0 σ Q => ex_P (i := .istore_n 1) (len := 1) (by decide +kernel) rfl,
  fun X d x0 x1 σ Q => ex_P (i := .iload_n 0) (len := 1) (by decide +kernel) rfl,
  fun X d x0 x1 s0 T I J R Q => q_ldcw (k := 264) (by decide +kernel) rfl,
  fun X d x0 x1 s0 s1 σ Q => q_icmp_le (o := 11) (by decide +kernel) rfl⟩
set_option maxRecDepth 50000 in
theorem gJ6_numberOfTrailingZeros_0f7a4_26 : (∀ (X : tX) (d : Nat) (x0 : Int32) (x1 : Int32) (σ : rS) (Q : tQ), Ex X d mJ6_numberOfTrailingZeros_0f7a4 26 [.int x0, .int x1] [] σ Q = Ex X d mJ6_numberOfTrailingZeros_0f7a4 29 [.int x0, .int (x1 + 16)] [] σ Q) ∧
  (∀ (X : tX) (d : Nat) (x0 : Int32) (x1 : Int32) (σ : rS) (Q : tQ), Ex X d mJ6_numberOfTrailingZeros_0f7a4 29 [.int x0, .int x1] [] σ Q = Ex X d mJ6_numberOfTrailingZeros_0f7a4 30 [.int x0, .int x1] [.int x0] σ Q) ∧
  (∀ (X : tX) (d : Nat) (x0 : Int32) (x1 : Int32) (s0 : Int32) (σ : rS) (Q : tQ), Ex X d mJ6_numberOfTrailingZeros_0f7a4 30 [.int x0, .int x1] [.int s0] σ Q = Ex X d mJ6_numberOfTrailingZeros_0f7a4 32 [.int x0, .int x1] [.int 16, .int s0] σ Q) ∧
  (∀ (X : tX) (d : Nat) (x0 : Int32) (x1 : Int32) (s0 : Int32) (s1 : Int32) (σ : rS) (Q : tQ), Ex X d mJ6_numberOfTrailingZeros_0f7a4 32 [.int x0, .int x1] [.int s0, .int s1] σ Q = Ex X d mJ6_numberOfTrailingZeros_0f7a4 33 [.int x0, .int x1] [.int (s1.toUInt32 >>> (s0.toUInt32 &&& Int32.toUInt32 31)).toInt32] σ Q) ∧
  (∀ (X : tX) (d : Nat) (x0 : Int32) (x1 : Int32) (s0 : Int32) (σ : rS) (Q : tQ), Ex X d mJ6_numberOfTrailingZeros_0f7a4 33 [.int x0, .int x1] [.int s0] σ Q = Ex X d mJ6_numberOfTrailingZeros_0f7a4 34 [.int s0, .int x1] [] σ Q) := ⟨fun X d x0 x1 σ Q => ex_P (i := .iinc 1 16) (len := 3) (by decide +kernel) rfl,
  fun X d x0 x1 σ Q => ex_P (i := .iload_n 0) (len := 1) (by decide +kernel) rfl,
  fun X d x0 x1 s0 σ Q => ex_P (i := .bipush 16) (len := 2) (by decide +kernel) rfl,
  fun X d x0 x1 s0 s1 σ Q => ex_P (i := .iushr) (len := 1) (by decide +kernel) rfl,
  fun X d x0 x1 s0 σ Q => ex_P (i := .istore_n 0) (len := 1) (by decide +kernel) rfl⟩
set_option maxRecDepth 50000 in
theorem gJ6_numberOfTrailingZeros_0f7a4_34 : (∀ (X : tX) (d : Nat) (x0 : Int32) (x1 : Int32) (σ : rS) (Q : tQ), Ex X d mJ6_numberOfTrailingZeros_0f7a4 34 [.int x0, .int x1] [] σ Q = Ex X d mJ6_numberOfTrailingZeros_0f7a4 35 [.int x0, .int x1] [.int x0] σ Q) ∧
  (∀ (X : tX) (d : Nat) (x0 : Int32) (x1 : Int32) (s0 : Int32) (σ : rS) (Q : tQ), Ex X d mJ6_numberOfTrailingZeros_0f7a4 35 [.int x0, .int x1] [.int s0] σ Q = Ex X d mJ6_numberOfTrailingZeros_0f7a4 38 [.int x0, .int x1] [.int 256, .int s0] σ Q) ∧
  (∀ (X : tX) (d : Nat) (x0 : Int32) (x1 : Int32) (s0 : Int32) (s1 : Int32) (σ : rS) (Q : tQ), Ex X d mJ6_numberOfTrailingZeros_0f7a4 38 [.int x0, .int x1] [.int s0, .int s1] σ Q = (if s1 ≤ s0 then Ex X d mJ6_numberOfTrailingZeros_0f7a4 49 [.int x0, .int x1] [] σ Q else Ex X d mJ6_numberOfTrailingZeros_0f7a4 41 [.int x0, .int x1] [] σ Q)) := ⟨fun X d x0 x1 σ Q => ex_P (i := .iload_n 0) (len := 1) (by decide +kernel) rfl,
  fun X d x0 x1 s0 σ Q => ex_P (i := .sipush 256) (len := 3) (by decide +kernel) rfl,
  fun X d x0 x1 s0 s1 σ Q => q_icmp_le (o := 11) (by decide +kernel) rfl⟩
set_option maxRecDepth 50000 in
theorem gJ6_numberOfTrailingZeros_0f7a4_41 : (∀ (X : tX) (d : Nat) (x0 : Int32) (x1 : Int32) (σ : rS) (Q : tQ), Ex X d mJ6_numberOfTrailingZeros_0f7a4 41 [.int x0, .int x1] [] σ Q = Ex X d mJ6_numberOfTrailingZeros_0f7a4 44 [.int x0, .int (x1 + 8)] [] σ Q) ∧
  (∀ (X : tX) (d : Nat) (x0 : Int32) (x1 : Int32) (σ : rS) (Q : tQ), Ex X d mJ6_numberOfTrailingZeros_0f7a4 44 [.int x0, .int x1] [] σ Q = Ex X d mJ6_numberOfTrailingZeros_0f7a4 45 [.int x0, .int x1] [.int x0] σ Q) ∧
  (∀ (X : tX) (d : Nat) (x0 : Int32) (x1 : Int32) (s0 : Int32) (σ : rS) (Q : tQ), Ex X d mJ6_numberOfTrailingZeros_0f7a4 45 [.int x0, .int x1] [.int s0] σ Q = Ex X d mJ6_numberOfTrailingZeros_0f7a4 47 [.int x0, .int x1] [.int 8, .int s0] σ Q) ∧
  (∀ (X : tX) (d : Nat) (x0 : Int32) (x1 : Int32) (s0 : Int32) (s1 : Int32) (σ : rS) (Q : tQ), Ex X d mJ6_numberOfTrailingZeros_0f7a4 47 [.int x0, .int x1] [.int s0, .int s1] σ Q = Ex X d mJ6_numberOfTrailingZeros_0f7a4 48 [.int x0, .int x1] [.int (s1.toUInt32 >>> (s0.toUInt32 &&& Int32.toUInt32 31)).toInt32] σ Q) ∧
  (∀ (X : tX) (d : Nat) (x0 : Int32) (x1 : Int32) (s0 : Int32) (σ : rS) (Q : tQ), Ex X d mJ6_numberOfTrailingZeros_0f7a4 48 [.int x0, .int x1] [.int s0] σ Q = Ex X d mJ6_numberOfTrailingZeros_0f7a4 49 [.int s0, .int x1] [] σ Q) := ⟨fun X d x0 x1 σ Q => ex_P (i := .iinc 1 8) (len := 3) (by decide +kernel) rfl,
  fun X d x0 x1 σ Q => ex_P (i := .iload_n 0) (len := 1) (by decide +kernel) rfl,
  fun X d x0 x1 s0 σ Q => ex_P (i := .bipush 8) (len := 2) (by decide +kernel) rfl,
  fun X d x0 x1 s0 s1 σ Q => ex_P (i := .iushr) (len := 1) (by decide +kernel) rfl,
  fun X d x0 x1 s0 σ Q => ex_P (i := .istore_n 0) (len := 1) (by decide +kernel) rfl⟩
set_option maxRecDepth 50000 in
theorem gJ6_numberOfTrailingZeros_0f7a4_49 : (∀ (X : tX) (d : Nat) (x0 : Int32) (x1 : Int32) (σ : rS) (Q : tQ), Ex X d mJ6_numberOfTrailingZeros_0f7a4 49 [.int x0, .int x1] [] σ Q = Ex X d mJ6_numberOfTrailingZeros_0f7a4 50 [.int x0, .int x1] [.int x0] σ Q) ∧
  (∀ (X : tX) (d : Nat) (x0 : Int32) (x1 : Int32) (s0 : Int32) (σ : rS) (Q : tQ), Ex X d mJ6_numberOfTrailingZeros_0f7a4 50 [.int x0, .int x1] [.int s0] σ Q = Ex X d mJ6_numberOfTrailingZeros_0f7a4 52 [.int x0, .int x1] [.int 16, .int s0] σ Q) ∧
  (∀ (X : tX) (d : Nat) (x0 : Int32) (x1 : Int32) (s0 : Int32) (s1 : Int32) (σ : rS) (Q : tQ), Ex X d mJ6_numberOfTrailingZeros_0f7a4 52 [.int x0, .int x1] [.int s0, .int s1] σ Q = (if s1 ≤ s0 then Ex X d mJ6_numberOfTrailingZeros_0f7a4 62 [.int x0, .int x1] [] σ Q else Ex X d mJ6_numberOfTrailingZeros_0f7a4 55 [.int x0, .int x1] [] σ Q)) := ⟨fun X d x0 x1 σ Q => ex_P (i := .iload_n 0) (len := 1) (by decide +kernel) rfl,
  fun X d x0 x1 s0 σ Q => ex_P (i := .bipush 16) (len := 2) (by decide +kernel) rfl,
  fun X d x0 x1 s0 s1 σ Q => q_icmp_le (o := 10) (by decide +kernel) rfl⟩
set_option maxRecDepth 50000 in
theorem gJ6_numberOfTrailingZeros_0f7a4_55 : (∀ (X : tX) (d : Nat) (x0 : Int32) (x1 : Int32) (σ : rS) (Q : tQ), Ex X d mJ6_numberOfTrailingZeros_0f7a4 55 [.int x0, .int x1] [] σ Q = Ex X d mJ6_numberOfTrailingZeros_0f7a4 58 [.int x0, .int (x1 + 4)] [] σ Q) ∧
  (∀ (X : tX) (d : Nat) (x0 : Int32) (x1 : Int32) (σ : rS) (Q : tQ), Ex X d mJ6_numberOfTrailingZeros_0f7a4 58 [.int x0, .int x1] [] σ Q = Ex X d mJ6_numberOfTrailingZeros_0f7a4 59 [.int x0, .int x1] [.int x0] σ Q) ∧
  (∀ (X : tX) (d : Nat) (x0 : Int32) (x1 : Int32) (s0 : Int32) (σ : rS) (Q : tQ), Ex X d mJ6_numberOfTrailingZeros_0f7a4 59 [.int x0, .int x1] [.int s0] σ Q = Ex X d mJ6_numberOfTrailingZeros_0f7a4 60 [.int x0, .int x1] [.int 4, .int s0] σ Q) ∧
  (∀ (X : tX) (d : Nat) (x0 : Int32) (x1 : Int32) (s0 : Int32) (s1 : Int32) (σ : rS) (Q : tQ), Ex X d mJ6_numberOfTrailingZeros_0f7a4 60 [.int x0, .int x1] [.int s0, .int s1] σ Q = Ex X d mJ6_numberOfTrailingZeros_0f7a4 61 [.int x0, .int x1] [.int (s1.toUInt32 >>> (s0.toUInt32 &&& Int32.toUInt32 31)).toInt32] σ Q) ∧
  (∀ (X : tX) (d : Nat) (x0 : Int32) (x1 : Int32) (s0 : Int32) (σ : rS) (Q : tQ), Ex X d mJ6_numberOfTrailingZeros_0f7a4 61 [.int x0, .int x1] [.int s0] σ Q = Ex X d mJ6_numberOfTrailingZeros_0f7a4 62 [.int s0, .int x1] [] σ Q) := ⟨fun X d x0 x1 σ Q => ex_P (i := .iinc 1 4) (len := 3) (by decide +kernel) rfl,
  fun X d x0 x1 σ Q => ex_P (i := .iload_n 0) (len := 1) (by decide +kernel) rfl,
  fun X d x0 x1 s0 σ Q => ex_P (i := .iconst 4) (len := 1) (by decide +kernel) rfl,
  fun X d x0 x1 s0 s1 σ Q => ex_P (i := .iushr) (len := 1) (by decide +kernel) rfl,
  fun X d x0 x1 s0 σ Q => ex_P (i := .istore_n 0) (len := 1) (by decide +kernel) rfl⟩
set_option maxRecDepth 50000 in
theorem gJ6_numberOfTrailingZeros_0f7a4_62 : (∀ (X : tX) (d : Nat) (x0 : Int32) (x1 : Int32) (σ : rS) (Q : tQ), Ex X d mJ6_numberOfTrailingZeros_0f7a4 62 [.int x0, .int x1] [] σ Q = Ex X d mJ6_numberOfTrailingZeros_0f7a4 63 [.int x0, .int x1] [.int x0] σ Q) ∧
  (∀ (X : tX) (d : Nat) (x0 : Int32) (x1 : Int32) (s0 : Int32) (σ : rS) (Q : tQ), Ex X d mJ6_numberOfTrailingZeros_0f7a4 63 [.int x0, .int x1] [.int s0] σ Q = Ex X d mJ6_numberOfTrailingZeros_0f7a4 64 [.int x0, .int x1] [.int 4, .int s0] σ Q) ∧
  (∀ (X : tX) (d : Nat) (x0 : Int32) (x1 : Int32) (s0 : Int32) (s1 : Int32) (σ : rS) (Q : tQ), Ex X d mJ6_numberOfTrailingZeros_0f7a4 64 [.int x0, .int x1] [.int s0, .int s1] σ Q = (if s1 ≤ s0 then Ex X d mJ6_numberOfTrailingZeros_0f7a4 74 [.int x0, .int x1] [] σ Q else Ex X d mJ6_numberOfTrailingZeros_0f7a4 67 [.int x0, .int x1] [] σ Q)) := ⟨fun X d x0 x1 σ Q => ex_P (i := .iload_n 0) (len := 1) (by decide +kernel) rfl,
  fun X d x0 x1 s0 σ Q => ex_P (i := .iconst 4) (len := 1) (by decide +kernel) rfl,
  fun X d x0 x1 s0 s1 σ Q => q_icmp_le (o := 10) (by decide +kernel) rfl⟩
set_option maxRecDepth 50000 in
theorem gJ6_numberOfTrailingZeros_0f7a4_67 : (∀ (X : tX) (d : Nat) (x0 : Int32) (x1 : Int32) (σ : rS) (Q : tQ), Ex X d mJ6_numberOfTrailingZeros_0f7a4 67 [.int x0, .int x1] [] σ Q = Ex X d mJ6_numberOfTrailingZeros_0f7a4 70 [.int x0, .int (x1 + 2)] [] σ Q) ∧
  (∀ (X : tX) (d : Nat) (x0 : Int32) (x1 : Int32) (σ : rS) (Q : tQ), Ex X d mJ6_numberOfTrailingZeros_0f7a4 70 [.int x0, .int x1] [] σ Q = Ex X d mJ6_numberOfTrailingZeros_0f7a4 71 [.int x0, .int x1] [.int x0] σ Q) ∧
  (∀ (X : tX) (d : Nat) (x0 : Int32) (x1 : Int32) (s0 : Int32) (σ : rS) (Q : tQ), Ex X d mJ6_numberOfTrailingZeros_0f7a4 71 [.int x0, .int x1] [.int s0] σ Q = Ex X d mJ6_numberOfTrailingZeros_0f7a4 72 [.int x0, .int x1] [.int 2, .int s0] σ Q) ∧
  (∀ (X : tX) (d : Nat) (x0 : Int32) (x1 : Int32) (s0 : Int32) (s1 : Int32) (σ : rS) (Q : tQ), Ex X d mJ6_numberOfTrailingZeros_0f7a4 72 [.int x0, .int x1] [.int s0, .int s1] σ Q = Ex X d mJ6_numberOfTrailingZeros_0f7a4 73 [.int x0, .int x1] [.int (s1.toUInt32 >>> (s0.toUInt32 &&& Int32.toUInt32 31)).toInt32] σ Q) ∧
  (∀ (X : tX) (d : Nat) (x0 : Int32) (x1 : Int32) (s0 : Int32) (σ : rS) (Q : tQ), Ex X d mJ6_numberOfTrailingZeros_0f7a4 73 [.int x0, .int x1] [.int s0] σ Q = Ex X d mJ6_numberOfTrailingZeros_0f7a4 74 [.int s0, .int x1] [] σ Q) := ⟨fun X d x0 x1 σ Q => ex_P (i := .iinc 1 2) (len := 3) (by decide +kernel) rfl,
  fun X d x0 x1 σ Q => ex_P (i := .iload_n 0) (len := 1) (by decide +kernel) rfl,
  fun X d x0 x1 s0 σ Q => ex_P (i := .iconst 2) (len := 1) (by decide +kernel) rfl,
  fun X d x0 x1 s0 s1 σ Q => ex_P (i := .iushr) (len := 1) (by decide +kernel) rfl,
  fun X d x0 x1 s0 σ Q => ex_P (i := .istore_n 0) (len := 1) (by decide +kernel) rfl⟩
set_option maxRecDepth 50000 in
theorem gJ6_numberOfTrailingZeros_0f7a4_74 : (∀ (X : tX) (d : Nat) (x0 : Int32) (x1 : Int32) (σ : rS) (Q : tQ), Ex X d mJ6_numberOfTrailingZeros_0f7a4 74 [.int x0, .int x1] [] σ Q = Ex X d mJ6_numberOfTrailingZeros_0f7a4 75 [.int x0, .int x1] [.int x1] σ Q) ∧
  (∀ (X : tX) (d : Nat) (x0 : Int32) (x1 : Int32) (s0 : Int32) (σ : rS) (Q : tQ), Ex X d mJ6_numberOfTrailingZeros_0f7a4 75 [.int x0, .int x1] [.int s0] σ Q = Ex X d mJ6_numberOfTrailingZeros_0f7a4 76 [.int x0, .int x1] [.int x0, .int s0] σ Q) ∧
  (∀ (X : tX) (d : Nat) (x0 : Int32) (x1 : Int32) (s0 : Int32) (s1 : Int32) (σ : rS) (Q : tQ), Ex X d mJ6_numberOfTrailingZeros_0f7a4 76 [.int x0, .int x1] [.int s0, .int s1] σ Q = Ex X d mJ6_numberOfTrailingZeros_0f7a4 77 [.int x0, .int x1] [.int 1, .int s0, .int s1] σ Q) ∧
  (∀ (X : tX) (d : Nat) (x0 : Int32) (x1 : Int32) (s0 : Int32) (s1 : Int32) (s2 : Int32) (σ : rS) (Q : tQ), Ex X d mJ6_numberOfTrailingZeros_0f7a4 77 [.int x0, .int x1] [.int s0, .int s1, .int s2] σ Q = Ex X d mJ6_numberOfTrailingZeros_0f7a4 78 [.int x0, .int x1] [.int (s1.toUInt32 >>> (s0.toUInt32 &&& Int32.toUInt32 31)).toInt32, .int s2] σ Q) ∧
  (∀ (X : tX) (d : Nat) (x0 : Int32) (x1 : Int32) (s0 : Int32) (s1 : Int32) (σ : rS) (Q : tQ), Ex X d mJ6_numberOfTrailingZeros_0f7a4 78 [.int x0, .int x1] [.int s0, .int s1] σ Q = Ex X d mJ6_numberOfTrailingZeros_0f7a4 79 [.int x0, .int x1] [.int (s1 + s0)] σ Q) ∧
  (∀ (X : tX) (d : Nat) (x0 : Int32) (x1 : Int32) (s0 : Int32) (σ : rS) (Q : tQ), Ex X d mJ6_numberOfTrailingZeros_0f7a4 79 [.int x0, .int x1] [.int s0] σ Q = Q (some (.int s0)) σ) := ⟨fun X d x0 x1 σ Q => ex_P (i := .iload_n 1) (len := 1) (by decide +kernel) rfl,
  fun X d x0 x1 s0 σ Q => ex_P (i := .iload_n 0) (len := 1) (by decide +kernel) rfl,
  fun X d x0 x1 s0 s1 σ Q => ex_P (i := .iconst 1) (len := 1) (by decide +kernel) rfl,
  fun X d x0 x1 s0 s1 s2 σ Q => ex_P (i := .iushr) (len := 1) (by decide +kernel) rfl,
  fun X d x0 x1 s0 s1 σ Q => ex_P (i := .iadd) (len := 1) (by decide +kernel) rfl,
  fun X d x0 x1 s0 σ Q => q_retI (by decide +kernel) rfl⟩
set_option maxRecDepth 50000 in
theorem gJ6_bitCount_0f7a4_0 : (∀ (X : tX) (d : Nat) (x0 : Int32) (σ : rS) (Q : tQ), Ex X d mJ6_bitCount_0f7a4 0 [.int x0] [] σ Q = Ex X d mJ6_bitCount_0f7a4 1 [.int x0] [.int x0] σ Q) ∧
  (∀ (X : tX) (d : Nat) (x0 : Int32) (s0 : Int32) (σ : rS) (Q : tQ), Ex X d mJ6_bitCount_0f7a4 1 [.int x0] [.int s0] σ Q = Ex X d mJ6_bitCount_0f7a4 2 [.int x0] [.int x0, .int s0] σ Q) ∧
  (∀ (X : tX) (d : Nat) (x0 : Int32) (s0 : Int32) (s1 : Int32) (σ : rS) (Q : tQ), Ex X d mJ6_bitCount_0f7a4 2 [.int x0] [.int s0, .int s1] σ Q = Ex X d mJ6_bitCount_0f7a4 3 [.int x0] [.int 1, .int s0, .int s1] σ Q) ∧
  (∀ (X : tX) (d : Nat) (x0 : Int32) (s0 : Int32) (s1 : Int32) (s2 : Int32) (σ : rS) (Q : tQ), Ex X d mJ6_bitCount_0f7a4 3 [.int x0] [.int s0, .int s1, .int s2] σ Q = Ex X d mJ6_bitCount_0f7a4 4 [.int x0] [.int (s1.toUInt32 >>> (s0.toUInt32 &&& Int32.toUInt32 31)).toInt32, .int s2] σ Q) ∧
  (∀ (X : tX) (d : Nat) (x0 : Int32) (s0 : Int32) (s1 : Int32) (T : tT) (I : tI) (J : tJ) (R : tR) (Q : tQ), Ex X d mJ6_bitCount_0f7a4 4 [.int x0] [.int s0, .int s1] (T, I, J, R) Q = Ex X d mJ6_bitCount_0f7a4 7 [.int x0] [.int 1431655765, .int s0, .int s1] (T, I, J, R) Q) ∧
  (∀ (X : tX) (d : Nat) (x0 : Int32) (s0 : Int32) (s1 : Int32) (s2 : Int32) (σ : rS) (Q : tQ), Ex X d mJ6_bitCount_0f7a4 7 [.int x0] [.int s0, .int s1, .int s2] σ Q = Ex X d mJ6_bitCount_0f7a4 8 [.int x0] [.int (s1 &&& s0), .int s2] σ Q) ∧
  (∀ (X : tX) (d : Nat) (x0 : Int32) (s0 : Int32) (s1 : Int32) (σ : rS) (Q : tQ), Ex X d mJ6_bitCount_0f7a4 8 [.int x0] [.int s0, .int s1] σ Q = Ex X d mJ6_bitCount_0f7a4 9 [.int x0] [.int (s1 - s0)] σ Q) ∧
  (∀ (X : tX) (d : Nat) (x0 : Int32) (s0 : Int32) (σ : rS) (Q : tQ), Ex X d mJ6_bitCount_0f7a4 9 [.int x0] [.int s0] σ Q = Ex X d mJ6_bitCount_0f7a4 10 [.int s0] [] σ Q) ∧
  (∀ (X : tX) (d : Nat) (x0 : Int32) (σ : rS) (Q : tQ), Ex X d mJ6_bitCount_0f7a4 10 [.int x0] [] σ Q = Ex X d mJ6_bitCount_0f7a4 11 [.int x0] [.int x0] σ Q) ∧
  (∀ (X : tX) (d : Nat) (x0 : Int32) (s0 : Int32) (T : tT) (I : tI) (J : tJ) (R : tR) (Q : tQ), Ex X d mJ6_bitCount_0f7a4 11 [.int x0] [.int s0] (T, I, J, R) Q = Ex X d mJ6_bitCount_0f7a4 14 [.int x0] [.int 858993459, .int s0] (T, I, J, R) Q) ∧
  (∀ (X : tX) (d : Nat) (x0 : Int32) (s0 : Int32) (s1 : Int32) (σ : rS) (Q : tQ), Ex X d mJ6_bitCount_0f7a4 14 [.int x0] [.int s0, .int s1] σ Q = Ex X d mJ6_bitCount_0f7a4 15 [.int x0] [.int (s1 &&& s0)] σ Q) ∧
  (∀ (X : tX) (d : Nat) (x0 : Int32) (s0 : Int32) (σ : rS) (Q : tQ), Ex X d mJ6_bitCount_0f7a4 15 [.int x0] [.int s0] σ Q = Ex X d mJ6_bitCount_0f7a4 16 [.int x0] [.int x0, .int s0] σ Q) ∧
  (∀ (X : tX) (d : Nat) (x0 : Int32) (s0 : Int32) (s1 : Int32) (σ : rS) (Q : tQ), Ex X d mJ6_bitCount_0f7a4 16 [.int x0] [.int s0, .int s1] σ Q = Ex X d mJ6_bitCount_0f7a4 17 [.int x0] [.int 2, .int s0, .int s1] σ Q) ∧
  (∀ (X : tX) (d : Nat) (x0 : Int32) (s0 : Int32) (s1 : Int32) (s2 : Int32) (σ : rS) (Q : tQ), Ex X d mJ6_bitCount_0f7a4 17 [.int x0] [.int s0, .int s1, .int s2] σ Q = Ex X d mJ6_bitCount_0f7a4 18 [.int x0] [.int (s1.toUInt32 >>> (s0.toUInt32 &&& Int32.toUInt32 31)).toInt32, .int s2] σ Q) ∧
  (∀ (X : tX) (d : Nat) (x0 : Int32) (s0 : Int32) (s1 : Int32) (T : tT) (I : tI) (J : tJ) (R : tR) (Q : tQ), Ex X d mJ6_bitCount_0f7a4 18 [.int x0] [.int s0, .int s1] (T, I, J, R) Q = Ex X d mJ6_bitCount_0f7a4 21 [.int x0] [.int 858993459, .int s0, .int s1] (T, I, J, R) Q) ∧
  (∀ (X : tX) (d : Nat) (x0 : Int32) (s0 : Int32) (s1 : Int32) (s2 : Int32) (σ : rS) (Q : tQ), Ex X d mJ6_bitCount_0f7a4 21 [.int x0] [.int s0, .int s1, .int s2] σ Q = Ex X d mJ6_bitCount_0f7a4 22 [.int x0] [.int (s1 &&& s0), .int s2] σ Q) ∧
  (∀ (X : tX) (d : Nat) (x0 : Int32) (s0 : Int32) (s1 : Int32) (σ : rS) (Q : tQ), Ex X d mJ6_bitCount_0f7a4 22 [.int x0] [.int s0, .int s1] σ Q = Ex X d mJ6_bitCount_0f7a4 23 [.int x0] [.int (s1 + s0)] σ Q) ∧
  (∀ (X : tX) (d : Nat) (x0 : Int32) (s0 : Int32) (σ : rS) (Q : tQ), Ex X d mJ6_bitCount_0f7a4 23 [.int x0] [.int s0] σ Q = Ex X d mJ6_bitCount_0f7a4 24 [.int s0] [] σ Q) ∧
  (∀ (X : tX) (d : Nat) (x0 : Int32) (σ : rS) (Q : tQ), Ex X d mJ6_bitCount_0f7a4 24 [.int x0] [] σ Q = Ex X d mJ6_bitCount_0f7a4 25 [.int x0] [.int x0] σ Q) ∧
  (∀ (X : tX) (d : Nat) (x0 : Int32) (s0 : Int32) (σ : rS) (Q : tQ), Ex X d mJ6_bitCount_0f7a4 25 [.int x0] [.int s0] σ Q = Ex X d mJ6_bitCount_0f7a4 26 [.int x0] [.int x0, .int s0] σ Q) ∧
  (∀ (X : tX) (d : Nat) (x0 : Int32) (s0 : Int32) (s1 : Int32) (σ : rS) (Q : tQ), Ex X d mJ6_bitCount_0f7a4 26 [.int x0] [.int s0, .int s1] σ Q = Ex X d mJ6_bitCount_0f7a4 27 [.int x0] [.int 4, .int s0, .int s1] σ Q) ∧
  (∀ (X : tX) (d : Nat) (x0 : Int32) (s0 : Int32) (s1 : Int32) (s2 : Int32) (σ : rS) (Q : tQ), Ex X d mJ6_bitCount_0f7a4 27 [.int x0] [.int s0, .int s1, .int s2] σ Q = Ex X d mJ6_bitCount_0f7a4 28 [.int x0] [.int (s1.toUInt32 >>> (s0.toUInt32 &&& Int32.toUInt32 31)).toInt32, .int s2] σ Q) ∧
  (∀ (X : tX) (d : Nat) (x0 : Int32) (s0 : Int32) (s1 : Int32) (σ : rS) (Q : tQ), Ex X d mJ6_bitCount_0f7a4 28 [.int x0] [.int s0, .int s1] σ Q = Ex X d mJ6_bitCount_0f7a4 29 [.int x0] [.int (s1 + s0)] σ Q) ∧
  (∀ (X : tX) (d : Nat) (x0 : Int32) (s0 : Int32) (T : tT) (I : tI) (J : tJ) (R : tR) (Q : tQ), Ex X d mJ6_bitCount_0f7a4 29 [.int x0] [.int s0] (T, I, J, R) Q = Ex X d mJ6_bitCount_0f7a4 32 [.int x0] [.int 252645135, .int s0] (T, I, J, R) Q) ∧
  (∀ (X : tX) (d : Nat) (x0 : Int32) (s0 : Int32) (s1 : Int32) (σ : rS) (Q : tQ), Ex X d mJ6_bitCount_0f7a4 32 [.int x0] [.int s0, .int s1] σ Q = Ex X d mJ6_bitCount_0f7a4 33 [.int x0] [.int (s1 &&& s0)] σ Q) ∧
  (∀ (X : tX) (d : Nat) (x0 : Int32) (s0 : Int32) (σ : rS) (Q : tQ), Ex X d mJ6_bitCount_0f7a4 33 [.int x0] [.int s0] σ Q = Ex X d mJ6_bitCount_0f7a4 34 [.int s0] [] σ Q) ∧
  (∀ (X : tX) (d : Nat) (x0 : Int32) (σ : rS) (Q : tQ), Ex X d mJ6_bitCount_0f7a4 34 [.int x0] [] σ Q = Ex X d mJ6_bitCount_0f7a4 35 [.int x0] [.int x0] σ Q) ∧
  (∀ (X : tX) (d : Nat) (x0 : Int32) (s0 : Int32) (σ : rS) (Q : tQ), Ex X d mJ6_bitCount_0f7a4 35 [.int x0] [.int s0] σ Q = Ex X d mJ6_bitCount_0f7a4 36 [.int x0] [.int x0, .int s0] σ Q) ∧
  (∀ (X : tX) (d : Nat) (x0 : Int32) (s0 : Int32) (s1 : Int32) (σ : rS) (Q : tQ), Ex X d mJ6_bitCount_0f7a4 36 [.int x0] [.int s0, .int s1] σ Q = Ex X d mJ6_bitCount_0f7a4 38 [.int x0] [.int 8, .int s0, .int s1] σ Q) ∧
  (∀ (X : tX) (d : Nat) (x0 : Int32) (s0 : Int32) (s1 : Int32) (s2 : Int32) (σ : rS) (Q : tQ), Ex X d mJ6_bitCount_0f7a4 38 [.int x0] [.int s0, .int s1, .int s2] σ Q = Ex X d mJ6_bitCount_0f7a4 39 [.int x0] [.int (s1.toUInt32 >>> (s0.toUInt32 &&& Int32.toUInt32 31)).toInt32, .int s2] σ Q) ∧
  (∀ (X : tX) (d : Nat) (x0 : Int32) (s0 : Int32) (s1 : Int32) (σ : rS) (Q : tQ), Ex X d mJ6_bitCount_0f7a4 39 [.int x0] [.int s0, .int s1] σ Q = Ex X d mJ6_bitCount_0f7a4 40 [.int x0] [.int (s1 + s0)] σ Q) ∧
  (∀ (X : tX) (d : Nat) (x0 : Int32) (s0 : Int32) (σ : rS) (Q : tQ), Ex X d mJ6_bitCount_0f7a4 40 [.int x0] [.int s0] σ Q = Ex X d mJ6_bitCount_0f7a4 41 [.int s0] [] σ Q) ∧
  (∀ (X : tX) (d : Nat) (x0 : Int32) (σ : rS) (Q : tQ), Ex X d mJ6_bitCount_0f7a4 41 [.int x0] [] σ Q = Ex X d mJ6_bitCount_0f7a4 42 [.int x0] [.int x0] σ Q) ∧
  (∀ (X : tX) (d : Nat) (x0 : Int32) (s0 : Int32) (σ : rS) (Q : tQ), Ex X d mJ6_bitCount_0f7a4 42 [.int x0] [.int s0] σ Q = Ex X d mJ6_bitCount_0f7a4 43 [.int x0] [.int x0, .int s0] σ Q) ∧
  (∀ (X : tX) (d : Nat) (x0 : Int32) (s0 : Int32) (s1 : Int32) (σ : rS) (Q : tQ), Ex X d mJ6_bitCount_0f7a4 43 [.int x0] [.int s0, .int s1] σ Q = Ex X d mJ6_bitCount_0f7a4 45 [.int x0] [.int 16, .int s0, .int s1] σ Q) ∧
  (∀ (X : tX) (d : Nat) (x0 : Int32) (s0 : Int32) (s1 : Int32) (s2 : Int32) (σ : rS) (Q : tQ), Ex X d mJ6_bitCount_0f7a4 45 [.int x0] [.int s0, .int s1, .int s2] σ Q = Ex X d mJ6_bitCount_0f7a4 46 [.int x0] [.int (s1.toUInt32 >>> (s0.toUInt32 &&& Int32.toUInt32 31)).toInt32, .int s2] σ Q) ∧
  (∀ (X : tX) (d : Nat) (x0 : Int32) (s0 : Int32) (s1 : Int32) (σ : rS) (Q : tQ), Ex X d mJ6_bitCount_0f7a4 46 [.int x0] [.int s0, .int s1] σ Q = Ex X d mJ6_bitCount_0f7a4 47 [.int x0] [.int (s1 + s0)] σ Q) ∧
  (∀ (X : tX) (d : Nat) (x0 : Int32) (s0 : Int32) (σ : rS) (Q : tQ), Ex X d mJ6_bitCount_0f7a4 47 [.int x0] [.int s0] σ Q = Ex X d mJ6_bitCount_0f7a4 48 [.int s0] [] σ Q) ∧
  (∀ (X : tX) (d : Nat) (x0 : Int32) (σ : rS) (Q : tQ), Ex X d mJ6_bitCount_0f7a4 48 [.int x0] [] σ Q = Ex X d mJ6_bitCount_0f7a4 49 [.int x0] [.int x0] σ Q) ∧
  (∀ (X : tX) (d : Nat) (x0 : Int32) (s0 : Int32) (σ : rS) (Q : tQ), Ex X d mJ6_bitCount_0f7a4 49 [.int x0] [.int s0] σ Q = Ex X d mJ6_bitCount_0f7a4 51 [.int x0] [.int 63, .int s0] σ Q) ∧
  (∀ (X : tX) (d : Nat) (x0 : Int32) (s0 : Int32) (s1 : Int32) (σ : rS) (Q : tQ), Ex X d mJ6_bitCount_0f7a4 51 [.int x0] [.int s0, .int s1] σ Q = Ex X d mJ6_bitCount_0f7a4 52 [.int x0] [.int (s1 &&& s0)] σ Q) ∧
  (∀ (X : tX) (d : Nat) (x0 : Int32) (s0 : Int32) (σ : rS) (Q : tQ), Ex X d mJ6_bitCount_0f7a4 52 [.int x0] [.int s0] σ Q = Q (some (.int s0)) σ) := ⟨fun X d x0 σ Q => ex_P (i := .iload_n 0) (len := 1) (by decide +kernel) rfl,
  fun X d x0 s0 σ Q => ex_P (i := .iload_n 0) (len := 1) (by decide +kernel) rfl,
  fun X d x0 s0 s1 σ Q => ex_P (i := .iconst 1) (len := 1) (by decide +kernel) rfl,
  fun X d x0 s0 s1 s2 σ Q => ex_P (i := .iushr) (len := 1) (by decide +kernel) rfl,
  fun X d x0 s0 s1 T I J R Q => q_ldcw (k := 265) (by decide +kernel) rfl,
  fun X d x0 s0 s1 s2 σ Q => ex_P (i := .iand) (len := 1) (by decide +kernel) rfl,
  fun X d x0 s0 s1 σ Q => ex_P (i := .isub) (len := 1) (by decide +kernel) rfl,
  fun X d x0 s0 σ Q => ex_P (i := .istore_n 0) (len := 1) (by decide +kernel) rfl,
  fun X d x0 σ Q => ex_P (i := .iload_n 0) (len := 1) (by decide +kernel) rfl,
  fun X d x0 s0 T I J R Q => q_ldcw (k := 266) (by decide +kernel) rfl,
  fun X d x0 s0 s1 σ Q => ex_P (i := .iand) (len := 1) (by decide +kernel) rfl,
  fun X d x0 s0 σ Q => ex_P (i := .iload_n 0) (len := 1) (by decide +kernel) rfl,
  fun X d x0 s0 s1 σ Q => ex_P (i := .iconst 2) (len := 1) (by decide +kernel) rfl,
  fun X d x0 s0 s1 s2 σ Q => ex_P (i := .iushr) (len := 1) (by decide +kernel) rfl,
  fun X d x0 s0 s1 T I J R Q => q_ldcw (k := 266) (by decide +kernel) rfl,
  fun X d x0 s0 s1 s2 σ Q => ex_P (i := .iand) (len := 1) (by decide +kernel) rfl,
  fun X d x0 s0 s1 σ Q => ex_P (i := .iadd) (len := 1) (by decide +kernel) rfl,
  fun X d x0 s0 σ Q => ex_P (i := .istore_n 0) (len := 1) (by decide +kernel) rfl,
  fun X d x0 σ Q => ex_P (i := .iload_n 0) (len := 1) (by decide +kernel) rfl,
  fun X d x0 s0 σ Q => ex_P (i := .iload_n 0) (len := 1) (by decide +kernel) rfl,
  fun X d x0 s0 s1 σ Q => ex_P (i := .iconst 4) (len := 1) (by decide +kernel) rfl,
  fun X d x0 s0 s1 s2 σ Q => ex_P (i := .iushr) (len := 1) (by decide +kernel) rfl,
  fun X d x0 s0 s1 σ Q => ex_P (i := .iadd) (len := 1) (by decide +kernel) rfl,
  fun X d x0 s0 T I J R Q => q_ldcw (k := 267) (by decide +kernel) rfl,
  fun X d x0 s0 s1 σ Q => ex_P (i := .iand) (len := 1) (by decide +kernel) rfl,
  fun X d x0 s0 σ Q => ex_P (i := .istore_n 0) (len := 1) (by decide +kernel) rfl,
  fun X d x0 σ Q => ex_P (i := .iload_n 0) (len := 1) (by decide +kernel) rfl,
  fun X d x0 s0 σ Q => ex_P (i := .iload_n 0) (len := 1) (by decide +kernel) rfl,
  fun X d x0 s0 s1 σ Q => ex_P (i := .bipush 8) (len := 2) (by decide +kernel) rfl,
  fun X d x0 s0 s1 s2 σ Q => ex_P (i := .iushr) (len := 1) (by decide +kernel) rfl,
  fun X d x0 s0 s1 σ Q => ex_P (i := .iadd) (len := 1) (by decide +kernel) rfl,
  fun X d x0 s0 σ Q => ex_P (i := .istore_n 0) (len := 1) (by decide +kernel) rfl,
  fun X d x0 σ Q => ex_P (i := .iload_n 0) (len := 1) (by decide +kernel) rfl,
  fun X d x0 s0 σ Q => ex_P (i := .iload_n 0) (len := 1) (by decide +kernel) rfl,
  fun X d x0 s0 s1 σ Q => ex_P (i := .bipush 16) (len := 2) (by decide +kernel) rfl,
  fun X d x0 s0 s1 s2 σ Q => ex_P (i := .iushr) (len := 1) (by decide +kernel) rfl,
  fun X d x0 s0 s1 σ Q => ex_P (i := .iadd) (len := 1) (by decide +kernel) rfl,
  fun X d x0 s0 σ Q => ex_P (i := .istore_n 0) (len := 1) (by decide +kernel) rfl,
  fun X d x0 σ Q => ex_P (i := .iload_n 0) (len := 1) (by decide +kernel) rfl,
  fun X d x0 s0 σ Q => ex_P (i := .bipush 63) (len := 2) (by decide +kernel) rfl,
  fun X d x0 s0 s1 σ Q => ex_P (i := .iand) (len := 1) (by decide +kernel) rfl,
  fun X d x0 s0 σ Q => q_retI (by decide +kernel) rfl⟩
