set_option maxRecDepth 50000 in
theorem gX7_init_0 : (∀ (X : tX) (d : Nat) (x0 : Nat) (σ : rS) (Q : tQ), Ex X d mX7_init 0 [.ref x0, rU] [] σ Q = Ex X d mX7_init 1 [.ref x0, rU] [.ref x0] σ Q) ∧
  (∀ (X : tX) (d : Nat) (x0 : Nat) (s0 : Nat) (T : tT) (I : tI) (J : tJ) (R : tR) (Q : tQ), Ex X (d + 1) mX7_init 1 [.ref x0, rU] [.ref s0] (T, I, J, R) Q = Ex X (d + 1) mX7_init 4 [.ref x0, rU] [] (T, I, J, R) Q) ∧
  (∀ (X : tX) (d : Nat) (x0 : Nat) (σ : rS) (Q : tQ), Ex X d mX7_init 4 [.ref x0, rU] [] σ Q = Ex X d mX7_init 5 [.ref x0, rU] [.ref x0] σ Q) ∧
  (∀ (X : tX) (d : Nat) (x0 : Nat) (s0 : Nat) (σ : rS) (Q : tQ), Ex X d mX7_init 5 [.ref x0, rU] [.ref s0] σ Q = Ex X d mX7_init 7 [.ref x0, rU] [.int 32, .ref s0] σ Q) ∧
  (∀ (X : tX) (d : Nat) (x0 : Nat) (s0 : Nat) (s1 : Nat) (T : tT) (I : tI) (J : tJ) (R : tR) (Q : tQ), Ex X d mX7_init 9 [.ref x0, rU] [.ref s0, .ref s1] (T, I, J, R) Q = (T[s1]? = some (3, 7) ∧ Ex X d mX7_init 12 [.ref x0, rU] [] (T, I, J, va_up R s1 (va_up (R s1) 1 (some s0))) Q)) ∧
  (∀ (X : tX) (d : Nat) (x0 : Nat) (σ : rS) (Q : tQ), Ex X d mX7_init 12 [.ref x0, rU] [] σ Q = Ex X d mX7_init 13 [.ref x0, rU] [.ref x0] σ Q) ∧
  (∀ (X : tX) (d : Nat) (x0 : Nat) (s0 : Nat) (σ : rS) (Q : tQ), Ex X d mX7_init 13 [.ref x0, rU] [.ref s0] σ Q = Ex X d mX7_init 15 [.ref x0, rU] [.int 7, .ref s0] σ Q) ∧
  (∀ (X : tX) (d : Nat) (x0 : Nat) (s0 : Nat) (s1 : Nat) (T : tT) (I : tI) (J : tJ) (R : tR) (Q : tQ), Ex X d mX7_init 17 [.ref x0, rU] [.ref s0, .ref s1] (T, I, J, R) Q = (T[s1]? = some (3, 7) ∧ Ex X d mX7_init 20 [.ref x0, rU] [] (T, I, J, va_up R s1 (va_up (R s1) 2 (some s0))) Q)) ∧
  (∀ (X : tX) (d : Nat) (x0 : Nat) (σ : rS) (Q : tQ), Ex X d mX7_init 20 [.ref x0, rU] [] σ Q = Ex X d mX7_init 21 [.ref x0, rU] [.ref x0] σ Q) ∧
  (∀ (X : tX) (d : Nat) (x0 : Nat) (s0 : Nat) (σ : rS) (Q : tQ), Ex X d mX7_init 21 [.ref x0, rU] [.ref s0] σ Q = Ex X d mX7_init 22 [.ref x0, rU] [.int 2, .ref s0] σ Q) ∧
  (∀ (X : tX) (d : Nat) (x0 : Nat) (s0 : Nat) (s1 : Nat) (T : tT) (I : tI) (J : tJ) (R : tR) (Q : tQ), Ex X d mX7_init 24 [.ref x0, rU] [.ref s0, .ref s1] (T, I, J, R) Q = (T[s1]? = some (3, 7) ∧ Ex X d mX7_init 27 [.ref x0, rU] [] (T, I, J, va_up R s1 (va_up (R s1) 3 (some s0))) Q)) ∧
  (∀ (X : tX) (d : Nat) (x0 : Nat) (σ : rS) (Q : tQ), Ex X d mX7_init 27 [.ref x0, rU] [] σ Q = Ex X d mX7_init 28 [.ref x0, rU] [.ref x0] σ Q) ∧
  (∀ (X : tX) (d : Nat) (x0 : Nat) (s0 : Nat) (σ : rS) (Q : tQ), Ex X d mX7_init 28 [.ref x0, rU] [.ref s0] σ Q = Ex X d mX7_init 30 [.ref x0, rU] [.int 120, .ref s0] σ Q) ∧
  (∀ (X : tX) (d : Nat) (x0 : Nat) (s0 : Nat) (s1 : Nat) (T : tT) (I : tI) (J : tJ) (R : tR) (Q : tQ), Ex X d mX7_init 32 [.ref x0, rU] [.ref s0, .ref s1] (T, I, J, R) Q = (T[s1]? = some (3, 7) ∧ Ex X d mX7_init 35 [.ref x0, rU] [] (T, I, J, va_up R s1 (va_up (R s1) 5 (some s0))) Q)) ∧
  (∀ (X : tX) (d : Nat) (x0 : Nat) (σ : rS) (Q : tQ), Ex X d mX7_init 35 [.ref x0, rU] [] σ Q = Ex X d mX7_init 36 [.ref x0, rU] [.ref x0] σ Q) ∧
  (∀ (X : tX) (d : Nat) (x0 : Nat) (s0 : Nat) (σ : rS) (Q : tQ), Ex X d mX7_init 36 [.ref x0, rU] [.ref s0] σ Q = Ex X d mX7_init 38 [.ref x0, rU] [.int 60, .ref s0] σ Q) ∧
  (∀ (X : tX) (d : Nat) (x0 : Nat) (s0 : Nat) (s1 : Nat) (T : tT) (I : tI) (J : tJ) (R : tR) (Q : tQ), Ex X d mX7_init 40 [.ref x0, rU] [.ref s0, .ref s1] (T, I, J, R) Q = (T[s1]? = some (3, 7) ∧ Ex X d mX7_init 43 [.ref x0, rU] [] (T, I, J, va_up R s1 (va_up (R s1) 8 (some s0))) Q)) ∧
  (∀ (X : tX) (d : Nat) (x0 : Nat) (σ : rS) (Q : tQ), Ex X d mX7_init 43 [.ref x0, rU] [] σ Q = Ex X d mX7_init 44 [.ref x0, rU] [.ref x0] σ Q) ∧
  (∀ (X : tX) (d : Nat) (x0 : Nat) (s0 : Nat) (σ : rS) (Q : tQ), Ex X d mX7_init 44 [.ref x0, rU] [.ref s0] σ Q = Ex X d mX7_init 46 [.ref x0, rU] [.int 60, .ref s0] σ Q) ∧
  (∀ (X : tX) (d : Nat) (x0 : Nat) (s0 : Nat) (s1 : Nat) (T : tT) (I : tI) (J : tJ) (R : tR) (Q : tQ), Ex X d mX7_init 48 [.ref x0, rU] [.ref s0, .ref s1] (T, I, J, R) Q = (T[s1]? = some (3, 7) ∧ Ex X d mX7_init 51 [.ref x0, rU] [] (T, I, J, va_up R s1 (va_up (R s1) 9 (some s0))) Q)) ∧
  (∀ (X : tX) (d : Nat) (x0 : Nat) (σ : rS) (Q : tQ), Ex X d mX7_init 51 [.ref x0, rU] [] σ Q = Ex X d mX7_init 52 [.ref x0, rU] [.ref x0] σ Q) ∧
  (∀ (X : tX) (d : Nat) (x0 : Nat) (s0 : Nat) (σ : rS) (Q : tQ), Ex X d mX7_init 52 [.ref x0, rU] [.ref s0] σ Q = Ex X d mX7_init 54 [.ref x0, rU] [.int 60, .ref s0] σ Q) ∧
  (∀ (X : tX) (d : Nat) (x0 : Nat) (s0 : Nat) (s1 : Nat) (T : tT) (I : tI) (J : tJ) (R : tR) (Q : tQ), Ex X d mX7_init 56 [.ref x0, rU] [.ref s0, .ref s1] (T, I, J, R) Q = (T[s1]? = some (3, 7) ∧ Ex X d mX7_init 59 [.ref x0, rU] [] (T, I, J, va_up R s1 (va_up (R s1) 10 (some s0))) Q)) ∧
  (∀ (X : tX) (d : Nat) (x0 : Nat) (σ : rS) (Q : tQ), Ex X d mX7_init 59 [.ref x0, rU] [] σ Q = Ex X d mX7_init 60 [.ref x0, rU] [.ref x0] σ Q) ∧
  (∀ (X : tX) (d : Nat) (x0 : Nat) (s0 : Nat) (σ : rS) (Q : tQ), Ex X d mX7_init 60 [.ref x0, rU] [.ref s0] σ Q = Ex X d mX7_init 63 [.ref x0, rU] [.int 200, .ref s0] σ Q) ∧
  (∀ (X : tX) (d : Nat) (x0 : Nat) (s0 : Nat) (s1 : Nat) (T : tT) (I : tI) (J : tJ) (R : tR) (Q : tQ), Ex X d mX7_init 65 [.ref x0, rU] [.ref s0, .ref s1] (T, I, J, R) Q = (T[s1]? = some (3, 7) ∧ Ex X d mX7_init 68 [.ref x0, rU] [] (T, I, J, va_up R s1 (va_up (R s1) 11 (some s0))) Q)) ∧
  (∀ (X : tX) (d : Nat) (x0 : Nat) (σ : rS) (Q : tQ), Ex X d mX7_init 68 [.ref x0, rU] [] σ Q = Ex X d mX7_init 69 [.ref x0, rU] [.ref x0] σ Q) ∧
  (∀ (X : tX) (d : Nat) (x0 : Nat) (s0 : Nat) (σ : rS) (Q : tQ), Ex X d mX7_init 69 [.ref x0, rU] [.ref s0] σ Q = Ex X d mX7_init 71 [.ref x0, rU] [.int 61, .ref s0] σ Q) ∧
  (∀ (X : tX) (d : Nat) (x0 : Nat) (s0 : Nat) (s1 : Nat) (T : tT) (I : tI) (J : tJ) (R : tR) (Q : tQ), Ex X d mX7_init 73 [.ref x0, rU] [.ref s0, .ref s1] (T, I, J, R) Q = (T[s1]? = some (3, 7) ∧ Ex X d mX7_init 76 [.ref x0, rU] [] (T, I, J, va_up R s1 (va_up (R s1) 16 (some s0))) Q)) ∧
  (∀ (X : tX) (d : Nat) (x0 : Nat) (σ : rS) (Q : tQ), Ex X d mX7_init 76 [.ref x0, rU] [] σ Q = Ex X d mX7_init 77 [.ref x0, rU] [.ref x0] σ Q) ∧
  (∀ (X : tX) (d : Nat) (x0 : Nat) (s0 : Nat) (σ : rS) (Q : tQ), Ex X d mX7_init 77 [.ref x0, rU] [.ref s0] σ Q = Ex X d mX7_init 79 [.ref x0, rU] [.int 61, .ref s0] σ Q) ∧
  (∀ (X : tX) (d : Nat) (x0 : Nat) (s0 : Nat) (s1 : Nat) (T : tT) (I : tI) (J : tJ) (R : tR) (Q : tQ), Ex X d mX7_init 81 [.ref x0, rU] [.ref s0, .ref s1] (T, I, J, R) Q = (T[s1]? = some (3, 7) ∧ Ex X d mX7_init 84 [.ref x0, rU] [] (T, I, J, va_up R s1 (va_up (R s1) 17 (some s0))) Q)) ∧
  (∀ (X : tX) (d : Nat) (x0 : Nat) (σ : rS) (Q : tQ), Ex X d mX7_init 84 [.ref x0, rU] [] σ Q = Ex X d mX7_init 85 [.ref x0, rU] [.ref x0] σ Q) ∧
  (∀ (X : tX) (d : Nat) (x0 : Nat) (s0 : Nat) (σ : rS) (Q : tQ), Ex X d mX7_init 85 [.ref x0, rU] [.ref s0] σ Q = Ex X d mX7_init 87 [.ref x0, rU] [.int 61, .ref s0] σ Q) ∧
  (∀ (X : tX) (d : Nat) (x0 : Nat) (s0 : Nat) (s1 : Nat) (T : tT) (I : tI) (J : tJ) (R : tR) (Q : tQ), Ex X d mX7_init 89 [.ref x0, rU] [.ref s0, .ref s1] (T, I, J, R) Q = (T[s1]? = some (3, 7) ∧ Ex X d mX7_init 92 [.ref x0, rU] [] (T, I, J, va_up R s1 (va_up (R s1) 18 (some s0))) Q)) ∧
  (∀ (X : tX) (d : Nat) (x0 : Nat) (σ : rS) (Q : tQ), Ex X d mX7_init 92 [.ref x0, rU] [] σ Q = Ex X d mX7_init 93 [.ref x0, rU] [.ref x0] σ Q) ∧
  (∀ (X : tX) (d : Nat) (x0 : Nat) (s0 : Nat) (σ : rS) (Q : tQ), Ex X d mX7_init 93 [.ref x0, rU] [.ref s0] σ Q = Ex X d mX7_init 96 [.ref x0, rU] [.int 200, .ref s0] σ Q) ∧
  (∀ (X : tX) (d : Nat) (x0 : Nat) (s0 : Nat) (s1 : Nat) (T : tT) (I : tI) (J : tJ) (R : tR) (Q : tQ), Ex X d mX7_init 98 [.ref x0, rU] [.ref s0, .ref s1] (T, I, J, R) Q = (T[s1]? = some (3, 7) ∧ Ex X d mX7_init 101 [.ref x0, rU] [] (T, I, J, va_up R s1 (va_up (R s1) 19 (some s0))) Q)) ∧
  (∀ (X : tX) (d : Nat) (x0 : Nat) (σ : rS) (Q : tQ), Ex X d mX7_init 101 [.ref x0, rU] [] σ Q = Ex X d mX7_init 102 [.ref x0, rU] [.ref x0] σ Q) ∧
  (∀ (X : tX) (d : Nat) (x0 : Nat) (s0 : Nat) (σ : rS) (Q : tQ), Ex X d mX7_init 102 [.ref x0, rU] [.ref s0] σ Q = Ex X d mX7_init 105 [.ref x0, rU] [.int 200, .ref s0] σ Q) ∧
  (∀ (X : tX) (d : Nat) (x0 : Nat) (s0 : Nat) (s1 : Nat) (T : tT) (I : tI) (J : tJ) (R : tR) (Q : tQ), Ex X d mX7_init 107 [.ref x0, rU] [.ref s0, .ref s1] (T, I, J, R) Q = (T[s1]? = some (3, 7) ∧ Ex X d mX7_init 110 [.ref x0, rU] [] (T, I, J, va_up R s1 (va_up (R s1) 20 (some s0))) Q)) ∧
  (∀ (X : tX) (d : Nat) (x0 : Nat) (σ : rS) (Q : tQ), Ex X d mX7_init 110 [.ref x0, rU] [] σ Q = Ex X d mX7_init 111 [.ref x0, rU] [.ref x0] σ Q) ∧
  (∀ (X : tX) (d : Nat) (x0 : Nat) (s0 : Nat) (σ : rS) (Q : tQ), Ex X d mX7_init 111 [.ref x0, rU] [.ref s0] σ Q = Ex X d mX7_init 113 [.ref x0, rU] [.int 6, .ref s0] σ Q) ∧
  (∀ (X : tX) (d : Nat) (x0 : Nat) (s0 : Nat) (s1 : Nat) (T : tT) (I : tI) (J : tJ) (R : tR) (Q : tQ), Ex X d mX7_init 115 [.ref x0, rU] [.ref s0, .ref s1] (T, I, J, R) Q = (T[s1]? = some (3, 7) ∧ Ex X d mX7_init 118 [.ref x0, rU] [] (T, I, J, va_up R s1 (va_up (R s1) 21 (some s0))) Q)) ∧
  (∀ (X : tX) (d : Nat) (x0 : Nat) (σ : rS) (Q : tQ), Ex X d mX7_init 118 [.ref x0, rU] [] σ Q = Ex X d mX7_init 119 [.ref x0, rU] [.ref x0] σ Q) ∧
  (∀ (X : tX) (d : Nat) (x0 : Nat) (s0 : Nat) (σ : rS) (Q : tQ), Ex X d mX7_init 119 [.ref x0, rU] [.ref s0] σ Q = Ex X d mX7_init 120 [.ref x0, rU] [.int 5, .ref s0] σ Q) ∧
  (∀ (X : tX) (d : Nat) (x0 : Nat) (s0 : Nat) (s1 : Nat) (T : tT) (I : tI) (J : tJ) (R : tR) (Q : tQ), Ex X d mX7_init 122 [.ref x0, rU] [.ref s0, .ref s1] (T, I, J, R) Q = (T[s1]? = some (3, 7) ∧ Ex X d mX7_init 125 [.ref x0, rU] [] (T, I, J, va_up R s1 (va_up (R s1) 22 (some s0))) Q)) ∧
  (∀ (X : tX) (d : Nat) (x0 : Nat) (σ : rS) (Q : tQ), Ex X d mX7_init 125 [.ref x0, rU] [] σ Q = Ex X d mX7_init 126 [.ref x0, rU] [.ref x0] σ Q) ∧
  (∀ (X : tX) (d : Nat) (x0 : Nat) (s0 : Nat) (σ : rS) (Q : tQ), Ex X d mX7_init 126 [.ref x0, rU] [.ref s0] σ Q = Ex X d mX7_init 128 [.ref x0, rU] [.int 25, .ref s0] σ Q) ∧
  (∀ (X : tX) (d : Nat) (x0 : Nat) (s0 : Nat) (s1 : Nat) (T : tT) (I : tI) (J : tJ) (R : tR) (Q : tQ), Ex X d mX7_init 130 [.ref x0, rU] [.ref s0, .ref s1] (T, I, J, R) Q = (T[s1]? = some (3, 7) ∧ Ex X d mX7_init 133 [.ref x0, rU] [] (T, I, J, va_up R s1 (va_up (R s1) 25 (some s0))) Q)) ∧
  (∀ (X : tX) (d : Nat) (x0 : Nat) (σ : rS) (Q : tQ), Ex X d mX7_init 133 [.ref x0, rU] [] σ Q = Ex X d mX7_init 134 [.ref x0, rU] [.ref x0] σ Q) ∧
  (∀ (X : tX) (d : Nat) (x0 : Nat) (s0 : Nat) (σ : rS) (Q : tQ), Ex X d mX7_init 134 [.ref x0, rU] [.ref s0] σ Q = Ex X d mX7_init 135 [.ref x0, rU] [.int 5, .ref s0] σ Q) ∧
  (∀ (X : tX) (d : Nat) (x0 : Nat) (s0 : Nat) (s1 : Nat) (T : tT) (I : tI) (J : tJ) (R : tR) (Q : tQ), Ex X d mX7_init 137 [.ref x0, rU] [.ref s0, .ref s1] (T, I, J, R) Q = (T[s1]? = some (3, 7) ∧ Ex X d mX7_init 140 [.ref x0, rU] [] (T, I, J, va_up R s1 (va_up (R s1) 26 (some s0))) Q)) ∧
  (∀ (X : tX) (d : Nat) (x0 : Nat) (σ : rS) (Q : tQ), Ex X d mX7_init 140 [.ref x0, rU] [] σ Q = Ex X d mX7_init 141 [.ref x0, rU] [.ref x0] σ Q) ∧
  (∀ (X : tX) (d : Nat) (x0 : Nat) (s0 : Nat) (σ : rS) (Q : tQ), Ex X d mX7_init 141 [.ref x0, rU] [.ref s0] σ Q = Ex X d mX7_init 144 [.ref x0, rU] [.int 160, .ref s0] σ Q) ∧
  (∀ (X : tX) (d : Nat) (x0 : Nat) (s0 : Nat) (s1 : Nat) (T : tT) (I : tI) (J : tJ) (R : tR) (Q : tQ), Ex X d mX7_init 146 [.ref x0, rU] [.ref s0, .ref s1] (T, I, J, R) Q = (T[s1]? = some (3, 7) ∧ Ex X d mX7_init 149 [.ref x0, rU] [] (T, I, J, va_up R s1 (va_up (R s1) 29 (some s0))) Q)) ∧
  (∀ (X : tX) (d : Nat) (x0 : Nat) (σ : rS) (Q : tQ), Ex X d mX7_init 149 [.ref x0, rU] [] σ Q = Ex X d mX7_init 150 [.ref x0, rU] [.ref x0] σ Q) ∧
  (∀ (X : tX) (d : Nat) (x0 : Nat) (s0 : Nat) (σ : rS) (Q : tQ), Ex X d mX7_init 150 [.ref x0, rU] [.ref s0] σ Q = Ex X d mX7_init 152 [.ref x0, rU] [.int 50, .ref s0] σ Q) ∧
  (∀ (X : tX) (d : Nat) (x0 : Nat) (s0 : Nat) (s1 : Nat) (T : tT) (I : tI) (J : tJ) (R : tR) (Q : tQ), Ex X d mX7_init 154 [.ref x0, rU] [.ref s0, .ref s1] (T, I, J, R) Q = (T[s1]? = some (3, 7) ∧ Ex X d mX7_init 157 [.ref x0, rU] [] (T, I, J, va_up R s1 (va_up (R s1) 31 (some s0))) Q)) ∧
  (∀ (X : tX) (d : Nat) (x0 : Nat) (σ : rS) (Q : tQ), Ex X d mX7_init 157 [.ref x0, rU] [] σ Q = Ex X d mX7_init 158 [.ref x0, rU] [.ref x0] σ Q) ∧
  (∀ (X : tX) (d : Nat) (x0 : Nat) (s0 : Nat) (σ : rS) (Q : tQ), Ex X d mX7_init 158 [.ref x0, rU] [.ref s0] σ Q = Ex X d mX7_init 160 [.ref x0, rU] [.int 24, .ref s0] σ Q) ∧
  (∀ (X : tX) (d : Nat) (x0 : Nat) (s0 : Nat) (s1 : Nat) (T : tT) (I : tI) (J : tJ) (R : tR) (Q : tQ), Ex X d mX7_init 162 [.ref x0, rU] [.ref s0, .ref s1] (T, I, J, R) Q = (T[s1]? = some (3, 7) ∧ Ex X d mX7_init 165 [.ref x0, rU] [] (T, I, J, va_up R s1 (va_up (R s1) 33 (some s0))) Q)) ∧
  (∀ (X : tX) (d : Nat) (x0 : Nat) (σ : rS) (Q : tQ), Ex X d mX7_init 165 [.ref x0, rU] [] σ Q = Ex X d mX7_init 166 [.ref x0, rU] [.ref x0] σ Q) ∧
  (∀ (X : tX) (d : Nat) (x0 : Nat) (s0 : Nat) (σ : rS) (Q : tQ), Ex X d mX7_init 166 [.ref x0, rU] [.ref s0] σ Q = Ex X d mX7_init 168 [.ref x0, rU] [.int 6, .ref s0] σ Q) ∧
  (∀ (X : tX) (d : Nat) (x0 : Nat) (s0 : Nat) (s1 : Nat) (T : tT) (I : tI) (J : tJ) (R : tR) (Q : tQ), Ex X d mX7_init 170 [.ref x0, rU] [.ref s0, .ref s1] (T, I, J, R) Q = (T[s1]? = some (3, 7) ∧ Ex X d mX7_init 173 [.ref x0, rU] [] (T, I, J, va_up R s1 (va_up (R s1) 34 (some s0))) Q)) ∧
  (∀ (X : tX) (d : Nat) (x0 : Nat) (σ : rS) (Q : tQ), Ex X d mX7_init 173 [.ref x0, rU] [] σ Q = Ex X d mX7_init 174 [.ref x0, rU] [.ref x0] σ Q) ∧
  (∀ (X : tX) (d : Nat) (x0 : Nat) (s0 : Nat) (σ : rS) (Q : tQ), Ex X d mX7_init 174 [.ref x0, rU] [.ref s0] σ Q = Ex X d mX7_init 176 [.ref x0, rU] [.int 6, .ref s0] σ Q) ∧
  (∀ (X : tX) (d : Nat) (x0 : Nat) (s0 : Nat) (s1 : Nat) (T : tT) (I : tI) (J : tJ) (R : tR) (Q : tQ), Ex X d mX7_init 178 [.ref x0, rU] [.ref s0, .ref s1] (T, I, J, R) Q = (T[s1]? = some (3, 7) ∧ Ex X d mX7_init 181 [.ref x0, rU] [] (T, I, J, va_up R s1 (va_up (R s1) 35 (some s0))) Q)) ∧
  (∀ (X : tX) (d : Nat) (x0 : Nat) (σ : rS) (Q : tQ), Ex X d mX7_init 181 [.ref x0, rU] [] σ Q = Ex X d mX7_init 182 [.ref x0, rU] [.ref x0] σ Q) ∧
  (∀ (X : tX) (d : Nat) (x0 : Nat) (s0 : Nat) (σ : rS) (Q : tQ), Ex X d mX7_init 182 [.ref x0, rU] [.ref s0] σ Q = Ex X d mX7_init 185 [.ref x0, rU] [.int 360, .ref s0] σ Q) ∧
  (∀ (X : tX) (d : Nat) (x0 : Nat) (s0 : Nat) (s1 : Nat) (T : tT) (I : tI) (J : tJ) (R : tR) (Q : tQ), Ex X d mX7_init 187 [.ref x0, rU] [.ref s0, .ref s1] (T, I, J, R) Q = (T[s1]? = some (3, 7) ∧ Ex X d mX7_init 190 [.ref x0, rU] [] (T, I, J, va_up R s1 (va_up (R s1) 36 (some s0))) Q)) ∧
  (∀ (X : tX) (d : Nat) (x0 : Nat) (σ : rS) (Q : tQ), Ex X d mX7_init 190 [.ref x0, rU] [] σ Q = Ex X d mX7_init 191 [.ref x0, rU] [.ref x0] σ Q) ∧
  (∀ (X : tX) (d : Nat) (x0 : Nat) (s0 : Nat) (σ : rS) (Q : tQ), Ex X d mX7_init 191 [.ref x0, rU] [.ref s0] σ Q = Ex X d mX7_init 193 [.ref x0, rU] [.int 8, .ref s0] σ Q) ∧
  (∀ (X : tX) (d : Nat) (x0 : Nat) (s0 : Nat) (s1 : Nat) (T : tT) (I : tI) (J : tJ) (R : tR) (Q : tQ), Ex X d mX7_init 195 [.ref x0, rU] [.ref s0, .ref s1] (T, I, J, R) Q = (T[s1]? = some (3, 7) ∧ Ex X d mX7_init 198 [.ref x0, rU] [] (T, I, J, va_up R s1 (va_up (R s1) 37 (some s0))) Q)) ∧
  (∀ (X : tX) (d : Nat) (x0 : Nat) (σ : rS) (Q : tQ), Ex X d mX7_init 198 [.ref x0, rU] [] σ Q = Ex X d mX7_init 199 [.ref x0, rU] [.ref x0] σ Q) ∧
  (∀ (X : tX) (d : Nat) (x0 : Nat) (s0 : Nat) (σ : rS) (Q : tQ), Ex X d mX7_init 199 [.ref x0, rU] [.ref s0] σ Q = Ex X d mX7_init 201 [.ref x0, rU] [.int 25, .ref s0] σ Q) ∧
  (∀ (X : tX) (d : Nat) (x0 : Nat) (s0 : Nat) (s1 : Nat) (T : tT) (I : tI) (J : tJ) (R : tR) (Q : tQ), Ex X d mX7_init 203 [.ref x0, rU] [.ref s0, .ref s1] (T, I, J, R) Q = (T[s1]? = some (3, 7) ∧ Ex X d mX7_init 206 [.ref x0, rU] [] (T, I, J, va_up R s1 (va_up (R s1) 38 (some s0))) Q)) ∧
  (∀ (X : tX) (d : Nat) (x0 : Nat) (σ : rS) (Q : tQ), Ex X d mX7_init 206 [.ref x0, rU] [] σ Q = Ex X d mX7_init 207 [.ref x0, rU] [.ref x0] σ Q) ∧
  (∀ (X : tX) (d : Nat) (x0 : Nat) (s0 : Nat) (σ : rS) (Q : tQ), Ex X d mX7_init 207 [.ref x0, rU] [.ref s0] σ Q = Ex X d mX7_init 209 [.ref x0, rU] [.int 25, .ref s0] σ Q) ∧
  (∀ (X : tX) (d : Nat) (x0 : Nat) (s0 : Nat) (s1 : Nat) (T : tT) (I : tI) (J : tJ) (R : tR) (Q : tQ), Ex X d mX7_init 211 [.ref x0, rU] [.ref s0, .ref s1] (T, I, J, R) Q = (T[s1]? = some (3, 7) ∧ Ex X d mX7_init 214 [.ref x0, rU] [] (T, I, J, va_up R s1 (va_up (R s1) 39 (some s0))) Q)) ∧
  (∀ (X : tX) (d : Nat) (x0 : Nat) (σ : rS) (Q : tQ), Ex X d mX7_init 214 [.ref x0, rU] [] σ Q = Ex X d mX7_init 215 [.ref x0, rU] [.ref x0] σ Q) ∧
  (∀ (X : tX) (d : Nat) (x0 : Nat) (s0 : Nat) (σ : rS) (Q : tQ), Ex X d mX7_init 215 [.ref x0, rU] [.ref s0] σ Q = Ex X d mX7_init 217 [.ref x0, rU] [.int 64, .ref s0] σ Q) ∧
  (∀ (X : tX) (d : Nat) (x0 : Nat) (s0 : Nat) (s1 : Nat) (T : tT) (I : tI) (J : tJ) (R : tR) (Q : tQ), Ex X d mX7_init 219 [.ref x0, rU] [.ref s0, .ref s1] (T, I, J, R) Q = (T[s1]? = some (3, 7) ∧ Ex X d mX7_init 222 [.ref x0, rU] [] (T, I, J, va_up R s1 (va_up (R s1) 40 (some s0))) Q)) ∧
  (∀ (X : tX) (d : Nat) (x0 : Nat) (σ : rS) (Q : tQ), Ex X d mX7_init 222 [.ref x0, rU] [] σ Q = Ex X d mX7_init 223 [.ref x0, rU] [.ref x0] σ Q) ∧
  (∀ (X : tX) (d : Nat) (x0 : Nat) (s0 : Nat) (σ : rS) (Q : tQ), Ex X d mX7_init 223 [.ref x0, rU] [.ref s0] σ Q = Ex X d mX7_init 224 [.ref x0, rU] [.int 3, .ref s0] σ Q) ∧
  (∀ (X : tX) (d : Nat) (x0 : Nat) (s0 : Nat) (s1 : Nat) (T : tT) (I : tI) (J : tJ) (R : tR) (Q : tQ), Ex X d mX7_init 226 [.ref x0, rU] [.ref s0, .ref s1] (T, I, J, R) Q = (T[s1]? = some (3, 7) ∧ Ex X d mX7_init 229 [.ref x0, rU] [] (T, I, J, va_up R s1 (va_up (R s1) 41 (some s0))) Q)) ∧
  (∀ (X : tX) (d : Nat) (x0 : Nat) (σ : rS) (Q : tQ), Ex X d mX7_init 229 [.ref x0, rU] [] σ Q = Ex X d mX7_init 230 [.ref x0, rU] [.ref x0] σ Q) ∧
  (∀ (X : tX) (d : Nat) (x0 : Nat) (s0 : Nat) (T : tT) (I : tI) (J : tJ) (R : tR) (Q : tQ), Ex X d mX7_init 230 [.ref x0, rU] [.ref s0] (T, I, J, R) Q = (T[s0]? = some (3, 7) ∧ Ex X d mX7_init 233 [.ref x0, rU] [va_rf (R s0 3)] (T, I, J, R) Q)) ∧
  (∀ (X : tX) (d : Nat) (x0 : Nat) (s0 : Nat) (σ : rS) (Q : tQ), Ex X d mX7_init 233 [.ref x0, rU] [.ref s0] σ Q = Ex X d mX7_init 234 [.ref x0, rU] [.int 0, .ref s0] σ Q) ∧
  (∀ (X : tX) (d : Nat) (x0 : Nat) (s0 : Int32) (s1 : Nat) (σ : rS) (Q : tQ), Ex X d mX7_init 234 [.ref x0, rU] [.int s0, .ref s1] σ Q = Ex X d mX7_init 235 [.ref x0, rU] [.int 3, .int s0, .ref s1] σ Q) ∧
  (∀ (X : tX) (d : Nat) (x0 : Nat) (s0 : Int32) (s1 : Int32) (s2 : Nat) (T : tT) (I : tI) (J : tJ) (R : tR) (Q : tQ), Ex X d mX7_init 235 [.ref x0, rU] [.int s0, .int s1, .ref s2] (T, I, J, R) Q = (rIn T s2 0 s1 ∧ Ex X d mX7_init 236 [.ref x0, rU] [] (T, va_up I s2 (va_up (I s2) s1.toNatClampNeg s0), J, R) Q)) ∧
  (∀ (X : tX) (d : Nat) (x0 : Nat) (σ : rS) (Q : tQ), Ex X d mX7_init 236 [.ref x0, rU] [] σ Q = Ex X d mX7_init 237 [.ref x0, rU] [.int 0] σ Q) ∧
  (∀ (X : tX) (d : Nat) (x0 : Nat) (s0 : Int32) (σ : rS) (Q : tQ), Ex X d mX7_init 237 [.ref x0, rU] [.int s0] σ Q = Ex X d mX7_init 238 [.ref x0, .int s0] [] σ Q) := ⟨fun X d x0 σ Q => ex_P (i := .aload_n 0) (len := 1) (by decide +kernel) rfl,
  fun X d x0 s0 T I J R Q => q_objI (k := 3) (by decide +kernel) rfl (Nat.le_of_ble_eq_true rfl),
  fun X d x0 σ Q => ex_P (i := .aload_n 0) (len := 1) (by decide +kernel) rfl,
  fun X d x0 s0 σ Q => ex_P (i := .bipush 32) (len := 2) (by decide +kernel) rfl,
  fun X d x0 s0 s1 T I J R Q => q_putR (k := 9) (by decide +kernel) rfl rfl (by decide +kernel),
  fun X d x0 σ Q => ex_P (i := .aload_n 0) (len := 1) (by decide +kernel) rfl,
  fun X d x0 s0 σ Q => ex_P (i := .bipush 7) (len := 2) (by decide +kernel) rfl,
  fun X d x0 s0 s1 T I J R Q => q_putR (k := 15) (by decide +kernel) rfl rfl (by decide +kernel),
  fun X d x0 σ Q => ex_P (i := .aload_n 0) (len := 1) (by decide +kernel) rfl,
  fun X d x0 s0 σ Q => ex_P (i := .iconst 2) (len := 1) (by decide +kernel) rfl,
  fun X d x0 s0 s1 T I J R Q => q_putR (k := 18) (by decide +kernel) rfl rfl (by decide +kernel),
  fun X d x0 σ Q => ex_P (i := .aload_n 0) (len := 1) (by decide +kernel) rfl,
  fun X d x0 s0 σ Q => ex_P (i := .bipush 120) (len := 2) (by decide +kernel) rfl,
  fun X d x0 s0 s1 T I J R Q => q_putR (k := 21) (by decide +kernel) rfl rfl (by decide +kernel),
  fun X d x0 σ Q => ex_P (i := .aload_n 0) (len := 1) (by decide +kernel) rfl,
  fun X d x0 s0 σ Q => ex_P (i := .bipush 60) (len := 2) (by decide +kernel) rfl,
  fun X d x0 s0 s1 T I J R Q => q_putR (k := 24) (by decide +kernel) rfl rfl (by decide +kernel),
  fun X d x0 σ Q => ex_P (i := .aload_n 0) (len := 1) (by decide +kernel) rfl,
  fun X d x0 s0 σ Q => ex_P (i := .bipush 60) (len := 2) (by decide +kernel) rfl,
  fun X d x0 s0 s1 T I J R Q => q_putR (k := 27) (by decide +kernel) rfl rfl (by decide +kernel),
  fun X d x0 σ Q => ex_P (i := .aload_n 0) (len := 1) (by decide +kernel) rfl,
  fun X d x0 s0 σ Q => ex_P (i := .bipush 60) (len := 2) (by decide +kernel) rfl,
  fun X d x0 s0 s1 T I J R Q => q_putR (k := 30) (by decide +kernel) rfl rfl (by decide +kernel),
  fun X d x0 σ Q => ex_P (i := .aload_n 0) (len := 1) (by decide +kernel) rfl,
  fun X d x0 s0 σ Q => ex_P (i := .sipush 200) (len := 3) (by decide +kernel) rfl,
  fun X d x0 s0 s1 T I J R Q => q_putR (k := 33) (by decide +kernel) rfl rfl (by decide +kernel),
  fun X d x0 σ Q => ex_P (i := .aload_n 0) (len := 1) (by decide +kernel) rfl,
  fun X d x0 s0 σ Q => ex_P (i := .bipush 61) (len := 2) (by decide +kernel) rfl,
  fun X d x0 s0 s1 T I J R Q => q_putR (k := 36) (by decide +kernel) rfl rfl (by decide +kernel),
  fun X d x0 σ Q => ex_P (i := .aload_n 0) (len := 1) (by decide +kernel) rfl,
  fun X d x0 s0 σ Q => ex_P (i := .bipush 61) (len := 2) (by decide +kernel) rfl,
  fun X d x0 s0 s1 T I J R Q => q_putR (k := 39) (by decide +kernel) rfl rfl (by decide +kernel),
  fun X d x0 σ Q => ex_P (i := .aload_n 0) (len := 1) (by decide +kernel) rfl,
  fun X d x0 s0 σ Q => ex_P (i := .bipush 61) (len := 2) (by decide +kernel) rfl,
  fun X d x0 s0 s1 T I J R Q => q_putR (k := 42) (by decide +kernel) rfl rfl (by decide +kernel),
  fun X d x0 σ Q => ex_P (i := .aload_n 0) (len := 1) (by decide +kernel) rfl,
  fun X d x0 s0 σ Q => ex_P (i := .sipush 200) (len := 3) (by decide +kernel) rfl,
  fun X d x0 s0 s1 T I J R Q => q_putR (k := 45) (by decide +kernel) rfl rfl (by decide +kernel),
  fun X d x0 σ Q => ex_P (i := .aload_n 0) (len := 1) (by decide +kernel) rfl,
  fun X d x0 s0 σ Q => ex_P (i := .sipush 200) (len := 3) (by decide +kernel) rfl,
  fun X d x0 s0 s1 T I J R Q => q_putR (k := 48) (by decide +kernel) rfl rfl (by decide +kernel),
  fun X d x0 σ Q => ex_P (i := .aload_n 0) (len := 1) (by decide +kernel) rfl,
  fun X d x0 s0 σ Q => ex_P (i := .bipush 6) (len := 2) (by decide +kernel) rfl,
  fun X d x0 s0 s1 T I J R Q => q_putR (k := 51) (by decide +kernel) rfl rfl (by decide +kernel),
  fun X d x0 σ Q => ex_P (i := .aload_n 0) (len := 1) (by decide +kernel) rfl,
  fun X d x0 s0 σ Q => ex_P (i := .iconst 5) (len := 1) (by decide +kernel) rfl,
  fun X d x0 s0 s1 T I J R Q => q_putR (k := 54) (by decide +kernel) rfl rfl (by decide +kernel),
  fun X d x0 σ Q => ex_P (i := .aload_n 0) (len := 1) (by decide +kernel) rfl,
  fun X d x0 s0 σ Q => ex_P (i := .bipush 25) (len := 2) (by decide +kernel) rfl,
  fun X d x0 s0 s1 T I J R Q => q_putR (k := 57) (by decide +kernel) rfl rfl (by decide +kernel),
  fun X d x0 σ Q => ex_P (i := .aload_n 0) (len := 1) (by decide +kernel) rfl,
  fun X d x0 s0 σ Q => ex_P (i := .iconst 5) (len := 1) (by decide +kernel) rfl,
  fun X d x0 s0 s1 T I J R Q => q_putR (k := 60) (by decide +kernel) rfl rfl (by decide +kernel),
  fun X d x0 σ Q => ex_P (i := .aload_n 0) (len := 1) (by decide +kernel) rfl,
  fun X d x0 s0 σ Q => ex_P (i := .sipush 160) (len := 3) (by decide +kernel) rfl,
  fun X d x0 s0 s1 T I J R Q => q_putR (k := 63) (by decide +kernel) rfl rfl (by decide +kernel),
  fun X d x0 σ Q => ex_P (i := .aload_n 0) (len := 1) (by decide +kernel) rfl,
  fun X d x0 s0 σ Q => ex_P (i := .bipush 50) (len := 2) (by decide +kernel) rfl,
  fun X d x0 s0 s1 T I J R Q => q_putR (k := 66) (by decide +kernel) rfl rfl (by decide +kernel),
  fun X d x0 σ Q => ex_P (i := .aload_n 0) (len := 1) (by decide +kernel) rfl,
  fun X d x0 s0 σ Q => ex_P (i := .bipush 24) (len := 2) (by decide +kernel) rfl,
  fun X d x0 s0 s1 T I J R Q => q_putR (k := 69) (by decide +kernel) rfl rfl (by decide +kernel),
  fun X d x0 σ Q => ex_P (i := .aload_n 0) (len := 1) (by decide +kernel) rfl,
  fun X d x0 s0 σ Q => ex_P (i := .bipush 6) (len := 2) (by decide +kernel) rfl,
  fun X d x0 s0 s1 T I J R Q => q_putR (k := 72) (by decide +kernel) rfl rfl (by decide +kernel),
  fun X d x0 σ Q => ex_P (i := .aload_n 0) (len := 1) (by decide +kernel) rfl,
  fun X d x0 s0 σ Q => ex_P (i := .bipush 6) (len := 2) (by decide +kernel) rfl,
  fun X d x0 s0 s1 T I J R Q => q_putR (k := 75) (by decide +kernel) rfl rfl (by decide +kernel),
  fun X d x0 σ Q => ex_P (i := .aload_n 0) (len := 1) (by decide +kernel) rfl,
  fun X d x0 s0 σ Q => ex_P (i := .sipush 360) (len := 3) (by decide +kernel) rfl,
  fun X d x0 s0 s1 T I J R Q => q_putR (k := 78) (by decide +kernel) rfl rfl (by decide +kernel),
  fun X d x0 σ Q => ex_P (i := .aload_n 0) (len := 1) (by decide +kernel) rfl,
  fun X d x0 s0 σ Q => ex_P (i := .bipush 8) (len := 2) (by decide +kernel) rfl,
  fun X d x0 s0 s1 T I J R Q => q_putR (k := 82) (by decide +kernel) rfl rfl (by decide +kernel),
  fun X d x0 σ Q => ex_P (i := .aload_n 0) (len := 1) (by decide +kernel) rfl,
  fun X d x0 s0 σ Q => ex_P (i := .bipush 25) (len := 2) (by decide +kernel) rfl,
  fun X d x0 s0 s1 T I J R Q => q_putR (k := 85) (by decide +kernel) rfl rfl (by decide +kernel),
  fun X d x0 σ Q => ex_P (i := .aload_n 0) (len := 1) (by decide +kernel) rfl,
  fun X d x0 s0 σ Q => ex_P (i := .bipush 25) (len := 2) (by decide +kernel) rfl,
  fun X d x0 s0 s1 T I J R Q => q_putR (k := 88) (by decide +kernel) rfl rfl (by decide +kernel),
  fun X d x0 σ Q => ex_P (i := .aload_n 0) (len := 1) (by decide +kernel) rfl,
  fun X d x0 s0 σ Q => ex_P (i := .bipush 64) (len := 2) (by decide +kernel) rfl,
  fun X d x0 s0 s1 T I J R Q => q_putR (k := 91) (by decide +kernel) rfl rfl (by decide +kernel),
  fun X d x0 σ Q => ex_P (i := .aload_n 0) (len := 1) (by decide +kernel) rfl,
  fun X d x0 s0 σ Q => ex_P (i := .iconst 3) (len := 1) (by decide +kernel) rfl,
  fun X d x0 s0 s1 T I J R Q => q_putR (k := 94) (by decide +kernel) rfl rfl (by decide +kernel),
  fun X d x0 σ Q => ex_P (i := .aload_n 0) (len := 1) (by decide +kernel) rfl,
  fun X d x0 s0 T I J R Q => q_getR (k := 18) (by decide +kernel) rfl rfl,
  fun X d x0 s0 σ Q => ex_P (i := .iconst 0) (len := 1) (by decide +kernel) rfl,
  fun X d x0 s0 s1 σ Q => ex_P (i := .iconst 3) (len := 1) (by decide +kernel) rfl,
  fun X d x0 s0 s1 s2 T I J R Q => q_iast (by decide +kernel),
  fun X d x0 σ Q => ex_P (i := .iconst 0) (len := 1) (by decide +kernel) rfl,
  fun X d x0 s0 σ Q => ex_P (i := .istore_n 1) (len := 1) (by decide +kernel) rfl⟩
set_option maxRecDepth 50000 in
theorem gX7_init_238 : (∀ (X : tX) (d : Nat) (x0 : Nat) (x1 : Int32) (σ : rS) (Q : tQ), Ex X d mX7_init 238 [.ref x0, .int x1] [] σ Q = Ex X d mX7_init 239 [.ref x0, .int x1] [.int x1] σ Q) ∧
  (∀ (X : tX) (d : Nat) (x0 : Nat) (x1 : Int32) (s0 : Int32) (σ : rS) (Q : tQ), Ex X d mX7_init 239 [.ref x0, .int x1] [.int s0] σ Q = Ex X d mX7_init 241 [.ref x0, .int x1] [.int 6, .int s0] σ Q) ∧
  (∀ (X : tX) (d : Nat) (x0 : Nat) (x1 : Int32) (s0 : Int32) (s1 : Int32) (σ : rS) (Q : tQ), Ex X d mX7_init 241 [.ref x0, .int x1] [.int s0, .int s1] σ Q = (if s0 ≤ s1 then Ex X d mX7_init 257 [.ref x0, .int x1] [] σ Q else Ex X d mX7_init 244 [.ref x0, .int x1] [] σ Q)) := ⟨fun X d x0 x1 σ Q => ex_P (i := .iload_n 1) (len := 1) (by decide +kernel) rfl,
  fun X d x0 x1 s0 σ Q => ex_P (i := .bipush 6) (len := 2) (by decide +kernel) rfl,
  fun X d x0 x1 s0 s1 σ Q => q_icmp_ge (o := 16) (by decide +kernel) rfl⟩
set_option maxRecDepth 50000 in
theorem gX7_init_244 : (∀ (X : tX) (d : Nat) (x0 : Nat) (x1 : Int32) (σ : rS) (Q : tQ), Ex X d mX7_init 244 [.ref x0, .int x1] [] σ Q = Ex X d mX7_init 245 [.ref x0, .int x1] [.ref x0] σ Q) ∧
  (∀ (X : tX) (d : Nat) (x0 : Nat) (x1 : Int32) (s0 : Nat) (T : tT) (I : tI) (J : tJ) (R : tR) (Q : tQ), Ex X d mX7_init 245 [.ref x0, .int x1] [.ref s0] (T, I, J, R) Q = (T[s0]? = some (3, 7) ∧ Ex X d mX7_init 248 [.ref x0, .int x1] [va_rf (R s0 34)] (T, I, J, R) Q)) ∧
  (∀ (X : tX) (d : Nat) (x0 : Nat) (x1 : Int32) (s0 : Nat) (σ : rS) (Q : tQ), Ex X d mX7_init 248 [.ref x0, .int x1] [.ref s0] σ Q = Ex X d mX7_init 249 [.ref x0, .int x1] [.int x1, .ref s0] σ Q) ∧
  (∀ (X : tX) (d : Nat) (x0 : Nat) (x1 : Int32) (s0 : Int32) (s1 : Nat) (σ : rS) (Q : tQ), Ex X d mX7_init 249 [.ref x0, .int x1] [.int s0, .ref s1] σ Q = Ex X d mX7_init 250 [.ref x0, .int x1] [.int (-1), .int s0, .ref s1] σ Q) ∧
  (∀ (X : tX) (d : Nat) (x0 : Nat) (x1 : Int32) (s0 : Int32) (s1 : Int32) (s2 : Nat) (T : tT) (I : tI) (J : tJ) (R : tR) (Q : tQ), Ex X d mX7_init 250 [.ref x0, .int x1] [.int s0, .int s1, .ref s2] (T, I, J, R) Q = (rIn T s2 0 s1 ∧ Ex X d mX7_init 251 [.ref x0, .int x1] [] (T, va_up I s2 (va_up (I s2) s1.toNatClampNeg s0), J, R) Q)) ∧
  (∀ (X : tX) (d : Nat) (x0 : Nat) (x1 : Int32) (σ : rS) (Q : tQ), Ex X d mX7_init 251 [.ref x0, .int x1] [] σ Q = Ex X d mX7_init 254 [.ref x0, .int (x1 + 1)] [] σ Q) ∧
  (∀ (X : tX) (d : Nat) (x0 : Nat) (x1 : Int32) (σ : rS) (Q : tQ), Ex X d mX7_init 254 [.ref x0, .int x1] [] σ Q = Ex X d mX7_init 238 [.ref x0, .int x1] [] σ Q) := ⟨fun X d x0 x1 σ Q => ex_P (i := .aload_n 0) (len := 1) (by decide +kernel) rfl,
  fun X d x0 x1 s0 T I J R Q => q_getR (k := 72) (by decide +kernel) rfl rfl,
  fun X d x0 x1 s0 σ Q => ex_P (i := .iload_n 1) (len := 1) (by decide +kernel) rfl,
  fun X d x0 x1 s0 s1 σ Q => ex_P (i := .iconst (-1)) (len := 1) (by decide +kernel) rfl,
  fun X d x0 x1 s0 s1 s2 T I J R Q => q_iast (by decide +kernel),
  fun X d x0 x1 σ Q => ex_P (i := .iinc 1 1) (len := 3) (by decide +kernel) rfl,
  fun X d x0 x1 σ Q => q_goto (o := (-16)) (by decide +kernel) rfl⟩
set_option maxRecDepth 50000 in
theorem gX7_init_257 : (∀ (X : tX) (d : Nat) (x0 : Nat) (x1 : Int32) (σ : rS) (Q : tQ), Ex X d mX7_init 257 [.ref x0, .int x1] [] σ Q = Q none σ) := fun X d x0 x1 σ Q => q_retV (by decide +kernel) rfl
set_option maxRecDepth 50000 in
theorem gX7_within_0 : (∀ (X : tX) (d : Nat) (x0 : Int32) (x1 : Int32) (x2 : Int32) (σ : rS) (Q : tQ), Ex X d mX7_within 0 [.int x0, .int x1, .int x2] [] σ Q = Ex X d mX7_within 1 [.int x0, .int x1, .int x2] [.int x0] σ Q) ∧
  (∀ (X : tX) (d : Nat) (x0 : Int32) (x1 : Int32) (x2 : Int32) (s0 : Int32) (σ : rS) (Q : tQ), Ex X d mX7_within 1 [.int x0, .int x1, .int x2] [.int s0] σ Q = Ex X d mX7_within 2 [.int x0, .int x1, .int x2] [.int x1, .int s0] σ Q) ∧
  (∀ (X : tX) (d : Nat) (x0 : Int32) (x1 : Int32) (x2 : Int32) (s0 : Int32) (s1 : Int32) (σ : rS) (Q : tQ), Ex X d mX7_within 2 [.int x0, .int x1, .int x2] [.int s0, .int s1] σ Q = (if s1 < s0 then Ex X d mX7_within 14 [.int x0, .int x1, .int x2] [] σ Q else Ex X d mX7_within 5 [.int x0, .int x1, .int x2] [] σ Q)) := ⟨fun X d x0 x1 x2 σ Q => ex_P (i := .iload_n 0) (len := 1) (by decide +kernel) rfl,
  fun X d x0 x1 x2 s0 σ Q => ex_P (i := .iload_n 1) (len := 1) (by decide +kernel) rfl,
  fun X d x0 x1 x2 s0 s1 σ Q => q_icmp_lt (o := 12) (by decide +kernel) rfl⟩
set_option maxRecDepth 50000 in
theorem gX7_within_5 : (∀ (X : tX) (d : Nat) (x0 : Int32) (x1 : Int32) (x2 : Int32) (σ : rS) (Q : tQ), Ex X d mX7_within 5 [.int x0, .int x1, .int x2] [] σ Q = Ex X d mX7_within 6 [.int x0, .int x1, .int x2] [.int x0] σ Q) ∧
  (∀ (X : tX) (d : Nat) (x0 : Int32) (x1 : Int32) (x2 : Int32) (s0 : Int32) (σ : rS) (Q : tQ), Ex X d mX7_within 6 [.int x0, .int x1, .int x2] [.int s0] σ Q = Ex X d mX7_within 7 [.int x0, .int x1, .int x2] [.int x2, .int s0] σ Q) ∧
  (∀ (X : tX) (d : Nat) (x0 : Int32) (x1 : Int32) (x2 : Int32) (s0 : Int32) (s1 : Int32) (σ : rS) (Q : tQ), Ex X d mX7_within 7 [.int x0, .int x1, .int x2] [.int s0, .int s1] σ Q = (if s0 < s1 then Ex X d mX7_within 14 [.int x0, .int x1, .int x2] [] σ Q else Ex X d mX7_within 10 [.int x0, .int x1, .int x2] [] σ Q)) := ⟨fun X d x0 x1 x2 σ Q => ex_P (i := .iload_n 0) (len := 1) (by decide +kernel) rfl,
  fun X d x0 x1 x2 s0 σ Q => ex_P (i := .iload_n 2) (len := 1) (by decide +kernel) rfl,
  fun X d x0 x1 x2 s0 s1 σ Q => q_icmp_gt (o := 7) (by decide +kernel) rfl⟩
set_option maxRecDepth 50000 in
theorem gX7_within_10 : (∀ (X : tX) (d : Nat) (x0 : Int32) (x1 : Int32) (x2 : Int32) (σ : rS) (Q : tQ), Ex X d mX7_within 10 [.int x0, .int x1, .int x2] [] σ Q = Ex X d mX7_within 11 [.int x0, .int x1, .int x2] [.int 1] σ Q) ∧
  (∀ (X : tX) (d : Nat) (x0 : Int32) (x1 : Int32) (x2 : Int32) (s0 : Int32) (σ : rS) (Q : tQ), Ex X d mX7_within 11 [.int x0, .int x1, .int x2] [.int s0] σ Q = Ex X d mX7_within 15 [.int x0, .int x1, .int x2] [.int s0] σ Q) := ⟨fun X d x0 x1 x2 σ Q => ex_P (i := .iconst 1) (len := 1) (by decide +kernel) rfl,
  fun X d x0 x1 x2 s0 σ Q => q_goto (o := 4) (by decide +kernel) rfl⟩
set_option maxRecDepth 50000 in
theorem gX7_within_14 : (∀ (X : tX) (d : Nat) (x0 : Int32) (x1 : Int32) (x2 : Int32) (σ : rS) (Q : tQ), Ex X d mX7_within 14 [.int x0, .int x1, .int x2] [] σ Q = Ex X d mX7_within 15 [.int x0, .int x1, .int x2] [.int 0] σ Q) := fun X d x0 x1 x2 σ Q => ex_P (i := .iconst 0) (len := 1) (by decide +kernel) rfl
set_option maxRecDepth 50000 in
theorem gX7_within_15 : (∀ (X : tX) (d : Nat) (x0 : Int32) (x1 : Int32) (x2 : Int32) (s0 : Int32) (σ : rS) (Q : tQ), Ex X d mX7_within 15 [.int x0, .int x1, .int x2] [.int s0] σ Q = ((s0 = 0 ∨ s0 = 1) ∧ Q (some (.int s0)) σ)) := fun X d x0 x1 x2 s0 σ Q => q_retZ (by decide +kernel) rfl
set_option maxRecDepth 50000 in
theorem gX7_isOne_0 : (∀ (X : tX) (d : Nat) (x0 : Nat) (x1 : Int32) (σ : rS) (Q : tQ), Ex X d mX7_isOne 0 [.ref x0, .int x1] [] σ Q = Ex X d mX7_isOne 1 [.ref x0, .int x1] [.int x1] σ Q) ∧
  (∀ (X : tX) (d : Nat) (x0 : Nat) (x1 : Int32) (s0 : Int32) (σ : rS) (Q : tQ), Ex X d mX7_isOne 1 [.ref x0, .int x1] [.int s0] σ Q = Ex X d mX7_isOne 2 [.ref x0, .int x1] [.int 0, .int s0] σ Q) ∧
  (∀ (X : tX) (d : Nat) (x0 : Nat) (x1 : Int32) (s0 : Int32) (s1 : Int32) (σ : rS) (Q : tQ), Ex X d mX7_isOne 2 [.ref x0, .int x1] [.int s0, .int s1] σ Q = Ex X d mX7_isOne 3 [.ref x0, .int x1] [.ref x0, .int s0, .int s1] σ Q) ∧
  (∀ (X : tX) (d : Nat) (x0 : Nat) (x1 : Int32) (s0 : Nat) (s1 : Int32) (s2 : Int32) (T : tT) (I : tI) (J : tJ) (R : tR) (Q : tQ), Ex X d mX7_isOne 3 [.ref x0, .int x1] [.ref s0, .int s1, .int s2] (T, I, J, R) Q = (T[s0]? = some (3, 7) ∧ Ex X d mX7_isOne 6 [.ref x0, .int x1] [.int (I s0 0), .int s1, .int s2] (T, I, J, R) Q)) ∧
  (∀ (X : tX) (d : Nat) (x0 : Nat) (x1 : Int32) (s0 : Int32) (s1 : Int32) (s2 : Int32) (σ : rS) (Q : tQ), Ex X d mX7_isOne 6 [.ref x0, .int x1] [.int s0, .int s1, .int s2] σ Q = Ex X d mX7_isOne 7 [.ref x0, .int x1] [.int 1, .int s0, .int s1, .int s2] σ Q) ∧
  (∀ (X : tX) (d : Nat) (x0 : Nat) (x1 : Int32) (s0 : Int32) (s1 : Int32) (s2 : Int32) (s3 : Int32) (σ : rS) (Q : tQ), Ex X d mX7_isOne 7 [.ref x0, .int x1] [.int s0, .int s1, .int s2, .int s3] σ Q = Ex X d mX7_isOne 8 [.ref x0, .int x1] [.int (s1 - s0), .int s2, .int s3] σ Q) ∧
  (∀ (X : tX) (d : Nat) (x0 : Nat) (x1 : Int32) (s0 : Int32) (s1 : Int32) (s2 : Int32) (σ : rS) (Q : tQ), Ex X (d + 1) mX7_isOne 8 [.ref x0, .int x1] [.int s0, .int s1, .int s2] σ Q = Ex X d mX7_within 0 [.int s2, .int s1, .int s0] [] σ (fun v σ1 => Ex X (d + 1) mX7_isOne 11 [.ref x0, .int x1] (v.toList ++ []) σ1 Q)) := ⟨fun X d x0 x1 σ Q => ex_P (i := .iload_n 1) (len := 1) (by decide +kernel) rfl,
  fun X d x0 x1 s0 σ Q => ex_P (i := .iconst 0) (len := 1) (by decide +kernel) rfl,
  fun X d x0 x1 s0 s1 σ Q => ex_P (i := .aload_n 0) (len := 1) (by decide +kernel) rfl,
  fun X d x0 x1 s0 s1 s2 T I J R Q => q_getI (k := 97) (by decide +kernel) rfl rfl (by decide),
  fun X d x0 x1 s0 s1 s2 σ Q => ex_P (i := .iconst 1) (len := 1) (by decide +kernel) rfl,
  fun X d x0 x1 s0 s1 s2 s3 σ Q => ex_P (i := .isub) (len := 1) (by decide +kernel) rfl,
  fun X d x0 x1 s0 s1 s2 σ Q => q_callS (k := 101) (as := [.int s2, .int s1, .int s0]) (st := []) (show rlk mX7_isOne.2.2.2.2.2.2 8 = some (.invokestatic 101, 3) from by decide +kernel) rfl (Or.inl rfl) rfl rfl rfl rfl rfl (Nat.le_of_ble_eq_true rfl) (Nat.le_of_ble_eq_true rfl) rfl⟩
set_option maxRecDepth 50000 in
theorem gX7_isOne_11 : (∀ (X : tX) (d : Nat) (x0 : Nat) (x1 : Int32) (s0 : Int32) (σ : rS) (Q : tQ), Ex X d mX7_isOne 11 [.ref x0, .int x1] [.int s0] σ Q = ((s0 = 0 ∨ s0 = 1) ∧ Q (some (.int s0)) σ)) := fun X d x0 x1 s0 σ Q => q_retZ (by decide +kernel) rfl
set_option maxRecDepth 50000 in
theorem gX7_isTime_0 : (∀ (X : tX) (d : Nat) (x0 : Int32) (σ : rS) (Q : tQ), Ex X d mX7_isTime 0 [.int x0] [] σ Q = Ex X d mX7_isTime 1 [.int x0] [.int x0] σ Q) ∧
  (∀ (X : tX) (d : Nat) (x0 : Int32) (s0 : Int32) (σ : rS) (Q : tQ), Ex X d mX7_isTime 1 [.int x0] [.int s0] σ Q = Ex X d mX7_isTime 2 [.int x0] [.int 0, .int s0] σ Q) ∧
  (∀ (X : tX) (d : Nat) (x0 : Int32) (s0 : Int32) (s1 : Int32) (σ : rS) (Q : tQ), Ex X d mX7_isTime 2 [.int x0] [.int s0, .int s1] σ Q = Ex X d mX7_isTime 4 [.int x0] [.int 60, .int s0, .int s1] σ Q) ∧
  (∀ (X : tX) (d : Nat) (x0 : Int32) (s0 : Int32) (s1 : Int32) (s2 : Int32) (σ : rS) (Q : tQ), Ex X (d + 1) mX7_isTime 4 [.int x0] [.int s0, .int s1, .int s2] σ Q = Ex X d mX7_within 0 [.int s2, .int s1, .int s0] [] σ (fun v σ1 => Ex X (d + 1) mX7_isTime 7 [.int x0] (v.toList ++ []) σ1 Q)) := ⟨fun X d x0 σ Q => ex_P (i := .iload_n 0) (len := 1) (by decide +kernel) rfl,
  fun X d x0 s0 σ Q => ex_P (i := .iconst 0) (len := 1) (by decide +kernel) rfl,
  fun X d x0 s0 s1 σ Q => ex_P (i := .bipush 60) (len := 2) (by decide +kernel) rfl,
  fun X d x0 s0 s1 s2 σ Q => q_callS (k := 101) (as := [.int s2, .int s1, .int s0]) (st := []) (show rlk mX7_isTime.2.2.2.2.2.2 4 = some (.invokestatic 101, 3) from by decide +kernel) rfl (Or.inl rfl) rfl rfl rfl rfl rfl (Nat.le_of_ble_eq_true rfl) (Nat.le_of_ble_eq_true rfl) rfl⟩
set_option maxRecDepth 50000 in
theorem gX7_isTime_7 : (∀ (X : tX) (d : Nat) (x0 : Int32) (s0 : Int32) (σ : rS) (Q : tQ), Ex X d mX7_isTime 7 [.int x0] [.int s0] σ Q = ((s0 = 0 ∨ s0 = 1) ∧ Q (some (.int s0)) σ)) := fun X d x0 s0 σ Q => q_retZ (by decide +kernel) rfl
set_option maxRecDepth 50000 in
theorem gX7_isShelf_0 : (∀ (X : tX) (d : Nat) (x0 : Int32) (σ : rS) (Q : tQ), Ex X d mX7_isShelf 0 [.int x0] [] σ Q = Ex X d mX7_isShelf 1 [.int x0] [.int x0] σ Q) ∧
  (∀ (X : tX) (d : Nat) (x0 : Int32) (s0 : Int32) (σ : rS) (Q : tQ), Ex X d mX7_isShelf 1 [.int x0] [.int s0] σ Q = Ex X d mX7_isShelf 2 [.int x0] [.int 0, .int s0] σ Q) ∧
  (∀ (X : tX) (d : Nat) (x0 : Int32) (s0 : Int32) (s1 : Int32) (σ : rS) (Q : tQ), Ex X d mX7_isShelf 2 [.int x0] [.int s0, .int s1] σ Q = Ex X d mX7_isShelf 3 [.int x0] [.int 5, .int s0, .int s1] σ Q) ∧
  (∀ (X : tX) (d : Nat) (x0 : Int32) (s0 : Int32) (s1 : Int32) (s2 : Int32) (σ : rS) (Q : tQ), Ex X (d + 1) mX7_isShelf 3 [.int x0] [.int s0, .int s1, .int s2] σ Q = Ex X d mX7_within 0 [.int s2, .int s1, .int s0] [] σ (fun v σ1 => Ex X (d + 1) mX7_isShelf 6 [.int x0] (v.toList ++ []) σ1 Q)) := ⟨fun X d x0 σ Q => ex_P (i := .iload_n 0) (len := 1) (by decide +kernel) rfl,
  fun X d x0 s0 σ Q => ex_P (i := .iconst 0) (len := 1) (by decide +kernel) rfl,
  fun X d x0 s0 s1 σ Q => ex_P (i := .iconst 5) (len := 1) (by decide +kernel) rfl,
  fun X d x0 s0 s1 s2 σ Q => q_callS (k := 101) (as := [.int s2, .int s1, .int s0]) (st := []) (show rlk mX7_isShelf.2.2.2.2.2.2 3 = some (.invokestatic 101, 3) from by decide +kernel) rfl (Or.inl rfl) rfl rfl rfl rfl rfl (Nat.le_of_ble_eq_true rfl) (Nat.le_of_ble_eq_true rfl) rfl⟩
set_option maxRecDepth 50000 in
theorem gX7_isShelf_6 : (∀ (X : tX) (d : Nat) (x0 : Int32) (s0 : Int32) (σ : rS) (Q : tQ), Ex X d mX7_isShelf 6 [.int x0] [.int s0] σ Q = ((s0 = 0 ∨ s0 = 1) ∧ Q (some (.int s0)) σ)) := fun X d x0 s0 σ Q => q_retZ (by decide +kernel) rfl
set_option maxRecDepth 50000 in
theorem gX7_newOne_0 : (∀ (X : tX) (d : Nat) (x0 : Nat) (x1 : Int32) (x2 : Int32) (x3 : Int32) (σ : rS) (Q : tQ), Ex X d mX7_newOne 0 [.ref x0, .int x1, .int x2, .int x3] [] σ Q = Ex X d mX7_newOne 1 [.ref x0, .int x1, .int x2, .int x3] [.ref x0] σ Q) ∧
  (∀ (X : tX) (d : Nat) (x0 : Nat) (x1 : Int32) (x2 : Int32) (x3 : Int32) (s0 : Nat) (T : tT) (I : tI) (J : tJ) (R : tR) (Q : tQ), Ex X d mX7_newOne 1 [.ref x0, .int x1, .int x2, .int x3] [.ref s0] (T, I, J, R) Q = (T[s0]? = some (3, 7) ∧ Ex X d mX7_newOne 4 [.ref x0, .int x1, .int x2, .int x3] [va_rf (R s0 1)] (T, I, J, R) Q)) ∧
  (∀ (X : tX) (d : Nat) (x0 : Nat) (x1 : Int32) (x2 : Int32) (x3 : Int32) (s0 : Nat) (σ : rS) (Q : tQ), Ex X d mX7_newOne 4 [.ref x0, .int x1, .int x2, .int x3] [.ref s0] σ Q = Ex X d mX7_newOne 5 [.ref x0, .int x1, .int x2, .int x3] [.ref x0, .ref s0] σ Q) ∧
  (∀ (X : tX) (d : Nat) (x0 : Nat) (x1 : Int32) (x2 : Int32) (x3 : Int32) (s0 : Nat) (s1 : Nat) (T : tT) (I : tI) (J : tJ) (R : tR) (Q : tQ), Ex X d mX7_newOne 5 [.ref x0, .int x1, .int x2, .int x3] [.ref s0, .ref s1] (T, I, J, R) Q = (T[s0]? = some (3, 7) ∧ Ex X d mX7_newOne 8 [.ref x0, .int x1, .int x2, .int x3] [.int (I s0 0), .ref s1] (T, I, J, R) Q)) ∧
  (∀ (X : tX) (d : Nat) (x0 : Nat) (x1 : Int32) (x2 : Int32) (x3 : Int32) (s0 : Int32) (s1 : Nat) (σ : rS) (Q : tQ), Ex X d mX7_newOne 8 [.ref x0, .int x1, .int x2, .int x3] [.int s0, .ref s1] σ Q = Ex X d mX7_newOne 9 [.ref x0, .int x1, .int x2, .int x3] [.int x1, .int s0, .ref s1] σ Q) ∧
  (∀ (X : tX) (d : Nat) (x0 : Nat) (x1 : Int32) (x2 : Int32) (x3 : Int32) (s0 : Int32) (s1 : Int32) (s2 : Nat) (T : tT) (I : tI) (J : tJ) (R : tR) (Q : tQ), Ex X d mX7_newOne 9 [.ref x0, .int x1, .int x2, .int x3] [.int s0, .int s1, .ref s2] (T, I, J, R) Q = (rIn T s2 0 s1 ∧ Ex X d mX7_newOne 10 [.ref x0, .int x1, .int x2, .int x3] [] (T, va_up I s2 (va_up (I s2) s1.toNatClampNeg s0), J, R) Q)) ∧
  (∀ (X : tX) (d : Nat) (x0 : Nat) (x1 : Int32) (x2 : Int32) (x3 : Int32) (σ : rS) (Q : tQ), Ex X d mX7_newOne 10 [.ref x0, .int x1, .int x2, .int x3] [] σ Q = Ex X d mX7_newOne 11 [.ref x0, .int x1, .int x2, .int x3] [.ref x0] σ Q) ∧
  (∀ (X : tX) (d : Nat) (x0 : Nat) (x1 : Int32) (x2 : Int32) (x3 : Int32) (s0 : Nat) (T : tT) (I : tI) (J : tJ) (R : tR) (Q : tQ), Ex X d mX7_newOne 11 [.ref x0, .int x1, .int x2, .int x3] [.ref s0] (T, I, J, R) Q = (T[s0]? = some (3, 7) ∧ Ex X d mX7_newOne 14 [.ref x0, .int x1, .int x2, .int x3] [va_rf (R s0 1)] (T, I, J, R) Q)) ∧
  (∀ (X : tX) (d : Nat) (x0 : Nat) (x1 : Int32) (x2 : Int32) (x3 : Int32) (s0 : Nat) (σ : rS) (Q : tQ), Ex X d mX7_newOne 14 [.ref x0, .int x1, .int x2, .int x3] [.ref s0] σ Q = Ex X d mX7_newOne 16 [.ref x0, .int x1, .int x2, .int x3] [.int 8, .ref s0] σ Q) ∧
  (∀ (X : tX) (d : Nat) (x0 : Nat) (x1 : Int32) (x2 : Int32) (x3 : Int32) (s0 : Int32) (s1 : Nat) (σ : rS) (Q : tQ), Ex X d mX7_newOne 16 [.ref x0, .int x1, .int x2, .int x3] [.int s0, .ref s1] σ Q = Ex X d mX7_newOne 17 [.ref x0, .int x1, .int x2, .int x3] [.ref x0, .int s0, .ref s1] σ Q) ∧
  (∀ (X : tX) (d : Nat) (x0 : Nat) (x1 : Int32) (x2 : Int32) (x3 : Int32) (s0 : Nat) (s1 : Int32) (s2 : Nat) (T : tT) (I : tI) (J : tJ) (R : tR) (Q : tQ), Ex X d mX7_newOne 17 [.ref x0, .int x1, .int x2, .int x3] [.ref s0, .int s1, .ref s2] (T, I, J, R) Q = (T[s0]? = some (3, 7) ∧ Ex X d mX7_newOne 20 [.ref x0, .int x1, .int x2, .int x3] [.int (I s0 0), .int s1, .ref s2] (T, I, J, R) Q)) ∧
  (∀ (X : tX) (d : Nat) (x0 : Nat) (x1 : Int32) (x2 : Int32) (x3 : Int32) (s0 : Int32) (s1 : Int32) (s2 : Nat) (σ : rS) (Q : tQ), Ex X d mX7_newOne 20 [.ref x0, .int x1, .int x2, .int x3] [.int s0, .int s1, .ref s2] σ Q = Ex X d mX7_newOne 21 [.ref x0, .int x1, .int x2, .int x3] [.int (s1 + s0), .ref s2] σ Q) ∧
  (∀ (X : tX) (d : Nat) (x0 : Nat) (x1 : Int32) (x2 : Int32) (x3 : Int32) (s0 : Int32) (s1 : Nat) (σ : rS) (Q : tQ), Ex X d mX7_newOne 21 [.ref x0, .int x1, .int x2, .int x3] [.int s0, .ref s1] σ Q = Ex X d mX7_newOne 22 [.ref x0, .int x1, .int x2, .int x3] [.int x2, .int s0, .ref s1] σ Q) ∧
  (∀ (X : tX) (d : Nat) (x0 : Nat) (x1 : Int32) (x2 : Int32) (x3 : Int32) (s0 : Int32) (s1 : Int32) (s2 : Nat) (T : tT) (I : tI) (J : tJ) (R : tR) (Q : tQ), Ex X d mX7_newOne 22 [.ref x0, .int x1, .int x2, .int x3] [.int s0, .int s1, .ref s2] (T, I, J, R) Q = (rIn T s2 0 s1 ∧ Ex X d mX7_newOne 23 [.ref x0, .int x1, .int x2, .int x3] [] (T, va_up I s2 (va_up (I s2) s1.toNatClampNeg s0), J, R) Q)) ∧
  (∀ (X : tX) (d : Nat) (x0 : Nat) (x1 : Int32) (x2 : Int32) (x3 : Int32) (σ : rS) (Q : tQ), Ex X d mX7_newOne 23 [.ref x0, .int x1, .int x2, .int x3] [] σ Q = Ex X d mX7_newOne 24 [.ref x0, .int x1, .int x2, .int x3] [.ref x0] σ Q) ∧
  (∀ (X : tX) (d : Nat) (x0 : Nat) (x1 : Int32) (x2 : Int32) (x3 : Int32) (s0 : Nat) (T : tT) (I : tI) (J : tJ) (R : tR) (Q : tQ), Ex X d mX7_newOne 24 [.ref x0, .int x1, .int x2, .int x3] [.ref s0] (T, I, J, R) Q = (T[s0]? = some (3, 7) ∧ Ex X d mX7_newOne 27 [.ref x0, .int x1, .int x2, .int x3] [va_rf (R s0 1)] (T, I, J, R) Q)) ∧
  (∀ (X : tX) (d : Nat) (x0 : Nat) (x1 : Int32) (x2 : Int32) (x3 : Int32) (s0 : Nat) (σ : rS) (Q : tQ), Ex X d mX7_newOne 27 [.ref x0, .int x1, .int x2, .int x3] [.ref s0] σ Q = Ex X d mX7_newOne 29 [.ref x0, .int x1, .int x2, .int x3] [.int 16, .ref s0] σ Q) ∧
  (∀ (X : tX) (d : Nat) (x0 : Nat) (x1 : Int32) (x2 : Int32) (x3 : Int32) (s0 : Int32) (s1 : Nat) (σ : rS) (Q : tQ), Ex X d mX7_newOne 29 [.ref x0, .int x1, .int x2, .int x3] [.int s0, .ref s1] σ Q = Ex X d mX7_newOne 30 [.ref x0, .int x1, .int x2, .int x3] [.ref x0, .int s0, .ref s1] σ Q) ∧
  (∀ (X : tX) (d : Nat) (x0 : Nat) (x1 : Int32) (x2 : Int32) (x3 : Int32) (s0 : Nat) (s1 : Int32) (s2 : Nat) (T : tT) (I : tI) (J : tJ) (R : tR) (Q : tQ), Ex X d mX7_newOne 30 [.ref x0, .int x1, .int x2, .int x3] [.ref s0, .int s1, .ref s2] (T, I, J, R) Q = (T[s0]? = some (3, 7) ∧ Ex X d mX7_newOne 33 [.ref x0, .int x1, .int x2, .int x3] [.int (I s0 0), .int s1, .ref s2] (T, I, J, R) Q)) ∧
  (∀ (X : tX) (d : Nat) (x0 : Nat) (x1 : Int32) (x2 : Int32) (x3 : Int32) (s0 : Int32) (s1 : Int32) (s2 : Nat) (σ : rS) (Q : tQ), Ex X d mX7_newOne 33 [.ref x0, .int x1, .int x2, .int x3] [.int s0, .int s1, .ref s2] σ Q = Ex X d mX7_newOne 34 [.ref x0, .int x1, .int x2, .int x3] [.int (s1 + s0), .ref s2] σ Q) ∧
  (∀ (X : tX) (d : Nat) (x0 : Nat) (x1 : Int32) (x2 : Int32) (x3 : Int32) (s0 : Int32) (s1 : Nat) (σ : rS) (Q : tQ), Ex X d mX7_newOne 34 [.ref x0, .int x1, .int x2, .int x3] [.int s0, .ref s1] σ Q = Ex X d mX7_newOne 35 [.ref x0, .int x1, .int x2, .int x3] [.int 0, .int s0, .ref s1] σ Q) ∧
  (∀ (X : tX) (d : Nat) (x0 : Nat) (x1 : Int32) (x2 : Int32) (x3 : Int32) (s0 : Int32) (s1 : Int32) (s2 : Nat) (T : tT) (I : tI) (J : tJ) (R : tR) (Q : tQ), Ex X d mX7_newOne 35 [.ref x0, .int x1, .int x2, .int x3] [.int s0, .int s1, .ref s2] (T, I, J, R) Q = (rIn T s2 0 s1 ∧ Ex X d mX7_newOne 36 [.ref x0, .int x1, .int x2, .int x3] [] (T, va_up I s2 (va_up (I s2) s1.toNatClampNeg s0), J, R) Q)) ∧
  (∀ (X : tX) (d : Nat) (x0 : Nat) (x1 : Int32) (x2 : Int32) (x3 : Int32) (σ : rS) (Q : tQ), Ex X d mX7_newOne 36 [.ref x0, .int x1, .int x2, .int x3] [] σ Q = Ex X d mX7_newOne 37 [.ref x0, .int x1, .int x2, .int x3] [.ref x0] σ Q) ∧
  (∀ (X : tX) (d : Nat) (x0 : Nat) (x1 : Int32) (x2 : Int32) (x3 : Int32) (s0 : Nat) (T : tT) (I : tI) (J : tJ) (R : tR) (Q : tQ), Ex X d mX7_newOne 37 [.ref x0, .int x1, .int x2, .int x3] [.ref s0] (T, I, J, R) Q = (T[s0]? = some (3, 7) ∧ Ex X d mX7_newOne 40 [.ref x0, .int x1, .int x2, .int x3] [va_rf (R s0 1)] (T, I, J, R) Q)) ∧
  (∀ (X : tX) (d : Nat) (x0 : Nat) (x1 : Int32) (x2 : Int32) (x3 : Int32) (s0 : Nat) (σ : rS) (Q : tQ), Ex X d mX7_newOne 40 [.ref x0, .int x1, .int x2, .int x3] [.ref s0] σ Q = Ex X d mX7_newOne 42 [.ref x0, .int x1, .int x2, .int x3] [.int 24, .ref s0] σ Q) ∧
  (∀ (X : tX) (d : Nat) (x0 : Nat) (x1 : Int32) (x2 : Int32) (x3 : Int32) (s0 : Int32) (s1 : Nat) (σ : rS) (Q : tQ), Ex X d mX7_newOne 42 [.ref x0, .int x1, .int x2, .int x3] [.int s0, .ref s1] σ Q = Ex X d mX7_newOne 43 [.ref x0, .int x1, .int x2, .int x3] [.ref x0, .int s0, .ref s1] σ Q) ∧
  (∀ (X : tX) (d : Nat) (x0 : Nat) (x1 : Int32) (x2 : Int32) (x3 : Int32) (s0 : Nat) (s1 : Int32) (s2 : Nat) (T : tT) (I : tI) (J : tJ) (R : tR) (Q : tQ), Ex X d mX7_newOne 43 [.ref x0, .int x1, .int x2, .int x3] [.ref s0, .int s1, .ref s2] (T, I, J, R) Q = (T[s0]? = some (3, 7) ∧ Ex X d mX7_newOne 46 [.ref x0, .int x1, .int x2, .int x3] [.int (I s0 0), .int s1, .ref s2] (T, I, J, R) Q)) ∧
  (∀ (X : tX) (d : Nat) (x0 : Nat) (x1 : Int32) (x2 : Int32) (x3 : Int32) (s0 : Int32) (s1 : Int32) (s2 : Nat) (σ : rS) (Q : tQ), Ex X d mX7_newOne 46 [.ref x0, .int x1, .int x2, .int x3] [.int s0, .int s1, .ref s2] σ Q = Ex X d mX7_newOne 47 [.ref x0, .int x1, .int x2, .int x3] [.int (s1 + s0), .ref s2] σ Q) ∧
  (∀ (X : tX) (d : Nat) (x0 : Nat) (x1 : Int32) (x2 : Int32) (x3 : Int32) (s0 : Int32) (s1 : Nat) (σ : rS) (Q : tQ), Ex X d mX7_newOne 47 [.ref x0, .int x1, .int x2, .int x3] [.int s0, .ref s1] σ Q = Ex X d mX7_newOne 48 [.ref x0, .int x1, .int x2, .int x3] [.int x3, .int s0, .ref s1] σ Q) ∧
  (∀ (X : tX) (d : Nat) (x0 : Nat) (x1 : Int32) (x2 : Int32) (x3 : Int32) (s0 : Int32) (s1 : Int32) (s2 : Nat) (T : tT) (I : tI) (J : tJ) (R : tR) (Q : tQ), Ex X d mX7_newOne 48 [.ref x0, .int x1, .int x2, .int x3] [.int s0, .int s1, .ref s2] (T, I, J, R) Q = (rIn T s2 0 s1 ∧ Ex X d mX7_newOne 49 [.ref x0, .int x1, .int x2, .int x3] [] (T, va_up I s2 (va_up (I s2) s1.toNatClampNeg s0), J, R) Q)) ∧
  (∀ (X : tX) (d : Nat) (x0 : Nat) (x1 : Int32) (x2 : Int32) (x3 : Int32) (σ : rS) (Q : tQ), Ex X d mX7_newOne 49 [.ref x0, .int x1, .int x2, .int x3] [] σ Q = Ex X d mX7_newOne 50 [.ref x0, .int x1, .int x2, .int x3] [.ref x0] σ Q) ∧
  (∀ (X : tX) (d : Nat) (x0 : Nat) (x1 : Int32) (x2 : Int32) (x3 : Int32) (s0 : Nat) (σ : rS) (Q : tQ), Ex X d mX7_newOne 50 [.ref x0, .int x1, .int x2, .int x3] [.ref s0] σ Q = Ex X d mX7_newOne 51 [.ref x0, .int x1, .int x2, .int x3] [.ref s0, .ref s0] σ Q) ∧
  (∀ (X : tX) (d : Nat) (x0 : Nat) (x1 : Int32) (x2 : Int32) (x3 : Int32) (s0 : Nat) (s1 : Nat) (T : tT) (I : tI) (J : tJ) (R : tR) (Q : tQ), Ex X d mX7_newOne 51 [.ref x0, .int x1, .int x2, .int x3] [.ref s0, .ref s1] (T, I, J, R) Q = (T[s0]? = some (3, 7) ∧ Ex X d mX7_newOne 54 [.ref x0, .int x1, .int x2, .int x3] [.int (I s0 0), .ref s1] (T, I, J, R) Q)) ∧
  (∀ (X : tX) (d : Nat) (x0 : Nat) (x1 : Int32) (x2 : Int32) (x3 : Int32) (s0 : Int32) (s1 : Nat) (σ : rS) (Q : tQ), Ex X d mX7_newOne 54 [.ref x0, .int x1, .int x2, .int x3] [.int s0, .ref s1] σ Q = Ex X d mX7_newOne 55 [.ref x0, .int x1, .int x2, .int x3] [.int s0, .ref s1, .int s0] σ Q) ∧
  (∀ (X : tX) (d : Nat) (x0 : Nat) (x1 : Int32) (x2 : Int32) (x3 : Int32) (s0 : Int32) (s1 : Nat) (s2 : Int32) (σ : rS) (Q : tQ), Ex X d mX7_newOne 55 [.ref x0, .int x1, .int x2, .int x3] [.int s0, .ref s1, .int s2] σ Q = Ex X d mX7_newOne 56 [.ref x0, .int x1, .int x2, .int x3] [.int 1, .int s0, .ref s1, .int s2] σ Q) ∧
  (∀ (X : tX) (d : Nat) (x0 : Nat) (x1 : Int32) (x2 : Int32) (x3 : Int32) (s0 : Int32) (s1 : Int32) (s2 : Nat) (s3 : Int32) (σ : rS) (Q : tQ), Ex X d mX7_newOne 56 [.ref x0, .int x1, .int x2, .int x3] [.int s0, .int s1, .ref s2, .int s3] σ Q = Ex X d mX7_newOne 57 [.ref x0, .int x1, .int x2, .int x3] [.int (s1 + s0), .ref s2, .int s3] σ Q) ∧
  (∀ (X : tX) (d : Nat) (x0 : Nat) (x1 : Int32) (x2 : Int32) (x3 : Int32) (s0 : Int32) (s1 : Nat) (s2 : Int32) (T : tT) (I : tI) (J : tJ) (R : tR) (Q : tQ), Ex X d mX7_newOne 57 [.ref x0, .int x1, .int x2, .int x3] [.int s0, .ref s1, .int s2] (T, I, J, R) Q = (T[s1]? = some (3, 7) ∧ Ex X d mX7_newOne 60 [.ref x0, .int x1, .int x2, .int x3] [.int s2] (T, va_up I s1 (va_up (I s1) 0 s0), J, R) Q)) ∧
  (∀ (X : tX) (d : Nat) (x0 : Nat) (x1 : Int32) (x2 : Int32) (x3 : Int32) (s0 : Int32) (σ : rS) (Q : tQ), Ex X d mX7_newOne 60 [.ref x0, .int x1, .int x2, .int x3] [.int s0] σ Q = Q (some (.int s0)) σ) := ⟨fun X d x0 x1 x2 x3 σ Q => ex_P (i := .aload_n 0) (len := 1) (by decide +kernel) rfl,
  fun X d x0 x1 x2 x3 s0 T I J R Q => q_getR (k := 9) (by decide +kernel) rfl rfl,
  fun X d x0 x1 x2 x3 s0 σ Q => ex_P (i := .aload_n 0) (len := 1) (by decide +kernel) rfl,
  fun X d x0 x1 x2 x3 s0 s1 T I J R Q => q_getI (k := 97) (by decide +kernel) rfl rfl (by decide),
  fun X d x0 x1 x2 x3 s0 s1 σ Q => ex_P (i := .iload_n 1) (len := 1) (by decide +kernel) rfl,
  fun X d x0 x1 x2 x3 s0 s1 s2 T I J R Q => q_iast (by decide +kernel),
  fun X d x0 x1 x2 x3 σ Q => ex_P (i := .aload_n 0) (len := 1) (by decide +kernel) rfl,
  fun X d x0 x1 x2 x3 s0 T I J R Q => q_getR (k := 9) (by decide +kernel) rfl rfl,
  fun X d x0 x1 x2 x3 s0 σ Q => ex_P (i := .bipush 8) (len := 2) (by decide +kernel) rfl,
  fun X d x0 x1 x2 x3 s0 s1 σ Q => ex_P (i := .aload_n 0) (len := 1) (by decide +kernel) rfl,
  fun X d x0 x1 x2 x3 s0 s1 s2 T I J R Q => q_getI (k := 97) (by decide +kernel) rfl rfl (by decide),
  fun X d x0 x1 x2 x3 s0 s1 s2 σ Q => ex_P (i := .iadd) (len := 1) (by decide +kernel) rfl,
  fun X d x0 x1 x2 x3 s0 s1 σ Q => ex_P (i := .iload_n 2) (len := 1) (by decide +kernel) rfl,
  fun X d x0 x1 x2 x3 s0 s1 s2 T I J R Q => q_iast (by decide +kernel),
  fun X d x0 x1 x2 x3 σ Q => ex_P (i := .aload_n 0) (len := 1) (by decide +kernel) rfl,
  fun X d x0 x1 x2 x3 s0 T I J R Q => q_getR (k := 9) (by decide +kernel) rfl rfl,
  fun X d x0 x1 x2 x3 s0 σ Q => ex_P (i := .bipush 16) (len := 2) (by decide +kernel) rfl,
  fun X d x0 x1 x2 x3 s0 s1 σ Q => ex_P (i := .aload_n 0) (len := 1) (by decide +kernel) rfl,
  fun X d x0 x1 x2 x3 s0 s1 s2 T I J R Q => q_getI (k := 97) (by decide +kernel) rfl rfl (by decide),
  fun X d x0 x1 x2 x3 s0 s1 s2 σ Q => ex_P (i := .iadd) (len := 1) (by decide +kernel) rfl,
  fun X d x0 x1 x2 x3 s0 s1 σ Q => ex_P (i := .iconst 0) (len := 1) (by decide +kernel) rfl,
  fun X d x0 x1 x2 x3 s0 s1 s2 T I J R Q => q_iast (by decide +kernel),
  fun X d x0 x1 x2 x3 σ Q => ex_P (i := .aload_n 0) (len := 1) (by decide +kernel) rfl,
  fun X d x0 x1 x2 x3 s0 T I J R Q => q_getR (k := 9) (by decide +kernel) rfl rfl,
  fun X d x0 x1 x2 x3 s0 σ Q => ex_P (i := .bipush 24) (len := 2) (by decide +kernel) rfl,
  fun X d x0 x1 x2 x3 s0 s1 σ Q => ex_P (i := .aload_n 0) (len := 1) (by decide +kernel) rfl,
  fun X d x0 x1 x2 x3 s0 s1 s2 T I J R Q => q_getI (k := 97) (by decide +kernel) rfl rfl (by decide),
  fun X d x0 x1 x2 x3 s0 s1 s2 σ Q => ex_P (i := .iadd) (len := 1) (by decide +kernel) rfl,
  fun X d x0 x1 x2 x3 s0 s1 σ Q => ex_P (i := .iload_n 3) (len := 1) (by decide +kernel) rfl,
  fun X d x0 x1 x2 x3 s0 s1 s2 T I J R Q => q_iast (by decide +kernel),
  fun X d x0 x1 x2 x3 σ Q => ex_P (i := .aload_n 0) (len := 1) (by decide +kernel) rfl,
  fun X d x0 x1 x2 x3 s0 σ Q => ex_P (i := .dup) (len := 1) (by decide +kernel) rfl,
  fun X d x0 x1 x2 x3 s0 s1 T I J R Q => q_getI (k := 97) (by decide +kernel) rfl rfl (by decide),
  fun X d x0 x1 x2 x3 s0 s1 σ Q => ex_P (i := .dup_x1) (len := 1) (by decide +kernel) rfl,
  fun X d x0 x1 x2 x3 s0 s1 s2 σ Q => ex_P (i := .iconst 1) (len := 1) (by decide +kernel) rfl,
  fun X d x0 x1 x2 x3 s0 s1 s2 s3 σ Q => ex_P (i := .iadd) (len := 1) (by decide +kernel) rfl,
  fun X d x0 x1 x2 x3 s0 s1 s2 T I J R Q => q_putI (k := 97) (by decide +kernel) rfl rfl (by decide +kernel),
  fun X d x0 x1 x2 x3 s0 σ Q => q_retI (by decide +kernel) rfl⟩
set_option maxRecDepth 50000 in
theorem gX7_reach_0 : (∀ (X : tX) (d : Nat) (x0 : Nat) (x1 : Int32) (σ : rS) (Q : tQ), Ex X d mX7_reach 0 [.ref x0, .int x1] [] σ Q = Ex X d mX7_reach 1 [.ref x0, .int x1] [.int x1] σ Q) ∧
  (∀ (X : tX) (d : Nat) (x0 : Nat) (x1 : Int32) (s0 : Int32) (σ : rS) (Q : tQ), Ex X d mX7_reach 1 [.ref x0, .int x1] [.int s0] σ Q = Ex X d mX7_reach 2 [.ref x0, .int x1] [.int 1, .int s0] σ Q) ∧
  (∀ (X : tX) (d : Nat) (x0 : Nat) (x1 : Int32) (s0 : Int32) (s1 : Int32) (σ : rS) (Q : tQ), Ex X d mX7_reach 2 [.ref x0, .int x1] [.int s0, .int s1] σ Q = Ex X d mX7_reach 4 [.ref x0, .int x1] [.int 99, .int s0, .int s1] σ Q) ∧
  (∀ (X : tX) (d : Nat) (x0 : Nat) (x1 : Int32) (s0 : Int32) (s1 : Int32) (s2 : Int32) (σ : rS) (Q : tQ), Ex X (d + 1) mX7_reach 4 [.ref x0, .int x1] [.int s0, .int s1, .int s2] σ Q = Ex X d mX7_within 0 [.int s2, .int s1, .int s0] [] σ (fun v σ1 => Ex X (d + 1) mX7_reach 7 [.ref x0, .int x1] (v.toList ++ []) σ1 Q)) := ⟨fun X d x0 x1 σ Q => ex_P (i := .iload_n 1) (len := 1) (by decide +kernel) rfl,
  fun X d x0 x1 s0 σ Q => ex_P (i := .iconst 1) (len := 1) (by decide +kernel) rfl,
  fun X d x0 x1 s0 s1 σ Q => ex_P (i := .bipush 99) (len := 2) (by decide +kernel) rfl,
  fun X d x0 x1 s0 s1 s2 σ Q => q_callS (k := 101) (as := [.int s2, .int s1, .int s0]) (st := []) (show rlk mX7_reach.2.2.2.2.2.2 4 = some (.invokestatic 101, 3) from by decide +kernel) rfl (Or.inl rfl) rfl rfl rfl rfl rfl (Nat.le_of_ble_eq_true rfl) (Nat.le_of_ble_eq_true rfl) rfl⟩
set_option maxRecDepth 50000 in
theorem gX7_reach_7 : (∀ (X : tX) (d : Nat) (x0 : Nat) (x1 : Int32) (s0 : Int32) (σ : rS) (Q : tQ), Ex X d mX7_reach 7 [.ref x0, .int x1] [.int s0] σ Q = (if s0 = 0 then Ex X d mX7_reach 10 [.ref x0, .int x1] [] σ Q else Ex X d mX7_reach 12 [.ref x0, .int x1] [] σ Q)) := fun X d x0 x1 s0 σ Q => q_if_ne (o := 5) (by decide +kernel) rfl
set_option maxRecDepth 50000 in
theorem gX7_reach_10 : (∀ (X : tX) (d : Nat) (x0 : Nat) (x1 : Int32) (σ : rS) (Q : tQ), Ex X d mX7_reach 10 [.ref x0, .int x1] [] σ Q = Ex X d mX7_reach 11 [.ref x0, .int x1] [.int (-1)] σ Q) ∧
  (∀ (X : tX) (d : Nat) (x0 : Nat) (x1 : Int32) (s0 : Int32) (σ : rS) (Q : tQ), Ex X d mX7_reach 11 [.ref x0, .int x1] [.int s0] σ Q = Q (some (.int s0)) σ) := ⟨fun X d x0 x1 σ Q => ex_P (i := .iconst (-1)) (len := 1) (by decide +kernel) rfl,
  fun X d x0 x1 s0 σ Q => q_retI (by decide +kernel) rfl⟩
set_option maxRecDepth 50000 in
theorem gX7_reach_12 : (∀ (X : tX) (d : Nat) (x0 : Nat) (x1 : Int32) (σ : rS) (Q : tQ), Ex X d mX7_reach 12 [.ref x0, .int x1] [] σ Q = Ex X d mX7_reach 13 [.ref x0, .int x1] [.ref x0] σ Q) ∧
  (∀ (X : tX) (d : Nat) (x0 : Nat) (x1 : Int32) (s0 : Nat) (T : tT) (I : tI) (J : tJ) (R : tR) (Q : tQ), Ex X d mX7_reach 13 [.ref x0, .int x1] [.ref s0] (T, I, J, R) Q = (T[s0]? = some (3, 7) ∧ Ex X d mX7_reach 16 [.ref x0, .int x1] [.int (I s0 0)] (T, I, J, R) Q)) ∧
  (∀ (X : tX) (d : Nat) (x0 : Nat) (x1 : Int32) (s0 : Int32) (σ : rS) (Q : tQ), Ex X d mX7_reach 16 [.ref x0, .int x1] [.int s0] σ Q = Ex X d mX7_reach 18 [.ref x0, .int x1] [.int 8, .int s0] σ Q) ∧
  (∀ (X : tX) (d : Nat) (x0 : Nat) (x1 : Int32) (s0 : Int32) (s1 : Int32) (σ : rS) (Q : tQ), Ex X d mX7_reach 18 [.ref x0, .int x1] [.int s0, .int s1] σ Q = (if s1 = s0 then Ex X d mX7_reach 21 [.ref x0, .int x1] [] σ Q else Ex X d mX7_reach 26 [.ref x0, .int x1] [] σ Q)) := ⟨fun X d x0 x1 σ Q => ex_P (i := .aload_n 0) (len := 1) (by decide +kernel) rfl,
  fun X d x0 x1 s0 T I J R Q => q_getI (k := 97) (by decide +kernel) rfl rfl (by decide),
  fun X d x0 x1 s0 σ Q => ex_P (i := .bipush 8) (len := 2) (by decide +kernel) rfl,
  fun X d x0 x1 s0 s1 σ Q => q_icmp_ne (o := 8) (by decide +kernel) rfl⟩
set_option maxRecDepth 50000 in
theorem gX7_reach_21 : (∀ (X : tX) (d : Nat) (x0 : Nat) (x1 : Int32) (σ : rS) (Q : tQ), Ex X d mX7_reach 21 [.ref x0, .int x1] [] σ Q = Ex X d mX7_reach 23 [.ref x0, .int x1] [.int (-3)] σ Q) ∧
  (∀ (X : tX) (d : Nat) (x0 : Nat) (x1 : Int32) (s0 : Int32) (σ : rS) (Q : tQ), Ex X d mX7_reach 23 [.ref x0, .int x1] [.int s0] σ Q = Ex X d mX7_reach 34 [.ref x0, .int x1] [.int s0] σ Q) := ⟨fun X d x0 x1 σ Q => ex_P (i := .bipush (-3)) (len := 2) (by decide +kernel) rfl,
  fun X d x0 x1 s0 σ Q => q_goto (o := 11) (by decide +kernel) rfl⟩
set_option maxRecDepth 50000 in
theorem gX7_reach_26 : (∀ (X : tX) (d : Nat) (x0 : Nat) (x1 : Int32) (σ : rS) (Q : tQ), Ex X d mX7_reach 26 [.ref x0, .int x1] [] σ Q = Ex X d mX7_reach 27 [.ref x0, .int x1] [.ref x0] σ Q) ∧
  (∀ (X : tX) (d : Nat) (x0 : Nat) (x1 : Int32) (s0 : Nat) (σ : rS) (Q : tQ), Ex X d mX7_reach 27 [.ref x0, .int x1] [.ref s0] σ Q = Ex X d mX7_reach 29 [.ref x0, .int x1] [.int 30, .ref s0] σ Q) ∧
  (∀ (X : tX) (d : Nat) (x0 : Nat) (x1 : Int32) (s0 : Int32) (s1 : Nat) (σ : rS) (Q : tQ), Ex X d mX7_reach 29 [.ref x0, .int x1] [.int s0, .ref s1] σ Q = Ex X d mX7_reach 30 [.ref x0, .int x1] [.int x1, .int s0, .ref s1] σ Q) ∧
  (∀ (X : tX) (d : Nat) (x0 : Nat) (x1 : Int32) (s0 : Int32) (s1 : Int32) (s2 : Nat) (σ : rS) (Q : tQ), Ex X d mX7_reach 30 [.ref x0, .int x1] [.int s0, .int s1, .ref s2] σ Q = Ex X d mX7_reach 31 [.ref x0, .int x1] [.int 0, .int s0, .int s1, .ref s2] σ Q) ∧
  (∀ (X : tX) (d : Nat) (x0 : Nat) (x1 : Int32) (s0 : Int32) (s1 : Int32) (s2 : Int32) (s3 : Nat) (T : tT) (I : tI) (J : tJ) (R : tR) (Q : tQ), Ex X (d + 1) mX7_reach 31 [.ref x0, .int x1] [.int s0, .int s1, .int s2, .ref s3] (T, I, J, R) Q = (T[s3]? = some (3, 7) ∧ Ex X d mX7_newOne 0 [.ref s3, .int s2, .int s1, .int s0] [] (T, I, J, R) (fun v σ1 => Ex X (d + 1) mX7_reach 34 [.ref x0, .int x1] (v.toList ++ []) σ1 Q))) := ⟨fun X d x0 x1 σ Q => ex_P (i := .aload_n 0) (len := 1) (by decide +kernel) rfl,
  fun X d x0 x1 s0 σ Q => ex_P (i := .bipush 30) (len := 2) (by decide +kernel) rfl,
  fun X d x0 x1 s0 s1 σ Q => ex_P (i := .iload_n 1) (len := 1) (by decide +kernel) rfl,
  fun X d x0 x1 s0 s1 s2 σ Q => ex_P (i := .iconst 0) (len := 1) (by decide +kernel) rfl,
  fun X d x0 x1 s0 s1 s2 s3 T I J R Q => q_callV (k := 105) (as := [.int s2, .int s1, .int s0]) (st := []) (show rlk mX7_reach.2.2.2.2.2.2 31 = some (.invokevirtual 105, 3) from by decide +kernel) rfl rfl rfl (Nat.le_of_ble_eq_true rfl) (Nat.le_of_ble_eq_true rfl) rfl⟩
set_option maxRecDepth 50000 in
theorem gX7_reach_34 : (∀ (X : tX) (d : Nat) (x0 : Nat) (x1 : Int32) (s0 : Int32) (σ : rS) (Q : tQ), Ex X d mX7_reach 34 [.ref x0, .int x1] [.int s0] σ Q = Q (some (.int s0)) σ) := fun X d x0 x1 s0 σ Q => q_retI (by decide +kernel) rfl
set_option maxRecDepth 50000 in
theorem gX7_reaches_0 : (∀ (X : tX) (d : Nat) (x0 : Nat) (x1 : Int32) (x2 : Int32) (x3 : Int32) (σ : rS) (Q : tQ), Ex X d mX7_reaches 0 [.ref x0, .int x1, .int x2, .int x3, rU, rU, rU, rU, rU] [] σ Q = Ex X d mX7_reaches 1 [.ref x0, .int x1, .int x2, .int x3, rU, rU, rU, rU, rU] [.int x1] σ Q) ∧
  (∀ (X : tX) (d : Nat) (x0 : Nat) (x1 : Int32) (x2 : Int32) (x3 : Int32) (s0 : Int32) (σ : rS) (Q : tQ), Ex X (d + 1) mX7_reaches 1 [.ref x0, .int x1, .int x2, .int x3, rU, rU, rU, rU, rU] [.int s0] σ Q = Ex X d mX7_isShelf 0 [.int s0] [] σ (fun v σ1 => Ex X (d + 1) mX7_reaches 4 [.ref x0, .int x1, .int x2, .int x3, rU, rU, rU, rU, rU] (v.toList ++ []) σ1 Q)) := ⟨fun X d x0 x1 x2 x3 σ Q => ex_P (i := .iload_n 1) (len := 1) (by decide +kernel) rfl,
  fun X d x0 x1 x2 x3 s0 σ Q => q_callS (k := 109) (as := [.int s0]) (st := []) (show rlk mX7_reaches.2.2.2.2.2.2 1 = some (.invokestatic 109, 3) from by decide +kernel) rfl (Or.inl rfl) rfl rfl rfl rfl rfl (Nat.le_of_ble_eq_true rfl) (Nat.le_of_ble_eq_true rfl) rfl⟩
set_option maxRecDepth 50000 in
theorem gX7_reaches_4 : (∀ (X : tX) (d : Nat) (x0 : Nat) (x1 : Int32) (x2 : Int32) (x3 : Int32) (s0 : Int32) (σ : rS) (Q : tQ), Ex X d mX7_reaches 4 [.ref x0, .int x1, .int x2, .int x3, rU, rU, rU, rU, rU] [.int s0] σ Q = (if s0 = 0 then Ex X d mX7_reaches 17 [.ref x0, .int x1, .int x2, .int x3, rU, rU, rU, rU, rU] [] σ Q else Ex X d mX7_reaches 7 [.ref x0, .int x1, .int x2, .int x3, rU, rU, rU, rU, rU] [] σ Q)) := fun X d x0 x1 x2 x3 s0 σ Q => q_if_eq (o := 13) (by decide +kernel) rfl
set_option maxRecDepth 50000 in
theorem gX7_reaches_7 : (∀ (X : tX) (d : Nat) (x0 : Nat) (x1 : Int32) (x2 : Int32) (x3 : Int32) (σ : rS) (Q : tQ), Ex X d mX7_reaches 7 [.ref x0, .int x1, .int x2, .int x3, rU, rU, rU, rU, rU] [] σ Q = Ex X d mX7_reaches 8 [.ref x0, .int x1, .int x2, .int x3, rU, rU, rU, rU, rU] [.int x3] σ Q) ∧
  (∀ (X : tX) (d : Nat) (x0 : Nat) (x1 : Int32) (x2 : Int32) (x3 : Int32) (s0 : Int32) (σ : rS) (Q : tQ), Ex X d mX7_reaches 8 [.ref x0, .int x1, .int x2, .int x3, rU, rU, rU, rU, rU] [.int s0] σ Q = Ex X d mX7_reaches 9 [.ref x0, .int x1, .int x2, .int x3, rU, rU, rU, rU, rU] [.int 1, .int s0] σ Q) ∧
  (∀ (X : tX) (d : Nat) (x0 : Nat) (x1 : Int32) (x2 : Int32) (x3 : Int32) (s0 : Int32) (s1 : Int32) (σ : rS) (Q : tQ), Ex X d mX7_reaches 9 [.ref x0, .int x1, .int x2, .int x3, rU, rU, rU, rU, rU] [.int s0, .int s1] σ Q = Ex X d mX7_reaches 11 [.ref x0, .int x1, .int x2, .int x3, rU, rU, rU, rU, rU] [.int 8, .int s0, .int s1] σ Q) ∧
  (∀ (X : tX) (d : Nat) (x0 : Nat) (x1 : Int32) (x2 : Int32) (x3 : Int32) (s0 : Int32) (s1 : Int32) (s2 : Int32) (σ : rS) (Q : tQ), Ex X (d + 1) mX7_reaches 11 [.ref x0, .int x1, .int x2, .int x3, rU, rU, rU, rU, rU] [.int s0, .int s1, .int s2] σ Q = Ex X d mX7_within 0 [.int s2, .int s1, .int s0] [] σ (fun v σ1 => Ex X (d + 1) mX7_reaches 14 [.ref x0, .int x1, .int x2, .int x3, rU, rU, rU, rU, rU] (v.toList ++ []) σ1 Q)) := ⟨fun X d x0 x1 x2 x3 σ Q => ex_P (i := .iload_n 3) (len := 1) (by decide +kernel) rfl,
  fun X d x0 x1 x2 x3 s0 σ Q => ex_P (i := .iconst 1) (len := 1) (by decide +kernel) rfl,
  fun X d x0 x1 x2 x3 s0 s1 σ Q => ex_P (i := .bipush 8) (len := 2) (by decide +kernel) rfl,
  fun X d x0 x1 x2 x3 s0 s1 s2 σ Q => q_callS (k := 101) (as := [.int s2, .int s1, .int s0]) (st := []) (show rlk mX7_reaches.2.2.2.2.2.2 11 = some (.invokestatic 101, 3) from by decide +kernel) rfl (Or.inl rfl) rfl rfl rfl rfl rfl (Nat.le_of_ble_eq_true rfl) (Nat.le_of_ble_eq_true rfl) rfl⟩
set_option maxRecDepth 50000 in
theorem gX7_reaches_14 : (∀ (X : tX) (d : Nat) (x0 : Nat) (x1 : Int32) (x2 : Int32) (x3 : Int32) (s0 : Int32) (σ : rS) (Q : tQ), Ex X d mX7_reaches 14 [.ref x0, .int x1, .int x2, .int x3, rU, rU, rU, rU, rU] [.int s0] σ Q = (if s0 = 0 then Ex X d mX7_reaches 17 [.ref x0, .int x1, .int x2, .int x3, rU, rU, rU, rU, rU] [] σ Q else Ex X d mX7_reaches 19 [.ref x0, .int x1, .int x2, .int x3, rU, rU, rU, rU, rU] [] σ Q)) := fun X d x0 x1 x2 x3 s0 σ Q => q_if_ne (o := 5) (by decide +kernel) rfl
set_option maxRecDepth 50000 in
theorem gX7_reaches_17 : (∀ (X : tX) (d : Nat) (x0 : Nat) (x1 : Int32) (x2 : Int32) (x3 : Int32) (σ : rS) (Q : tQ), Ex X d mX7_reaches 17 [.ref x0, .int x1, .int x2, .int x3, rU, rU, rU, rU, rU] [] σ Q = Ex X d mX7_reaches 18 [.ref x0, .int x1, .int x2, .int x3, rU, rU, rU, rU, rU] [.int (-1)] σ Q) ∧
  (∀ (X : tX) (d : Nat) (x0 : Nat) (x1 : Int32) (x2 : Int32) (x3 : Int32) (s0 : Int32) (σ : rS) (Q : tQ), Ex X d mX7_reaches 18 [.ref x0, .int x1, .int x2, .int x3, rU, rU, rU, rU, rU] [.int s0] σ Q = Q (some (.int s0)) σ) := ⟨fun X d x0 x1 x2 x3 σ Q => ex_P (i := .iconst (-1)) (len := 1) (by decide +kernel) rfl,
  fun X d x0 x1 x2 x3 s0 σ Q => q_retI (by decide +kernel) rfl⟩
set_option maxRecDepth 50000 in
theorem gX7_reaches_19 : (∀ (X : tX) (d : Nat) (x0 : Nat) (x1 : Int32) (x2 : Int32) (x3 : Int32) (σ : rS) (Q : tQ), Ex X d mX7_reaches 19 [.ref x0, .int x1, .int x2, .int x3, rU, rU, rU, rU, rU] [] σ Q = Ex X d mX7_reaches 20 [.ref x0, .int x1, .int x2, .int x3, rU, rU, rU, rU, rU] [.ref x0] σ Q) ∧
  (∀ (X : tX) (d : Nat) (x0 : Nat) (x1 : Int32) (x2 : Int32) (x3 : Int32) (s0 : Nat) (T : tT) (I : tI) (J : tJ) (R : tR) (Q : tQ), Ex X d mX7_reaches 20 [.ref x0, .int x1, .int x2, .int x3, rU, rU, rU, rU, rU] [.ref s0] (T, I, J, R) Q = (T[s0]? = some (3, 7) ∧ Ex X d mX7_reaches 23 [.ref x0, .int x1, .int x2, .int x3, rU, rU, rU, rU, rU] [va_rf (R s0 34)] (T, I, J, R) Q)) ∧
  (∀ (X : tX) (d : Nat) (x0 : Nat) (x1 : Int32) (x2 : Int32) (x3 : Int32) (s0 : Nat) (σ : rS) (Q : tQ), Ex X d mX7_reaches 23 [.ref x0, .int x1, .int x2, .int x3, rU, rU, rU, rU, rU] [.ref s0] σ Q = Ex X d mX7_reaches 24 [.ref x0, .int x1, .int x2, .int x3, rU, rU, rU, rU, rU] [.int x1, .ref s0] σ Q) ∧
  (∀ (X : tX) (d : Nat) (x0 : Nat) (x1 : Int32) (x2 : Int32) (x3 : Int32) (s0 : Int32) (s1 : Nat) (T : tT) (I : tI) (J : tJ) (R : tR) (Q : tQ), Ex X d mX7_reaches 24 [.ref x0, .int x1, .int x2, .int x3, rU, rU, rU, rU, rU] [.int s0, .ref s1] (T, I, J, R) Q = (rIn T s1 0 s0 ∧ Ex X d mX7_reaches 25 [.ref x0, .int x1, .int x2, .int x3, rU, rU, rU, rU, rU] [.int (I s1 s0.toNatClampNeg)] (T, I, J, R) Q)) ∧
  (∀ (X : tX) (d : Nat) (x0 : Nat) (x1 : Int32) (x2 : Int32) (x3 : Int32) (s0 : Int32) (σ : rS) (Q : tQ), Ex X d mX7_reaches 25 [.ref x0, .int x1, .int x2, .int x3, rU, rU, rU, rU, rU] [.int s0] σ Q = Ex X d mX7_reaches 26 [.ref x0, .int x1, .int x2, .int x3, rU, rU, rU, rU, rU] [.int (-1), .int s0] σ Q) ∧
  (∀ (X : tX) (d : Nat) (x0 : Nat) (x1 : Int32) (x2 : Int32) (x3 : Int32) (s0 : Int32) (s1 : Int32) (σ : rS) (Q : tQ), Ex X d mX7_reaches 26 [.ref x0, .int x1, .int x2, .int x3, rU, rU, rU, rU, rU] [.int s0, .int s1] σ Q = (if s1 = s0 then Ex X d mX7_reaches 29 [.ref x0, .int x1, .int x2, .int x3, rU, rU, rU, rU, rU] [] σ Q else Ex X d mX7_reaches 31 [.ref x0, .int x1, .int x2, .int x3, rU, rU, rU, rU, rU] [] σ Q)) := ⟨fun X d x0 x1 x2 x3 σ Q => ex_P (i := .aload_n 0) (len := 1) (by decide +kernel) rfl,
  fun X d x0 x1 x2 x3 s0 T I J R Q => q_getR (k := 72) (by decide +kernel) rfl rfl,
  fun X d x0 x1 x2 x3 s0 σ Q => ex_P (i := .iload_n 1) (len := 1) (by decide +kernel) rfl,
  fun X d x0 x1 x2 x3 s0 s1 T I J R Q => q_iald (by decide +kernel),
  fun X d x0 x1 x2 x3 s0 σ Q => ex_P (i := .iconst (-1)) (len := 1) (by decide +kernel) rfl,
  fun X d x0 x1 x2 x3 s0 s1 σ Q => q_icmp_ne (o := 5) (by decide +kernel) rfl⟩
set_option maxRecDepth 50000 in
theorem gX7_reaches_29 : (∀ (X : tX) (d : Nat) (x0 : Nat) (x1 : Int32) (x2 : Int32) (x3 : Int32) (σ : rS) (Q : tQ), Ex X d mX7_reaches 29 [.ref x0, .int x1, .int x2, .int x3, rU, rU, rU, rU, rU] [] σ Q = Ex X d mX7_reaches 30 [.ref x0, .int x1, .int x2, .int x3, rU, rU, rU, rU, rU] [.int 0] σ Q) ∧
  (∀ (X : tX) (d : Nat) (x0 : Nat) (x1 : Int32) (x2 : Int32) (x3 : Int32) (s0 : Int32) (σ : rS) (Q : tQ), Ex X d mX7_reaches 30 [.ref x0, .int x1, .int x2, .int x3, rU, rU, rU, rU, rU] [.int s0] σ Q = Q (some (.int s0)) σ) := ⟨fun X d x0 x1 x2 x3 σ Q => ex_P (i := .iconst 0) (len := 1) (by decide +kernel) rfl,
  fun X d x0 x1 x2 x3 s0 σ Q => q_retI (by decide +kernel) rfl⟩
set_option maxRecDepth 50000 in
theorem gX7_reaches_31 : (∀ (X : tX) (d : Nat) (x0 : Nat) (x1 : Int32) (x2 : Int32) (x3 : Int32) (σ : rS) (Q : tQ), Ex X d mX7_reaches 31 [.ref x0, .int x1, .int x2, .int x3, rU, rU, rU, rU, rU] [] σ Q = Ex X d mX7_reaches 32 [.ref x0, .int x1, .int x2, .int x3, rU, rU, rU, rU, rU] [.ref x0] σ Q) ∧
  (∀ (X : tX) (d : Nat) (x0 : Nat) (x1 : Int32) (x2 : Int32) (x3 : Int32) (s0 : Nat) (T : tT) (I : tI) (J : tJ) (R : tR) (Q : tQ), Ex X d mX7_reaches 32 [.ref x0, .int x1, .int x2, .int x3, rU, rU, rU, rU, rU] [.ref s0] (T, I, J, R) Q = (T[s0]? = some (3, 7) ∧ Ex X d mX7_reaches 35 [.ref x0, .int x1, .int x2, .int x3, rU, rU, rU, rU, rU] [va_rf (R s0 34)] (T, I, J, R) Q)) ∧
  (∀ (X : tX) (d : Nat) (x0 : Nat) (x1 : Int32) (x2 : Int32) (x3 : Int32) (s0 : Nat) (σ : rS) (Q : tQ), Ex X d mX7_reaches 35 [.ref x0, .int x1, .int x2, .int x3, rU, rU, rU, rU, rU] [.ref s0] σ Q = Ex X d mX7_reaches 36 [.ref x0, .int x1, .int x2, .int x3, rU, rU, rU, rU, rU] [.int x1, .ref s0] σ Q) ∧
  (∀ (X : tX) (d : Nat) (x0 : Nat) (x1 : Int32) (x2 : Int32) (x3 : Int32) (s0 : Int32) (s1 : Nat) (T : tT) (I : tI) (J : tJ) (R : tR) (Q : tQ), Ex X d mX7_reaches 36 [.ref x0, .int x1, .int x2, .int x3, rU, rU, rU, rU, rU] [.int s0, .ref s1] (T, I, J, R) Q = (rIn T s1 0 s0 ∧ Ex X d mX7_reaches 37 [.ref x0, .int x1, .int x2, .int x3, rU, rU, rU, rU, rU] [.int (I s1 s0.toNatClampNeg)] (T, I, J, R) Q)) ∧
  (∀ (X : tX) (d : Nat) (x0 : Nat) (x1 : Int32) (x2 : Int32) (x3 : Int32) (s0 : Int32) (σ : rS) (Q : tQ), Ex X d mX7_reaches 37 [.ref x0, .int x1, .int x2, .int x3, rU, rU, rU, rU, rU] [.int s0] σ Q = (if s0 = 0 then Ex X d mX7_reaches 43 [.ref x0, .int x1, .int x2, .int x3, rU, rU, rU, rU, rU] [] σ Q else Ex X d mX7_reaches 40 [.ref x0, .int x1, .int x2, .int x3, rU, rU, rU, rU, rU] [] σ Q)) := ⟨fun X d x0 x1 x2 x3 σ Q => ex_P (i := .aload_n 0) (len := 1) (by decide +kernel) rfl,
  fun X d x0 x1 x2 x3 s0 T I J R Q => q_getR (k := 72) (by decide +kernel) rfl rfl,
  fun X d x0 x1 x2 x3 s0 σ Q => ex_P (i := .iload_n 1) (len := 1) (by decide +kernel) rfl,
  fun X d x0 x1 x2 x3 s0 s1 T I J R Q => q_iald (by decide +kernel),
  fun X d x0 x1 x2 x3 s0 σ Q => q_if_eq (o := 6) (by decide +kernel) rfl⟩
set_option maxRecDepth 50000 in
theorem gX7_reaches_40 : (∀ (X : tX) (d : Nat) (x0 : Nat) (x1 : Int32) (x2 : Int32) (x3 : Int32) (σ : rS) (Q : tQ), Ex X d mX7_reaches 40 [.ref x0, .int x1, .int x2, .int x3, rU, rU, rU, rU, rU] [] σ Q = Ex X d mX7_reaches 42 [.ref x0, .int x1, .int x2, .int x3, rU, rU, rU, rU, rU] [.int (-12)] σ Q) ∧
  (∀ (X : tX) (d : Nat) (x0 : Nat) (x1 : Int32) (x2 : Int32) (x3 : Int32) (s0 : Int32) (σ : rS) (Q : tQ), Ex X d mX7_reaches 42 [.ref x0, .int x1, .int x2, .int x3, rU, rU, rU, rU, rU] [.int s0] σ Q = Q (some (.int s0)) σ) := ⟨fun X d x0 x1 x2 x3 σ Q => ex_P (i := .bipush (-12)) (len := 2) (by decide +kernel) rfl,
  fun X d x0 x1 x2 x3 s0 σ Q => q_retI (by decide +kernel) rfl⟩
set_option maxRecDepth 50000 in
theorem gX7_reaches_43 : (∀ (X : tX) (d : Nat) (x0 : Nat) (x1 : Int32) (x2 : Int32) (x3 : Int32) (σ : rS) (Q : tQ), Ex X d mX7_reaches 43 [.ref x0, .int x1, .int x2, .int x3, rU, rU, rU, rU, rU] [] σ Q = Ex X d mX7_reaches 44 [.ref x0, .int x1, .int x2, .int x3, rU, rU, rU, rU, rU] [.int 0] σ Q) ∧
  (∀ (X : tX) (d : Nat) (x0 : Nat) (x1 : Int32) (x2 : Int32) (x3 : Int32) (s0 : Int32) (σ : rS) (Q : tQ), Ex X d mX7_reaches 44 [.ref x0, .int x1, .int x2, .int x3, rU, rU, rU, rU, rU] [.int s0] σ Q = Ex X d mX7_reaches 46 [.ref x0, .int x1, .int x2, .int x3, .int s0, rU, rU, rU, rU] [] σ Q) ∧
  (∀ (X : tX) (d : Nat) (x0 : Nat) (x1 : Int32) (x2 : Int32) (x3 : Int32) (x4 : Int32) (σ : rS) (Q : tQ), Ex X d mX7_reaches 46 [.ref x0, .int x1, .int x2, .int x3, .int x4, rU, rU, rU, rU] [] σ Q = Ex X d mX7_reaches 47 [.ref x0, .int x1, .int x2, .int x3, .int x4, rU, rU, rU, rU] [.int 0] σ Q) ∧
  (∀ (X : tX) (d : Nat) (x0 : Nat) (x1 : Int32) (x2 : Int32) (x3 : Int32) (x4 : Int32) (s0 : Int32) (σ : rS) (Q : tQ), Ex X d mX7_reaches 47 [.ref x0, .int x1, .int x2, .int x3, .int x4, rU, rU, rU, rU] [.int s0] σ Q = Ex X d mX7_reaches 49 [.ref x0, .int x1, .int x2, .int x3, .int x4, .int s0, rU, rU, rU] [] σ Q) := ⟨fun X d x0 x1 x2 x3 σ Q => ex_P (i := .iconst 0) (len := 1) (by decide +kernel) rfl,
  fun X d x0 x1 x2 x3 s0 σ Q => ex_P (i := .istore 4) (len := 2) (by decide +kernel) rfl,
  fun X d x0 x1 x2 x3 x4 σ Q => ex_P (i := .iconst 0) (len := 1) (by decide +kernel) rfl,
  fun X d x0 x1 x2 x3 x4 s0 σ Q => ex_P (i := .istore 5) (len := 2) (by decide +kernel) rfl⟩
set_option maxRecDepth 50000 in
theorem gX7_reaches_49 : (∀ (X : tX) (d : Nat) (x0 : Nat) (x1 : Int32) (x2 : Int32) (x3 : Int32) (x4 : Int32) (x5 : Int32) (v6 : Value) (v8 : Value) (σ : rS) (Q : tQ), Ex X d mX7_reaches 49 [.ref x0, .int x1, .int x2, .int x3, .int x4, .int x5, v6, rU, v8] [] σ Q = Ex X d mX7_reaches 51 [.ref x0, .int x1, .int x2, .int x3, .int x4, .int x5, v6, rU, v8] [.int x5] σ Q) ∧
  (∀ (X : tX) (d : Nat) (x0 : Nat) (x1 : Int32) (x2 : Int32) (x3 : Int32) (x4 : Int32) (x5 : Int32) (v6 : Value) (v8 : Value) (s0 : Int32) (σ : rS) (Q : tQ), Ex X d mX7_reaches 51 [.ref x0, .int x1, .int x2, .int x3, .int x4, .int x5, v6, rU, v8] [.int s0] σ Q = Ex X d mX7_reaches 52 [.ref x0, .int x1, .int x2, .int x3, .int x4, .int x5, v6, rU, v8] [.int x3, .int s0] σ Q) ∧
  (∀ (X : tX) (d : Nat) (x0 : Nat) (x1 : Int32) (x2 : Int32) (x3 : Int32) (x4 : Int32) (x5 : Int32) (v6 : Value) (v8 : Value) (s0 : Int32) (s1 : Int32) (σ : rS) (Q : tQ), Ex X d mX7_reaches 52 [.ref x0, .int x1, .int x2, .int x3, .int x4, .int x5, v6, rU, v8] [.int s0, .int s1] σ Q = (if s0 ≤ s1 then Ex X d mX7_reaches 202 [.ref x0, .int x1, .int x2, .int x3, .int x4, .int x5, v6, rU, v8] [] σ Q else Ex X d mX7_reaches 55 [.ref x0, .int x1, .int x2, .int x3, .int x4, .int x5, v6, rU, v8] [] σ Q)) := ⟨fun X d x0 x1 x2 x3 x4 x5 v6 v8 σ Q => ex_P (i := .iload 5) (len := 2) (by decide +kernel) rfl,
  fun X d x0 x1 x2 x3 x4 x5 v6 v8 s0 σ Q => ex_P (i := .iload_n 3) (len := 1) (by decide +kernel) rfl,
  fun X d x0 x1 x2 x3 x4 x5 v6 v8 s0 s1 σ Q => q_icmp_ge (o := 150) (by decide +kernel) rfl⟩
set_option maxRecDepth 50000 in
theorem gX7_reaches_55 : (∀ (X : tX) (d : Nat) (x0 : Nat) (x1 : Int32) (x2 : Int32) (x3 : Int32) (x4 : Int32) (x5 : Int32) (v6 : Value) (v8 : Value) (σ : rS) (Q : tQ), Ex X d mX7_reaches 55 [.ref x0, .int x1, .int x2, .int x3, .int x4, .int x5, v6, rU, v8] [] σ Q = Ex X d mX7_reaches 56 [.ref x0, .int x1, .int x2, .int x3, .int x4, .int x5, v6, rU, v8] [.int x2] σ Q) ∧
  (∀ (X : tX) (d : Nat) (x0 : Nat) (x1 : Int32) (x2 : Int32) (x3 : Int32) (x4 : Int32) (x5 : Int32) (v6 : Value) (v8 : Value) (s0 : Int32) (σ : rS) (Q : tQ), Ex X d mX7_reaches 56 [.ref x0, .int x1, .int x2, .int x3, .int x4, .int x5, v6, rU, v8] [.int s0] σ Q = Ex X d mX7_reaches 57 [.ref x0, .int x1, .int x2, .int x3, .int x4, .int x5, v6, rU, v8] [.long s0.toInt64] σ Q) ∧
  (∀ (X : tX) (d : Nat) (x0 : Nat) (x1 : Int32) (x2 : Int32) (x3 : Int32) (x4 : Int32) (x5 : Int32) (v6 : Value) (v8 : Value) (s0 : Int64) (T : tT) (I : tI) (J : tJ) (R : tR) (Q : tQ), Ex X d mX7_reaches 57 [.ref x0, .int x1, .int x2, .int x3, .int x4, .int x5, v6, rU, v8] [.long s0] (T, I, J, R) Q = Ex X d mX7_reaches 60 [.ref x0, .int x1, .int x2, .int x3, .int x4, .int x5, v6, rU, v8] [.long 3, .long s0] (T, I, J, R) Q) ∧
  (∀ (X : tX) (d : Nat) (x0 : Nat) (x1 : Int32) (x2 : Int32) (x3 : Int32) (x4 : Int32) (x5 : Int32) (v6 : Value) (v8 : Value) (s0 : Int64) (s1 : Int64) (σ : rS) (Q : tQ), Ex X d mX7_reaches 60 [.ref x0, .int x1, .int x2, .int x3, .int x4, .int x5, v6, rU, v8] [.long s0, .long s1] σ Q = Ex X d mX7_reaches 62 [.ref x0, .int x1, .int x2, .int x3, .int x4, .int x5, v6, rU, v8] [.int x5, .long s0, .long s1] σ Q) ∧
  (∀ (X : tX) (d : Nat) (x0 : Nat) (x1 : Int32) (x2 : Int32) (x3 : Int32) (x4 : Int32) (x5 : Int32) (v6 : Value) (v8 : Value) (s0 : Int32) (s1 : Int64) (s2 : Int64) (σ : rS) (Q : tQ), Ex X d mX7_reaches 62 [.ref x0, .int x1, .int x2, .int x3, .int x4, .int x5, v6, rU, v8] [.int s0, .long s1, .long s2] σ Q = Ex X d mX7_reaches 63 [.ref x0, .int x1, .int x2, .int x3, .int x4, .int x5, v6, rU, v8] [.long s0.toInt64, .long s1, .long s2] σ Q) ∧
  (∀ (X : tX) (d : Nat) (x0 : Nat) (x1 : Int32) (x2 : Int32) (x3 : Int32) (x4 : Int32) (x5 : Int32) (v6 : Value) (v8 : Value) (s0 : Int64) (s1 : Int64) (s2 : Int64) (σ : rS) (Q : tQ), Ex X d mX7_reaches 63 [.ref x0, .int x1, .int x2, .int x3, .int x4, .int x5, v6, rU, v8] [.long s0, .long s1, .long s2] σ Q = Ex X d mX7_reaches 64 [.ref x0, .int x1, .int x2, .int x3, .int x4, .int x5, v6, rU, v8] [.long (s1 * s0), .long s2] σ Q) ∧
  (∀ (X : tX) (d : Nat) (x0 : Nat) (x1 : Int32) (x2 : Int32) (x3 : Int32) (x4 : Int32) (x5 : Int32) (v6 : Value) (v8 : Value) (s0 : Int64) (s1 : Int64) (σ : rS) (Q : tQ), Ex X d mX7_reaches 64 [.ref x0, .int x1, .int x2, .int x3, .int x4, .int x5, v6, rU, v8] [.long s0, .long s1] σ Q = Ex X d mX7_reaches 65 [.ref x0, .int x1, .int x2, .int x3, .int x4, .int x5, v6, rU, v8] [.long (s1 + s0)] σ Q) ∧
  (∀ (X : tX) (d : Nat) (x0 : Nat) (x1 : Int32) (x2 : Int32) (x3 : Int32) (x4 : Int32) (x5 : Int32) (v6 : Value) (v8 : Value) (s0 : Int64) (σ : rS) (Q : tQ), Ex X d mX7_reaches 65 [.ref x0, .int x1, .int x2, .int x3, .int x4, .int x5, v6, rU, v8] [.long s0] σ Q = Ex X d mX7_reaches 67 [.ref x0, .int x1, .int x2, .int x3, .int x4, .int x5, .long s0, rU, v8] [] σ Q) ∧
  (∀ (X : tX) (d : Nat) (x0 : Nat) (x1 : Int32) (x2 : Int32) (x3 : Int32) (x4 : Int32) (x5 : Int32) (x6 : Int64) (v8 : Value) (σ : rS) (Q : tQ), Ex X d mX7_reaches 67 [.ref x0, .int x1, .int x2, .int x3, .int x4, .int x5, .long x6, rU, v8] [] σ Q = Ex X d mX7_reaches 69 [.ref x0, .int x1, .int x2, .int x3, .int x4, .int x5, .long x6, rU, v8] [.long x6] σ Q) ∧
  (∀ (X : tX) (d : Nat) (x0 : Nat) (x1 : Int32) (x2 : Int32) (x3 : Int32) (x4 : Int32) (x5 : Int32) (x6 : Int64) (v8 : Value) (s0 : Int64) (σ : rS) (Q : tQ), Ex X d mX7_reaches 69 [.ref x0, .int x1, .int x2, .int x3, .int x4, .int x5, .long x6, rU, v8] [.long s0] σ Q = Ex X d mX7_reaches 70 [.ref x0, .int x1, .int x2, .int x3, .int x4, .int x5, .long x6, rU, v8] [.long 0, .long s0] σ Q) ∧
  (∀ (X : tX) (d : Nat) (x0 : Nat) (x1 : Int32) (x2 : Int32) (x3 : Int32) (x4 : Int32) (x5 : Int32) (x6 : Int64) (v8 : Value) (s0 : Int64) (s1 : Int64) (σ : rS) (Q : tQ), Ex X d mX7_reaches 70 [.ref x0, .int x1, .int x2, .int x3, .int x4, .int x5, .long x6, rU, v8] [.long s0, .long s1] σ Q = Ex X d mX7_reaches 71 [.ref x0, .int x1, .int x2, .int x3, .int x4, .int x5, .long x6, rU, v8] [.int (lg_cmp s1 s0)] σ Q) ∧
  (∀ (X : tX) (d : Nat) (x0 : Nat) (x1 : Int32) (x2 : Int32) (x3 : Int32) (x4 : Int32) (x5 : Int32) (x6 : Int64) (v8 : Value) (s0 : Int32) (σ : rS) (Q : tQ), Ex X d mX7_reaches 71 [.ref x0, .int x1, .int x2, .int x3, .int x4, .int x5, .long x6, rU, v8] [.int s0] σ Q = (if s0 < 0 then Ex X d mX7_reaches 100 [.ref x0, .int x1, .int x2, .int x3, .int x4, .int x5, .long x6, rU, v8] [] σ Q else Ex X d mX7_reaches 74 [.ref x0, .int x1, .int x2, .int x3, .int x4, .int x5, .long x6, rU, v8] [] σ Q)) := ⟨fun X d x0 x1 x2 x3 x4 x5 v6 v8 σ Q => ex_P (i := .iload_n 2) (len := 1) (by decide +kernel) rfl,
  fun X d x0 x1 x2 x3 x4 x5 v6 v8 s0 σ Q => ex_P (i := .i2l) (len := 1) (by decide +kernel) rfl,
  fun X d x0 x1 x2 x3 x4 x5 v6 v8 s0 T I J R Q => q_ldc2 (k := 113) (by decide +kernel) rfl,
  fun X d x0 x1 x2 x3 x4 x5 v6 v8 s0 s1 σ Q => ex_P (i := .iload 5) (len := 2) (by decide +kernel) rfl,
  fun X d x0 x1 x2 x3 x4 x5 v6 v8 s0 s1 s2 σ Q => ex_P (i := .i2l) (len := 1) (by decide +kernel) rfl,
  fun X d x0 x1 x2 x3 x4 x5 v6 v8 s0 s1 s2 σ Q => ex_P (i := .lmul) (len := 1) (by decide +kernel) rfl,
  fun X d x0 x1 x2 x3 x4 x5 v6 v8 s0 s1 σ Q => ex_P (i := .ladd) (len := 1) (by decide +kernel) rfl,
  fun X d x0 x1 x2 x3 x4 x5 v6 v8 s0 σ Q => ex_P (i := .lstore 6) (len := 2) (by decide +kernel) rfl,
  fun X d x0 x1 x2 x3 x4 x5 x6 v8 σ Q => ex_P (i := .lload 6) (len := 2) (by decide +kernel) rfl,
  fun X d x0 x1 x2 x3 x4 x5 x6 v8 s0 σ Q => ex_P (i := .lconst 0) (len := 1) (by decide +kernel) rfl,
  fun X d x0 x1 x2 x3 x4 x5 x6 v8 s0 s1 σ Q => ex_P (i := .lcmp) (len := 1) (by decide +kernel) rfl,
  fun X d x0 x1 x2 x3 x4 x5 x6 v8 s0 σ Q => q_if_lt (o := 29) (by decide +kernel) rfl⟩
set_option maxRecDepth 50000 in
theorem gX7_reaches_74 : (∀ (X : tX) (d : Nat) (x0 : Nat) (x1 : Int32) (x2 : Int32) (x3 : Int32) (x4 : Int32) (x5 : Int32) (x6 : Int64) (v8 : Value) (σ : rS) (Q : tQ), Ex X d mX7_reaches 74 [.ref x0, .int x1, .int x2, .int x3, .int x4, .int x5, .long x6, rU, v8] [] σ Q = Ex X d mX7_reaches 76 [.ref x0, .int x1, .int x2, .int x3, .int x4, .int x5, .long x6, rU, v8] [.long x6] σ Q) ∧
  (∀ (X : tX) (d : Nat) (x0 : Nat) (x1 : Int32) (x2 : Int32) (x3 : Int32) (x4 : Int32) (x5 : Int32) (x6 : Int64) (v8 : Value) (s0 : Int64) (T : tT) (I : tI) (J : tJ) (R : tR) (Q : tQ), Ex X d mX7_reaches 76 [.ref x0, .int x1, .int x2, .int x3, .int x4, .int x5, .long x6, rU, v8] [.long s0] (T, I, J, R) Q = Ex X d mX7_reaches 79 [.ref x0, .int x1, .int x2, .int x3, .int x4, .int x5, .long x6, rU, v8] [.long 3, .long s0] (T, I, J, R) Q) ∧
  (∀ (X : tX) (d : Nat) (x0 : Nat) (x1 : Int32) (x2 : Int32) (x3 : Int32) (x4 : Int32) (x5 : Int32) (x6 : Int64) (v8 : Value) (s0 : Int64) (s1 : Int64) (σ : rS) (Q : tQ), Ex X d mX7_reaches 79 [.ref x0, .int x1, .int x2, .int x3, .int x4, .int x5, .long x6, rU, v8] [.long s0, .long s1] σ Q = Ex X d mX7_reaches 80 [.ref x0, .int x1, .int x2, .int x3, .int x4, .int x5, .long x6, rU, v8] [.long (s1 + s0)] σ Q) ∧
  (∀ (X : tX) (d : Nat) (x0 : Nat) (x1 : Int32) (x2 : Int32) (x3 : Int32) (x4 : Int32) (x5 : Int32) (x6 : Int64) (v8 : Value) (s0 : Int64) (σ : rS) (Q : tQ), Ex X d mX7_reaches 80 [.ref x0, .int x1, .int x2, .int x3, .int x4, .int x5, .long x6, rU, v8] [.long s0] σ Q = Ex X d mX7_reaches 81 [.ref x0, .int x1, .int x2, .int x3, .int x4, .int x5, .long x6, rU, v8] [.ref x0, .long s0] σ Q) ∧
  (∀ (X : tX) (d : Nat) (x0 : Nat) (x1 : Int32) (x2 : Int32) (x3 : Int32) (x4 : Int32) (x5 : Int32) (x6 : Int64) (v8 : Value) (s0 : Nat) (s1 : Int64) (T : tT) (I : tI) (J : tJ) (R : tR) (Q : tQ), Ex X d mX7_reaches 81 [.ref x0, .int x1, .int x2, .int x3, .int x4, .int x5, .long x6, rU, v8] [.ref s0, .long s1] (T, I, J, R) Q = (T[s0]? = some (3, 7) ∧ Ex X d mX7_reaches 84 [.ref x0, .int x1, .int x2, .int x3, .int x4, .int x5, .long x6, rU, v8] [va_rf (R s0 35), .long s1] (T, I, J, R) Q)) ∧
  (∀ (X : tX) (d : Nat) (x0 : Nat) (x1 : Int32) (x2 : Int32) (x3 : Int32) (x4 : Int32) (x5 : Int32) (x6 : Int64) (v8 : Value) (s0 : Nat) (s1 : Int64) (σ : rS) (Q : tQ), Ex X d mX7_reaches 84 [.ref x0, .int x1, .int x2, .int x3, .int x4, .int x5, .long x6, rU, v8] [.ref s0, .long s1] σ Q = Ex X d mX7_reaches 85 [.ref x0, .int x1, .int x2, .int x3, .int x4, .int x5, .long x6, rU, v8] [.int x1, .ref s0, .long s1] σ Q) ∧
  (∀ (X : tX) (d : Nat) (x0 : Nat) (x1 : Int32) (x2 : Int32) (x3 : Int32) (x4 : Int32) (x5 : Int32) (x6 : Int64) (v8 : Value) (s0 : Int32) (s1 : Nat) (s2 : Int64) (T : tT) (I : tI) (J : tJ) (R : tR) (Q : tQ), Ex X d mX7_reaches 85 [.ref x0, .int x1, .int x2, .int x3, .int x4, .int x5, .long x6, rU, v8] [.int s0, .ref s1, .long s2] (T, I, J, R) Q = (rIn T s1 0 s0 ∧ Ex X d mX7_reaches 86 [.ref x0, .int x1, .int x2, .int x3, .int x4, .int x5, .long x6, rU, v8] [.int (I s1 s0.toNatClampNeg), .long s2] (T, I, J, R) Q)) ∧
  (∀ (X : tX) (d : Nat) (x0 : Nat) (x1 : Int32) (x2 : Int32) (x3 : Int32) (x4 : Int32) (x5 : Int32) (x6 : Int64) (v8 : Value) (s0 : Int32) (s1 : Int64) (σ : rS) (Q : tQ), Ex X d mX7_reaches 86 [.ref x0, .int x1, .int x2, .int x3, .int x4, .int x5, .long x6, rU, v8] [.int s0, .long s1] σ Q = Ex X d mX7_reaches 87 [.ref x0, .int x1, .int x2, .int x3, .int x4, .int x5, .long x6, rU, v8] [.long s0.toInt64, .long s1] σ Q) ∧
  (∀ (X : tX) (d : Nat) (x0 : Nat) (x1 : Int32) (x2 : Int32) (x3 : Int32) (x4 : Int32) (x5 : Int32) (x6 : Int64) (v8 : Value) (s0 : Int64) (s1 : Int64) (σ : rS) (Q : tQ), Ex X d mX7_reaches 87 [.ref x0, .int x1, .int x2, .int x3, .int x4, .int x5, .long x6, rU, v8] [.long s0, .long s1] σ Q = Ex X d mX7_reaches 88 [.ref x0, .int x1, .int x2, .int x3, .int x4, .int x5, .long x6, rU, v8] [.int (lg_cmp s1 s0)] σ Q) ∧
  (∀ (X : tX) (d : Nat) (x0 : Nat) (x1 : Int32) (x2 : Int32) (x3 : Int32) (x4 : Int32) (x5 : Int32) (x6 : Int64) (v8 : Value) (s0 : Int32) (σ : rS) (Q : tQ), Ex X d mX7_reaches 88 [.ref x0, .int x1, .int x2, .int x3, .int x4, .int x5, .long x6, rU, v8] [.int s0] σ Q = (if 0 < s0 then Ex X d mX7_reaches 100 [.ref x0, .int x1, .int x2, .int x3, .int x4, .int x5, .long x6, rU, v8] [] σ Q else Ex X d mX7_reaches 91 [.ref x0, .int x1, .int x2, .int x3, .int x4, .int x5, .long x6, rU, v8] [] σ Q)) := ⟨fun X d x0 x1 x2 x3 x4 x5 x6 v8 σ Q => ex_P (i := .lload 6) (len := 2) (by decide +kernel) rfl,
  fun X d x0 x1 x2 x3 x4 x5 x6 v8 s0 T I J R Q => q_ldc2 (k := 113) (by decide +kernel) rfl,
  fun X d x0 x1 x2 x3 x4 x5 x6 v8 s0 s1 σ Q => ex_P (i := .ladd) (len := 1) (by decide +kernel) rfl,
  fun X d x0 x1 x2 x3 x4 x5 x6 v8 s0 σ Q => ex_P (i := .aload_n 0) (len := 1) (by decide +kernel) rfl,
  fun X d x0 x1 x2 x3 x4 x5 x6 v8 s0 s1 T I J R Q => q_getR (k := 75) (by decide +kernel) rfl rfl,
  fun X d x0 x1 x2 x3 x4 x5 x6 v8 s0 s1 σ Q => ex_P (i := .iload_n 1) (len := 1) (by decide +kernel) rfl,
  fun X d x0 x1 x2 x3 x4 x5 x6 v8 s0 s1 s2 T I J R Q => q_iald (by decide +kernel),
  fun X d x0 x1 x2 x3 x4 x5 x6 v8 s0 s1 σ Q => ex_P (i := .i2l) (len := 1) (by decide +kernel) rfl,
  fun X d x0 x1 x2 x3 x4 x5 x6 v8 s0 s1 σ Q => ex_P (i := .lcmp) (len := 1) (by decide +kernel) rfl,
  fun X d x0 x1 x2 x3 x4 x5 x6 v8 s0 σ Q => q_if_gt (o := 12) (by decide +kernel) rfl⟩
set_option maxRecDepth 50000 in
theorem gX7_reaches_91 : (∀ (X : tX) (d : Nat) (x0 : Nat) (x1 : Int32) (x2 : Int32) (x3 : Int32) (x4 : Int32) (x5 : Int32) (x6 : Int64) (v8 : Value) (σ : rS) (Q : tQ), Ex X d mX7_reaches 91 [.ref x0, .int x1, .int x2, .int x3, .int x4, .int x5, .long x6, rU, v8] [] σ Q = Ex X d mX7_reaches 92 [.ref x0, .int x1, .int x2, .int x3, .int x4, .int x5, .long x6, rU, v8] [.ref x0] σ Q) ∧
  (∀ (X : tX) (d : Nat) (x0 : Nat) (x1 : Int32) (x2 : Int32) (x3 : Int32) (x4 : Int32) (x5 : Int32) (x6 : Int64) (v8 : Value) (s0 : Nat) (T : tT) (I : tI) (J : tJ) (R : tR) (Q : tQ), Ex X d mX7_reaches 92 [.ref x0, .int x1, .int x2, .int x3, .int x4, .int x5, .long x6, rU, v8] [.ref s0] (T, I, J, R) Q = (T[s0]? = some (3, 7) ∧ Ex X d mX7_reaches 95 [.ref x0, .int x1, .int x2, .int x3, .int x4, .int x5, .long x6, rU, v8] [.int (I s0 0)] (T, I, J, R) Q)) ∧
  (∀ (X : tX) (d : Nat) (x0 : Nat) (x1 : Int32) (x2 : Int32) (x3 : Int32) (x4 : Int32) (x5 : Int32) (x6 : Int64) (v8 : Value) (s0 : Int32) (σ : rS) (Q : tQ), Ex X d mX7_reaches 95 [.ref x0, .int x1, .int x2, .int x3, .int x4, .int x5, .long x6, rU, v8] [.int s0] σ Q = Ex X d mX7_reaches 97 [.ref x0, .int x1, .int x2, .int x3, .int x4, .int x5, .long x6, rU, v8] [.int 8, .int s0] σ Q) ∧
  (∀ (X : tX) (d : Nat) (x0 : Nat) (x1 : Int32) (x2 : Int32) (x3 : Int32) (x4 : Int32) (x5 : Int32) (x6 : Int64) (v8 : Value) (s0 : Int32) (s1 : Int32) (σ : rS) (Q : tQ), Ex X d mX7_reaches 97 [.ref x0, .int x1, .int x2, .int x3, .int x4, .int x5, .long x6, rU, v8] [.int s0, .int s1] σ Q = (if s1 = s0 then Ex X d mX7_reaches 100 [.ref x0, .int x1, .int x2, .int x3, .int x4, .int x5, .long x6, rU, v8] [] σ Q else Ex X d mX7_reaches 103 [.ref x0, .int x1, .int x2, .int x3, .int x4, .int x5, .long x6, rU, v8] [] σ Q)) := ⟨fun X d x0 x1 x2 x3 x4 x5 x6 v8 σ Q => ex_P (i := .aload_n 0) (len := 1) (by decide +kernel) rfl,
  fun X d x0 x1 x2 x3 x4 x5 x6 v8 s0 T I J R Q => q_getI (k := 97) (by decide +kernel) rfl rfl (by decide),
  fun X d x0 x1 x2 x3 x4 x5 x6 v8 s0 σ Q => ex_P (i := .bipush 8) (len := 2) (by decide +kernel) rfl,
  fun X d x0 x1 x2 x3 x4 x5 x6 v8 s0 s1 σ Q => q_icmp_ne (o := 6) (by decide +kernel) rfl⟩
set_option maxRecDepth 50000 in
theorem gX7_reaches_100 : (∀ (X : tX) (d : Nat) (x0 : Nat) (x1 : Int32) (x2 : Int32) (x3 : Int32) (x4 : Int32) (x5 : Int32) (x6 : Int64) (v8 : Value) (σ : rS) (Q : tQ), Ex X d mX7_reaches 100 [.ref x0, .int x1, .int x2, .int x3, .int x4, .int x5, .long x6, rU, v8] [] σ Q = Ex X d mX7_reaches 102 [.ref x0, .int x1, .int x2, .int x3, .int x4, .int x5, .long x6, rU, v8] [.int x4] σ Q) ∧
  (∀ (X : tX) (d : Nat) (x0 : Nat) (x1 : Int32) (x2 : Int32) (x3 : Int32) (x4 : Int32) (x5 : Int32) (x6 : Int64) (v8 : Value) (s0 : Int32) (σ : rS) (Q : tQ), Ex X d mX7_reaches 102 [.ref x0, .int x1, .int x2, .int x3, .int x4, .int x5, .long x6, rU, v8] [.int s0] σ Q = Q (some (.int s0)) σ) := ⟨fun X d x0 x1 x2 x3 x4 x5 x6 v8 σ Q => ex_P (i := .iload 4) (len := 2) (by decide +kernel) rfl,
  fun X d x0 x1 x2 x3 x4 x5 x6 v8 s0 σ Q => q_retI (by decide +kernel) rfl⟩
set_option maxRecDepth 50000 in
theorem gX7_reaches_103 : (∀ (X : tX) (d : Nat) (x0 : Nat) (x1 : Int32) (x2 : Int32) (x3 : Int32) (x4 : Int32) (x5 : Int32) (x6 : Int64) (v8 : Value) (σ : rS) (Q : tQ), Ex X d mX7_reaches 103 [.ref x0, .int x1, .int x2, .int x3, .int x4, .int x5, .long x6, rU, v8] [] σ Q = Ex X d mX7_reaches 105 [.ref x0, .int x1, .int x2, .int x3, .int x4, .int x5, .long x6, rU, v8] [.long x6] σ Q) ∧
  (∀ (X : tX) (d : Nat) (x0 : Nat) (x1 : Int32) (x2 : Int32) (x3 : Int32) (x4 : Int32) (x5 : Int32) (x6 : Int64) (v8 : Value) (s0 : Int64) (σ : rS) (Q : tQ), Ex X d mX7_reaches 105 [.ref x0, .int x1, .int x2, .int x3, .int x4, .int x5, .long x6, rU, v8] [.long s0] σ Q = Ex X d mX7_reaches 106 [.ref x0, .int x1, .int x2, .int x3, .int x4, .int x5, .long x6, rU, v8] [.int s0.toInt32] σ Q) ∧
  (∀ (X : tX) (d : Nat) (x0 : Nat) (x1 : Int32) (x2 : Int32) (x3 : Int32) (x4 : Int32) (x5 : Int32) (x6 : Int64) (v8 : Value) (s0 : Int32) (σ : rS) (Q : tQ), Ex X d mX7_reaches 106 [.ref x0, .int x1, .int x2, .int x3, .int x4, .int x5, .long x6, rU, v8] [.int s0] σ Q = Ex X d mX7_reaches 108 [.ref x0, .int x1, .int x2, .int x3, .int x4, .int x5, .long x6, rU, .int s0] [] σ Q) ∧
  (∀ (X : tX) (d : Nat) (x0 : Nat) (x1 : Int32) (x2 : Int32) (x3 : Int32) (x4 : Int32) (x5 : Int32) (x6 : Int64) (x8 : Int32) (σ : rS) (Q : tQ), Ex X d mX7_reaches 108 [.ref x0, .int x1, .int x2, .int x3, .int x4, .int x5, .long x6, rU, .int x8] [] σ Q = Ex X d mX7_reaches 109 [.ref x0, .int x1, .int x2, .int x3, .int x4, .int x5, .long x6, rU, .int x8] [.ref x0] σ Q) ∧
  (∀ (X : tX) (d : Nat) (x0 : Nat) (x1 : Int32) (x2 : Int32) (x3 : Int32) (x4 : Int32) (x5 : Int32) (x6 : Int64) (x8 : Int32) (s0 : Nat) (σ : rS) (Q : tQ), Ex X d mX7_reaches 109 [.ref x0, .int x1, .int x2, .int x3, .int x4, .int x5, .long x6, rU, .int x8] [.ref s0] σ Q = Ex X d mX7_reaches 110 [.ref x0, .int x1, .int x2, .int x3, .int x4, .int x5, .long x6, rU, .int x8] [.int x1, .ref s0] σ Q) ∧
  (∀ (X : tX) (d : Nat) (x0 : Nat) (x1 : Int32) (x2 : Int32) (x3 : Int32) (x4 : Int32) (x5 : Int32) (x6 : Int64) (x8 : Int32) (s0 : Int32) (s1 : Nat) (σ : rS) (Q : tQ), Ex X d mX7_reaches 110 [.ref x0, .int x1, .int x2, .int x3, .int x4, .int x5, .long x6, rU, .int x8] [.int s0, .ref s1] σ Q = Ex X d mX7_reaches 112 [.ref x0, .int x1, .int x2, .int x3, .int x4, .int x5, .long x6, rU, .int x8] [.int x8, .int s0, .ref s1] σ Q) ∧
  (∀ (X : tX) (d : Nat) (x0 : Nat) (x1 : Int32) (x2 : Int32) (x3 : Int32) (x4 : Int32) (x5 : Int32) (x6 : Int64) (x8 : Int32) (s0 : Int32) (s1 : Int32) (s2 : Nat) (T : tT) (I : tI) (J : tJ) (R : tR) (Q : tQ), Ex X (d + 1) mX7_reaches 112 [.ref x0, .int x1, .int x2, .int x3, .int x4, .int x5, .long x6, rU, .int x8] [.int s0, .int s1, .ref s2] (T, I, J, R) Q = (T[s2]? = some (3, 7) ∧ Ex X d mX7_toldAt 0 [.ref s2, .int s1, .int s0] [] (T, I, J, R) (fun v σ1 => Ex X (d + 1) mX7_reaches 115 [.ref x0, .int x1, .int x2, .int x3, .int x4, .int x5, .long x6, rU, .int x8] (v.toList ++ []) σ1 Q))) := ⟨fun X d x0 x1 x2 x3 x4 x5 x6 v8 σ Q => ex_P (i := .lload 6) (len := 2) (by decide +kernel) rfl,
  fun X d x0 x1 x2 x3 x4 x5 x6 v8 s0 σ Q => ex_P (i := .l2i) (len := 1) (by decide +kernel) rfl,
  fun X d x0 x1 x2 x3 x4 x5 x6 v8 s0 σ Q => ex_P (i := .istore 8) (len := 2) (by decide +kernel) rfl,
  fun X d x0 x1 x2 x3 x4 x5 x6 x8 σ Q => ex_P (i := .aload_n 0) (len := 1) (by decide +kernel) rfl,
  fun X d x0 x1 x2 x3 x4 x5 x6 x8 s0 σ Q => ex_P (i := .iload_n 1) (len := 1) (by decide +kernel) rfl,
  fun X d x0 x1 x2 x3 x4 x5 x6 x8 s0 s1 σ Q => ex_P (i := .iload 8) (len := 2) (by decide +kernel) rfl,
  fun X d x0 x1 x2 x3 x4 x5 x6 x8 s0 s1 s2 T I J R Q => q_callV (k := 115) (as := [.int s1, .int s0]) (st := []) (show rlk mX7_reaches.2.2.2.2.2.2 112 = some (.invokevirtual 115, 3) from by decide +kernel) rfl rfl rfl (Nat.le_of_ble_eq_true rfl) (Nat.le_of_ble_eq_true rfl) rfl⟩
set_option maxRecDepth 50000 in
theorem gX7_reaches_115 : (∀ (X : tX) (d : Nat) (x0 : Nat) (x1 : Int32) (x2 : Int32) (x3 : Int32) (x4 : Int32) (x5 : Int32) (x6 : Int64) (x8 : Int32) (s0 : Int32) (σ : rS) (Q : tQ), Ex X d mX7_reaches 115 [.ref x0, .int x1, .int x2, .int x3, .int x4, .int x5, .long x6, rU, .int x8] [.int s0] σ Q = Ex X d mX7_reaches 116 [.ref x0, .int x1, .int x2, .int x3, .int x4, .int x5, .long x6, rU, .int x8] [.int 0, .int s0] σ Q) ∧
  (∀ (X : tX) (d : Nat) (x0 : Nat) (x1 : Int32) (x2 : Int32) (x3 : Int32) (x4 : Int32) (x5 : Int32) (x6 : Int64) (x8 : Int32) (s0 : Int32) (s1 : Int32) (σ : rS) (Q : tQ), Ex X d mX7_reaches 116 [.ref x0, .int x1, .int x2, .int x3, .int x4, .int x5, .long x6, rU, .int x8] [.int s0, .int s1] σ Q = Ex X d mX7_reaches 118 [.ref x0, .int x1, .int x2, .int x3, .int x4, .int x5, .long x6, rU, .int x8] [.int 99, .int s0, .int s1] σ Q) ∧
  (∀ (X : tX) (d : Nat) (x0 : Nat) (x1 : Int32) (x2 : Int32) (x3 : Int32) (x4 : Int32) (x5 : Int32) (x6 : Int64) (x8 : Int32) (s0 : Int32) (s1 : Int32) (s2 : Int32) (σ : rS) (Q : tQ), Ex X (d + 1) mX7_reaches 118 [.ref x0, .int x1, .int x2, .int x3, .int x4, .int x5, .long x6, rU, .int x8] [.int s0, .int s1, .int s2] σ Q = Ex X d mX7_within 0 [.int s2, .int s1, .int s0] [] σ (fun v σ1 => Ex X (d + 1) mX7_reaches 121 [.ref x0, .int x1, .int x2, .int x3, .int x4, .int x5, .long x6, rU, .int x8] (v.toList ++ []) σ1 Q)) := ⟨fun X d x0 x1 x2 x3 x4 x5 x6 x8 s0 σ Q => ex_P (i := .iconst 0) (len := 1) (by decide +kernel) rfl,
  fun X d x0 x1 x2 x3 x4 x5 x6 x8 s0 s1 σ Q => ex_P (i := .bipush 99) (len := 2) (by decide +kernel) rfl,
  fun X d x0 x1 x2 x3 x4 x5 x6 x8 s0 s1 s2 σ Q => q_callS (k := 101) (as := [.int s2, .int s1, .int s0]) (st := []) (show rlk mX7_reaches.2.2.2.2.2.2 118 = some (.invokestatic 101, 3) from by decide +kernel) rfl (Or.inl rfl) rfl rfl rfl rfl rfl (Nat.le_of_ble_eq_true rfl) (Nat.le_of_ble_eq_true rfl) rfl⟩
set_option maxRecDepth 50000 in
theorem gX7_reaches_121 : (∀ (X : tX) (d : Nat) (x0 : Nat) (x1 : Int32) (x2 : Int32) (x3 : Int32) (x4 : Int32) (x5 : Int32) (x6 : Int64) (x8 : Int32) (s0 : Int32) (σ : rS) (Q : tQ), Ex X d mX7_reaches 121 [.ref x0, .int x1, .int x2, .int x3, .int x4, .int x5, .long x6, rU, .int x8] [.int s0] σ Q = (if s0 = 0 then Ex X d mX7_reaches 160 [.ref x0, .int x1, .int x2, .int x3, .int x4, .int x5, .long x6, rU, .int x8] [] σ Q else Ex X d mX7_reaches 124 [.ref x0, .int x1, .int x2, .int x3, .int x4, .int x5, .long x6, rU, .int x8] [] σ Q)) := fun X d x0 x1 x2 x3 x4 x5 x6 x8 s0 σ Q => q_if_eq (o := 39) (by decide +kernel) rfl
set_option maxRecDepth 50000 in
theorem gX7_reaches_124 : (∀ (X : tX) (d : Nat) (x0 : Nat) (x1 : Int32) (x2 : Int32) (x3 : Int32) (x4 : Int32) (x5 : Int32) (x6 : Int64) (x8 : Int32) (σ : rS) (Q : tQ), Ex X d mX7_reaches 124 [.ref x0, .int x1, .int x2, .int x3, .int x4, .int x5, .long x6, rU, .int x8] [] σ Q = Ex X d mX7_reaches 125 [.ref x0, .int x1, .int x2, .int x3, .int x4, .int x5, .long x6, rU, .int x8] [.ref x0] σ Q) ∧
  (∀ (X : tX) (d : Nat) (x0 : Nat) (x1 : Int32) (x2 : Int32) (x3 : Int32) (x4 : Int32) (x5 : Int32) (x6 : Int64) (x8 : Int32) (s0 : Nat) (σ : rS) (Q : tQ), Ex X d mX7_reaches 125 [.ref x0, .int x1, .int x2, .int x3, .int x4, .int x5, .long x6, rU, .int x8] [.ref s0] σ Q = Ex X d mX7_reaches 126 [.ref x0, .int x1, .int x2, .int x3, .int x4, .int x5, .long x6, rU, .int x8] [.int x1, .ref s0] σ Q) ∧
  (∀ (X : tX) (d : Nat) (x0 : Nat) (x1 : Int32) (x2 : Int32) (x3 : Int32) (x4 : Int32) (x5 : Int32) (x6 : Int64) (x8 : Int32) (s0 : Int32) (s1 : Nat) (σ : rS) (Q : tQ), Ex X d mX7_reaches 126 [.ref x0, .int x1, .int x2, .int x3, .int x4, .int x5, .long x6, rU, .int x8] [.int s0, .ref s1] σ Q = Ex X d mX7_reaches 128 [.ref x0, .int x1, .int x2, .int x3, .int x4, .int x5, .long x6, rU, .int x8] [.int x8, .int s0, .ref s1] σ Q) ∧
  (∀ (X : tX) (d : Nat) (x0 : Nat) (x1 : Int32) (x2 : Int32) (x3 : Int32) (x4 : Int32) (x5 : Int32) (x6 : Int64) (x8 : Int32) (s0 : Int32) (s1 : Int32) (s2 : Nat) (σ : rS) (Q : tQ), Ex X d mX7_reaches 128 [.ref x0, .int x1, .int x2, .int x3, .int x4, .int x5, .long x6, rU, .int x8] [.int s0, .int s1, .ref s2] σ Q = Ex X d mX7_reaches 129 [.ref x0, .int x1, .int x2, .int x3, .int x4, .int x5, .long x6, rU, .int x8] [.int 1, .int s0, .int s1, .ref s2] σ Q) ∧
  (∀ (X : tX) (d : Nat) (x0 : Nat) (x1 : Int32) (x2 : Int32) (x3 : Int32) (x4 : Int32) (x5 : Int32) (x6 : Int64) (x8 : Int32) (s0 : Int32) (s1 : Int32) (s2 : Int32) (s3 : Nat) (σ : rS) (Q : tQ), Ex X d mX7_reaches 129 [.ref x0, .int x1, .int x2, .int x3, .int x4, .int x5, .long x6, rU, .int x8] [.int s0, .int s1, .int s2, .ref s3] σ Q = Ex X d mX7_reaches 130 [.ref x0, .int x1, .int x2, .int x3, .int x4, .int x5, .long x6, rU, .int x8] [.int (s1 + s0), .int s2, .ref s3] σ Q) ∧
  (∀ (X : tX) (d : Nat) (x0 : Nat) (x1 : Int32) (x2 : Int32) (x3 : Int32) (x4 : Int32) (x5 : Int32) (x6 : Int64) (x8 : Int32) (s0 : Int32) (s1 : Int32) (s2 : Nat) (T : tT) (I : tI) (J : tJ) (R : tR) (Q : tQ), Ex X (d + 1) mX7_reaches 130 [.ref x0, .int x1, .int x2, .int x3, .int x4, .int x5, .long x6, rU, .int x8] [.int s0, .int s1, .ref s2] (T, I, J, R) Q = (T[s2]? = some (3, 7) ∧ Ex X d mX7_toldAt 0 [.ref s2, .int s1, .int s0] [] (T, I, J, R) (fun v σ1 => Ex X (d + 1) mX7_reaches 133 [.ref x0, .int x1, .int x2, .int x3, .int x4, .int x5, .long x6, rU, .int x8] (v.toList ++ []) σ1 Q))) := ⟨fun X d x0 x1 x2 x3 x4 x5 x6 x8 σ Q => ex_P (i := .aload_n 0) (len := 1) (by decide +kernel) rfl,
  fun X d x0 x1 x2 x3 x4 x5 x6 x8 s0 σ Q => ex_P (i := .iload_n 1) (len := 1) (by decide +kernel) rfl,
  fun X d x0 x1 x2 x3 x4 x5 x6 x8 s0 s1 σ Q => ex_P (i := .iload 8) (len := 2) (by decide +kernel) rfl,
  fun X d x0 x1 x2 x3 x4 x5 x6 x8 s0 s1 s2 σ Q => ex_P (i := .iconst 1) (len := 1) (by decide +kernel) rfl,
  fun X d x0 x1 x2 x3 x4 x5 x6 x8 s0 s1 s2 s3 σ Q => ex_P (i := .iadd) (len := 1) (by decide +kernel) rfl,
  fun X d x0 x1 x2 x3 x4 x5 x6 x8 s0 s1 s2 T I J R Q => q_callV (k := 115) (as := [.int s1, .int s0]) (st := []) (show rlk mX7_reaches.2.2.2.2.2.2 130 = some (.invokevirtual 115, 3) from by decide +kernel) rfl rfl rfl (Nat.le_of_ble_eq_true rfl) (Nat.le_of_ble_eq_true rfl) rfl⟩
set_option maxRecDepth 50000 in
theorem gX7_reaches_133 : (∀ (X : tX) (d : Nat) (x0 : Nat) (x1 : Int32) (x2 : Int32) (x3 : Int32) (x4 : Int32) (x5 : Int32) (x6 : Int64) (x8 : Int32) (s0 : Int32) (σ : rS) (Q : tQ), Ex X d mX7_reaches 133 [.ref x0, .int x1, .int x2, .int x3, .int x4, .int x5, .long x6, rU, .int x8] [.int s0] σ Q = Ex X d mX7_reaches 134 [.ref x0, .int x1, .int x2, .int x3, .int x4, .int x5, .long x6, rU, .int x8] [.int 1, .int s0] σ Q) ∧
  (∀ (X : tX) (d : Nat) (x0 : Nat) (x1 : Int32) (x2 : Int32) (x3 : Int32) (x4 : Int32) (x5 : Int32) (x6 : Int64) (x8 : Int32) (s0 : Int32) (s1 : Int32) (σ : rS) (Q : tQ), Ex X d mX7_reaches 134 [.ref x0, .int x1, .int x2, .int x3, .int x4, .int x5, .long x6, rU, .int x8] [.int s0, .int s1] σ Q = Ex X d mX7_reaches 136 [.ref x0, .int x1, .int x2, .int x3, .int x4, .int x5, .long x6, rU, .int x8] [.int 99, .int s0, .int s1] σ Q) ∧
  (∀ (X : tX) (d : Nat) (x0 : Nat) (x1 : Int32) (x2 : Int32) (x3 : Int32) (x4 : Int32) (x5 : Int32) (x6 : Int64) (x8 : Int32) (s0 : Int32) (s1 : Int32) (s2 : Int32) (σ : rS) (Q : tQ), Ex X (d + 1) mX7_reaches 136 [.ref x0, .int x1, .int x2, .int x3, .int x4, .int x5, .long x6, rU, .int x8] [.int s0, .int s1, .int s2] σ Q = Ex X d mX7_within 0 [.int s2, .int s1, .int s0] [] σ (fun v σ1 => Ex X (d + 1) mX7_reaches 139 [.ref x0, .int x1, .int x2, .int x3, .int x4, .int x5, .long x6, rU, .int x8] (v.toList ++ []) σ1 Q)) := ⟨fun X d x0 x1 x2 x3 x4 x5 x6 x8 s0 σ Q => ex_P (i := .iconst 1) (len := 1) (by decide +kernel) rfl,
  fun X d x0 x1 x2 x3 x4 x5 x6 x8 s0 s1 σ Q => ex_P (i := .bipush 99) (len := 2) (by decide +kernel) rfl,
  fun X d x0 x1 x2 x3 x4 x5 x6 x8 s0 s1 s2 σ Q => q_callS (k := 101) (as := [.int s2, .int s1, .int s0]) (st := []) (show rlk mX7_reaches.2.2.2.2.2.2 136 = some (.invokestatic 101, 3) from by decide +kernel) rfl (Or.inl rfl) rfl rfl rfl rfl rfl (Nat.le_of_ble_eq_true rfl) (Nat.le_of_ble_eq_true rfl) rfl⟩
set_option maxRecDepth 50000 in
theorem gX7_reaches_139 : (∀ (X : tX) (d : Nat) (x0 : Nat) (x1 : Int32) (x2 : Int32) (x3 : Int32) (x4 : Int32) (x5 : Int32) (x6 : Int64) (x8 : Int32) (s0 : Int32) (σ : rS) (Q : tQ), Ex X d mX7_reaches 139 [.ref x0, .int x1, .int x2, .int x3, .int x4, .int x5, .long x6, rU, .int x8] [.int s0] σ Q = (if s0 = 0 then Ex X d mX7_reaches 160 [.ref x0, .int x1, .int x2, .int x3, .int x4, .int x5, .long x6, rU, .int x8] [] σ Q else Ex X d mX7_reaches 142 [.ref x0, .int x1, .int x2, .int x3, .int x4, .int x5, .long x6, rU, .int x8] [] σ Q)) := fun X d x0 x1 x2 x3 x4 x5 x6 x8 s0 σ Q => q_if_eq (o := 21) (by decide +kernel) rfl
set_option maxRecDepth 50000 in
theorem gX7_reaches_142 : (∀ (X : tX) (d : Nat) (x0 : Nat) (x1 : Int32) (x2 : Int32) (x3 : Int32) (x4 : Int32) (x5 : Int32) (x6 : Int64) (x8 : Int32) (σ : rS) (Q : tQ), Ex X d mX7_reaches 142 [.ref x0, .int x1, .int x2, .int x3, .int x4, .int x5, .long x6, rU, .int x8] [] σ Q = Ex X d mX7_reaches 143 [.ref x0, .int x1, .int x2, .int x3, .int x4, .int x5, .long x6, rU, .int x8] [.ref x0] σ Q) ∧
  (∀ (X : tX) (d : Nat) (x0 : Nat) (x1 : Int32) (x2 : Int32) (x3 : Int32) (x4 : Int32) (x5 : Int32) (x6 : Int64) (x8 : Int32) (s0 : Nat) (σ : rS) (Q : tQ), Ex X d mX7_reaches 143 [.ref x0, .int x1, .int x2, .int x3, .int x4, .int x5, .long x6, rU, .int x8] [.ref s0] σ Q = Ex X d mX7_reaches 144 [.ref x0, .int x1, .int x2, .int x3, .int x4, .int x5, .long x6, rU, .int x8] [.int x1, .ref s0] σ Q) ∧
  (∀ (X : tX) (d : Nat) (x0 : Nat) (x1 : Int32) (x2 : Int32) (x3 : Int32) (x4 : Int32) (x5 : Int32) (x6 : Int64) (x8 : Int32) (s0 : Int32) (s1 : Nat) (σ : rS) (Q : tQ), Ex X d mX7_reaches 144 [.ref x0, .int x1, .int x2, .int x3, .int x4, .int x5, .long x6, rU, .int x8] [.int s0, .ref s1] σ Q = Ex X d mX7_reaches 146 [.ref x0, .int x1, .int x2, .int x3, .int x4, .int x5, .long x6, rU, .int x8] [.int x8, .int s0, .ref s1] σ Q) ∧
  (∀ (X : tX) (d : Nat) (x0 : Nat) (x1 : Int32) (x2 : Int32) (x3 : Int32) (x4 : Int32) (x5 : Int32) (x6 : Int64) (x8 : Int32) (s0 : Int32) (s1 : Int32) (s2 : Nat) (σ : rS) (Q : tQ), Ex X d mX7_reaches 146 [.ref x0, .int x1, .int x2, .int x3, .int x4, .int x5, .long x6, rU, .int x8] [.int s0, .int s1, .ref s2] σ Q = Ex X d mX7_reaches 147 [.ref x0, .int x1, .int x2, .int x3, .int x4, .int x5, .long x6, rU, .int x8] [.int 2, .int s0, .int s1, .ref s2] σ Q) ∧
  (∀ (X : tX) (d : Nat) (x0 : Nat) (x1 : Int32) (x2 : Int32) (x3 : Int32) (x4 : Int32) (x5 : Int32) (x6 : Int64) (x8 : Int32) (s0 : Int32) (s1 : Int32) (s2 : Int32) (s3 : Nat) (σ : rS) (Q : tQ), Ex X d mX7_reaches 147 [.ref x0, .int x1, .int x2, .int x3, .int x4, .int x5, .long x6, rU, .int x8] [.int s0, .int s1, .int s2, .ref s3] σ Q = Ex X d mX7_reaches 148 [.ref x0, .int x1, .int x2, .int x3, .int x4, .int x5, .long x6, rU, .int x8] [.int (s1 + s0), .int s2, .ref s3] σ Q) ∧
  (∀ (X : tX) (d : Nat) (x0 : Nat) (x1 : Int32) (x2 : Int32) (x3 : Int32) (x4 : Int32) (x5 : Int32) (x6 : Int64) (x8 : Int32) (s0 : Int32) (s1 : Int32) (s2 : Nat) (T : tT) (I : tI) (J : tJ) (R : tR) (Q : tQ), Ex X (d + 1) mX7_reaches 148 [.ref x0, .int x1, .int x2, .int x3, .int x4, .int x5, .long x6, rU, .int x8] [.int s0, .int s1, .ref s2] (T, I, J, R) Q = (T[s2]? = some (3, 7) ∧ Ex X d mX7_toldAt 0 [.ref s2, .int s1, .int s0] [] (T, I, J, R) (fun v σ1 => Ex X (d + 1) mX7_reaches 151 [.ref x0, .int x1, .int x2, .int x3, .int x4, .int x5, .long x6, rU, .int x8] (v.toList ++ []) σ1 Q))) := ⟨fun X d x0 x1 x2 x3 x4 x5 x6 x8 σ Q => ex_P (i := .aload_n 0) (len := 1) (by decide +kernel) rfl,
  fun X d x0 x1 x2 x3 x4 x5 x6 x8 s0 σ Q => ex_P (i := .iload_n 1) (len := 1) (by decide +kernel) rfl,
  fun X d x0 x1 x2 x3 x4 x5 x6 x8 s0 s1 σ Q => ex_P (i := .iload 8) (len := 2) (by decide +kernel) rfl,
  fun X d x0 x1 x2 x3 x4 x5 x6 x8 s0 s1 s2 σ Q => ex_P (i := .iconst 2) (len := 1) (by decide +kernel) rfl,
  fun X d x0 x1 x2 x3 x4 x5 x6 x8 s0 s1 s2 s3 σ Q => ex_P (i := .iadd) (len := 1) (by decide +kernel) rfl,
  fun X d x0 x1 x2 x3 x4 x5 x6 x8 s0 s1 s2 T I J R Q => q_callV (k := 115) (as := [.int s1, .int s0]) (st := []) (show rlk mX7_reaches.2.2.2.2.2.2 148 = some (.invokevirtual 115, 3) from by decide +kernel) rfl rfl rfl (Nat.le_of_ble_eq_true rfl) (Nat.le_of_ble_eq_true rfl) rfl⟩
set_option maxRecDepth 50000 in
theorem gX7_reaches_151 : (∀ (X : tX) (d : Nat) (x0 : Nat) (x1 : Int32) (x2 : Int32) (x3 : Int32) (x4 : Int32) (x5 : Int32) (x6 : Int64) (x8 : Int32) (s0 : Int32) (σ : rS) (Q : tQ), Ex X d mX7_reaches 151 [.ref x0, .int x1, .int x2, .int x3, .int x4, .int x5, .long x6, rU, .int x8] [.int s0] σ Q = Ex X d mX7_reaches 152 [.ref x0, .int x1, .int x2, .int x3, .int x4, .int x5, .long x6, rU, .int x8] [.int 0, .int s0] σ Q) ∧
  (∀ (X : tX) (d : Nat) (x0 : Nat) (x1 : Int32) (x2 : Int32) (x3 : Int32) (x4 : Int32) (x5 : Int32) (x6 : Int64) (x8 : Int32) (s0 : Int32) (s1 : Int32) (σ : rS) (Q : tQ), Ex X d mX7_reaches 152 [.ref x0, .int x1, .int x2, .int x3, .int x4, .int x5, .long x6, rU, .int x8] [.int s0, .int s1] σ Q = Ex X d mX7_reaches 154 [.ref x0, .int x1, .int x2, .int x3, .int x4, .int x5, .long x6, rU, .int x8] [.int 9, .int s0, .int s1] σ Q) ∧
  (∀ (X : tX) (d : Nat) (x0 : Nat) (x1 : Int32) (x2 : Int32) (x3 : Int32) (x4 : Int32) (x5 : Int32) (x6 : Int64) (x8 : Int32) (s0 : Int32) (s1 : Int32) (s2 : Int32) (σ : rS) (Q : tQ), Ex X (d + 1) mX7_reaches 154 [.ref x0, .int x1, .int x2, .int x3, .int x4, .int x5, .long x6, rU, .int x8] [.int s0, .int s1, .int s2] σ Q = Ex X d mX7_within 0 [.int s2, .int s1, .int s0] [] σ (fun v σ1 => Ex X (d + 1) mX7_reaches 157 [.ref x0, .int x1, .int x2, .int x3, .int x4, .int x5, .long x6, rU, .int x8] (v.toList ++ []) σ1 Q)) := ⟨fun X d x0 x1 x2 x3 x4 x5 x6 x8 s0 σ Q => ex_P (i := .iconst 0) (len := 1) (by decide +kernel) rfl,
  fun X d x0 x1 x2 x3 x4 x5 x6 x8 s0 s1 σ Q => ex_P (i := .bipush 9) (len := 2) (by decide +kernel) rfl,
  fun X d x0 x1 x2 x3 x4 x5 x6 x8 s0 s1 s2 σ Q => q_callS (k := 101) (as := [.int s2, .int s1, .int s0]) (st := []) (show rlk mX7_reaches.2.2.2.2.2.2 154 = some (.invokestatic 101, 3) from by decide +kernel) rfl (Or.inl rfl) rfl rfl rfl rfl rfl (Nat.le_of_ble_eq_true rfl) (Nat.le_of_ble_eq_true rfl) rfl⟩
set_option maxRecDepth 50000 in
theorem gX7_reaches_157 : (∀ (X : tX) (d : Nat) (x0 : Nat) (x1 : Int32) (x2 : Int32) (x3 : Int32) (x4 : Int32) (x5 : Int32) (x6 : Int64) (x8 : Int32) (s0 : Int32) (σ : rS) (Q : tQ), Ex X d mX7_reaches 157 [.ref x0, .int x1, .int x2, .int x3, .int x4, .int x5, .long x6, rU, .int x8] [.int s0] σ Q = (if s0 = 0 then Ex X d mX7_reaches 160 [.ref x0, .int x1, .int x2, .int x3, .int x4, .int x5, .long x6, rU, .int x8] [] σ Q else Ex X d mX7_reaches 163 [.ref x0, .int x1, .int x2, .int x3, .int x4, .int x5, .long x6, rU, .int x8] [] σ Q)) := fun X d x0 x1 x2 x3 x4 x5 x6 x8 s0 σ Q => q_if_ne (o := 6) (by decide +kernel) rfl
set_option maxRecDepth 50000 in
theorem gX7_reaches_160 : (∀ (X : tX) (d : Nat) (x0 : Nat) (x1 : Int32) (x2 : Int32) (x3 : Int32) (x4 : Int32) (x5 : Int32) (x6 : Int64) (x8 : Int32) (σ : rS) (Q : tQ), Ex X d mX7_reaches 160 [.ref x0, .int x1, .int x2, .int x3, .int x4, .int x5, .long x6, rU, .int x8] [] σ Q = Ex X d mX7_reaches 162 [.ref x0, .int x1, .int x2, .int x3, .int x4, .int x5, .long x6, rU, .int x8] [.int x4] σ Q) ∧
  (∀ (X : tX) (d : Nat) (x0 : Nat) (x1 : Int32) (x2 : Int32) (x3 : Int32) (x4 : Int32) (x5 : Int32) (x6 : Int64) (x8 : Int32) (s0 : Int32) (σ : rS) (Q : tQ), Ex X d mX7_reaches 162 [.ref x0, .int x1, .int x2, .int x3, .int x4, .int x5, .long x6, rU, .int x8] [.int s0] σ Q = Q (some (.int s0)) σ) := ⟨fun X d x0 x1 x2 x3 x4 x5 x6 x8 σ Q => ex_P (i := .iload 4) (len := 2) (by decide +kernel) rfl,
  fun X d x0 x1 x2 x3 x4 x5 x6 x8 s0 σ Q => q_retI (by decide +kernel) rfl⟩
set_option maxRecDepth 50000 in
theorem gX7_reaches_163 : (∀ (X : tX) (d : Nat) (x0 : Nat) (x1 : Int32) (x2 : Int32) (x3 : Int32) (x4 : Int32) (x5 : Int32) (x6 : Int64) (x8 : Int32) (σ : rS) (Q : tQ), Ex X d mX7_reaches 163 [.ref x0, .int x1, .int x2, .int x3, .int x4, .int x5, .long x6, rU, .int x8] [] σ Q = Ex X d mX7_reaches 164 [.ref x0, .int x1, .int x2, .int x3, .int x4, .int x5, .long x6, rU, .int x8] [.ref x0] σ Q) ∧
  (∀ (X : tX) (d : Nat) (x0 : Nat) (x1 : Int32) (x2 : Int32) (x3 : Int32) (x4 : Int32) (x5 : Int32) (x6 : Int64) (x8 : Int32) (s0 : Nat) (σ : rS) (Q : tQ), Ex X d mX7_reaches 164 [.ref x0, .int x1, .int x2, .int x3, .int x4, .int x5, .long x6, rU, .int x8] [.ref s0] σ Q = Ex X d mX7_reaches 165 [.ref x0, .int x1, .int x2, .int x3, .int x4, .int x5, .long x6, rU, .int x8] [.ref x0, .ref s0] σ Q) ∧
  (∀ (X : tX) (d : Nat) (x0 : Nat) (x1 : Int32) (x2 : Int32) (x3 : Int32) (x4 : Int32) (x5 : Int32) (x6 : Int64) (x8 : Int32) (s0 : Nat) (s1 : Nat) (σ : rS) (Q : tQ), Ex X d mX7_reaches 165 [.ref x0, .int x1, .int x2, .int x3, .int x4, .int x5, .long x6, rU, .int x8] [.ref s0, .ref s1] σ Q = Ex X d mX7_reaches 166 [.ref x0, .int x1, .int x2, .int x3, .int x4, .int x5, .long x6, rU, .int x8] [.int x1, .ref s0, .ref s1] σ Q) ∧
  (∀ (X : tX) (d : Nat) (x0 : Nat) (x1 : Int32) (x2 : Int32) (x3 : Int32) (x4 : Int32) (x5 : Int32) (x6 : Int64) (x8 : Int32) (s0 : Int32) (s1 : Nat) (s2 : Nat) (σ : rS) (Q : tQ), Ex X d mX7_reaches 166 [.ref x0, .int x1, .int x2, .int x3, .int x4, .int x5, .long x6, rU, .int x8] [.int s0, .ref s1, .ref s2] σ Q = Ex X d mX7_reaches 168 [.ref x0, .int x1, .int x2, .int x3, .int x4, .int x5, .long x6, rU, .int x8] [.int x8, .int s0, .ref s1, .ref s2] σ Q) ∧
  (∀ (X : tX) (d : Nat) (x0 : Nat) (x1 : Int32) (x2 : Int32) (x3 : Int32) (x4 : Int32) (x5 : Int32) (x6 : Int64) (x8 : Int32) (s0 : Int32) (s1 : Int32) (s2 : Nat) (s3 : Nat) (T : tT) (I : tI) (J : tJ) (R : tR) (Q : tQ), Ex X (d + 1) mX7_reaches 168 [.ref x0, .int x1, .int x2, .int x3, .int x4, .int x5, .long x6, rU, .int x8] [.int s0, .int s1, .ref s2, .ref s3] (T, I, J, R) Q = (T[s2]? = some (3, 7) ∧ Ex X d mX7_toldAt 0 [.ref s2, .int s1, .int s0] [] (T, I, J, R) (fun v σ1 => Ex X (d + 1) mX7_reaches 171 [.ref x0, .int x1, .int x2, .int x3, .int x4, .int x5, .long x6, rU, .int x8] (v.toList ++ [.ref s3]) σ1 Q))) := ⟨fun X d x0 x1 x2 x3 x4 x5 x6 x8 σ Q => ex_P (i := .aload_n 0) (len := 1) (by decide +kernel) rfl,
  fun X d x0 x1 x2 x3 x4 x5 x6 x8 s0 σ Q => ex_P (i := .aload_n 0) (len := 1) (by decide +kernel) rfl,
  fun X d x0 x1 x2 x3 x4 x5 x6 x8 s0 s1 σ Q => ex_P (i := .iload_n 1) (len := 1) (by decide +kernel) rfl,
  fun X d x0 x1 x2 x3 x4 x5 x6 x8 s0 s1 s2 σ Q => ex_P (i := .iload 8) (len := 2) (by decide +kernel) rfl,
  fun X d x0 x1 x2 x3 x4 x5 x6 x8 s0 s1 s2 s3 T I J R Q => q_callV (k := 115) (as := [.int s1, .int s0]) (st := [.ref s3]) (show rlk mX7_reaches.2.2.2.2.2.2 168 = some (.invokevirtual 115, 3) from by decide +kernel) rfl rfl rfl (Nat.le_of_ble_eq_true rfl) (Nat.le_of_ble_eq_true rfl) rfl⟩
set_option maxRecDepth 50000 in
theorem gX7_reaches_171 : (∀ (X : tX) (d : Nat) (x0 : Nat) (x1 : Int32) (x2 : Int32) (x3 : Int32) (x4 : Int32) (x5 : Int32) (x6 : Int64) (x8 : Int32) (s0 : Int32) (s1 : Nat) (σ : rS) (Q : tQ), Ex X d mX7_reaches 171 [.ref x0, .int x1, .int x2, .int x3, .int x4, .int x5, .long x6, rU, .int x8] [.int s0, .ref s1] σ Q = Ex X d mX7_reaches 172 [.ref x0, .int x1, .int x2, .int x3, .int x4, .int x5, .long x6, rU, .int x8] [.ref x0, .int s0, .ref s1] σ Q) ∧
  (∀ (X : tX) (d : Nat) (x0 : Nat) (x1 : Int32) (x2 : Int32) (x3 : Int32) (x4 : Int32) (x5 : Int32) (x6 : Int64) (x8 : Int32) (s0 : Nat) (s1 : Int32) (s2 : Nat) (σ : rS) (Q : tQ), Ex X d mX7_reaches 172 [.ref x0, .int x1, .int x2, .int x3, .int x4, .int x5, .long x6, rU, .int x8] [.ref s0, .int s1, .ref s2] σ Q = Ex X d mX7_reaches 173 [.ref x0, .int x1, .int x2, .int x3, .int x4, .int x5, .long x6, rU, .int x8] [.int x1, .ref s0, .int s1, .ref s2] σ Q) ∧
  (∀ (X : tX) (d : Nat) (x0 : Nat) (x1 : Int32) (x2 : Int32) (x3 : Int32) (x4 : Int32) (x5 : Int32) (x6 : Int64) (x8 : Int32) (s0 : Int32) (s1 : Nat) (s2 : Int32) (s3 : Nat) (σ : rS) (Q : tQ), Ex X d mX7_reaches 173 [.ref x0, .int x1, .int x2, .int x3, .int x4, .int x5, .long x6, rU, .int x8] [.int s0, .ref s1, .int s2, .ref s3] σ Q = Ex X d mX7_reaches 175 [.ref x0, .int x1, .int x2, .int x3, .int x4, .int x5, .long x6, rU, .int x8] [.int x8, .int s0, .ref s1, .int s2, .ref s3] σ Q) ∧
  (∀ (X : tX) (d : Nat) (x0 : Nat) (x1 : Int32) (x2 : Int32) (x3 : Int32) (x4 : Int32) (x5 : Int32) (x6 : Int64) (x8 : Int32) (s0 : Int32) (s1 : Int32) (s2 : Nat) (s3 : Int32) (s4 : Nat) (σ : rS) (Q : tQ), Ex X d mX7_reaches 175 [.ref x0, .int x1, .int x2, .int x3, .int x4, .int x5, .long x6, rU, .int x8] [.int s0, .int s1, .ref s2, .int s3, .ref s4] σ Q = Ex X d mX7_reaches 176 [.ref x0, .int x1, .int x2, .int x3, .int x4, .int x5, .long x6, rU, .int x8] [.int 1, .int s0, .int s1, .ref s2, .int s3, .ref s4] σ Q) ∧
  (∀ (X : tX) (d : Nat) (x0 : Nat) (x1 : Int32) (x2 : Int32) (x3 : Int32) (x4 : Int32) (x5 : Int32) (x6 : Int64) (x8 : Int32) (s0 : Int32) (s1 : Int32) (s2 : Int32) (s3 : Nat) (s4 : Int32) (s5 : Nat) (σ : rS) (Q : tQ), Ex X d mX7_reaches 176 [.ref x0, .int x1, .int x2, .int x3, .int x4, .int x5, .long x6, rU, .int x8] [.int s0, .int s1, .int s2, .ref s3, .int s4, .ref s5] σ Q = Ex X d mX7_reaches 177 [.ref x0, .int x1, .int x2, .int x3, .int x4, .int x5, .long x6, rU, .int x8] [.int (s1 + s0), .int s2, .ref s3, .int s4, .ref s5] σ Q) ∧
  (∀ (X : tX) (d : Nat) (x0 : Nat) (x1 : Int32) (x2 : Int32) (x3 : Int32) (x4 : Int32) (x5 : Int32) (x6 : Int64) (x8 : Int32) (s0 : Int32) (s1 : Int32) (s2 : Nat) (s3 : Int32) (s4 : Nat) (T : tT) (I : tI) (J : tJ) (R : tR) (Q : tQ), Ex X (d + 1) mX7_reaches 177 [.ref x0, .int x1, .int x2, .int x3, .int x4, .int x5, .long x6, rU, .int x8] [.int s0, .int s1, .ref s2, .int s3, .ref s4] (T, I, J, R) Q = (T[s2]? = some (3, 7) ∧ Ex X d mX7_toldAt 0 [.ref s2, .int s1, .int s0] [] (T, I, J, R) (fun v σ1 => Ex X (d + 1) mX7_reaches 180 [.ref x0, .int x1, .int x2, .int x3, .int x4, .int x5, .long x6, rU, .int x8] (v.toList ++ [.int s3, .ref s4]) σ1 Q))) := ⟨fun X d x0 x1 x2 x3 x4 x5 x6 x8 s0 s1 σ Q => ex_P (i := .aload_n 0) (len := 1) (by decide +kernel) rfl,
  fun X d x0 x1 x2 x3 x4 x5 x6 x8 s0 s1 s2 σ Q => ex_P (i := .iload_n 1) (len := 1) (by decide +kernel) rfl,
  fun X d x0 x1 x2 x3 x4 x5 x6 x8 s0 s1 s2 s3 σ Q => ex_P (i := .iload 8) (len := 2) (by decide +kernel) rfl,
  fun X d x0 x1 x2 x3 x4 x5 x6 x8 s0 s1 s2 s3 s4 σ Q => ex_P (i := .iconst 1) (len := 1) (by decide +kernel) rfl,
  fun X d x0 x1 x2 x3 x4 x5 x6 x8 s0 s1 s2 s3 s4 s5 σ Q => ex_P (i := .iadd) (len := 1) (by decide +kernel) rfl,
  fun X d x0 x1 x2 x3 x4 x5 x6 x8 s0 s1 s2 s3 s4 T I J R Q => q_callV (k := 115) (as := [.int s1, .int s0]) (st := [.int s3, .ref s4]) (show rlk mX7_reaches.2.2.2.2.2.2 177 = some (.invokevirtual 115, 3) from by decide +kernel) rfl rfl rfl (Nat.le_of_ble_eq_true rfl) (Nat.le_of_ble_eq_true rfl) rfl⟩
set_option maxRecDepth 50000 in
theorem gX7_reaches_180 : (∀ (X : tX) (d : Nat) (x0 : Nat) (x1 : Int32) (x2 : Int32) (x3 : Int32) (x4 : Int32) (x5 : Int32) (x6 : Int64) (x8 : Int32) (s0 : Int32) (s1 : Int32) (s2 : Nat) (σ : rS) (Q : tQ), Ex X d mX7_reaches 180 [.ref x0, .int x1, .int x2, .int x3, .int x4, .int x5, .long x6, rU, .int x8] [.int s0, .int s1, .ref s2] σ Q = Ex X d mX7_reaches 181 [.ref x0, .int x1, .int x2, .int x3, .int x4, .int x5, .long x6, rU, .int x8] [.ref x0, .int s0, .int s1, .ref s2] σ Q) ∧
  (∀ (X : tX) (d : Nat) (x0 : Nat) (x1 : Int32) (x2 : Int32) (x3 : Int32) (x4 : Int32) (x5 : Int32) (x6 : Int64) (x8 : Int32) (s0 : Nat) (s1 : Int32) (s2 : Int32) (s3 : Nat) (σ : rS) (Q : tQ), Ex X d mX7_reaches 181 [.ref x0, .int x1, .int x2, .int x3, .int x4, .int x5, .long x6, rU, .int x8] [.ref s0, .int s1, .int s2, .ref s3] σ Q = Ex X d mX7_reaches 182 [.ref x0, .int x1, .int x2, .int x3, .int x4, .int x5, .long x6, rU, .int x8] [.int x1, .ref s0, .int s1, .int s2, .ref s3] σ Q) ∧
  (∀ (X : tX) (d : Nat) (x0 : Nat) (x1 : Int32) (x2 : Int32) (x3 : Int32) (x4 : Int32) (x5 : Int32) (x6 : Int64) (x8 : Int32) (s0 : Int32) (s1 : Nat) (s2 : Int32) (s3 : Int32) (s4 : Nat) (σ : rS) (Q : tQ), Ex X d mX7_reaches 182 [.ref x0, .int x1, .int x2, .int x3, .int x4, .int x5, .long x6, rU, .int x8] [.int s0, .ref s1, .int s2, .int s3, .ref s4] σ Q = Ex X d mX7_reaches 184 [.ref x0, .int x1, .int x2, .int x3, .int x4, .int x5, .long x6, rU, .int x8] [.int x8, .int s0, .ref s1, .int s2, .int s3, .ref s4] σ Q) ∧
  (∀ (X : tX) (d : Nat) (x0 : Nat) (x1 : Int32) (x2 : Int32) (x3 : Int32) (x4 : Int32) (x5 : Int32) (x6 : Int64) (x8 : Int32) (s0 : Int32) (s1 : Int32) (s2 : Nat) (s3 : Int32) (s4 : Int32) (s5 : Nat) (σ : rS) (Q : tQ), Ex X d mX7_reaches 184 [.ref x0, .int x1, .int x2, .int x3, .int x4, .int x5, .long x6, rU, .int x8] [.int s0, .int s1, .ref s2, .int s3, .int s4, .ref s5] σ Q = Ex X d mX7_reaches 185 [.ref x0, .int x1, .int x2, .int x3, .int x4, .int x5, .long x6, rU, .int x8] [.int 2, .int s0, .int s1, .ref s2, .int s3, .int s4, .ref s5] σ Q) ∧
  (∀ (X : tX) (d : Nat) (x0 : Nat) (x1 : Int32) (x2 : Int32) (x3 : Int32) (x4 : Int32) (x5 : Int32) (x6 : Int64) (x8 : Int32) (s0 : Int32) (s1 : Int32) (s2 : Int32) (s3 : Nat) (s4 : Int32) (s5 : Int32) (s6 : Nat) (σ : rS) (Q : tQ), Ex X d mX7_reaches 185 [.ref x0, .int x1, .int x2, .int x3, .int x4, .int x5, .long x6, rU, .int x8] [.int s0, .int s1, .int s2, .ref s3, .int s4, .int s5, .ref s6] σ Q = Ex X d mX7_reaches 186 [.ref x0, .int x1, .int x2, .int x3, .int x4, .int x5, .long x6, rU, .int x8] [.int (s1 + s0), .int s2, .ref s3, .int s4, .int s5, .ref s6] σ Q) ∧
  (∀ (X : tX) (d : Nat) (x0 : Nat) (x1 : Int32) (x2 : Int32) (x3 : Int32) (x4 : Int32) (x5 : Int32) (x6 : Int64) (x8 : Int32) (s0 : Int32) (s1 : Int32) (s2 : Nat) (s3 : Int32) (s4 : Int32) (s5 : Nat) (T : tT) (I : tI) (J : tJ) (R : tR) (Q : tQ), Ex X (d + 1) mX7_reaches 186 [.ref x0, .int x1, .int x2, .int x3, .int x4, .int x5, .long x6, rU, .int x8] [.int s0, .int s1, .ref s2, .int s3, .int s4, .ref s5] (T, I, J, R) Q = (T[s2]? = some (3, 7) ∧ Ex X d mX7_toldAt 0 [.ref s2, .int s1, .int s0] [] (T, I, J, R) (fun v σ1 => Ex X (d + 1) mX7_reaches 189 [.ref x0, .int x1, .int x2, .int x3, .int x4, .int x5, .long x6, rU, .int x8] (v.toList ++ [.int s3, .int s4, .ref s5]) σ1 Q))) := ⟨fun X d x0 x1 x2 x3 x4 x5 x6 x8 s0 s1 s2 σ Q => ex_P (i := .aload_n 0) (len := 1) (by decide +kernel) rfl,
  fun X d x0 x1 x2 x3 x4 x5 x6 x8 s0 s1 s2 s3 σ Q => ex_P (i := .iload_n 1) (len := 1) (by decide +kernel) rfl,
  fun X d x0 x1 x2 x3 x4 x5 x6 x8 s0 s1 s2 s3 s4 σ Q => ex_P (i := .iload 8) (len := 2) (by decide +kernel) rfl,
  fun X d x0 x1 x2 x3 x4 x5 x6 x8 s0 s1 s2 s3 s4 s5 σ Q => ex_P (i := .iconst 2) (len := 1) (by decide +kernel) rfl,
  fun X d x0 x1 x2 x3 x4 x5 x6 x8 s0 s1 s2 s3 s4 s5 s6 σ Q => ex_P (i := .iadd) (len := 1) (by decide +kernel) rfl,
  fun X d x0 x1 x2 x3 x4 x5 x6 x8 s0 s1 s2 s3 s4 s5 T I J R Q => q_callV (k := 115) (as := [.int s1, .int s0]) (st := [.int s3, .int s4, .ref s5]) (show rlk mX7_reaches.2.2.2.2.2.2 186 = some (.invokevirtual 115, 3) from by decide +kernel) rfl rfl rfl (Nat.le_of_ble_eq_true rfl) (Nat.le_of_ble_eq_true rfl) rfl⟩
set_option maxRecDepth 50000 in
theorem gX7_reaches_189 : (∀ (X : tX) (d : Nat) (x0 : Nat) (x1 : Int32) (x2 : Int32) (x3 : Int32) (x4 : Int32) (x5 : Int32) (x6 : Int64) (x8 : Int32) (s0 : Int32) (s1 : Int32) (s2 : Int32) (s3 : Nat) (T : tT) (I : tI) (J : tJ) (R : tR) (Q : tQ), Ex X (d + 1) mX7_reaches 189 [.ref x0, .int x1, .int x2, .int x3, .int x4, .int x5, .long x6, rU, .int x8] [.int s0, .int s1, .int s2, .ref s3] (T, I, J, R) Q = (T[s3]? = some (3, 7) ∧ Ex X d mX7_newOne 0 [.ref s3, .int s2, .int s1, .int s0] [] (T, I, J, R) (fun v σ1 => Ex X (d + 1) mX7_reaches 192 [.ref x0, .int x1, .int x2, .int x3, .int x4, .int x5, .long x6, rU, .int x8] (v.toList ++ []) σ1 Q))) := fun X d x0 x1 x2 x3 x4 x5 x6 x8 s0 s1 s2 s3 T I J R Q => q_callV (k := 105) (as := [.int s2, .int s1, .int s0]) (st := []) (show rlk mX7_reaches.2.2.2.2.2.2 189 = some (.invokevirtual 105, 3) from by decide +kernel) rfl rfl rfl (Nat.le_of_ble_eq_true rfl) (Nat.le_of_ble_eq_true rfl) rfl
set_option maxRecDepth 50000 in
theorem gX7_reaches_192 : (∀ (X : tX) (d : Nat) (x0 : Nat) (x1 : Int32) (x2 : Int32) (x3 : Int32) (x4 : Int32) (x5 : Int32) (x6 : Int64) (x8 : Int32) (s0 : Int32) (σ : rS) (Q : tQ), Ex X d mX7_reaches 192 [.ref x0, .int x1, .int x2, .int x3, .int x4, .int x5, .long x6, rU, .int x8] [.int s0] σ Q = Ex X d mX7_reaches 193 [.ref x0, .int x1, .int x2, .int x3, .int x4, .int x5, .long x6, rU, .int x8] [] σ Q) ∧
  (∀ (X : tX) (d : Nat) (x0 : Nat) (x1 : Int32) (x2 : Int32) (x3 : Int32) (x4 : Int32) (x5 : Int32) (x6 : Int64) (x8 : Int32) (σ : rS) (Q : tQ), Ex X d mX7_reaches 193 [.ref x0, .int x1, .int x2, .int x3, .int x4, .int x5, .long x6, rU, .int x8] [] σ Q = Ex X d mX7_reaches 196 [.ref x0, .int x1, .int x2, .int x3, .int (x4 + 1), .int x5, .long x6, rU, .int x8] [] σ Q) ∧
  (∀ (X : tX) (d : Nat) (x0 : Nat) (x1 : Int32) (x2 : Int32) (x3 : Int32) (x4 : Int32) (x5 : Int32) (x6 : Int64) (x8 : Int32) (σ : rS) (Q : tQ), Ex X d mX7_reaches 196 [.ref x0, .int x1, .int x2, .int x3, .int x4, .int x5, .long x6, rU, .int x8] [] σ Q = Ex X d mX7_reaches 199 [.ref x0, .int x1, .int x2, .int x3, .int x4, .int (x5 + 1), .long x6, rU, .int x8] [] σ Q) ∧
  (∀ (X : tX) (d : Nat) (x0 : Nat) (x1 : Int32) (x2 : Int32) (x3 : Int32) (x4 : Int32) (x5 : Int32) (x6 : Int64) (x8 : Int32) (σ : rS) (Q : tQ), Ex X d mX7_reaches 199 [.ref x0, .int x1, .int x2, .int x3, .int x4, .int x5, .long x6, rU, .int x8] [] σ Q = Ex X d mX7_reaches 49 [.ref x0, .int x1, .int x2, .int x3, .int x4, .int x5, .long x6, rU, .int x8] [] σ Q) := ⟨fun X d x0 x1 x2 x3 x4 x5 x6 x8 s0 σ Q => ex_P (i := .pop) (len := 1) (by decide +kernel) rfl,
  fun X d x0 x1 x2 x3 x4 x5 x6 x8 σ Q => ex_P (i := .iinc 4 1) (len := 3) (by decide +kernel) rfl,
  fun X d x0 x1 x2 x3 x4 x5 x6 x8 σ Q => ex_P (i := .iinc 5 1) (len := 3) (by decide +kernel) rfl,
  fun X d x0 x1 x2 x3 x4 x5 x6 x8 σ Q => q_goto (o := (-150)) (by decide +kernel) rfl⟩
set_option maxRecDepth 50000 in
theorem gX7_reaches_202 : (∀ (X : tX) (d : Nat) (x0 : Nat) (x1 : Int32) (x2 : Int32) (x3 : Int32) (x4 : Int32) (x5 : Int32) (v6 : Value) (v8 : Value) (σ : rS) (Q : tQ), Ex X d mX7_reaches 202 [.ref x0, .int x1, .int x2, .int x3, .int x4, .int x5, v6, rU, v8] [] σ Q = Ex X d mX7_reaches 204 [.ref x0, .int x1, .int x2, .int x3, .int x4, .int x5, v6, rU, v8] [.int x4] σ Q) ∧
  (∀ (X : tX) (d : Nat) (x0 : Nat) (x1 : Int32) (x2 : Int32) (x3 : Int32) (x4 : Int32) (x5 : Int32) (v6 : Value) (v8 : Value) (s0 : Int32) (σ : rS) (Q : tQ), Ex X d mX7_reaches 204 [.ref x0, .int x1, .int x2, .int x3, .int x4, .int x5, v6, rU, v8] [.int s0] σ Q = Q (some (.int s0)) σ) := ⟨fun X d x0 x1 x2 x3 x4 x5 v6 v8 σ Q => ex_P (i := .iload 4) (len := 2) (by decide +kernel) rfl,
  fun X d x0 x1 x2 x3 x4 x5 v6 v8 s0 σ Q => q_retI (by decide +kernel) rfl⟩
set_option maxRecDepth 50000 in
theorem gX7_toldAt_0 : (∀ (X : tX) (d : Nat) (x0 : Nat) (x1 : Int32) (x2 : Int32) (σ : rS) (Q : tQ), Ex X d mX7_toldAt 0 [.ref x0, .int x1, .int x2] [] σ Q = Ex X d mX7_toldAt 1 [.ref x0, .int x1, .int x2] [.ref x0] σ Q) ∧
  (∀ (X : tX) (d : Nat) (x0 : Nat) (x1 : Int32) (x2 : Int32) (s0 : Nat) (T : tT) (I : tI) (J : tJ) (R : tR) (Q : tQ), Ex X d mX7_toldAt 1 [.ref x0, .int x1, .int x2] [.ref s0] (T, I, J, R) Q = (T[s0]? = some (3, 7) ∧ Ex X d mX7_toldAt 4 [.ref x0, .int x1, .int x2] [va_rf (R s0 36)] (T, I, J, R) Q)) ∧
  (∀ (X : tX) (d : Nat) (x0 : Nat) (x1 : Int32) (x2 : Int32) (s0 : Nat) (σ : rS) (Q : tQ), Ex X d mX7_toldAt 4 [.ref x0, .int x1, .int x2] [.ref s0] σ Q = Ex X d mX7_toldAt 6 [.ref x0, .int x1, .int x2] [.int 60, .ref s0] σ Q) ∧
  (∀ (X : tX) (d : Nat) (x0 : Nat) (x1 : Int32) (x2 : Int32) (s0 : Int32) (s1 : Nat) (σ : rS) (Q : tQ), Ex X d mX7_toldAt 6 [.ref x0, .int x1, .int x2] [.int s0, .ref s1] σ Q = Ex X d mX7_toldAt 7 [.ref x0, .int x1, .int x2] [.int x1, .int s0, .ref s1] σ Q) ∧
  (∀ (X : tX) (d : Nat) (x0 : Nat) (x1 : Int32) (x2 : Int32) (s0 : Int32) (s1 : Int32) (s2 : Nat) (σ : rS) (Q : tQ), Ex X d mX7_toldAt 7 [.ref x0, .int x1, .int x2] [.int s0, .int s1, .ref s2] σ Q = Ex X d mX7_toldAt 8 [.ref x0, .int x1, .int x2] [.int (s1 * s0), .ref s2] σ Q) ∧
  (∀ (X : tX) (d : Nat) (x0 : Nat) (x1 : Int32) (x2 : Int32) (s0 : Int32) (s1 : Nat) (σ : rS) (Q : tQ), Ex X d mX7_toldAt 8 [.ref x0, .int x1, .int x2] [.int s0, .ref s1] σ Q = Ex X d mX7_toldAt 9 [.ref x0, .int x1, .int x2] [.int x2, .int s0, .ref s1] σ Q) ∧
  (∀ (X : tX) (d : Nat) (x0 : Nat) (x1 : Int32) (x2 : Int32) (s0 : Int32) (s1 : Int32) (s2 : Nat) (σ : rS) (Q : tQ), Ex X d mX7_toldAt 9 [.ref x0, .int x1, .int x2] [.int s0, .int s1, .ref s2] σ Q = Ex X d mX7_toldAt 10 [.ref x0, .int x1, .int x2] [.int (s1 + s0), .ref s2] σ Q) ∧
  (∀ (X : tX) (d : Nat) (x0 : Nat) (x1 : Int32) (x2 : Int32) (s0 : Int32) (s1 : Nat) (T : tT) (I : tI) (J : tJ) (R : tR) (Q : tQ), Ex X d mX7_toldAt 10 [.ref x0, .int x1, .int x2] [.int s0, .ref s1] (T, I, J, R) Q = (rIn T s1 1 s0 ∧ Ex X d mX7_toldAt 11 [.ref x0, .int x1, .int x2] [.long (J s1 s0.toNatClampNeg)] (T, I, J, R) Q)) ∧
  (∀ (X : tX) (d : Nat) (x0 : Nat) (x1 : Int32) (x2 : Int32) (s0 : Int64) (σ : rS) (Q : tQ), Ex X d mX7_toldAt 11 [.ref x0, .int x1, .int x2] [.long s0] σ Q = Ex X d mX7_toldAt 12 [.ref x0, .int x1, .int x2] [.int s0.toInt32] σ Q) ∧
  (∀ (X : tX) (d : Nat) (x0 : Nat) (x1 : Int32) (x2 : Int32) (s0 : Int32) (σ : rS) (Q : tQ), Ex X d mX7_toldAt 12 [.ref x0, .int x1, .int x2] [.int s0] σ Q = Q (some (.int s0)) σ) := ⟨fun X d x0 x1 x2 σ Q => ex_P (i := .aload_n 0) (len := 1) (by decide +kernel) rfl,
  fun X d x0 x1 x2 s0 T I J R Q => q_getR (k := 78) (by decide +kernel) rfl rfl,
  fun X d x0 x1 x2 s0 σ Q => ex_P (i := .bipush 60) (len := 2) (by decide +kernel) rfl,
  fun X d x0 x1 x2 s0 s1 σ Q => ex_P (i := .iload_n 1) (len := 1) (by decide +kernel) rfl,
  fun X d x0 x1 x2 s0 s1 s2 σ Q => ex_P (i := .imul) (len := 1) (by decide +kernel) rfl,
  fun X d x0 x1 x2 s0 s1 σ Q => ex_P (i := .iload_n 2) (len := 1) (by decide +kernel) rfl,
  fun X d x0 x1 x2 s0 s1 s2 σ Q => ex_P (i := .iadd) (len := 1) (by decide +kernel) rfl,
  fun X d x0 x1 x2 s0 s1 T I J R Q => q_lald (by decide +kernel),
  fun X d x0 x1 x2 s0 σ Q => ex_P (i := .l2i) (len := 1) (by decide +kernel) rfl,
  fun X d x0 x1 x2 s0 σ Q => q_retI (by decide +kernel) rfl⟩
set_option maxRecDepth 50000 in
theorem gX7_isOf_0 : (∀ (X : tX) (d : Nat) (x0 : Nat) (x1 : Int32) (x2 : Int32) (σ : rS) (Q : tQ), Ex X d mX7_isOf 0 [.ref x0, .int x1, .int x2] [] σ Q = Ex X d mX7_isOf 1 [.ref x0, .int x1, .int x2] [.int x2] σ Q) ∧
  (∀ (X : tX) (d : Nat) (x0 : Nat) (x1 : Int32) (x2 : Int32) (s0 : Int32) (σ : rS) (Q : tQ), Ex X d mX7_isOf 1 [.ref x0, .int x1, .int x2] [.int s0] σ Q = Ex X d mX7_isOf 2 [.ref x0, .int x1, .int x2] [.int 0, .int s0] σ Q) ∧
  (∀ (X : tX) (d : Nat) (x0 : Nat) (x1 : Int32) (x2 : Int32) (s0 : Int32) (s1 : Int32) (σ : rS) (Q : tQ), Ex X d mX7_isOf 2 [.ref x0, .int x1, .int x2] [.int s0, .int s1] σ Q = Ex X d mX7_isOf 3 [.ref x0, .int x1, .int x2] [.int 3, .int s0, .int s1] σ Q) ∧
  (∀ (X : tX) (d : Nat) (x0 : Nat) (x1 : Int32) (x2 : Int32) (s0 : Int32) (s1 : Int32) (s2 : Int32) (σ : rS) (Q : tQ), Ex X (d + 1) mX7_isOf 3 [.ref x0, .int x1, .int x2] [.int s0, .int s1, .int s2] σ Q = Ex X d mX7_within 0 [.int s2, .int s1, .int s0] [] σ (fun v σ1 => Ex X (d + 1) mX7_isOf 6 [.ref x0, .int x1, .int x2] (v.toList ++ []) σ1 Q)) := ⟨fun X d x0 x1 x2 σ Q => ex_P (i := .iload_n 2) (len := 1) (by decide +kernel) rfl,
  fun X d x0 x1 x2 s0 σ Q => ex_P (i := .iconst 0) (len := 1) (by decide +kernel) rfl,
  fun X d x0 x1 x2 s0 s1 σ Q => ex_P (i := .iconst 3) (len := 1) (by decide +kernel) rfl,
  fun X d x0 x1 x2 s0 s1 s2 σ Q => q_callS (k := 101) (as := [.int s2, .int s1, .int s0]) (st := []) (show rlk mX7_isOf.2.2.2.2.2.2 3 = some (.invokestatic 101, 3) from by decide +kernel) rfl (Or.inl rfl) rfl rfl rfl rfl rfl (Nat.le_of_ble_eq_true rfl) (Nat.le_of_ble_eq_true rfl) rfl⟩
set_option maxRecDepth 50000 in
theorem gX7_isOf_6 : (∀ (X : tX) (d : Nat) (x0 : Nat) (x1 : Int32) (x2 : Int32) (s0 : Int32) (σ : rS) (Q : tQ), Ex X d mX7_isOf 6 [.ref x0, .int x1, .int x2] [.int s0] σ Q = (if s0 = 0 then Ex X d mX7_isOf 17 [.ref x0, .int x1, .int x2] [] σ Q else Ex X d mX7_isOf 9 [.ref x0, .int x1, .int x2] [] σ Q)) := fun X d x0 x1 x2 s0 σ Q => q_if_eq (o := 11) (by decide +kernel) rfl
set_option maxRecDepth 50000 in
theorem gX7_isOf_9 : (∀ (X : tX) (d : Nat) (x0 : Nat) (x1 : Int32) (x2 : Int32) (σ : rS) (Q : tQ), Ex X d mX7_isOf 9 [.ref x0, .int x1, .int x2] [] σ Q = Ex X d mX7_isOf 10 [.ref x0, .int x1, .int x2] [.ref x0] σ Q) ∧
  (∀ (X : tX) (d : Nat) (x0 : Nat) (x1 : Int32) (x2 : Int32) (s0 : Nat) (σ : rS) (Q : tQ), Ex X d mX7_isOf 10 [.ref x0, .int x1, .int x2] [.ref s0] σ Q = Ex X d mX7_isOf 11 [.ref x0, .int x1, .int x2] [.int x1, .ref s0] σ Q) ∧
  (∀ (X : tX) (d : Nat) (x0 : Nat) (x1 : Int32) (x2 : Int32) (s0 : Int32) (s1 : Nat) (T : tT) (I : tI) (J : tJ) (R : tR) (Q : tQ), Ex X (d + 1) mX7_isOf 11 [.ref x0, .int x1, .int x2] [.int s0, .ref s1] (T, I, J, R) Q = (T[s1]? = some (3, 7) ∧ Ex X d mX7_isOne 0 [.ref s1, .int s0] [] (T, I, J, R) (fun v σ1 => Ex X (d + 1) mX7_isOf 14 [.ref x0, .int x1, .int x2] (v.toList ++ []) σ1 Q))) := ⟨fun X d x0 x1 x2 σ Q => ex_P (i := .aload_n 0) (len := 1) (by decide +kernel) rfl,
  fun X d x0 x1 x2 s0 σ Q => ex_P (i := .iload_n 1) (len := 1) (by decide +kernel) rfl,
  fun X d x0 x1 x2 s0 s1 T I J R Q => q_callV (k := 119) (as := [.int s0]) (st := []) (show rlk mX7_isOf.2.2.2.2.2.2 11 = some (.invokevirtual 119, 3) from by decide +kernel) rfl rfl rfl (Nat.le_of_ble_eq_true rfl) (Nat.le_of_ble_eq_true rfl) rfl⟩
set_option maxRecDepth 50000 in
theorem gX7_isOf_14 : (∀ (X : tX) (d : Nat) (x0 : Nat) (x1 : Int32) (x2 : Int32) (s0 : Int32) (σ : rS) (Q : tQ), Ex X d mX7_isOf 14 [.ref x0, .int x1, .int x2] [.int s0] σ Q = Ex X d mX7_isOf 51 [.ref x0, .int x1, .int x2] [.int s0] σ Q) := fun X d x0 x1 x2 s0 σ Q => q_goto (o := 37) (by decide +kernel) rfl
set_option maxRecDepth 50000 in
theorem gX7_isOf_17 : (∀ (X : tX) (d : Nat) (x0 : Nat) (x1 : Int32) (x2 : Int32) (σ : rS) (Q : tQ), Ex X d mX7_isOf 17 [.ref x0, .int x1, .int x2] [] σ Q = Ex X d mX7_isOf 18 [.ref x0, .int x1, .int x2] [.int x2] σ Q) ∧
  (∀ (X : tX) (d : Nat) (x0 : Nat) (x1 : Int32) (x2 : Int32) (s0 : Int32) (σ : rS) (Q : tQ), Ex X d mX7_isOf 18 [.ref x0, .int x1, .int x2] [.int s0] σ Q = Ex X d mX7_isOf 19 [.ref x0, .int x1, .int x2] [.int 4, .int s0] σ Q) ∧
  (∀ (X : tX) (d : Nat) (x0 : Nat) (x1 : Int32) (x2 : Int32) (s0 : Int32) (s1 : Int32) (σ : rS) (Q : tQ), Ex X d mX7_isOf 19 [.ref x0, .int x1, .int x2] [.int s0, .int s1] σ Q = (if s1 = s0 then Ex X d mX7_isOf 22 [.ref x0, .int x1, .int x2] [] σ Q else Ex X d mX7_isOf 32 [.ref x0, .int x1, .int x2] [] σ Q)) := ⟨fun X d x0 x1 x2 σ Q => ex_P (i := .iload_n 2) (len := 1) (by decide +kernel) rfl,
  fun X d x0 x1 x2 s0 σ Q => ex_P (i := .iconst 4) (len := 1) (by decide +kernel) rfl,
  fun X d x0 x1 x2 s0 s1 σ Q => q_icmp_ne (o := 13) (by decide +kernel) rfl⟩
set_option maxRecDepth 50000 in
theorem gX7_isOf_22 : (∀ (X : tX) (d : Nat) (x0 : Nat) (x1 : Int32) (x2 : Int32) (σ : rS) (Q : tQ), Ex X d mX7_isOf 22 [.ref x0, .int x1, .int x2] [] σ Q = Ex X d mX7_isOf 23 [.ref x0, .int x1, .int x2] [.int x1] σ Q) ∧
  (∀ (X : tX) (d : Nat) (x0 : Nat) (x1 : Int32) (x2 : Int32) (s0 : Int32) (σ : rS) (Q : tQ), Ex X d mX7_isOf 23 [.ref x0, .int x1, .int x2] [.int s0] σ Q = Ex X d mX7_isOf 24 [.ref x0, .int x1, .int x2] [.int 0, .int s0] σ Q) ∧
  (∀ (X : tX) (d : Nat) (x0 : Nat) (x1 : Int32) (x2 : Int32) (s0 : Int32) (s1 : Int32) (σ : rS) (Q : tQ), Ex X d mX7_isOf 24 [.ref x0, .int x1, .int x2] [.int s0, .int s1] σ Q = Ex X d mX7_isOf 26 [.ref x0, .int x1, .int x2] [.int 6, .int s0, .int s1] σ Q) ∧
  (∀ (X : tX) (d : Nat) (x0 : Nat) (x1 : Int32) (x2 : Int32) (s0 : Int32) (s1 : Int32) (s2 : Int32) (σ : rS) (Q : tQ), Ex X (d + 1) mX7_isOf 26 [.ref x0, .int x1, .int x2] [.int s0, .int s1, .int s2] σ Q = Ex X d mX7_within 0 [.int s2, .int s1, .int s0] [] σ (fun v σ1 => Ex X (d + 1) mX7_isOf 29 [.ref x0, .int x1, .int x2] (v.toList ++ []) σ1 Q)) := ⟨fun X d x0 x1 x2 σ Q => ex_P (i := .iload_n 1) (len := 1) (by decide +kernel) rfl,
  fun X d x0 x1 x2 s0 σ Q => ex_P (i := .iconst 0) (len := 1) (by decide +kernel) rfl,
  fun X d x0 x1 x2 s0 s1 σ Q => ex_P (i := .bipush 6) (len := 2) (by decide +kernel) rfl,
  fun X d x0 x1 x2 s0 s1 s2 σ Q => q_callS (k := 101) (as := [.int s2, .int s1, .int s0]) (st := []) (show rlk mX7_isOf.2.2.2.2.2.2 26 = some (.invokestatic 101, 3) from by decide +kernel) rfl (Or.inl rfl) rfl rfl rfl rfl rfl (Nat.le_of_ble_eq_true rfl) (Nat.le_of_ble_eq_true rfl) rfl⟩
set_option maxRecDepth 50000 in
theorem gX7_isOf_29 : (∀ (X : tX) (d : Nat) (x0 : Nat) (x1 : Int32) (x2 : Int32) (s0 : Int32) (σ : rS) (Q : tQ), Ex X d mX7_isOf 29 [.ref x0, .int x1, .int x2] [.int s0] σ Q = Ex X d mX7_isOf 51 [.ref x0, .int x1, .int x2] [.int s0] σ Q) := fun X d x0 x1 x2 s0 σ Q => q_goto (o := 22) (by decide +kernel) rfl
set_option maxRecDepth 50000 in
theorem gX7_isOf_32 : (∀ (X : tX) (d : Nat) (x0 : Nat) (x1 : Int32) (x2 : Int32) (σ : rS) (Q : tQ), Ex X d mX7_isOf 32 [.ref x0, .int x1, .int x2] [] σ Q = Ex X d mX7_isOf 33 [.ref x0, .int x1, .int x2] [.int x2] σ Q) ∧
  (∀ (X : tX) (d : Nat) (x0 : Nat) (x1 : Int32) (x2 : Int32) (s0 : Int32) (σ : rS) (Q : tQ), Ex X d mX7_isOf 33 [.ref x0, .int x1, .int x2] [.int s0] σ Q = Ex X d mX7_isOf 34 [.ref x0, .int x1, .int x2] [.int 5, .int s0] σ Q) ∧
  (∀ (X : tX) (d : Nat) (x0 : Nat) (x1 : Int32) (x2 : Int32) (s0 : Int32) (s1 : Int32) (σ : rS) (Q : tQ), Ex X d mX7_isOf 34 [.ref x0, .int x1, .int x2] [.int s0, .int s1] σ Q = Ex X d mX7_isOf 36 [.ref x0, .int x1, .int x2] [.int 6, .int s0, .int s1] σ Q) ∧
  (∀ (X : tX) (d : Nat) (x0 : Nat) (x1 : Int32) (x2 : Int32) (s0 : Int32) (s1 : Int32) (s2 : Int32) (σ : rS) (Q : tQ), Ex X (d + 1) mX7_isOf 36 [.ref x0, .int x1, .int x2] [.int s0, .int s1, .int s2] σ Q = Ex X d mX7_within 0 [.int s2, .int s1, .int s0] [] σ (fun v σ1 => Ex X (d + 1) mX7_isOf 39 [.ref x0, .int x1, .int x2] (v.toList ++ []) σ1 Q)) := ⟨fun X d x0 x1 x2 σ Q => ex_P (i := .iload_n 2) (len := 1) (by decide +kernel) rfl,
  fun X d x0 x1 x2 s0 σ Q => ex_P (i := .iconst 5) (len := 1) (by decide +kernel) rfl,
  fun X d x0 x1 x2 s0 s1 σ Q => ex_P (i := .bipush 6) (len := 2) (by decide +kernel) rfl,
  fun X d x0 x1 x2 s0 s1 s2 σ Q => q_callS (k := 101) (as := [.int s2, .int s1, .int s0]) (st := []) (show rlk mX7_isOf.2.2.2.2.2.2 36 = some (.invokestatic 101, 3) from by decide +kernel) rfl (Or.inl rfl) rfl rfl rfl rfl rfl (Nat.le_of_ble_eq_true rfl) (Nat.le_of_ble_eq_true rfl) rfl⟩
set_option maxRecDepth 50000 in
theorem gX7_isOf_39 : (∀ (X : tX) (d : Nat) (x0 : Nat) (x1 : Int32) (x2 : Int32) (s0 : Int32) (σ : rS) (Q : tQ), Ex X d mX7_isOf 39 [.ref x0, .int x1, .int x2] [.int s0] σ Q = (if s0 = 0 then Ex X d mX7_isOf 50 [.ref x0, .int x1, .int x2] [] σ Q else Ex X d mX7_isOf 42 [.ref x0, .int x1, .int x2] [] σ Q)) := fun X d x0 x1 x2 s0 σ Q => q_if_eq (o := 11) (by decide +kernel) rfl
set_option maxRecDepth 50000 in
theorem gX7_isOf_42 : (∀ (X : tX) (d : Nat) (x0 : Nat) (x1 : Int32) (x2 : Int32) (σ : rS) (Q : tQ), Ex X d mX7_isOf 42 [.ref x0, .int x1, .int x2] [] σ Q = Ex X d mX7_isOf 43 [.ref x0, .int x1, .int x2] [.int x1] σ Q) ∧
  (∀ (X : tX) (d : Nat) (x0 : Nat) (x1 : Int32) (x2 : Int32) (s0 : Int32) (σ : rS) (Q : tQ), Ex X d mX7_isOf 43 [.ref x0, .int x1, .int x2] [.int s0] σ Q = (if s0 = 0 then Ex X d mX7_isOf 46 [.ref x0, .int x1, .int x2] [] σ Q else Ex X d mX7_isOf 50 [.ref x0, .int x1, .int x2] [] σ Q)) := ⟨fun X d x0 x1 x2 σ Q => ex_P (i := .iload_n 1) (len := 1) (by decide +kernel) rfl,
  fun X d x0 x1 x2 s0 σ Q => q_if_ne (o := 7) (by decide +kernel) rfl⟩
set_option maxRecDepth 50000 in
theorem gX7_isOf_46 : (∀ (X : tX) (d : Nat) (x0 : Nat) (x1 : Int32) (x2 : Int32) (σ : rS) (Q : tQ), Ex X d mX7_isOf 46 [.ref x0, .int x1, .int x2] [] σ Q = Ex X d mX7_isOf 47 [.ref x0, .int x1, .int x2] [.int 1] σ Q) ∧
  (∀ (X : tX) (d : Nat) (x0 : Nat) (x1 : Int32) (x2 : Int32) (s0 : Int32) (σ : rS) (Q : tQ), Ex X d mX7_isOf 47 [.ref x0, .int x1, .int x2] [.int s0] σ Q = Ex X d mX7_isOf 51 [.ref x0, .int x1, .int x2] [.int s0] σ Q) := ⟨fun X d x0 x1 x2 σ Q => ex_P (i := .iconst 1) (len := 1) (by decide +kernel) rfl,
  fun X d x0 x1 x2 s0 σ Q => q_goto (o := 4) (by decide +kernel) rfl⟩
set_option maxRecDepth 50000 in
theorem gX7_isOf_50 : (∀ (X : tX) (d : Nat) (x0 : Nat) (x1 : Int32) (x2 : Int32) (σ : rS) (Q : tQ), Ex X d mX7_isOf 50 [.ref x0, .int x1, .int x2] [] σ Q = Ex X d mX7_isOf 51 [.ref x0, .int x1, .int x2] [.int 0] σ Q) := fun X d x0 x1 x2 σ Q => ex_P (i := .iconst 0) (len := 1) (by decide +kernel) rfl
set_option maxRecDepth 50000 in
theorem gX7_isOf_51 : (∀ (X : tX) (d : Nat) (x0 : Nat) (x1 : Int32) (x2 : Int32) (s0 : Int32) (σ : rS) (Q : tQ), Ex X d mX7_isOf 51 [.ref x0, .int x1, .int x2] [.int s0] σ Q = ((s0 = 0 ∨ s0 = 1) ∧ Q (some (.int s0)) σ)) := fun X d x0 x1 x2 s0 σ Q => q_retZ (by decide +kernel) rfl
set_option maxRecDepth 50000 in
theorem gX7_isFit_0 : (∀ (X : tX) (d : Nat) (x0 : Int32) (x1 : Int32) (σ : rS) (Q : tQ), Ex X d mX7_isFit 0 [.int x0, .int x1] [] σ Q = Ex X d mX7_isFit 1 [.int x0, .int x1] [.int x0] σ Q) := fun X d x0 x1 σ Q => ex_P (i := .iload_n 0) (len := 1) (by decide +kernel) rfl
set_option maxRecDepth 50000 in
theorem gX7_isFit_44 : (∀ (X : tX) (d : Nat) (x0 : Int32) (x1 : Int32) (σ : rS) (Q : tQ), Ex X d mX7_isFit 44 [.int x0, .int x1] [] σ Q = Ex X d mX7_isFit 45 [.int x0, .int x1] [.int x1] σ Q) ∧
  (∀ (X : tX) (d : Nat) (x0 : Int32) (x1 : Int32) (s0 : Int32) (σ : rS) (Q : tQ), Ex X d mX7_isFit 45 [.int x0, .int x1] [.int s0] σ Q = Ex X d mX7_isFit 46 [.int x0, .int x1] [.int 0, .int s0] σ Q) ∧
  (∀ (X : tX) (d : Nat) (x0 : Int32) (x1 : Int32) (s0 : Int32) (s1 : Int32) (σ : rS) (Q : tQ), Ex X d mX7_isFit 46 [.int x0, .int x1] [.int s0, .int s1] σ Q = Ex X d mX7_isFit 48 [.int x0, .int x1] [.int 99, .int s0, .int s1] σ Q) ∧
  (∀ (X : tX) (d : Nat) (x0 : Int32) (x1 : Int32) (s0 : Int32) (s1 : Int32) (s2 : Int32) (σ : rS) (Q : tQ), Ex X (d + 1) mX7_isFit 48 [.int x0, .int x1] [.int s0, .int s1, .int s2] σ Q = Ex X d mX7_within 0 [.int s2, .int s1, .int s0] [] σ (fun v σ1 => Ex X (d + 1) mX7_isFit 51 [.int x0, .int x1] (v.toList ++ []) σ1 Q)) := ⟨fun X d x0 x1 σ Q => ex_P (i := .iload_n 1) (len := 1) (by decide +kernel) rfl,
  fun X d x0 x1 s0 σ Q => ex_P (i := .iconst 0) (len := 1) (by decide +kernel) rfl,
  fun X d x0 x1 s0 s1 σ Q => ex_P (i := .bipush 99) (len := 2) (by decide +kernel) rfl,
  fun X d x0 x1 s0 s1 s2 σ Q => q_callS (k := 101) (as := [.int s2, .int s1, .int s0]) (st := []) (show rlk mX7_isFit.2.2.2.2.2.2 48 = some (.invokestatic 101, 3) from by decide +kernel) rfl (Or.inl rfl) rfl rfl rfl rfl rfl (Nat.le_of_ble_eq_true rfl) (Nat.le_of_ble_eq_true rfl) rfl⟩
set_option maxRecDepth 50000 in
theorem gX7_isFit_51 : (∀ (X : tX) (d : Nat) (x0 : Int32) (x1 : Int32) (s0 : Int32) (σ : rS) (Q : tQ), Ex X d mX7_isFit 51 [.int x0, .int x1] [.int s0] σ Q = ((s0 = 0 ∨ s0 = 1) ∧ Q (some (.int s0)) σ)) := fun X d x0 x1 s0 σ Q => q_retZ (by decide +kernel) rfl
set_option maxRecDepth 50000 in
theorem gX7_isFit_52 : (∀ (X : tX) (d : Nat) (x0 : Int32) (x1 : Int32) (σ : rS) (Q : tQ), Ex X d mX7_isFit 52 [.int x0, .int x1] [] σ Q = Ex X d mX7_isFit 53 [.int x0, .int x1] [.int x1] σ Q) ∧
  (∀ (X : tX) (d : Nat) (x0 : Int32) (x1 : Int32) (s0 : Int32) (σ : rS) (Q : tQ), Ex X d mX7_isFit 53 [.int x0, .int x1] [.int s0] σ Q = Ex X d mX7_isFit 54 [.int x0, .int x1] [.int 1, .int s0] σ Q) ∧
  (∀ (X : tX) (d : Nat) (x0 : Int32) (x1 : Int32) (s0 : Int32) (s1 : Int32) (σ : rS) (Q : tQ), Ex X d mX7_isFit 54 [.int x0, .int x1] [.int s0, .int s1] σ Q = Ex X d mX7_isFit 56 [.int x0, .int x1] [.int 99, .int s0, .int s1] σ Q) ∧
  (∀ (X : tX) (d : Nat) (x0 : Int32) (x1 : Int32) (s0 : Int32) (s1 : Int32) (s2 : Int32) (σ : rS) (Q : tQ), Ex X (d + 1) mX7_isFit 56 [.int x0, .int x1] [.int s0, .int s1, .int s2] σ Q = Ex X d mX7_within 0 [.int s2, .int s1, .int s0] [] σ (fun v σ1 => Ex X (d + 1) mX7_isFit 59 [.int x0, .int x1] (v.toList ++ []) σ1 Q)) := ⟨fun X d x0 x1 σ Q => ex_P (i := .iload_n 1) (len := 1) (by decide +kernel) rfl,
  fun X d x0 x1 s0 σ Q => ex_P (i := .iconst 1) (len := 1) (by decide +kernel) rfl,
  fun X d x0 x1 s0 s1 σ Q => ex_P (i := .bipush 99) (len := 2) (by decide +kernel) rfl,
  fun X d x0 x1 s0 s1 s2 σ Q => q_callS (k := 101) (as := [.int s2, .int s1, .int s0]) (st := []) (show rlk mX7_isFit.2.2.2.2.2.2 56 = some (.invokestatic 101, 3) from by decide +kernel) rfl (Or.inl rfl) rfl rfl rfl rfl rfl (Nat.le_of_ble_eq_true rfl) (Nat.le_of_ble_eq_true rfl) rfl⟩
set_option maxRecDepth 50000 in
theorem gX7_isFit_59 : (∀ (X : tX) (d : Nat) (x0 : Int32) (x1 : Int32) (s0 : Int32) (σ : rS) (Q : tQ), Ex X d mX7_isFit 59 [.int x0, .int x1] [.int s0] σ Q = ((s0 = 0 ∨ s0 = 1) ∧ Q (some (.int s0)) σ)) := fun X d x0 x1 s0 σ Q => q_retZ (by decide +kernel) rfl
set_option maxRecDepth 50000 in
theorem gX7_isFit_60 : (∀ (X : tX) (d : Nat) (x0 : Int32) (x1 : Int32) (σ : rS) (Q : tQ), Ex X d mX7_isFit 60 [.int x0, .int x1] [] σ Q = Ex X d mX7_isFit 61 [.int x0, .int x1] [.int x1] σ Q) ∧
  (∀ (X : tX) (d : Nat) (x0 : Int32) (x1 : Int32) (s0 : Int32) (σ : rS) (Q : tQ), Ex X d mX7_isFit 61 [.int x0, .int x1] [.int s0] σ Q = Ex X d mX7_isFit 62 [.int x0, .int x1] [.int 0, .int s0] σ Q) ∧
  (∀ (X : tX) (d : Nat) (x0 : Int32) (x1 : Int32) (s0 : Int32) (s1 : Int32) (σ : rS) (Q : tQ), Ex X d mX7_isFit 62 [.int x0, .int x1] [.int s0, .int s1] σ Q = Ex X d mX7_isFit 63 [.int x0, .int x1] [.int 1, .int s0, .int s1] σ Q) ∧
  (∀ (X : tX) (d : Nat) (x0 : Int32) (x1 : Int32) (s0 : Int32) (s1 : Int32) (s2 : Int32) (σ : rS) (Q : tQ), Ex X (d + 1) mX7_isFit 63 [.int x0, .int x1] [.int s0, .int s1, .int s2] σ Q = Ex X d mX7_within 0 [.int s2, .int s1, .int s0] [] σ (fun v σ1 => Ex X (d + 1) mX7_isFit 66 [.int x0, .int x1] (v.toList ++ []) σ1 Q)) := ⟨fun X d x0 x1 σ Q => ex_P (i := .iload_n 1) (len := 1) (by decide +kernel) rfl,
  fun X d x0 x1 s0 σ Q => ex_P (i := .iconst 0) (len := 1) (by decide +kernel) rfl,
  fun X d x0 x1 s0 s1 σ Q => ex_P (i := .iconst 1) (len := 1) (by decide +kernel) rfl,
  fun X d x0 x1 s0 s1 s2 σ Q => q_callS (k := 101) (as := [.int s2, .int s1, .int s0]) (st := []) (show rlk mX7_isFit.2.2.2.2.2.2 63 = some (.invokestatic 101, 3) from by decide +kernel) rfl (Or.inl rfl) rfl rfl rfl rfl rfl (Nat.le_of_ble_eq_true rfl) (Nat.le_of_ble_eq_true rfl) rfl⟩
set_option maxRecDepth 50000 in
theorem gX7_isFit_66 : (∀ (X : tX) (d : Nat) (x0 : Int32) (x1 : Int32) (s0 : Int32) (σ : rS) (Q : tQ), Ex X d mX7_isFit 66 [.int x0, .int x1] [.int s0] σ Q = ((s0 = 0 ∨ s0 = 1) ∧ Q (some (.int s0)) σ)) := fun X d x0 x1 s0 σ Q => q_retZ (by decide +kernel) rfl
set_option maxRecDepth 50000 in
theorem gX7_isFit_67 : (∀ (X : tX) (d : Nat) (x0 : Int32) (x1 : Int32) (σ : rS) (Q : tQ), Ex X d mX7_isFit 67 [.int x0, .int x1] [] σ Q = Ex X d mX7_isFit 68 [.int x0, .int x1] [.int x1] σ Q) ∧
  (∀ (X : tX) (d : Nat) (x0 : Int32) (x1 : Int32) (s0 : Int32) (σ : rS) (Q : tQ), Ex X d mX7_isFit 68 [.int x0, .int x1] [.int s0] σ Q = Ex X d mX7_isFit 69 [.int x0, .int x1] [.int 0, .int s0] σ Q) ∧
  (∀ (X : tX) (d : Nat) (x0 : Int32) (x1 : Int32) (s0 : Int32) (s1 : Int32) (σ : rS) (Q : tQ), Ex X d mX7_isFit 69 [.int x0, .int x1] [.int s0, .int s1] σ Q = Ex X d mX7_isFit 71 [.int x0, .int x1] [.int 6, .int s0, .int s1] σ Q) ∧
  (∀ (X : tX) (d : Nat) (x0 : Int32) (x1 : Int32) (s0 : Int32) (s1 : Int32) (s2 : Int32) (σ : rS) (Q : tQ), Ex X (d + 1) mX7_isFit 71 [.int x0, .int x1] [.int s0, .int s1, .int s2] σ Q = Ex X d mX7_within 0 [.int s2, .int s1, .int s0] [] σ (fun v σ1 => Ex X (d + 1) mX7_isFit 74 [.int x0, .int x1] (v.toList ++ []) σ1 Q)) := ⟨fun X d x0 x1 σ Q => ex_P (i := .iload_n 1) (len := 1) (by decide +kernel) rfl,
  fun X d x0 x1 s0 σ Q => ex_P (i := .iconst 0) (len := 1) (by decide +kernel) rfl,
  fun X d x0 x1 s0 s1 σ Q => ex_P (i := .bipush 6) (len := 2) (by decide +kernel) rfl,
  fun X d x0 x1 s0 s1 s2 σ Q => q_callS (k := 101) (as := [.int s2, .int s1, .int s0]) (st := []) (show rlk mX7_isFit.2.2.2.2.2.2 71 = some (.invokestatic 101, 3) from by decide +kernel) rfl (Or.inl rfl) rfl rfl rfl rfl rfl (Nat.le_of_ble_eq_true rfl) (Nat.le_of_ble_eq_true rfl) rfl⟩
set_option maxRecDepth 50000 in
theorem gX7_isFit_74 : (∀ (X : tX) (d : Nat) (x0 : Int32) (x1 : Int32) (s0 : Int32) (σ : rS) (Q : tQ), Ex X d mX7_isFit 74 [.int x0, .int x1] [.int s0] σ Q = ((s0 = 0 ∨ s0 = 1) ∧ Q (some (.int s0)) σ)) := fun X d x0 x1 s0 σ Q => q_retZ (by decide +kernel) rfl
set_option maxRecDepth 50000 in
theorem gX7_isFit_75 : (∀ (X : tX) (d : Nat) (x0 : Int32) (x1 : Int32) (σ : rS) (Q : tQ), Ex X d mX7_isFit 75 [.int x0, .int x1] [] σ Q = Ex X d mX7_isFit 76 [.int x0, .int x1] [.int x1] σ Q) ∧
  (∀ (X : tX) (d : Nat) (x0 : Int32) (x1 : Int32) (s0 : Int32) (σ : rS) (Q : tQ), Ex X d mX7_isFit 76 [.int x0, .int x1] [.int s0] σ Q = Ex X d mX7_isFit 77 [.int x0, .int x1] [.int 0, .int s0] σ Q) ∧
  (∀ (X : tX) (d : Nat) (x0 : Int32) (x1 : Int32) (s0 : Int32) (s1 : Int32) (σ : rS) (Q : tQ), Ex X d mX7_isFit 77 [.int x0, .int x1] [.int s0, .int s1] σ Q = Ex X d mX7_isFit 79 [.int x0, .int x1] [.int 9, .int s0, .int s1] σ Q) ∧
  (∀ (X : tX) (d : Nat) (x0 : Int32) (x1 : Int32) (s0 : Int32) (s1 : Int32) (s2 : Int32) (σ : rS) (Q : tQ), Ex X (d + 1) mX7_isFit 79 [.int x0, .int x1] [.int s0, .int s1, .int s2] σ Q = Ex X d mX7_within 0 [.int s2, .int s1, .int s0] [] σ (fun v σ1 => Ex X (d + 1) mX7_isFit 82 [.int x0, .int x1] (v.toList ++ []) σ1 Q)) := ⟨fun X d x0 x1 σ Q => ex_P (i := .iload_n 1) (len := 1) (by decide +kernel) rfl,
  fun X d x0 x1 s0 σ Q => ex_P (i := .iconst 0) (len := 1) (by decide +kernel) rfl,
  fun X d x0 x1 s0 s1 σ Q => ex_P (i := .bipush 9) (len := 2) (by decide +kernel) rfl,
  fun X d x0 x1 s0 s1 s2 σ Q => q_callS (k := 101) (as := [.int s2, .int s1, .int s0]) (st := []) (show rlk mX7_isFit.2.2.2.2.2.2 79 = some (.invokestatic 101, 3) from by decide +kernel) rfl (Or.inl rfl) rfl rfl rfl rfl rfl (Nat.le_of_ble_eq_true rfl) (Nat.le_of_ble_eq_true rfl) rfl⟩
set_option maxRecDepth 50000 in
theorem gX7_isFit_82 : (∀ (X : tX) (d : Nat) (x0 : Int32) (x1 : Int32) (s0 : Int32) (σ : rS) (Q : tQ), Ex X d mX7_isFit 82 [.int x0, .int x1] [.int s0] σ Q = ((s0 = 0 ∨ s0 = 1) ∧ Q (some (.int s0)) σ)) := fun X d x0 x1 s0 σ Q => q_retZ (by decide +kernel) rfl
set_option maxRecDepth 50000 in
theorem gX7_get_0 : (∀ (X : tX) (d : Nat) (x0 : Nat) (x1 : Int32) (x2 : Int32) (σ : rS) (Q : tQ), Ex X d mX7_get 0 [.ref x0, .int x1, .int x2] [] σ Q = Ex X d mX7_get 1 [.ref x0, .int x1, .int x2] [.int x2] σ Q) ∧
  (∀ (X : tX) (d : Nat) (x0 : Nat) (x1 : Int32) (x2 : Int32) (s0 : Int32) (σ : rS) (Q : tQ), Ex X d mX7_get 1 [.ref x0, .int x1, .int x2] [.int s0] σ Q = Ex X d mX7_get 2 [.ref x0, .int x1, .int x2] [.int 4, .int s0] σ Q) ∧
  (∀ (X : tX) (d : Nat) (x0 : Nat) (x1 : Int32) (x2 : Int32) (s0 : Int32) (s1 : Int32) (σ : rS) (Q : tQ), Ex X d mX7_get 2 [.ref x0, .int x1, .int x2] [.int s0, .int s1] σ Q = (if s0 ≤ s1 then Ex X d mX7_get 19 [.ref x0, .int x1, .int x2] [] σ Q else Ex X d mX7_get 5 [.ref x0, .int x1, .int x2] [] σ Q)) := ⟨fun X d x0 x1 x2 σ Q => ex_P (i := .iload_n 2) (len := 1) (by decide +kernel) rfl,
  fun X d x0 x1 x2 s0 σ Q => ex_P (i := .iconst 4) (len := 1) (by decide +kernel) rfl,
  fun X d x0 x1 x2 s0 s1 σ Q => q_icmp_ge (o := 17) (by decide +kernel) rfl⟩
set_option maxRecDepth 50000 in
theorem gX7_get_5 : (∀ (X : tX) (d : Nat) (x0 : Nat) (x1 : Int32) (x2 : Int32) (σ : rS) (Q : tQ), Ex X d mX7_get 5 [.ref x0, .int x1, .int x2] [] σ Q = Ex X d mX7_get 6 [.ref x0, .int x1, .int x2] [.ref x0] σ Q) ∧
  (∀ (X : tX) (d : Nat) (x0 : Nat) (x1 : Int32) (x2 : Int32) (s0 : Nat) (T : tT) (I : tI) (J : tJ) (R : tR) (Q : tQ), Ex X d mX7_get 6 [.ref x0, .int x1, .int x2] [.ref s0] (T, I, J, R) Q = (T[s0]? = some (3, 7) ∧ Ex X d mX7_get 9 [.ref x0, .int x1, .int x2] [va_rf (R s0 1)] (T, I, J, R) Q)) ∧
  (∀ (X : tX) (d : Nat) (x0 : Nat) (x1 : Int32) (x2 : Int32) (s0 : Nat) (σ : rS) (Q : tQ), Ex X d mX7_get 9 [.ref x0, .int x1, .int x2] [.ref s0] σ Q = Ex X d mX7_get 11 [.ref x0, .int x1, .int x2] [.int 8, .ref s0] σ Q) ∧
  (∀ (X : tX) (d : Nat) (x0 : Nat) (x1 : Int32) (x2 : Int32) (s0 : Int32) (s1 : Nat) (σ : rS) (Q : tQ), Ex X d mX7_get 11 [.ref x0, .int x1, .int x2] [.int s0, .ref s1] σ Q = Ex X d mX7_get 12 [.ref x0, .int x1, .int x2] [.int x2, .int s0, .ref s1] σ Q) ∧
  (∀ (X : tX) (d : Nat) (x0 : Nat) (x1 : Int32) (x2 : Int32) (s0 : Int32) (s1 : Int32) (s2 : Nat) (σ : rS) (Q : tQ), Ex X d mX7_get 12 [.ref x0, .int x1, .int x2] [.int s0, .int s1, .ref s2] σ Q = Ex X d mX7_get 13 [.ref x0, .int x1, .int x2] [.int (s1 * s0), .ref s2] σ Q) ∧
  (∀ (X : tX) (d : Nat) (x0 : Nat) (x1 : Int32) (x2 : Int32) (s0 : Int32) (s1 : Nat) (σ : rS) (Q : tQ), Ex X d mX7_get 13 [.ref x0, .int x1, .int x2] [.int s0, .ref s1] σ Q = Ex X d mX7_get 14 [.ref x0, .int x1, .int x2] [.int x1, .int s0, .ref s1] σ Q) ∧
  (∀ (X : tX) (d : Nat) (x0 : Nat) (x1 : Int32) (x2 : Int32) (s0 : Int32) (s1 : Int32) (s2 : Nat) (σ : rS) (Q : tQ), Ex X d mX7_get 14 [.ref x0, .int x1, .int x2] [.int s0, .int s1, .ref s2] σ Q = Ex X d mX7_get 15 [.ref x0, .int x1, .int x2] [.int (s1 + s0), .ref s2] σ Q) ∧
  (∀ (X : tX) (d : Nat) (x0 : Nat) (x1 : Int32) (x2 : Int32) (s0 : Int32) (s1 : Nat) (T : tT) (I : tI) (J : tJ) (R : tR) (Q : tQ), Ex X d mX7_get 15 [.ref x0, .int x1, .int x2] [.int s0, .ref s1] (T, I, J, R) Q = (rIn T s1 0 s0 ∧ Ex X d mX7_get 16 [.ref x0, .int x1, .int x2] [.int (I s1 s0.toNatClampNeg)] (T, I, J, R) Q)) ∧
  (∀ (X : tX) (d : Nat) (x0 : Nat) (x1 : Int32) (x2 : Int32) (s0 : Int32) (σ : rS) (Q : tQ), Ex X d mX7_get 16 [.ref x0, .int x1, .int x2] [.int s0] σ Q = Ex X d mX7_get 41 [.ref x0, .int x1, .int x2] [.int s0] σ Q) := ⟨fun X d x0 x1 x2 σ Q => ex_P (i := .aload_n 0) (len := 1) (by decide +kernel) rfl,
  fun X d x0 x1 x2 s0 T I J R Q => q_getR (k := 9) (by decide +kernel) rfl rfl,
  fun X d x0 x1 x2 s0 σ Q => ex_P (i := .bipush 8) (len := 2) (by decide +kernel) rfl,
  fun X d x0 x1 x2 s0 s1 σ Q => ex_P (i := .iload_n 2) (len := 1) (by decide +kernel) rfl,
  fun X d x0 x1 x2 s0 s1 s2 σ Q => ex_P (i := .imul) (len := 1) (by decide +kernel) rfl,
  fun X d x0 x1 x2 s0 s1 σ Q => ex_P (i := .iload_n 1) (len := 1) (by decide +kernel) rfl,
  fun X d x0 x1 x2 s0 s1 s2 σ Q => ex_P (i := .iadd) (len := 1) (by decide +kernel) rfl,
  fun X d x0 x1 x2 s0 s1 T I J R Q => q_iald (by decide +kernel),
  fun X d x0 x1 x2 s0 σ Q => q_goto (o := 25) (by decide +kernel) rfl⟩
set_option maxRecDepth 50000 in
theorem gX7_get_19 : (∀ (X : tX) (d : Nat) (x0 : Nat) (x1 : Int32) (x2 : Int32) (σ : rS) (Q : tQ), Ex X d mX7_get 19 [.ref x0, .int x1, .int x2] [] σ Q = Ex X d mX7_get 20 [.ref x0, .int x1, .int x2] [.int x2] σ Q) ∧
  (∀ (X : tX) (d : Nat) (x0 : Nat) (x1 : Int32) (x2 : Int32) (s0 : Int32) (σ : rS) (Q : tQ), Ex X d mX7_get 20 [.ref x0, .int x1, .int x2] [.int s0] σ Q = Ex X d mX7_get 21 [.ref x0, .int x1, .int x2] [.int 4, .int s0] σ Q) ∧
  (∀ (X : tX) (d : Nat) (x0 : Nat) (x1 : Int32) (x2 : Int32) (s0 : Int32) (s1 : Int32) (σ : rS) (Q : tQ), Ex X d mX7_get 21 [.ref x0, .int x1, .int x2] [.int s0, .int s1] σ Q = (if s1 = s0 then Ex X d mX7_get 24 [.ref x0, .int x1, .int x2] [] σ Q else Ex X d mX7_get 33 [.ref x0, .int x1, .int x2] [] σ Q)) := ⟨fun X d x0 x1 x2 σ Q => ex_P (i := .iload_n 2) (len := 1) (by decide +kernel) rfl,
  fun X d x0 x1 x2 s0 σ Q => ex_P (i := .iconst 4) (len := 1) (by decide +kernel) rfl,
  fun X d x0 x1 x2 s0 s1 σ Q => q_icmp_ne (o := 12) (by decide +kernel) rfl⟩
set_option maxRecDepth 50000 in
theorem gX7_get_24 : (∀ (X : tX) (d : Nat) (x0 : Nat) (x1 : Int32) (x2 : Int32) (σ : rS) (Q : tQ), Ex X d mX7_get 24 [.ref x0, .int x1, .int x2] [] σ Q = Ex X d mX7_get 25 [.ref x0, .int x1, .int x2] [.ref x0] σ Q) ∧
  (∀ (X : tX) (d : Nat) (x0 : Nat) (x1 : Int32) (x2 : Int32) (s0 : Nat) (T : tT) (I : tI) (J : tJ) (R : tR) (Q : tQ), Ex X d mX7_get 25 [.ref x0, .int x1, .int x2] [.ref s0] (T, I, J, R) Q = (T[s0]? = some (3, 7) ∧ Ex X d mX7_get 28 [.ref x0, .int x1, .int x2] [va_rf (R s0 2)] (T, I, J, R) Q)) ∧
  (∀ (X : tX) (d : Nat) (x0 : Nat) (x1 : Int32) (x2 : Int32) (s0 : Nat) (σ : rS) (Q : tQ), Ex X d mX7_get 28 [.ref x0, .int x1, .int x2] [.ref s0] σ Q = Ex X d mX7_get 29 [.ref x0, .int x1, .int x2] [.int x1, .ref s0] σ Q) ∧
  (∀ (X : tX) (d : Nat) (x0 : Nat) (x1 : Int32) (x2 : Int32) (s0 : Int32) (s1 : Nat) (T : tT) (I : tI) (J : tJ) (R : tR) (Q : tQ), Ex X d mX7_get 29 [.ref x0, .int x1, .int x2] [.int s0, .ref s1] (T, I, J, R) Q = (rIn T s1 0 s0 ∧ Ex X d mX7_get 30 [.ref x0, .int x1, .int x2] [.int (I s1 s0.toNatClampNeg)] (T, I, J, R) Q)) ∧
  (∀ (X : tX) (d : Nat) (x0 : Nat) (x1 : Int32) (x2 : Int32) (s0 : Int32) (σ : rS) (Q : tQ), Ex X d mX7_get 30 [.ref x0, .int x1, .int x2] [.int s0] σ Q = Ex X d mX7_get 41 [.ref x0, .int x1, .int x2] [.int s0] σ Q) := ⟨fun X d x0 x1 x2 σ Q => ex_P (i := .aload_n 0) (len := 1) (by decide +kernel) rfl,
  fun X d x0 x1 x2 s0 T I J R Q => q_getR (k := 15) (by decide +kernel) rfl rfl,
  fun X d x0 x1 x2 s0 σ Q => ex_P (i := .iload_n 1) (len := 1) (by decide +kernel) rfl,
  fun X d x0 x1 x2 s0 s1 T I J R Q => q_iald (by decide +kernel),
  fun X d x0 x1 x2 s0 σ Q => q_goto (o := 11) (by decide +kernel) rfl⟩
set_option maxRecDepth 50000 in
theorem gX7_get_33 : (∀ (X : tX) (d : Nat) (x0 : Nat) (x1 : Int32) (x2 : Int32) (σ : rS) (Q : tQ), Ex X d mX7_get 33 [.ref x0, .int x1, .int x2] [] σ Q = Ex X d mX7_get 34 [.ref x0, .int x1, .int x2] [.ref x0] σ Q) ∧
  (∀ (X : tX) (d : Nat) (x0 : Nat) (x1 : Int32) (x2 : Int32) (s0 : Nat) (T : tT) (I : tI) (J : tJ) (R : tR) (Q : tQ), Ex X d mX7_get 34 [.ref x0, .int x1, .int x2] [.ref s0] (T, I, J, R) Q = (T[s0]? = some (3, 7) ∧ Ex X d mX7_get 37 [.ref x0, .int x1, .int x2] [va_rf (R s0 3)] (T, I, J, R) Q)) ∧
  (∀ (X : tX) (d : Nat) (x0 : Nat) (x1 : Int32) (x2 : Int32) (s0 : Nat) (σ : rS) (Q : tQ), Ex X d mX7_get 37 [.ref x0, .int x1, .int x2] [.ref s0] σ Q = Ex X d mX7_get 38 [.ref x0, .int x1, .int x2] [.int x2, .ref s0] σ Q) ∧
  (∀ (X : tX) (d : Nat) (x0 : Nat) (x1 : Int32) (x2 : Int32) (s0 : Int32) (s1 : Nat) (σ : rS) (Q : tQ), Ex X d mX7_get 38 [.ref x0, .int x1, .int x2] [.int s0, .ref s1] σ Q = Ex X d mX7_get 39 [.ref x0, .int x1, .int x2] [.int 5, .int s0, .ref s1] σ Q) ∧
  (∀ (X : tX) (d : Nat) (x0 : Nat) (x1 : Int32) (x2 : Int32) (s0 : Int32) (s1 : Int32) (s2 : Nat) (σ : rS) (Q : tQ), Ex X d mX7_get 39 [.ref x0, .int x1, .int x2] [.int s0, .int s1, .ref s2] σ Q = Ex X d mX7_get 40 [.ref x0, .int x1, .int x2] [.int (s1 - s0), .ref s2] σ Q) ∧
  (∀ (X : tX) (d : Nat) (x0 : Nat) (x1 : Int32) (x2 : Int32) (s0 : Int32) (s1 : Nat) (T : tT) (I : tI) (J : tJ) (R : tR) (Q : tQ), Ex X d mX7_get 40 [.ref x0, .int x1, .int x2] [.int s0, .ref s1] (T, I, J, R) Q = (rIn T s1 0 s0 ∧ Ex X d mX7_get 41 [.ref x0, .int x1, .int x2] [.int (I s1 s0.toNatClampNeg)] (T, I, J, R) Q)) := ⟨fun X d x0 x1 x2 σ Q => ex_P (i := .aload_n 0) (len := 1) (by decide +kernel) rfl,
  fun X d x0 x1 x2 s0 T I J R Q => q_getR (k := 18) (by decide +kernel) rfl rfl,
  fun X d x0 x1 x2 s0 σ Q => ex_P (i := .iload_n 2) (len := 1) (by decide +kernel) rfl,
  fun X d x0 x1 x2 s0 s1 σ Q => ex_P (i := .iconst 5) (len := 1) (by decide +kernel) rfl,
  fun X d x0 x1 x2 s0 s1 s2 σ Q => ex_P (i := .isub) (len := 1) (by decide +kernel) rfl,
  fun X d x0 x1 x2 s0 s1 T I J R Q => q_iald (by decide +kernel)⟩
set_option maxRecDepth 50000 in
theorem gX7_get_41 : (∀ (X : tX) (d : Nat) (x0 : Nat) (x1 : Int32) (x2 : Int32) (s0 : Int32) (σ : rS) (Q : tQ), Ex X d mX7_get 41 [.ref x0, .int x1, .int x2] [.int s0] σ Q = Q (some (.int s0)) σ) := fun X d x0 x1 x2 s0 σ Q => q_retI (by decide +kernel) rfl
set_option maxRecDepth 50000 in
theorem gX7_becomes_0 : (∀ (X : tX) (d : Nat) (x0 : Nat) (x1 : Int32) (x2 : Int32) (x3 : Int32) (σ : rS) (Q : tQ), Ex X d mX7_becomes 0 [.ref x0, .int x1, .int x2, .int x3] [] σ Q = Ex X d mX7_becomes 1 [.ref x0, .int x1, .int x2, .int x3] [.int x2] σ Q) ∧
  (∀ (X : tX) (d : Nat) (x0 : Nat) (x1 : Int32) (x2 : Int32) (x3 : Int32) (s0 : Int32) (σ : rS) (Q : tQ), Ex X d mX7_becomes 1 [.ref x0, .int x1, .int x2, .int x3] [.int s0] σ Q = Ex X d mX7_becomes 2 [.ref x0, .int x1, .int x2, .int x3] [.int 4, .int s0] σ Q) ∧
  (∀ (X : tX) (d : Nat) (x0 : Nat) (x1 : Int32) (x2 : Int32) (x3 : Int32) (s0 : Int32) (s1 : Int32) (σ : rS) (Q : tQ), Ex X d mX7_becomes 2 [.ref x0, .int x1, .int x2, .int x3] [.int s0, .int s1] σ Q = (if s0 ≤ s1 then Ex X d mX7_becomes 20 [.ref x0, .int x1, .int x2, .int x3] [] σ Q else Ex X d mX7_becomes 5 [.ref x0, .int x1, .int x2, .int x3] [] σ Q)) := ⟨fun X d x0 x1 x2 x3 σ Q => ex_P (i := .iload_n 2) (len := 1) (by decide +kernel) rfl,
  fun X d x0 x1 x2 x3 s0 σ Q => ex_P (i := .iconst 4) (len := 1) (by decide +kernel) rfl,
  fun X d x0 x1 x2 x3 s0 s1 σ Q => q_icmp_ge (o := 18) (by decide +kernel) rfl⟩
set_option maxRecDepth 50000 in
theorem gX7_becomes_5 : (∀ (X : tX) (d : Nat) (x0 : Nat) (x1 : Int32) (x2 : Int32) (x3 : Int32) (σ : rS) (Q : tQ), Ex X d mX7_becomes 5 [.ref x0, .int x1, .int x2, .int x3] [] σ Q = Ex X d mX7_becomes 6 [.ref x0, .int x1, .int x2, .int x3] [.ref x0] σ Q) ∧
  (∀ (X : tX) (d : Nat) (x0 : Nat) (x1 : Int32) (x2 : Int32) (x3 : Int32) (s0 : Nat) (T : tT) (I : tI) (J : tJ) (R : tR) (Q : tQ), Ex X d mX7_becomes 6 [.ref x0, .int x1, .int x2, .int x3] [.ref s0] (T, I, J, R) Q = (T[s0]? = some (3, 7) ∧ Ex X d mX7_becomes 9 [.ref x0, .int x1, .int x2, .int x3] [va_rf (R s0 1)] (T, I, J, R) Q)) ∧
  (∀ (X : tX) (d : Nat) (x0 : Nat) (x1 : Int32) (x2 : Int32) (x3 : Int32) (s0 : Nat) (σ : rS) (Q : tQ), Ex X d mX7_becomes 9 [.ref x0, .int x1, .int x2, .int x3] [.ref s0] σ Q = Ex X d mX7_becomes 11 [.ref x0, .int x1, .int x2, .int x3] [.int 8, .ref s0] σ Q) ∧
  (∀ (X : tX) (d : Nat) (x0 : Nat) (x1 : Int32) (x2 : Int32) (x3 : Int32) (s0 : Int32) (s1 : Nat) (σ : rS) (Q : tQ), Ex X d mX7_becomes 11 [.ref x0, .int x1, .int x2, .int x3] [.int s0, .ref s1] σ Q = Ex X d mX7_becomes 12 [.ref x0, .int x1, .int x2, .int x3] [.int x2, .int s0, .ref s1] σ Q) ∧
  (∀ (X : tX) (d : Nat) (x0 : Nat) (x1 : Int32) (x2 : Int32) (x3 : Int32) (s0 : Int32) (s1 : Int32) (s2 : Nat) (σ : rS) (Q : tQ), Ex X d mX7_becomes 12 [.ref x0, .int x1, .int x2, .int x3] [.int s0, .int s1, .ref s2] σ Q = Ex X d mX7_becomes 13 [.ref x0, .int x1, .int x2, .int x3] [.int (s1 * s0), .ref s2] σ Q) ∧
  (∀ (X : tX) (d : Nat) (x0 : Nat) (x1 : Int32) (x2 : Int32) (x3 : Int32) (s0 : Int32) (s1 : Nat) (σ : rS) (Q : tQ), Ex X d mX7_becomes 13 [.ref x0, .int x1, .int x2, .int x3] [.int s0, .ref s1] σ Q = Ex X d mX7_becomes 14 [.ref x0, .int x1, .int x2, .int x3] [.int x1, .int s0, .ref s1] σ Q) ∧
  (∀ (X : tX) (d : Nat) (x0 : Nat) (x1 : Int32) (x2 : Int32) (x3 : Int32) (s0 : Int32) (s1 : Int32) (s2 : Nat) (σ : rS) (Q : tQ), Ex X d mX7_becomes 14 [.ref x0, .int x1, .int x2, .int x3] [.int s0, .int s1, .ref s2] σ Q = Ex X d mX7_becomes 15 [.ref x0, .int x1, .int x2, .int x3] [.int (s1 + s0), .ref s2] σ Q) ∧
  (∀ (X : tX) (d : Nat) (x0 : Nat) (x1 : Int32) (x2 : Int32) (x3 : Int32) (s0 : Int32) (s1 : Nat) (σ : rS) (Q : tQ), Ex X d mX7_becomes 15 [.ref x0, .int x1, .int x2, .int x3] [.int s0, .ref s1] σ Q = Ex X d mX7_becomes 16 [.ref x0, .int x1, .int x2, .int x3] [.int x3, .int s0, .ref s1] σ Q) ∧
  (∀ (X : tX) (d : Nat) (x0 : Nat) (x1 : Int32) (x2 : Int32) (x3 : Int32) (s0 : Int32) (s1 : Int32) (s2 : Nat) (T : tT) (I : tI) (J : tJ) (R : tR) (Q : tQ), Ex X d mX7_becomes 16 [.ref x0, .int x1, .int x2, .int x3] [.int s0, .int s1, .ref s2] (T, I, J, R) Q = (rIn T s2 0 s1 ∧ Ex X d mX7_becomes 17 [.ref x0, .int x1, .int x2, .int x3] [] (T, va_up I s2 (va_up (I s2) s1.toNatClampNeg s0), J, R) Q)) ∧
  (∀ (X : tX) (d : Nat) (x0 : Nat) (x1 : Int32) (x2 : Int32) (x3 : Int32) (σ : rS) (Q : tQ), Ex X d mX7_becomes 17 [.ref x0, .int x1, .int x2, .int x3] [] σ Q = Ex X d mX7_becomes 44 [.ref x0, .int x1, .int x2, .int x3] [] σ Q) := ⟨fun X d x0 x1 x2 x3 σ Q => ex_P (i := .aload_n 0) (len := 1) (by decide +kernel) rfl,
  fun X d x0 x1 x2 x3 s0 T I J R Q => q_getR (k := 9) (by decide +kernel) rfl rfl,
  fun X d x0 x1 x2 x3 s0 σ Q => ex_P (i := .bipush 8) (len := 2) (by decide +kernel) rfl,
  fun X d x0 x1 x2 x3 s0 s1 σ Q => ex_P (i := .iload_n 2) (len := 1) (by decide +kernel) rfl,
  fun X d x0 x1 x2 x3 s0 s1 s2 σ Q => ex_P (i := .imul) (len := 1) (by decide +kernel) rfl,
  fun X d x0 x1 x2 x3 s0 s1 σ Q => ex_P (i := .iload_n 1) (len := 1) (by decide +kernel) rfl,
  fun X d x0 x1 x2 x3 s0 s1 s2 σ Q => ex_P (i := .iadd) (len := 1) (by decide +kernel) rfl,
  fun X d x0 x1 x2 x3 s0 s1 σ Q => ex_P (i := .iload_n 3) (len := 1) (by decide +kernel) rfl,
  fun X d x0 x1 x2 x3 s0 s1 s2 T I J R Q => q_iast (by decide +kernel),
  fun X d x0 x1 x2 x3 σ Q => q_goto (o := 27) (by decide +kernel) rfl⟩
set_option maxRecDepth 50000 in
theorem gX7_becomes_20 : (∀ (X : tX) (d : Nat) (x0 : Nat) (x1 : Int32) (x2 : Int32) (x3 : Int32) (σ : rS) (Q : tQ), Ex X d mX7_becomes 20 [.ref x0, .int x1, .int x2, .int x3] [] σ Q = Ex X d mX7_becomes 21 [.ref x0, .int x1, .int x2, .int x3] [.int x2] σ Q) ∧
  (∀ (X : tX) (d : Nat) (x0 : Nat) (x1 : Int32) (x2 : Int32) (x3 : Int32) (s0 : Int32) (σ : rS) (Q : tQ), Ex X d mX7_becomes 21 [.ref x0, .int x1, .int x2, .int x3] [.int s0] σ Q = Ex X d mX7_becomes 22 [.ref x0, .int x1, .int x2, .int x3] [.int 4, .int s0] σ Q) ∧
  (∀ (X : tX) (d : Nat) (x0 : Nat) (x1 : Int32) (x2 : Int32) (x3 : Int32) (s0 : Int32) (s1 : Int32) (σ : rS) (Q : tQ), Ex X d mX7_becomes 22 [.ref x0, .int x1, .int x2, .int x3] [.int s0, .int s1] σ Q = (if s1 = s0 then Ex X d mX7_becomes 25 [.ref x0, .int x1, .int x2, .int x3] [] σ Q else Ex X d mX7_becomes 35 [.ref x0, .int x1, .int x2, .int x3] [] σ Q)) := ⟨fun X d x0 x1 x2 x3 σ Q => ex_P (i := .iload_n 2) (len := 1) (by decide +kernel) rfl,
  fun X d x0 x1 x2 x3 s0 σ Q => ex_P (i := .iconst 4) (len := 1) (by decide +kernel) rfl,
  fun X d x0 x1 x2 x3 s0 s1 σ Q => q_icmp_ne (o := 13) (by decide +kernel) rfl⟩
set_option maxRecDepth 50000 in
theorem gX7_becomes_25 : (∀ (X : tX) (d : Nat) (x0 : Nat) (x1 : Int32) (x2 : Int32) (x3 : Int32) (σ : rS) (Q : tQ), Ex X d mX7_becomes 25 [.ref x0, .int x1, .int x2, .int x3] [] σ Q = Ex X d mX7_becomes 26 [.ref x0, .int x1, .int x2, .int x3] [.ref x0] σ Q) ∧
  (∀ (X : tX) (d : Nat) (x0 : Nat) (x1 : Int32) (x2 : Int32) (x3 : Int32) (s0 : Nat) (T : tT) (I : tI) (J : tJ) (R : tR) (Q : tQ), Ex X d mX7_becomes 26 [.ref x0, .int x1, .int x2, .int x3] [.ref s0] (T, I, J, R) Q = (T[s0]? = some (3, 7) ∧ Ex X d mX7_becomes 29 [.ref x0, .int x1, .int x2, .int x3] [va_rf (R s0 2)] (T, I, J, R) Q)) ∧
  (∀ (X : tX) (d : Nat) (x0 : Nat) (x1 : Int32) (x2 : Int32) (x3 : Int32) (s0 : Nat) (σ : rS) (Q : tQ), Ex X d mX7_becomes 29 [.ref x0, .int x1, .int x2, .int x3] [.ref s0] σ Q = Ex X d mX7_becomes 30 [.ref x0, .int x1, .int x2, .int x3] [.int x1, .ref s0] σ Q) ∧
  (∀ (X : tX) (d : Nat) (x0 : Nat) (x1 : Int32) (x2 : Int32) (x3 : Int32) (s0 : Int32) (s1 : Nat) (σ : rS) (Q : tQ), Ex X d mX7_becomes 30 [.ref x0, .int x1, .int x2, .int x3] [.int s0, .ref s1] σ Q = Ex X d mX7_becomes 31 [.ref x0, .int x1, .int x2, .int x3] [.int x3, .int s0, .ref s1] σ Q) ∧
  (∀ (X : tX) (d : Nat) (x0 : Nat) (x1 : Int32) (x2 : Int32) (x3 : Int32) (s0 : Int32) (s1 : Int32) (s2 : Nat) (T : tT) (I : tI) (J : tJ) (R : tR) (Q : tQ), Ex X d mX7_becomes 31 [.ref x0, .int x1, .int x2, .int x3] [.int s0, .int s1, .ref s2] (T, I, J, R) Q = (rIn T s2 0 s1 ∧ Ex X d mX7_becomes 32 [.ref x0, .int x1, .int x2, .int x3] [] (T, va_up I s2 (va_up (I s2) s1.toNatClampNeg s0), J, R) Q)) ∧
  (∀ (X : tX) (d : Nat) (x0 : Nat) (x1 : Int32) (x2 : Int32) (x3 : Int32) (σ : rS) (Q : tQ), Ex X d mX7_becomes 32 [.ref x0, .int x1, .int x2, .int x3] [] σ Q = Ex X d mX7_becomes 44 [.ref x0, .int x1, .int x2, .int x3] [] σ Q) := ⟨fun X d x0 x1 x2 x3 σ Q => ex_P (i := .aload_n 0) (len := 1) (by decide +kernel) rfl,
  fun X d x0 x1 x2 x3 s0 T I J R Q => q_getR (k := 15) (by decide +kernel) rfl rfl,
  fun X d x0 x1 x2 x3 s0 σ Q => ex_P (i := .iload_n 1) (len := 1) (by decide +kernel) rfl,
  fun X d x0 x1 x2 x3 s0 s1 σ Q => ex_P (i := .iload_n 3) (len := 1) (by decide +kernel) rfl,
  fun X d x0 x1 x2 x3 s0 s1 s2 T I J R Q => q_iast (by decide +kernel),
  fun X d x0 x1 x2 x3 σ Q => q_goto (o := 12) (by decide +kernel) rfl⟩
set_option maxRecDepth 50000 in
theorem gX7_becomes_35 : (∀ (X : tX) (d : Nat) (x0 : Nat) (x1 : Int32) (x2 : Int32) (x3 : Int32) (σ : rS) (Q : tQ), Ex X d mX7_becomes 35 [.ref x0, .int x1, .int x2, .int x3] [] σ Q = Ex X d mX7_becomes 36 [.ref x0, .int x1, .int x2, .int x3] [.ref x0] σ Q) ∧
  (∀ (X : tX) (d : Nat) (x0 : Nat) (x1 : Int32) (x2 : Int32) (x3 : Int32) (s0 : Nat) (T : tT) (I : tI) (J : tJ) (R : tR) (Q : tQ), Ex X d mX7_becomes 36 [.ref x0, .int x1, .int x2, .int x3] [.ref s0] (T, I, J, R) Q = (T[s0]? = some (3, 7) ∧ Ex X d mX7_becomes 39 [.ref x0, .int x1, .int x2, .int x3] [va_rf (R s0 3)] (T, I, J, R) Q)) ∧
  (∀ (X : tX) (d : Nat) (x0 : Nat) (x1 : Int32) (x2 : Int32) (x3 : Int32) (s0 : Nat) (σ : rS) (Q : tQ), Ex X d mX7_becomes 39 [.ref x0, .int x1, .int x2, .int x3] [.ref s0] σ Q = Ex X d mX7_becomes 40 [.ref x0, .int x1, .int x2, .int x3] [.int x2, .ref s0] σ Q) ∧
  (∀ (X : tX) (d : Nat) (x0 : Nat) (x1 : Int32) (x2 : Int32) (x3 : Int32) (s0 : Int32) (s1 : Nat) (σ : rS) (Q : tQ), Ex X d mX7_becomes 40 [.ref x0, .int x1, .int x2, .int x3] [.int s0, .ref s1] σ Q = Ex X d mX7_becomes 41 [.ref x0, .int x1, .int x2, .int x3] [.int 5, .int s0, .ref s1] σ Q) ∧
  (∀ (X : tX) (d : Nat) (x0 : Nat) (x1 : Int32) (x2 : Int32) (x3 : Int32) (s0 : Int32) (s1 : Int32) (s2 : Nat) (σ : rS) (Q : tQ), Ex X d mX7_becomes 41 [.ref x0, .int x1, .int x2, .int x3] [.int s0, .int s1, .ref s2] σ Q = Ex X d mX7_becomes 42 [.ref x0, .int x1, .int x2, .int x3] [.int (s1 - s0), .ref s2] σ Q) ∧
  (∀ (X : tX) (d : Nat) (x0 : Nat) (x1 : Int32) (x2 : Int32) (x3 : Int32) (s0 : Int32) (s1 : Nat) (σ : rS) (Q : tQ), Ex X d mX7_becomes 42 [.ref x0, .int x1, .int x2, .int x3] [.int s0, .ref s1] σ Q = Ex X d mX7_becomes 43 [.ref x0, .int x1, .int x2, .int x3] [.int x3, .int s0, .ref s1] σ Q) ∧
  (∀ (X : tX) (d : Nat) (x0 : Nat) (x1 : Int32) (x2 : Int32) (x3 : Int32) (s0 : Int32) (s1 : Int32) (s2 : Nat) (T : tT) (I : tI) (J : tJ) (R : tR) (Q : tQ), Ex X d mX7_becomes 43 [.ref x0, .int x1, .int x2, .int x3] [.int s0, .int s1, .ref s2] (T, I, J, R) Q = (rIn T s2 0 s1 ∧ Ex X d mX7_becomes 44 [.ref x0, .int x1, .int x2, .int x3] [] (T, va_up I s2 (va_up (I s2) s1.toNatClampNeg s0), J, R) Q)) := ⟨fun X d x0 x1 x2 x3 σ Q => ex_P (i := .aload_n 0) (len := 1) (by decide +kernel) rfl,
  fun X d x0 x1 x2 x3 s0 T I J R Q => q_getR (k := 18) (by decide +kernel) rfl rfl,
  fun X d x0 x1 x2 x3 s0 σ Q => ex_P (i := .iload_n 2) (len := 1) (by decide +kernel) rfl,
  fun X d x0 x1 x2 x3 s0 s1 σ Q => ex_P (i := .iconst 5) (len := 1) (by decide +kernel) rfl,
  fun X d x0 x1 x2 x3 s0 s1 s2 σ Q => ex_P (i := .isub) (len := 1) (by decide +kernel) rfl,
  fun X d x0 x1 x2 x3 s0 s1 σ Q => ex_P (i := .iload_n 3) (len := 1) (by decide +kernel) rfl,
  fun X d x0 x1 x2 x3 s0 s1 s2 T I J R Q => q_iast (by decide +kernel)⟩
set_option maxRecDepth 50000 in
theorem gX7_becomes_44 : (∀ (X : tX) (d : Nat) (x0 : Nat) (x1 : Int32) (x2 : Int32) (x3 : Int32) (σ : rS) (Q : tQ), Ex X d mX7_becomes 44 [.ref x0, .int x1, .int x2, .int x3] [] σ Q = Q none σ) := fun X d x0 x1 x2 x3 σ Q => q_retV (by decide +kernel) rfl
set_option maxRecDepth 50000 in
theorem gX7_mend_0 : (∀ (X : tX) (d : Nat) (x0 : Nat) (x1 : Int32) (x2 : Int32) (x3 : Int32) (σ : rS) (Q : tQ), Ex X d mX7_mend 0 [.ref x0, .int x1, .int x2, .int x3, rU, rU] [] σ Q = Ex X d mX7_mend 1 [.ref x0, .int x1, .int x2, .int x3, rU, rU] [.ref x0] σ Q) ∧
  (∀ (X : tX) (d : Nat) (x0 : Nat) (x1 : Int32) (x2 : Int32) (x3 : Int32) (s0 : Nat) (σ : rS) (Q : tQ), Ex X d mX7_mend 1 [.ref x0, .int x1, .int x2, .int x3, rU, rU] [.ref s0] σ Q = Ex X d mX7_mend 2 [.ref x0, .int x1, .int x2, .int x3, rU, rU] [.int x1, .ref s0] σ Q) ∧
  (∀ (X : tX) (d : Nat) (x0 : Nat) (x1 : Int32) (x2 : Int32) (x3 : Int32) (s0 : Int32) (s1 : Nat) (σ : rS) (Q : tQ), Ex X d mX7_mend 2 [.ref x0, .int x1, .int x2, .int x3, rU, rU] [.int s0, .ref s1] σ Q = Ex X d mX7_mend 3 [.ref x0, .int x1, .int x2, .int x3, rU, rU] [.int x2, .int s0, .ref s1] σ Q) ∧
  (∀ (X : tX) (d : Nat) (x0 : Nat) (x1 : Int32) (x2 : Int32) (x3 : Int32) (s0 : Int32) (s1 : Int32) (s2 : Nat) (T : tT) (I : tI) (J : tJ) (R : tR) (Q : tQ), Ex X (d + 1) mX7_mend 3 [.ref x0, .int x1, .int x2, .int x3, rU, rU] [.int s0, .int s1, .ref s2] (T, I, J, R) Q = (T[s2]? = some (3, 7) ∧ Ex X d mX7_isOf 0 [.ref s2, .int s1, .int s0] [] (T, I, J, R) (fun v σ1 => Ex X (d + 1) mX7_mend 6 [.ref x0, .int x1, .int x2, .int x3, rU, rU] (v.toList ++ []) σ1 Q))) := ⟨fun X d x0 x1 x2 x3 σ Q => ex_P (i := .aload_n 0) (len := 1) (by decide +kernel) rfl,
  fun X d x0 x1 x2 x3 s0 σ Q => ex_P (i := .iload_n 1) (len := 1) (by decide +kernel) rfl,
  fun X d x0 x1 x2 x3 s0 s1 σ Q => ex_P (i := .iload_n 2) (len := 1) (by decide +kernel) rfl,
  fun X d x0 x1 x2 x3 s0 s1 s2 T I J R Q => q_callV (k := 122) (as := [.int s1, .int s0]) (st := []) (show rlk mX7_mend.2.2.2.2.2.2 3 = some (.invokevirtual 122, 3) from by decide +kernel) rfl rfl rfl (Nat.le_of_ble_eq_true rfl) (Nat.le_of_ble_eq_true rfl) rfl⟩
set_option maxRecDepth 50000 in
theorem gX7_mend_6 : (∀ (X : tX) (d : Nat) (x0 : Nat) (x1 : Int32) (x2 : Int32) (x3 : Int32) (s0 : Int32) (σ : rS) (Q : tQ), Ex X d mX7_mend 6 [.ref x0, .int x1, .int x2, .int x3, rU, rU] [.int s0] σ Q = (if s0 = 0 then Ex X d mX7_mend 17 [.ref x0, .int x1, .int x2, .int x3, rU, rU] [] σ Q else Ex X d mX7_mend 9 [.ref x0, .int x1, .int x2, .int x3, rU, rU] [] σ Q)) := fun X d x0 x1 x2 x3 s0 σ Q => q_if_eq (o := 11) (by decide +kernel) rfl
set_option maxRecDepth 50000 in
theorem gX7_mend_9 : (∀ (X : tX) (d : Nat) (x0 : Nat) (x1 : Int32) (x2 : Int32) (x3 : Int32) (σ : rS) (Q : tQ), Ex X d mX7_mend 9 [.ref x0, .int x1, .int x2, .int x3, rU, rU] [] σ Q = Ex X d mX7_mend 10 [.ref x0, .int x1, .int x2, .int x3, rU, rU] [.int x2] σ Q) ∧
  (∀ (X : tX) (d : Nat) (x0 : Nat) (x1 : Int32) (x2 : Int32) (x3 : Int32) (s0 : Int32) (σ : rS) (Q : tQ), Ex X d mX7_mend 10 [.ref x0, .int x1, .int x2, .int x3, rU, rU] [.int s0] σ Q = Ex X d mX7_mend 11 [.ref x0, .int x1, .int x2, .int x3, rU, rU] [.int x3, .int s0] σ Q) ∧
  (∀ (X : tX) (d : Nat) (x0 : Nat) (x1 : Int32) (x2 : Int32) (x3 : Int32) (s0 : Int32) (s1 : Int32) (σ : rS) (Q : tQ), Ex X (d + 1) mX7_mend 11 [.ref x0, .int x1, .int x2, .int x3, rU, rU] [.int s0, .int s1] σ Q = Ex X d mX7_isFit 0 [.int s1, .int s0] [] σ (fun v σ1 => Ex X (d + 1) mX7_mend 14 [.ref x0, .int x1, .int x2, .int x3, rU, rU] (v.toList ++ []) σ1 Q)) := ⟨fun X d x0 x1 x2 x3 σ Q => ex_P (i := .iload_n 2) (len := 1) (by decide +kernel) rfl,
  fun X d x0 x1 x2 x3 s0 σ Q => ex_P (i := .iload_n 3) (len := 1) (by decide +kernel) rfl,
  fun X d x0 x1 x2 x3 s0 s1 σ Q => q_callS (k := 126) (as := [.int s1, .int s0]) (st := []) (show rlk mX7_mend.2.2.2.2.2.2 11 = some (.invokestatic 126, 3) from by decide +kernel) rfl (Or.inl rfl) rfl rfl rfl rfl rfl (Nat.le_of_ble_eq_true rfl) (Nat.le_of_ble_eq_true rfl) rfl⟩
set_option maxRecDepth 50000 in
theorem gX7_mend_14 : (∀ (X : tX) (d : Nat) (x0 : Nat) (x1 : Int32) (x2 : Int32) (x3 : Int32) (s0 : Int32) (σ : rS) (Q : tQ), Ex X d mX7_mend 14 [.ref x0, .int x1, .int x2, .int x3, rU, rU] [.int s0] σ Q = (if s0 = 0 then Ex X d mX7_mend 17 [.ref x0, .int x1, .int x2, .int x3, rU, rU] [] σ Q else Ex X d mX7_mend 19 [.ref x0, .int x1, .int x2, .int x3, rU, rU] [] σ Q)) := fun X d x0 x1 x2 x3 s0 σ Q => q_if_ne (o := 5) (by decide +kernel) rfl
set_option maxRecDepth 50000 in
theorem gX7_mend_17 : (∀ (X : tX) (d : Nat) (x0 : Nat) (x1 : Int32) (x2 : Int32) (x3 : Int32) (σ : rS) (Q : tQ), Ex X d mX7_mend 17 [.ref x0, .int x1, .int x2, .int x3, rU, rU] [] σ Q = Ex X d mX7_mend 18 [.ref x0, .int x1, .int x2, .int x3, rU, rU] [.int (-1)] σ Q) ∧
  (∀ (X : tX) (d : Nat) (x0 : Nat) (x1 : Int32) (x2 : Int32) (x3 : Int32) (s0 : Int32) (σ : rS) (Q : tQ), Ex X d mX7_mend 18 [.ref x0, .int x1, .int x2, .int x3, rU, rU] [.int s0] σ Q = Q (some (.int s0)) σ) := ⟨fun X d x0 x1 x2 x3 σ Q => ex_P (i := .iconst (-1)) (len := 1) (by decide +kernel) rfl,
  fun X d x0 x1 x2 x3 s0 σ Q => q_retI (by decide +kernel) rfl⟩
set_option maxRecDepth 50000 in
theorem gX7_mend_19 : (∀ (X : tX) (d : Nat) (x0 : Nat) (x1 : Int32) (x2 : Int32) (x3 : Int32) (σ : rS) (Q : tQ), Ex X d mX7_mend 19 [.ref x0, .int x1, .int x2, .int x3, rU, rU] [] σ Q = Ex X d mX7_mend 20 [.ref x0, .int x1, .int x2, .int x3, rU, rU] [.ref x0] σ Q) ∧
  (∀ (X : tX) (d : Nat) (x0 : Nat) (x1 : Int32) (x2 : Int32) (x3 : Int32) (s0 : Nat) (σ : rS) (Q : tQ), Ex X d mX7_mend 20 [.ref x0, .int x1, .int x2, .int x3, rU, rU] [.ref s0] σ Q = Ex X d mX7_mend 21 [.ref x0, .int x1, .int x2, .int x3, rU, rU] [.int x1, .ref s0] σ Q) ∧
  (∀ (X : tX) (d : Nat) (x0 : Nat) (x1 : Int32) (x2 : Int32) (x3 : Int32) (s0 : Int32) (s1 : Nat) (σ : rS) (Q : tQ), Ex X d mX7_mend 21 [.ref x0, .int x1, .int x2, .int x3, rU, rU] [.int s0, .ref s1] σ Q = Ex X d mX7_mend 22 [.ref x0, .int x1, .int x2, .int x3, rU, rU] [.int x2, .int s0, .ref s1] σ Q) ∧
  (∀ (X : tX) (d : Nat) (x0 : Nat) (x1 : Int32) (x2 : Int32) (x3 : Int32) (s0 : Int32) (s1 : Int32) (s2 : Nat) (T : tT) (I : tI) (J : tJ) (R : tR) (Q : tQ), Ex X (d + 1) mX7_mend 22 [.ref x0, .int x1, .int x2, .int x3, rU, rU] [.int s0, .int s1, .ref s2] (T, I, J, R) Q = (T[s2]? = some (3, 7) ∧ Ex X d mX7_get 0 [.ref s2, .int s1, .int s0] [] (T, I, J, R) (fun v σ1 => Ex X (d + 1) mX7_mend 25 [.ref x0, .int x1, .int x2, .int x3, rU, rU] (v.toList ++ []) σ1 Q))) := ⟨fun X d x0 x1 x2 x3 σ Q => ex_P (i := .aload_n 0) (len := 1) (by decide +kernel) rfl,
  fun X d x0 x1 x2 x3 s0 σ Q => ex_P (i := .iload_n 1) (len := 1) (by decide +kernel) rfl,
  fun X d x0 x1 x2 x3 s0 s1 σ Q => ex_P (i := .iload_n 2) (len := 1) (by decide +kernel) rfl,
  fun X d x0 x1 x2 x3 s0 s1 s2 T I J R Q => q_callV (k := 129) (as := [.int s1, .int s0]) (st := []) (show rlk mX7_mend.2.2.2.2.2.2 22 = some (.invokevirtual 129, 3) from by decide +kernel) rfl rfl rfl (Nat.le_of_ble_eq_true rfl) (Nat.le_of_ble_eq_true rfl) rfl⟩
set_option maxRecDepth 50000 in
theorem gX7_mend_25 : (∀ (X : tX) (d : Nat) (x0 : Nat) (x1 : Int32) (x2 : Int32) (x3 : Int32) (s0 : Int32) (σ : rS) (Q : tQ), Ex X d mX7_mend 25 [.ref x0, .int x1, .int x2, .int x3, rU, rU] [.int s0] σ Q = Ex X d mX7_mend 27 [.ref x0, .int x1, .int x2, .int x3, .int s0, rU] [] σ Q) ∧
  (∀ (X : tX) (d : Nat) (x0 : Nat) (x1 : Int32) (x2 : Int32) (x3 : Int32) (x4 : Int32) (σ : rS) (Q : tQ), Ex X d mX7_mend 27 [.ref x0, .int x1, .int x2, .int x3, .int x4, rU] [] σ Q = Ex X d mX7_mend 29 [.ref x0, .int x1, .int x2, .int x3, .int x4, rU] [.int x4] σ Q) ∧
  (∀ (X : tX) (d : Nat) (x0 : Nat) (x1 : Int32) (x2 : Int32) (x3 : Int32) (x4 : Int32) (s0 : Int32) (σ : rS) (Q : tQ), Ex X d mX7_mend 29 [.ref x0, .int x1, .int x2, .int x3, .int x4, rU] [.int s0] σ Q = Ex X d mX7_mend 30 [.ref x0, .int x1, .int x2, .int x3, .int x4, rU] [.int x3, .int s0] σ Q) ∧
  (∀ (X : tX) (d : Nat) (x0 : Nat) (x1 : Int32) (x2 : Int32) (x3 : Int32) (x4 : Int32) (s0 : Int32) (s1 : Int32) (σ : rS) (Q : tQ), Ex X d mX7_mend 30 [.ref x0, .int x1, .int x2, .int x3, .int x4, rU] [.int s0, .int s1] σ Q = (if s1 = s0 then Ex X d mX7_mend 33 [.ref x0, .int x1, .int x2, .int x3, .int x4, rU] [] σ Q else Ex X d mX7_mend 36 [.ref x0, .int x1, .int x2, .int x3, .int x4, rU] [] σ Q)) := ⟨fun X d x0 x1 x2 x3 s0 σ Q => ex_P (i := .istore 4) (len := 2) (by decide +kernel) rfl,
  fun X d x0 x1 x2 x3 x4 σ Q => ex_P (i := .iload 4) (len := 2) (by decide +kernel) rfl,
  fun X d x0 x1 x2 x3 x4 s0 σ Q => ex_P (i := .iload_n 3) (len := 1) (by decide +kernel) rfl,
  fun X d x0 x1 x2 x3 x4 s0 s1 σ Q => q_icmp_ne (o := 6) (by decide +kernel) rfl⟩
set_option maxRecDepth 50000 in
theorem gX7_mend_33 : (∀ (X : tX) (d : Nat) (x0 : Nat) (x1 : Int32) (x2 : Int32) (x3 : Int32) (x4 : Int32) (σ : rS) (Q : tQ), Ex X d mX7_mend 33 [.ref x0, .int x1, .int x2, .int x3, .int x4, rU] [] σ Q = Ex X d mX7_mend 35 [.ref x0, .int x1, .int x2, .int x3, .int x4, rU] [.int x4] σ Q) ∧
  (∀ (X : tX) (d : Nat) (x0 : Nat) (x1 : Int32) (x2 : Int32) (x3 : Int32) (x4 : Int32) (s0 : Int32) (σ : rS) (Q : tQ), Ex X d mX7_mend 35 [.ref x0, .int x1, .int x2, .int x3, .int x4, rU] [.int s0] σ Q = Q (some (.int s0)) σ) := ⟨fun X d x0 x1 x2 x3 x4 σ Q => ex_P (i := .iload 4) (len := 2) (by decide +kernel) rfl,
  fun X d x0 x1 x2 x3 x4 s0 σ Q => q_retI (by decide +kernel) rfl⟩
set_option maxRecDepth 50000 in
theorem gX7_mend_36 : (∀ (X : tX) (d : Nat) (x0 : Nat) (x1 : Int32) (x2 : Int32) (x3 : Int32) (x4 : Int32) (σ : rS) (Q : tQ), Ex X d mX7_mend 36 [.ref x0, .int x1, .int x2, .int x3, .int x4, rU] [] σ Q = Ex X d mX7_mend 37 [.ref x0, .int x1, .int x2, .int x3, .int x4, rU] [.ref x0] σ Q) ∧
  (∀ (X : tX) (d : Nat) (x0 : Nat) (x1 : Int32) (x2 : Int32) (x3 : Int32) (x4 : Int32) (s0 : Nat) (σ : rS) (Q : tQ), Ex X d mX7_mend 37 [.ref x0, .int x1, .int x2, .int x3, .int x4, rU] [.ref s0] σ Q = Ex X d mX7_mend 38 [.ref x0, .int x1, .int x2, .int x3, .int x4, rU] [.int x1, .ref s0] σ Q) ∧
  (∀ (X : tX) (d : Nat) (x0 : Nat) (x1 : Int32) (x2 : Int32) (x3 : Int32) (x4 : Int32) (s0 : Int32) (s1 : Nat) (σ : rS) (Q : tQ), Ex X d mX7_mend 38 [.ref x0, .int x1, .int x2, .int x3, .int x4, rU] [.int s0, .ref s1] σ Q = Ex X d mX7_mend 39 [.ref x0, .int x1, .int x2, .int x3, .int x4, rU] [.int x2, .int s0, .ref s1] σ Q) ∧
  (∀ (X : tX) (d : Nat) (x0 : Nat) (x1 : Int32) (x2 : Int32) (x3 : Int32) (x4 : Int32) (s0 : Int32) (s1 : Int32) (s2 : Nat) (σ : rS) (Q : tQ), Ex X d mX7_mend 39 [.ref x0, .int x1, .int x2, .int x3, .int x4, rU] [.int s0, .int s1, .ref s2] σ Q = Ex X d mX7_mend 40 [.ref x0, .int x1, .int x2, .int x3, .int x4, rU] [.int x3, .int s0, .int s1, .ref s2] σ Q) ∧
  (∀ (X : tX) (d : Nat) (x0 : Nat) (x1 : Int32) (x2 : Int32) (x3 : Int32) (x4 : Int32) (s0 : Int32) (s1 : Int32) (s2 : Int32) (s3 : Nat) (T : tT) (I : tI) (J : tJ) (R : tR) (Q : tQ), Ex X (d + 1) mX7_mend 40 [.ref x0, .int x1, .int x2, .int x3, .int x4, rU] [.int s0, .int s1, .int s2, .ref s3] (T, I, J, R) Q = (T[s3]? = some (3, 7) ∧ Ex X d mX7_becomes 0 [.ref s3, .int s2, .int s1, .int s0] [] (T, I, J, R) (fun v σ1 => Ex X (d + 1) mX7_mend 43 [.ref x0, .int x1, .int x2, .int x3, .int x4, rU] (v.toList ++ []) σ1 Q))) := ⟨fun X d x0 x1 x2 x3 x4 σ Q => ex_P (i := .aload_n 0) (len := 1) (by decide +kernel) rfl,
  fun X d x0 x1 x2 x3 x4 s0 σ Q => ex_P (i := .iload_n 1) (len := 1) (by decide +kernel) rfl,
  fun X d x0 x1 x2 x3 x4 s0 s1 σ Q => ex_P (i := .iload_n 2) (len := 1) (by decide +kernel) rfl,
  fun X d x0 x1 x2 x3 x4 s0 s1 s2 σ Q => ex_P (i := .iload_n 3) (len := 1) (by decide +kernel) rfl,
  fun X d x0 x1 x2 x3 x4 s0 s1 s2 s3 T I J R Q => q_callV (k := 132) (as := [.int s2, .int s1, .int s0]) (st := []) (show rlk mX7_mend.2.2.2.2.2.2 40 = some (.invokevirtual 132, 3) from by decide +kernel) rfl rfl rfl (Nat.le_of_ble_eq_true rfl) (Nat.le_of_ble_eq_true rfl) rfl⟩
set_option maxRecDepth 50000 in
theorem gX7_mend_43 : (∀ (X : tX) (d : Nat) (x0 : Nat) (x1 : Int32) (x2 : Int32) (x3 : Int32) (x4 : Int32) (σ : rS) (Q : tQ), Ex X d mX7_mend 43 [.ref x0, .int x1, .int x2, .int x3, .int x4, rU] [] σ Q = Ex X d mX7_mend 44 [.ref x0, .int x1, .int x2, .int x3, .int x4, rU] [.ref x0] σ Q) ∧
  (∀ (X : tX) (d : Nat) (x0 : Nat) (x1 : Int32) (x2 : Int32) (x3 : Int32) (x4 : Int32) (s0 : Nat) (T : tT) (I : tI) (J : tJ) (R : tR) (Q : tQ), Ex X d mX7_mend 44 [.ref x0, .int x1, .int x2, .int x3, .int x4, rU] [.ref s0] (T, I, J, R) Q = (T[s0]? = some (3, 7) ∧ Ex X d mX7_mend 47 [.ref x0, .int x1, .int x2, .int x3, .int x4, rU] [.int (I s0 28)] (T, I, J, R) Q)) ∧
  (∀ (X : tX) (d : Nat) (x0 : Nat) (x1 : Int32) (x2 : Int32) (x3 : Int32) (x4 : Int32) (s0 : Int32) (σ : rS) (Q : tQ), Ex X d mX7_mend 47 [.ref x0, .int x1, .int x2, .int x3, .int x4, rU] [.int s0] σ Q = Ex X d mX7_mend 49 [.ref x0, .int x1, .int x2, .int x3, .int x4, rU] [.int 40, .int s0] σ Q) ∧
  (∀ (X : tX) (d : Nat) (x0 : Nat) (x1 : Int32) (x2 : Int32) (x3 : Int32) (x4 : Int32) (s0 : Int32) (s1 : Int32) (σ : rS) (Q : tQ), Ex X d mX7_mend 49 [.ref x0, .int x1, .int x2, .int x3, .int x4, rU] [.int s0, .int s1] σ Q = (if s1 = s0 then Ex X d mX7_mend 52 [.ref x0, .int x1, .int x2, .int x3, .int x4, rU] [] σ Q else Ex X d mX7_mend 95 [.ref x0, .int x1, .int x2, .int x3, .int x4, rU] [] σ Q)) := ⟨fun X d x0 x1 x2 x3 x4 σ Q => ex_P (i := .aload_n 0) (len := 1) (by decide +kernel) rfl,
  fun X d x0 x1 x2 x3 x4 s0 T I J R Q => q_getI (k := 136) (by decide +kernel) rfl rfl (by decide),
  fun X d x0 x1 x2 x3 x4 s0 σ Q => ex_P (i := .bipush 40) (len := 2) (by decide +kernel) rfl,
  fun X d x0 x1 x2 x3 x4 s0 s1 σ Q => q_icmp_ne (o := 46) (by decide +kernel) rfl⟩
set_option maxRecDepth 50000 in
theorem gX7_mend_52 : (∀ (X : tX) (d : Nat) (x0 : Nat) (x1 : Int32) (x2 : Int32) (x3 : Int32) (x4 : Int32) (σ : rS) (Q : tQ), Ex X d mX7_mend 52 [.ref x0, .int x1, .int x2, .int x3, .int x4, rU] [] σ Q = Ex X d mX7_mend 53 [.ref x0, .int x1, .int x2, .int x3, .int x4, rU] [.int 0] σ Q) ∧
  (∀ (X : tX) (d : Nat) (x0 : Nat) (x1 : Int32) (x2 : Int32) (x3 : Int32) (x4 : Int32) (s0 : Int32) (σ : rS) (Q : tQ), Ex X d mX7_mend 53 [.ref x0, .int x1, .int x2, .int x3, .int x4, rU] [.int s0] σ Q = Ex X d mX7_mend 55 [.ref x0, .int x1, .int x2, .int x3, .int x4, .int s0] [] σ Q) := ⟨fun X d x0 x1 x2 x3 x4 σ Q => ex_P (i := .iconst 0) (len := 1) (by decide +kernel) rfl,
  fun X d x0 x1 x2 x3 x4 s0 σ Q => ex_P (i := .istore 5) (len := 2) (by decide +kernel) rfl⟩
set_option maxRecDepth 50000 in
theorem gX7_mend_55 : (∀ (X : tX) (d : Nat) (x0 : Nat) (x1 : Int32) (x2 : Int32) (x3 : Int32) (x4 : Int32) (x5 : Int32) (σ : rS) (Q : tQ), Ex X d mX7_mend 55 [.ref x0, .int x1, .int x2, .int x3, .int x4, .int x5] [] σ Q = Ex X d mX7_mend 57 [.ref x0, .int x1, .int x2, .int x3, .int x4, .int x5] [.int x5] σ Q) ∧
  (∀ (X : tX) (d : Nat) (x0 : Nat) (x1 : Int32) (x2 : Int32) (x3 : Int32) (x4 : Int32) (x5 : Int32) (s0 : Int32) (σ : rS) (Q : tQ), Ex X d mX7_mend 57 [.ref x0, .int x1, .int x2, .int x3, .int x4, .int x5] [.int s0] σ Q = Ex X d mX7_mend 60 [.ref x0, .int x1, .int x2, .int x3, .int x4, .int x5] [.int 156, .int s0] σ Q) ∧
  (∀ (X : tX) (d : Nat) (x0 : Nat) (x1 : Int32) (x2 : Int32) (x3 : Int32) (x4 : Int32) (x5 : Int32) (s0 : Int32) (s1 : Int32) (σ : rS) (Q : tQ), Ex X d mX7_mend 60 [.ref x0, .int x1, .int x2, .int x3, .int x4, .int x5] [.int s0, .int s1] σ Q = (if s0 ≤ s1 then Ex X d mX7_mend 85 [.ref x0, .int x1, .int x2, .int x3, .int x4, .int x5] [] σ Q else Ex X d mX7_mend 63 [.ref x0, .int x1, .int x2, .int x3, .int x4, .int x5] [] σ Q)) := ⟨fun X d x0 x1 x2 x3 x4 x5 σ Q => ex_P (i := .iload 5) (len := 2) (by decide +kernel) rfl,
  fun X d x0 x1 x2 x3 x4 x5 s0 σ Q => ex_P (i := .sipush 156) (len := 3) (by decide +kernel) rfl,
  fun X d x0 x1 x2 x3 x4 x5 s0 s1 σ Q => q_icmp_ge (o := 25) (by decide +kernel) rfl⟩
set_option maxRecDepth 50000 in
theorem gX7_mend_63 : (∀ (X : tX) (d : Nat) (x0 : Nat) (x1 : Int32) (x2 : Int32) (x3 : Int32) (x4 : Int32) (x5 : Int32) (σ : rS) (Q : tQ), Ex X d mX7_mend 63 [.ref x0, .int x1, .int x2, .int x3, .int x4, .int x5] [] σ Q = Ex X d mX7_mend 64 [.ref x0, .int x1, .int x2, .int x3, .int x4, .int x5] [.ref x0] σ Q) ∧
  (∀ (X : tX) (d : Nat) (x0 : Nat) (x1 : Int32) (x2 : Int32) (x3 : Int32) (x4 : Int32) (x5 : Int32) (s0 : Nat) (T : tT) (I : tI) (J : tJ) (R : tR) (Q : tQ), Ex X d mX7_mend 64 [.ref x0, .int x1, .int x2, .int x3, .int x4, .int x5] [.ref s0] (T, I, J, R) Q = (T[s0]? = some (3, 7) ∧ Ex X d mX7_mend 67 [.ref x0, .int x1, .int x2, .int x3, .int x4, .int x5] [va_rf (R s0 29)] (T, I, J, R) Q)) ∧
  (∀ (X : tX) (d : Nat) (x0 : Nat) (x1 : Int32) (x2 : Int32) (x3 : Int32) (x4 : Int32) (x5 : Int32) (s0 : Nat) (σ : rS) (Q : tQ), Ex X d mX7_mend 67 [.ref x0, .int x1, .int x2, .int x3, .int x4, .int x5] [.ref s0] σ Q = Ex X d mX7_mend 69 [.ref x0, .int x1, .int x2, .int x3, .int x4, .int x5] [.int x5, .ref s0] σ Q) ∧
  (∀ (X : tX) (d : Nat) (x0 : Nat) (x1 : Int32) (x2 : Int32) (x3 : Int32) (x4 : Int32) (x5 : Int32) (s0 : Int32) (s1 : Nat) (σ : rS) (Q : tQ), Ex X d mX7_mend 69 [.ref x0, .int x1, .int x2, .int x3, .int x4, .int x5] [.int s0, .ref s1] σ Q = Ex X d mX7_mend 70 [.ref x0, .int x1, .int x2, .int x3, .int x4, .int x5] [.ref x0, .int s0, .ref s1] σ Q) ∧
  (∀ (X : tX) (d : Nat) (x0 : Nat) (x1 : Int32) (x2 : Int32) (x3 : Int32) (x4 : Int32) (x5 : Int32) (s0 : Nat) (s1 : Int32) (s2 : Nat) (T : tT) (I : tI) (J : tJ) (R : tR) (Q : tQ), Ex X d mX7_mend 70 [.ref x0, .int x1, .int x2, .int x3, .int x4, .int x5] [.ref s0, .int s1, .ref s2] (T, I, J, R) Q = (T[s0]? = some (3, 7) ∧ Ex X d mX7_mend 73 [.ref x0, .int x1, .int x2, .int x3, .int x4, .int x5] [va_rf (R s0 29), .int s1, .ref s2] (T, I, J, R) Q)) ∧
  (∀ (X : tX) (d : Nat) (x0 : Nat) (x1 : Int32) (x2 : Int32) (x3 : Int32) (x4 : Int32) (x5 : Int32) (s0 : Nat) (s1 : Int32) (s2 : Nat) (σ : rS) (Q : tQ), Ex X d mX7_mend 73 [.ref x0, .int x1, .int x2, .int x3, .int x4, .int x5] [.ref s0, .int s1, .ref s2] σ Q = Ex X d mX7_mend 75 [.ref x0, .int x1, .int x2, .int x3, .int x4, .int x5] [.int x5, .ref s0, .int s1, .ref s2] σ Q) ∧
  (∀ (X : tX) (d : Nat) (x0 : Nat) (x1 : Int32) (x2 : Int32) (x3 : Int32) (x4 : Int32) (x5 : Int32) (s0 : Int32) (s1 : Nat) (s2 : Int32) (s3 : Nat) (σ : rS) (Q : tQ), Ex X d mX7_mend 75 [.ref x0, .int x1, .int x2, .int x3, .int x4, .int x5] [.int s0, .ref s1, .int s2, .ref s3] σ Q = Ex X d mX7_mend 76 [.ref x0, .int x1, .int x2, .int x3, .int x4, .int x5] [.int 4, .int s0, .ref s1, .int s2, .ref s3] σ Q) ∧
  (∀ (X : tX) (d : Nat) (x0 : Nat) (x1 : Int32) (x2 : Int32) (x3 : Int32) (x4 : Int32) (x5 : Int32) (s0 : Int32) (s1 : Int32) (s2 : Nat) (s3 : Int32) (s4 : Nat) (σ : rS) (Q : tQ), Ex X d mX7_mend 76 [.ref x0, .int x1, .int x2, .int x3, .int x4, .int x5] [.int s0, .int s1, .ref s2, .int s3, .ref s4] σ Q = Ex X d mX7_mend 77 [.ref x0, .int x1, .int x2, .int x3, .int x4, .int x5] [.int (s1 + s0), .ref s2, .int s3, .ref s4] σ Q) ∧
  (∀ (X : tX) (d : Nat) (x0 : Nat) (x1 : Int32) (x2 : Int32) (x3 : Int32) (x4 : Int32) (x5 : Int32) (s0 : Int32) (s1 : Nat) (s2 : Int32) (s3 : Nat) (T : tT) (I : tI) (J : tJ) (R : tR) (Q : tQ), Ex X d mX7_mend 77 [.ref x0, .int x1, .int x2, .int x3, .int x4, .int x5] [.int s0, .ref s1, .int s2, .ref s3] (T, I, J, R) Q = (rIn T s1 0 s0 ∧ Ex X d mX7_mend 78 [.ref x0, .int x1, .int x2, .int x3, .int x4, .int x5] [.int (I s1 s0.toNatClampNeg), .int s2, .ref s3] (T, I, J, R) Q)) ∧
  (∀ (X : tX) (d : Nat) (x0 : Nat) (x1 : Int32) (x2 : Int32) (x3 : Int32) (x4 : Int32) (x5 : Int32) (s0 : Int32) (s1 : Int32) (s2 : Nat) (T : tT) (I : tI) (J : tJ) (R : tR) (Q : tQ), Ex X d mX7_mend 78 [.ref x0, .int x1, .int x2, .int x3, .int x4, .int x5] [.int s0, .int s1, .ref s2] (T, I, J, R) Q = (rIn T s2 0 s1 ∧ Ex X d mX7_mend 79 [.ref x0, .int x1, .int x2, .int x3, .int x4, .int x5] [] (T, va_up I s2 (va_up (I s2) s1.toNatClampNeg s0), J, R) Q)) ∧
  (∀ (X : tX) (d : Nat) (x0 : Nat) (x1 : Int32) (x2 : Int32) (x3 : Int32) (x4 : Int32) (x5 : Int32) (σ : rS) (Q : tQ), Ex X d mX7_mend 79 [.ref x0, .int x1, .int x2, .int x3, .int x4, .int x5] [] σ Q = Ex X d mX7_mend 82 [.ref x0, .int x1, .int x2, .int x3, .int x4, .int (x5 + 1)] [] σ Q) ∧
  (∀ (X : tX) (d : Nat) (x0 : Nat) (x1 : Int32) (x2 : Int32) (x3 : Int32) (x4 : Int32) (x5 : Int32) (σ : rS) (Q : tQ), Ex X d mX7_mend 82 [.ref x0, .int x1, .int x2, .int x3, .int x4, .int x5] [] σ Q = Ex X d mX7_mend 55 [.ref x0, .int x1, .int x2, .int x3, .int x4, .int x5] [] σ Q) := ⟨fun X d x0 x1 x2 x3 x4 x5 σ Q => ex_P (i := .aload_n 0) (len := 1) (by decide +kernel) rfl,
  fun X d x0 x1 x2 x3 x4 x5 s0 T I J R Q => q_getR (k := 63) (by decide +kernel) rfl rfl,
  fun X d x0 x1 x2 x3 x4 x5 s0 σ Q => ex_P (i := .iload 5) (len := 2) (by decide +kernel) rfl,
  fun X d x0 x1 x2 x3 x4 x5 s0 s1 σ Q => ex_P (i := .aload_n 0) (len := 1) (by decide +kernel) rfl,
  fun X d x0 x1 x2 x3 x4 x5 s0 s1 s2 T I J R Q => q_getR (k := 63) (by decide +kernel) rfl rfl,
  fun X d x0 x1 x2 x3 x4 x5 s0 s1 s2 σ Q => ex_P (i := .iload 5) (len := 2) (by decide +kernel) rfl,
  fun X d x0 x1 x2 x3 x4 x5 s0 s1 s2 s3 σ Q => ex_P (i := .iconst 4) (len := 1) (by decide +kernel) rfl,
  fun X d x0 x1 x2 x3 x4 x5 s0 s1 s2 s3 s4 σ Q => ex_P (i := .iadd) (len := 1) (by decide +kernel) rfl,
  fun X d x0 x1 x2 x3 x4 x5 s0 s1 s2 s3 T I J R Q => q_iald (by decide +kernel),
  fun X d x0 x1 x2 x3 x4 x5 s0 s1 s2 T I J R Q => q_iast (by decide +kernel),
  fun X d x0 x1 x2 x3 x4 x5 σ Q => ex_P (i := .iinc 5 1) (len := 3) (by decide +kernel) rfl,
  fun X d x0 x1 x2 x3 x4 x5 σ Q => q_goto (o := (-27)) (by decide +kernel) rfl⟩
set_option maxRecDepth 50000 in
theorem gX7_mend_85 : (∀ (X : tX) (d : Nat) (x0 : Nat) (x1 : Int32) (x2 : Int32) (x3 : Int32) (x4 : Int32) (x5 : Int32) (σ : rS) (Q : tQ), Ex X d mX7_mend 85 [.ref x0, .int x1, .int x2, .int x3, .int x4, .int x5] [] σ Q = Ex X d mX7_mend 86 [.ref x0, .int x1, .int x2, .int x3, .int x4, .int x5] [.ref x0] σ Q) ∧
  (∀ (X : tX) (d : Nat) (x0 : Nat) (x1 : Int32) (x2 : Int32) (x3 : Int32) (x4 : Int32) (x5 : Int32) (s0 : Nat) (σ : rS) (Q : tQ), Ex X d mX7_mend 86 [.ref x0, .int x1, .int x2, .int x3, .int x4, .int x5] [.ref s0] σ Q = Ex X d mX7_mend 87 [.ref x0, .int x1, .int x2, .int x3, .int x4, .int x5] [.ref s0, .ref s0] σ Q) ∧
  (∀ (X : tX) (d : Nat) (x0 : Nat) (x1 : Int32) (x2 : Int32) (x3 : Int32) (x4 : Int32) (x5 : Int32) (s0 : Nat) (s1 : Nat) (T : tT) (I : tI) (J : tJ) (R : tR) (Q : tQ), Ex X d mX7_mend 87 [.ref x0, .int x1, .int x2, .int x3, .int x4, .int x5] [.ref s0, .ref s1] (T, I, J, R) Q = (T[s0]? = some (3, 7) ∧ Ex X d mX7_mend 90 [.ref x0, .int x1, .int x2, .int x3, .int x4, .int x5] [.int (I s0 28), .ref s1] (T, I, J, R) Q)) ∧
  (∀ (X : tX) (d : Nat) (x0 : Nat) (x1 : Int32) (x2 : Int32) (x3 : Int32) (x4 : Int32) (x5 : Int32) (s0 : Int32) (s1 : Nat) (σ : rS) (Q : tQ), Ex X d mX7_mend 90 [.ref x0, .int x1, .int x2, .int x3, .int x4, .int x5] [.int s0, .ref s1] σ Q = Ex X d mX7_mend 91 [.ref x0, .int x1, .int x2, .int x3, .int x4, .int x5] [.int 1, .int s0, .ref s1] σ Q) ∧
  (∀ (X : tX) (d : Nat) (x0 : Nat) (x1 : Int32) (x2 : Int32) (x3 : Int32) (x4 : Int32) (x5 : Int32) (s0 : Int32) (s1 : Int32) (s2 : Nat) (σ : rS) (Q : tQ), Ex X d mX7_mend 91 [.ref x0, .int x1, .int x2, .int x3, .int x4, .int x5] [.int s0, .int s1, .ref s2] σ Q = Ex X d mX7_mend 92 [.ref x0, .int x1, .int x2, .int x3, .int x4, .int x5] [.int (s1 - s0), .ref s2] σ Q) ∧
  (∀ (X : tX) (d : Nat) (x0 : Nat) (x1 : Int32) (x2 : Int32) (x3 : Int32) (x4 : Int32) (x5 : Int32) (s0 : Int32) (s1 : Nat) (T : tT) (I : tI) (J : tJ) (R : tR) (Q : tQ), Ex X d mX7_mend 92 [.ref x0, .int x1, .int x2, .int x3, .int x4, .int x5] [.int s0, .ref s1] (T, I, J, R) Q = (T[s1]? = some (3, 7) ∧ Ex X d mX7_mend 95 [.ref x0, .int x1, .int x2, .int x3, .int x4, .int x5] [] (T, va_up I s1 (va_up (I s1) 28 s0), J, R) Q)) := ⟨fun X d x0 x1 x2 x3 x4 x5 σ Q => ex_P (i := .aload_n 0) (len := 1) (by decide +kernel) rfl,
  fun X d x0 x1 x2 x3 x4 x5 s0 σ Q => ex_P (i := .dup) (len := 1) (by decide +kernel) rfl,
  fun X d x0 x1 x2 x3 x4 x5 s0 s1 T I J R Q => q_getI (k := 136) (by decide +kernel) rfl rfl (by decide),
  fun X d x0 x1 x2 x3 x4 x5 s0 s1 σ Q => ex_P (i := .iconst 1) (len := 1) (by decide +kernel) rfl,
  fun X d x0 x1 x2 x3 x4 x5 s0 s1 s2 σ Q => ex_P (i := .isub) (len := 1) (by decide +kernel) rfl,
  fun X d x0 x1 x2 x3 x4 x5 s0 s1 T I J R Q => q_putI (k := 136) (by decide +kernel) rfl rfl (by decide +kernel)⟩
set_option maxRecDepth 50000 in
theorem gX7_mend_95 : (∀ (X : tX) (d : Nat) (x0 : Nat) (x1 : Int32) (x2 : Int32) (x3 : Int32) (x4 : Int32) (v5 : Value) (σ : rS) (Q : tQ), Ex X d mX7_mend 95 [.ref x0, .int x1, .int x2, .int x3, .int x4, v5] [] σ Q = Ex X d mX7_mend 96 [.ref x0, .int x1, .int x2, .int x3, .int x4, v5] [.ref x0] σ Q) ∧
  (∀ (X : tX) (d : Nat) (x0 : Nat) (x1 : Int32) (x2 : Int32) (x3 : Int32) (x4 : Int32) (v5 : Value) (s0 : Nat) (T : tT) (I : tI) (J : tJ) (R : tR) (Q : tQ), Ex X d mX7_mend 96 [.ref x0, .int x1, .int x2, .int x3, .int x4, v5] [.ref s0] (T, I, J, R) Q = (T[s0]? = some (3, 7) ∧ Ex X d mX7_mend 99 [.ref x0, .int x1, .int x2, .int x3, .int x4, v5] [va_rf (R s0 29)] (T, I, J, R) Q)) ∧
  (∀ (X : tX) (d : Nat) (x0 : Nat) (x1 : Int32) (x2 : Int32) (x3 : Int32) (x4 : Int32) (v5 : Value) (s0 : Nat) (σ : rS) (Q : tQ), Ex X d mX7_mend 99 [.ref x0, .int x1, .int x2, .int x3, .int x4, v5] [.ref s0] σ Q = Ex X d mX7_mend 100 [.ref x0, .int x1, .int x2, .int x3, .int x4, v5] [.int 4, .ref s0] σ Q) ∧
  (∀ (X : tX) (d : Nat) (x0 : Nat) (x1 : Int32) (x2 : Int32) (x3 : Int32) (x4 : Int32) (v5 : Value) (s0 : Int32) (s1 : Nat) (σ : rS) (Q : tQ), Ex X d mX7_mend 100 [.ref x0, .int x1, .int x2, .int x3, .int x4, v5] [.int s0, .ref s1] σ Q = Ex X d mX7_mend 101 [.ref x0, .int x1, .int x2, .int x3, .int x4, v5] [.ref x0, .int s0, .ref s1] σ Q) ∧
  (∀ (X : tX) (d : Nat) (x0 : Nat) (x1 : Int32) (x2 : Int32) (x3 : Int32) (x4 : Int32) (v5 : Value) (s0 : Nat) (s1 : Int32) (s2 : Nat) (T : tT) (I : tI) (J : tJ) (R : tR) (Q : tQ), Ex X d mX7_mend 101 [.ref x0, .int x1, .int x2, .int x3, .int x4, v5] [.ref s0, .int s1, .ref s2] (T, I, J, R) Q = (T[s0]? = some (3, 7) ∧ Ex X d mX7_mend 104 [.ref x0, .int x1, .int x2, .int x3, .int x4, v5] [.int (I s0 28), .int s1, .ref s2] (T, I, J, R) Q)) ∧
  (∀ (X : tX) (d : Nat) (x0 : Nat) (x1 : Int32) (x2 : Int32) (x3 : Int32) (x4 : Int32) (v5 : Value) (s0 : Int32) (s1 : Int32) (s2 : Nat) (σ : rS) (Q : tQ), Ex X d mX7_mend 104 [.ref x0, .int x1, .int x2, .int x3, .int x4, v5] [.int s0, .int s1, .ref s2] σ Q = Ex X d mX7_mend 105 [.ref x0, .int x1, .int x2, .int x3, .int x4, v5] [.int (s1 * s0), .ref s2] σ Q) ∧
  (∀ (X : tX) (d : Nat) (x0 : Nat) (x1 : Int32) (x2 : Int32) (x3 : Int32) (x4 : Int32) (v5 : Value) (s0 : Int32) (s1 : Nat) (σ : rS) (Q : tQ), Ex X d mX7_mend 105 [.ref x0, .int x1, .int x2, .int x3, .int x4, v5] [.int s0, .ref s1] σ Q = Ex X d mX7_mend 106 [.ref x0, .int x1, .int x2, .int x3, .int x4, v5] [.int x1, .int s0, .ref s1] σ Q) ∧
  (∀ (X : tX) (d : Nat) (x0 : Nat) (x1 : Int32) (x2 : Int32) (x3 : Int32) (x4 : Int32) (v5 : Value) (s0 : Int32) (s1 : Int32) (s2 : Nat) (T : tT) (I : tI) (J : tJ) (R : tR) (Q : tQ), Ex X d mX7_mend 106 [.ref x0, .int x1, .int x2, .int x3, .int x4, v5] [.int s0, .int s1, .ref s2] (T, I, J, R) Q = (rIn T s2 0 s1 ∧ Ex X d mX7_mend 107 [.ref x0, .int x1, .int x2, .int x3, .int x4, v5] [] (T, va_up I s2 (va_up (I s2) s1.toNatClampNeg s0), J, R) Q)) ∧
  (∀ (X : tX) (d : Nat) (x0 : Nat) (x1 : Int32) (x2 : Int32) (x3 : Int32) (x4 : Int32) (v5 : Value) (σ : rS) (Q : tQ), Ex X d mX7_mend 107 [.ref x0, .int x1, .int x2, .int x3, .int x4, v5] [] σ Q = Ex X d mX7_mend 108 [.ref x0, .int x1, .int x2, .int x3, .int x4, v5] [.ref x0] σ Q) ∧
  (∀ (X : tX) (d : Nat) (x0 : Nat) (x1 : Int32) (x2 : Int32) (x3 : Int32) (x4 : Int32) (v5 : Value) (s0 : Nat) (T : tT) (I : tI) (J : tJ) (R : tR) (Q : tQ), Ex X d mX7_mend 108 [.ref x0, .int x1, .int x2, .int x3, .int x4, v5] [.ref s0] (T, I, J, R) Q = (T[s0]? = some (3, 7) ∧ Ex X d mX7_mend 111 [.ref x0, .int x1, .int x2, .int x3, .int x4, v5] [va_rf (R s0 29)] (T, I, J, R) Q)) ∧
  (∀ (X : tX) (d : Nat) (x0 : Nat) (x1 : Int32) (x2 : Int32) (x3 : Int32) (x4 : Int32) (v5 : Value) (s0 : Nat) (σ : rS) (Q : tQ), Ex X d mX7_mend 111 [.ref x0, .int x1, .int x2, .int x3, .int x4, v5] [.ref s0] σ Q = Ex X d mX7_mend 112 [.ref x0, .int x1, .int x2, .int x3, .int x4, v5] [.int 4, .ref s0] σ Q) ∧
  (∀ (X : tX) (d : Nat) (x0 : Nat) (x1 : Int32) (x2 : Int32) (x3 : Int32) (x4 : Int32) (v5 : Value) (s0 : Int32) (s1 : Nat) (σ : rS) (Q : tQ), Ex X d mX7_mend 112 [.ref x0, .int x1, .int x2, .int x3, .int x4, v5] [.int s0, .ref s1] σ Q = Ex X d mX7_mend 113 [.ref x0, .int x1, .int x2, .int x3, .int x4, v5] [.ref x0, .int s0, .ref s1] σ Q) ∧
  (∀ (X : tX) (d : Nat) (x0 : Nat) (x1 : Int32) (x2 : Int32) (x3 : Int32) (x4 : Int32) (v5 : Value) (s0 : Nat) (s1 : Int32) (s2 : Nat) (T : tT) (I : tI) (J : tJ) (R : tR) (Q : tQ), Ex X d mX7_mend 113 [.ref x0, .int x1, .int x2, .int x3, .int x4, v5] [.ref s0, .int s1, .ref s2] (T, I, J, R) Q = (T[s0]? = some (3, 7) ∧ Ex X d mX7_mend 116 [.ref x0, .int x1, .int x2, .int x3, .int x4, v5] [.int (I s0 28), .int s1, .ref s2] (T, I, J, R) Q)) ∧
  (∀ (X : tX) (d : Nat) (x0 : Nat) (x1 : Int32) (x2 : Int32) (x3 : Int32) (x4 : Int32) (v5 : Value) (s0 : Int32) (s1 : Int32) (s2 : Nat) (σ : rS) (Q : tQ), Ex X d mX7_mend 116 [.ref x0, .int x1, .int x2, .int x3, .int x4, v5] [.int s0, .int s1, .ref s2] σ Q = Ex X d mX7_mend 117 [.ref x0, .int x1, .int x2, .int x3, .int x4, v5] [.int (s1 * s0), .ref s2] σ Q) ∧
  (∀ (X : tX) (d : Nat) (x0 : Nat) (x1 : Int32) (x2 : Int32) (x3 : Int32) (x4 : Int32) (v5 : Value) (s0 : Int32) (s1 : Nat) (σ : rS) (Q : tQ), Ex X d mX7_mend 117 [.ref x0, .int x1, .int x2, .int x3, .int x4, v5] [.int s0, .ref s1] σ Q = Ex X d mX7_mend 118 [.ref x0, .int x1, .int x2, .int x3, .int x4, v5] [.int 1, .int s0, .ref s1] σ Q) ∧
  (∀ (X : tX) (d : Nat) (x0 : Nat) (x1 : Int32) (x2 : Int32) (x3 : Int32) (x4 : Int32) (v5 : Value) (s0 : Int32) (s1 : Int32) (s2 : Nat) (σ : rS) (Q : tQ), Ex X d mX7_mend 118 [.ref x0, .int x1, .int x2, .int x3, .int x4, v5] [.int s0, .int s1, .ref s2] σ Q = Ex X d mX7_mend 119 [.ref x0, .int x1, .int x2, .int x3, .int x4, v5] [.int (s1 + s0), .ref s2] σ Q) ∧
  (∀ (X : tX) (d : Nat) (x0 : Nat) (x1 : Int32) (x2 : Int32) (x3 : Int32) (x4 : Int32) (v5 : Value) (s0 : Int32) (s1 : Nat) (σ : rS) (Q : tQ), Ex X d mX7_mend 119 [.ref x0, .int x1, .int x2, .int x3, .int x4, v5] [.int s0, .ref s1] σ Q = Ex X d mX7_mend 120 [.ref x0, .int x1, .int x2, .int x3, .int x4, v5] [.int x2, .int s0, .ref s1] σ Q) ∧
  (∀ (X : tX) (d : Nat) (x0 : Nat) (x1 : Int32) (x2 : Int32) (x3 : Int32) (x4 : Int32) (v5 : Value) (s0 : Int32) (s1 : Int32) (s2 : Nat) (T : tT) (I : tI) (J : tJ) (R : tR) (Q : tQ), Ex X d mX7_mend 120 [.ref x0, .int x1, .int x2, .int x3, .int x4, v5] [.int s0, .int s1, .ref s2] (T, I, J, R) Q = (rIn T s2 0 s1 ∧ Ex X d mX7_mend 121 [.ref x0, .int x1, .int x2, .int x3, .int x4, v5] [] (T, va_up I s2 (va_up (I s2) s1.toNatClampNeg s0), J, R) Q)) ∧
  (∀ (X : tX) (d : Nat) (x0 : Nat) (x1 : Int32) (x2 : Int32) (x3 : Int32) (x4 : Int32) (v5 : Value) (σ : rS) (Q : tQ), Ex X d mX7_mend 121 [.ref x0, .int x1, .int x2, .int x3, .int x4, v5] [] σ Q = Ex X d mX7_mend 122 [.ref x0, .int x1, .int x2, .int x3, .int x4, v5] [.ref x0] σ Q) ∧
  (∀ (X : tX) (d : Nat) (x0 : Nat) (x1 : Int32) (x2 : Int32) (x3 : Int32) (x4 : Int32) (v5 : Value) (s0 : Nat) (T : tT) (I : tI) (J : tJ) (R : tR) (Q : tQ), Ex X d mX7_mend 122 [.ref x0, .int x1, .int x2, .int x3, .int x4, v5] [.ref s0] (T, I, J, R) Q = (T[s0]? = some (3, 7) ∧ Ex X d mX7_mend 125 [.ref x0, .int x1, .int x2, .int x3, .int x4, v5] [va_rf (R s0 29)] (T, I, J, R) Q)) ∧
  (∀ (X : tX) (d : Nat) (x0 : Nat) (x1 : Int32) (x2 : Int32) (x3 : Int32) (x4 : Int32) (v5 : Value) (s0 : Nat) (σ : rS) (Q : tQ), Ex X d mX7_mend 125 [.ref x0, .int x1, .int x2, .int x3, .int x4, v5] [.ref s0] σ Q = Ex X d mX7_mend 126 [.ref x0, .int x1, .int x2, .int x3, .int x4, v5] [.int 4, .ref s0] σ Q) ∧
  (∀ (X : tX) (d : Nat) (x0 : Nat) (x1 : Int32) (x2 : Int32) (x3 : Int32) (x4 : Int32) (v5 : Value) (s0 : Int32) (s1 : Nat) (σ : rS) (Q : tQ), Ex X d mX7_mend 126 [.ref x0, .int x1, .int x2, .int x3, .int x4, v5] [.int s0, .ref s1] σ Q = Ex X d mX7_mend 127 [.ref x0, .int x1, .int x2, .int x3, .int x4, v5] [.ref x0, .int s0, .ref s1] σ Q) ∧
  (∀ (X : tX) (d : Nat) (x0 : Nat) (x1 : Int32) (x2 : Int32) (x3 : Int32) (x4 : Int32) (v5 : Value) (s0 : Nat) (s1 : Int32) (s2 : Nat) (T : tT) (I : tI) (J : tJ) (R : tR) (Q : tQ), Ex X d mX7_mend 127 [.ref x0, .int x1, .int x2, .int x3, .int x4, v5] [.ref s0, .int s1, .ref s2] (T, I, J, R) Q = (T[s0]? = some (3, 7) ∧ Ex X d mX7_mend 130 [.ref x0, .int x1, .int x2, .int x3, .int x4, v5] [.int (I s0 28), .int s1, .ref s2] (T, I, J, R) Q)) ∧
  (∀ (X : tX) (d : Nat) (x0 : Nat) (x1 : Int32) (x2 : Int32) (x3 : Int32) (x4 : Int32) (v5 : Value) (s0 : Int32) (s1 : Int32) (s2 : Nat) (σ : rS) (Q : tQ), Ex X d mX7_mend 130 [.ref x0, .int x1, .int x2, .int x3, .int x4, v5] [.int s0, .int s1, .ref s2] σ Q = Ex X d mX7_mend 131 [.ref x0, .int x1, .int x2, .int x3, .int x4, v5] [.int (s1 * s0), .ref s2] σ Q) ∧
  (∀ (X : tX) (d : Nat) (x0 : Nat) (x1 : Int32) (x2 : Int32) (x3 : Int32) (x4 : Int32) (v5 : Value) (s0 : Int32) (s1 : Nat) (σ : rS) (Q : tQ), Ex X d mX7_mend 131 [.ref x0, .int x1, .int x2, .int x3, .int x4, v5] [.int s0, .ref s1] σ Q = Ex X d mX7_mend 132 [.ref x0, .int x1, .int x2, .int x3, .int x4, v5] [.int 2, .int s0, .ref s1] σ Q) ∧
  (∀ (X : tX) (d : Nat) (x0 : Nat) (x1 : Int32) (x2 : Int32) (x3 : Int32) (x4 : Int32) (v5 : Value) (s0 : Int32) (s1 : Int32) (s2 : Nat) (σ : rS) (Q : tQ), Ex X d mX7_mend 132 [.ref x0, .int x1, .int x2, .int x3, .int x4, v5] [.int s0, .int s1, .ref s2] σ Q = Ex X d mX7_mend 133 [.ref x0, .int x1, .int x2, .int x3, .int x4, v5] [.int (s1 + s0), .ref s2] σ Q) ∧
  (∀ (X : tX) (d : Nat) (x0 : Nat) (x1 : Int32) (x2 : Int32) (x3 : Int32) (x4 : Int32) (v5 : Value) (s0 : Int32) (s1 : Nat) (σ : rS) (Q : tQ), Ex X d mX7_mend 133 [.ref x0, .int x1, .int x2, .int x3, .int x4, v5] [.int s0, .ref s1] σ Q = Ex X d mX7_mend 135 [.ref x0, .int x1, .int x2, .int x3, .int x4, v5] [.int x4, .int s0, .ref s1] σ Q) ∧
  (∀ (X : tX) (d : Nat) (x0 : Nat) (x1 : Int32) (x2 : Int32) (x3 : Int32) (x4 : Int32) (v5 : Value) (s0 : Int32) (s1 : Int32) (s2 : Nat) (T : tT) (I : tI) (J : tJ) (R : tR) (Q : tQ), Ex X d mX7_mend 135 [.ref x0, .int x1, .int x2, .int x3, .int x4, v5] [.int s0, .int s1, .ref s2] (T, I, J, R) Q = (rIn T s2 0 s1 ∧ Ex X d mX7_mend 136 [.ref x0, .int x1, .int x2, .int x3, .int x4, v5] [] (T, va_up I s2 (va_up (I s2) s1.toNatClampNeg s0), J, R) Q)) ∧
  (∀ (X : tX) (d : Nat) (x0 : Nat) (x1 : Int32) (x2 : Int32) (x3 : Int32) (x4 : Int32) (v5 : Value) (σ : rS) (Q : tQ), Ex X d mX7_mend 136 [.ref x0, .int x1, .int x2, .int x3, .int x4, v5] [] σ Q = Ex X d mX7_mend 137 [.ref x0, .int x1, .int x2, .int x3, .int x4, v5] [.ref x0] σ Q) ∧
  (∀ (X : tX) (d : Nat) (x0 : Nat) (x1 : Int32) (x2 : Int32) (x3 : Int32) (x4 : Int32) (v5 : Value) (s0 : Nat) (T : tT) (I : tI) (J : tJ) (R : tR) (Q : tQ), Ex X d mX7_mend 137 [.ref x0, .int x1, .int x2, .int x3, .int x4, v5] [.ref s0] (T, I, J, R) Q = (T[s0]? = some (3, 7) ∧ Ex X d mX7_mend 140 [.ref x0, .int x1, .int x2, .int x3, .int x4, v5] [va_rf (R s0 29)] (T, I, J, R) Q)) ∧
  (∀ (X : tX) (d : Nat) (x0 : Nat) (x1 : Int32) (x2 : Int32) (x3 : Int32) (x4 : Int32) (v5 : Value) (s0 : Nat) (σ : rS) (Q : tQ), Ex X d mX7_mend 140 [.ref x0, .int x1, .int x2, .int x3, .int x4, v5] [.ref s0] σ Q = Ex X d mX7_mend 141 [.ref x0, .int x1, .int x2, .int x3, .int x4, v5] [.int 4, .ref s0] σ Q) ∧
  (∀ (X : tX) (d : Nat) (x0 : Nat) (x1 : Int32) (x2 : Int32) (x3 : Int32) (x4 : Int32) (v5 : Value) (s0 : Int32) (s1 : Nat) (σ : rS) (Q : tQ), Ex X d mX7_mend 141 [.ref x0, .int x1, .int x2, .int x3, .int x4, v5] [.int s0, .ref s1] σ Q = Ex X d mX7_mend 142 [.ref x0, .int x1, .int x2, .int x3, .int x4, v5] [.ref x0, .int s0, .ref s1] σ Q) ∧
  (∀ (X : tX) (d : Nat) (x0 : Nat) (x1 : Int32) (x2 : Int32) (x3 : Int32) (x4 : Int32) (v5 : Value) (s0 : Nat) (s1 : Int32) (s2 : Nat) (T : tT) (I : tI) (J : tJ) (R : tR) (Q : tQ), Ex X d mX7_mend 142 [.ref x0, .int x1, .int x2, .int x3, .int x4, v5] [.ref s0, .int s1, .ref s2] (T, I, J, R) Q = (T[s0]? = some (3, 7) ∧ Ex X d mX7_mend 145 [.ref x0, .int x1, .int x2, .int x3, .int x4, v5] [.int (I s0 28), .int s1, .ref s2] (T, I, J, R) Q)) ∧
  (∀ (X : tX) (d : Nat) (x0 : Nat) (x1 : Int32) (x2 : Int32) (x3 : Int32) (x4 : Int32) (v5 : Value) (s0 : Int32) (s1 : Int32) (s2 : Nat) (σ : rS) (Q : tQ), Ex X d mX7_mend 145 [.ref x0, .int x1, .int x2, .int x3, .int x4, v5] [.int s0, .int s1, .ref s2] σ Q = Ex X d mX7_mend 146 [.ref x0, .int x1, .int x2, .int x3, .int x4, v5] [.int (s1 * s0), .ref s2] σ Q) ∧
  (∀ (X : tX) (d : Nat) (x0 : Nat) (x1 : Int32) (x2 : Int32) (x3 : Int32) (x4 : Int32) (v5 : Value) (s0 : Int32) (s1 : Nat) (σ : rS) (Q : tQ), Ex X d mX7_mend 146 [.ref x0, .int x1, .int x2, .int x3, .int x4, v5] [.int s0, .ref s1] σ Q = Ex X d mX7_mend 147 [.ref x0, .int x1, .int x2, .int x3, .int x4, v5] [.int 3, .int s0, .ref s1] σ Q) ∧
  (∀ (X : tX) (d : Nat) (x0 : Nat) (x1 : Int32) (x2 : Int32) (x3 : Int32) (x4 : Int32) (v5 : Value) (s0 : Int32) (s1 : Int32) (s2 : Nat) (σ : rS) (Q : tQ), Ex X d mX7_mend 147 [.ref x0, .int x1, .int x2, .int x3, .int x4, v5] [.int s0, .int s1, .ref s2] σ Q = Ex X d mX7_mend 148 [.ref x0, .int x1, .int x2, .int x3, .int x4, v5] [.int (s1 + s0), .ref s2] σ Q) ∧
  (∀ (X : tX) (d : Nat) (x0 : Nat) (x1 : Int32) (x2 : Int32) (x3 : Int32) (x4 : Int32) (v5 : Value) (s0 : Int32) (s1 : Nat) (σ : rS) (Q : tQ), Ex X d mX7_mend 148 [.ref x0, .int x1, .int x2, .int x3, .int x4, v5] [.int s0, .ref s1] σ Q = Ex X d mX7_mend 149 [.ref x0, .int x1, .int x2, .int x3, .int x4, v5] [.int x3, .int s0, .ref s1] σ Q) ∧
  (∀ (X : tX) (d : Nat) (x0 : Nat) (x1 : Int32) (x2 : Int32) (x3 : Int32) (x4 : Int32) (v5 : Value) (s0 : Int32) (s1 : Int32) (s2 : Nat) (T : tT) (I : tI) (J : tJ) (R : tR) (Q : tQ), Ex X d mX7_mend 149 [.ref x0, .int x1, .int x2, .int x3, .int x4, v5] [.int s0, .int s1, .ref s2] (T, I, J, R) Q = (rIn T s2 0 s1 ∧ Ex X d mX7_mend 150 [.ref x0, .int x1, .int x2, .int x3, .int x4, v5] [] (T, va_up I s2 (va_up (I s2) s1.toNatClampNeg s0), J, R) Q)) ∧
  (∀ (X : tX) (d : Nat) (x0 : Nat) (x1 : Int32) (x2 : Int32) (x3 : Int32) (x4 : Int32) (v5 : Value) (σ : rS) (Q : tQ), Ex X d mX7_mend 150 [.ref x0, .int x1, .int x2, .int x3, .int x4, v5] [] σ Q = Ex X d mX7_mend 151 [.ref x0, .int x1, .int x2, .int x3, .int x4, v5] [.ref x0] σ Q) ∧
  (∀ (X : tX) (d : Nat) (x0 : Nat) (x1 : Int32) (x2 : Int32) (x3 : Int32) (x4 : Int32) (v5 : Value) (s0 : Nat) (σ : rS) (Q : tQ), Ex X d mX7_mend 151 [.ref x0, .int x1, .int x2, .int x3, .int x4, v5] [.ref s0] σ Q = Ex X d mX7_mend 152 [.ref x0, .int x1, .int x2, .int x3, .int x4, v5] [.ref s0, .ref s0] σ Q) ∧
  (∀ (X : tX) (d : Nat) (x0 : Nat) (x1 : Int32) (x2 : Int32) (x3 : Int32) (x4 : Int32) (v5 : Value) (s0 : Nat) (s1 : Nat) (T : tT) (I : tI) (J : tJ) (R : tR) (Q : tQ), Ex X d mX7_mend 152 [.ref x0, .int x1, .int x2, .int x3, .int x4, v5] [.ref s0, .ref s1] (T, I, J, R) Q = (T[s0]? = some (3, 7) ∧ Ex X d mX7_mend 155 [.ref x0, .int x1, .int x2, .int x3, .int x4, v5] [.int (I s0 28), .ref s1] (T, I, J, R) Q)) ∧
  (∀ (X : tX) (d : Nat) (x0 : Nat) (x1 : Int32) (x2 : Int32) (x3 : Int32) (x4 : Int32) (v5 : Value) (s0 : Int32) (s1 : Nat) (σ : rS) (Q : tQ), Ex X d mX7_mend 155 [.ref x0, .int x1, .int x2, .int x3, .int x4, v5] [.int s0, .ref s1] σ Q = Ex X d mX7_mend 156 [.ref x0, .int x1, .int x2, .int x3, .int x4, v5] [.int 1, .int s0, .ref s1] σ Q) ∧
  (∀ (X : tX) (d : Nat) (x0 : Nat) (x1 : Int32) (x2 : Int32) (x3 : Int32) (x4 : Int32) (v5 : Value) (s0 : Int32) (s1 : Int32) (s2 : Nat) (σ : rS) (Q : tQ), Ex X d mX7_mend 156 [.ref x0, .int x1, .int x2, .int x3, .int x4, v5] [.int s0, .int s1, .ref s2] σ Q = Ex X d mX7_mend 157 [.ref x0, .int x1, .int x2, .int x3, .int x4, v5] [.int (s1 + s0), .ref s2] σ Q) ∧
  (∀ (X : tX) (d : Nat) (x0 : Nat) (x1 : Int32) (x2 : Int32) (x3 : Int32) (x4 : Int32) (v5 : Value) (s0 : Int32) (s1 : Nat) (T : tT) (I : tI) (J : tJ) (R : tR) (Q : tQ), Ex X d mX7_mend 157 [.ref x0, .int x1, .int x2, .int x3, .int x4, v5] [.int s0, .ref s1] (T, I, J, R) Q = (T[s1]? = some (3, 7) ∧ Ex X d mX7_mend 160 [.ref x0, .int x1, .int x2, .int x3, .int x4, v5] [] (T, va_up I s1 (va_up (I s1) 28 s0), J, R) Q)) ∧
  (∀ (X : tX) (d : Nat) (x0 : Nat) (x1 : Int32) (x2 : Int32) (x3 : Int32) (x4 : Int32) (v5 : Value) (σ : rS) (Q : tQ), Ex X d mX7_mend 160 [.ref x0, .int x1, .int x2, .int x3, .int x4, v5] [] σ Q = Ex X d mX7_mend 161 [.ref x0, .int x1, .int x2, .int x3, .int x4, v5] [.ref x0] σ Q) ∧
  (∀ (X : tX) (d : Nat) (x0 : Nat) (x1 : Int32) (x2 : Int32) (x3 : Int32) (x4 : Int32) (v5 : Value) (s0 : Nat) (σ : rS) (Q : tQ), Ex X d mX7_mend 161 [.ref x0, .int x1, .int x2, .int x3, .int x4, v5] [.ref s0] σ Q = Ex X d mX7_mend 162 [.ref x0, .int x1, .int x2, .int x3, .int x4, v5] [.ref x0, .ref s0] σ Q) ∧
  (∀ (X : tX) (d : Nat) (x0 : Nat) (x1 : Int32) (x2 : Int32) (x3 : Int32) (x4 : Int32) (v5 : Value) (s0 : Nat) (s1 : Nat) (T : tT) (I : tI) (J : tJ) (R : tR) (Q : tQ), Ex X d mX7_mend 162 [.ref x0, .int x1, .int x2, .int x3, .int x4, v5] [.ref s0, .ref s1] (T, I, J, R) Q = (T[s0]? = some (3, 7) ∧ Ex X d mX7_mend 165 [.ref x0, .int x1, .int x2, .int x3, .int x4, v5] [.int (I s0 28), .ref s1] (T, I, J, R) Q)) ∧
  (∀ (X : tX) (d : Nat) (x0 : Nat) (x1 : Int32) (x2 : Int32) (x3 : Int32) (x4 : Int32) (v5 : Value) (s0 : Int32) (s1 : Nat) (T : tT) (I : tI) (J : tJ) (R : tR) (Q : tQ), Ex X d mX7_mend 165 [.ref x0, .int x1, .int x2, .int x3, .int x4, v5] [.int s0, .ref s1] (T, I, J, R) Q = (T[s1]? = some (3, 7) ∧ Ex X d mX7_mend 168 [.ref x0, .int x1, .int x2, .int x3, .int x4, v5] [] (T, va_up I s1 (va_up (I s1) 27 s0), J, R) Q)) ∧
  (∀ (X : tX) (d : Nat) (x0 : Nat) (x1 : Int32) (x2 : Int32) (x3 : Int32) (x4 : Int32) (v5 : Value) (σ : rS) (Q : tQ), Ex X d mX7_mend 168 [.ref x0, .int x1, .int x2, .int x3, .int x4, v5] [] σ Q = Ex X d mX7_mend 170 [.ref x0, .int x1, .int x2, .int x3, .int x4, v5] [.int x4] σ Q) ∧
  (∀ (X : tX) (d : Nat) (x0 : Nat) (x1 : Int32) (x2 : Int32) (x3 : Int32) (x4 : Int32) (v5 : Value) (s0 : Int32) (σ : rS) (Q : tQ), Ex X d mX7_mend 170 [.ref x0, .int x1, .int x2, .int x3, .int x4, v5] [.int s0] σ Q = Q (some (.int s0)) σ) := ⟨fun X d x0 x1 x2 x3 x4 v5 σ Q => ex_P (i := .aload_n 0) (len := 1) (by decide +kernel) rfl,
  fun X d x0 x1 x2 x3 x4 v5 s0 T I J R Q => q_getR (k := 63) (by decide +kernel) rfl rfl,
  fun X d x0 x1 x2 x3 x4 v5 s0 σ Q => ex_P (i := .iconst 4) (len := 1) (by decide +kernel) rfl,
  fun X d x0 x1 x2 x3 x4 v5 s0 s1 σ Q => ex_P (i := .aload_n 0) (len := 1) (by decide +kernel) rfl,
  fun X d x0 x1 x2 x3 x4 v5 s0 s1 s2 T I J R Q => q_getI (k := 136) (by decide +kernel) rfl rfl (by decide),
  fun X d x0 x1 x2 x3 x4 v5 s0 s1 s2 σ Q => ex_P (i := .imul) (len := 1) (by decide +kernel) rfl,
  fun X d x0 x1 x2 x3 x4 v5 s0 s1 σ Q => ex_P (i := .iload_n 1) (len := 1) (by decide +kernel) rfl,
  fun X d x0 x1 x2 x3 x4 v5 s0 s1 s2 T I J R Q => q_iast (by decide +kernel),
  fun X d x0 x1 x2 x3 x4 v5 σ Q => ex_P (i := .aload_n 0) (len := 1) (by decide +kernel) rfl,
  fun X d x0 x1 x2 x3 x4 v5 s0 T I J R Q => q_getR (k := 63) (by decide +kernel) rfl rfl,
  fun X d x0 x1 x2 x3 x4 v5 s0 σ Q => ex_P (i := .iconst 4) (len := 1) (by decide +kernel) rfl,
  fun X d x0 x1 x2 x3 x4 v5 s0 s1 σ Q => ex_P (i := .aload_n 0) (len := 1) (by decide +kernel) rfl,
  fun X d x0 x1 x2 x3 x4 v5 s0 s1 s2 T I J R Q => q_getI (k := 136) (by decide +kernel) rfl rfl (by decide),
  fun X d x0 x1 x2 x3 x4 v5 s0 s1 s2 σ Q => ex_P (i := .imul) (len := 1) (by decide +kernel) rfl,
  fun X d x0 x1 x2 x3 x4 v5 s0 s1 σ Q => ex_P (i := .iconst 1) (len := 1) (by decide +kernel) rfl,
  fun X d x0 x1 x2 x3 x4 v5 s0 s1 s2 σ Q => ex_P (i := .iadd) (len := 1) (by decide +kernel) rfl,
  fun X d x0 x1 x2 x3 x4 v5 s0 s1 σ Q => ex_P (i := .iload_n 2) (len := 1) (by decide +kernel) rfl,
  fun X d x0 x1 x2 x3 x4 v5 s0 s1 s2 T I J R Q => q_iast (by decide +kernel),
  fun X d x0 x1 x2 x3 x4 v5 σ Q => ex_P (i := .aload_n 0) (len := 1) (by decide +kernel) rfl,
  fun X d x0 x1 x2 x3 x4 v5 s0 T I J R Q => q_getR (k := 63) (by decide +kernel) rfl rfl,
  fun X d x0 x1 x2 x3 x4 v5 s0 σ Q => ex_P (i := .iconst 4) (len := 1) (by decide +kernel) rfl,
  fun X d x0 x1 x2 x3 x4 v5 s0 s1 σ Q => ex_P (i := .aload_n 0) (len := 1) (by decide +kernel) rfl,
  fun X d x0 x1 x2 x3 x4 v5 s0 s1 s2 T I J R Q => q_getI (k := 136) (by decide +kernel) rfl rfl (by decide),
  fun X d x0 x1 x2 x3 x4 v5 s0 s1 s2 σ Q => ex_P (i := .imul) (len := 1) (by decide +kernel) rfl,
  fun X d x0 x1 x2 x3 x4 v5 s0 s1 σ Q => ex_P (i := .iconst 2) (len := 1) (by decide +kernel) rfl,
  fun X d x0 x1 x2 x3 x4 v5 s0 s1 s2 σ Q => ex_P (i := .iadd) (len := 1) (by decide +kernel) rfl,
  fun X d x0 x1 x2 x3 x4 v5 s0 s1 σ Q => ex_P (i := .iload 4) (len := 2) (by decide +kernel) rfl,
  fun X d x0 x1 x2 x3 x4 v5 s0 s1 s2 T I J R Q => q_iast (by decide +kernel),
  fun X d x0 x1 x2 x3 x4 v5 σ Q => ex_P (i := .aload_n 0) (len := 1) (by decide +kernel) rfl,
  fun X d x0 x1 x2 x3 x4 v5 s0 T I J R Q => q_getR (k := 63) (by decide +kernel) rfl rfl,
  fun X d x0 x1 x2 x3 x4 v5 s0 σ Q => ex_P (i := .iconst 4) (len := 1) (by decide +kernel) rfl,
  fun X d x0 x1 x2 x3 x4 v5 s0 s1 σ Q => ex_P (i := .aload_n 0) (len := 1) (by decide +kernel) rfl,
  fun X d x0 x1 x2 x3 x4 v5 s0 s1 s2 T I J R Q => q_getI (k := 136) (by decide +kernel) rfl rfl (by decide),
  fun X d x0 x1 x2 x3 x4 v5 s0 s1 s2 σ Q => ex_P (i := .imul) (len := 1) (by decide +kernel) rfl,
  fun X d x0 x1 x2 x3 x4 v5 s0 s1 σ Q => ex_P (i := .iconst 3) (len := 1) (by decide +kernel) rfl,
  fun X d x0 x1 x2 x3 x4 v5 s0 s1 s2 σ Q => ex_P (i := .iadd) (len := 1) (by decide +kernel) rfl,
  fun X d x0 x1 x2 x3 x4 v5 s0 s1 σ Q => ex_P (i := .iload_n 3) (len := 1) (by decide +kernel) rfl,
  fun X d x0 x1 x2 x3 x4 v5 s0 s1 s2 T I J R Q => q_iast (by decide +kernel),
  fun X d x0 x1 x2 x3 x4 v5 σ Q => ex_P (i := .aload_n 0) (len := 1) (by decide +kernel) rfl,
  fun X d x0 x1 x2 x3 x4 v5 s0 σ Q => ex_P (i := .dup) (len := 1) (by decide +kernel) rfl,
  fun X d x0 x1 x2 x3 x4 v5 s0 s1 T I J R Q => q_getI (k := 136) (by decide +kernel) rfl rfl (by decide),
  fun X d x0 x1 x2 x3 x4 v5 s0 s1 σ Q => ex_P (i := .iconst 1) (len := 1) (by decide +kernel) rfl,
  fun X d x0 x1 x2 x3 x4 v5 s0 s1 s2 σ Q => ex_P (i := .iadd) (len := 1) (by decide +kernel) rfl,
  fun X d x0 x1 x2 x3 x4 v5 s0 s1 T I J R Q => q_putI (k := 136) (by decide +kernel) rfl rfl (by decide +kernel),
  fun X d x0 x1 x2 x3 x4 v5 σ Q => ex_P (i := .aload_n 0) (len := 1) (by decide +kernel) rfl,
  fun X d x0 x1 x2 x3 x4 v5 s0 σ Q => ex_P (i := .aload_n 0) (len := 1) (by decide +kernel) rfl,
  fun X d x0 x1 x2 x3 x4 v5 s0 s1 T I J R Q => q_getI (k := 136) (by decide +kernel) rfl rfl (by decide),
  fun X d x0 x1 x2 x3 x4 v5 s0 s1 T I J R Q => q_putI (k := 139) (by decide +kernel) rfl rfl (by decide +kernel),
  fun X d x0 x1 x2 x3 x4 v5 σ Q => ex_P (i := .iload 4) (len := 2) (by decide +kernel) rfl,
  fun X d x0 x1 x2 x3 x4 v5 s0 σ Q => q_retI (by decide +kernel) rfl⟩
set_option maxRecDepth 50000 in
theorem gX7_of_0 : (∀ (X : tX) (d : Nat) (x0 : Nat) (x1 : Int32) (x2 : Int32) (σ : rS) (Q : tQ), Ex X d mX7_of 0 [.ref x0, .int x1, .int x2] [] σ Q = Ex X d mX7_of 1 [.ref x0, .int x1, .int x2] [.ref x0] σ Q) ∧
  (∀ (X : tX) (d : Nat) (x0 : Nat) (x1 : Int32) (x2 : Int32) (s0 : Nat) (σ : rS) (Q : tQ), Ex X d mX7_of 1 [.ref x0, .int x1, .int x2] [.ref s0] σ Q = Ex X d mX7_of 2 [.ref x0, .int x1, .int x2] [.int x1, .ref s0] σ Q) ∧
  (∀ (X : tX) (d : Nat) (x0 : Nat) (x1 : Int32) (x2 : Int32) (s0 : Int32) (s1 : Nat) (σ : rS) (Q : tQ), Ex X d mX7_of 2 [.ref x0, .int x1, .int x2] [.int s0, .ref s1] σ Q = Ex X d mX7_of 3 [.ref x0, .int x1, .int x2] [.int x2, .int s0, .ref s1] σ Q) ∧
  (∀ (X : tX) (d : Nat) (x0 : Nat) (x1 : Int32) (x2 : Int32) (s0 : Int32) (s1 : Int32) (s2 : Nat) (T : tT) (I : tI) (J : tJ) (R : tR) (Q : tQ), Ex X (d + 1) mX7_of 3 [.ref x0, .int x1, .int x2] [.int s0, .int s1, .ref s2] (T, I, J, R) Q = (T[s2]? = some (3, 7) ∧ Ex X d mX7_isOf 0 [.ref s2, .int s1, .int s0] [] (T, I, J, R) (fun v σ1 => Ex X (d + 1) mX7_of 6 [.ref x0, .int x1, .int x2] (v.toList ++ []) σ1 Q))) := ⟨fun X d x0 x1 x2 σ Q => ex_P (i := .aload_n 0) (len := 1) (by decide +kernel) rfl,
  fun X d x0 x1 x2 s0 σ Q => ex_P (i := .iload_n 1) (len := 1) (by decide +kernel) rfl,
  fun X d x0 x1 x2 s0 s1 σ Q => ex_P (i := .iload_n 2) (len := 1) (by decide +kernel) rfl,
  fun X d x0 x1 x2 s0 s1 s2 T I J R Q => q_callV (k := 122) (as := [.int s1, .int s0]) (st := []) (show rlk mX7_of.2.2.2.2.2.2 3 = some (.invokevirtual 122, 3) from by decide +kernel) rfl rfl rfl (Nat.le_of_ble_eq_true rfl) (Nat.le_of_ble_eq_true rfl) rfl⟩
set_option maxRecDepth 50000 in
theorem gX7_of_6 : (∀ (X : tX) (d : Nat) (x0 : Nat) (x1 : Int32) (x2 : Int32) (s0 : Int32) (σ : rS) (Q : tQ), Ex X d mX7_of 6 [.ref x0, .int x1, .int x2] [.int s0] σ Q = (if s0 = 0 then Ex X d mX7_of 18 [.ref x0, .int x1, .int x2] [] σ Q else Ex X d mX7_of 9 [.ref x0, .int x1, .int x2] [] σ Q)) := fun X d x0 x1 x2 s0 σ Q => q_if_eq (o := 12) (by decide +kernel) rfl
set_option maxRecDepth 50000 in
theorem gX7_of_9 : (∀ (X : tX) (d : Nat) (x0 : Nat) (x1 : Int32) (x2 : Int32) (σ : rS) (Q : tQ), Ex X d mX7_of 9 [.ref x0, .int x1, .int x2] [] σ Q = Ex X d mX7_of 10 [.ref x0, .int x1, .int x2] [.ref x0] σ Q) ∧
  (∀ (X : tX) (d : Nat) (x0 : Nat) (x1 : Int32) (x2 : Int32) (s0 : Nat) (σ : rS) (Q : tQ), Ex X d mX7_of 10 [.ref x0, .int x1, .int x2] [.ref s0] σ Q = Ex X d mX7_of 11 [.ref x0, .int x1, .int x2] [.int x1, .ref s0] σ Q) ∧
  (∀ (X : tX) (d : Nat) (x0 : Nat) (x1 : Int32) (x2 : Int32) (s0 : Int32) (s1 : Nat) (σ : rS) (Q : tQ), Ex X d mX7_of 11 [.ref x0, .int x1, .int x2] [.int s0, .ref s1] σ Q = Ex X d mX7_of 12 [.ref x0, .int x1, .int x2] [.int x2, .int s0, .ref s1] σ Q) ∧
  (∀ (X : tX) (d : Nat) (x0 : Nat) (x1 : Int32) (x2 : Int32) (s0 : Int32) (s1 : Int32) (s2 : Nat) (T : tT) (I : tI) (J : tJ) (R : tR) (Q : tQ), Ex X (d + 1) mX7_of 12 [.ref x0, .int x1, .int x2] [.int s0, .int s1, .ref s2] (T, I, J, R) Q = (T[s2]? = some (3, 7) ∧ Ex X d mX7_get 0 [.ref s2, .int s1, .int s0] [] (T, I, J, R) (fun v σ1 => Ex X (d + 1) mX7_of 15 [.ref x0, .int x1, .int x2] (v.toList ++ []) σ1 Q))) := ⟨fun X d x0 x1 x2 σ Q => ex_P (i := .aload_n 0) (len := 1) (by decide +kernel) rfl,
  fun X d x0 x1 x2 s0 σ Q => ex_P (i := .iload_n 1) (len := 1) (by decide +kernel) rfl,
  fun X d x0 x1 x2 s0 s1 σ Q => ex_P (i := .iload_n 2) (len := 1) (by decide +kernel) rfl,
  fun X d x0 x1 x2 s0 s1 s2 T I J R Q => q_callV (k := 129) (as := [.int s1, .int s0]) (st := []) (show rlk mX7_of.2.2.2.2.2.2 12 = some (.invokevirtual 129, 3) from by decide +kernel) rfl rfl rfl (Nat.le_of_ble_eq_true rfl) (Nat.le_of_ble_eq_true rfl) rfl⟩
set_option maxRecDepth 50000 in
theorem gX7_of_15 : (∀ (X : tX) (d : Nat) (x0 : Nat) (x1 : Int32) (x2 : Int32) (s0 : Int32) (σ : rS) (Q : tQ), Ex X d mX7_of 15 [.ref x0, .int x1, .int x2] [.int s0] σ Q = Ex X d mX7_of 19 [.ref x0, .int x1, .int x2] [.int s0] σ Q) := fun X d x0 x1 x2 s0 σ Q => q_goto (o := 4) (by decide +kernel) rfl
set_option maxRecDepth 50000 in
theorem gX7_of_18 : (∀ (X : tX) (d : Nat) (x0 : Nat) (x1 : Int32) (x2 : Int32) (σ : rS) (Q : tQ), Ex X d mX7_of 18 [.ref x0, .int x1, .int x2] [] σ Q = Ex X d mX7_of 19 [.ref x0, .int x1, .int x2] [.int (-1)] σ Q) := fun X d x0 x1 x2 σ Q => ex_P (i := .iconst (-1)) (len := 1) (by decide +kernel) rfl
set_option maxRecDepth 50000 in
theorem gX7_of_19 : (∀ (X : tX) (d : Nat) (x0 : Nat) (x1 : Int32) (x2 : Int32) (s0 : Int32) (σ : rS) (Q : tQ), Ex X d mX7_of 19 [.ref x0, .int x1, .int x2] [.int s0] σ Q = Q (some (.int s0)) σ) := fun X d x0 x1 x2 s0 σ Q => q_retI (by decide +kernel) rfl
set_option maxRecDepth 50000 in
theorem gX7_undo_0 : (∀ (X : tX) (d : Nat) (x0 : Nat) (σ : rS) (Q : tQ), Ex X d mX7_undo 0 [.ref x0] [] σ Q = Ex X d mX7_undo 1 [.ref x0] [.ref x0] σ Q) ∧
  (∀ (X : tX) (d : Nat) (x0 : Nat) (s0 : Nat) (T : tT) (I : tI) (J : tJ) (R : tR) (Q : tQ), Ex X d mX7_undo 1 [.ref x0] [.ref s0] (T, I, J, R) Q = (T[s0]? = some (3, 7) ∧ Ex X d mX7_undo 4 [.ref x0] [.int (I s0 28)] (T, I, J, R) Q)) ∧
  (∀ (X : tX) (d : Nat) (x0 : Nat) (s0 : Int32) (σ : rS) (Q : tQ), Ex X d mX7_undo 4 [.ref x0] [.int s0] σ Q = (if s0 = 0 then Ex X d mX7_undo 7 [.ref x0] [] σ Q else Ex X d mX7_undo 10 [.ref x0] [] σ Q)) := ⟨fun X d x0 σ Q => ex_P (i := .aload_n 0) (len := 1) (by decide +kernel) rfl,
  fun X d x0 s0 T I J R Q => q_getI (k := 136) (by decide +kernel) rfl rfl (by decide),
  fun X d x0 s0 σ Q => q_if_ne (o := 6) (by decide +kernel) rfl⟩
set_option maxRecDepth 50000 in
theorem gX7_undo_7 : (∀ (X : tX) (d : Nat) (x0 : Nat) (σ : rS) (Q : tQ), Ex X d mX7_undo 7 [.ref x0] [] σ Q = Ex X d mX7_undo 9 [.ref x0] [.int (-5)] σ Q) ∧
  (∀ (X : tX) (d : Nat) (x0 : Nat) (s0 : Int32) (σ : rS) (Q : tQ), Ex X d mX7_undo 9 [.ref x0] [.int s0] σ Q = Q (some (.int s0)) σ) := ⟨fun X d x0 σ Q => ex_P (i := .bipush (-5)) (len := 2) (by decide +kernel) rfl,
  fun X d x0 s0 σ Q => q_retI (by decide +kernel) rfl⟩
set_option maxRecDepth 50000 in
theorem gX7_undo_10 : (∀ (X : tX) (d : Nat) (x0 : Nat) (σ : rS) (Q : tQ), Ex X d mX7_undo 10 [.ref x0] [] σ Q = Ex X d mX7_undo 11 [.ref x0] [.ref x0] σ Q) ∧
  (∀ (X : tX) (d : Nat) (x0 : Nat) (s0 : Nat) (σ : rS) (Q : tQ), Ex X d mX7_undo 11 [.ref x0] [.ref s0] σ Q = Ex X d mX7_undo 12 [.ref x0] [.ref s0, .ref s0] σ Q) ∧
  (∀ (X : tX) (d : Nat) (x0 : Nat) (s0 : Nat) (s1 : Nat) (T : tT) (I : tI) (J : tJ) (R : tR) (Q : tQ), Ex X d mX7_undo 12 [.ref x0] [.ref s0, .ref s1] (T, I, J, R) Q = (T[s0]? = some (3, 7) ∧ Ex X d mX7_undo 15 [.ref x0] [.int (I s0 28), .ref s1] (T, I, J, R) Q)) ∧
  (∀ (X : tX) (d : Nat) (x0 : Nat) (s0 : Int32) (s1 : Nat) (σ : rS) (Q : tQ), Ex X d mX7_undo 15 [.ref x0] [.int s0, .ref s1] σ Q = Ex X d mX7_undo 16 [.ref x0] [.int 1, .int s0, .ref s1] σ Q) ∧
  (∀ (X : tX) (d : Nat) (x0 : Nat) (s0 : Int32) (s1 : Int32) (s2 : Nat) (σ : rS) (Q : tQ), Ex X d mX7_undo 16 [.ref x0] [.int s0, .int s1, .ref s2] σ Q = Ex X d mX7_undo 17 [.ref x0] [.int (s1 - s0), .ref s2] σ Q) ∧
  (∀ (X : tX) (d : Nat) (x0 : Nat) (s0 : Int32) (s1 : Nat) (T : tT) (I : tI) (J : tJ) (R : tR) (Q : tQ), Ex X d mX7_undo 17 [.ref x0] [.int s0, .ref s1] (T, I, J, R) Q = (T[s1]? = some (3, 7) ∧ Ex X d mX7_undo 20 [.ref x0] [] (T, va_up I s1 (va_up (I s1) 28 s0), J, R) Q)) ∧
  (∀ (X : tX) (d : Nat) (x0 : Nat) (σ : rS) (Q : tQ), Ex X d mX7_undo 20 [.ref x0] [] σ Q = Ex X d mX7_undo 21 [.ref x0] [.ref x0] σ Q) ∧
  (∀ (X : tX) (d : Nat) (x0 : Nat) (s0 : Nat) (σ : rS) (Q : tQ), Ex X d mX7_undo 21 [.ref x0] [.ref s0] σ Q = Ex X d mX7_undo 22 [.ref x0] [.ref x0, .ref s0] σ Q) ∧
  (∀ (X : tX) (d : Nat) (x0 : Nat) (s0 : Nat) (s1 : Nat) (T : tT) (I : tI) (J : tJ) (R : tR) (Q : tQ), Ex X d mX7_undo 22 [.ref x0] [.ref s0, .ref s1] (T, I, J, R) Q = (T[s0]? = some (3, 7) ∧ Ex X d mX7_undo 25 [.ref x0] [va_rf (R s0 29), .ref s1] (T, I, J, R) Q)) ∧
  (∀ (X : tX) (d : Nat) (x0 : Nat) (s0 : Nat) (s1 : Nat) (σ : rS) (Q : tQ), Ex X d mX7_undo 25 [.ref x0] [.ref s0, .ref s1] σ Q = Ex X d mX7_undo 26 [.ref x0] [.int 4, .ref s0, .ref s1] σ Q) ∧
  (∀ (X : tX) (d : Nat) (x0 : Nat) (s0 : Int32) (s1 : Nat) (s2 : Nat) (σ : rS) (Q : tQ), Ex X d mX7_undo 26 [.ref x0] [.int s0, .ref s1, .ref s2] σ Q = Ex X d mX7_undo 27 [.ref x0] [.ref x0, .int s0, .ref s1, .ref s2] σ Q) ∧
  (∀ (X : tX) (d : Nat) (x0 : Nat) (s0 : Nat) (s1 : Int32) (s2 : Nat) (s3 : Nat) (T : tT) (I : tI) (J : tJ) (R : tR) (Q : tQ), Ex X d mX7_undo 27 [.ref x0] [.ref s0, .int s1, .ref s2, .ref s3] (T, I, J, R) Q = (T[s0]? = some (3, 7) ∧ Ex X d mX7_undo 30 [.ref x0] [.int (I s0 28), .int s1, .ref s2, .ref s3] (T, I, J, R) Q)) ∧
  (∀ (X : tX) (d : Nat) (x0 : Nat) (s0 : Int32) (s1 : Int32) (s2 : Nat) (s3 : Nat) (σ : rS) (Q : tQ), Ex X d mX7_undo 30 [.ref x0] [.int s0, .int s1, .ref s2, .ref s3] σ Q = Ex X d mX7_undo 31 [.ref x0] [.int (s1 * s0), .ref s2, .ref s3] σ Q) ∧
  (∀ (X : tX) (d : Nat) (x0 : Nat) (s0 : Int32) (s1 : Nat) (s2 : Nat) (T : tT) (I : tI) (J : tJ) (R : tR) (Q : tQ), Ex X d mX7_undo 31 [.ref x0] [.int s0, .ref s1, .ref s2] (T, I, J, R) Q = (rIn T s1 0 s0 ∧ Ex X d mX7_undo 32 [.ref x0] [.int (I s1 s0.toNatClampNeg), .ref s2] (T, I, J, R) Q)) ∧
  (∀ (X : tX) (d : Nat) (x0 : Nat) (s0 : Int32) (s1 : Nat) (σ : rS) (Q : tQ), Ex X d mX7_undo 32 [.ref x0] [.int s0, .ref s1] σ Q = Ex X d mX7_undo 33 [.ref x0] [.ref x0, .int s0, .ref s1] σ Q) ∧
  (∀ (X : tX) (d : Nat) (x0 : Nat) (s0 : Nat) (s1 : Int32) (s2 : Nat) (T : tT) (I : tI) (J : tJ) (R : tR) (Q : tQ), Ex X d mX7_undo 33 [.ref x0] [.ref s0, .int s1, .ref s2] (T, I, J, R) Q = (T[s0]? = some (3, 7) ∧ Ex X d mX7_undo 36 [.ref x0] [va_rf (R s0 29), .int s1, .ref s2] (T, I, J, R) Q)) ∧
  (∀ (X : tX) (d : Nat) (x0 : Nat) (s0 : Nat) (s1 : Int32) (s2 : Nat) (σ : rS) (Q : tQ), Ex X d mX7_undo 36 [.ref x0] [.ref s0, .int s1, .ref s2] σ Q = Ex X d mX7_undo 37 [.ref x0] [.int 4, .ref s0, .int s1, .ref s2] σ Q) ∧
  (∀ (X : tX) (d : Nat) (x0 : Nat) (s0 : Int32) (s1 : Nat) (s2 : Int32) (s3 : Nat) (σ : rS) (Q : tQ), Ex X d mX7_undo 37 [.ref x0] [.int s0, .ref s1, .int s2, .ref s3] σ Q = Ex X d mX7_undo 38 [.ref x0] [.ref x0, .int s0, .ref s1, .int s2, .ref s3] σ Q) ∧
  (∀ (X : tX) (d : Nat) (x0 : Nat) (s0 : Nat) (s1 : Int32) (s2 : Nat) (s3 : Int32) (s4 : Nat) (T : tT) (I : tI) (J : tJ) (R : tR) (Q : tQ), Ex X d mX7_undo 38 [.ref x0] [.ref s0, .int s1, .ref s2, .int s3, .ref s4] (T, I, J, R) Q = (T[s0]? = some (3, 7) ∧ Ex X d mX7_undo 41 [.ref x0] [.int (I s0 28), .int s1, .ref s2, .int s3, .ref s4] (T, I, J, R) Q)) ∧
  (∀ (X : tX) (d : Nat) (x0 : Nat) (s0 : Int32) (s1 : Int32) (s2 : Nat) (s3 : Int32) (s4 : Nat) (σ : rS) (Q : tQ), Ex X d mX7_undo 41 [.ref x0] [.int s0, .int s1, .ref s2, .int s3, .ref s4] σ Q = Ex X d mX7_undo 42 [.ref x0] [.int (s1 * s0), .ref s2, .int s3, .ref s4] σ Q) ∧
  (∀ (X : tX) (d : Nat) (x0 : Nat) (s0 : Int32) (s1 : Nat) (s2 : Int32) (s3 : Nat) (σ : rS) (Q : tQ), Ex X d mX7_undo 42 [.ref x0] [.int s0, .ref s1, .int s2, .ref s3] σ Q = Ex X d mX7_undo 43 [.ref x0] [.int 1, .int s0, .ref s1, .int s2, .ref s3] σ Q) ∧
  (∀ (X : tX) (d : Nat) (x0 : Nat) (s0 : Int32) (s1 : Int32) (s2 : Nat) (s3 : Int32) (s4 : Nat) (σ : rS) (Q : tQ), Ex X d mX7_undo 43 [.ref x0] [.int s0, .int s1, .ref s2, .int s3, .ref s4] σ Q = Ex X d mX7_undo 44 [.ref x0] [.int (s1 + s0), .ref s2, .int s3, .ref s4] σ Q) ∧
  (∀ (X : tX) (d : Nat) (x0 : Nat) (s0 : Int32) (s1 : Nat) (s2 : Int32) (s3 : Nat) (T : tT) (I : tI) (J : tJ) (R : tR) (Q : tQ), Ex X d mX7_undo 44 [.ref x0] [.int s0, .ref s1, .int s2, .ref s3] (T, I, J, R) Q = (rIn T s1 0 s0 ∧ Ex X d mX7_undo 45 [.ref x0] [.int (I s1 s0.toNatClampNeg), .int s2, .ref s3] (T, I, J, R) Q)) ∧
  (∀ (X : tX) (d : Nat) (x0 : Nat) (s0 : Int32) (s1 : Int32) (s2 : Nat) (σ : rS) (Q : tQ), Ex X d mX7_undo 45 [.ref x0] [.int s0, .int s1, .ref s2] σ Q = Ex X d mX7_undo 46 [.ref x0] [.ref x0, .int s0, .int s1, .ref s2] σ Q) ∧
  (∀ (X : tX) (d : Nat) (x0 : Nat) (s0 : Nat) (s1 : Int32) (s2 : Int32) (s3 : Nat) (T : tT) (I : tI) (J : tJ) (R : tR) (Q : tQ), Ex X d mX7_undo 46 [.ref x0] [.ref s0, .int s1, .int s2, .ref s3] (T, I, J, R) Q = (T[s0]? = some (3, 7) ∧ Ex X d mX7_undo 49 [.ref x0] [va_rf (R s0 29), .int s1, .int s2, .ref s3] (T, I, J, R) Q)) ∧
  (∀ (X : tX) (d : Nat) (x0 : Nat) (s0 : Nat) (s1 : Int32) (s2 : Int32) (s3 : Nat) (σ : rS) (Q : tQ), Ex X d mX7_undo 49 [.ref x0] [.ref s0, .int s1, .int s2, .ref s3] σ Q = Ex X d mX7_undo 50 [.ref x0] [.int 4, .ref s0, .int s1, .int s2, .ref s3] σ Q) ∧
  (∀ (X : tX) (d : Nat) (x0 : Nat) (s0 : Int32) (s1 : Nat) (s2 : Int32) (s3 : Int32) (s4 : Nat) (σ : rS) (Q : tQ), Ex X d mX7_undo 50 [.ref x0] [.int s0, .ref s1, .int s2, .int s3, .ref s4] σ Q = Ex X d mX7_undo 51 [.ref x0] [.ref x0, .int s0, .ref s1, .int s2, .int s3, .ref s4] σ Q) ∧
  (∀ (X : tX) (d : Nat) (x0 : Nat) (s0 : Nat) (s1 : Int32) (s2 : Nat) (s3 : Int32) (s4 : Int32) (s5 : Nat) (T : tT) (I : tI) (J : tJ) (R : tR) (Q : tQ), Ex X d mX7_undo 51 [.ref x0] [.ref s0, .int s1, .ref s2, .int s3, .int s4, .ref s5] (T, I, J, R) Q = (T[s0]? = some (3, 7) ∧ Ex X d mX7_undo 54 [.ref x0] [.int (I s0 28), .int s1, .ref s2, .int s3, .int s4, .ref s5] (T, I, J, R) Q)) ∧
  (∀ (X : tX) (d : Nat) (x0 : Nat) (s0 : Int32) (s1 : Int32) (s2 : Nat) (s3 : Int32) (s4 : Int32) (s5 : Nat) (σ : rS) (Q : tQ), Ex X d mX7_undo 54 [.ref x0] [.int s0, .int s1, .ref s2, .int s3, .int s4, .ref s5] σ Q = Ex X d mX7_undo 55 [.ref x0] [.int (s1 * s0), .ref s2, .int s3, .int s4, .ref s5] σ Q) ∧
  (∀ (X : tX) (d : Nat) (x0 : Nat) (s0 : Int32) (s1 : Nat) (s2 : Int32) (s3 : Int32) (s4 : Nat) (σ : rS) (Q : tQ), Ex X d mX7_undo 55 [.ref x0] [.int s0, .ref s1, .int s2, .int s3, .ref s4] σ Q = Ex X d mX7_undo 56 [.ref x0] [.int 2, .int s0, .ref s1, .int s2, .int s3, .ref s4] σ Q) ∧
  (∀ (X : tX) (d : Nat) (x0 : Nat) (s0 : Int32) (s1 : Int32) (s2 : Nat) (s3 : Int32) (s4 : Int32) (s5 : Nat) (σ : rS) (Q : tQ), Ex X d mX7_undo 56 [.ref x0] [.int s0, .int s1, .ref s2, .int s3, .int s4, .ref s5] σ Q = Ex X d mX7_undo 57 [.ref x0] [.int (s1 + s0), .ref s2, .int s3, .int s4, .ref s5] σ Q) ∧
  (∀ (X : tX) (d : Nat) (x0 : Nat) (s0 : Int32) (s1 : Nat) (s2 : Int32) (s3 : Int32) (s4 : Nat) (T : tT) (I : tI) (J : tJ) (R : tR) (Q : tQ), Ex X d mX7_undo 57 [.ref x0] [.int s0, .ref s1, .int s2, .int s3, .ref s4] (T, I, J, R) Q = (rIn T s1 0 s0 ∧ Ex X d mX7_undo 58 [.ref x0] [.int (I s1 s0.toNatClampNeg), .int s2, .int s3, .ref s4] (T, I, J, R) Q)) ∧
  (∀ (X : tX) (d : Nat) (x0 : Nat) (s0 : Int32) (s1 : Int32) (s2 : Int32) (s3 : Nat) (T : tT) (I : tI) (J : tJ) (R : tR) (Q : tQ), Ex X (d + 1) mX7_undo 58 [.ref x0] [.int s0, .int s1, .int s2, .ref s3] (T, I, J, R) Q = (T[s3]? = some (3, 7) ∧ Ex X d mX7_becomes 0 [.ref s3, .int s2, .int s1, .int s0] [] (T, I, J, R) (fun v σ1 => Ex X (d + 1) mX7_undo 61 [.ref x0] (v.toList ++ []) σ1 Q))) := ⟨fun X d x0 σ Q => ex_P (i := .aload_n 0) (len := 1) (by decide +kernel) rfl,
  fun X d x0 s0 σ Q => ex_P (i := .dup) (len := 1) (by decide +kernel) rfl,
  fun X d x0 s0 s1 T I J R Q => q_getI (k := 136) (by decide +kernel) rfl rfl (by decide),
  fun X d x0 s0 s1 σ Q => ex_P (i := .iconst 1) (len := 1) (by decide +kernel) rfl,
  fun X d x0 s0 s1 s2 σ Q => ex_P (i := .isub) (len := 1) (by decide +kernel) rfl,
  fun X d x0 s0 s1 T I J R Q => q_putI (k := 136) (by decide +kernel) rfl rfl (by decide +kernel),
  fun X d x0 σ Q => ex_P (i := .aload_n 0) (len := 1) (by decide +kernel) rfl,
  fun X d x0 s0 σ Q => ex_P (i := .aload_n 0) (len := 1) (by decide +kernel) rfl,
  fun X d x0 s0 s1 T I J R Q => q_getR (k := 63) (by decide +kernel) rfl rfl,
  fun X d x0 s0 s1 σ Q => ex_P (i := .iconst 4) (len := 1) (by decide +kernel) rfl,
  fun X d x0 s0 s1 s2 σ Q => ex_P (i := .aload_n 0) (len := 1) (by decide +kernel) rfl,
  fun X d x0 s0 s1 s2 s3 T I J R Q => q_getI (k := 136) (by decide +kernel) rfl rfl (by decide),
  fun X d x0 s0 s1 s2 s3 σ Q => ex_P (i := .imul) (len := 1) (by decide +kernel) rfl,
  fun X d x0 s0 s1 s2 T I J R Q => q_iald (by decide +kernel),
  fun X d x0 s0 s1 σ Q => ex_P (i := .aload_n 0) (len := 1) (by decide +kernel) rfl,
  fun X d x0 s0 s1 s2 T I J R Q => q_getR (k := 63) (by decide +kernel) rfl rfl,
  fun X d x0 s0 s1 s2 σ Q => ex_P (i := .iconst 4) (len := 1) (by decide +kernel) rfl,
  fun X d x0 s0 s1 s2 s3 σ Q => ex_P (i := .aload_n 0) (len := 1) (by decide +kernel) rfl,
  fun X d x0 s0 s1 s2 s3 s4 T I J R Q => q_getI (k := 136) (by decide +kernel) rfl rfl (by decide),
  fun X d x0 s0 s1 s2 s3 s4 σ Q => ex_P (i := .imul) (len := 1) (by decide +kernel) rfl,
  fun X d x0 s0 s1 s2 s3 σ Q => ex_P (i := .iconst 1) (len := 1) (by decide +kernel) rfl,
  fun X d x0 s0 s1 s2 s3 s4 σ Q => ex_P (i := .iadd) (len := 1) (by decide +kernel) rfl,
  fun X d x0 s0 s1 s2 s3 T I J R Q => q_iald (by decide +kernel),
  fun X d x0 s0 s1 s2 σ Q => ex_P (i := .aload_n 0) (len := 1) (by decide +kernel) rfl,
  fun X d x0 s0 s1 s2 s3 T I J R Q => q_getR (k := 63) (by decide +kernel) rfl rfl,
  fun X d x0 s0 s1 s2 s3 σ Q => ex_P (i := .iconst 4) (len := 1) (by decide +kernel) rfl,
  fun X d x0 s0 s1 s2 s3 s4 σ Q => ex_P (i := .aload_n 0) (len := 1) (by decide +kernel) rfl,
  fun X d x0 s0 s1 s2 s3 s4 s5 T I J R Q => q_getI (k := 136) (by decide +kernel) rfl rfl (by decide),
  fun X d x0 s0 s1 s2 s3 s4 s5 σ Q => ex_P (i := .imul) (len := 1) (by decide +kernel) rfl,
  fun X d x0 s0 s1 s2 s3 s4 σ Q => ex_P (i := .iconst 2) (len := 1) (by decide +kernel) rfl,
  fun X d x0 s0 s1 s2 s3 s4 s5 σ Q => ex_P (i := .iadd) (len := 1) (by decide +kernel) rfl,
  fun X d x0 s0 s1 s2 s3 s4 T I J R Q => q_iald (by decide +kernel),
  fun X d x0 s0 s1 s2 s3 T I J R Q => q_callV (k := 132) (as := [.int s2, .int s1, .int s0]) (st := []) (show rlk mX7_undo.2.2.2.2.2.2 58 = some (.invokevirtual 132, 3) from by decide +kernel) rfl rfl rfl (Nat.le_of_ble_eq_true rfl) (Nat.le_of_ble_eq_true rfl) rfl⟩
set_option maxRecDepth 50000 in
theorem gX7_undo_61 : (∀ (X : tX) (d : Nat) (x0 : Nat) (σ : rS) (Q : tQ), Ex X d mX7_undo 61 [.ref x0] [] σ Q = Ex X d mX7_undo 62 [.ref x0] [.ref x0] σ Q) ∧
  (∀ (X : tX) (d : Nat) (x0 : Nat) (s0 : Nat) (T : tT) (I : tI) (J : tJ) (R : tR) (Q : tQ), Ex X d mX7_undo 62 [.ref x0] [.ref s0] (T, I, J, R) Q = (T[s0]? = some (3, 7) ∧ Ex X d mX7_undo 65 [.ref x0] [.int (I s0 28)] (T, I, J, R) Q)) ∧
  (∀ (X : tX) (d : Nat) (x0 : Nat) (s0 : Int32) (σ : rS) (Q : tQ), Ex X d mX7_undo 65 [.ref x0] [.int s0] σ Q = Q (some (.int s0)) σ) := ⟨fun X d x0 σ Q => ex_P (i := .aload_n 0) (len := 1) (by decide +kernel) rfl,
  fun X d x0 s0 T I J R Q => q_getI (k := 136) (by decide +kernel) rfl rfl (by decide),
  fun X d x0 s0 σ Q => q_retI (by decide +kernel) rfl⟩
set_option maxRecDepth 50000 in
theorem gX7_redo_0 : (∀ (X : tX) (d : Nat) (x0 : Nat) (σ : rS) (Q : tQ), Ex X d mX7_redo 0 [.ref x0] [] σ Q = Ex X d mX7_redo 1 [.ref x0] [.ref x0] σ Q) ∧
  (∀ (X : tX) (d : Nat) (x0 : Nat) (s0 : Nat) (T : tT) (I : tI) (J : tJ) (R : tR) (Q : tQ), Ex X d mX7_redo 1 [.ref x0] [.ref s0] (T, I, J, R) Q = (T[s0]? = some (3, 7) ∧ Ex X d mX7_redo 4 [.ref x0] [.int (I s0 28)] (T, I, J, R) Q)) ∧
  (∀ (X : tX) (d : Nat) (x0 : Nat) (s0 : Int32) (σ : rS) (Q : tQ), Ex X d mX7_redo 4 [.ref x0] [.int s0] σ Q = Ex X d mX7_redo 5 [.ref x0] [.ref x0, .int s0] σ Q) ∧
  (∀ (X : tX) (d : Nat) (x0 : Nat) (s0 : Nat) (s1 : Int32) (T : tT) (I : tI) (J : tJ) (R : tR) (Q : tQ), Ex X d mX7_redo 5 [.ref x0] [.ref s0, .int s1] (T, I, J, R) Q = (T[s0]? = some (3, 7) ∧ Ex X d mX7_redo 8 [.ref x0] [.int (I s0 27), .int s1] (T, I, J, R) Q)) ∧
  (∀ (X : tX) (d : Nat) (x0 : Nat) (s0 : Int32) (s1 : Int32) (σ : rS) (Q : tQ), Ex X d mX7_redo 8 [.ref x0] [.int s0, .int s1] σ Q = (if s1 = s0 then Ex X d mX7_redo 11 [.ref x0] [] σ Q else Ex X d mX7_redo 14 [.ref x0] [] σ Q)) := ⟨fun X d x0 σ Q => ex_P (i := .aload_n 0) (len := 1) (by decide +kernel) rfl,
  fun X d x0 s0 T I J R Q => q_getI (k := 136) (by decide +kernel) rfl rfl (by decide),
  fun X d x0 s0 σ Q => ex_P (i := .aload_n 0) (len := 1) (by decide +kernel) rfl,
  fun X d x0 s0 s1 T I J R Q => q_getI (k := 139) (by decide +kernel) rfl rfl (by decide),
  fun X d x0 s0 s1 σ Q => q_icmp_ne (o := 6) (by decide +kernel) rfl⟩
set_option maxRecDepth 50000 in
theorem gX7_redo_11 : (∀ (X : tX) (d : Nat) (x0 : Nat) (σ : rS) (Q : tQ), Ex X d mX7_redo 11 [.ref x0] [] σ Q = Ex X d mX7_redo 13 [.ref x0] [.int (-5)] σ Q) ∧
  (∀ (X : tX) (d : Nat) (x0 : Nat) (s0 : Int32) (σ : rS) (Q : tQ), Ex X d mX7_redo 13 [.ref x0] [.int s0] σ Q = Q (some (.int s0)) σ) := ⟨fun X d x0 σ Q => ex_P (i := .bipush (-5)) (len := 2) (by decide +kernel) rfl,
  fun X d x0 s0 σ Q => q_retI (by decide +kernel) rfl⟩
set_option maxRecDepth 50000 in
theorem gX7_redo_14 : (∀ (X : tX) (d : Nat) (x0 : Nat) (σ : rS) (Q : tQ), Ex X d mX7_redo 14 [.ref x0] [] σ Q = Ex X d mX7_redo 15 [.ref x0] [.ref x0] σ Q) ∧
  (∀ (X : tX) (d : Nat) (x0 : Nat) (s0 : Nat) (σ : rS) (Q : tQ), Ex X d mX7_redo 15 [.ref x0] [.ref s0] σ Q = Ex X d mX7_redo 16 [.ref x0] [.ref x0, .ref s0] σ Q) ∧
  (∀ (X : tX) (d : Nat) (x0 : Nat) (s0 : Nat) (s1 : Nat) (T : tT) (I : tI) (J : tJ) (R : tR) (Q : tQ), Ex X d mX7_redo 16 [.ref x0] [.ref s0, .ref s1] (T, I, J, R) Q = (T[s0]? = some (3, 7) ∧ Ex X d mX7_redo 19 [.ref x0] [va_rf (R s0 29), .ref s1] (T, I, J, R) Q)) ∧
  (∀ (X : tX) (d : Nat) (x0 : Nat) (s0 : Nat) (s1 : Nat) (σ : rS) (Q : tQ), Ex X d mX7_redo 19 [.ref x0] [.ref s0, .ref s1] σ Q = Ex X d mX7_redo 20 [.ref x0] [.int 4, .ref s0, .ref s1] σ Q) ∧
  (∀ (X : tX) (d : Nat) (x0 : Nat) (s0 : Int32) (s1 : Nat) (s2 : Nat) (σ : rS) (Q : tQ), Ex X d mX7_redo 20 [.ref x0] [.int s0, .ref s1, .ref s2] σ Q = Ex X d mX7_redo 21 [.ref x0] [.ref x0, .int s0, .ref s1, .ref s2] σ Q) ∧
  (∀ (X : tX) (d : Nat) (x0 : Nat) (s0 : Nat) (s1 : Int32) (s2 : Nat) (s3 : Nat) (T : tT) (I : tI) (J : tJ) (R : tR) (Q : tQ), Ex X d mX7_redo 21 [.ref x0] [.ref s0, .int s1, .ref s2, .ref s3] (T, I, J, R) Q = (T[s0]? = some (3, 7) ∧ Ex X d mX7_redo 24 [.ref x0] [.int (I s0 28), .int s1, .ref s2, .ref s3] (T, I, J, R) Q)) ∧
  (∀ (X : tX) (d : Nat) (x0 : Nat) (s0 : Int32) (s1 : Int32) (s2 : Nat) (s3 : Nat) (σ : rS) (Q : tQ), Ex X d mX7_redo 24 [.ref x0] [.int s0, .int s1, .ref s2, .ref s3] σ Q = Ex X d mX7_redo 25 [.ref x0] [.int (s1 * s0), .ref s2, .ref s3] σ Q) ∧
  (∀ (X : tX) (d : Nat) (x0 : Nat) (s0 : Int32) (s1 : Nat) (s2 : Nat) (T : tT) (I : tI) (J : tJ) (R : tR) (Q : tQ), Ex X d mX7_redo 25 [.ref x0] [.int s0, .ref s1, .ref s2] (T, I, J, R) Q = (rIn T s1 0 s0 ∧ Ex X d mX7_redo 26 [.ref x0] [.int (I s1 s0.toNatClampNeg), .ref s2] (T, I, J, R) Q)) ∧
  (∀ (X : tX) (d : Nat) (x0 : Nat) (s0 : Int32) (s1 : Nat) (σ : rS) (Q : tQ), Ex X d mX7_redo 26 [.ref x0] [.int s0, .ref s1] σ Q = Ex X d mX7_redo 27 [.ref x0] [.ref x0, .int s0, .ref s1] σ Q) ∧
  (∀ (X : tX) (d : Nat) (x0 : Nat) (s0 : Nat) (s1 : Int32) (s2 : Nat) (T : tT) (I : tI) (J : tJ) (R : tR) (Q : tQ), Ex X d mX7_redo 27 [.ref x0] [.ref s0, .int s1, .ref s2] (T, I, J, R) Q = (T[s0]? = some (3, 7) ∧ Ex X d mX7_redo 30 [.ref x0] [va_rf (R s0 29), .int s1, .ref s2] (T, I, J, R) Q)) ∧
  (∀ (X : tX) (d : Nat) (x0 : Nat) (s0 : Nat) (s1 : Int32) (s2 : Nat) (σ : rS) (Q : tQ), Ex X d mX7_redo 30 [.ref x0] [.ref s0, .int s1, .ref s2] σ Q = Ex X d mX7_redo 31 [.ref x0] [.int 4, .ref s0, .int s1, .ref s2] σ Q) ∧
  (∀ (X : tX) (d : Nat) (x0 : Nat) (s0 : Int32) (s1 : Nat) (s2 : Int32) (s3 : Nat) (σ : rS) (Q : tQ), Ex X d mX7_redo 31 [.ref x0] [.int s0, .ref s1, .int s2, .ref s3] σ Q = Ex X d mX7_redo 32 [.ref x0] [.ref x0, .int s0, .ref s1, .int s2, .ref s3] σ Q) ∧
  (∀ (X : tX) (d : Nat) (x0 : Nat) (s0 : Nat) (s1 : Int32) (s2 : Nat) (s3 : Int32) (s4 : Nat) (T : tT) (I : tI) (J : tJ) (R : tR) (Q : tQ), Ex X d mX7_redo 32 [.ref x0] [.ref s0, .int s1, .ref s2, .int s3, .ref s4] (T, I, J, R) Q = (T[s0]? = some (3, 7) ∧ Ex X d mX7_redo 35 [.ref x0] [.int (I s0 28), .int s1, .ref s2, .int s3, .ref s4] (T, I, J, R) Q)) ∧
  (∀ (X : tX) (d : Nat) (x0 : Nat) (s0 : Int32) (s1 : Int32) (s2 : Nat) (s3 : Int32) (s4 : Nat) (σ : rS) (Q : tQ), Ex X d mX7_redo 35 [.ref x0] [.int s0, .int s1, .ref s2, .int s3, .ref s4] σ Q = Ex X d mX7_redo 36 [.ref x0] [.int (s1 * s0), .ref s2, .int s3, .ref s4] σ Q) ∧
  (∀ (X : tX) (d : Nat) (x0 : Nat) (s0 : Int32) (s1 : Nat) (s2 : Int32) (s3 : Nat) (σ : rS) (Q : tQ), Ex X d mX7_redo 36 [.ref x0] [.int s0, .ref s1, .int s2, .ref s3] σ Q = Ex X d mX7_redo 37 [.ref x0] [.int 1, .int s0, .ref s1, .int s2, .ref s3] σ Q) ∧
  (∀ (X : tX) (d : Nat) (x0 : Nat) (s0 : Int32) (s1 : Int32) (s2 : Nat) (s3 : Int32) (s4 : Nat) (σ : rS) (Q : tQ), Ex X d mX7_redo 37 [.ref x0] [.int s0, .int s1, .ref s2, .int s3, .ref s4] σ Q = Ex X d mX7_redo 38 [.ref x0] [.int (s1 + s0), .ref s2, .int s3, .ref s4] σ Q) ∧
  (∀ (X : tX) (d : Nat) (x0 : Nat) (s0 : Int32) (s1 : Nat) (s2 : Int32) (s3 : Nat) (T : tT) (I : tI) (J : tJ) (R : tR) (Q : tQ), Ex X d mX7_redo 38 [.ref x0] [.int s0, .ref s1, .int s2, .ref s3] (T, I, J, R) Q = (rIn T s1 0 s0 ∧ Ex X d mX7_redo 39 [.ref x0] [.int (I s1 s0.toNatClampNeg), .int s2, .ref s3] (T, I, J, R) Q)) ∧
  (∀ (X : tX) (d : Nat) (x0 : Nat) (s0 : Int32) (s1 : Int32) (s2 : Nat) (σ : rS) (Q : tQ), Ex X d mX7_redo 39 [.ref x0] [.int s0, .int s1, .ref s2] σ Q = Ex X d mX7_redo 40 [.ref x0] [.ref x0, .int s0, .int s1, .ref s2] σ Q) ∧
  (∀ (X : tX) (d : Nat) (x0 : Nat) (s0 : Nat) (s1 : Int32) (s2 : Int32) (s3 : Nat) (T : tT) (I : tI) (J : tJ) (R : tR) (Q : tQ), Ex X d mX7_redo 40 [.ref x0] [.ref s0, .int s1, .int s2, .ref s3] (T, I, J, R) Q = (T[s0]? = some (3, 7) ∧ Ex X d mX7_redo 43 [.ref x0] [va_rf (R s0 29), .int s1, .int s2, .ref s3] (T, I, J, R) Q)) ∧
  (∀ (X : tX) (d : Nat) (x0 : Nat) (s0 : Nat) (s1 : Int32) (s2 : Int32) (s3 : Nat) (σ : rS) (Q : tQ), Ex X d mX7_redo 43 [.ref x0] [.ref s0, .int s1, .int s2, .ref s3] σ Q = Ex X d mX7_redo 44 [.ref x0] [.int 4, .ref s0, .int s1, .int s2, .ref s3] σ Q) ∧
  (∀ (X : tX) (d : Nat) (x0 : Nat) (s0 : Int32) (s1 : Nat) (s2 : Int32) (s3 : Int32) (s4 : Nat) (σ : rS) (Q : tQ), Ex X d mX7_redo 44 [.ref x0] [.int s0, .ref s1, .int s2, .int s3, .ref s4] σ Q = Ex X d mX7_redo 45 [.ref x0] [.ref x0, .int s0, .ref s1, .int s2, .int s3, .ref s4] σ Q) ∧
  (∀ (X : tX) (d : Nat) (x0 : Nat) (s0 : Nat) (s1 : Int32) (s2 : Nat) (s3 : Int32) (s4 : Int32) (s5 : Nat) (T : tT) (I : tI) (J : tJ) (R : tR) (Q : tQ), Ex X d mX7_redo 45 [.ref x0] [.ref s0, .int s1, .ref s2, .int s3, .int s4, .ref s5] (T, I, J, R) Q = (T[s0]? = some (3, 7) ∧ Ex X d mX7_redo 48 [.ref x0] [.int (I s0 28), .int s1, .ref s2, .int s3, .int s4, .ref s5] (T, I, J, R) Q)) ∧
  (∀ (X : tX) (d : Nat) (x0 : Nat) (s0 : Int32) (s1 : Int32) (s2 : Nat) (s3 : Int32) (s4 : Int32) (s5 : Nat) (σ : rS) (Q : tQ), Ex X d mX7_redo 48 [.ref x0] [.int s0, .int s1, .ref s2, .int s3, .int s4, .ref s5] σ Q = Ex X d mX7_redo 49 [.ref x0] [.int (s1 * s0), .ref s2, .int s3, .int s4, .ref s5] σ Q) ∧
  (∀ (X : tX) (d : Nat) (x0 : Nat) (s0 : Int32) (s1 : Nat) (s2 : Int32) (s3 : Int32) (s4 : Nat) (σ : rS) (Q : tQ), Ex X d mX7_redo 49 [.ref x0] [.int s0, .ref s1, .int s2, .int s3, .ref s4] σ Q = Ex X d mX7_redo 50 [.ref x0] [.int 3, .int s0, .ref s1, .int s2, .int s3, .ref s4] σ Q) ∧
  (∀ (X : tX) (d : Nat) (x0 : Nat) (s0 : Int32) (s1 : Int32) (s2 : Nat) (s3 : Int32) (s4 : Int32) (s5 : Nat) (σ : rS) (Q : tQ), Ex X d mX7_redo 50 [.ref x0] [.int s0, .int s1, .ref s2, .int s3, .int s4, .ref s5] σ Q = Ex X d mX7_redo 51 [.ref x0] [.int (s1 + s0), .ref s2, .int s3, .int s4, .ref s5] σ Q) ∧
  (∀ (X : tX) (d : Nat) (x0 : Nat) (s0 : Int32) (s1 : Nat) (s2 : Int32) (s3 : Int32) (s4 : Nat) (T : tT) (I : tI) (J : tJ) (R : tR) (Q : tQ), Ex X d mX7_redo 51 [.ref x0] [.int s0, .ref s1, .int s2, .int s3, .ref s4] (T, I, J, R) Q = (rIn T s1 0 s0 ∧ Ex X d mX7_redo 52 [.ref x0] [.int (I s1 s0.toNatClampNeg), .int s2, .int s3, .ref s4] (T, I, J, R) Q)) ∧
  (∀ (X : tX) (d : Nat) (x0 : Nat) (s0 : Int32) (s1 : Int32) (s2 : Int32) (s3 : Nat) (T : tT) (I : tI) (J : tJ) (R : tR) (Q : tQ), Ex X (d + 1) mX7_redo 52 [.ref x0] [.int s0, .int s1, .int s2, .ref s3] (T, I, J, R) Q = (T[s3]? = some (3, 7) ∧ Ex X d mX7_becomes 0 [.ref s3, .int s2, .int s1, .int s0] [] (T, I, J, R) (fun v σ1 => Ex X (d + 1) mX7_redo 55 [.ref x0] (v.toList ++ []) σ1 Q))) := ⟨fun X d x0 σ Q => ex_P (i := .aload_n 0) (len := 1) (by decide +kernel) rfl,
  fun X d x0 s0 σ Q => ex_P (i := .aload_n 0) (len := 1) (by decide +kernel) rfl,
  fun X d x0 s0 s1 T I J R Q => q_getR (k := 63) (by decide +kernel) rfl rfl,
  fun X d x0 s0 s1 σ Q => ex_P (i := .iconst 4) (len := 1) (by decide +kernel) rfl,
  fun X d x0 s0 s1 s2 σ Q => ex_P (i := .aload_n 0) (len := 1) (by decide +kernel) rfl,
  fun X d x0 s0 s1 s2 s3 T I J R Q => q_getI (k := 136) (by decide +kernel) rfl rfl (by decide),
  fun X d x0 s0 s1 s2 s3 σ Q => ex_P (i := .imul) (len := 1) (by decide +kernel) rfl,
  fun X d x0 s0 s1 s2 T I J R Q => q_iald (by decide +kernel),
  fun X d x0 s0 s1 σ Q => ex_P (i := .aload_n 0) (len := 1) (by decide +kernel) rfl,
  fun X d x0 s0 s1 s2 T I J R Q => q_getR (k := 63) (by decide +kernel) rfl rfl,
  fun X d x0 s0 s1 s2 σ Q => ex_P (i := .iconst 4) (len := 1) (by decide +kernel) rfl,
  fun X d x0 s0 s1 s2 s3 σ Q => ex_P (i := .aload_n 0) (len := 1) (by decide +kernel) rfl,
  fun X d x0 s0 s1 s2 s3 s4 T I J R Q => q_getI (k := 136) (by decide +kernel) rfl rfl (by decide),
  fun X d x0 s0 s1 s2 s3 s4 σ Q => ex_P (i := .imul) (len := 1) (by decide +kernel) rfl,
  fun X d x0 s0 s1 s2 s3 σ Q => ex_P (i := .iconst 1) (len := 1) (by decide +kernel) rfl,
  fun X d x0 s0 s1 s2 s3 s4 σ Q => ex_P (i := .iadd) (len := 1) (by decide +kernel) rfl,
  fun X d x0 s0 s1 s2 s3 T I J R Q => q_iald (by decide +kernel),
  fun X d x0 s0 s1 s2 σ Q => ex_P (i := .aload_n 0) (len := 1) (by decide +kernel) rfl,
  fun X d x0 s0 s1 s2 s3 T I J R Q => q_getR (k := 63) (by decide +kernel) rfl rfl,
  fun X d x0 s0 s1 s2 s3 σ Q => ex_P (i := .iconst 4) (len := 1) (by decide +kernel) rfl,
  fun X d x0 s0 s1 s2 s3 s4 σ Q => ex_P (i := .aload_n 0) (len := 1) (by decide +kernel) rfl,
  fun X d x0 s0 s1 s2 s3 s4 s5 T I J R Q => q_getI (k := 136) (by decide +kernel) rfl rfl (by decide),
  fun X d x0 s0 s1 s2 s3 s4 s5 σ Q => ex_P (i := .imul) (len := 1) (by decide +kernel) rfl,
  fun X d x0 s0 s1 s2 s3 s4 σ Q => ex_P (i := .iconst 3) (len := 1) (by decide +kernel) rfl,
  fun X d x0 s0 s1 s2 s3 s4 s5 σ Q => ex_P (i := .iadd) (len := 1) (by decide +kernel) rfl,
  fun X d x0 s0 s1 s2 s3 s4 T I J R Q => q_iald (by decide +kernel),
  fun X d x0 s0 s1 s2 s3 T I J R Q => q_callV (k := 132) (as := [.int s2, .int s1, .int s0]) (st := []) (show rlk mX7_redo.2.2.2.2.2.2 52 = some (.invokevirtual 132, 3) from by decide +kernel) rfl rfl rfl (Nat.le_of_ble_eq_true rfl) (Nat.le_of_ble_eq_true rfl) rfl⟩
set_option maxRecDepth 50000 in
theorem gX7_redo_55 : (∀ (X : tX) (d : Nat) (x0 : Nat) (σ : rS) (Q : tQ), Ex X d mX7_redo 55 [.ref x0] [] σ Q = Ex X d mX7_redo 56 [.ref x0] [.ref x0] σ Q) ∧
  (∀ (X : tX) (d : Nat) (x0 : Nat) (s0 : Nat) (σ : rS) (Q : tQ), Ex X d mX7_redo 56 [.ref x0] [.ref s0] σ Q = Ex X d mX7_redo 57 [.ref x0] [.ref s0, .ref s0] σ Q) ∧
  (∀ (X : tX) (d : Nat) (x0 : Nat) (s0 : Nat) (s1 : Nat) (T : tT) (I : tI) (J : tJ) (R : tR) (Q : tQ), Ex X d mX7_redo 57 [.ref x0] [.ref s0, .ref s1] (T, I, J, R) Q = (T[s0]? = some (3, 7) ∧ Ex X d mX7_redo 60 [.ref x0] [.int (I s0 28), .ref s1] (T, I, J, R) Q)) ∧
  (∀ (X : tX) (d : Nat) (x0 : Nat) (s0 : Int32) (s1 : Nat) (σ : rS) (Q : tQ), Ex X d mX7_redo 60 [.ref x0] [.int s0, .ref s1] σ Q = Ex X d mX7_redo 61 [.ref x0] [.int 1, .int s0, .ref s1] σ Q) ∧
  (∀ (X : tX) (d : Nat) (x0 : Nat) (s0 : Int32) (s1 : Int32) (s2 : Nat) (σ : rS) (Q : tQ), Ex X d mX7_redo 61 [.ref x0] [.int s0, .int s1, .ref s2] σ Q = Ex X d mX7_redo 62 [.ref x0] [.int (s1 + s0), .ref s2] σ Q) ∧
  (∀ (X : tX) (d : Nat) (x0 : Nat) (s0 : Int32) (s1 : Nat) (T : tT) (I : tI) (J : tJ) (R : tR) (Q : tQ), Ex X d mX7_redo 62 [.ref x0] [.int s0, .ref s1] (T, I, J, R) Q = (T[s1]? = some (3, 7) ∧ Ex X d mX7_redo 65 [.ref x0] [] (T, va_up I s1 (va_up (I s1) 28 s0), J, R) Q)) ∧
  (∀ (X : tX) (d : Nat) (x0 : Nat) (σ : rS) (Q : tQ), Ex X d mX7_redo 65 [.ref x0] [] σ Q = Ex X d mX7_redo 66 [.ref x0] [.ref x0] σ Q) ∧
  (∀ (X : tX) (d : Nat) (x0 : Nat) (s0 : Nat) (T : tT) (I : tI) (J : tJ) (R : tR) (Q : tQ), Ex X d mX7_redo 66 [.ref x0] [.ref s0] (T, I, J, R) Q = (T[s0]? = some (3, 7) ∧ Ex X d mX7_redo 69 [.ref x0] [.int (I s0 27)] (T, I, J, R) Q)) ∧
  (∀ (X : tX) (d : Nat) (x0 : Nat) (s0 : Int32) (σ : rS) (Q : tQ), Ex X d mX7_redo 69 [.ref x0] [.int s0] σ Q = Ex X d mX7_redo 70 [.ref x0] [.ref x0, .int s0] σ Q) ∧
  (∀ (X : tX) (d : Nat) (x0 : Nat) (s0 : Nat) (s1 : Int32) (T : tT) (I : tI) (J : tJ) (R : tR) (Q : tQ), Ex X d mX7_redo 70 [.ref x0] [.ref s0, .int s1] (T, I, J, R) Q = (T[s0]? = some (3, 7) ∧ Ex X d mX7_redo 73 [.ref x0] [.int (I s0 28), .int s1] (T, I, J, R) Q)) ∧
  (∀ (X : tX) (d : Nat) (x0 : Nat) (s0 : Int32) (s1 : Int32) (σ : rS) (Q : tQ), Ex X d mX7_redo 73 [.ref x0] [.int s0, .int s1] σ Q = Ex X d mX7_redo 74 [.ref x0] [.int (s1 - s0)] σ Q) ∧
  (∀ (X : tX) (d : Nat) (x0 : Nat) (s0 : Int32) (σ : rS) (Q : tQ), Ex X d mX7_redo 74 [.ref x0] [.int s0] σ Q = Q (some (.int s0)) σ) := ⟨fun X d x0 σ Q => ex_P (i := .aload_n 0) (len := 1) (by decide +kernel) rfl,
  fun X d x0 s0 σ Q => ex_P (i := .dup) (len := 1) (by decide +kernel) rfl,
  fun X d x0 s0 s1 T I J R Q => q_getI (k := 136) (by decide +kernel) rfl rfl (by decide),
  fun X d x0 s0 s1 σ Q => ex_P (i := .iconst 1) (len := 1) (by decide +kernel) rfl,
  fun X d x0 s0 s1 s2 σ Q => ex_P (i := .iadd) (len := 1) (by decide +kernel) rfl,
  fun X d x0 s0 s1 T I J R Q => q_putI (k := 136) (by decide +kernel) rfl rfl (by decide +kernel),
  fun X d x0 σ Q => ex_P (i := .aload_n 0) (len := 1) (by decide +kernel) rfl,
  fun X d x0 s0 T I J R Q => q_getI (k := 139) (by decide +kernel) rfl rfl (by decide),
  fun X d x0 s0 σ Q => ex_P (i := .aload_n 0) (len := 1) (by decide +kernel) rfl,
  fun X d x0 s0 s1 T I J R Q => q_getI (k := 136) (by decide +kernel) rfl rfl (by decide),
  fun X d x0 s0 s1 σ Q => ex_P (i := .isub) (len := 1) (by decide +kernel) rfl,
  fun X d x0 s0 σ Q => q_retI (by decide +kernel) rfl⟩
set_option maxRecDepth 50000 in
theorem gX7_feed_0 : (∀ (X : tX) (d : Nat) (x0 : Nat) (x1 : Int32) (σ : rS) (Q : tQ), Ex X d mX7_feed 0 [.ref x0, .int x1] [] σ Q = Ex X d mX7_feed 1 [.ref x0, .int x1] [.int x1] σ Q) ∧
  (∀ (X : tX) (d : Nat) (x0 : Nat) (x1 : Int32) (s0 : Int32) (σ : rS) (Q : tQ), Ex X d mX7_feed 1 [.ref x0, .int x1] [.int s0] σ Q = Ex X d mX7_feed 2 [.ref x0, .int x1] [.int 0, .int s0] σ Q) ∧
  (∀ (X : tX) (d : Nat) (x0 : Nat) (x1 : Int32) (s0 : Int32) (s1 : Int32) (σ : rS) (Q : tQ), Ex X d mX7_feed 2 [.ref x0, .int x1] [.int s0, .int s1] σ Q = Ex X d mX7_feed 5 [.ref x0, .int x1] [.int 255, .int s0, .int s1] σ Q) ∧
  (∀ (X : tX) (d : Nat) (x0 : Nat) (x1 : Int32) (s0 : Int32) (s1 : Int32) (s2 : Int32) (σ : rS) (Q : tQ), Ex X (d + 1) mX7_feed 5 [.ref x0, .int x1] [.int s0, .int s1, .int s2] σ Q = Ex X d mX7_within 0 [.int s2, .int s1, .int s0] [] σ (fun v σ1 => Ex X (d + 1) mX7_feed 8 [.ref x0, .int x1] (v.toList ++ []) σ1 Q)) := ⟨fun X d x0 x1 σ Q => ex_P (i := .iload_n 1) (len := 1) (by decide +kernel) rfl,
  fun X d x0 x1 s0 σ Q => ex_P (i := .iconst 0) (len := 1) (by decide +kernel) rfl,
  fun X d x0 x1 s0 s1 σ Q => ex_P (i := .sipush 255) (len := 3) (by decide +kernel) rfl,
  fun X d x0 x1 s0 s1 s2 σ Q => q_callS (k := 101) (as := [.int s2, .int s1, .int s0]) (st := []) (show rlk mX7_feed.2.2.2.2.2.2 5 = some (.invokestatic 101, 3) from by decide +kernel) rfl (Or.inl rfl) rfl rfl rfl rfl rfl (Nat.le_of_ble_eq_true rfl) (Nat.le_of_ble_eq_true rfl) rfl⟩
set_option maxRecDepth 50000 in
theorem gX7_feed_8 : (∀ (X : tX) (d : Nat) (x0 : Nat) (x1 : Int32) (s0 : Int32) (σ : rS) (Q : tQ), Ex X d mX7_feed 8 [.ref x0, .int x1] [.int s0] σ Q = (if s0 = 0 then Ex X d mX7_feed 11 [.ref x0, .int x1] [] σ Q else Ex X d mX7_feed 13 [.ref x0, .int x1] [] σ Q)) := fun X d x0 x1 s0 σ Q => q_if_ne (o := 5) (by decide +kernel) rfl
set_option maxRecDepth 50000 in
theorem gX7_feed_11 : (∀ (X : tX) (d : Nat) (x0 : Nat) (x1 : Int32) (σ : rS) (Q : tQ), Ex X d mX7_feed 11 [.ref x0, .int x1] [] σ Q = Ex X d mX7_feed 12 [.ref x0, .int x1] [.int (-1)] σ Q) ∧
  (∀ (X : tX) (d : Nat) (x0 : Nat) (x1 : Int32) (s0 : Int32) (σ : rS) (Q : tQ), Ex X d mX7_feed 12 [.ref x0, .int x1] [.int s0] σ Q = Q (some (.int s0)) σ) := ⟨fun X d x0 x1 σ Q => ex_P (i := .iconst (-1)) (len := 1) (by decide +kernel) rfl,
  fun X d x0 x1 s0 σ Q => q_retI (by decide +kernel) rfl⟩
set_option maxRecDepth 50000 in
theorem gX7_feed_13 : (∀ (X : tX) (d : Nat) (x0 : Nat) (x1 : Int32) (σ : rS) (Q : tQ), Ex X d mX7_feed 13 [.ref x0, .int x1] [] σ Q = Ex X d mX7_feed 14 [.ref x0, .int x1] [.ref x0] σ Q) ∧
  (∀ (X : tX) (d : Nat) (x0 : Nat) (x1 : Int32) (s0 : Nat) (T : tT) (I : tI) (J : tJ) (R : tR) (Q : tQ), Ex X d mX7_feed 14 [.ref x0, .int x1] [.ref s0] (T, I, J, R) Q = (T[s0]? = some (3, 7) ∧ Ex X d mX7_feed 17 [.ref x0, .int x1] [.int (I s0 4)] (T, I, J, R) Q)) ∧
  (∀ (X : tX) (d : Nat) (x0 : Nat) (x1 : Int32) (s0 : Int32) (σ : rS) (Q : tQ), Ex X d mX7_feed 17 [.ref x0, .int x1] [.int s0] σ Q = Ex X d mX7_feed 19 [.ref x0, .int x1] [.int 120, .int s0] σ Q) ∧
  (∀ (X : tX) (d : Nat) (x0 : Nat) (x1 : Int32) (s0 : Int32) (s1 : Int32) (σ : rS) (Q : tQ), Ex X d mX7_feed 19 [.ref x0, .int x1] [.int s0, .int s1] σ Q = (if s1 = s0 then Ex X d mX7_feed 22 [.ref x0, .int x1] [] σ Q else Ex X d mX7_feed 25 [.ref x0, .int x1] [] σ Q)) := ⟨fun X d x0 x1 σ Q => ex_P (i := .aload_n 0) (len := 1) (by decide +kernel) rfl,
  fun X d x0 x1 s0 T I J R Q => q_getI (k := 142) (by decide +kernel) rfl rfl (by decide),
  fun X d x0 x1 s0 σ Q => ex_P (i := .bipush 120) (len := 2) (by decide +kernel) rfl,
  fun X d x0 x1 s0 s1 σ Q => q_icmp_ne (o := 6) (by decide +kernel) rfl⟩
set_option maxRecDepth 50000 in
theorem gX7_feed_22 : (∀ (X : tX) (d : Nat) (x0 : Nat) (x1 : Int32) (σ : rS) (Q : tQ), Ex X d mX7_feed 22 [.ref x0, .int x1] [] σ Q = Ex X d mX7_feed 24 [.ref x0, .int x1] [.int (-3)] σ Q) ∧
  (∀ (X : tX) (d : Nat) (x0 : Nat) (x1 : Int32) (s0 : Int32) (σ : rS) (Q : tQ), Ex X d mX7_feed 24 [.ref x0, .int x1] [.int s0] σ Q = Q (some (.int s0)) σ) := ⟨fun X d x0 x1 σ Q => ex_P (i := .bipush (-3)) (len := 2) (by decide +kernel) rfl,
  fun X d x0 x1 s0 σ Q => q_retI (by decide +kernel) rfl⟩
set_option maxRecDepth 50000 in
theorem gX7_feed_25 : (∀ (X : tX) (d : Nat) (x0 : Nat) (x1 : Int32) (σ : rS) (Q : tQ), Ex X d mX7_feed 25 [.ref x0, .int x1] [] σ Q = Ex X d mX7_feed 26 [.ref x0, .int x1] [.ref x0] σ Q) ∧
  (∀ (X : tX) (d : Nat) (x0 : Nat) (x1 : Int32) (s0 : Nat) (T : tT) (I : tI) (J : tJ) (R : tR) (Q : tQ), Ex X d mX7_feed 26 [.ref x0, .int x1] [.ref s0] (T, I, J, R) Q = (T[s0]? = some (3, 7) ∧ Ex X d mX7_feed 29 [.ref x0, .int x1] [va_rf (R s0 5)] (T, I, J, R) Q)) ∧
  (∀ (X : tX) (d : Nat) (x0 : Nat) (x1 : Int32) (s0 : Nat) (σ : rS) (Q : tQ), Ex X d mX7_feed 29 [.ref x0, .int x1] [.ref s0] σ Q = Ex X d mX7_feed 30 [.ref x0, .int x1] [.ref x0, .ref s0] σ Q) ∧
  (∀ (X : tX) (d : Nat) (x0 : Nat) (x1 : Int32) (s0 : Nat) (s1 : Nat) (σ : rS) (Q : tQ), Ex X d mX7_feed 30 [.ref x0, .int x1] [.ref s0, .ref s1] σ Q = Ex X d mX7_feed 31 [.ref x0, .int x1] [.ref s0, .ref s0, .ref s1] σ Q) ∧
  (∀ (X : tX) (d : Nat) (x0 : Nat) (x1 : Int32) (s0 : Nat) (s1 : Nat) (s2 : Nat) (T : tT) (I : tI) (J : tJ) (R : tR) (Q : tQ), Ex X d mX7_feed 31 [.ref x0, .int x1] [.ref s0, .ref s1, .ref s2] (T, I, J, R) Q = (T[s0]? = some (3, 7) ∧ Ex X d mX7_feed 34 [.ref x0, .int x1] [.int (I s0 4), .ref s1, .ref s2] (T, I, J, R) Q)) ∧
  (∀ (X : tX) (d : Nat) (x0 : Nat) (x1 : Int32) (s0 : Int32) (s1 : Nat) (s2 : Nat) (σ : rS) (Q : tQ), Ex X d mX7_feed 34 [.ref x0, .int x1] [.int s0, .ref s1, .ref s2] σ Q = Ex X d mX7_feed 35 [.ref x0, .int x1] [.int s0, .ref s1, .int s0, .ref s2] σ Q) ∧
  (∀ (X : tX) (d : Nat) (x0 : Nat) (x1 : Int32) (s0 : Int32) (s1 : Nat) (s2 : Int32) (s3 : Nat) (σ : rS) (Q : tQ), Ex X d mX7_feed 35 [.ref x0, .int x1] [.int s0, .ref s1, .int s2, .ref s3] σ Q = Ex X d mX7_feed 36 [.ref x0, .int x1] [.int 1, .int s0, .ref s1, .int s2, .ref s3] σ Q) ∧
  (∀ (X : tX) (d : Nat) (x0 : Nat) (x1 : Int32) (s0 : Int32) (s1 : Int32) (s2 : Nat) (s3 : Int32) (s4 : Nat) (σ : rS) (Q : tQ), Ex X d mX7_feed 36 [.ref x0, .int x1] [.int s0, .int s1, .ref s2, .int s3, .ref s4] σ Q = Ex X d mX7_feed 37 [.ref x0, .int x1] [.int (s1 + s0), .ref s2, .int s3, .ref s4] σ Q) ∧
  (∀ (X : tX) (d : Nat) (x0 : Nat) (x1 : Int32) (s0 : Int32) (s1 : Nat) (s2 : Int32) (s3 : Nat) (T : tT) (I : tI) (J : tJ) (R : tR) (Q : tQ), Ex X d mX7_feed 37 [.ref x0, .int x1] [.int s0, .ref s1, .int s2, .ref s3] (T, I, J, R) Q = (T[s1]? = some (3, 7) ∧ Ex X d mX7_feed 40 [.ref x0, .int x1] [.int s2, .ref s3] (T, va_up I s1 (va_up (I s1) 4 s0), J, R) Q)) ∧
  (∀ (X : tX) (d : Nat) (x0 : Nat) (x1 : Int32) (s0 : Int32) (s1 : Nat) (σ : rS) (Q : tQ), Ex X d mX7_feed 40 [.ref x0, .int x1] [.int s0, .ref s1] σ Q = Ex X d mX7_feed 41 [.ref x0, .int x1] [.int x1, .int s0, .ref s1] σ Q) ∧
  (∀ (X : tX) (d : Nat) (x0 : Nat) (x1 : Int32) (s0 : Int32) (s1 : Int32) (s2 : Nat) (T : tT) (I : tI) (J : tJ) (R : tR) (Q : tQ), Ex X d mX7_feed 41 [.ref x0, .int x1] [.int s0, .int s1, .ref s2] (T, I, J, R) Q = (rIn T s2 0 s1 ∧ Ex X d mX7_feed 42 [.ref x0, .int x1] [] (T, va_up I s2 (va_up (I s2) s1.toNatClampNeg s0), J, R) Q)) ∧
  (∀ (X : tX) (d : Nat) (x0 : Nat) (x1 : Int32) (σ : rS) (Q : tQ), Ex X d mX7_feed 42 [.ref x0, .int x1] [] σ Q = Ex X d mX7_feed 43 [.ref x0, .int x1] [.ref x0] σ Q) ∧
  (∀ (X : tX) (d : Nat) (x0 : Nat) (x1 : Int32) (s0 : Nat) (T : tT) (I : tI) (J : tJ) (R : tR) (Q : tQ), Ex X d mX7_feed 43 [.ref x0, .int x1] [.ref s0] (T, I, J, R) Q = (T[s0]? = some (3, 7) ∧ Ex X d mX7_feed 46 [.ref x0, .int x1] [.int (I s0 4)] (T, I, J, R) Q)) ∧
  (∀ (X : tX) (d : Nat) (x0 : Nat) (x1 : Int32) (s0 : Int32) (σ : rS) (Q : tQ), Ex X d mX7_feed 46 [.ref x0, .int x1] [.int s0] σ Q = Q (some (.int s0)) σ) := ⟨fun X d x0 x1 σ Q => ex_P (i := .aload_n 0) (len := 1) (by decide +kernel) rfl,
  fun X d x0 x1 s0 T I J R Q => q_getR (k := 21) (by decide +kernel) rfl rfl,
  fun X d x0 x1 s0 σ Q => ex_P (i := .aload_n 0) (len := 1) (by decide +kernel) rfl,
  fun X d x0 x1 s0 s1 σ Q => ex_P (i := .dup) (len := 1) (by decide +kernel) rfl,
  fun X d x0 x1 s0 s1 s2 T I J R Q => q_getI (k := 142) (by decide +kernel) rfl rfl (by decide),
  fun X d x0 x1 s0 s1 s2 σ Q => ex_P (i := .dup_x1) (len := 1) (by decide +kernel) rfl,
  fun X d x0 x1 s0 s1 s2 s3 σ Q => ex_P (i := .iconst 1) (len := 1) (by decide +kernel) rfl,
  fun X d x0 x1 s0 s1 s2 s3 s4 σ Q => ex_P (i := .iadd) (len := 1) (by decide +kernel) rfl,
  fun X d x0 x1 s0 s1 s2 s3 T I J R Q => q_putI (k := 142) (by decide +kernel) rfl rfl (by decide +kernel),
  fun X d x0 x1 s0 s1 σ Q => ex_P (i := .iload_n 1) (len := 1) (by decide +kernel) rfl,
  fun X d x0 x1 s0 s1 s2 T I J R Q => q_iast (by decide +kernel),
  fun X d x0 x1 σ Q => ex_P (i := .aload_n 0) (len := 1) (by decide +kernel) rfl,
  fun X d x0 x1 s0 T I J R Q => q_getI (k := 142) (by decide +kernel) rfl rfl (by decide),
  fun X d x0 x1 s0 σ Q => q_retI (by decide +kernel) rfl⟩
set_option maxRecDepth 50000 in
theorem gX7_sign_0 : (∀ (X : tX) (d : Nat) (x0 : Nat) (σ : rS) (Q : tQ), Ex X d mX7_sign 0 [.ref x0] [] σ Q = Ex X d mX7_sign 1 [.ref x0] [.ref x0] σ Q) ∧
  (∀ (X : tX) (d : Nat) (x0 : Nat) (s0 : Nat) (T : tT) (I : tI) (J : tJ) (R : tR) (Q : tQ), Ex X d mX7_sign 1 [.ref x0] [.ref s0] (T, I, J, R) Q = (T[s0]? = some (3, 7) ∧ Ex X d mX7_sign 4 [.ref x0] [.int (I s0 12)] (T, I, J, R) Q)) ∧
  (∀ (X : tX) (d : Nat) (x0 : Nat) (s0 : Int32) (σ : rS) (Q : tQ), Ex X d mX7_sign 4 [.ref x0] [.int s0] σ Q = Ex X d mX7_sign 5 [.ref x0] [.ref x0, .int s0] σ Q) ∧
  (∀ (X : tX) (d : Nat) (x0 : Nat) (s0 : Nat) (s1 : Int32) (T : tT) (I : tI) (J : tJ) (R : tR) (Q : tQ), Ex X d mX7_sign 5 [.ref x0] [.ref s0, .int s1] (T, I, J, R) Q = (T[s0]? = some (3, 7) ∧ Ex X d mX7_sign 8 [.ref x0] [.int (I s0 4), .int s1] (T, I, J, R) Q)) ∧
  (∀ (X : tX) (d : Nat) (x0 : Nat) (s0 : Int32) (s1 : Int32) (σ : rS) (Q : tQ), Ex X d mX7_sign 8 [.ref x0] [.int s0, .int s1] σ Q = (if s0 ≤ s1 then Ex X d mX7_sign 23 [.ref x0] [] σ Q else Ex X d mX7_sign 11 [.ref x0] [] σ Q)) := ⟨fun X d x0 σ Q => ex_P (i := .aload_n 0) (len := 1) (by decide +kernel) rfl,
  fun X d x0 s0 T I J R Q => q_getI (k := 145) (by decide +kernel) rfl rfl (by decide),
  fun X d x0 s0 σ Q => ex_P (i := .aload_n 0) (len := 1) (by decide +kernel) rfl,
  fun X d x0 s0 s1 T I J R Q => q_getI (k := 142) (by decide +kernel) rfl rfl (by decide),
  fun X d x0 s0 s1 σ Q => q_icmp_ge (o := 15) (by decide +kernel) rfl⟩
set_option maxRecDepth 50000 in
theorem gX7_sign_11 : (∀ (X : tX) (d : Nat) (x0 : Nat) (σ : rS) (Q : tQ), Ex X d mX7_sign 11 [.ref x0] [] σ Q = Ex X d mX7_sign 12 [.ref x0] [.ref x0] σ Q) ∧
  (∀ (X : tX) (d : Nat) (x0 : Nat) (s0 : Nat) (T : tT) (I : tI) (J : tJ) (R : tR) (Q : tQ), Ex X d mX7_sign 12 [.ref x0] [.ref s0] (T, I, J, R) Q = (T[s0]? = some (3, 7) ∧ Ex X d mX7_sign 15 [.ref x0] [va_rf (R s0 5)] (T, I, J, R) Q)) ∧
  (∀ (X : tX) (d : Nat) (x0 : Nat) (s0 : Nat) (σ : rS) (Q : tQ), Ex X d mX7_sign 15 [.ref x0] [.ref s0] σ Q = Ex X d mX7_sign 16 [.ref x0] [.ref x0, .ref s0] σ Q) ∧
  (∀ (X : tX) (d : Nat) (x0 : Nat) (s0 : Nat) (s1 : Nat) (T : tT) (I : tI) (J : tJ) (R : tR) (Q : tQ), Ex X d mX7_sign 16 [.ref x0] [.ref s0, .ref s1] (T, I, J, R) Q = (T[s0]? = some (3, 7) ∧ Ex X d mX7_sign 19 [.ref x0] [.int (I s0 12), .ref s1] (T, I, J, R) Q)) ∧
  (∀ (X : tX) (d : Nat) (x0 : Nat) (s0 : Int32) (s1 : Nat) (T : tT) (I : tI) (J : tJ) (R : tR) (Q : tQ), Ex X d mX7_sign 19 [.ref x0] [.int s0, .ref s1] (T, I, J, R) Q = (rIn T s1 0 s0 ∧ Ex X d mX7_sign 20 [.ref x0] [.int (I s1 s0.toNatClampNeg)] (T, I, J, R) Q)) ∧
  (∀ (X : tX) (d : Nat) (x0 : Nat) (s0 : Int32) (σ : rS) (Q : tQ), Ex X d mX7_sign 20 [.ref x0] [.int s0] σ Q = Ex X d mX7_sign 24 [.ref x0] [.int s0] σ Q) := ⟨fun X d x0 σ Q => ex_P (i := .aload_n 0) (len := 1) (by decide +kernel) rfl,
  fun X d x0 s0 T I J R Q => q_getR (k := 21) (by decide +kernel) rfl rfl,
  fun X d x0 s0 σ Q => ex_P (i := .aload_n 0) (len := 1) (by decide +kernel) rfl,
  fun X d x0 s0 s1 T I J R Q => q_getI (k := 145) (by decide +kernel) rfl rfl (by decide),
  fun X d x0 s0 s1 T I J R Q => q_iald (by decide +kernel),
  fun X d x0 s0 σ Q => q_goto (o := 4) (by decide +kernel) rfl⟩
set_option maxRecDepth 50000 in
theorem gX7_sign_23 : (∀ (X : tX) (d : Nat) (x0 : Nat) (σ : rS) (Q : tQ), Ex X d mX7_sign 23 [.ref x0] [] σ Q = Ex X d mX7_sign 24 [.ref x0] [.int (-1)] σ Q) := fun X d x0 σ Q => ex_P (i := .iconst (-1)) (len := 1) (by decide +kernel) rfl
set_option maxRecDepth 50000 in
theorem gX7_sign_24 : (∀ (X : tX) (d : Nat) (x0 : Nat) (s0 : Int32) (σ : rS) (Q : tQ), Ex X d mX7_sign 24 [.ref x0] [.int s0] σ Q = Q (some (.int s0)) σ) := fun X d x0 s0 σ Q => q_retI (by decide +kernel) rfl
set_option maxRecDepth 50000 in
theorem gX7_is_0 : (∀ (X : tX) (d : Nat) (x0 : Nat) (x1 : Int32) (σ : rS) (Q : tQ), Ex X d mX7_is 0 [.ref x0, .int x1] [] σ Q = Ex X d mX7_is 1 [.ref x0, .int x1] [.ref x0] σ Q) ∧
  (∀ (X : tX) (d : Nat) (x0 : Nat) (x1 : Int32) (s0 : Nat) (T : tT) (I : tI) (J : tJ) (R : tR) (Q : tQ), Ex X (d + 1) mX7_is 1 [.ref x0, .int x1] [.ref s0] (T, I, J, R) Q = (T[s0]? = some (3, 7) ∧ Ex X d mX7_sign 0 [.ref s0] [] (T, I, J, R) (fun v σ1 => Ex X (d + 1) mX7_is 4 [.ref x0, .int x1] (v.toList ++ []) σ1 Q))) := ⟨fun X d x0 x1 σ Q => ex_P (i := .aload_n 0) (len := 1) (by decide +kernel) rfl,
  fun X d x0 x1 s0 T I J R Q => q_callV (k := 148) (as := []) (st := []) (show rlk mX7_is.2.2.2.2.2.2 1 = some (.invokevirtual 148, 3) from by decide +kernel) rfl rfl rfl (Nat.le_of_ble_eq_true rfl) (Nat.le_of_ble_eq_true rfl) rfl⟩
set_option maxRecDepth 50000 in
theorem gX7_is_4 : (∀ (X : tX) (d : Nat) (x0 : Nat) (x1 : Int32) (s0 : Int32) (σ : rS) (Q : tQ), Ex X d mX7_is 4 [.ref x0, .int x1] [.int s0] σ Q = Ex X d mX7_is 5 [.ref x0, .int x1] [.int x1, .int s0] σ Q) ∧
  (∀ (X : tX) (d : Nat) (x0 : Nat) (x1 : Int32) (s0 : Int32) (s1 : Int32) (σ : rS) (Q : tQ), Ex X d mX7_is 5 [.ref x0, .int x1] [.int s0, .int s1] σ Q = (if s1 = s0 then Ex X d mX7_is 10 [.ref x0, .int x1] [] σ Q else Ex X d mX7_is 8 [.ref x0, .int x1] [] σ Q)) := ⟨fun X d x0 x1 s0 σ Q => ex_P (i := .iload_n 1) (len := 1) (by decide +kernel) rfl,
  fun X d x0 x1 s0 s1 σ Q => q_icmp_eq (o := 5) (by decide +kernel) rfl⟩
set_option maxRecDepth 50000 in
theorem gX7_is_8 : (∀ (X : tX) (d : Nat) (x0 : Nat) (x1 : Int32) (σ : rS) (Q : tQ), Ex X d mX7_is 8 [.ref x0, .int x1] [] σ Q = Ex X d mX7_is 9 [.ref x0, .int x1] [.int 0] σ Q) ∧
  (∀ (X : tX) (d : Nat) (x0 : Nat) (x1 : Int32) (s0 : Int32) (σ : rS) (Q : tQ), Ex X d mX7_is 9 [.ref x0, .int x1] [.int s0] σ Q = ((s0 = 0 ∨ s0 = 1) ∧ Q (some (.int s0)) σ)) := ⟨fun X d x0 x1 σ Q => ex_P (i := .iconst 0) (len := 1) (by decide +kernel) rfl,
  fun X d x0 x1 s0 σ Q => q_retZ (by decide +kernel) rfl⟩
set_option maxRecDepth 50000 in
theorem gX7_is_10 : (∀ (X : tX) (d : Nat) (x0 : Nat) (x1 : Int32) (σ : rS) (Q : tQ), Ex X d mX7_is 10 [.ref x0, .int x1] [] σ Q = Ex X d mX7_is 11 [.ref x0, .int x1] [.ref x0] σ Q) ∧
  (∀ (X : tX) (d : Nat) (x0 : Nat) (x1 : Int32) (s0 : Nat) (σ : rS) (Q : tQ), Ex X d mX7_is 11 [.ref x0, .int x1] [.ref s0] σ Q = Ex X d mX7_is 12 [.ref x0, .int x1] [.ref s0, .ref s0] σ Q) ∧
  (∀ (X : tX) (d : Nat) (x0 : Nat) (x1 : Int32) (s0 : Nat) (s1 : Nat) (T : tT) (I : tI) (J : tJ) (R : tR) (Q : tQ), Ex X d mX7_is 12 [.ref x0, .int x1] [.ref s0, .ref s1] (T, I, J, R) Q = (T[s0]? = some (3, 7) ∧ Ex X d mX7_is 15 [.ref x0, .int x1] [.int (I s0 12), .ref s1] (T, I, J, R) Q)) ∧
  (∀ (X : tX) (d : Nat) (x0 : Nat) (x1 : Int32) (s0 : Int32) (s1 : Nat) (σ : rS) (Q : tQ), Ex X d mX7_is 15 [.ref x0, .int x1] [.int s0, .ref s1] σ Q = Ex X d mX7_is 16 [.ref x0, .int x1] [.int 1, .int s0, .ref s1] σ Q) ∧
  (∀ (X : tX) (d : Nat) (x0 : Nat) (x1 : Int32) (s0 : Int32) (s1 : Int32) (s2 : Nat) (σ : rS) (Q : tQ), Ex X d mX7_is 16 [.ref x0, .int x1] [.int s0, .int s1, .ref s2] σ Q = Ex X d mX7_is 17 [.ref x0, .int x1] [.int (s1 + s0), .ref s2] σ Q) ∧
  (∀ (X : tX) (d : Nat) (x0 : Nat) (x1 : Int32) (s0 : Int32) (s1 : Nat) (T : tT) (I : tI) (J : tJ) (R : tR) (Q : tQ), Ex X d mX7_is 17 [.ref x0, .int x1] [.int s0, .ref s1] (T, I, J, R) Q = (T[s1]? = some (3, 7) ∧ Ex X d mX7_is 20 [.ref x0, .int x1] [] (T, va_up I s1 (va_up (I s1) 12 s0), J, R) Q)) ∧
  (∀ (X : tX) (d : Nat) (x0 : Nat) (x1 : Int32) (σ : rS) (Q : tQ), Ex X d mX7_is 20 [.ref x0, .int x1] [] σ Q = Ex X d mX7_is 21 [.ref x0, .int x1] [.int 1] σ Q) ∧
  (∀ (X : tX) (d : Nat) (x0 : Nat) (x1 : Int32) (s0 : Int32) (σ : rS) (Q : tQ), Ex X d mX7_is 21 [.ref x0, .int x1] [.int s0] σ Q = ((s0 = 0 ∨ s0 = 1) ∧ Q (some (.int s0)) σ)) := ⟨fun X d x0 x1 σ Q => ex_P (i := .aload_n 0) (len := 1) (by decide +kernel) rfl,
  fun X d x0 x1 s0 σ Q => ex_P (i := .dup) (len := 1) (by decide +kernel) rfl,
  fun X d x0 x1 s0 s1 T I J R Q => q_getI (k := 145) (by decide +kernel) rfl rfl (by decide),
  fun X d x0 x1 s0 s1 σ Q => ex_P (i := .iconst 1) (len := 1) (by decide +kernel) rfl,
  fun X d x0 x1 s0 s1 s2 σ Q => ex_P (i := .iadd) (len := 1) (by decide +kernel) rfl,
  fun X d x0 x1 s0 s1 T I J R Q => q_putI (k := 145) (by decide +kernel) rfl rfl (by decide +kernel),
  fun X d x0 x1 σ Q => ex_P (i := .iconst 1) (len := 1) (by decide +kernel) rfl,
  fun X d x0 x1 s0 σ Q => q_retZ (by decide +kernel) rfl⟩
set_option maxRecDepth 50000 in
theorem gX7_codes_0 : (∀ (X : tX) (d : Nat) (x0 : Nat) (x1 : Int32) (σ : rS) (Q : tQ), Ex X d mX7_codes 0 [.ref x0, .int x1] [] σ Q = Ex X d mX7_codes 1 [.ref x0, .int x1] [.ref x0] σ Q) ∧
  (∀ (X : tX) (d : Nat) (x0 : Nat) (x1 : Int32) (s0 : Nat) (T : tT) (I : tI) (J : tJ) (R : tR) (Q : tQ), Ex X d mX7_codes 1 [.ref x0, .int x1] [.ref s0] (T, I, J, R) Q = (T[s0]? = some (3, 7) ∧ Ex X d mX7_codes 4 [.ref x0, .int x1] [va_rf (R s0 19)] (T, I, J, R) Q)) ∧
  (∀ (X : tX) (d : Nat) (x0 : Nat) (x1 : Int32) (s0 : Nat) (σ : rS) (Q : tQ), Ex X d mX7_codes 4 [.ref x0, .int x1] [.ref s0] σ Q = Ex X d mX7_codes 5 [.ref x0, .int x1] [.ref x0, .ref s0] σ Q) ∧
  (∀ (X : tX) (d : Nat) (x0 : Nat) (x1 : Int32) (s0 : Nat) (s1 : Nat) (σ : rS) (Q : tQ), Ex X d mX7_codes 5 [.ref x0, .int x1] [.ref s0, .ref s1] σ Q = Ex X d mX7_codes 6 [.ref x0, .int x1] [.ref s0, .ref s0, .ref s1] σ Q) ∧
  (∀ (X : tX) (d : Nat) (x0 : Nat) (x1 : Int32) (s0 : Nat) (s1 : Nat) (s2 : Nat) (T : tT) (I : tI) (J : tJ) (R : tR) (Q : tQ), Ex X d mX7_codes 6 [.ref x0, .int x1] [.ref s0, .ref s1, .ref s2] (T, I, J, R) Q = (T[s0]? = some (3, 7) ∧ Ex X d mX7_codes 9 [.ref x0, .int x1] [.int (I s0 14), .ref s1, .ref s2] (T, I, J, R) Q)) ∧
  (∀ (X : tX) (d : Nat) (x0 : Nat) (x1 : Int32) (s0 : Int32) (s1 : Nat) (s2 : Nat) (σ : rS) (Q : tQ), Ex X d mX7_codes 9 [.ref x0, .int x1] [.int s0, .ref s1, .ref s2] σ Q = Ex X d mX7_codes 10 [.ref x0, .int x1] [.int s0, .ref s1, .int s0, .ref s2] σ Q) ∧
  (∀ (X : tX) (d : Nat) (x0 : Nat) (x1 : Int32) (s0 : Int32) (s1 : Nat) (s2 : Int32) (s3 : Nat) (σ : rS) (Q : tQ), Ex X d mX7_codes 10 [.ref x0, .int x1] [.int s0, .ref s1, .int s2, .ref s3] σ Q = Ex X d mX7_codes 11 [.ref x0, .int x1] [.int 1, .int s0, .ref s1, .int s2, .ref s3] σ Q) ∧
  (∀ (X : tX) (d : Nat) (x0 : Nat) (x1 : Int32) (s0 : Int32) (s1 : Int32) (s2 : Nat) (s3 : Int32) (s4 : Nat) (σ : rS) (Q : tQ), Ex X d mX7_codes 11 [.ref x0, .int x1] [.int s0, .int s1, .ref s2, .int s3, .ref s4] σ Q = Ex X d mX7_codes 12 [.ref x0, .int x1] [.int (s1 + s0), .ref s2, .int s3, .ref s4] σ Q) ∧
  (∀ (X : tX) (d : Nat) (x0 : Nat) (x1 : Int32) (s0 : Int32) (s1 : Nat) (s2 : Int32) (s3 : Nat) (T : tT) (I : tI) (J : tJ) (R : tR) (Q : tQ), Ex X d mX7_codes 12 [.ref x0, .int x1] [.int s0, .ref s1, .int s2, .ref s3] (T, I, J, R) Q = (T[s1]? = some (3, 7) ∧ Ex X d mX7_codes 15 [.ref x0, .int x1] [.int s2, .ref s3] (T, va_up I s1 (va_up (I s1) 14 s0), J, R) Q)) ∧
  (∀ (X : tX) (d : Nat) (x0 : Nat) (x1 : Int32) (s0 : Int32) (s1 : Nat) (σ : rS) (Q : tQ), Ex X d mX7_codes 15 [.ref x0, .int x1] [.int s0, .ref s1] σ Q = Ex X d mX7_codes 16 [.ref x0, .int x1] [.int x1, .int s0, .ref s1] σ Q) ∧
  (∀ (X : tX) (d : Nat) (x0 : Nat) (x1 : Int32) (s0 : Int32) (s1 : Int32) (s2 : Nat) (T : tT) (I : tI) (J : tJ) (R : tR) (Q : tQ), Ex X d mX7_codes 16 [.ref x0, .int x1] [.int s0, .int s1, .ref s2] (T, I, J, R) Q = (rIn T s2 0 s1 ∧ Ex X d mX7_codes 17 [.ref x0, .int x1] [] (T, va_up I s2 (va_up (I s2) s1.toNatClampNeg s0), J, R) Q)) ∧
  (∀ (X : tX) (d : Nat) (x0 : Nat) (x1 : Int32) (σ : rS) (Q : tQ), Ex X d mX7_codes 17 [.ref x0, .int x1] [] σ Q = Ex X d mX7_codes 18 [.ref x0, .int x1] [.int 1] σ Q) ∧
  (∀ (X : tX) (d : Nat) (x0 : Nat) (x1 : Int32) (s0 : Int32) (σ : rS) (Q : tQ), Ex X d mX7_codes 18 [.ref x0, .int x1] [.int s0] σ Q = ((s0 = 0 ∨ s0 = 1) ∧ Q (some (.int s0)) σ)) := ⟨fun X d x0 x1 σ Q => ex_P (i := .aload_n 0) (len := 1) (by decide +kernel) rfl,
  fun X d x0 x1 s0 T I J R Q => q_getR (k := 45) (by decide +kernel) rfl rfl,
  fun X d x0 x1 s0 σ Q => ex_P (i := .aload_n 0) (len := 1) (by decide +kernel) rfl,
  fun X d x0 x1 s0 s1 σ Q => ex_P (i := .dup) (len := 1) (by decide +kernel) rfl,
  fun X d x0 x1 s0 s1 s2 T I J R Q => q_getI (k := 152) (by decide +kernel) rfl rfl (by decide),
  fun X d x0 x1 s0 s1 s2 σ Q => ex_P (i := .dup_x1) (len := 1) (by decide +kernel) rfl,
  fun X d x0 x1 s0 s1 s2 s3 σ Q => ex_P (i := .iconst 1) (len := 1) (by decide +kernel) rfl,
  fun X d x0 x1 s0 s1 s2 s3 s4 σ Q => ex_P (i := .iadd) (len := 1) (by decide +kernel) rfl,
  fun X d x0 x1 s0 s1 s2 s3 T I J R Q => q_putI (k := 152) (by decide +kernel) rfl rfl (by decide +kernel),
  fun X d x0 x1 s0 s1 σ Q => ex_P (i := .iload_n 1) (len := 1) (by decide +kernel) rfl,
  fun X d x0 x1 s0 s1 s2 T I J R Q => q_iast (by decide +kernel),
  fun X d x0 x1 σ Q => ex_P (i := .iconst 1) (len := 1) (by decide +kernel) rfl,
  fun X d x0 x1 s0 σ Q => q_retZ (by decide +kernel) rfl⟩
set_option maxRecDepth 50000 in
theorem gX7_isDigit_0 : (∀ (X : tX) (d : Nat) (x0 : Nat) (σ : rS) (Q : tQ), Ex X d mX7_isDigit 0 [.ref x0] [] σ Q = Ex X d mX7_isDigit 1 [.ref x0] [.ref x0] σ Q) ∧
  (∀ (X : tX) (d : Nat) (x0 : Nat) (s0 : Nat) (T : tT) (I : tI) (J : tJ) (R : tR) (Q : tQ), Ex X (d + 1) mX7_isDigit 1 [.ref x0] [.ref s0] (T, I, J, R) Q = (T[s0]? = some (3, 7) ∧ Ex X d mX7_sign 0 [.ref s0] [] (T, I, J, R) (fun v σ1 => Ex X (d + 1) mX7_isDigit 4 [.ref x0] (v.toList ++ []) σ1 Q))) := ⟨fun X d x0 σ Q => ex_P (i := .aload_n 0) (len := 1) (by decide +kernel) rfl,
  fun X d x0 s0 T I J R Q => q_callV (k := 148) (as := []) (st := []) (show rlk mX7_isDigit.2.2.2.2.2.2 1 = some (.invokevirtual 148, 3) from by decide +kernel) rfl rfl rfl (Nat.le_of_ble_eq_true rfl) (Nat.le_of_ble_eq_true rfl) rfl⟩
set_option maxRecDepth 50000 in
theorem gX7_isDigit_4 : (∀ (X : tX) (d : Nat) (x0 : Nat) (s0 : Int32) (σ : rS) (Q : tQ), Ex X d mX7_isDigit 4 [.ref x0] [.int s0] σ Q = Ex X d mX7_isDigit 6 [.ref x0] [.int 48, .int s0] σ Q) ∧
  (∀ (X : tX) (d : Nat) (x0 : Nat) (s0 : Int32) (s1 : Int32) (σ : rS) (Q : tQ), Ex X d mX7_isDigit 6 [.ref x0] [.int s0, .int s1] σ Q = (if s1 < s0 then Ex X d mX7_isDigit 22 [.ref x0] [] σ Q else Ex X d mX7_isDigit 9 [.ref x0] [] σ Q)) := ⟨fun X d x0 s0 σ Q => ex_P (i := .bipush 48) (len := 2) (by decide +kernel) rfl,
  fun X d x0 s0 s1 σ Q => q_icmp_lt (o := 16) (by decide +kernel) rfl⟩
set_option maxRecDepth 50000 in
theorem gX7_isDigit_9 : (∀ (X : tX) (d : Nat) (x0 : Nat) (σ : rS) (Q : tQ), Ex X d mX7_isDigit 9 [.ref x0] [] σ Q = Ex X d mX7_isDigit 10 [.ref x0] [.ref x0] σ Q) ∧
  (∀ (X : tX) (d : Nat) (x0 : Nat) (s0 : Nat) (T : tT) (I : tI) (J : tJ) (R : tR) (Q : tQ), Ex X (d + 1) mX7_isDigit 10 [.ref x0] [.ref s0] (T, I, J, R) Q = (T[s0]? = some (3, 7) ∧ Ex X d mX7_sign 0 [.ref s0] [] (T, I, J, R) (fun v σ1 => Ex X (d + 1) mX7_isDigit 13 [.ref x0] (v.toList ++ []) σ1 Q))) := ⟨fun X d x0 σ Q => ex_P (i := .aload_n 0) (len := 1) (by decide +kernel) rfl,
  fun X d x0 s0 T I J R Q => q_callV (k := 148) (as := []) (st := []) (show rlk mX7_isDigit.2.2.2.2.2.2 10 = some (.invokevirtual 148, 3) from by decide +kernel) rfl rfl rfl (Nat.le_of_ble_eq_true rfl) (Nat.le_of_ble_eq_true rfl) rfl⟩
set_option maxRecDepth 50000 in
theorem gX7_isDigit_13 : (∀ (X : tX) (d : Nat) (x0 : Nat) (s0 : Int32) (σ : rS) (Q : tQ), Ex X d mX7_isDigit 13 [.ref x0] [.int s0] σ Q = Ex X d mX7_isDigit 15 [.ref x0] [.int 57, .int s0] σ Q) ∧
  (∀ (X : tX) (d : Nat) (x0 : Nat) (s0 : Int32) (s1 : Int32) (σ : rS) (Q : tQ), Ex X d mX7_isDigit 15 [.ref x0] [.int s0, .int s1] σ Q = (if s0 < s1 then Ex X d mX7_isDigit 22 [.ref x0] [] σ Q else Ex X d mX7_isDigit 18 [.ref x0] [] σ Q)) := ⟨fun X d x0 s0 σ Q => ex_P (i := .bipush 57) (len := 2) (by decide +kernel) rfl,
  fun X d x0 s0 s1 σ Q => q_icmp_gt (o := 7) (by decide +kernel) rfl⟩
set_option maxRecDepth 50000 in
theorem gX7_isDigit_18 : (∀ (X : tX) (d : Nat) (x0 : Nat) (σ : rS) (Q : tQ), Ex X d mX7_isDigit 18 [.ref x0] [] σ Q = Ex X d mX7_isDigit 19 [.ref x0] [.int 1] σ Q) ∧
  (∀ (X : tX) (d : Nat) (x0 : Nat) (s0 : Int32) (σ : rS) (Q : tQ), Ex X d mX7_isDigit 19 [.ref x0] [.int s0] σ Q = Ex X d mX7_isDigit 23 [.ref x0] [.int s0] σ Q) := ⟨fun X d x0 σ Q => ex_P (i := .iconst 1) (len := 1) (by decide +kernel) rfl,
  fun X d x0 s0 σ Q => q_goto (o := 4) (by decide +kernel) rfl⟩
set_option maxRecDepth 50000 in
theorem gX7_isDigit_22 : (∀ (X : tX) (d : Nat) (x0 : Nat) (σ : rS) (Q : tQ), Ex X d mX7_isDigit 22 [.ref x0] [] σ Q = Ex X d mX7_isDigit 23 [.ref x0] [.int 0] σ Q) := fun X d x0 σ Q => ex_P (i := .iconst 0) (len := 1) (by decide +kernel) rfl
set_option maxRecDepth 50000 in
theorem gX7_isDigit_23 : (∀ (X : tX) (d : Nat) (x0 : Nat) (s0 : Int32) (σ : rS) (Q : tQ), Ex X d mX7_isDigit 23 [.ref x0] [.int s0] σ Q = ((s0 = 0 ∨ s0 = 1) ∧ Q (some (.int s0)) σ)) := fun X d x0 s0 σ Q => q_retZ (by decide +kernel) rfl
set_option maxRecDepth 50000 in
theorem gX7_nameOf_0 : (∀ (X : tX) (d : Nat) (x0 : Int32) (σ : rS) (Q : tQ), Ex X d mX7_nameOf 0 [.int x0] [] σ Q = Ex X d mX7_nameOf 1 [.int x0] [.int x0] σ Q) := fun X d x0 σ Q => ex_P (i := .iload_n 0) (len := 1) (by decide +kernel) rfl
set_option maxRecDepth 50000 in
theorem gX7_nameOf_84 : (∀ (X : tX) (d : Nat) (x0 : Int32) (σ : rS) (Q : tQ), Ex X d mX7_nameOf 84 [.int x0] [] σ Q = Ex X d mX7_nameOf 85 [.int x0] [.int 0] σ Q) ∧
  (∀ (X : tX) (d : Nat) (x0 : Int32) (s0 : Int32) (σ : rS) (Q : tQ), Ex X d mX7_nameOf 85 [.int x0] [.int s0] σ Q = Q (some (.int s0)) σ) := ⟨fun X d x0 σ Q => ex_P (i := .iconst 0) (len := 1) (by decide +kernel) rfl,
  fun X d x0 s0 σ Q => q_retI (by decide +kernel) rfl⟩
set_option maxRecDepth 50000 in
theorem gX7_nameOf_86 : (∀ (X : tX) (d : Nat) (x0 : Int32) (σ : rS) (Q : tQ), Ex X d mX7_nameOf 86 [.int x0] [] σ Q = Ex X d mX7_nameOf 87 [.int x0] [.int 1] σ Q) ∧
  (∀ (X : tX) (d : Nat) (x0 : Int32) (s0 : Int32) (σ : rS) (Q : tQ), Ex X d mX7_nameOf 87 [.int x0] [.int s0] σ Q = Q (some (.int s0)) σ) := ⟨fun X d x0 σ Q => ex_P (i := .iconst 1) (len := 1) (by decide +kernel) rfl,
  fun X d x0 s0 σ Q => q_retI (by decide +kernel) rfl⟩
set_option maxRecDepth 50000 in
theorem gX7_nameOf_88 : (∀ (X : tX) (d : Nat) (x0 : Int32) (σ : rS) (Q : tQ), Ex X d mX7_nameOf 88 [.int x0] [] σ Q = Ex X d mX7_nameOf 89 [.int x0] [.int 2] σ Q) ∧
  (∀ (X : tX) (d : Nat) (x0 : Int32) (s0 : Int32) (σ : rS) (Q : tQ), Ex X d mX7_nameOf 89 [.int x0] [.int s0] σ Q = Q (some (.int s0)) σ) := ⟨fun X d x0 σ Q => ex_P (i := .iconst 2) (len := 1) (by decide +kernel) rfl,
  fun X d x0 s0 σ Q => q_retI (by decide +kernel) rfl⟩
set_option maxRecDepth 50000 in
theorem gX7_nameOf_90 : (∀ (X : tX) (d : Nat) (x0 : Int32) (σ : rS) (Q : tQ), Ex X d mX7_nameOf 90 [.int x0] [] σ Q = Ex X d mX7_nameOf 91 [.int x0] [.int 3] σ Q) ∧
  (∀ (X : tX) (d : Nat) (x0 : Int32) (s0 : Int32) (σ : rS) (Q : tQ), Ex X d mX7_nameOf 91 [.int x0] [.int s0] σ Q = Q (some (.int s0)) σ) := ⟨fun X d x0 σ Q => ex_P (i := .iconst 3) (len := 1) (by decide +kernel) rfl,
  fun X d x0 s0 σ Q => q_retI (by decide +kernel) rfl⟩
set_option maxRecDepth 50000 in
theorem gX7_nameOf_92 : (∀ (X : tX) (d : Nat) (x0 : Int32) (σ : rS) (Q : tQ), Ex X d mX7_nameOf 92 [.int x0] [] σ Q = Ex X d mX7_nameOf 93 [.int x0] [.int 4] σ Q) ∧
  (∀ (X : tX) (d : Nat) (x0 : Int32) (s0 : Int32) (σ : rS) (Q : tQ), Ex X d mX7_nameOf 93 [.int x0] [.int s0] σ Q = Q (some (.int s0)) σ) := ⟨fun X d x0 σ Q => ex_P (i := .iconst 4) (len := 1) (by decide +kernel) rfl,
  fun X d x0 s0 σ Q => q_retI (by decide +kernel) rfl⟩
set_option maxRecDepth 50000 in
theorem gX7_nameOf_94 : (∀ (X : tX) (d : Nat) (x0 : Int32) (σ : rS) (Q : tQ), Ex X d mX7_nameOf 94 [.int x0] [] σ Q = Ex X d mX7_nameOf 95 [.int x0] [.int 5] σ Q) ∧
  (∀ (X : tX) (d : Nat) (x0 : Int32) (s0 : Int32) (σ : rS) (Q : tQ), Ex X d mX7_nameOf 95 [.int x0] [.int s0] σ Q = Q (some (.int s0)) σ) := ⟨fun X d x0 σ Q => ex_P (i := .iconst 5) (len := 1) (by decide +kernel) rfl,
  fun X d x0 s0 σ Q => q_retI (by decide +kernel) rfl⟩
set_option maxRecDepth 50000 in
theorem gX7_nameOf_96 : (∀ (X : tX) (d : Nat) (x0 : Int32) (σ : rS) (Q : tQ), Ex X d mX7_nameOf 96 [.int x0] [] σ Q = Ex X d mX7_nameOf 97 [.int x0] [.int (-1)] σ Q) ∧
  (∀ (X : tX) (d : Nat) (x0 : Int32) (s0 : Int32) (σ : rS) (Q : tQ), Ex X d mX7_nameOf 97 [.int x0] [.int s0] σ Q = Q (some (.int s0)) σ) := ⟨fun X d x0 σ Q => ex_P (i := .iconst (-1)) (len := 1) (by decide +kernel) rfl,
  fun X d x0 s0 σ Q => q_retI (by decide +kernel) rfl⟩
set_option maxRecDepth 50000 in
theorem gX7_isO_0 : (∀ (X : tX) (d : Nat) (x0 : Nat) (σ : rS) (Q : tQ), Ex X d mX7_isO 0 [.ref x0, rU, rU] [] σ Q = Ex X d mX7_isO 1 [.ref x0, rU, rU] [.ref x0] σ Q) ∧
  (∀ (X : tX) (d : Nat) (x0 : Nat) (s0 : Nat) (T : tT) (I : tI) (J : tJ) (R : tR) (Q : tQ), Ex X (d + 1) mX7_isO 1 [.ref x0, rU, rU] [.ref s0] (T, I, J, R) Q = (T[s0]? = some (3, 7) ∧ Ex X d mX7_isDigit 0 [.ref s0] [] (T, I, J, R) (fun v σ1 => Ex X (d + 1) mX7_isO 4 [.ref x0, rU, rU] (v.toList ++ []) σ1 Q))) := ⟨fun X d x0 σ Q => ex_P (i := .aload_n 0) (len := 1) (by decide +kernel) rfl,
  fun X d x0 s0 T I J R Q => q_callV (k := 155) (as := []) (st := []) (show rlk mX7_isO.2.2.2.2.2.2 1 = some (.invokevirtual 155, 3) from by decide +kernel) rfl rfl rfl (Nat.le_of_ble_eq_true rfl) (Nat.le_of_ble_eq_true rfl) rfl⟩
set_option maxRecDepth 50000 in
theorem gX7_isO_4 : (∀ (X : tX) (d : Nat) (x0 : Nat) (s0 : Int32) (σ : rS) (Q : tQ), Ex X d mX7_isO 4 [.ref x0, rU, rU] [.int s0] σ Q = (if s0 = 0 then Ex X d mX7_isO 66 [.ref x0, rU, rU] [] σ Q else Ex X d mX7_isO 7 [.ref x0, rU, rU] [] σ Q)) := fun X d x0 s0 σ Q => q_if_eq (o := 62) (by decide +kernel) rfl
set_option maxRecDepth 50000 in
theorem gX7_isO_7 : (∀ (X : tX) (d : Nat) (x0 : Nat) (σ : rS) (Q : tQ), Ex X d mX7_isO 7 [.ref x0, rU, rU] [] σ Q = Ex X d mX7_isO 8 [.ref x0, rU, rU] [.int 0] σ Q) ∧
  (∀ (X : tX) (d : Nat) (x0 : Nat) (s0 : Int32) (σ : rS) (Q : tQ), Ex X d mX7_isO 8 [.ref x0, rU, rU] [.int s0] σ Q = Ex X d mX7_isO 9 [.ref x0, .int s0, rU] [] σ Q) ∧
  (∀ (X : tX) (d : Nat) (x0 : Nat) (x1 : Int32) (σ : rS) (Q : tQ), Ex X d mX7_isO 9 [.ref x0, .int x1, rU] [] σ Q = Ex X d mX7_isO 10 [.ref x0, .int x1, rU] [.int 0] σ Q) ∧
  (∀ (X : tX) (d : Nat) (x0 : Nat) (x1 : Int32) (s0 : Int32) (σ : rS) (Q : tQ), Ex X d mX7_isO 10 [.ref x0, .int x1, rU] [.int s0] σ Q = Ex X d mX7_isO 11 [.ref x0, .int x1, .int s0] [] σ Q) := ⟨fun X d x0 σ Q => ex_P (i := .iconst 0) (len := 1) (by decide +kernel) rfl,
  fun X d x0 s0 σ Q => ex_P (i := .istore_n 1) (len := 1) (by decide +kernel) rfl,
  fun X d x0 x1 σ Q => ex_P (i := .iconst 0) (len := 1) (by decide +kernel) rfl,
  fun X d x0 x1 s0 σ Q => ex_P (i := .istore_n 2) (len := 1) (by decide +kernel) rfl⟩
set_option maxRecDepth 50000 in
theorem gX7_isO_11 : (∀ (X : tX) (d : Nat) (x0 : Nat) (x1 : Int32) (x2 : Int32) (σ : rS) (Q : tQ), Ex X d mX7_isO 11 [.ref x0, .int x1, .int x2] [] σ Q = Ex X d mX7_isO 12 [.ref x0, .int x1, .int x2] [.int x2] σ Q) ∧
  (∀ (X : tX) (d : Nat) (x0 : Nat) (x1 : Int32) (x2 : Int32) (s0 : Int32) (σ : rS) (Q : tQ), Ex X d mX7_isO 12 [.ref x0, .int x1, .int x2] [.int s0] σ Q = Ex X d mX7_isO 13 [.ref x0, .int x1, .int x2] [.int 4, .int s0] σ Q) ∧
  (∀ (X : tX) (d : Nat) (x0 : Nat) (x1 : Int32) (x2 : Int32) (s0 : Int32) (s1 : Int32) (σ : rS) (Q : tQ), Ex X d mX7_isO 13 [.ref x0, .int x1, .int x2] [.int s0, .int s1] σ Q = (if s0 ≤ s1 then Ex X d mX7_isO 57 [.ref x0, .int x1, .int x2] [] σ Q else Ex X d mX7_isO 16 [.ref x0, .int x1, .int x2] [] σ Q)) := ⟨fun X d x0 x1 x2 σ Q => ex_P (i := .iload_n 2) (len := 1) (by decide +kernel) rfl,
  fun X d x0 x1 x2 s0 σ Q => ex_P (i := .iconst 4) (len := 1) (by decide +kernel) rfl,
  fun X d x0 x1 x2 s0 s1 σ Q => q_icmp_ge (o := 44) (by decide +kernel) rfl⟩
set_option maxRecDepth 50000 in
theorem gX7_isO_16 : (∀ (X : tX) (d : Nat) (x0 : Nat) (x1 : Int32) (x2 : Int32) (σ : rS) (Q : tQ), Ex X d mX7_isO 16 [.ref x0, .int x1, .int x2] [] σ Q = Ex X d mX7_isO 17 [.ref x0, .int x1, .int x2] [.ref x0] σ Q) ∧
  (∀ (X : tX) (d : Nat) (x0 : Nat) (x1 : Int32) (x2 : Int32) (s0 : Nat) (T : tT) (I : tI) (J : tJ) (R : tR) (Q : tQ), Ex X (d + 1) mX7_isO 17 [.ref x0, .int x1, .int x2] [.ref s0] (T, I, J, R) Q = (T[s0]? = some (3, 7) ∧ Ex X d mX7_isDigit 0 [.ref s0] [] (T, I, J, R) (fun v σ1 => Ex X (d + 1) mX7_isO 20 [.ref x0, .int x1, .int x2] (v.toList ++ []) σ1 Q))) := ⟨fun X d x0 x1 x2 σ Q => ex_P (i := .aload_n 0) (len := 1) (by decide +kernel) rfl,
  fun X d x0 x1 x2 s0 T I J R Q => q_callV (k := 155) (as := []) (st := []) (show rlk mX7_isO.2.2.2.2.2.2 17 = some (.invokevirtual 155, 3) from by decide +kernel) rfl rfl rfl (Nat.le_of_ble_eq_true rfl) (Nat.le_of_ble_eq_true rfl) rfl⟩
set_option maxRecDepth 50000 in
theorem gX7_isO_20 : (∀ (X : tX) (d : Nat) (x0 : Nat) (x1 : Int32) (x2 : Int32) (s0 : Int32) (σ : rS) (Q : tQ), Ex X d mX7_isO 20 [.ref x0, .int x1, .int x2] [.int s0] σ Q = (if s0 = 0 then Ex X d mX7_isO 57 [.ref x0, .int x1, .int x2] [] σ Q else Ex X d mX7_isO 23 [.ref x0, .int x1, .int x2] [] σ Q)) := fun X d x0 x1 x2 s0 σ Q => q_if_eq (o := 37) (by decide +kernel) rfl
set_option maxRecDepth 50000 in
theorem gX7_isO_23 : (∀ (X : tX) (d : Nat) (x0 : Nat) (x1 : Int32) (x2 : Int32) (σ : rS) (Q : tQ), Ex X d mX7_isO 23 [.ref x0, .int x1, .int x2] [] σ Q = Ex X d mX7_isO 25 [.ref x0, .int x1, .int x2] [.int 10] σ Q) ∧
  (∀ (X : tX) (d : Nat) (x0 : Nat) (x1 : Int32) (x2 : Int32) (s0 : Int32) (σ : rS) (Q : tQ), Ex X d mX7_isO 25 [.ref x0, .int x1, .int x2] [.int s0] σ Q = Ex X d mX7_isO 26 [.ref x0, .int x1, .int x2] [.int x1, .int s0] σ Q) ∧
  (∀ (X : tX) (d : Nat) (x0 : Nat) (x1 : Int32) (x2 : Int32) (s0 : Int32) (s1 : Int32) (σ : rS) (Q : tQ), Ex X d mX7_isO 26 [.ref x0, .int x1, .int x2] [.int s0, .int s1] σ Q = Ex X d mX7_isO 27 [.ref x0, .int x1, .int x2] [.int (s1 * s0)] σ Q) ∧
  (∀ (X : tX) (d : Nat) (x0 : Nat) (x1 : Int32) (x2 : Int32) (s0 : Int32) (σ : rS) (Q : tQ), Ex X d mX7_isO 27 [.ref x0, .int x1, .int x2] [.int s0] σ Q = Ex X d mX7_isO 28 [.ref x0, .int x1, .int x2] [.ref x0, .int s0] σ Q) ∧
  (∀ (X : tX) (d : Nat) (x0 : Nat) (x1 : Int32) (x2 : Int32) (s0 : Nat) (s1 : Int32) (T : tT) (I : tI) (J : tJ) (R : tR) (Q : tQ), Ex X d mX7_isO 28 [.ref x0, .int x1, .int x2] [.ref s0, .int s1] (T, I, J, R) Q = (T[s0]? = some (3, 7) ∧ Ex X d mX7_isO 31 [.ref x0, .int x1, .int x2] [va_rf (R s0 5), .int s1] (T, I, J, R) Q)) ∧
  (∀ (X : tX) (d : Nat) (x0 : Nat) (x1 : Int32) (x2 : Int32) (s0 : Nat) (s1 : Int32) (σ : rS) (Q : tQ), Ex X d mX7_isO 31 [.ref x0, .int x1, .int x2] [.ref s0, .int s1] σ Q = Ex X d mX7_isO 32 [.ref x0, .int x1, .int x2] [.ref x0, .ref s0, .int s1] σ Q) ∧
  (∀ (X : tX) (d : Nat) (x0 : Nat) (x1 : Int32) (x2 : Int32) (s0 : Nat) (s1 : Nat) (s2 : Int32) (T : tT) (I : tI) (J : tJ) (R : tR) (Q : tQ), Ex X d mX7_isO 32 [.ref x0, .int x1, .int x2] [.ref s0, .ref s1, .int s2] (T, I, J, R) Q = (T[s0]? = some (3, 7) ∧ Ex X d mX7_isO 35 [.ref x0, .int x1, .int x2] [.int (I s0 12), .ref s1, .int s2] (T, I, J, R) Q)) ∧
  (∀ (X : tX) (d : Nat) (x0 : Nat) (x1 : Int32) (x2 : Int32) (s0 : Int32) (s1 : Nat) (s2 : Int32) (T : tT) (I : tI) (J : tJ) (R : tR) (Q : tQ), Ex X d mX7_isO 35 [.ref x0, .int x1, .int x2] [.int s0, .ref s1, .int s2] (T, I, J, R) Q = (rIn T s1 0 s0 ∧ Ex X d mX7_isO 36 [.ref x0, .int x1, .int x2] [.int (I s1 s0.toNatClampNeg), .int s2] (T, I, J, R) Q)) ∧
  (∀ (X : tX) (d : Nat) (x0 : Nat) (x1 : Int32) (x2 : Int32) (s0 : Int32) (s1 : Int32) (σ : rS) (Q : tQ), Ex X d mX7_isO 36 [.ref x0, .int x1, .int x2] [.int s0, .int s1] σ Q = Ex X d mX7_isO 37 [.ref x0, .int x1, .int x2] [.int (s1 + s0)] σ Q) ∧
  (∀ (X : tX) (d : Nat) (x0 : Nat) (x1 : Int32) (x2 : Int32) (s0 : Int32) (σ : rS) (Q : tQ), Ex X d mX7_isO 37 [.ref x0, .int x1, .int x2] [.int s0] σ Q = Ex X d mX7_isO 39 [.ref x0, .int x1, .int x2] [.int 48, .int s0] σ Q) ∧
  (∀ (X : tX) (d : Nat) (x0 : Nat) (x1 : Int32) (x2 : Int32) (s0 : Int32) (s1 : Int32) (σ : rS) (Q : tQ), Ex X d mX7_isO 39 [.ref x0, .int x1, .int x2] [.int s0, .int s1] σ Q = Ex X d mX7_isO 40 [.ref x0, .int x1, .int x2] [.int (s1 - s0)] σ Q) ∧
  (∀ (X : tX) (d : Nat) (x0 : Nat) (x1 : Int32) (x2 : Int32) (s0 : Int32) (σ : rS) (Q : tQ), Ex X d mX7_isO 40 [.ref x0, .int x1, .int x2] [.int s0] σ Q = Ex X d mX7_isO 41 [.ref x0, .int s0, .int x2] [] σ Q) ∧
  (∀ (X : tX) (d : Nat) (x0 : Nat) (x1 : Int32) (x2 : Int32) (σ : rS) (Q : tQ), Ex X d mX7_isO 41 [.ref x0, .int x1, .int x2] [] σ Q = Ex X d mX7_isO 42 [.ref x0, .int x1, .int x2] [.ref x0] σ Q) ∧
  (∀ (X : tX) (d : Nat) (x0 : Nat) (x1 : Int32) (x2 : Int32) (s0 : Nat) (σ : rS) (Q : tQ), Ex X d mX7_isO 42 [.ref x0, .int x1, .int x2] [.ref s0] σ Q = Ex X d mX7_isO 43 [.ref x0, .int x1, .int x2] [.ref s0, .ref s0] σ Q) ∧
  (∀ (X : tX) (d : Nat) (x0 : Nat) (x1 : Int32) (x2 : Int32) (s0 : Nat) (s1 : Nat) (T : tT) (I : tI) (J : tJ) (R : tR) (Q : tQ), Ex X d mX7_isO 43 [.ref x0, .int x1, .int x2] [.ref s0, .ref s1] (T, I, J, R) Q = (T[s0]? = some (3, 7) ∧ Ex X d mX7_isO 46 [.ref x0, .int x1, .int x2] [.int (I s0 12), .ref s1] (T, I, J, R) Q)) ∧
  (∀ (X : tX) (d : Nat) (x0 : Nat) (x1 : Int32) (x2 : Int32) (s0 : Int32) (s1 : Nat) (σ : rS) (Q : tQ), Ex X d mX7_isO 46 [.ref x0, .int x1, .int x2] [.int s0, .ref s1] σ Q = Ex X d mX7_isO 47 [.ref x0, .int x1, .int x2] [.int 1, .int s0, .ref s1] σ Q) ∧
  (∀ (X : tX) (d : Nat) (x0 : Nat) (x1 : Int32) (x2 : Int32) (s0 : Int32) (s1 : Int32) (s2 : Nat) (σ : rS) (Q : tQ), Ex X d mX7_isO 47 [.ref x0, .int x1, .int x2] [.int s0, .int s1, .ref s2] σ Q = Ex X d mX7_isO 48 [.ref x0, .int x1, .int x2] [.int (s1 + s0), .ref s2] σ Q) ∧
  (∀ (X : tX) (d : Nat) (x0 : Nat) (x1 : Int32) (x2 : Int32) (s0 : Int32) (s1 : Nat) (T : tT) (I : tI) (J : tJ) (R : tR) (Q : tQ), Ex X d mX7_isO 48 [.ref x0, .int x1, .int x2] [.int s0, .ref s1] (T, I, J, R) Q = (T[s1]? = some (3, 7) ∧ Ex X d mX7_isO 51 [.ref x0, .int x1, .int x2] [] (T, va_up I s1 (va_up (I s1) 12 s0), J, R) Q)) ∧
  (∀ (X : tX) (d : Nat) (x0 : Nat) (x1 : Int32) (x2 : Int32) (σ : rS) (Q : tQ), Ex X d mX7_isO 51 [.ref x0, .int x1, .int x2] [] σ Q = Ex X d mX7_isO 54 [.ref x0, .int x1, .int (x2 + 1)] [] σ Q) ∧
  (∀ (X : tX) (d : Nat) (x0 : Nat) (x1 : Int32) (x2 : Int32) (σ : rS) (Q : tQ), Ex X d mX7_isO 54 [.ref x0, .int x1, .int x2] [] σ Q = Ex X d mX7_isO 11 [.ref x0, .int x1, .int x2] [] σ Q) := ⟨fun X d x0 x1 x2 σ Q => ex_P (i := .bipush 10) (len := 2) (by decide +kernel) rfl,
  fun X d x0 x1 x2 s0 σ Q => ex_P (i := .iload_n 1) (len := 1) (by decide +kernel) rfl,
  fun X d x0 x1 x2 s0 s1 σ Q => ex_P (i := .imul) (len := 1) (by decide +kernel) rfl,
  fun X d x0 x1 x2 s0 σ Q => ex_P (i := .aload_n 0) (len := 1) (by decide +kernel) rfl,
  fun X d x0 x1 x2 s0 s1 T I J R Q => q_getR (k := 21) (by decide +kernel) rfl rfl,
  fun X d x0 x1 x2 s0 s1 σ Q => ex_P (i := .aload_n 0) (len := 1) (by decide +kernel) rfl,
  fun X d x0 x1 x2 s0 s1 s2 T I J R Q => q_getI (k := 145) (by decide +kernel) rfl rfl (by decide),
  fun X d x0 x1 x2 s0 s1 s2 T I J R Q => q_iald (by decide +kernel),
  fun X d x0 x1 x2 s0 s1 σ Q => ex_P (i := .iadd) (len := 1) (by decide +kernel) rfl,
  fun X d x0 x1 x2 s0 σ Q => ex_P (i := .bipush 48) (len := 2) (by decide +kernel) rfl,
  fun X d x0 x1 x2 s0 s1 σ Q => ex_P (i := .isub) (len := 1) (by decide +kernel) rfl,
  fun X d x0 x1 x2 s0 σ Q => ex_P (i := .istore_n 1) (len := 1) (by decide +kernel) rfl,
  fun X d x0 x1 x2 σ Q => ex_P (i := .aload_n 0) (len := 1) (by decide +kernel) rfl,
  fun X d x0 x1 x2 s0 σ Q => ex_P (i := .dup) (len := 1) (by decide +kernel) rfl,
  fun X d x0 x1 x2 s0 s1 T I J R Q => q_getI (k := 145) (by decide +kernel) rfl rfl (by decide),
  fun X d x0 x1 x2 s0 s1 σ Q => ex_P (i := .iconst 1) (len := 1) (by decide +kernel) rfl,
  fun X d x0 x1 x2 s0 s1 s2 σ Q => ex_P (i := .iadd) (len := 1) (by decide +kernel) rfl,
  fun X d x0 x1 x2 s0 s1 T I J R Q => q_putI (k := 145) (by decide +kernel) rfl rfl (by decide +kernel),
  fun X d x0 x1 x2 σ Q => ex_P (i := .iinc 2 1) (len := 3) (by decide +kernel) rfl,
  fun X d x0 x1 x2 σ Q => q_goto (o := (-43)) (by decide +kernel) rfl⟩
set_option maxRecDepth 50000 in
theorem gX7_isO_57 : (∀ (X : tX) (d : Nat) (x0 : Nat) (x1 : Int32) (x2 : Int32) (σ : rS) (Q : tQ), Ex X d mX7_isO 57 [.ref x0, .int x1, .int x2] [] σ Q = Ex X d mX7_isO 58 [.ref x0, .int x1, .int x2] [.ref x0] σ Q) ∧
  (∀ (X : tX) (d : Nat) (x0 : Nat) (x1 : Int32) (x2 : Int32) (s0 : Nat) (σ : rS) (Q : tQ), Ex X d mX7_isO 58 [.ref x0, .int x1, .int x2] [.ref s0] σ Q = Ex X d mX7_isO 60 [.ref x0, .int x1, .int x2] [.int 18, .ref s0] σ Q) ∧
  (∀ (X : tX) (d : Nat) (x0 : Nat) (x1 : Int32) (x2 : Int32) (s0 : Int32) (s1 : Nat) (σ : rS) (Q : tQ), Ex X d mX7_isO 60 [.ref x0, .int x1, .int x2] [.int s0, .ref s1] σ Q = Ex X d mX7_isO 61 [.ref x0, .int x1, .int x2] [.int x1, .int s0, .ref s1] σ Q) ∧
  (∀ (X : tX) (d : Nat) (x0 : Nat) (x1 : Int32) (x2 : Int32) (s0 : Int32) (s1 : Int32) (s2 : Nat) (σ : rS) (Q : tQ), Ex X d mX7_isO 61 [.ref x0, .int x1, .int x2] [.int s0, .int s1, .ref s2] σ Q = Ex X d mX7_isO 62 [.ref x0, .int x1, .int x2] [.int (s1 + s0), .ref s2] σ Q) ∧
  (∀ (X : tX) (d : Nat) (x0 : Nat) (x1 : Int32) (x2 : Int32) (s0 : Int32) (s1 : Nat) (T : tT) (I : tI) (J : tJ) (R : tR) (Q : tQ), Ex X (d + 1) mX7_isO 62 [.ref x0, .int x1, .int x2] [.int s0, .ref s1] (T, I, J, R) Q = (T[s1]? = some (3, 7) ∧ Ex X d mX7_codes 0 [.ref s1, .int s0] [] (T, I, J, R) (fun v σ1 => Ex X (d + 1) mX7_isO 65 [.ref x0, .int x1, .int x2] (v.toList ++ []) σ1 Q))) := ⟨fun X d x0 x1 x2 σ Q => ex_P (i := .aload_n 0) (len := 1) (by decide +kernel) rfl,
  fun X d x0 x1 x2 s0 σ Q => ex_P (i := .bipush 18) (len := 2) (by decide +kernel) rfl,
  fun X d x0 x1 x2 s0 s1 σ Q => ex_P (i := .iload_n 1) (len := 1) (by decide +kernel) rfl,
  fun X d x0 x1 x2 s0 s1 s2 σ Q => ex_P (i := .iadd) (len := 1) (by decide +kernel) rfl,
  fun X d x0 x1 x2 s0 s1 T I J R Q => q_callV (k := 159) (as := [.int s0]) (st := []) (show rlk mX7_isO.2.2.2.2.2.2 62 = some (.invokevirtual 159, 3) from by decide +kernel) rfl rfl rfl (Nat.le_of_ble_eq_true rfl) (Nat.le_of_ble_eq_true rfl) rfl⟩
set_option maxRecDepth 50000 in
theorem gX7_isO_65 : (∀ (X : tX) (d : Nat) (x0 : Nat) (x1 : Int32) (x2 : Int32) (s0 : Int32) (σ : rS) (Q : tQ), Ex X d mX7_isO 65 [.ref x0, .int x1, .int x2] [.int s0] σ Q = ((s0 = 0 ∨ s0 = 1) ∧ Q (some (.int s0)) σ)) := fun X d x0 x1 x2 s0 σ Q => q_retZ (by decide +kernel) rfl
set_option maxRecDepth 50000 in
theorem gX7_isO_66 : (∀ (X : tX) (d : Nat) (x0 : Nat) (σ : rS) (Q : tQ), Ex X d mX7_isO 66 [.ref x0, rU, rU] [] σ Q = Ex X d mX7_isO 67 [.ref x0, rU, rU] [.ref x0] σ Q) ∧
  (∀ (X : tX) (d : Nat) (x0 : Nat) (s0 : Nat) (T : tT) (I : tI) (J : tJ) (R : tR) (Q : tQ), Ex X (d + 1) mX7_isO 67 [.ref x0, rU, rU] [.ref s0] (T, I, J, R) Q = (T[s0]? = some (3, 7) ∧ Ex X d mX7_sign 0 [.ref s0] [] (T, I, J, R) (fun v σ1 => Ex X (d + 1) mX7_isO 70 [.ref x0, rU, rU] (v.toList ++ []) σ1 Q))) := ⟨fun X d x0 σ Q => ex_P (i := .aload_n 0) (len := 1) (by decide +kernel) rfl,
  fun X d x0 s0 T I J R Q => q_callV (k := 148) (as := []) (st := []) (show rlk mX7_isO.2.2.2.2.2.2 67 = some (.invokevirtual 148, 3) from by decide +kernel) rfl rfl rfl (Nat.le_of_ble_eq_true rfl) (Nat.le_of_ble_eq_true rfl) rfl⟩
set_option maxRecDepth 50000 in
theorem gX7_isO_70 : (∀ (X : tX) (d : Nat) (x0 : Nat) (s0 : Int32) (σ : rS) (Q : tQ), Ex X (d + 1) mX7_isO 70 [.ref x0, rU, rU] [.int s0] σ Q = Ex X d mX7_nameOf 0 [.int s0] [] σ (fun v σ1 => Ex X (d + 1) mX7_isO 73 [.ref x0, rU, rU] (v.toList ++ []) σ1 Q)) := fun X d x0 s0 σ Q => q_callS (k := 162) (as := [.int s0]) (st := []) (show rlk mX7_isO.2.2.2.2.2.2 70 = some (.invokestatic 162, 3) from by decide +kernel) rfl (Or.inl rfl) rfl rfl rfl rfl rfl (Nat.le_of_ble_eq_true rfl) (Nat.le_of_ble_eq_true rfl) rfl
set_option maxRecDepth 50000 in
theorem gX7_isO_73 : (∀ (X : tX) (d : Nat) (x0 : Nat) (s0 : Int32) (σ : rS) (Q : tQ), Ex X d mX7_isO 73 [.ref x0, rU, rU] [.int s0] σ Q = Ex X d mX7_isO 74 [.ref x0, .int s0, rU] [] σ Q) ∧
  (∀ (X : tX) (d : Nat) (x0 : Nat) (x1 : Int32) (σ : rS) (Q : tQ), Ex X d mX7_isO 74 [.ref x0, .int x1, rU] [] σ Q = Ex X d mX7_isO 75 [.ref x0, .int x1, rU] [.int x1] σ Q) ∧
  (∀ (X : tX) (d : Nat) (x0 : Nat) (x1 : Int32) (s0 : Int32) (σ : rS) (Q : tQ), Ex X d mX7_isO 75 [.ref x0, .int x1, rU] [.int s0] σ Q = (if s0 < 0 then Ex X d mX7_isO 94 [.ref x0, .int x1, rU] [] σ Q else Ex X d mX7_isO 78 [.ref x0, .int x1, rU] [] σ Q)) := ⟨fun X d x0 s0 σ Q => ex_P (i := .istore_n 1) (len := 1) (by decide +kernel) rfl,
  fun X d x0 x1 σ Q => ex_P (i := .iload_n 1) (len := 1) (by decide +kernel) rfl,
  fun X d x0 x1 s0 σ Q => q_if_lt (o := 19) (by decide +kernel) rfl⟩
set_option maxRecDepth 50000 in
theorem gX7_isO_78 : (∀ (X : tX) (d : Nat) (x0 : Nat) (x1 : Int32) (σ : rS) (Q : tQ), Ex X d mX7_isO 78 [.ref x0, .int x1, rU] [] σ Q = Ex X d mX7_isO 79 [.ref x0, .int x1, rU] [.ref x0] σ Q) ∧
  (∀ (X : tX) (d : Nat) (x0 : Nat) (x1 : Int32) (s0 : Nat) (σ : rS) (Q : tQ), Ex X d mX7_isO 79 [.ref x0, .int x1, rU] [.ref s0] σ Q = Ex X d mX7_isO 80 [.ref x0, .int x1, rU] [.ref s0, .ref s0] σ Q) ∧
  (∀ (X : tX) (d : Nat) (x0 : Nat) (x1 : Int32) (s0 : Nat) (s1 : Nat) (T : tT) (I : tI) (J : tJ) (R : tR) (Q : tQ), Ex X d mX7_isO 80 [.ref x0, .int x1, rU] [.ref s0, .ref s1] (T, I, J, R) Q = (T[s0]? = some (3, 7) ∧ Ex X d mX7_isO 83 [.ref x0, .int x1, rU] [.int (I s0 12), .ref s1] (T, I, J, R) Q)) ∧
  (∀ (X : tX) (d : Nat) (x0 : Nat) (x1 : Int32) (s0 : Int32) (s1 : Nat) (σ : rS) (Q : tQ), Ex X d mX7_isO 83 [.ref x0, .int x1, rU] [.int s0, .ref s1] σ Q = Ex X d mX7_isO 84 [.ref x0, .int x1, rU] [.int 1, .int s0, .ref s1] σ Q) ∧
  (∀ (X : tX) (d : Nat) (x0 : Nat) (x1 : Int32) (s0 : Int32) (s1 : Int32) (s2 : Nat) (σ : rS) (Q : tQ), Ex X d mX7_isO 84 [.ref x0, .int x1, rU] [.int s0, .int s1, .ref s2] σ Q = Ex X d mX7_isO 85 [.ref x0, .int x1, rU] [.int (s1 + s0), .ref s2] σ Q) ∧
  (∀ (X : tX) (d : Nat) (x0 : Nat) (x1 : Int32) (s0 : Int32) (s1 : Nat) (T : tT) (I : tI) (J : tJ) (R : tR) (Q : tQ), Ex X d mX7_isO 85 [.ref x0, .int x1, rU] [.int s0, .ref s1] (T, I, J, R) Q = (T[s1]? = some (3, 7) ∧ Ex X d mX7_isO 88 [.ref x0, .int x1, rU] [] (T, va_up I s1 (va_up (I s1) 12 s0), J, R) Q)) ∧
  (∀ (X : tX) (d : Nat) (x0 : Nat) (x1 : Int32) (σ : rS) (Q : tQ), Ex X d mX7_isO 88 [.ref x0, .int x1, rU] [] σ Q = Ex X d mX7_isO 89 [.ref x0, .int x1, rU] [.ref x0] σ Q) ∧
  (∀ (X : tX) (d : Nat) (x0 : Nat) (x1 : Int32) (s0 : Nat) (σ : rS) (Q : tQ), Ex X d mX7_isO 89 [.ref x0, .int x1, rU] [.ref s0] σ Q = Ex X d mX7_isO 90 [.ref x0, .int x1, rU] [.int x1, .ref s0] σ Q) ∧
  (∀ (X : tX) (d : Nat) (x0 : Nat) (x1 : Int32) (s0 : Int32) (s1 : Nat) (T : tT) (I : tI) (J : tJ) (R : tR) (Q : tQ), Ex X (d + 1) mX7_isO 90 [.ref x0, .int x1, rU] [.int s0, .ref s1] (T, I, J, R) Q = (T[s1]? = some (3, 7) ∧ Ex X d mX7_codes 0 [.ref s1, .int s0] [] (T, I, J, R) (fun v σ1 => Ex X (d + 1) mX7_isO 93 [.ref x0, .int x1, rU] (v.toList ++ []) σ1 Q))) := ⟨fun X d x0 x1 σ Q => ex_P (i := .aload_n 0) (len := 1) (by decide +kernel) rfl,
  fun X d x0 x1 s0 σ Q => ex_P (i := .dup) (len := 1) (by decide +kernel) rfl,
  fun X d x0 x1 s0 s1 T I J R Q => q_getI (k := 145) (by decide +kernel) rfl rfl (by decide),
  fun X d x0 x1 s0 s1 σ Q => ex_P (i := .iconst 1) (len := 1) (by decide +kernel) rfl,
  fun X d x0 x1 s0 s1 s2 σ Q => ex_P (i := .iadd) (len := 1) (by decide +kernel) rfl,
  fun X d x0 x1 s0 s1 T I J R Q => q_putI (k := 145) (by decide +kernel) rfl rfl (by decide +kernel),
  fun X d x0 x1 σ Q => ex_P (i := .aload_n 0) (len := 1) (by decide +kernel) rfl,
  fun X d x0 x1 s0 σ Q => ex_P (i := .iload_n 1) (len := 1) (by decide +kernel) rfl,
  fun X d x0 x1 s0 s1 T I J R Q => q_callV (k := 159) (as := [.int s0]) (st := []) (show rlk mX7_isO.2.2.2.2.2.2 90 = some (.invokevirtual 159, 3) from by decide +kernel) rfl rfl rfl (Nat.le_of_ble_eq_true rfl) (Nat.le_of_ble_eq_true rfl) rfl⟩
set_option maxRecDepth 50000 in
theorem gX7_isO_93 : (∀ (X : tX) (d : Nat) (x0 : Nat) (x1 : Int32) (s0 : Int32) (σ : rS) (Q : tQ), Ex X d mX7_isO 93 [.ref x0, .int x1, rU] [.int s0] σ Q = ((s0 = 0 ∨ s0 = 1) ∧ Q (some (.int s0)) σ)) := fun X d x0 x1 s0 σ Q => q_retZ (by decide +kernel) rfl
set_option maxRecDepth 50000 in
theorem gX7_isO_94 : (∀ (X : tX) (d : Nat) (x0 : Nat) (x1 : Int32) (σ : rS) (Q : tQ), Ex X d mX7_isO 94 [.ref x0, .int x1, rU] [] σ Q = Ex X d mX7_isO 95 [.ref x0, .int x1, rU] [.ref x0] σ Q) ∧
  (∀ (X : tX) (d : Nat) (x0 : Nat) (x1 : Int32) (s0 : Nat) (T : tT) (I : tI) (J : tJ) (R : tR) (Q : tQ), Ex X d mX7_isO 95 [.ref x0, .int x1, rU] [.ref s0] (T, I, J, R) Q = (T[s0]? = some (3, 7) ∧ Ex X d mX7_isO 98 [.ref x0, .int x1, rU] [.int (I s0 13)] (T, I, J, R) Q)) ∧
  (∀ (X : tX) (d : Nat) (x0 : Nat) (x1 : Int32) (s0 : Int32) (σ : rS) (Q : tQ), Ex X d mX7_isO 98 [.ref x0, .int x1, rU] [.int s0] σ Q = Ex X d mX7_isO 100 [.ref x0, .int x1, rU] [.int 6, .int s0] σ Q) ∧
  (∀ (X : tX) (d : Nat) (x0 : Nat) (x1 : Int32) (s0 : Int32) (s1 : Int32) (σ : rS) (Q : tQ), Ex X d mX7_isO 100 [.ref x0, .int x1, rU] [.int s0, .int s1] σ Q = (if s1 = s0 then Ex X d mX7_isO 103 [.ref x0, .int x1, rU] [] σ Q else Ex X d mX7_isO 105 [.ref x0, .int x1, rU] [] σ Q)) := ⟨fun X d x0 x1 σ Q => ex_P (i := .aload_n 0) (len := 1) (by decide +kernel) rfl,
  fun X d x0 x1 s0 T I J R Q => q_getI (k := 166) (by decide +kernel) rfl rfl (by decide),
  fun X d x0 x1 s0 σ Q => ex_P (i := .bipush 6) (len := 2) (by decide +kernel) rfl,
  fun X d x0 x1 s0 s1 σ Q => q_icmp_ne (o := 5) (by decide +kernel) rfl⟩
set_option maxRecDepth 50000 in
theorem gX7_isO_103 : (∀ (X : tX) (d : Nat) (x0 : Nat) (x1 : Int32) (σ : rS) (Q : tQ), Ex X d mX7_isO 103 [.ref x0, .int x1, rU] [] σ Q = Ex X d mX7_isO 104 [.ref x0, .int x1, rU] [.int 0] σ Q) ∧
  (∀ (X : tX) (d : Nat) (x0 : Nat) (x1 : Int32) (s0 : Int32) (σ : rS) (Q : tQ), Ex X d mX7_isO 104 [.ref x0, .int x1, rU] [.int s0] σ Q = ((s0 = 0 ∨ s0 = 1) ∧ Q (some (.int s0)) σ)) := ⟨fun X d x0 x1 σ Q => ex_P (i := .iconst 0) (len := 1) (by decide +kernel) rfl,
  fun X d x0 x1 s0 σ Q => q_retZ (by decide +kernel) rfl⟩
set_option maxRecDepth 50000 in
theorem gX7_isO_105 : (∀ (X : tX) (d : Nat) (x0 : Nat) (x1 : Int32) (σ : rS) (Q : tQ), Ex X d mX7_isO 105 [.ref x0, .int x1, rU] [] σ Q = Ex X d mX7_isO 106 [.ref x0, .int x1, rU] [.ref x0] σ Q) ∧
  (∀ (X : tX) (d : Nat) (x0 : Nat) (x1 : Int32) (s0 : Nat) (σ : rS) (Q : tQ), Ex X d mX7_isO 106 [.ref x0, .int x1, rU] [.ref s0] σ Q = Ex X d mX7_isO 107 [.ref x0, .int x1, rU] [.ref s0, .ref s0] σ Q) ∧
  (∀ (X : tX) (d : Nat) (x0 : Nat) (x1 : Int32) (s0 : Nat) (s1 : Nat) (T : tT) (I : tI) (J : tJ) (R : tR) (Q : tQ), Ex X d mX7_isO 107 [.ref x0, .int x1, rU] [.ref s0, .ref s1] (T, I, J, R) Q = (T[s0]? = some (3, 7) ∧ Ex X d mX7_isO 110 [.ref x0, .int x1, rU] [.int (I s0 13), .ref s1] (T, I, J, R) Q)) ∧
  (∀ (X : tX) (d : Nat) (x0 : Nat) (x1 : Int32) (s0 : Int32) (s1 : Nat) (σ : rS) (Q : tQ), Ex X d mX7_isO 110 [.ref x0, .int x1, rU] [.int s0, .ref s1] σ Q = Ex X d mX7_isO 111 [.ref x0, .int x1, rU] [.int 1, .int s0, .ref s1] σ Q) ∧
  (∀ (X : tX) (d : Nat) (x0 : Nat) (x1 : Int32) (s0 : Int32) (s1 : Int32) (s2 : Nat) (σ : rS) (Q : tQ), Ex X d mX7_isO 111 [.ref x0, .int x1, rU] [.int s0, .int s1, .ref s2] σ Q = Ex X d mX7_isO 112 [.ref x0, .int x1, rU] [.int (s1 + s0), .ref s2] σ Q) ∧
  (∀ (X : tX) (d : Nat) (x0 : Nat) (x1 : Int32) (s0 : Int32) (s1 : Nat) (T : tT) (I : tI) (J : tJ) (R : tR) (Q : tQ), Ex X d mX7_isO 112 [.ref x0, .int x1, rU] [.int s0, .ref s1] (T, I, J, R) Q = (T[s1]? = some (3, 7) ∧ Ex X d mX7_isO 115 [.ref x0, .int x1, rU] [] (T, va_up I s1 (va_up (I s1) 13 s0), J, R) Q)) ∧
  (∀ (X : tX) (d : Nat) (x0 : Nat) (x1 : Int32) (σ : rS) (Q : tQ), Ex X d mX7_isO 115 [.ref x0, .int x1, rU] [] σ Q = Ex X d mX7_isO 116 [.ref x0, .int x1, rU] [.ref x0] σ Q) ∧
  (∀ (X : tX) (d : Nat) (x0 : Nat) (x1 : Int32) (s0 : Nat) (σ : rS) (Q : tQ), Ex X d mX7_isO 116 [.ref x0, .int x1, rU] [.ref s0] σ Q = Ex X d mX7_isO 118 [.ref x0, .int x1, rU] [.int 33, .ref s0] σ Q) ∧
  (∀ (X : tX) (d : Nat) (x0 : Nat) (x1 : Int32) (s0 : Int32) (s1 : Nat) (T : tT) (I : tI) (J : tJ) (R : tR) (Q : tQ), Ex X (d + 1) mX7_isO 118 [.ref x0, .int x1, rU] [.int s0, .ref s1] (T, I, J, R) Q = (T[s1]? = some (3, 7) ∧ Ex X d mX7_is 0 [.ref s1, .int s0] [] (T, I, J, R) (fun v σ1 => Ex X (d + 1) mX7_isO 121 [.ref x0, .int x1, rU] (v.toList ++ []) σ1 Q))) := ⟨fun X d x0 x1 σ Q => ex_P (i := .aload_n 0) (len := 1) (by decide +kernel) rfl,
  fun X d x0 x1 s0 σ Q => ex_P (i := .dup) (len := 1) (by decide +kernel) rfl,
  fun X d x0 x1 s0 s1 T I J R Q => q_getI (k := 166) (by decide +kernel) rfl rfl (by decide),
  fun X d x0 x1 s0 s1 σ Q => ex_P (i := .iconst 1) (len := 1) (by decide +kernel) rfl,
  fun X d x0 x1 s0 s1 s2 σ Q => ex_P (i := .iadd) (len := 1) (by decide +kernel) rfl,
  fun X d x0 x1 s0 s1 T I J R Q => q_putI (k := 166) (by decide +kernel) rfl rfl (by decide +kernel),
  fun X d x0 x1 σ Q => ex_P (i := .aload_n 0) (len := 1) (by decide +kernel) rfl,
  fun X d x0 x1 s0 σ Q => ex_P (i := .bipush 33) (len := 2) (by decide +kernel) rfl,
  fun X d x0 x1 s0 s1 T I J R Q => q_callV (k := 169) (as := [.int s0]) (st := []) (show rlk mX7_isO.2.2.2.2.2.2 118 = some (.invokevirtual 169, 3) from by decide +kernel) rfl rfl rfl (Nat.le_of_ble_eq_true rfl) (Nat.le_of_ble_eq_true rfl) rfl⟩
set_option maxRecDepth 50000 in
theorem gX7_isO_121 : (∀ (X : tX) (d : Nat) (x0 : Nat) (x1 : Int32) (s0 : Int32) (σ : rS) (Q : tQ), Ex X d mX7_isO 121 [.ref x0, .int x1, rU] [.int s0] σ Q = (if s0 = 0 then Ex X d mX7_isO 149 [.ref x0, .int x1, rU] [] σ Q else Ex X d mX7_isO 124 [.ref x0, .int x1, rU] [] σ Q)) := fun X d x0 x1 s0 σ Q => q_if_eq (o := 28) (by decide +kernel) rfl
set_option maxRecDepth 50000 in
theorem gX7_isO_124 : (∀ (X : tX) (d : Nat) (x0 : Nat) (x1 : Int32) (σ : rS) (Q : tQ), Ex X d mX7_isO 124 [.ref x0, .int x1, rU] [] σ Q = Ex X d mX7_isO 125 [.ref x0, .int x1, rU] [.ref x0] σ Q) ∧
  (∀ (X : tX) (d : Nat) (x0 : Nat) (x1 : Int32) (s0 : Nat) (T : tT) (I : tI) (J : tJ) (R : tR) (Q : tQ), Ex X (d + 1) mX7_isO 125 [.ref x0, .int x1, rU] [.ref s0] (T, I, J, R) Q = (T[s0]? = some (3, 7) ∧ Ex X d mX7_isO 0 [.ref s0, rU, rU] [] (T, I, J, R) (fun v σ1 => Ex X (d + 1) mX7_isO 128 [.ref x0, .int x1, rU] (v.toList ++ []) σ1 Q))) := ⟨fun X d x0 x1 σ Q => ex_P (i := .aload_n 0) (len := 1) (by decide +kernel) rfl,
  fun X d x0 x1 s0 T I J R Q => q_callV (k := 172) (as := []) (st := []) (show rlk mX7_isO.2.2.2.2.2.2 125 = some (.invokevirtual 172, 3) from by decide +kernel) rfl rfl rfl (Nat.le_of_ble_eq_true rfl) (Nat.le_of_ble_eq_true rfl) rfl⟩
set_option maxRecDepth 50000 in
theorem gX7_isO_128 : (∀ (X : tX) (d : Nat) (x0 : Nat) (x1 : Int32) (s0 : Int32) (σ : rS) (Q : tQ), Ex X d mX7_isO 128 [.ref x0, .int x1, rU] [.int s0] σ Q = (if s0 = 0 then Ex X d mX7_isO 144 [.ref x0, .int x1, rU] [] σ Q else Ex X d mX7_isO 131 [.ref x0, .int x1, rU] [] σ Q)) := fun X d x0 x1 s0 σ Q => q_if_eq (o := 16) (by decide +kernel) rfl
set_option maxRecDepth 50000 in
theorem gX7_isO_131 : (∀ (X : tX) (d : Nat) (x0 : Nat) (x1 : Int32) (σ : rS) (Q : tQ), Ex X d mX7_isO 131 [.ref x0, .int x1, rU] [] σ Q = Ex X d mX7_isO 132 [.ref x0, .int x1, rU] [.ref x0] σ Q) ∧
  (∀ (X : tX) (d : Nat) (x0 : Nat) (x1 : Int32) (s0 : Nat) (σ : rS) (Q : tQ), Ex X d mX7_isO 132 [.ref x0, .int x1, rU] [.ref s0] σ Q = Ex X d mX7_isO 134 [.ref x0, .int x1, rU] [.int 16, .ref s0] σ Q) ∧
  (∀ (X : tX) (d : Nat) (x0 : Nat) (x1 : Int32) (s0 : Int32) (s1 : Nat) (T : tT) (I : tI) (J : tJ) (R : tR) (Q : tQ), Ex X (d + 1) mX7_isO 134 [.ref x0, .int x1, rU] [.int s0, .ref s1] (T, I, J, R) Q = (T[s1]? = some (3, 7) ∧ Ex X d mX7_codes 0 [.ref s1, .int s0] [] (T, I, J, R) (fun v σ1 => Ex X (d + 1) mX7_isO 137 [.ref x0, .int x1, rU] (v.toList ++ []) σ1 Q))) := ⟨fun X d x0 x1 σ Q => ex_P (i := .aload_n 0) (len := 1) (by decide +kernel) rfl,
  fun X d x0 x1 s0 σ Q => ex_P (i := .bipush 16) (len := 2) (by decide +kernel) rfl,
  fun X d x0 x1 s0 s1 T I J R Q => q_callV (k := 159) (as := [.int s0]) (st := []) (show rlk mX7_isO.2.2.2.2.2.2 134 = some (.invokevirtual 159, 3) from by decide +kernel) rfl rfl rfl (Nat.le_of_ble_eq_true rfl) (Nat.le_of_ble_eq_true rfl) rfl⟩
set_option maxRecDepth 50000 in
theorem gX7_isO_137 : (∀ (X : tX) (d : Nat) (x0 : Nat) (x1 : Int32) (s0 : Int32) (σ : rS) (Q : tQ), Ex X d mX7_isO 137 [.ref x0, .int x1, rU] [.int s0] σ Q = (if s0 = 0 then Ex X d mX7_isO 144 [.ref x0, .int x1, rU] [] σ Q else Ex X d mX7_isO 140 [.ref x0, .int x1, rU] [] σ Q)) := fun X d x0 x1 s0 σ Q => q_if_eq (o := 7) (by decide +kernel) rfl
set_option maxRecDepth 50000 in
theorem gX7_isO_140 : (∀ (X : tX) (d : Nat) (x0 : Nat) (x1 : Int32) (σ : rS) (Q : tQ), Ex X d mX7_isO 140 [.ref x0, .int x1, rU] [] σ Q = Ex X d mX7_isO 141 [.ref x0, .int x1, rU] [.int 1] σ Q) ∧
  (∀ (X : tX) (d : Nat) (x0 : Nat) (x1 : Int32) (s0 : Int32) (σ : rS) (Q : tQ), Ex X d mX7_isO 141 [.ref x0, .int x1, rU] [.int s0] σ Q = Ex X d mX7_isO 145 [.ref x0, .int x1, rU] [.int s0] σ Q) := ⟨fun X d x0 x1 σ Q => ex_P (i := .iconst 1) (len := 1) (by decide +kernel) rfl,
  fun X d x0 x1 s0 σ Q => q_goto (o := 4) (by decide +kernel) rfl⟩
set_option maxRecDepth 50000 in
theorem gX7_isO_144 : (∀ (X : tX) (d : Nat) (x0 : Nat) (x1 : Int32) (σ : rS) (Q : tQ), Ex X d mX7_isO 144 [.ref x0, .int x1, rU] [] σ Q = Ex X d mX7_isO 145 [.ref x0, .int x1, rU] [.int 0] σ Q) := fun X d x0 x1 σ Q => ex_P (i := .iconst 0) (len := 1) (by decide +kernel) rfl
set_option maxRecDepth 50000 in
theorem gX7_isO_145 : (∀ (X : tX) (d : Nat) (x0 : Nat) (x1 : Int32) (s0 : Int32) (σ : rS) (Q : tQ), Ex X d mX7_isO 145 [.ref x0, .int x1, rU] [.int s0] σ Q = Ex X d mX7_isO 146 [.ref x0, .int x1, .int s0] [] σ Q) ∧
  (∀ (X : tX) (d : Nat) (x0 : Nat) (x1 : Int32) (x2 : Int32) (σ : rS) (Q : tQ), Ex X d mX7_isO 146 [.ref x0, .int x1, .int x2] [] σ Q = Ex X d mX7_isO 214 [.ref x0, .int x1, .int x2] [] σ Q) := ⟨fun X d x0 x1 s0 σ Q => ex_P (i := .istore_n 2) (len := 1) (by decide +kernel) rfl,
  fun X d x0 x1 x2 σ Q => q_goto (o := 68) (by decide +kernel) rfl⟩
set_option maxRecDepth 50000 in
theorem gX7_isO_149 : (∀ (X : tX) (d : Nat) (x0 : Nat) (x1 : Int32) (σ : rS) (Q : tQ), Ex X d mX7_isO 149 [.ref x0, .int x1, rU] [] σ Q = Ex X d mX7_isO 150 [.ref x0, .int x1, rU] [.ref x0] σ Q) ∧
  (∀ (X : tX) (d : Nat) (x0 : Nat) (x1 : Int32) (s0 : Nat) (σ : rS) (Q : tQ), Ex X d mX7_isO 150 [.ref x0, .int x1, rU] [.ref s0] σ Q = Ex X d mX7_isO 152 [.ref x0, .int x1, rU] [.int 45, .ref s0] σ Q) ∧
  (∀ (X : tX) (d : Nat) (x0 : Nat) (x1 : Int32) (s0 : Int32) (s1 : Nat) (T : tT) (I : tI) (J : tJ) (R : tR) (Q : tQ), Ex X (d + 1) mX7_isO 152 [.ref x0, .int x1, rU] [.int s0, .ref s1] (T, I, J, R) Q = (T[s1]? = some (3, 7) ∧ Ex X d mX7_is 0 [.ref s1, .int s0] [] (T, I, J, R) (fun v σ1 => Ex X (d + 1) mX7_isO 155 [.ref x0, .int x1, rU] (v.toList ++ []) σ1 Q))) := ⟨fun X d x0 x1 σ Q => ex_P (i := .aload_n 0) (len := 1) (by decide +kernel) rfl,
  fun X d x0 x1 s0 σ Q => ex_P (i := .bipush 45) (len := 2) (by decide +kernel) rfl,
  fun X d x0 x1 s0 s1 T I J R Q => q_callV (k := 169) (as := [.int s0]) (st := []) (show rlk mX7_isO.2.2.2.2.2.2 152 = some (.invokevirtual 169, 3) from by decide +kernel) rfl rfl rfl (Nat.le_of_ble_eq_true rfl) (Nat.le_of_ble_eq_true rfl) rfl⟩
set_option maxRecDepth 50000 in
theorem gX7_isO_155 : (∀ (X : tX) (d : Nat) (x0 : Nat) (x1 : Int32) (s0 : Int32) (σ : rS) (Q : tQ), Ex X d mX7_isO 155 [.ref x0, .int x1, rU] [.int s0] σ Q = (if s0 = 0 then Ex X d mX7_isO 183 [.ref x0, .int x1, rU] [] σ Q else Ex X d mX7_isO 158 [.ref x0, .int x1, rU] [] σ Q)) := fun X d x0 x1 s0 σ Q => q_if_eq (o := 28) (by decide +kernel) rfl
set_option maxRecDepth 50000 in
theorem gX7_isO_158 : (∀ (X : tX) (d : Nat) (x0 : Nat) (x1 : Int32) (σ : rS) (Q : tQ), Ex X d mX7_isO 158 [.ref x0, .int x1, rU] [] σ Q = Ex X d mX7_isO 159 [.ref x0, .int x1, rU] [.ref x0] σ Q) ∧
  (∀ (X : tX) (d : Nat) (x0 : Nat) (x1 : Int32) (s0 : Nat) (T : tT) (I : tI) (J : tJ) (R : tR) (Q : tQ), Ex X (d + 1) mX7_isO 159 [.ref x0, .int x1, rU] [.ref s0] (T, I, J, R) Q = (T[s0]? = some (3, 7) ∧ Ex X d mX7_isO 0 [.ref s0, rU, rU] [] (T, I, J, R) (fun v σ1 => Ex X (d + 1) mX7_isO 162 [.ref x0, .int x1, rU] (v.toList ++ []) σ1 Q))) := ⟨fun X d x0 x1 σ Q => ex_P (i := .aload_n 0) (len := 1) (by decide +kernel) rfl,
  fun X d x0 x1 s0 T I J R Q => q_callV (k := 172) (as := []) (st := []) (show rlk mX7_isO.2.2.2.2.2.2 159 = some (.invokevirtual 172, 3) from by decide +kernel) rfl rfl rfl (Nat.le_of_ble_eq_true rfl) (Nat.le_of_ble_eq_true rfl) rfl⟩
set_option maxRecDepth 50000 in
theorem gX7_isO_162 : (∀ (X : tX) (d : Nat) (x0 : Nat) (x1 : Int32) (s0 : Int32) (σ : rS) (Q : tQ), Ex X d mX7_isO 162 [.ref x0, .int x1, rU] [.int s0] σ Q = (if s0 = 0 then Ex X d mX7_isO 178 [.ref x0, .int x1, rU] [] σ Q else Ex X d mX7_isO 165 [.ref x0, .int x1, rU] [] σ Q)) := fun X d x0 x1 s0 σ Q => q_if_eq (o := 16) (by decide +kernel) rfl
set_option maxRecDepth 50000 in
theorem gX7_isO_165 : (∀ (X : tX) (d : Nat) (x0 : Nat) (x1 : Int32) (σ : rS) (Q : tQ), Ex X d mX7_isO 165 [.ref x0, .int x1, rU] [] σ Q = Ex X d mX7_isO 166 [.ref x0, .int x1, rU] [.ref x0] σ Q) ∧
  (∀ (X : tX) (d : Nat) (x0 : Nat) (x1 : Int32) (s0 : Nat) (σ : rS) (Q : tQ), Ex X d mX7_isO 166 [.ref x0, .int x1, rU] [.ref s0] σ Q = Ex X d mX7_isO 168 [.ref x0, .int x1, rU] [.int 17, .ref s0] σ Q) ∧
  (∀ (X : tX) (d : Nat) (x0 : Nat) (x1 : Int32) (s0 : Int32) (s1 : Nat) (T : tT) (I : tI) (J : tJ) (R : tR) (Q : tQ), Ex X (d + 1) mX7_isO 168 [.ref x0, .int x1, rU] [.int s0, .ref s1] (T, I, J, R) Q = (T[s1]? = some (3, 7) ∧ Ex X d mX7_codes 0 [.ref s1, .int s0] [] (T, I, J, R) (fun v σ1 => Ex X (d + 1) mX7_isO 171 [.ref x0, .int x1, rU] (v.toList ++ []) σ1 Q))) := ⟨fun X d x0 x1 σ Q => ex_P (i := .aload_n 0) (len := 1) (by decide +kernel) rfl,
  fun X d x0 x1 s0 σ Q => ex_P (i := .bipush 17) (len := 2) (by decide +kernel) rfl,
  fun X d x0 x1 s0 s1 T I J R Q => q_callV (k := 159) (as := [.int s0]) (st := []) (show rlk mX7_isO.2.2.2.2.2.2 168 = some (.invokevirtual 159, 3) from by decide +kernel) rfl rfl rfl (Nat.le_of_ble_eq_true rfl) (Nat.le_of_ble_eq_true rfl) rfl⟩
set_option maxRecDepth 50000 in
theorem gX7_isO_171 : (∀ (X : tX) (d : Nat) (x0 : Nat) (x1 : Int32) (s0 : Int32) (σ : rS) (Q : tQ), Ex X d mX7_isO 171 [.ref x0, .int x1, rU] [.int s0] σ Q = (if s0 = 0 then Ex X d mX7_isO 178 [.ref x0, .int x1, rU] [] σ Q else Ex X d mX7_isO 174 [.ref x0, .int x1, rU] [] σ Q)) := fun X d x0 x1 s0 σ Q => q_if_eq (o := 7) (by decide +kernel) rfl
set_option maxRecDepth 50000 in
theorem gX7_isO_174 : (∀ (X : tX) (d : Nat) (x0 : Nat) (x1 : Int32) (σ : rS) (Q : tQ), Ex X d mX7_isO 174 [.ref x0, .int x1, rU] [] σ Q = Ex X d mX7_isO 175 [.ref x0, .int x1, rU] [.int 1] σ Q) ∧
  (∀ (X : tX) (d : Nat) (x0 : Nat) (x1 : Int32) (s0 : Int32) (σ : rS) (Q : tQ), Ex X d mX7_isO 175 [.ref x0, .int x1, rU] [.int s0] σ Q = Ex X d mX7_isO 179 [.ref x0, .int x1, rU] [.int s0] σ Q) := ⟨fun X d x0 x1 σ Q => ex_P (i := .iconst 1) (len := 1) (by decide +kernel) rfl,
  fun X d x0 x1 s0 σ Q => q_goto (o := 4) (by decide +kernel) rfl⟩
set_option maxRecDepth 50000 in
theorem gX7_isO_178 : (∀ (X : tX) (d : Nat) (x0 : Nat) (x1 : Int32) (σ : rS) (Q : tQ), Ex X d mX7_isO 178 [.ref x0, .int x1, rU] [] σ Q = Ex X d mX7_isO 179 [.ref x0, .int x1, rU] [.int 0] σ Q) := fun X d x0 x1 σ Q => ex_P (i := .iconst 0) (len := 1) (by decide +kernel) rfl
set_option maxRecDepth 50000 in
theorem gX7_isO_179 : (∀ (X : tX) (d : Nat) (x0 : Nat) (x1 : Int32) (s0 : Int32) (σ : rS) (Q : tQ), Ex X d mX7_isO 179 [.ref x0, .int x1, rU] [.int s0] σ Q = Ex X d mX7_isO 180 [.ref x0, .int x1, .int s0] [] σ Q) ∧
  (∀ (X : tX) (d : Nat) (x0 : Nat) (x1 : Int32) (x2 : Int32) (σ : rS) (Q : tQ), Ex X d mX7_isO 180 [.ref x0, .int x1, .int x2] [] σ Q = Ex X d mX7_isO 214 [.ref x0, .int x1, .int x2] [] σ Q) := ⟨fun X d x0 x1 s0 σ Q => ex_P (i := .istore_n 2) (len := 1) (by decide +kernel) rfl,
  fun X d x0 x1 x2 σ Q => q_goto (o := 34) (by decide +kernel) rfl⟩
set_option maxRecDepth 50000 in
theorem gX7_isO_183 : (∀ (X : tX) (d : Nat) (x0 : Nat) (x1 : Int32) (σ : rS) (Q : tQ), Ex X d mX7_isO 183 [.ref x0, .int x1, rU] [] σ Q = Ex X d mX7_isO 184 [.ref x0, .int x1, rU] [.ref x0] σ Q) ∧
  (∀ (X : tX) (d : Nat) (x0 : Nat) (x1 : Int32) (s0 : Nat) (σ : rS) (Q : tQ), Ex X d mX7_isO 184 [.ref x0, .int x1, rU] [.ref s0] σ Q = Ex X d mX7_isO 186 [.ref x0, .int x1, rU] [.int 40, .ref s0] σ Q) ∧
  (∀ (X : tX) (d : Nat) (x0 : Nat) (x1 : Int32) (s0 : Int32) (s1 : Nat) (T : tT) (I : tI) (J : tJ) (R : tR) (Q : tQ), Ex X (d + 1) mX7_isO 186 [.ref x0, .int x1, rU] [.int s0, .ref s1] (T, I, J, R) Q = (T[s1]? = some (3, 7) ∧ Ex X d mX7_is 0 [.ref s1, .int s0] [] (T, I, J, R) (fun v σ1 => Ex X (d + 1) mX7_isO 189 [.ref x0, .int x1, rU] (v.toList ++ []) σ1 Q))) := ⟨fun X d x0 x1 σ Q => ex_P (i := .aload_n 0) (len := 1) (by decide +kernel) rfl,
  fun X d x0 x1 s0 σ Q => ex_P (i := .bipush 40) (len := 2) (by decide +kernel) rfl,
  fun X d x0 x1 s0 s1 T I J R Q => q_callV (k := 169) (as := [.int s0]) (st := []) (show rlk mX7_isO.2.2.2.2.2.2 186 = some (.invokevirtual 169, 3) from by decide +kernel) rfl rfl rfl (Nat.le_of_ble_eq_true rfl) (Nat.le_of_ble_eq_true rfl) rfl⟩
set_option maxRecDepth 50000 in
theorem gX7_isO_189 : (∀ (X : tX) (d : Nat) (x0 : Nat) (x1 : Int32) (s0 : Int32) (σ : rS) (Q : tQ), Ex X d mX7_isO 189 [.ref x0, .int x1, rU] [.int s0] σ Q = (if s0 = 0 then Ex X d mX7_isO 212 [.ref x0, .int x1, rU] [] σ Q else Ex X d mX7_isO 192 [.ref x0, .int x1, rU] [] σ Q)) := fun X d x0 x1 s0 σ Q => q_if_eq (o := 23) (by decide +kernel) rfl
set_option maxRecDepth 50000 in
theorem gX7_isO_192 : (∀ (X : tX) (d : Nat) (x0 : Nat) (x1 : Int32) (σ : rS) (Q : tQ), Ex X d mX7_isO 192 [.ref x0, .int x1, rU] [] σ Q = Ex X d mX7_isO 193 [.ref x0, .int x1, rU] [.ref x0] σ Q) ∧
  (∀ (X : tX) (d : Nat) (x0 : Nat) (x1 : Int32) (s0 : Nat) (T : tT) (I : tI) (J : tJ) (R : tR) (Q : tQ), Ex X (d + 1) mX7_isO 193 [.ref x0, .int x1, rU] [.ref s0] (T, I, J, R) Q = (T[s0]? = some (3, 7) ∧ Ex X d mX7_isE 0 [.ref s0] [] (T, I, J, R) (fun v σ1 => Ex X (d + 1) mX7_isO 196 [.ref x0, .int x1, rU] (v.toList ++ []) σ1 Q))) := ⟨fun X d x0 x1 σ Q => ex_P (i := .aload_n 0) (len := 1) (by decide +kernel) rfl,
  fun X d x0 x1 s0 T I J R Q => q_callV (k := 175) (as := []) (st := []) (show rlk mX7_isO.2.2.2.2.2.2 193 = some (.invokevirtual 175, 3) from by decide +kernel) rfl rfl rfl (Nat.le_of_ble_eq_true rfl) (Nat.le_of_ble_eq_true rfl) rfl⟩
set_option maxRecDepth 50000 in
theorem gX7_isO_196 : (∀ (X : tX) (d : Nat) (x0 : Nat) (x1 : Int32) (s0 : Int32) (σ : rS) (Q : tQ), Ex X d mX7_isO 196 [.ref x0, .int x1, rU] [.int s0] σ Q = (if s0 = 0 then Ex X d mX7_isO 212 [.ref x0, .int x1, rU] [] σ Q else Ex X d mX7_isO 199 [.ref x0, .int x1, rU] [] σ Q)) := fun X d x0 x1 s0 σ Q => q_if_eq (o := 16) (by decide +kernel) rfl
set_option maxRecDepth 50000 in
theorem gX7_isO_199 : (∀ (X : tX) (d : Nat) (x0 : Nat) (x1 : Int32) (σ : rS) (Q : tQ), Ex X d mX7_isO 199 [.ref x0, .int x1, rU] [] σ Q = Ex X d mX7_isO 200 [.ref x0, .int x1, rU] [.ref x0] σ Q) ∧
  (∀ (X : tX) (d : Nat) (x0 : Nat) (x1 : Int32) (s0 : Nat) (σ : rS) (Q : tQ), Ex X d mX7_isO 200 [.ref x0, .int x1, rU] [.ref s0] σ Q = Ex X d mX7_isO 202 [.ref x0, .int x1, rU] [.int 41, .ref s0] σ Q) ∧
  (∀ (X : tX) (d : Nat) (x0 : Nat) (x1 : Int32) (s0 : Int32) (s1 : Nat) (T : tT) (I : tI) (J : tJ) (R : tR) (Q : tQ), Ex X (d + 1) mX7_isO 202 [.ref x0, .int x1, rU] [.int s0, .ref s1] (T, I, J, R) Q = (T[s1]? = some (3, 7) ∧ Ex X d mX7_is 0 [.ref s1, .int s0] [] (T, I, J, R) (fun v σ1 => Ex X (d + 1) mX7_isO 205 [.ref x0, .int x1, rU] (v.toList ++ []) σ1 Q))) := ⟨fun X d x0 x1 σ Q => ex_P (i := .aload_n 0) (len := 1) (by decide +kernel) rfl,
  fun X d x0 x1 s0 σ Q => ex_P (i := .bipush 41) (len := 2) (by decide +kernel) rfl,
  fun X d x0 x1 s0 s1 T I J R Q => q_callV (k := 169) (as := [.int s0]) (st := []) (show rlk mX7_isO.2.2.2.2.2.2 202 = some (.invokevirtual 169, 3) from by decide +kernel) rfl rfl rfl (Nat.le_of_ble_eq_true rfl) (Nat.le_of_ble_eq_true rfl) rfl⟩
set_option maxRecDepth 50000 in
theorem gX7_isO_205 : (∀ (X : tX) (d : Nat) (x0 : Nat) (x1 : Int32) (s0 : Int32) (σ : rS) (Q : tQ), Ex X d mX7_isO 205 [.ref x0, .int x1, rU] [.int s0] σ Q = (if s0 = 0 then Ex X d mX7_isO 212 [.ref x0, .int x1, rU] [] σ Q else Ex X d mX7_isO 208 [.ref x0, .int x1, rU] [] σ Q)) := fun X d x0 x1 s0 σ Q => q_if_eq (o := 7) (by decide +kernel) rfl
set_option maxRecDepth 50000 in
theorem gX7_isO_208 : (∀ (X : tX) (d : Nat) (x0 : Nat) (x1 : Int32) (σ : rS) (Q : tQ), Ex X d mX7_isO 208 [.ref x0, .int x1, rU] [] σ Q = Ex X d mX7_isO 209 [.ref x0, .int x1, rU] [.int 1] σ Q) ∧
  (∀ (X : tX) (d : Nat) (x0 : Nat) (x1 : Int32) (s0 : Int32) (σ : rS) (Q : tQ), Ex X d mX7_isO 209 [.ref x0, .int x1, rU] [.int s0] σ Q = Ex X d mX7_isO 213 [.ref x0, .int x1, rU] [.int s0] σ Q) := ⟨fun X d x0 x1 σ Q => ex_P (i := .iconst 1) (len := 1) (by decide +kernel) rfl,
  fun X d x0 x1 s0 σ Q => q_goto (o := 4) (by decide +kernel) rfl⟩
set_option maxRecDepth 50000 in
theorem gX7_isO_212 : (∀ (X : tX) (d : Nat) (x0 : Nat) (x1 : Int32) (σ : rS) (Q : tQ), Ex X d mX7_isO 212 [.ref x0, .int x1, rU] [] σ Q = Ex X d mX7_isO 213 [.ref x0, .int x1, rU] [.int 0] σ Q) := fun X d x0 x1 σ Q => ex_P (i := .iconst 0) (len := 1) (by decide +kernel) rfl
set_option maxRecDepth 50000 in
theorem gX7_isO_213 : (∀ (X : tX) (d : Nat) (x0 : Nat) (x1 : Int32) (s0 : Int32) (σ : rS) (Q : tQ), Ex X d mX7_isO 213 [.ref x0, .int x1, rU] [.int s0] σ Q = Ex X d mX7_isO 214 [.ref x0, .int x1, .int s0] [] σ Q) := fun X d x0 x1 s0 σ Q => ex_P (i := .istore_n 2) (len := 1) (by decide +kernel) rfl
set_option maxRecDepth 50000 in
theorem gX7_isO_214 : (∀ (X : tX) (d : Nat) (x0 : Nat) (x1 : Int32) (x2 : Int32) (σ : rS) (Q : tQ), Ex X d mX7_isO 214 [.ref x0, .int x1, .int x2] [] σ Q = Ex X d mX7_isO 215 [.ref x0, .int x1, .int x2] [.ref x0] σ Q) ∧
  (∀ (X : tX) (d : Nat) (x0 : Nat) (x1 : Int32) (x2 : Int32) (s0 : Nat) (σ : rS) (Q : tQ), Ex X d mX7_isO 215 [.ref x0, .int x1, .int x2] [.ref s0] σ Q = Ex X d mX7_isO 216 [.ref x0, .int x1, .int x2] [.ref s0, .ref s0] σ Q) ∧
  (∀ (X : tX) (d : Nat) (x0 : Nat) (x1 : Int32) (x2 : Int32) (s0 : Nat) (s1 : Nat) (T : tT) (I : tI) (J : tJ) (R : tR) (Q : tQ), Ex X d mX7_isO 216 [.ref x0, .int x1, .int x2] [.ref s0, .ref s1] (T, I, J, R) Q = (T[s0]? = some (3, 7) ∧ Ex X d mX7_isO 219 [.ref x0, .int x1, .int x2] [.int (I s0 13), .ref s1] (T, I, J, R) Q)) ∧
  (∀ (X : tX) (d : Nat) (x0 : Nat) (x1 : Int32) (x2 : Int32) (s0 : Int32) (s1 : Nat) (σ : rS) (Q : tQ), Ex X d mX7_isO 219 [.ref x0, .int x1, .int x2] [.int s0, .ref s1] σ Q = Ex X d mX7_isO 220 [.ref x0, .int x1, .int x2] [.int 1, .int s0, .ref s1] σ Q) ∧
  (∀ (X : tX) (d : Nat) (x0 : Nat) (x1 : Int32) (x2 : Int32) (s0 : Int32) (s1 : Int32) (s2 : Nat) (σ : rS) (Q : tQ), Ex X d mX7_isO 220 [.ref x0, .int x1, .int x2] [.int s0, .int s1, .ref s2] σ Q = Ex X d mX7_isO 221 [.ref x0, .int x1, .int x2] [.int (s1 - s0), .ref s2] σ Q) ∧
  (∀ (X : tX) (d : Nat) (x0 : Nat) (x1 : Int32) (x2 : Int32) (s0 : Int32) (s1 : Nat) (T : tT) (I : tI) (J : tJ) (R : tR) (Q : tQ), Ex X d mX7_isO 221 [.ref x0, .int x1, .int x2] [.int s0, .ref s1] (T, I, J, R) Q = (T[s1]? = some (3, 7) ∧ Ex X d mX7_isO 224 [.ref x0, .int x1, .int x2] [] (T, va_up I s1 (va_up (I s1) 13 s0), J, R) Q)) ∧
  (∀ (X : tX) (d : Nat) (x0 : Nat) (x1 : Int32) (x2 : Int32) (σ : rS) (Q : tQ), Ex X d mX7_isO 224 [.ref x0, .int x1, .int x2] [] σ Q = Ex X d mX7_isO 225 [.ref x0, .int x1, .int x2] [.int x2] σ Q) ∧
  (∀ (X : tX) (d : Nat) (x0 : Nat) (x1 : Int32) (x2 : Int32) (s0 : Int32) (σ : rS) (Q : tQ), Ex X d mX7_isO 225 [.ref x0, .int x1, .int x2] [.int s0] σ Q = ((s0 = 0 ∨ s0 = 1) ∧ Q (some (.int s0)) σ)) := ⟨fun X d x0 x1 x2 σ Q => ex_P (i := .aload_n 0) (len := 1) (by decide +kernel) rfl,
  fun X d x0 x1 x2 s0 σ Q => ex_P (i := .dup) (len := 1) (by decide +kernel) rfl,
  fun X d x0 x1 x2 s0 s1 T I J R Q => q_getI (k := 166) (by decide +kernel) rfl rfl (by decide),
  fun X d x0 x1 x2 s0 s1 σ Q => ex_P (i := .iconst 1) (len := 1) (by decide +kernel) rfl,
  fun X d x0 x1 x2 s0 s1 s2 σ Q => ex_P (i := .isub) (len := 1) (by decide +kernel) rfl,
  fun X d x0 x1 x2 s0 s1 T I J R Q => q_putI (k := 166) (by decide +kernel) rfl rfl (by decide +kernel),
  fun X d x0 x1 x2 σ Q => ex_P (i := .iload_n 2) (len := 1) (by decide +kernel) rfl,
  fun X d x0 x1 x2 s0 σ Q => q_retZ (by decide +kernel) rfl⟩
set_option maxRecDepth 50000 in
theorem gX7_isP_0 : (∀ (X : tX) (d : Nat) (x0 : Nat) (σ : rS) (Q : tQ), Ex X d mX7_isP 0 [.ref x0, rU] [] σ Q = Ex X d mX7_isP 1 [.ref x0, rU] [.ref x0] σ Q) ∧
  (∀ (X : tX) (d : Nat) (x0 : Nat) (s0 : Nat) (T : tT) (I : tI) (J : tJ) (R : tR) (Q : tQ), Ex X (d + 1) mX7_isP 1 [.ref x0, rU] [.ref s0] (T, I, J, R) Q = (T[s0]? = some (3, 7) ∧ Ex X d mX7_isO 0 [.ref s0, rU, rU] [] (T, I, J, R) (fun v σ1 => Ex X (d + 1) mX7_isP 4 [.ref x0, rU] (v.toList ++ []) σ1 Q))) := ⟨fun X d x0 σ Q => ex_P (i := .aload_n 0) (len := 1) (by decide +kernel) rfl,
  fun X d x0 s0 T I J R Q => q_callV (k := 172) (as := []) (st := []) (show rlk mX7_isP.2.2.2.2.2.2 1 = some (.invokevirtual 172, 3) from by decide +kernel) rfl rfl rfl (Nat.le_of_ble_eq_true rfl) (Nat.le_of_ble_eq_true rfl) rfl⟩
set_option maxRecDepth 50000 in
theorem gX7_isP_4 : (∀ (X : tX) (d : Nat) (x0 : Nat) (s0 : Int32) (σ : rS) (Q : tQ), Ex X d mX7_isP 4 [.ref x0, rU] [.int s0] σ Q = (if s0 = 0 then Ex X d mX7_isP 7 [.ref x0, rU] [] σ Q else Ex X d mX7_isP 9 [.ref x0, rU] [] σ Q)) := fun X d x0 s0 σ Q => q_if_ne (o := 5) (by decide +kernel) rfl
set_option maxRecDepth 50000 in
theorem gX7_isP_7 : (∀ (X : tX) (d : Nat) (x0 : Nat) (σ : rS) (Q : tQ), Ex X d mX7_isP 7 [.ref x0, rU] [] σ Q = Ex X d mX7_isP 8 [.ref x0, rU] [.int 0] σ Q) ∧
  (∀ (X : tX) (d : Nat) (x0 : Nat) (s0 : Int32) (σ : rS) (Q : tQ), Ex X d mX7_isP 8 [.ref x0, rU] [.int s0] σ Q = ((s0 = 0 ∨ s0 = 1) ∧ Q (some (.int s0)) σ)) := ⟨fun X d x0 σ Q => ex_P (i := .iconst 0) (len := 1) (by decide +kernel) rfl,
  fun X d x0 s0 σ Q => q_retZ (by decide +kernel) rfl⟩
set_option maxRecDepth 50000 in
theorem gX7_isP_9 : (∀ (X : tX) (d : Nat) (x0 : Nat) (v1 : Value) (σ : rS) (Q : tQ), Ex X d mX7_isP 9 [.ref x0, v1] [] σ Q = Ex X d mX7_isP 10 [.ref x0, v1] [.ref x0] σ Q) ∧
  (∀ (X : tX) (d : Nat) (x0 : Nat) (v1 : Value) (s0 : Nat) (T : tT) (I : tI) (J : tJ) (R : tR) (Q : tQ), Ex X (d + 1) mX7_isP 10 [.ref x0, v1] [.ref s0] (T, I, J, R) Q = (T[s0]? = some (3, 7) ∧ Ex X d mX7_sign 0 [.ref s0] [] (T, I, J, R) (fun v σ1 => Ex X (d + 1) mX7_isP 13 [.ref x0, v1] (v.toList ++ []) σ1 Q))) := ⟨fun X d x0 v1 σ Q => ex_P (i := .aload_n 0) (len := 1) (by decide +kernel) rfl,
  fun X d x0 v1 s0 T I J R Q => q_callV (k := 148) (as := []) (st := []) (show rlk mX7_isP.2.2.2.2.2.2 10 = some (.invokevirtual 148, 3) from by decide +kernel) rfl rfl rfl (Nat.le_of_ble_eq_true rfl) (Nat.le_of_ble_eq_true rfl) rfl⟩
set_option maxRecDepth 50000 in
theorem gX7_isP_13 : (∀ (X : tX) (d : Nat) (x0 : Nat) (v1 : Value) (s0 : Int32) (σ : rS) (Q : tQ), Ex X d mX7_isP 13 [.ref x0, v1] [.int s0] σ Q = Ex X d mX7_isP 15 [.ref x0, v1] [.int 42, .int s0] σ Q) ∧
  (∀ (X : tX) (d : Nat) (x0 : Nat) (v1 : Value) (s0 : Int32) (s1 : Int32) (σ : rS) (Q : tQ), Ex X d mX7_isP 15 [.ref x0, v1] [.int s0, .int s1] σ Q = (if s1 = s0 then Ex X d mX7_isP 18 [.ref x0, v1] [] σ Q else Ex X d mX7_isP 23 [.ref x0, v1] [] σ Q)) := ⟨fun X d x0 v1 s0 σ Q => ex_P (i := .bipush 42) (len := 2) (by decide +kernel) rfl,
  fun X d x0 v1 s0 s1 σ Q => q_icmp_ne (o := 8) (by decide +kernel) rfl⟩
set_option maxRecDepth 50000 in
theorem gX7_isP_18 : (∀ (X : tX) (d : Nat) (x0 : Nat) (v1 : Value) (σ : rS) (Q : tQ), Ex X d mX7_isP 18 [.ref x0, v1] [] σ Q = Ex X d mX7_isP 20 [.ref x0, v1] [.int 13] σ Q) ∧
  (∀ (X : tX) (d : Nat) (x0 : Nat) (v1 : Value) (s0 : Int32) (σ : rS) (Q : tQ), Ex X d mX7_isP 20 [.ref x0, v1] [.int s0] σ Q = Ex X d mX7_isP 52 [.ref x0, v1] [.int s0] σ Q) := ⟨fun X d x0 v1 σ Q => ex_P (i := .bipush 13) (len := 2) (by decide +kernel) rfl,
  fun X d x0 v1 s0 σ Q => q_goto (o := 32) (by decide +kernel) rfl⟩
set_option maxRecDepth 50000 in
theorem gX7_isP_23 : (∀ (X : tX) (d : Nat) (x0 : Nat) (v1 : Value) (σ : rS) (Q : tQ), Ex X d mX7_isP 23 [.ref x0, v1] [] σ Q = Ex X d mX7_isP 24 [.ref x0, v1] [.ref x0] σ Q) ∧
  (∀ (X : tX) (d : Nat) (x0 : Nat) (v1 : Value) (s0 : Nat) (T : tT) (I : tI) (J : tJ) (R : tR) (Q : tQ), Ex X (d + 1) mX7_isP 24 [.ref x0, v1] [.ref s0] (T, I, J, R) Q = (T[s0]? = some (3, 7) ∧ Ex X d mX7_sign 0 [.ref s0] [] (T, I, J, R) (fun v σ1 => Ex X (d + 1) mX7_isP 27 [.ref x0, v1] (v.toList ++ []) σ1 Q))) := ⟨fun X d x0 v1 σ Q => ex_P (i := .aload_n 0) (len := 1) (by decide +kernel) rfl,
  fun X d x0 v1 s0 T I J R Q => q_callV (k := 148) (as := []) (st := []) (show rlk mX7_isP.2.2.2.2.2.2 24 = some (.invokevirtual 148, 3) from by decide +kernel) rfl rfl rfl (Nat.le_of_ble_eq_true rfl) (Nat.le_of_ble_eq_true rfl) rfl⟩
set_option maxRecDepth 50000 in
theorem gX7_isP_27 : (∀ (X : tX) (d : Nat) (x0 : Nat) (v1 : Value) (s0 : Int32) (σ : rS) (Q : tQ), Ex X d mX7_isP 27 [.ref x0, v1] [.int s0] σ Q = Ex X d mX7_isP 29 [.ref x0, v1] [.int 47, .int s0] σ Q) ∧
  (∀ (X : tX) (d : Nat) (x0 : Nat) (v1 : Value) (s0 : Int32) (s1 : Int32) (σ : rS) (Q : tQ), Ex X d mX7_isP 29 [.ref x0, v1] [.int s0, .int s1] σ Q = (if s1 = s0 then Ex X d mX7_isP 32 [.ref x0, v1] [] σ Q else Ex X d mX7_isP 37 [.ref x0, v1] [] σ Q)) := ⟨fun X d x0 v1 s0 σ Q => ex_P (i := .bipush 47) (len := 2) (by decide +kernel) rfl,
  fun X d x0 v1 s0 s1 σ Q => q_icmp_ne (o := 8) (by decide +kernel) rfl⟩
set_option maxRecDepth 50000 in
theorem gX7_isP_32 : (∀ (X : tX) (d : Nat) (x0 : Nat) (v1 : Value) (σ : rS) (Q : tQ), Ex X d mX7_isP 32 [.ref x0, v1] [] σ Q = Ex X d mX7_isP 34 [.ref x0, v1] [.int 14] σ Q) ∧
  (∀ (X : tX) (d : Nat) (x0 : Nat) (v1 : Value) (s0 : Int32) (σ : rS) (Q : tQ), Ex X d mX7_isP 34 [.ref x0, v1] [.int s0] σ Q = Ex X d mX7_isP 52 [.ref x0, v1] [.int s0] σ Q) := ⟨fun X d x0 v1 σ Q => ex_P (i := .bipush 14) (len := 2) (by decide +kernel) rfl,
  fun X d x0 v1 s0 σ Q => q_goto (o := 18) (by decide +kernel) rfl⟩
set_option maxRecDepth 50000 in
theorem gX7_isP_37 : (∀ (X : tX) (d : Nat) (x0 : Nat) (v1 : Value) (σ : rS) (Q : tQ), Ex X d mX7_isP 37 [.ref x0, v1] [] σ Q = Ex X d mX7_isP 38 [.ref x0, v1] [.ref x0] σ Q) ∧
  (∀ (X : tX) (d : Nat) (x0 : Nat) (v1 : Value) (s0 : Nat) (T : tT) (I : tI) (J : tJ) (R : tR) (Q : tQ), Ex X (d + 1) mX7_isP 38 [.ref x0, v1] [.ref s0] (T, I, J, R) Q = (T[s0]? = some (3, 7) ∧ Ex X d mX7_sign 0 [.ref s0] [] (T, I, J, R) (fun v σ1 => Ex X (d + 1) mX7_isP 41 [.ref x0, v1] (v.toList ++ []) σ1 Q))) := ⟨fun X d x0 v1 σ Q => ex_P (i := .aload_n 0) (len := 1) (by decide +kernel) rfl,
  fun X d x0 v1 s0 T I J R Q => q_callV (k := 148) (as := []) (st := []) (show rlk mX7_isP.2.2.2.2.2.2 38 = some (.invokevirtual 148, 3) from by decide +kernel) rfl rfl rfl (Nat.le_of_ble_eq_true rfl) (Nat.le_of_ble_eq_true rfl) rfl⟩
set_option maxRecDepth 50000 in
theorem gX7_isP_41 : (∀ (X : tX) (d : Nat) (x0 : Nat) (v1 : Value) (s0 : Int32) (σ : rS) (Q : tQ), Ex X d mX7_isP 41 [.ref x0, v1] [.int s0] σ Q = Ex X d mX7_isP 43 [.ref x0, v1] [.int 37, .int s0] σ Q) ∧
  (∀ (X : tX) (d : Nat) (x0 : Nat) (v1 : Value) (s0 : Int32) (s1 : Int32) (σ : rS) (Q : tQ), Ex X d mX7_isP 43 [.ref x0, v1] [.int s0, .int s1] σ Q = (if s1 = s0 then Ex X d mX7_isP 46 [.ref x0, v1] [] σ Q else Ex X d mX7_isP 51 [.ref x0, v1] [] σ Q)) := ⟨fun X d x0 v1 s0 σ Q => ex_P (i := .bipush 37) (len := 2) (by decide +kernel) rfl,
  fun X d x0 v1 s0 s1 σ Q => q_icmp_ne (o := 8) (by decide +kernel) rfl⟩
set_option maxRecDepth 50000 in
theorem gX7_isP_46 : (∀ (X : tX) (d : Nat) (x0 : Nat) (v1 : Value) (σ : rS) (Q : tQ), Ex X d mX7_isP 46 [.ref x0, v1] [] σ Q = Ex X d mX7_isP 48 [.ref x0, v1] [.int 15] σ Q) ∧
  (∀ (X : tX) (d : Nat) (x0 : Nat) (v1 : Value) (s0 : Int32) (σ : rS) (Q : tQ), Ex X d mX7_isP 48 [.ref x0, v1] [.int s0] σ Q = Ex X d mX7_isP 52 [.ref x0, v1] [.int s0] σ Q) := ⟨fun X d x0 v1 σ Q => ex_P (i := .bipush 15) (len := 2) (by decide +kernel) rfl,
  fun X d x0 v1 s0 σ Q => q_goto (o := 4) (by decide +kernel) rfl⟩
set_option maxRecDepth 50000 in
theorem gX7_isP_51 : (∀ (X : tX) (d : Nat) (x0 : Nat) (v1 : Value) (σ : rS) (Q : tQ), Ex X d mX7_isP 51 [.ref x0, v1] [] σ Q = Ex X d mX7_isP 52 [.ref x0, v1] [.int (-1)] σ Q) := fun X d x0 v1 σ Q => ex_P (i := .iconst (-1)) (len := 1) (by decide +kernel) rfl
set_option maxRecDepth 50000 in
theorem gX7_isP_52 : (∀ (X : tX) (d : Nat) (x0 : Nat) (v1 : Value) (s0 : Int32) (σ : rS) (Q : tQ), Ex X d mX7_isP 52 [.ref x0, v1] [.int s0] σ Q = Ex X d mX7_isP 53 [.ref x0, .int s0] [] σ Q) ∧
  (∀ (X : tX) (d : Nat) (x0 : Nat) (x1 : Int32) (σ : rS) (Q : tQ), Ex X d mX7_isP 53 [.ref x0, .int x1] [] σ Q = Ex X d mX7_isP 54 [.ref x0, .int x1] [.int x1] σ Q) ∧
  (∀ (X : tX) (d : Nat) (x0 : Nat) (x1 : Int32) (s0 : Int32) (σ : rS) (Q : tQ), Ex X d mX7_isP 54 [.ref x0, .int x1] [.int s0] σ Q = (if 0 ≤ s0 then Ex X d mX7_isP 59 [.ref x0, .int x1] [] σ Q else Ex X d mX7_isP 57 [.ref x0, .int x1] [] σ Q)) := ⟨fun X d x0 v1 s0 σ Q => ex_P (i := .istore_n 1) (len := 1) (by decide +kernel) rfl,
  fun X d x0 x1 σ Q => ex_P (i := .iload_n 1) (len := 1) (by decide +kernel) rfl,
  fun X d x0 x1 s0 σ Q => q_if_ge (o := 5) (by decide +kernel) rfl⟩
set_option maxRecDepth 50000 in
theorem gX7_isP_57 : (∀ (X : tX) (d : Nat) (x0 : Nat) (x1 : Int32) (σ : rS) (Q : tQ), Ex X d mX7_isP 57 [.ref x0, .int x1] [] σ Q = Ex X d mX7_isP 58 [.ref x0, .int x1] [.int 1] σ Q) ∧
  (∀ (X : tX) (d : Nat) (x0 : Nat) (x1 : Int32) (s0 : Int32) (σ : rS) (Q : tQ), Ex X d mX7_isP 58 [.ref x0, .int x1] [.int s0] σ Q = ((s0 = 0 ∨ s0 = 1) ∧ Q (some (.int s0)) σ)) := ⟨fun X d x0 x1 σ Q => ex_P (i := .iconst 1) (len := 1) (by decide +kernel) rfl,
  fun X d x0 x1 s0 σ Q => q_retZ (by decide +kernel) rfl⟩
set_option maxRecDepth 50000 in
theorem gX7_isP_59 : (∀ (X : tX) (d : Nat) (x0 : Nat) (x1 : Int32) (σ : rS) (Q : tQ), Ex X d mX7_isP 59 [.ref x0, .int x1] [] σ Q = Ex X d mX7_isP 60 [.ref x0, .int x1] [.ref x0] σ Q) ∧
  (∀ (X : tX) (d : Nat) (x0 : Nat) (x1 : Int32) (s0 : Nat) (σ : rS) (Q : tQ), Ex X d mX7_isP 60 [.ref x0, .int x1] [.ref s0] σ Q = Ex X d mX7_isP 61 [.ref x0, .int x1] [.ref s0, .ref s0] σ Q) ∧
  (∀ (X : tX) (d : Nat) (x0 : Nat) (x1 : Int32) (s0 : Nat) (s1 : Nat) (T : tT) (I : tI) (J : tJ) (R : tR) (Q : tQ), Ex X d mX7_isP 61 [.ref x0, .int x1] [.ref s0, .ref s1] (T, I, J, R) Q = (T[s0]? = some (3, 7) ∧ Ex X d mX7_isP 64 [.ref x0, .int x1] [.int (I s0 12), .ref s1] (T, I, J, R) Q)) ∧
  (∀ (X : tX) (d : Nat) (x0 : Nat) (x1 : Int32) (s0 : Int32) (s1 : Nat) (σ : rS) (Q : tQ), Ex X d mX7_isP 64 [.ref x0, .int x1] [.int s0, .ref s1] σ Q = Ex X d mX7_isP 65 [.ref x0, .int x1] [.int 1, .int s0, .ref s1] σ Q) ∧
  (∀ (X : tX) (d : Nat) (x0 : Nat) (x1 : Int32) (s0 : Int32) (s1 : Int32) (s2 : Nat) (σ : rS) (Q : tQ), Ex X d mX7_isP 65 [.ref x0, .int x1] [.int s0, .int s1, .ref s2] σ Q = Ex X d mX7_isP 66 [.ref x0, .int x1] [.int (s1 + s0), .ref s2] σ Q) ∧
  (∀ (X : tX) (d : Nat) (x0 : Nat) (x1 : Int32) (s0 : Int32) (s1 : Nat) (T : tT) (I : tI) (J : tJ) (R : tR) (Q : tQ), Ex X d mX7_isP 66 [.ref x0, .int x1] [.int s0, .ref s1] (T, I, J, R) Q = (T[s1]? = some (3, 7) ∧ Ex X d mX7_isP 69 [.ref x0, .int x1] [] (T, va_up I s1 (va_up (I s1) 12 s0), J, R) Q)) ∧
  (∀ (X : tX) (d : Nat) (x0 : Nat) (x1 : Int32) (σ : rS) (Q : tQ), Ex X d mX7_isP 69 [.ref x0, .int x1] [] σ Q = Ex X d mX7_isP 70 [.ref x0, .int x1] [.ref x0] σ Q) ∧
  (∀ (X : tX) (d : Nat) (x0 : Nat) (x1 : Int32) (s0 : Nat) (T : tT) (I : tI) (J : tJ) (R : tR) (Q : tQ), Ex X (d + 1) mX7_isP 70 [.ref x0, .int x1] [.ref s0] (T, I, J, R) Q = (T[s0]? = some (3, 7) ∧ Ex X d mX7_isO 0 [.ref s0, rU, rU] [] (T, I, J, R) (fun v σ1 => Ex X (d + 1) mX7_isP 73 [.ref x0, .int x1] (v.toList ++ []) σ1 Q))) := ⟨fun X d x0 x1 σ Q => ex_P (i := .aload_n 0) (len := 1) (by decide +kernel) rfl,
  fun X d x0 x1 s0 σ Q => ex_P (i := .dup) (len := 1) (by decide +kernel) rfl,
  fun X d x0 x1 s0 s1 T I J R Q => q_getI (k := 145) (by decide +kernel) rfl rfl (by decide),
  fun X d x0 x1 s0 s1 σ Q => ex_P (i := .iconst 1) (len := 1) (by decide +kernel) rfl,
  fun X d x0 x1 s0 s1 s2 σ Q => ex_P (i := .iadd) (len := 1) (by decide +kernel) rfl,
  fun X d x0 x1 s0 s1 T I J R Q => q_putI (k := 145) (by decide +kernel) rfl rfl (by decide +kernel),
  fun X d x0 x1 σ Q => ex_P (i := .aload_n 0) (len := 1) (by decide +kernel) rfl,
  fun X d x0 x1 s0 T I J R Q => q_callV (k := 172) (as := []) (st := []) (show rlk mX7_isP.2.2.2.2.2.2 70 = some (.invokevirtual 172, 3) from by decide +kernel) rfl rfl rfl (Nat.le_of_ble_eq_true rfl) (Nat.le_of_ble_eq_true rfl) rfl⟩
set_option maxRecDepth 50000 in
theorem gX7_isP_73 : (∀ (X : tX) (d : Nat) (x0 : Nat) (x1 : Int32) (s0 : Int32) (σ : rS) (Q : tQ), Ex X d mX7_isP 73 [.ref x0, .int x1] [.int s0] σ Q = (if s0 = 0 then Ex X d mX7_isP 76 [.ref x0, .int x1] [] σ Q else Ex X d mX7_isP 78 [.ref x0, .int x1] [] σ Q)) := fun X d x0 x1 s0 σ Q => q_if_ne (o := 5) (by decide +kernel) rfl
set_option maxRecDepth 50000 in
theorem gX7_isP_76 : (∀ (X : tX) (d : Nat) (x0 : Nat) (x1 : Int32) (σ : rS) (Q : tQ), Ex X d mX7_isP 76 [.ref x0, .int x1] [] σ Q = Ex X d mX7_isP 77 [.ref x0, .int x1] [.int 0] σ Q) ∧
  (∀ (X : tX) (d : Nat) (x0 : Nat) (x1 : Int32) (s0 : Int32) (σ : rS) (Q : tQ), Ex X d mX7_isP 77 [.ref x0, .int x1] [.int s0] σ Q = ((s0 = 0 ∨ s0 = 1) ∧ Q (some (.int s0)) σ)) := ⟨fun X d x0 x1 σ Q => ex_P (i := .iconst 0) (len := 1) (by decide +kernel) rfl,
  fun X d x0 x1 s0 σ Q => q_retZ (by decide +kernel) rfl⟩
set_option maxRecDepth 50000 in
theorem gX7_isP_78 : (∀ (X : tX) (d : Nat) (x0 : Nat) (x1 : Int32) (σ : rS) (Q : tQ), Ex X d mX7_isP 78 [.ref x0, .int x1] [] σ Q = Ex X d mX7_isP 79 [.ref x0, .int x1] [.ref x0] σ Q) ∧
  (∀ (X : tX) (d : Nat) (x0 : Nat) (x1 : Int32) (s0 : Nat) (σ : rS) (Q : tQ), Ex X d mX7_isP 79 [.ref x0, .int x1] [.ref s0] σ Q = Ex X d mX7_isP 80 [.ref x0, .int x1] [.int x1, .ref s0] σ Q) ∧
  (∀ (X : tX) (d : Nat) (x0 : Nat) (x1 : Int32) (s0 : Int32) (s1 : Nat) (T : tT) (I : tI) (J : tJ) (R : tR) (Q : tQ), Ex X (d + 1) mX7_isP 80 [.ref x0, .int x1] [.int s0, .ref s1] (T, I, J, R) Q = (T[s1]? = some (3, 7) ∧ Ex X d mX7_codes 0 [.ref s1, .int s0] [] (T, I, J, R) (fun v σ1 => Ex X (d + 1) mX7_isP 83 [.ref x0, .int x1] (v.toList ++ []) σ1 Q))) := ⟨fun X d x0 x1 σ Q => ex_P (i := .aload_n 0) (len := 1) (by decide +kernel) rfl,
  fun X d x0 x1 s0 σ Q => ex_P (i := .iload_n 1) (len := 1) (by decide +kernel) rfl,
  fun X d x0 x1 s0 s1 T I J R Q => q_callV (k := 159) (as := [.int s0]) (st := []) (show rlk mX7_isP.2.2.2.2.2.2 80 = some (.invokevirtual 159, 3) from by decide +kernel) rfl rfl rfl (Nat.le_of_ble_eq_true rfl) (Nat.le_of_ble_eq_true rfl) rfl⟩
set_option maxRecDepth 50000 in
theorem gX7_isP_83 : (∀ (X : tX) (d : Nat) (x0 : Nat) (x1 : Int32) (s0 : Int32) (σ : rS) (Q : tQ), Ex X d mX7_isP 83 [.ref x0, .int x1] [.int s0] σ Q = Ex X d mX7_isP 84 [.ref x0, .int x1] [] σ Q) ∧
  (∀ (X : tX) (d : Nat) (x0 : Nat) (x1 : Int32) (σ : rS) (Q : tQ), Ex X d mX7_isP 84 [.ref x0, .int x1] [] σ Q = Ex X d mX7_isP 9 [.ref x0, .int x1] [] σ Q) := ⟨fun X d x0 x1 s0 σ Q => ex_P (i := .pop) (len := 1) (by decide +kernel) rfl,
  fun X d x0 x1 σ Q => q_goto (o := (-75)) (by decide +kernel) rfl⟩
