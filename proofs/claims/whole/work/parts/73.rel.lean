/-! PURE: both sides together: what stands between two calls -/
abbrev tSh : Type := (Nat → Int32) × (Nat → Nat) × (Nat → Nat → Int64)
abbrev tIm : Type := Bool × Nat × (Nat → Nat → Int32) × (Nat → Int32)
abbrev tTp : Type := Nat × (Nat → Int32)
abbrev tCh : Type := Nat × Nat × (Nat → Nat → Int32)
abbrev tSt : Type := Nat × (Nat → Nat) × Nat × (Nat → Int32)
def CLd (T : tT) (I : tI) (R : tR) (ld : Nat → Int32) : Prop := T[22]? = some (0, 5) ∧ R 0 3 = some 22 ∧ ∀ i, i < 5 → I 22 i = ld i
def CIm (T : tT) (I : tI) (R : tR) (im : tIm) : Prop := IsRiv T R 15 ∧ R 0 2 = some 15 ∧ T[23]? = some (0, 5) ∧ R 0 4 = some 23 ∧ I 0 5 = (if im.1 = true then 1 else 0) ∧ (im.1 = true → I 15 8 = nI im.2.1 ∧ (∀ p, p < im.2.1 → I 16 p = im.2.2.1 0 p ∧ I 18 p = im.2.2.1 2 p ∧ I 19 p = im.2.2.1 3 p) ∧ I 15 7 = im.2.2.1 5 1 ∧ ∀ i, i < 5 → I 23 i = im.2.2.2 i)
def CTp (T : tT) (I : tI) (R : tR) (b2 : Nat) (tp : tTp) : Prop := R 0 7 = some 25 ∧ RK T R b2 ∧ I 25 1 = nI tp.1 ∧ ∀ i, i < tp.1 → I 26 i = tp.2 i
def CK (T : tT) (R : tR) : Prop := T[33]? = some (3, 0) ∧ T[34]? = some (0, 40) ∧ T[35]? = some (0, 40) ∧ T[36]? = some (0, 40) ∧ T[37]? = some (0, 40) ∧ R 33 0 = some 34 ∧ R 33 1 = some 35 ∧ R 33 2 = some 36 ∧ R 33 3 = some 37
def CCh (T : tT) (I : tI) (R : tR) (ch : tCh) : Prop := R 0 9 = some 33 ∧ CK T R ∧ I 33 4 = nI ch.1 ∧ I 33 5 = nI ch.2.1 ∧ ∀ j, j < ch.2.1 → I 34 j = ch.2.2 j 0 ∧ I 35 j = ch.2.2 j 1 ∧ I 36 j = ch.2.2 j 2 ∧ I 37 j = ch.2.2 j 3
def CSt (T : tT) (I : tI) (R : tR) (st : tSt) : Prop := R 0 10 = some 38 ∧ SK T R ∧ I 38 2 = nI st.1 ∧ (∀ j, j < st.1 → I 39 j = nI (st.2.1 j)) ∧ I 38 3 = nI st.2.2.1 ∧ ∀ j, j < 24 → j < st.2.2.1 → I 40 j = st.2.2.2 j
def CA (T : tT) (I : tI) (J : tJ) (R : tR) (b2 : Nat) (sh : tSh) (ld : Nat → Int32) (im : tIm) (tp : tTp) (ch : tCh) (st : tSt) : Prop := (HSh T R ∧ ∀ s, s < 6 → CSh T I J R s (sh.1 s) (sh.2.1 s) (sh.2.2 s)) ∧ CLd T I R ld ∧ CIm T I R im ∧ CTp T I R b2 tp ∧ CCh T I R ch ∧ CSt T I R st ∧ T[24]? = some (1, 7) ∧ R 0 6 = some 24
def MIm (I : tI) (im : tIm) : Prop := I 54 23 = (if im.1 = true then 1 else 0) ∧ (im.1 = true → I 54 24 = nI im.2.1 ∧ Kp I 70 im.2.1 im.2.2.1 ∧ ∀ i, i < 5 → I 71 i = im.2.2.2 i)
def MCh (I : tI) (ch : tCh) : Prop := I 54 28 = nI ch.1 ∧ I 54 27 = nI ch.2.1 ∧ ∀ j, j < ch.2.1 → ∀ c, c < 4 → I 72 (4 * j + c) = ch.2.2 j c
def MSt (I : tI) (st : tSt) : Prop := I 54 30 = nI st.1 ∧ (∀ j, j < st.1 → I 73 j = nI (st.2.1 j)) ∧ I 54 32 = nI st.2.2.1 ∧ ∀ j, j < 24 → j < st.2.2.1 → I 74 j = st.2.2.2 j
def MTp (I : tI) (tp : tTp) : Prop := I 54 4 = nI tp.1 ∧ ∀ i, i < tp.1 → I 58 i = tp.2 i
def MA (I : tI) (J : tJ) (sh : tSh) (ld : Nat → Int32) (im : tIm) (tp : tTp) (ch : tCh) (st : tSt) : Prop := (∀ s, s < 6 → MSh I J s (sh.1 s) (sh.2.1 s) (sh.2.2 s)) ∧ (∀ i, i < 5 → I 69 i = ld i) ∧ MIm I im ∧ MTp I tp ∧ MCh I ch ∧ MSt I st
/-- every number of the river is as it may be -/
def fitR (n : Nat) (r : Nat → Nat → Int32) : Prop := ∀ j i, j ≤ 6 → i < vwN n j → fitB (nI j) (getS r j i) = true
def okIm (n : Nat) (im : tIm) : Prop := im.1 = true → im.2.1 ≤ n ∧ (∀ p, p < im.2.1 → inB (im.2.2.1 0 p) 0 99 = true ∧ inB (im.2.2.1 2 p) 0 1 = true ∧ inB (im.2.2.1 3 p) 0 9 = true) ∧ ∃ t : Nat, t < 7 ∧ im.2.2.1 5 1 = nI t
def okCh (n : Nat) (ch : tCh) : Prop := ch.1 ≤ ch.2.1 ∧ ch.2.1 ≤ 40 ∧ ∀ j, j < ch.2.1 → ∃ i w : Nat, ch.2.2 j 0 = nI i ∧ ch.2.2 j 1 = nI w ∧ w ≤ 6 ∧ i < vwN n w ∧ fitB (nI w) (ch.2.2 j 2) = true ∧ fitB (nI w) (ch.2.2 j 3) = true
def okSt (st : tSt) : Prop := st.1 ≤ 50 ∧ (∀ j, j < st.1 → st.2.1 j < 8) ∧ st.2.2.1 ≤ 1000
def okSh (sh : tSh) (st : tSt) : Prop := ∀ s, s < 6 → ∀ k : Nat, k < 50 → sh.1 s = nI (10 + k) → k < st.1
def PA (n : Nat) (r : Nat → Nat → Int32) (sh : tSh) (im : tIm) (tp : tTp) (ch : tCh) (st : tSt) : Prop := fitR n r ∧ okIm n im ∧ okCh n ch ∧ okSt st ∧ okSh sh st ∧ tp.1 ≤ 120
def Rel (T : tT) (I : tI) (J : tJ) (R : tR) : Prop := T.length ≤ 600000 ∧ rSl T ≤ 7302250 ∧ ∃ (b b2 n : Nat) (l : tL) (r : Nat → Nat → Int32) (sh : tSh) (ld : Nat → Int32) (im : tIm) (tp : tTp) (ch : tCh) (st : tSt), (b ≠ b2 ∧ (b = 27 ∨ b = 30)) ∧ HS T I R b n l r ∧ CA T I J R b2 sh ld im tp ch st ∧ MS T I R n l r ∧ MA I J sh ld im tp ch st ∧ PA n r sh im tp ch st
def Rl (σ : rS) : Prop := Rel σ.1 σ.2.1 σ.2.2.1 σ.2.2.2
/-- a call on both sides: the same answer, and both stand as they should -/
def Jn (X : tX) (d1 d2 : Nat) (MC : rM) (LC : List Value) (MM : rM) (LM : List Value) : Prop := ∀ (T : tT) (I : tI) (J : tJ) (R : tR), Rel T I J R → ∃ z : Int32, Ex X d1 MC 0 LC [] (T, I, J, R) (fun v1 σ1 => v1 = some (.int z) ∧ σ1.1 = T ∧ Ex X d2 MM 0 LM [] σ1 (fun v2 σ2 => v2 = some (.int z) ∧ Rl σ2))
def JnL (X : tX) (d1 d2 : Nat) (MC : rM) (LC : List Value) (MM : rM) (LM : List Value) : Prop := ∀ (T : tT) (I : tI) (J : tJ) (R : tR), Rel T I J R → ∃ z : Int64, Ex X d1 MC 0 LC [] (T, I, J, R) (fun v1 σ1 => v1 = some (.long z) ∧ σ1.1 = T ∧ Ex X d2 MM 0 LM [] σ1 (fun v2 σ2 => v2 = some (.long z) ∧ Rl σ2))
section RE
variable {X : tX} {T : tT} {I I' I1 I2 : tI} {J J' : tJ} {R R' : tR} {Q : tQ} {d d1 d2 b b2 n L0 : Nat} {xs : Nat → Int32} {l : tL} {r : Nat → Nat → Int32} {sh : tSh} {ld : Nat → Int32} {im : tIm} {tp : tTp} {ch : tCh} {st : tSt} {MC MM : rM} {LC LM : List Value}
theorem HS_f2 (h : HS T I R b n l r) (hf : ∀ x, (1 ≤ x ∧ x ≤ 6) ∨ x = b ∨ x = b + 1 → I' x = I x) : HS T I' R b n l r := by
  obtain ⟨h0, r0, r1, r8, hb, hb2, hv, hC⟩ := h
  exact ⟨h0, r0, r1, r8, hb, hb2, hv, CS_fr hC (fun x hx => hf x (by omega))⟩
theorem CSh_f2 {s : Nat} {hk : Int32} {ln : Nat} {el : Nat → Int64} (h : CSh T I J R s hk ln el) (h1 : I' (42 + 2 * s) = I (42 + 2 * s)) (h2 : J' (43 + 2 * s) = J (43 + 2 * s)) : CSh T I' J' R s hk ln el := by
  unfold CSh
  rw [h1, h2]
  exact h
theorem CLd_f (h : CLd T I R ld) (h1 : I' 22 = I 22) : CLd T I' R ld := by
  unfold CLd
  rw [h1]
  exact h
theorem CIm_f (h : CIm T I R im) (hf : ∀ x, x = 0 ∨ (15 ≤ x ∧ x ≤ 23) → I' x = I x) : CIm T I' R im := by
  unfold CIm
  rw [hf 0 (by decide), hf 15 (by decide), hf 16 (by decide), hf 18 (by decide), hf 19 (by decide), hf 23 (by decide)]
  exact h
theorem CTp_f (h : CTp T I R b2 tp) (h1 : I' 25 = I 25) (h2 : I' 26 = I 26) : CTp T I' R b2 tp := by
  unfold CTp
  rw [h1, h2]
  exact h
theorem CCh_f (h : CCh T I R ch) (hf : ∀ x, 33 ≤ x ∧ x ≤ 37 → I' x = I x) : CCh T I' R ch := by
  unfold CCh
  rw [hf 33 (by decide), hf 34 (by decide), hf 35 (by decide), hf 36 (by decide), hf 37 (by decide)]
  exact h
theorem CSt_f (h : CSt T I R st) (hf : ∀ x, 38 ≤ x ∧ x ≤ 40 → I' x = I x) : CSt T I' R st := by
  unfold CSt
  rw [hf 38 (by decide), hf 39 (by decide), hf 40 (by decide)]
  exact h
theorem CA_f (h : CA T I J R b2 sh ld im tp ch st) (hf : ∀ x, x = 0 ∨ (15 ≤ x ∧ x ≤ 26) ∨ (33 ≤ x ∧ x ≤ 53) → I' x = I x) (hJ : ∀ x, 43 ≤ x → x ≤ 53 → J' x = J x) : CA T I' J' R b2 sh ld im tp ch st := by
  obtain ⟨⟨a1, a2⟩, a3, a4, a5, a6, a7, a8, a9⟩ := h
  exact ⟨⟨a1, fun s hs => CSh_f2 (a2 s hs) (hf _ (by omega)) (hJ _ (by omega) (by omega))⟩, CLd_f a3 (hf _ (by omega)), CIm_f a4 (fun x hx => hf _ (by omega)), CTp_f a5 (hf _ (by omega)) (hf _ (by omega)), CCh_f a6 (fun x hx => hf _ (by omega)), CSt_f a7 (fun x hx => hf _ (by omega)), a8, a9⟩
theorem MIm_f (h : MIm I im) (h1 : I' 54 23 = I 54 23) (h2 : I' 54 24 = I 54 24) (h3 : I' 70 = I 70) (h4 : I' 71 = I 71) : MIm I' im := by
  unfold MIm Kp
  rw [h1, h2, h3, h4]
  exact h
theorem MCh_f (h : MCh I ch) (h1 : I' 54 28 = I 54 28) (h2 : I' 54 27 = I 54 27) (h3 : I' 72 = I 72) : MCh I' ch := by
  unfold MCh
  rw [h1, h2, h3]
  exact h
theorem MSt_f (h : MSt I st) (h1 : I' 54 30 = I 54 30) (h2 : I' 54 32 = I 54 32) (h3 : I' 73 = I 73) (h4 : I' 74 = I 74) : MSt I' st := by
  unfold MSt
  rw [h1, h2, h3, h4]
  exact h
theorem MTp_f (h : MTp I tp) (h1 : I' 54 4 = I 54 4) (h2 : I' 58 = I 58) : MTp I' tp := by
  unfold MTp
  rw [h1, h2]
  exact h
theorem MSh_f {s : Nat} {hk : Int32} {ln : Nat} {el : Nat → Int64} (h : MSh I J s hk ln el) (h5 : I' 75 = I 75) (h6 : I' 76 = I 76) (h7 : J' 77 = J 77) : MSh I' J' s hk ln el := by
  unfold MSh
  rw [h5, h6, h7]
  exact h
theorem MA_f (h : MA I J sh ld im tp ch st) (hs : ∀ i, i = 4 ∨ i = 23 ∨ i = 24 ∨ i = 27 ∨ i = 28 ∨ i = 30 ∨ i = 32 → I' 54 i = I 54 i) (hf : ∀ x, x = 58 ∨ (69 ≤ x ∧ x ≤ 76) → I' x = I x) (hJ : J' 77 = J 77) : MA I' J' sh ld im tp ch st := by
  obtain ⟨a1, a2, a3, a4, a5, a6⟩ := h
  exact ⟨fun s hs' => MSh_f (a1 s hs') (hf _ (by omega)) (hf _ (by omega)) hJ, fun i hi => by rw [hf 69 (by omega)]; exact a2 i hi, MIm_f a3 (hs _ (by omega)) (hs _ (by omega)) (hf _ (by omega)) (hf _ (by omega)), MTp_f a4 (hs _ (by omega)) (hf _ (by omega)), MCh_f a5 (hs _ (by omega)) (hs _ (by omega)) (hf _ (by omega)), MSt_f a6 (hs _ (by omega)) (hs _ (by omega)) (hf _ (by omega)) (hf _ (by omega))⟩
/-- a call that only thinks -/
theorem Rel_th {J1 : tJ} (hT : T.length ≤ 600000 ∧ rSl T ≤ 7302250) (hb : b ≠ b2 ∧ (b = 27 ∨ b = 30)) (hH : HS T I R b n l r) (hC : CA T I J R b2 sh ld im tp ch st) (hA : MA I J sh ld im tp ch st) (hP : PA n r sh im tp ch st) (h1 : frC b I I1) (h2 : frM I1 I2) (hM : MS T I2 R n l r) (hJ : ∀ x, x ≠ 24 → J1 x = J x) : Rl (T, I2, J1, R) := by
  refine ⟨hT.1, hT.2, b, b2, n, l, r, sh, ld, im, tp, ch, st, hb, HS_f2 hH (fun x hx => ?_), CA_f hC (fun x hx => ?_) (fun x x1 x2 => hJ x (by omega)), hM, MA_f hA (fun i hi => ?_) (fun x hx => ?_) (hJ 77 (by decide)), hP⟩
  · show I2 x = I x
    rw [h2 x (by omega), h1 x (by omega) (by omega)]
  · show I2 x = I x
    rw [h2 x (by omega), h1 x (by omega) (by omega)]
  · show I2 54 i = I 54 i
    rw [h2 54 (by omega), h1 54 (by omega) (by omega)]
  · show I2 x = I x
    rw [h2 x (by omega), h1 x (by omega) (by omega)]
theorem MS_frC (h : MS T I R n l r) (hb : b ≤ 30) (hf : frC b I I') : MS T I' R n l r := MS_fr h (fun x hx => hf x (by omega) (by omega))
theorem MSh_frC {s : Nat} {hk : Int32} {ln : Nat} {el : Nat → Int64} (h : MSh I J s hk ln el) (hb : b ≤ 30) (hf : frC b I I') : MSh I' J s hk ln el := MSh_f h (hf 75 (by omega) (by omega)) (hf 76 (by omega) (by omega)) rfl
theorem j_think (S : Nat → tL → (Nat → Nat → Int32) → Int32) (hc : ∀ (T : tT) (I : tI) (J : tJ) (R : tR) (b n : Nat) (l : tL) (r : Nat → Nat → Int32) (Q : tQ), HS T I R b n l r → (∀ I' : tI, frC b I I' → Q (some (.int (S n l r))) (T, I', J, R)) → Ex X d1 MC 0 LC [] (T, I, J, R) Q)
    (hm : ∀ (T : tT) (I : tI) (J : tJ) (R : tR) (n : Nat) (l : tL) (r : Nat → Nat → Int32) (Q : tQ), MS T I R n l r → (∀ I' : tI, frM I I' → MS T I' R n l r → Q (some (.int (S n l r))) (T, I', J, R)) → Ex X d2 MM 0 LM [] (T, I, J, R) Q) : Jn X d1 d2 MC LC MM LM := by
  rintro T I J R ⟨ht1, ht2, b, b2, n, l, r, sh, ld, im, tp, ch, st, hb, hH, hC, hM, hA, hP⟩
  refine ⟨S n l r, hc T I J R b n l r _ hH (fun I1 h1 => ⟨rfl, rfl, ?_⟩)⟩
  refine hm T I1 J R n l r _ (MS_frC hM (by omega) h1) (fun I2 h2 hM2 => ⟨rfl, ?_⟩)
  exact Rel_th ⟨ht1, ht2⟩ hb hH hC hA hP h1 h2 hM2 (fun _ _ => rfl)
theorem j_shelf (S : Nat → tL → (Nat → Nat → Int32) → tSh → Int32) (hc : ∀ (T : tT) (I : tI) (J : tJ) (R : tR) (b n : Nat) (l : tL) (r : Nat → Nat → Int32) (sh : tSh) (Q : tQ), HS T I R b n l r → HSh T R → (∀ s, s < 6 → CSh T I J R s (sh.1 s) (sh.2.1 s) (sh.2.2 s)) → (∀ I' : tI, frC b I I' → Q (some (.int (S n l r sh))) (T, I', J, R)) → Ex X d1 MC 0 LC [] (T, I, J, R) Q)
    (hm : ∀ (T : tT) (I : tI) (J : tJ) (R : tR) (n : Nat) (l : tL) (r : Nat → Nat → Int32) (sh : tSh) (Q : tQ), MS T I R n l r → (∀ s, s < 6 → MSh I J s (sh.1 s) (sh.2.1 s) (sh.2.2 s)) → (∀ I' : tI, frM I I' → MS T I' R n l r → Q (some (.int (S n l r sh))) (T, I', J, R)) → Ex X d2 MM 0 LM [] (T, I, J, R) Q) : Jn X d1 d2 MC LC MM LM := by
  rintro T I J R ⟨ht1, ht2, b, b2, n, l, r, sh, ld, im, tp, ch, st, hb, hH, hC, hM, hA, hP⟩
  refine ⟨S n l r sh, hc T I J R b n l r sh _ hH hC.1.1 hC.1.2 (fun I1 h1 => ⟨rfl, rfl, ?_⟩)⟩
  refine hm T I1 J R n l r sh _ (MS_frC hM (by omega) h1) (fun s hs => MSh_frC (hA.1 s hs) (by omega) h1) (fun I2 h2 hM2 => ⟨rfl, ?_⟩)
  exact Rel_th ⟨ht1, ht2⟩ hb hH hC hA hP h1 h2 hM2 (fun _ _ => rfl)
theorem j_goes {v : Int32} : Jn X (d + 50) (d + 50) mX6_goes [.ref 0, .int v] mX7_goes [.ref 54, .int v] := j_think (fun n l r => goesS n l r v) (fun _ _ _ _ _ _ _ _ _ h k => c_goes (d := d + 46) h k) (fun _ _ _ _ _ _ _ _ h k => m_goes (d := d + 44) h k)
theorem j_later {D p w : Int32} : Jn X (d + 50) (d + 50) mX6_later [.ref 0, .int D, .int p, .int w, rU] mX7_later [.ref 54, .int D, .int p, .int w, rU] := j_think (fun n l r => laterS n l r D p w) (fun _ _ _ _ _ _ _ _ _ h k => c_later (d := d + 45) h k) (fun _ _ _ _ _ _ _ _ h k => m_later (d := d + 44) h k)
theorem j_river {D w : Int32} : Jn X (d + 50) (d + 50) mX6_river [.ref 0, .int D, .int w] mX7_river [.ref 54, .int D, .int w, rU] := j_think (fun n l r => riverS n l r D w) (fun _ _ _ _ _ _ _ _ _ h k => c_river (d := d + 45) h k) (fun _ _ _ _ _ _ _ _ h k => m_river (d := d + 44) h k)
theorem j_over {v : Int32} : Jn X (d + 50) (d + 50) mX6_over [.ref 0, .int v, rU, rU, rU, rU] mX7_over_ [.ref 54, .int v, rU, rU] := j_think (fun n l r => overS n l r v) (fun _ _ _ _ _ _ _ _ _ h k => c_over (d := d + 45) h k) (fun _ _ _ _ _ _ _ _ h k => m_over (d := d + 44) h k)
theorem j_signs {D p w : Int32} : Jn X (d + 50) (d + 50) mX6_signs [.ref 0, .int D, .int p, .int w, rU, rU, rU, rU, rU, rU, rU] mX7_signs [.ref 54, .int D, .int p, .int w, rU, rU, rU, rU, rU] := j_think (fun n l r => signsS n l r D p w) (fun _ _ _ _ _ _ _ _ _ h k => c_signs (d := d + 45) h k) (fun _ _ _ _ _ _ _ _ h k => m_signs (d := d + 44) h k)
theorem j_throwIn {f x : Int32} : Jn X (d + 50) (d + 50) mX6_throwIn [.ref 0, .int f, .int x, rU, rU, rU, rU, rU] mX7_throwIn [.ref 54, .int f, .int x, rU, rU] := j_think (fun n l r => throwS n l r f x) (fun _ _ _ _ _ _ _ _ _ h k => c_throwIn (d := d + 44) h k) (fun _ _ _ _ _ _ _ _ h k => m_throwIn (d := d + 43) h k)
theorem j_bridges {D w : Int32} : Jn X (d + 50) (d + 50) mX6_bridges [.ref 0, .int D, .int w, rU, rU, rU, rU, rU, rU, rU, rU] mX7_bridges [.ref 54, .int D, .int w, rU, rU, rU, rU, rU, rU] := j_think (fun n l r => bridgesS n l r D w) (fun _ _ _ _ _ _ _ _ _ h k => c_bridges (d := d + 44) h k) (fun _ _ _ _ _ _ _ _ h k => m_bridges (d := d + 44) h k)
theorem j_ring {p D : Int32} : Jn X (d + 50) (d + 50) mX6_ring [.ref 0, .int p, .int D, rU, rU, rU, rU] mX7_ring [.ref 54, .int p, .int D, rU, rU, rU, rU, rU] := j_think (fun n l r => ringS n l r p D) (fun _ _ _ _ _ _ _ _ _ h k => c_ring (d := d + 45) h k) (fun _ _ _ _ _ _ _ _ h k => m_ring (d := d + 44) h k)
theorem j_byTurns {ab nt w : Int32} : Jn X (d + 50) (d + 50) mX6_byTurns [.ref 0, .int ab, .int nt, .int w, rU, rU, rU, rU, rU, rU, rU, rU] mX7_byTurns [.ref 54, .int ab, .int nt, .int w, rU, rU, rU, rU] := j_think (fun n l r => byTurnsS n l r ab nt w) (fun _ _ _ _ _ _ _ _ _ h k => c_byTurns (d := d + 30) h k) (fun _ _ _ _ _ _ _ _ h k => m_byTurns (d := d + 20) h k)
theorem j_drawn {z w rc : Int32} : Jn X (d + 50) (d + 50) mX6_drawn [.ref 0, .int z, .int w, .int rc, rU, rU, rU, rU, rU, rU, rU] mX7_drawn [.ref 54, .int z, .int w, .int rc, rU, rU, rU, rU, rU, rU] := j_think (fun n l r => drawnS n l r z w rc) (fun _ _ _ _ _ _ _ _ _ h k => c_drawn (d := d + 44) h k) (fun _ _ _ _ _ _ _ _ h k => m_drawn (d := d + 44) h k)
theorem j_judge {s p : Int32} : Jn X (d + 50) (d + 50) mX6_judge [.ref 0, .int s, .int p] mX7_judge [.ref 54, .int s, .int p, rU] := j_shelf (fun n l r sh => judgeF n l r sh.1 sh.2.1 sh.2.2 s p) (fun _ _ _ _ _ _ _ _ _ _ h hh hS k => c_judge (d := d + 44) h hh hS k) (fun _ _ _ _ _ _ _ _ _ h hS k => m_judge (d := d + 43) h hS k)
theorem j_fits {s p x w : Int32} : Jn (rX L0 xs) (d + 50) (d + 50) mX6_fits [.ref 0, .int s, .int p, .int x, .int w, rU, rU, rU, rU, rU] mX7_fits [.ref 54, .int s, .int p, .int x, .int w, rU, rU, rU, rU, rU, rU, rU] := j_shelf (fun n l r sh => fitsF n l r sh.1 sh.2.1 sh.2.2 s p x w) (fun _ _ _ _ _ _ _ _ _ _ h hh hS k => c_fits (d := d + 44) h hh hS k) (fun _ _ _ _ _ _ _ _ _ h hS k => m_fits (d := d + 43) h hS k)
theorem j_odd {s w : Int32} : Jn X (d + 50) (d + 50) mX6_odd [.ref 0, .int s, .int w, rU] mX7_odd [.ref 54, .int s, .int w] := j_shelf (fun n l r sh => oddS sh.1 sh.2.1 sh.2.2 s w) (fun _ I _ _ b _ _ _ _ _ h hh hS k => c_odd (d := d + 47) h.1 hh hS (k I (frC_r b I))) (fun _ _ _ _ _ _ _ _ _ h hS k => m_odd (d := d + 47) h hS k)
theorem j_hears {s w : Int32} : JnL X (d + 50) (d + 50) mX6_hears [.ref 0, .int s, .int w, rU, rU, rU, rU, rU] mX7_hears [.ref 54, .int s, .int w, rU, rU, rU, rU, rU] := by
  rintro T I J R ⟨ht1, ht2, b, b2, n, l, r, sh, ld, im, tp, ch, st, hb, hH, hC, hM, hA, hP⟩
  refine ⟨hearsS sh.1 sh.2.1 sh.2.2 s w, c_hears (d := d + 47) hH.1 hC.1.1 hC.1.2 ⟨rfl, rfl, ?_⟩⟩
  refine m_hears (d := d + 47) hM hA.1 (fun I2 h2 hM2 => ⟨rfl, ?_⟩)
  exact Rel_th ⟨ht1, ht2⟩ hb hH hC hA hP (frC_r b I) h2 hM2 (fun _ _ => rfl)
theorem j_still : Jn X (d + 50) (d + 50) mX6_still [.ref 0, rU, rU, rU] mX7_still [.ref 54, rU, rU] := by
  rintro T I J R ⟨ht1, ht2, b, b2, n, l, r, sh, ld, im, tp, ch, st, hb, hH, hC, hM, hA, hP⟩
  refine ⟨stillS n l r, c_still (d := d + 45) hH hC.2.2.2.2.2.2.1 hC.2.2.2.2.2.2.2 (fun I1 J1 h1 hJ => ⟨rfl, rfl, ?_⟩)⟩
  refine m_still (d := d + 44) (MS_frC hM (by omega) h1) (fun I2 h2 hM2 => ⟨rfl, ?_⟩)
  exact Rel_th ⟨ht1, ht2⟩ hb hH hC hA hP h1 h2 hM2 hJ
end RE
