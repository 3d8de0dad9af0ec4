/-! PURE: one number of a river set, on both sides; division -/
theorem z_div {a b : Nat} (ha : a < 2 ^ 31) (hb : b < 2 ^ 31) : nI a / nI b = nI (a / b) := by
  have hq : a / b < 2 ^ 31 := Nat.lt_of_le_of_lt (Nat.div_le_self a b) ha
  apply Int32.toInt_inj.mp
  rw [Int32.toInt_div, nI_toInt ha, nI_toInt hb, nI_toInt hq, Int.tdiv_eq_ediv_of_nonneg (by omega), ← Int.natCast_ediv]
  generalize a / b = c at hq
  rw [Int.bmod_def]
  omega
def stS (r : Nat → Nat → Int32) (k p : Nat) (v : Int32) : Nat → Nat → Int32 := va_up r k (va_up (r k) p v)
theorem st_at (r : Nat → Nat → Int32) (k p : Nat) (v : Int32) : stS r k p v k p = v := by unfold stS; rw [up_self, up_self]
theorem st_k {r : Nat → Nat → Int32} {k p : Nat} {v : Int32} {x i : Nat} (h : x ≠ k) : stS r k p v x i = r x i := by unfold stS; rw [up_ne _ _ h]
theorem st_i {r : Nat → Nat → Int32} {k p : Nat} {v : Int32} {x i : Nat} (h : i ≠ p) : stS r k p v x i = r x i := by
  by_cases e : x = k
  · subst e
    unfold stS
    rw [up_self, up_ne _ _ h]
  · exact st_k e
theorem st_ok {n : Nat} {r : Nat → Nat → Int32} {k p : Nat} {v : Int32} (h : rvOk n r) (hk : k ≤ 4) (hv : k = 0 → ¬ v < 0 ∧ v ≤ 99) : rvOk n (stS r k p v) := by
  obtain ⟨h1, t, h7, h5⟩ := h
  refine ⟨fun i hi => ?_, t, h7, by rw [st_k (by omega)]; exact h5⟩
  by_cases e : k = 0
  · subst e
    by_cases e2 : i = p
    · subst e2
      rw [st_at]
      exact hv rfl
    · rw [st_i e2]
      exact h1 i hi
  · rw [st_k (by omega)]
    exact h1 i hi
theorem sB_st {n : Nat} {q r : Nat → Nat → Int32} {k p : Nat} {v : Int32} (h : sB n q r) (hk : k = 0 ∨ k = 2 ∨ k = 3) : sB n (stS q k p v) r := by
  obtain ⟨h1, h4, h5⟩ := h
  refine ⟨fun i hi => ?_, fun i hi => ?_, ?_⟩
  · rw [st_k (by omega)]; exact h1 i hi
  · rw [st_k (by omega)]; exact h4 i hi
  · rw [st_k (by omega)]; exact h5
section SE
variable {X : tX} {T : tT} {I I' : tI} {J : tJ} {R : tR} {Q : tQ} {d a b c p n t D k : Nat} {σ : rS} {l : tL} {r q : Nat → Nat → Int32} {v : Int32}
theorem can_st {f g : Nat → Nat → Int32} (hr : can n f = r) (hk : k ≤ 4) (hp : p < if k < 4 then n else 7) (h : ∀ x i, x ≤ 5 → (x ≠ k ∨ i ≠ p) → ((x < 4 ∧ i < n) ∨ (x = 4 ∧ i < 7) ∨ (x = 5 ∧ i < 2)) → g x i = f x i) (h2 : g k p = v) : can n g = stS r k p v := by
  funext x i
  by_cases e : x = k ∧ i = p
  · obtain ⟨rfl, rfl⟩ := e
    rw [st_at]
    unfold can
    rw [if_pos, h2]
    by_cases q : x < 4
    · rw [if_pos q] at hp
      omega
    · rw [if_neg q] at hp
      omega
  · have e2 : stS r k p v x i = r x i := by
      by_cases q : x = k
      · exact st_i (fun z => e ⟨q, z⟩)
      · exact st_k q
    rw [e2, ← hr]
    unfold can
    split
    · rename_i g1
      exact h x i (by omega) (by omega) g1
    · rfl
theorem st_can (h : can n r = r) (hk : k ≤ 4) (hp : p < if k < 4 then n else 7) : can n (stS r k p v) = stS r k p v := can_st h hk hp (fun x i _ hne _ => hne.elim st_k st_i) (st_at r k p v)
theorem CS_set (h : CS T I R a b n l r) (hk : k ≤ 4) (hp : p < if k < 4 then n else 7) (hv : k = 0 → ¬ v < 0 ∧ v ≤ 99) (he : I' (a + 1 + k) = va_up (I (a + 1 + k)) p v) (hf : ∀ x, x ≠ a + 1 + k → I' x = I x) : CS T I' R a b n l (stS r k p v) := by
  obtain ⟨hw, hv1, hab, hs, hl, hn, h8, hr, hok⟩ := h
  have fb := hf b (by omega)
  have fa := hf a (by omega)
  refine ⟨hw, hv1, hab, by rw [fb]; exact hs, by rw [cLw_eq fb (hf (b + 1) (by omega))]; exact hl, by rw [fa]; exact hn, h8, ?_, st_ok hok hk hv⟩
  refine can_st hr hk hp (fun x i hx hne _ => ?_) (by rw [vw_row _ _ _ hk, he, up_self])
  by_cases x5 : x = 5
  · subst x5
    show I' a (6 + i) = I a (6 + i)
    rw [fa]
  · rw [vw_row _ _ _ (by omega), vw_row _ _ _ (by omega)]
    by_cases e : x = k
    · subst e
      rw [he, up_ne _ _ (hne.resolve_left (fun z => z rfl))]
    · rw [hf (a + 1 + x) (by omega)]
theorem vm_row (I : tI) (hk : k < 4) (i : Nat) : vm I k i = I 55 (8 * k + i) := by
  have : k = 0 ∨ k = 1 ∨ k = 2 ∨ k = 3 := by omega
  rcases this with rfl | rfl | rfl | rfl
  · show I 55 i = I 55 (8 * 0 + i)
    rw [Nat.mul_zero, Nat.zero_add]
  · rfl
  · rfl
  · rfl
theorem MS_set (h : MS T I R n l r) (hk : k < 4) (hp : p < n) (hv : k = 0 → ¬ v < 0 ∧ v ≤ 99) (he : I' 55 = va_up (I 55) (8 * k + p) v) (hf : ∀ x, x ≠ 55 → I' x = I x) : MS T I' R n l (stS r k p v) := by
  obtain ⟨hm, hok, hn, h8, hl, hr, hk1⟩ := h
  have f54 := hf 54 (by decide)
  have f59 := hf 59 (by decide)
  have f60 := hf 60 (by decide)
  have f61 := hf 61 (by decide)
  have f62 := hf 62 (by decide)
  refine ⟨hm, fun z => mOk_eq f54 f59 f60 f61 f62 (hok (by rw [f54] at z; exact z)), by rw [f54]; exact hn, h8, by rw [mLw_eq f54 f59 f60 f61 f62]; exact hl, ?_, st_ok hk1 (by omega) hv⟩
  refine can_st hr (by omega) (by rw [if_pos hk]; exact hp) (fun x i hx hne hi => ?_) (by rw [vm_row _ hk, he, up_self])
  by_cases x4 : x < 4
  · rw [vm_row _ x4, vm_row _ x4, he, up_ne _ _ (by omega)]
  · by_cases x5 : x = 4
    · subst x5
      show I' 56 i = I 56 i
      rw [hf 56 (by decide)]
    · obtain rfl : x = 5 := by omega
      show I' 57 i = I 57 i
      rw [hf 57 (by decide)]
theorem MS_setR (h : MS T I R n l r) (hp : p < 7) (he : I' 56 = va_up (I 56) p v) (hf : ∀ x, x ≠ 56 → I' x = I x) : MS T I' R n l (stS r 4 p v) := by
  obtain ⟨hm, hok, hn, h8, hl, hr, hk1⟩ := h
  have f54 := hf 54 (by decide)
  have f55 := hf 55 (by decide)
  have f59 := hf 59 (by decide)
  have f60 := hf 60 (by decide)
  have f61 := hf 61 (by decide)
  have f62 := hf 62 (by decide)
  refine ⟨hm, fun z => mOk_eq f54 f59 f60 f61 f62 (hok (by rw [f54] at z; exact z)), by rw [f54]; exact hn, h8, by rw [mLw_eq f54 f59 f60 f61 f62]; exact hl, ?_, st_ok hk1 (by omega) (fun z => absurd z (by decide))⟩
  refine can_st hr (by omega) hp (fun x i hx hne hi => ?_) (by show I' 56 p = v; rw [he, up_self])
  by_cases x4 : x < 4
  · rw [vm_row _ x4, vm_row _ x4, f55]
  · by_cases x5 : x = 4
    · subst x5
      show I' 56 i = I 56 i
      rw [he, up_ne _ _ (hne.resolve_left (fun z => z rfl))]
    · obtain rfl : x = 5 := by omega
      show I' 57 i = I 57 i
      rw [hf 57 (by decide)]
end SE
