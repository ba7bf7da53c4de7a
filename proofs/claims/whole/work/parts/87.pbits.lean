/-! sets of tables as numbers below 16 -/
theorem b_and : ∀ a, a < 16 → ∀ b, b < 16 → nI a &&& nI b = nI (a &&& b) := by decide +kernel
theorem b_or : ∀ a, a < 16 → ∀ b, b < 16 → nI a ||| nI b = nI (a ||| b) := by decide +kernel
theorem b_xor : ∀ a, a < 16 → ∀ b, b < 16 → nI a ^^^ nI b = nI (a ^^^ b) := by decide +kernel
/-- a without b -/
theorem b_diff : ∀ a, a < 16 → ∀ b, b < 16 → nI a &&& (nI b ^^^ (-1 : Int32)) = nI (a &&& (15 - b)) := by decide +kernel
theorem b_shl : ∀ t, t < 5 → (1 : Int32) <<< (nI t &&& 31) = nI (2 ^ t) := by decide +kernel
theorem b_all : ∀ t, t < 5 → ((1 : Int32) <<< (nI t &&& 31)) - (1 : Int32) = nI (2 ^ t - 1) := by decide +kernel
theorem b_bit : ∀ a, a < 16 → ∀ t, t < 4 → ((nI a >>> (nI t &&& 31)) &&& (1 : Int32)) = nI (a / 2 ^ t % 2) := by decide +kernel
theorem b_and_lt : ∀ a, a < 16 → ∀ b, b < 16 → a &&& b < 16 := by decide +kernel
theorem b_or_lt : ∀ a, a < 16 → ∀ b, b < 16 → a ||| b < 16 := by decide +kernel
theorem b_pow_lt : ∀ t, t < 4 → 2 ^ t < 16 := by decide +kernel
theorem b_two_lt : ∀ t, t < 4 → ∀ u, u < 4 → t < u → 2 ^ t + 2 ^ u < 16 := by decide +kernel
theorem b_two_or : ∀ t, t < 4 → ∀ u, u < 4 → t < u → 2 ^ t + 2 ^ u = 2 ^ t ||| 2 ^ u := by decide +kernel
theorem nI_eq0 {a : Nat} (h : a < 2 ^ 31) : nI a = 0 ↔ a = 0 := by rw [← nI_0, nI_eq h (by omega)]
/-- a pairing's two tables as a set; 0 where there is no such pairing -/
def qe (q : Qd) (p : Nat) : Nat := if p < qP q then 2 ^ qt q p + 2 ^ qu q p else 0
theorem qe_lt {q : Qd} (hq : WfQ q) (p : Nat) : qe q p < 16 := by
  unfold qe
  split
  · rename_i h
    obtain ⟨b1, b2, -⟩ := hq.2.2.2.2.1 p h
    have := hq.1
    exact b_two_lt _ (by omega) _ (by omega) b1
  · omega
theorem qe_C {q : Qd} {σ : CSt} (hC : CQd q σ) {p : Nat} (hp : p < 4) : σ.2.2.1 311 p = nI (qe q p) := by
  unfold qe
  split
  · rename_i h
    exact (hC.2.2.2.2.2.2.1 p h).2.2.2.2.1
  · rename_i h
    rw [hC.2.2.2.2.2.2.2.1 p (by omega) hp]
    rfl
/-- is pairing p between the sets l and r -/
abbrev btw (q : Qd) (p l r : Nat) : Prop := (2 ^ qt q p &&& l ≠ 0 ∧ 2 ^ qu q p &&& r ≠ 0) ∨ (2 ^ qt q p &&& r ≠ 0 ∧ 2 ^ qu q p &&& l ≠ 0)
theorem fM_isBetween_ok {N : Nat} {q : Qd} {τ : MSt} (hq : WfQ q) (hM : MQd q τ) {p l r : Nat} (hp : p < qP q) (hl : l < 16) (hr : r < 16) : ∃ b : Int32, fM_isBetween N τ (nI p) (nI l) (nI r) = some b ∧ ((b = 1 ∧ btw q p l r) ∨ (b = 0 ∧ ¬ btw q p l r)) := by
  have hP := hq.2.1
  have hT := hq.1
  obtain ⟨b1, b2, -⟩ := hq.2.2.2.2.1 p hp
  obtain ⟨c1, -, c3, -⟩ := hM.2.2.2.2.2.2 p hp
  have t16 := b_pow_lt (qt q p) (by omega)
  have u16 := b_pow_lt (qu q p) (by omega)
  unfold fM_isBetween fM_isBetween_J34 btw
  simp only [nI_cl (show p < 2 ^ 31 by omega), c1, c3, b_shl (qt q p) (by omega), b_shl (qu q p) (by omega), b_and _ t16 _ hl, b_and _ t16 _ hr, b_and _ u16 _ hl, b_and _ u16 _ hr]
  rw [chk_nI (by omega) (by omega), chk_nI (by omega) (by omega)]
  simp only [nI_eq0 (show 2 ^ qt q p &&& l < 2 ^ 31 by have := b_and_lt _ t16 _ hl; omega), nI_eq0 (show 2 ^ qt q p &&& r < 2 ^ 31 by have := b_and_lt _ t16 _ hr; omega), nI_eq0 (show 2 ^ qu q p &&& l < 2 ^ 31 by have := b_and_lt _ u16 _ hl; omega), nI_eq0 (show 2 ^ qu q p &&& r < 2 ^ 31 by have := b_and_lt _ u16 _ hr; omega)]
  by_cases g1 : 2 ^ qt q p &&& l = 0 <;> by_cases g2 : 2 ^ qu q p &&& r = 0 <;> by_cases g3 : 2 ^ qt q p &&& r = 0 <;> by_cases g4 : 2 ^ qu q p &&& l = 0 <;> simp [g1, g2, g3, g4]
