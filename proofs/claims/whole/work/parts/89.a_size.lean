/-! sizes of sets, in parts of 256 and without x -/
def rowsP (q : Qd) (S : Nat) : Nat → Nat
  | 0 => 1
  | k + 1 => rowsP q S k * (if S / 2 ^ k % 2 = 0 then 1 else qr q k)
abbrev ins (q : Qd) (S p : Nat) : Prop := S / 2 ^ qt q p % 2 = 1 ∧ S / 2 ^ qu q p % 2 = 1
def shP (q : Qd) (S : Nat) : Nat → Nat
  | 0 => 1
  | p + 1 => shP q S p * (if ins q S p then (if qs q p = 0 then 1 else qs q p) else 1)
def cntP (q : Qd) (S : Nat) : Nat → Nat
  | 0 => 0
  | p + 1 => cntP q S p + (if ins q S p then 1 else 0)
def sz (q : Qd) (S : Nat) : Nat := rowsP q S 4 * (shP q S (qP q) * 4 ^ (4 - cntP q S (qP q)))
theorem cntP_le (q : Qd) (S : Nat) : ∀ p, cntP q S p ≤ p := by
  intro p
  induction p with
  | zero => exact Nat.le_refl _
  | succ p ih =>
    show cntP q S p + (if ins q S p then 1 else 0) ≤ p + 1
    split <;> omega
theorem shP_le {q : Qd} (hq : WfQ q) (S : Nat) : ∀ p, p ≤ qP q → shP q S p ≤ 4 ^ cntP q S p := by
  intro p
  induction p with
  | zero => intro _; exact Nat.le_refl _
  | succ p ih =>
    intro hp
    have h1 := ih (by omega)
    have h2 := (hq.2.2.2.2.1 p (by omega)).2.2.2.2
    show shP q S p * (if ins q S p then (if qs q p = 0 then 1 else qs q p) else 1) ≤ 4 ^ (cntP q S p + (if ins q S p then 1 else 0))
    by_cases h : ins q S p
    · rw [if_pos h, if_pos h, Nat.pow_succ]
      refine Nat.mul_le_mul h1 ?_
      split <;> omega
    · rw [if_neg h, if_neg h, Nat.mul_one, Nat.add_zero]
      exact h1
theorem shP_256 {q : Qd} (hq : WfQ q) (S p : Nat) (hp : p ≤ qP q) : shP q S p * 4 ^ (4 - cntP q S p) ≤ 256 := by
  have h1 := shP_le hq S p hp
  have h2 := cntP_le q S p
  have hP := hq.2.1
  calc shP q S p * 4 ^ (4 - cntP q S p) ≤ 4 ^ cntP q S p * 4 ^ (4 - cntP q S p) := Nat.mul_le_mul_right _ h1
    _ = 4 ^ (cntP q S p + (4 - cntP q S p)) := (Nat.pow_add _ _ _).symm
    _ = 256 := by rw [show cntP q S p + (4 - cntP q S p) = 4 by omega]
theorem rowsP_le {q : Qd} (hq : WfQ q) (S : Nat) : ∀ k, rowsP q S k ≤ 8 ^ k := by
  intro k
  induction k with
  | zero => exact Nat.le_refl _
  | succ k ih =>
    show rowsP q S k * (if S / 2 ^ k % 2 = 0 then 1 else qr q k) ≤ 8 ^ (k + 1)
    rw [Nat.pow_succ]
    refine Nat.mul_le_mul ih ?_
    have := hq.2.2.1 k
    split <;> omega
theorem sz_le {q : Qd} (hq : WfQ q) (S : Nat) : sz q S ≤ 1048576 := by
  have h1 := rowsP_le hq S 4
  have h2 := shP_256 hq S (qP q) (Nat.le_refl _)
  exact Nat.mul_le_mul h1 h2
theorem b_in : ∀ t, t < 4 → ∀ u, u < 4 → t < u → ∀ S, S < 16 → ((2 ^ t + 2 ^ u) &&& S = 2 ^ t + 2 ^ u ↔ S / 2 ^ t % 2 = 1 ∧ S / 2 ^ u % 2 = 1) := by decide +kernel
theorem rowsOf_any {N : Nat} {q : Qd} {σ : CSt} (hq : WfQ q) (hC : CQd q σ) {i : Nat} (hi : i < 4) : fQ_rowsOf N σ (nI i) = some (nI (qr q i)) := by
  have hT := hq.1
  by_cases h : i < qT q
  · exact rowsOf_t hC hT h
  · rw [rowsOf_f hC (fun h2 => by
      obtain ⟨t, ht, e⟩ := (isT_nat hT).mp h2
      have := (nI_eq (by omega) (by omega)).mp e
      omega), hq.2.2.2.1 i (by omega), nI_0]
theorem isPairing_t {N : Nat} {q : Qd} {σ : CSt} (hq : WfQ q) (hC : CQd q σ) {p : Nat} (hp : p < qP q) : fQ_isPairing N σ (nI p) = some 1 := by
  have hP := hq.2.1
  unfold fQ_isPairing
  rw [if_neg (nI_pos (by omega)), hC.2.1, if_neg (nI_ge hp (by omega)), if_neg (show ¬ (4 : Int32) ≤ nI p from nI_ge (b := 4) (by omega) (by omega))]
theorem isInside_ok {N : Nat} {q : Qd} {σ : CSt} (hq : WfQ q) (hC : CQd q σ) {p S : Nat} (hp : p < qP q) (hS : S < 16) : (fQ_isInside N σ (nI p) (nI S) = some 1 ∧ ins q S p) ∨ (fQ_isInside N σ (nI p) (nI S) = some 0 ∧ ¬ ins q S p) := by
  have hP := hq.2.1
  have hT := hq.1
  obtain ⟨b1, b2, -⟩ := hq.2.2.2.2.1 p hp
  have he := qe_lt hq p
  have hb := b_in (qt q p) (by omega) (qu q p) (by omega) b1 S hS
  have hqe : qe q p = 2 ^ qt q p + 2 ^ qu q p := if_pos hp
  unfold fQ_isInside
  rw [isPairing_t hq hC hp, bs, if_neg n10, chk_nI (by omega) (by omega), chk_nI (by omega) (by omega), nI_cl (by omega), qe_C hC (by omega), b_and _ he _ hS]
  by_cases h : qe q p &&& S = qe q p
  · rw [if_pos (by rw [h])]
    exact Or.inl ⟨rfl, hb.mp (by rw [← hqe]; exact h)⟩
  · rw [if_neg (fun e => h ((nI_eq (by have := b_and_lt _ he _ hS; omega) (by omega)).mp e))]
    exact Or.inr ⟨rfl, fun e => h (by rw [hqe]; exact hb.mpr e)⟩
theorem quarters_ok {N : Nat} {q : Qd} {σ : CSt} (hq : WfQ q) (hC : CQd q σ) {p : Nat} (hp : p < qP q) : fQ_quartersOf N σ (nI p) = some (nI (if qs q p = 0 then 1 else qs q p)) := by
  have hP := hq.2.1
  unfold fQ_quartersOf
  rw [isPairing_t hq hC hp, bs, if_neg n10, chk_nI (by omega) (by omega), nI_cl (by omega), (hC.2.2.2.2.2.2.1 p hp).2.2.2.2.2]
theorem sizeC_rows {N : Nat} {q : Qd} {σ : CSt} (hq : WfQ q) (hC : CQd q σ) (K : Int32 → Int64 → Option Int64) {S : Nat} (hS : S < 16) : ∀ (n k i : Nat), i + k = 4 → k < n → fZ_sizeWithoutX_L7 N σ K n (nI S) (lN (256 * rowsP q S i)) (nI i) = K (nI S) (lN (256 * rowsP q S 4)) := by
  intro n
  induction n with
  | zero => intro k i _ h; omega
  | succ n ih =>
    intro k i hik hn
    rw [fZ_sizeWithoutX_L7]
    cases k with
    | zero =>
      have e : i = 4 := by omega
      subst e
      rw [if_pos (by decide)]
    | succ k =>
      have hi : i < 4 := by omega
      have h8 := hq.2.2.1 i
      rw [if_neg (show ¬ (4 : Int32) ≤ nI i from nI_ge (b := 4) hi (by omega)), b_bit S hS i hi, nI_1, rowsOf_any hq hC hi, bs, nI_l (by omega), lN_mul]
      have hr : rowsP q S (i + 1) = rowsP q S i * (if S / 2 ^ i % 2 = 0 then 1 else qr q i) := rfl
      by_cases h0 : S / 2 ^ i % 2 = 0
      · rw [if_pos (by rw [h0]; exact nI_0)]
        rw [if_pos h0, Nat.mul_one] at hr
        rw [← hr]
        exact ih k (i + 1) (by omega) (by omega)
      · rw [if_neg (nI_ne0 (by omega) (by omega))]
        rw [if_neg h0] at hr
        rw [Nat.mul_assoc, ← hr]
        exact ih k (i + 1) (by omega) (by omega)
