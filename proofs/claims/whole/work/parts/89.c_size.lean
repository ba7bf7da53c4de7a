/-! sizes: the reference -/
def opB (q : Qd) (S : Nat) : Nat → Int32
  | 0 => 0
  | p + 1 => if ins q S p ∧ qs q p = 0 then 1 else opB q S p
theorem opB_01 (q : Qd) (S : Nat) : ∀ p, opB q S p = 0 ∨ opB q S p = 1 := by
  intro p
  induction p with
  | zero => exact Or.inl rfl
  | succ p ih =>
    have e : opB q S (p + 1) = if ins q S p ∧ qs q p = 0 then (1 : Int32) else opB q S p := rfl
    by_cases h : ins q S p ∧ qs q p = 0
    · rw [if_pos h] at e
      exact Or.inr e
    · rw [if_neg h] at e
      rw [e]
      exact ih
def szA (q : Qd) (S : Nat) : Int64 := if opB q S (qP q) = 0 then lN (sz q S) else 0
def szB (q : Qd) (S : Nat) : Int64 := if opB q S (qP q) = 0 then 0 else lN (sz q S)
theorem sizeM_pairs {N : Nat} {q : Qd} {τ : MSt} (hq : WfQ q) (hM : MQd q τ) (K : MSt → Int64 → Int32 → Int32 → Option MSt) {S R : Nat} (hS : S < 16) : ∀ (n k p : Nat), p + k = qP q → k < n → fM_size_L50 N K n τ (nI S) (lN (R * shP q S p)) (opB q S p) (nI (4 - cntP q S p)) (nI p) = K τ (lN (R * shP q S (qP q))) (opB q S (qP q)) (nI (4 - cntP q S (qP q))) := by
  have hP := hq.2.1
  have hT := hq.1
  intro n
  induction n with
  | zero => intro k p _ h; omega
  | succ n ih =>
    intro k p hpk hn
    rw [fM_size_L50, hM.2.1]
    cases k with
    | zero => rw [if_pos (nI_le (by omega) (by omega)), show p = qP q by omega]
    | succ k =>
      have hp : p < qP q := by omega
      obtain ⟨b1, b2, -, -, b5⟩ := hq.2.2.2.2.1 p hp
      obtain ⟨c1, -, c3, -, c5⟩ := hM.2.2.2.2.2.2 p hp
      have hs : shP q S (p + 1) = shP q S p * (if ins q S p then (if qs q p = 0 then 1 else qs q p) else 1) := rfl
      have hc : cntP q S (p + 1) = cntP q S p + (if ins q S p then 1 else 0) := rfl
      have ho : opB q S (p + 1) = if ins q S p ∧ qs q p = 0 then 1 else opB q S p := rfl
      have hcl := cntP_le q S p
      rw [if_neg (nI_ge hp (by omega)), chk_nI (by omega) (by omega), chk_nI (by omega) (by omega), chk_nI (by omega) (by omega), chk_nI (by omega) (by omega), nI_cl (by omega), c1, c3, c5, b_bit S hS _ (by omega), b_bit S hS _ (by omega), nI_1]
      have out : ¬ ins q S p → fM_size_L50 N K n τ (nI S) (lN (R * shP q S p)) (opB q S p) (nI (4 - cntP q S p)) (nI (p + 1)) = K τ (lN (R * shP q S (qP q))) (opB q S (qP q)) (nI (4 - cntP q S (qP q))) := by
        intro h
        have h1 : shP q S (p + 1) = shP q S p := by rw [hs, if_neg h, Nat.mul_one]
        have h2 : cntP q S (p + 1) = cntP q S p := by rw [hc, if_neg h]; exact Nat.add_zero _
        have h3 : opB q S (p + 1) = opB q S p := by rw [ho, if_neg (fun g => h g.1)]
        rw [← h1, ← h2, ← h3]
        exact ih k (p + 1) (by omega) (by omega)
      by_cases g1 : S / 2 ^ qt q p % 2 = 0
      · rw [if_pos (by rw [g1]; exact nI_0)]
        exact out (fun h => by have := h.1; omega)
      · rw [if_neg (nI_ne0 (by omega) (by omega))]
        by_cases g2 : S / 2 ^ qu q p % 2 = 0
        · rw [if_pos (by rw [g2]; exact nI_0)]
          exact out (fun h => by have := h.2; omega)
        · rw [if_neg (nI_ne0 (by omega) (by omega))]
          have hin : ins q S p := ⟨by omega, by omega⟩
          have h2 : cntP q S (p + 1) = cntP q S p + 1 := by rw [hc, if_pos hin]
          have e5 : nI (4 - cntP q S p) + (-1) = nI (4 - cntP q S (p + 1)) := by
            rw [h2, show 4 - cntP q S p = (4 - (cntP q S p + 1)) + 1 by omega]
            exact pk_m1 _
          rw [e5]
          by_cases g3 : qs q p = 0
          · have h1 : shP q S (p + 1) = shP q S p := by rw [hs, if_pos hin, if_pos g3, Nat.mul_one]
            have h3 : opB q S (p + 1) = 1 := by rw [ho, if_pos ⟨hin, g3⟩]
            rw [if_pos (by rw [g3]; exact nI_0), ← h1, ← h3]
            exact ih k (p + 1) (by omega) (by omega)
          · have h1 : shP q S (p + 1) = shP q S p * qs q p := by rw [hs, if_pos hin, if_neg g3]
            have h3 : opB q S (p + 1) = opB q S p := by rw [ho, if_neg (fun g => g3 g.2)]
            rw [if_neg (nI_ne0 (by omega) (by omega)), nI_l (by omega), lN_mul, Nat.mul_assoc, ← h1, ← h3]
            exact ih k (p + 1) (by omega) (by omega)
theorem rowsP_top {q : Qd} {S : Nat} (hS : S < 2 ^ qT q) : ∀ j, rowsP q S (qT q + j) = rowsP q S (qT q) := by
  intro j
  induction j with
  | zero => rfl
  | succ j ih =>
    show rowsP q S (qT q + j) * (if S / 2 ^ (qT q + j) % 2 = 0 then 1 else qr q (qT q + j)) = _
    have : S / 2 ^ (qT q + j) = 0 := Nat.div_eq_of_lt (Nat.lt_of_lt_of_le hS (Nat.pow_le_pow_right (by omega) (by omega)))
    rw [this, if_pos rfl, Nat.mul_one, ih]
theorem sizeM {N : Nat} (hN : 6 ≤ N) {q : Qd} {τ : MSt} (hq : WfQ q) (hM : MQd q τ) {S : Nat} (hS : S < 2 ^ qT q) : fM_size N τ (nI S) = some (sJ (sJ τ 14 (szA q S)) 15 (szB q S)) := by
  have hT := hq.1
  have hP := hq.2.1
  have hS16 : S < 16 := Nat.lt_of_lt_of_le hS (by have := Nat.pow_le_pow_right (n := 2) (by omega) hT; exact this)
  have hc := cntP_le q S (qP q)
  unfold fM_size
  have e1 : (1 : Int64) = lN (rowsP q S 0) := rfl
  have e4 : (4 : Int32) = nI (4 - cntP q S 0) := rfl
  have e0 : (0 : Int32) = opB q S 0 := rfl
  have h1 := sizeM_rows (N := N) hq hM (fun (σ : MSt) (x1 : Int32) (x2 : Int64) (x4 : Int32) (x5 : Int32) => fM_size_L50 N (fun (σ : MSt) (x2 : Int64) (x4 : Int32) (x5 : Int32) => fM_size_L129 N (fun (σ : MSt) (x2 : Int64) (x4 : Int32) => (if x4 = 0 then (if x4 = 0 then some (sJ (sJ σ 14 x2) 15 (0 : Int64)) else some (sJ (sJ σ 14 x2) 15 x2)) else (if x4 = 0 then some (sJ (sJ σ 14 (0 : Int64)) 15 (0 : Int64)) else some (sJ (sJ σ 14 (0 : Int64)) 15 x2)))) N σ x2 x4 x5 (0 : Int32)) N σ x1 x2 x4 x5 (0 : Int32)) 0 4 hS16 N (qT q) 0 (by omega) (by omega)
  rw [nI_0] at h1
  refine Eq.trans h1 ?_
  have h2 := sizeM_pairs (N := N) (R := rowsP q S (qT q)) hq hM (fun (σ : MSt) (x2 : Int64) (x4 : Int32) (x5 : Int32) => fM_size_L129 N (fun (σ : MSt) (x2 : Int64) (x4 : Int32) => (if x4 = 0 then (if x4 = 0 then some (sJ (sJ σ 14 x2) 15 (0 : Int64)) else some (sJ (sJ σ 14 x2) 15 x2)) else (if x4 = 0 then some (sJ (sJ σ 14 (0 : Int64)) 15 (0 : Int64)) else some (sJ (sJ σ 14 (0 : Int64)) 15 x2)))) N σ x2 x4 x5 (0 : Int32)) hS16 N (qP q) 0 (by omega) (by omega)
  rw [nI_0] at h2
  have e : rowsP q S (qT q) * shP q S 0 = rowsP q S (qT q) := Nat.mul_one _
  rw [e] at h2
  refine Eq.trans h2 ?_
  have h3 := sizeM_fours (N := N) (τ := τ) (fun (σ : MSt) (x2 : Int64) (x4 : Int32) => (if x4 = 0 then (if x4 = 0 then some (sJ (sJ σ 14 x2) 15 (0 : Int64)) else some (sJ (sJ σ 14 x2) 15 x2)) else (if x4 = 0 then some (sJ (sJ σ 14 (0 : Int64)) 15 (0 : Int64)) else some (sJ (sJ σ 14 (0 : Int64)) 15 x2)))) (opB q S (qP q)) (m := 4 - cntP q S (qP q)) (v := rowsP q S (qT q) * shP q S (qP q)) (by omega) N (4 - cntP q S (qP q)) 0 (by omega) (by omega)
  rw [nI_0, Nat.pow_zero, Nat.mul_one] at h3
  refine Eq.trans h3 ?_
  have e9 : rowsP q S (qT q) * shP q S (qP q) * 4 ^ (4 - cntP q S (qP q)) = sz q S := by
    unfold sz
    rw [Nat.mul_assoc, ← rowsP_top hS (4 - qT q), show qT q + (4 - qT q) = 4 by omega]
  show (if opB q S (qP q) = 0 then _ else _) = _
  rw [e9]
  unfold szA szB
  by_cases h : opB q S (qP q) = 0
  · simp only [h, ↓reduceIte]
  · simp only [h, ↓reduceIte]
