/-! sizes: the class, the reference -/
theorem size_step {R s c w : Nat} (hc : c < 4) : R * (s * 4 ^ (4 - c)) / 4 * w = R * ((s * w) * 4 ^ (4 - (c + 1))) := by
  have e : 4 ^ (4 - c) = 4 ^ (4 - (c + 1)) * 4 := by rw [← Nat.pow_succ]; congr 1; omega
  rw [e, ← Nat.mul_assoc s, ← Nat.mul_assoc R, Nat.mul_div_cancel _ (by omega), Nat.mul_assoc R, Nat.mul_assoc s, Nat.mul_assoc s, Nat.mul_comm w]
theorem l4 : (4 : Int64) = lN 4 := rfl
theorem sizeC_pairs {N : Nat} {q : Qd} {σ : CSt} (hq : WfQ q) (hC : CQd q σ) {S : Nat} (hS : S < 16) : ∀ (n k p : Nat), p + k = qP q → k < n → fZ_sizeWithoutX_L44 N σ n (nI S) (lN (rowsP q S 4 * (shP q S p * 4 ^ (4 - cntP q S p)))) (nI p) = some (lN (sz q S)) := by
  have hP := hq.2.1
  intro n
  induction n with
  | zero => intro k p _ h; omega
  | succ n ih =>
    intro k p hpk hn
    rw [fZ_sizeWithoutX_L44, hC.2.1]
    cases k with
    | zero =>
      rw [if_pos (nI_le (by omega) (by omega)), show p = qP q by omega]
      rfl
    | succ k =>
      have hp : p < qP q := by omega
      have h5 := (hq.2.2.2.2.1 p hp).2.2.2.2
      have hs : shP q S (p + 1) = shP q S p * (if ins q S p then (if qs q p = 0 then 1 else qs q p) else 1) := rfl
      have hc : cntP q S (p + 1) = cntP q S p + (if ins q S p then 1 else 0) := rfl
      have hcl := cntP_le q S p
      have hb : rowsP q S 4 * (shP q S p * 4 ^ (4 - cntP q S p)) ≤ 1048576 := Nat.mul_le_mul (rowsP_le hq S 4) (shP_256 hq S p (by omega))
      rw [if_neg (nI_ge hp (by omega)), nI_1]
      rcases isInside_ok (N := N) hq hC hp hS with ⟨h1, h2⟩ | ⟨h1, h2⟩
      · rw [if_pos h2] at hs hc
        have e : rowsP q S 4 * (shP q S p * 4 ^ (4 - cntP q S p)) / 4 * (if qs q p = 0 then 1 else qs q p) = rowsP q S 4 * (shP q S (p + 1) * 4 ^ (4 - cntP q S (p + 1))) := by
          rw [hs, hc]
          exact size_step (by omega)
        have hw : (if qs q p = 0 then 1 else qs q p) < 2 ^ 31 := by split <;> omega
        rw [h1, bs, if_neg n10, quarters_ok hq hC hp, bs, l4, pk_lDiv (by omega) (by omega) (by omega), nI_l hw, lN_mul, e]
        unfold nz64
        rw [if_neg (by decide)]
        exact ih k (p + 1) (by omega) (by omega)
      · rw [if_neg h2, Nat.mul_one] at hs
        have hc2 : cntP q S (p + 1) = cntP q S p := by rw [hc, if_neg h2]; exact Nat.add_zero _
        rw [h1, bs, if_pos rfl, ← hs, ← hc2]
        exact ih k (p + 1) (by omega) (by omega)
theorem sizeC {N : Nat} (hN : 6 ≤ N) {q : Qd} {σ : CSt} (hq : WfQ q) (hC : CQd q σ) {S : Nat} (hS : S < 16) : fZ_sizeWithoutX N σ (nI S) = some (lN (sz q S)) := by
  have hP := hq.2.1
  have h1 := sizeC_rows (N := N) hq hC (fun (x1 : Int32) (x2 : Int64) => fZ_sizeWithoutX_L44 N σ N x1 x2 (0 : Int32)) hS N 4 0 rfl (by omega)
  have h2 := sizeC_pairs (N := N) hq hC hS N (qP q) 0 (by omega) (by omega)
  rw [nI_0] at h1 h2
  unfold fZ_sizeWithoutX
  refine Eq.trans h1 (Eq.trans ?_ h2)
  show fZ_sizeWithoutX_L44 N σ N (nI S) (lN (256 * rowsP q S 4)) 0 = fZ_sizeWithoutX_L44 N σ N (nI S) (lN (rowsP q S 4 * (1 * 4 ^ 4))) 0
  rw [Nat.mul_comm 256]
/-- the open pairing is inside -/
def opn (q : Qd) (S : Nat) : Prop := ∃ p, p < qP q ∧ qs q p = 0 ∧ ins q S p
theorem sizeM_rows {N : Nat} {q : Qd} {τ : MSt} (hq : WfQ q) (hM : MQd q τ) (K : MSt → Int32 → Int64 → Int32 → Int32 → Option MSt) (x4 x5 : Int32) {S : Nat} (hS : S < 16) : ∀ (n k i : Nat), i + k = qT q → k < n → fM_size_L11 N K n τ (nI S) (lN (rowsP q S i)) x4 x5 (nI i) = K τ (nI S) (lN (rowsP q S (qT q))) x4 x5 := by
  have hT := hq.1
  intro n
  induction n with
  | zero => intro k i _ h; omega
  | succ n ih =>
    intro k i hik hn
    rw [fM_size_L11, hM.1]
    cases k with
    | zero => rw [if_pos (nI_le (by omega) (by omega)), show i = qT q by omega]
    | succ k =>
      have hi : i < qT q := by omega
      have h8 := hq.2.2.1 i
      rw [if_neg (nI_ge hi (by omega)), b_bit S hS i (by omega), nI_1, chk_nI (by omega) (by omega), nI_cl (by omega), hM.2.2.2.2.1 i (by omega), nI_l (by omega), lN_mul]
      have hr : rowsP q S (i + 1) = rowsP q S i * (if S / 2 ^ i % 2 = 0 then 1 else qr q i) := rfl
      by_cases h0 : S / 2 ^ i % 2 = 0
      · rw [if_neg (by rw [h0]; decide)]
        rw [if_pos h0, Nat.mul_one] at hr
        rw [← hr]
        exact ih k (i + 1) (by omega) (by omega)
      · rw [if_pos (by rw [show S / 2 ^ i % 2 = 1 by omega]; rfl)]
        rw [if_neg h0] at hr
        rw [← hr]
        exact ih k (i + 1) (by omega) (by omega)
theorem sizeM_fours {N : Nat} {τ : MSt} (K : MSt → Int64 → Int32 → Option MSt) (x4 : Int32) {m v : Nat} (hm : m ≤ 4) : ∀ (n k i : Nat), i + k = m → k < n → fM_size_L129 N K n τ (lN (v * 4 ^ i)) x4 (nI m) (nI i) = K τ (lN (v * 4 ^ m)) x4 := by
  intro n
  induction n with
  | zero => intro k i _ h; omega
  | succ n ih =>
    intro k i hik hn
    rw [fM_size_L129]
    cases k with
    | zero => rw [if_pos (nI_le (by omega) (by omega)), show i = m by omega]
    | succ k =>
      rw [if_neg (nI_ge (show i < m by omega) (by omega)), nI_1, l4, lN_mul, Nat.mul_assoc, ← Nat.pow_succ]
      exact ih k (i + 1) (by omega) (by omega)
