/-! the least pairing between two sets -/
def lbf (q : Qd) (l r : Nat) : Nat → Nat → Int32
  | 0, _ => -1
  | k + 1, p => if btw q p l r then nI p else lbf q l r k (p + 1)
/-- -1: none -/
def lb (q : Qd) (l r : Nat) : Int32 := lbf q l r (qP q) 0
theorem betweenM_loop {N : Nat} {q : Qd} {τ : MSt} (hq : WfQ q) (hM : MQd q τ) {l r : Nat} (hl : l < 16) (hr : r < 16) : ∀ (n k p : Nat), p + k = qP q → k < n → fM_between_L2 N τ n (nI l) (nI r) (nI p) = some (lbf q l r k p) := by
  have hP := hq.2.1
  intro n
  induction n with
  | zero => intro k p _ h; omega
  | succ n ih =>
    intro k p hpk hn
    rw [fM_between_L2, hM.2.1]
    cases k with
    | zero => rw [if_pos (nI_le (by omega) (by omega))]; rfl
    | succ k =>
      have hp : p < qP q := by omega
      obtain ⟨b, hb, hbb⟩ := fM_isBetween_ok (N := N) hq hM hp hl hr
      rw [if_neg (nI_ge hp (by omega)), hb, bs, nI_1]
      show _ = some (if btw q p l r then nI p else lbf q l r k (p + 1))
      rcases hbb with ⟨rfl, h⟩ | ⟨rfl, h⟩
      · rw [if_neg n10, if_pos h]
      · rw [if_pos rfl, if_neg h]
        exact ih k (p + 1) (by omega) (by omega)
theorem betweenM {N : Nat} (hN : 6 ≤ N) {q : Qd} {τ : MSt} (hq : WfQ q) (hM : MQd q τ) {l r : Nat} (hl : l < 16) (hr : r < 16) : fM_between N τ (nI l) (nI r) = some (lb q l r) := by
  have hP := hq.2.1
  have h := betweenM_loop (N := N) hq hM hl hr N (qP q) 0 (by omega) (by omega)
  rw [nI_0] at h
  exact h
def bbt (t u l r : Nat) : Bool := !(decide (t < u) && l &&& r == 0) || (decide ((2 ^ t + 2 ^ u) &&& l ≠ 0 ∧ (2 ^ t + 2 ^ u) &&& r ≠ 0) == decide ((2 ^ t &&& l ≠ 0 ∧ 2 ^ u &&& r ≠ 0) ∨ (2 ^ t &&& r ≠ 0 ∧ 2 ^ u &&& l ≠ 0)))
theorem bbtB : ((List.range 4).all fun t => (List.range 4).all fun u => (List.range 16).all fun l => (List.range 16).all fun r => bbt t u l r) = true := by decide +kernel
theorem b_btw : ∀ t, t < 4 → ∀ u, u < 4 → t < u → ∀ l, l < 16 → ∀ r, r < 16 → l &&& r = 0 → (((2 ^ t + 2 ^ u) &&& l ≠ 0 ∧ (2 ^ t + 2 ^ u) &&& r ≠ 0) ↔ (2 ^ t &&& l ≠ 0 ∧ 2 ^ u &&& r ≠ 0) ∨ (2 ^ t &&& r ≠ 0 ∧ 2 ^ u &&& l ≠ 0)) := by
  intro t ht u hu htu l hl r hr hlr
  have g := bbtB
  simp only [List.all_eq_true, List.mem_range] at g
  have g := g t ht u hu l hl r hr
  unfold bbt at g
  rw [decide_eq_true htu, hlr] at g
  simp only [beq_self_eq_true, Bool.and_self, Bool.not_true, Bool.false_or, beq_iff_eq, decide_eq_decide] at g
  exact g
theorem leastC_tail {N : Nat} {q : Qd} {σ : CSt} (hC : CQd q σ) (x y : Int32) : ∀ (n k p : Nat), p + k = 4 → qP q ≤ p → k < n → fQ_leastBetween_L2 N σ n x y (nI p) = some (-1) := by
  intro n
  induction n with
  | zero => intro k p _ _ h; omega
  | succ n ih =>
    intro k p hpk hp hn
    rw [fQ_leastBetween_L2]
    cases k with
    | zero => rw [if_pos (by rw [show p = 4 by omega]; decide)]
    | succ k =>
      rw [if_neg (show ¬ (4 : Int32) ≤ nI p from nI_ge (b := 4) (by omega) (by omega)), chk_nI (by omega) (by omega), nI_cl (by omega), hC.2.2.2.2.2.2.2.1 p hp (by omega), nI_1, if_pos (Int32.zero_and)]
      exact ih k (p + 1) (by omega) (by omega) (by omega)
theorem leastC_loop {N : Nat} {q : Qd} {σ : CSt} (hq : WfQ q) (hC : CQd q σ) {l r : Nat} (hl : l < 16) (hr : r < 16) (hlr : l &&& r = 0) : ∀ (n k p : Nat), p + k = qP q → 5 - p ≤ n → fQ_leastBetween_L2 N σ n (nI l) (nI r) (nI p) = some (lbf q l r k p) := by
  have hP := hq.2.1
  have hT := hq.1
  intro n
  induction n with
  | zero => intro k p _ h; omega
  | succ n ih =>
    intro k p hpk hn
    cases k with
    | zero =>
      exact leastC_tail hC _ _ (n + 1) (4 - p) p (by omega) (by omega) (by omega)
    | succ k =>
      have hp : p < qP q := by omega
      obtain ⟨b1, b2, -⟩ := hq.2.2.2.2.1 p hp
      have he := qe_lt hq p
      have hb := b_btw (qt q p) (by omega) (qu q p) (by omega) b1 l hl r hr hlr
      have hqe : qe q p = 2 ^ qt q p + 2 ^ qu q p := if_pos hp
      rw [← hqe] at hb
      rw [fQ_leastBetween_L2, if_neg (show ¬ (4 : Int32) ≤ nI p from nI_ge (b := 4) (by omega) (by omega)), chk_nI (by omega) (by omega), chk_nI (by omega) (by omega), nI_cl (by omega), qe_C hC (by omega), b_and _ he _ hl, b_and _ he _ hr, nI_1]
      show _ = some (if btw q p l r then nI p else lbf q l r k (p + 1))
      have e1 := nI_eq0 (show qe q p &&& l < 2 ^ 31 by have := b_and_lt _ he _ hl; omega)
      have e2 := nI_eq0 (show qe q p &&& r < 2 ^ 31 by have := b_and_lt _ he _ hr; omega)
      by_cases g1 : qe q p &&& l = 0
      · rw [if_pos (e1.mpr g1), if_neg (fun h => (hb.mpr h).1 g1)]
        exact ih k (p + 1) (by omega) (by omega)
      · rw [if_neg (fun h => g1 (e1.mp h))]
        by_cases g2 : qe q p &&& r = 0
        · rw [if_pos (e2.mpr g2), if_neg (fun h => (hb.mpr h).2 g2)]
          exact ih k (p + 1) (by omega) (by omega)
        · rw [if_neg (fun h => g2 (e2.mp h)), if_pos (hb.mp ⟨g1, g2⟩)]
theorem leastC {N : Nat} (hN : 6 ≤ N) {q : Qd} {σ : CSt} (hq : WfQ q) (hC : CQd q σ) {l r : Nat} (hl : l < 16) (hr : r < 16) (hlr : l &&& r = 0) : fQ_leastBetween N σ (nI l) (nI r) = some (lb q l r) := by
  have h := leastC_loop (N := N) hq hC hl hr hlr N (qP q) 0 (by omega) (by omega)
  rw [nI_0] at h
  exact h
