/-! in order -/
def ordP (q : Qd) (p : Nat) : Prop := qot q ≠ -1 ∧ ((nI (qt q p) = qot q ∧ nI (qc q p) = qoc q) ∨ (nI (qu q p) = qot q ∧ nI (qo q p) = qoc q))
theorem qot_neg {q : Qd} (hq : WfQ q) : qot q < 0 ↔ qot q = -1 := by
  rcases hq.2.2.2.2.2.2 with h | ⟨t, c, ht, -, h, -⟩
  · rw [h]; decide
  · have := hq.1
    rw [h]
    exact ⟨fun g => absurd g (nI_pos (by omega)), fun g => absurd g (nI_ne_m1 (by omega))⟩
theorem inOrder_C {N : Nat} {q : Qd} {σ : CSt} (hq : WfQ q) (hC : CQd q σ) {p : Nat} (hp : p < qP q) (kind : Int32) : (fQ_isInOrder N σ kind (nI p) = some 1 ∧ kind = 2 ∧ ordP q p) ∨ (fQ_isInOrder N σ kind (nI p) = some 0 ∧ ¬ (kind = 2 ∧ ordP q p)) := by
  have hP := hq.2.1
  obtain ⟨c1, c2, c3, c4, -⟩ := hC.2.2.2.2.2.2.1 p hp
  unfold fQ_isInOrder fQ_isInOrder_J50
  rw [hC.2.2.1, hC.2.2.2.1]
  by_cases hk : kind = 2
  · rw [if_pos hk]
    by_cases ho : qot q = -1
    · rw [if_pos ho]
      exact Or.inr ⟨rfl, fun h => h.2.1 ho⟩
    · rw [if_neg ho, if_neg (nI_pos (by omega)), if_pos (show nI p < (4 : Int32) from nI_lt (b := 4) (by omega) (by omega)), chk_nI (by omega) (by omega), chk_nI (by omega) (by omega), chk_nI (by omega) (by omega), chk_nI (by omega) (by omega), nI_cl (by omega), c1, c2, c3, c4]
      by_cases g1 : nI (qt q p) = qot q <;> by_cases g2 : nI (qc q p) = qoc q <;> by_cases g3 : nI (qu q p) = qot q <;> by_cases g4 : nI (qo q p) = qoc q <;> simp [g1, g2, g3, g4, hk, ho, ordP]
  · rw [if_neg hk]
    exact Or.inr ⟨rfl, fun h => hk h.1⟩
theorem sortedSo_M {N : Nat} (hN : 6 ≤ N) {q : Qd} {τ : MSt} (hq : WfQ q) (hM : MQd q τ) {l r p : Nat} (hl : l < 16) (hr : r < 16) (hp : p < qP q) (hlb : lb q l r = nI p) : (fM_isSortedSo N τ (nI l) (nI r) = some 1 ∧ ordP q p) ∨ (fM_isSortedSo N τ (nI l) (nI r) = some 0 ∧ ¬ ordP q p) := by
  have hP := hq.2.1
  obtain ⟨c1, c2, c3, c4, -⟩ := hM.2.2.2.2.2.2 p hp
  unfold fM_isSortedSo fM_isSortedSo_J40
  rw [betweenM hN hq hM hl hr, bs, hlb, hM.2.2.1, hM.2.2.2.1]
  by_cases ho : qot q = -1
  · rw [if_pos ((qot_neg hq).mpr ho)]
    exact Or.inr ⟨rfl, fun h => h.1 ho⟩
  · rw [if_neg (fun h => ho ((qot_neg hq).mp h)), chk_nI (by omega) (by omega), chk_nI (by omega) (by omega), chk_nI (by omega) (by omega), chk_nI (by omega) (by omega), nI_cl (by omega), c1, c2, c3, c4]
    by_cases g1 : nI (qt q p) = qot q <;> by_cases g2 : nI (qc q p) = qoc q <;> by_cases g3 : nI (qu q p) = qot q <;> by_cases g4 : nI (qo q p) = qoc q <;> simp [g1, g2, g3, g4, ho, ordP]
theorem allTables_C {N : Nat} {q : Qd} {σ : CSt} (hq : WfQ q) (hC : CQd q σ) : fQ_allTables N σ = some (nI (2 ^ qT q - 1)) := by
  have := hq.1
  unfold fQ_allTables
  rw [hC.1, b_all _ (by omega)]
theorem all_M {N : Nat} {q : Qd} {τ : MSt} (hq : WfQ q) (hM : MQd q τ) : fM_all N τ = some (nI (2 ^ qT q - 1)) := by
  have := hq.1
  unfold fM_all
  rw [hM.1, b_all _ (by omega)]
/-- how often the size is paid at a plan's end: 3 or 0 -/
theorem orderFactor_ok {N : Nat} {q : Qd} {σ : CSt} (hq : WfQ q) (hC : CQd q σ) {S : Nat} (hS : S < 16) (io : Int32) : (fQ_orderFactor N σ (nI S) io = some 3 ∧ S = 2 ^ qT q - 1 ∧ qot q ≠ -1 ∧ io = 0) ∨ (fQ_orderFactor N σ (nI S) io = some 0 ∧ ¬ (S = 2 ^ qT q - 1 ∧ qot q ≠ -1 ∧ io = 0)) := by
  have ha := all_lt hq
  have hT := hq.1
  unfold fQ_orderFactor fQ_orderFactor_J17
  rw [hC.1, hC.2.2.1, b_all _ (by omega)]
  have e := nI_eq (a := S) (b := 2 ^ qT q - 1) (by omega) (by omega)
  by_cases g1 : S = 2 ^ qT q - 1
  · rw [if_pos (e.mpr g1), if_neg n10]
    by_cases g2 : qot q = -1
    · rw [if_pos g2]; exact Or.inr ⟨rfl, fun h => h.2.1 g2⟩
    · rw [if_neg g2]
      by_cases g3 : io = 0
      · rw [if_pos g3]; exact Or.inl ⟨rfl, g1, g2, g3⟩
      · rw [if_neg g3]; exact Or.inr ⟨rfl, fun h => g3 h.2.2⟩
  · rw [if_neg (fun h => g1 (e.mp h)), if_pos rfl]
    exact Or.inr ⟨rfl, fun h => g1 h.1⟩
