/-! table, row, pair, order: both sides keep the question alike -/
/-- what else of the class's state a change of the question may touch: nothing but the question and the two marks -/
def keepC (σ σ' : CSt) : Prop := (∀ k, k ≠ 300 → k ≠ 301 → k ≠ 302 → k ≠ 303 → k ≠ 304 → k ≠ 607 → k ≠ 608 → σ'.1 k = σ.1 k) ∧ σ'.2.1 = σ.2.1 ∧ (∀ k, (k < 305 ∨ 312 < k) → σ'.2.2.1 k = σ.2.2.1 k) ∧ σ'.2.2.2 = σ.2.2.2 ∧ σ'.1 607 = 0 ∧ σ'.1 608 = 0
def keepM (τ τ' : MSt) : Prop := (∀ k, 3 < k → τ'.1 k = τ.1 k) ∧ τ'.2.1 = τ.2.1 ∧ (∀ k, 10 < k → τ'.2.2.1 k = τ.2.2.1 k) ∧ τ'.2.2.2 = τ.2.2.2
/-- a change of the question on both sides: the same answer; either nothing changes, or there was no plan and both hold the new question -/
def stepQ (q : Qd) (σ : CSt) (τ : MSt) (a : Option (Int32 × CSt)) (b : Option (Int32 × MSt)) : Prop :=
  ∃ (r : Int32) (σ' : CSt) (τ' : MSt), a = some (r, σ') ∧ b = some (r, τ') ∧ ((σ' = σ ∧ τ' = τ) ∨ (σ.1 606 = 0 ∧ ∃ q', WfQ q' ∧ CQd q' σ' ∧ MQd q' τ' ∧ keepC σ σ' ∧ keepM τ τ'))
theorem stepQ_same {q : Qd} {σ : CSt} {τ : MSt} {a : Option (Int32 × CSt)} {b : Option (Int32 × MSt)} (r : Int32) (ha : a = some (r, σ)) (hb : b = some (r, τ)) : stepQ q σ τ a b := ⟨r, σ, τ, ha, hb, Or.inl ⟨rfl, rfl⟩⟩
theorem cnt_cases {c : Nat} (hc : c ≤ 60) : (nI c ≤ 0 ∧ c = 0) ∨ (¬ nI c ≤ 0 ∧ 0 < c) := by
  cases c with
  | zero => exact Or.inl ⟨by rw [nI_0]; decide, rfl⟩
  | succ c => exact Or.inr ⟨nI_nle (by omega) (by omega), by omega⟩
def fg (σ : CSt) : CSt := cI (cI σ 607 0) 608 0
theorem forget_ok {N : Nat} {σ : CSt} : fC_forgetPrices N σ = some (fg σ) := rfl
theorem fg_1 (σ : CSt) (j : Nat) : (fg σ).1 j = if j = 608 then 0 else if j = 607 then 0 else σ.1 j := rfl
theorem fg_2 (σ : CSt) : (fg σ).2 = σ.2 := rfl
theorem CQd_fg {q : Qd} {σ : CSt} (h : CQd q σ) : CQd q (fg σ) := h
theorem table_ok {N : Nat} {q : Qd} {σ : CSt} {τ : MSt} {c : Nat} (hq : WfQ q) (hC : CQd q σ) (hM : MQd q τ) (hc : c ≤ 60) (h1 : σ.1 606 = nI c) (h2 : τ.1 11 = nI c) : stepQ q σ τ (fC_table N σ) (fM_table N τ) := by
  unfold fC_table fM_table
  rw [h1, h2]
  rcases cnt_cases hc with ⟨h0, hc0⟩ | ⟨h0, -⟩
  · rw [if_pos h0, if_pos h0, hC.1, hM.1]
    by_cases h4 : qT q = 4
    · rw [h4, if_neg (by decide), if_pos (by decide)]
      exact stepQ_same _ rfl rfl
    · have hlt : qT q < 4 := by have := hq.1; omega
      have e4 : (4 : Int32) = nI 4 := rfl
      rw [if_pos (by rw [e4]; exact nI_lt hlt (by omega)), if_neg (by rw [e4, nI_eq (by omega) (by omega)]; exact h4), chk_nI hlt (by omega), forget_ok, bs]
      subst hc0
      have ea : fQ_addTable N (fg σ) = some (nI (qT q), cI (fg σ) 300 (nI (qT q + 1))) := by
        unfold fQ_addTable
        simp only [cI_1, fg_1, Nat.reduceEqDiff, ↓reduceIte, hC.1, nI_1, nI_pred]
      rw [ea, bs]
      refine ⟨nI (qT q), cI (fg σ) 300 (nI (qT q + 1)), sI (sA τ 4 (qT q) 0) 0 (nI (qT q + 1)), rfl, ?_, Or.inr ⟨h1.trans nI_0, ((qT q + 1, q.1.2), q.2), ?_, ?_, ?_, ?_, ?_⟩⟩
      · simp only [sI_1, sA_1, ↓reduceIte, hM.1, nI_1, nI_pred, nI_cl (show qT q < 2 ^ 31 by omega)]
      · obtain ⟨a1, a2, a3, a4, a5, a6, a7⟩ := hq
        refine ⟨(by show qT q + 1 ≤ 4; omega), a2, a3, fun t ht => a4 t (Nat.le_of_succ_le ht), fun p hp => ?_, a6, a7.imp id ?_⟩
        · obtain ⟨b1, b2, b3⟩ := a5 p hp
          exact ⟨b1, Nat.lt_succ_of_lt b2, b3⟩
        · rintro ⟨t, c, ht, hc⟩
          exact ⟨t, c, Nat.lt_succ_of_lt ht, hc⟩
      · obtain ⟨a1, a2⟩ := hC
        exact ⟨rfl, a2⟩
      · obtain ⟨a1, a2, a3, a4, a5, a6, a7⟩ := hM
        have hr0 : qr q (qT q) = 0 := hq.2.2.2.1 _ (Nat.le_refl _)
        refine ⟨rfl, a2, a3, a4, fun t ht => ?_, fun t i c ht hi hc => a6 t i c ht hi hc, a7⟩
        show upd (τ.2.2.1 4) (qT q) 0 t = nI (qr q t)
        rw [upd_at]
        by_cases e : t = qT q
        · rw [if_pos e, e, hr0]; rfl
        · rw [if_neg e]; exact a5 t ht
      · refine ⟨fun k k1 k2 k3 k4 k5 k6 k7 => ?_, rfl, fun k _ => rfl, rfl, rfl, rfl⟩
        simp only [cI_1, fg_1, if_neg k1, if_neg k6, if_neg k7]
      · refine ⟨fun k hk => ?_, rfl, fun k hk => ?_, rfl⟩
        · rw [sI_1, if_neg (by omega)]; rfl
        · rw [sI_2, sA_3, if_neg (by omega)]
  · rw [if_neg h0, if_neg h0]
    exact stepQ_same _ rfl rfl
