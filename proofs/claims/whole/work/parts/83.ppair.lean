/-! order, pair -/
theorem nI_ne_m1 {t : Nat} (h : t < 2 ^ 31) : ¬ nI t = -1 := by
  intro e
  have := congrArg Int32.toInt e
  rw [nI_toInt h] at this
  have e2 : (-1 : Int32).toInt = -1 := by decide
  omega
theorem order_ok {N : Nat} {q : Qd} {σ : CSt} {τ : MSt} {n : Nat} (hq : WfQ q) (hC : CQd q σ) (hM : MQd q τ) (hc : n ≤ 60) (h1 : σ.1 606 = nI n) (h2 : τ.1 11 = nI n) (x y : Int32) : stepQ q σ τ (fC_order N σ x y) (fM_order N τ x y) := by
  have hT := hq.1
  -- what both do once the field is there
  have key : ∀ (y0 : Int32) (y' : Int32), (x = -1 ∧ y0 = 1 ∧ y' = 0) ∨ (y0 = 0 ∧ y' = y ∧ ∃ t c, t < qT q ∧ c < 3 ∧ x = nI t ∧ y = nI c) → stepQ q σ τ (fC_order_J29 N σ x y y0) (fM_order_J23 N τ x y) := by
    intro y0 y' hy
    unfold fC_order_J29 fM_order_J23
    rw [h1, h2]
    rcases cnt_cases hc with ⟨h0, hc0⟩ | ⟨h0, -⟩
    · rw [if_pos h0, if_pos h0, forget_ok, bs]
      subst hc0
      have fin : ∀ w : Int32, (x = -1 ∨ ∃ t c, t < qT q ∧ c < 3 ∧ x = nI t ∧ w = nI c) → stepQ q σ τ (some (0, cI (cI (fg σ) 303 x) 304 w)) (some (0, sI (sI τ 2 x) 3 w)) := by
        intro w hw
        refine ⟨0, _, _, rfl, rfl, Or.inr ⟨h1.trans nI_0, ((qT q, qP q, x, w), q.2), ?_, ?_, ?_, ?_, ?_⟩⟩
        · obtain ⟨a1, a2, a3, a4, a5, a6, a7⟩ := hq
          exact ⟨a1, a2, a3, a4, a5, a6, hw⟩
        · obtain ⟨a1, a2, a3, a4, a5⟩ := hC
          exact ⟨a1, a2, rfl, rfl, a5⟩
        · obtain ⟨a1, a2, a3, a4, a5⟩ := hM
          exact ⟨a1, a2, rfl, rfl, a5⟩
        · refine ⟨fun k k1 k2 k3 k4 k5 k6 k7 => ?_, rfl, fun k _ => rfl, rfl, rfl, rfl⟩
          simp only [cI_1, fg_1, if_neg k4, if_neg k5, if_neg k6, if_neg k7]
        · refine ⟨fun k hk => ?_, rfl, fun k hk => rfl, rfl⟩
          rw [sI_1, if_neg (by omega), sI_1, if_neg (by omega)]
      rcases hy with ⟨rfl, rfl, rfl⟩ | ⟨rfl, rfl, t, c, ht, hc, rfl, rfl⟩
      · rw [if_neg (by decide), if_neg (by decide)]
        exact fin 0 (Or.inl rfl)
      · rw [if_pos rfl, if_pos (nI_pos' (by omega))]
        exact fin _ (Or.inr ⟨t, c, ht, hc, rfl, rfl⟩)
    · rw [if_neg h0, if_neg h0]
      exact stepQ_same _ rfl rfl
  unfold fC_order fM_order fC_order_J10
  by_cases hx : x = -1
  · rw [if_pos hx, if_pos hx, if_neg n10]
    exact key 1 0 (Or.inl ⟨hx, rfl, rfl⟩)
  · rw [if_neg hx, if_neg hx, if_pos rfl]
    by_cases hf : isT q x ∧ isK y
    · obtain ⟨hf1, hf2⟩ := hf
      obtain ⟨t, ht, rfl⟩ := (isT_nat hT).mp hf1
      obtain ⟨c, hcc, rfl⟩ := isK_nat.mp hf2
      rw [fQ_isField_t hC hT ht hf2, fM_isTable_t hM hT ht, bs, bs, if_neg n10, if_neg n10, fM_isColumn_t hf2, bs, if_neg n10]
      exact key 0 _ (Or.inr ⟨rfl, rfl, t, c, ht, hcc, rfl, rfl⟩)
    · rw [fQ_isField_f hC hT hf, bs, if_pos rfl]
      by_cases h1' : isT q x
      · obtain ⟨t, ht, rfl⟩ := (isT_nat hT).mp h1'
        rw [fM_isTable_t hM hT ht, bs, if_neg n10, fM_isColumn_f (fun h => hf ⟨h1', h⟩), bs, if_pos rfl]
        exact stepQ_same _ rfl rfl
      · rw [fM_isTable_f hM h1', bs, if_pos rfl]
        exact stepQ_same _ rfl rfl
