/-! pair with its refusals; clear; holds -/
theorem pair_ok {N : Nat} (hN : 5 ≤ N) {q : Qd} {σ : CSt} {τ : MSt} {n : Nat} (hq : WfQ q) (hC : CQd q σ) (hM : MQd q τ) (hc : n ≤ 60) (h1 : σ.1 606 = nI n) (h2 : τ.1 11 = nI n) (x1 x2 x3 x4 x5 : Int32) : stepQ q σ τ (fC_pair N σ x1 x2 x3 x4 x5) (fM_pair N τ x1 x2 x3 x4 x5) := by
  have hT := hq.1
  unfold fC_pair fM_pair
  by_cases f1 : isT q x1 ∧ isK x2
  · obtain ⟨f11, f12⟩ := f1
    obtain ⟨t, ht, rfl⟩ := (isT_nat hT).mp f11
    obtain ⟨c, hcc, rfl⟩ := isK_nat.mp f12
    rw [fQ_isField_t hC hT ht f12, fM_isTable_t hM hT ht, bs, bs, if_neg n10, if_neg n10, fM_isColumn_t f12, bs, if_neg n10]
    by_cases f2 : isT q x3 ∧ isK x4
    · obtain ⟨f21, f22⟩ := f2
      obtain ⟨u, hu, rfl⟩ := (isT_nat hT).mp f21
      obtain ⟨o, ho, rfl⟩ := isK_nat.mp f22
      rw [fQ_isField_t hC hT hu f22, fM_isTable_t hM hT hu, bs, bs, if_neg n10, if_neg n10, fM_isColumn_t f22, bs, if_neg n10]
      by_cases g1 : nI u ≤ nI t
      · rw [if_pos g1, if_pos g1]; exact stepQ_same _ rfl rfl
      · rw [if_neg g1, if_neg g1]
        have htu : t < u := by
          rcases Nat.lt_or_ge t u with h | h
          · exact h
          · exact absurd (nI_le h (by omega)) g1
        by_cases g2 : x5 < 0
        · rw [if_pos g2, if_pos g2]; exact stepQ_same _ rfl rfl
        · rw [if_neg g2, if_neg g2]
          by_cases g3 : x5 ≤ 4
          · rw [if_pos g3, if_pos g3, h1, h2]
            obtain ⟨s, hs, rfl⟩ := nI_of g2
            have hs4 : s ≤ 4 := (nI_leI (b := 4) hs (by omega)).mp g3
            by_cases g4 : 0 < nI n
            · rw [if_pos g4, if_pos g4]; exact stepQ_same _ rfl rfl
            · have hn0 : n = 0 := by
                rcases cnt_cases hc with ⟨h0, hc0⟩ | ⟨h0, -⟩
                · exact hc0
                · exact absurd (Int32.not_le.mp h0) g4
              subst hn0
              rw [if_neg g4, if_neg g4]
              by_cases g5 : s = 0
              · subst g5
                rw [if_pos nI_0, if_pos nI_0]
                rcases hC.2.2.2.2.2.2.2.2 with ⟨o1, o2⟩ | ⟨p, o1, o2, o3⟩
                · have hopen : fM_open N τ = some (-1) := open_none hq hM o2 N 0 (Nat.zero_le _) (by have := hq.2.1; omega)
                  rw [if_pos o1, hopen, bs, if_pos (by decide)]
                  exact pairDo hq hC hM (h1.trans nI_0) htu hu hcc ho hs4 (fun _ => o2)
                · have hopen : fM_open N τ = some (nI p) := open_some hq hM o1 o2 N 0 (Nat.zero_le _) (by have := hq.2.1; omega)
                  have hp4 := hq.2.1
                  rw [o3, if_neg (nI_ne_m1 (by omega)), hopen, bs, if_neg (nI_pos (by omega))]
                  exact stepQ_same _ rfl rfl
              · rw [if_neg (nI_ne0 (Nat.pos_of_ne_zero g5) (by omega)), if_neg (nI_ne0 (Nat.pos_of_ne_zero g5) (by omega))]
                exact pairDo hq hC hM (h1.trans nI_0) htu hu hcc ho hs4 (fun h => absurd h g5)
          · rw [if_neg g3, if_neg g3]; exact stepQ_same _ rfl rfl
    · rw [fQ_isField_f hC hT f2, bs, if_pos rfl]
      by_cases h1' : isT q x3
      · obtain ⟨u, hu, rfl⟩ := (isT_nat hT).mp h1'
        rw [fM_isTable_t hM hT hu, bs, if_neg n10, fM_isColumn_f (fun h => f2 ⟨h1', h⟩), bs, if_pos rfl]
        exact stepQ_same _ rfl rfl
      · rw [fM_isTable_f hM h1', bs, if_pos rfl]
        exact stepQ_same _ rfl rfl
  · rw [fQ_isField_f hC hT f1, bs, if_pos rfl]
    by_cases h1' : isT q x1
    · obtain ⟨u, hu, rfl⟩ := (isT_nat hT).mp h1'
      rw [fM_isTable_t hM hT hu, bs, if_neg n10, fM_isColumn_f (fun h => f1 ⟨h1', h⟩), bs, if_pos rfl]
      exact stepQ_same _ rfl rfl
    · rw [fM_isTable_f hM h1', bs, if_pos rfl]
      exact stepQ_same _ rfl rfl
/-- clear: all plans go -/
theorem clear_loop {N : Nat} : ∀ (n : Nat) (σ : CSt) (x : Int32) (i : Nat), i ≤ 60 → 60 - i < n → ∃ σ' : CSt, fC_clear_L7 N n σ x (nI i) = some (x, cI σ' 606 0) ∧ σ'.1 = σ.1 ∧ σ'.2.1 = σ.2.1 ∧ σ'.2.2.1 = σ.2.2.1 ∧ σ'.2.2.2.1 = σ.2.2.2.1 ∧ σ'.2.2.2.2.2 = σ.2.2.2.2.2 ∧ (∀ k, k ≠ 605 → σ'.2.2.2.2.1 k = σ.2.2.2.2.1 k) := by
  intro n
  induction n with
  | zero => intro σ x i _ h; omega
  | succ n ih =>
    intro σ x i hi hn
    rw [fC_clear_L7]
    by_cases e : i = 60
    · rw [e, if_pos (by decide)]
      exact ⟨σ, rfl, rfl, rfl, rfl, rfl, rfl, fun _ _ => rfl⟩
    · rw [if_neg (show ¬ (60 : Int32) ≤ nI i from nI_ge (b := 60) (by omega) (by omega)), chk_nI (by omega) (by omega), nI_1]
      obtain ⟨σ', g1, g2, g3, g4, g5, g6, g7⟩ := ih (cP σ 605 (nI i).toNatClampNeg none) x (i + 1) (by omega) (by omega)
      refine ⟨σ', g1, g2, g3, g4, g5, g6, fun k hk => ?_⟩
      rw [g7 k hk]
      exact va_up_ne _ _ hk
theorem clear_ok {N : Nat} (hN : 62 ≤ N) (σ : CSt) (τ : MSt) (h : σ.1 606 = τ.1 11) : ∃ σ' : CSt, fC_clear N σ = some (τ.1 11, cI σ' 606 0) ∧ fM_clear N τ = some (τ.1 11, sI τ 11 0) ∧ σ'.1 = σ.1 ∧ σ'.2.1 = σ.2.1 ∧ σ'.2.2.1 = σ.2.2.1 ∧ σ'.2.2.2.1 = σ.2.2.2.1 ∧ σ'.2.2.2.2.2 = σ.2.2.2.2.2 ∧ (∀ k, k ≠ 605 → σ'.2.2.2.2.1 k = σ.2.2.2.2.1 k) := by
  obtain ⟨σ', g1, g2⟩ := clear_loop (N := N) N σ (σ.1 606) 0 (Nat.zero_le _) (by omega)
  refine ⟨σ', ?_, rfl, g2⟩
  unfold fC_clear
  rw [← h]
  exact g1
