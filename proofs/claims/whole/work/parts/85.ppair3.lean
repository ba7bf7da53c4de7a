/-! pair, both sides -/
theorem pairC_q {q : Qd} {σ σ' : CSt} (hC : CQd q σ) {t c u o s : Nat} {e w : Int32} (he : e = nI (2 ^ t + 2 ^ u)) (hw : w = nI (if s = 0 then 1 else s)) (h4 : qP q < 4) (hI : ∀ k, k = 300 ∨ k = 303 ∨ k = 304 → σ'.1 k = σ.1 k) (h301 : σ'.1 301 = nI (qP q + 1)) (hA : σ'.2.2.1 = (pairC q σ (nI t) (nI c) (nI u) (nI o) e w).2.2.1) (ho : (σ'.1 302 = -1 ∧ ∀ p, p < qP q + 1 → va_up (qs q) (qP q) s p ≠ 0) ∨ ∃ p, p < qP q + 1 ∧ va_up (qs q) (qP q) s p = 0 ∧ σ'.1 302 = nI p) : CQd (qpair q t c u o s) σ' := by
  obtain ⟨a1, a2, a3, a4, a5, a6, a7, a8, a9⟩ := hC
  refine ⟨(hI 300 (by omega)).trans a1, h301, (hI 303 (by omega)).trans a3, (hI 304 (by omega)).trans a4, fun k hk => ?_, fun t i c ht hi hc => ?_, fun p hp => ?_, fun p hp1 hp2 => ?_, ho⟩
  · rw [hA]; exact a5 k hk
  · rw [hA]; exact a6 t i c ht hi hc
  · have hp : p < qP q + 1 := hp
    rw [hA]
    refine ⟨upd_new rfl hp (fun h => (a7 p h).1), upd_new rfl hp (fun h => (a7 p h).2.1), upd_new rfl hp (fun h => (a7 p h).2.2.1), upd_new rfl hp (fun h => (a7 p h).2.2.2.1), ?_, ?_⟩
    · show upd (σ.2.2.1 311) (qP q) e p = nI (2 ^ va_up (qt q) (qP q) t p + 2 ^ va_up (qu q) (qP q) u p)
      rw [upd_at]
      by_cases f : p = qP q
      · rw [if_pos f, f, va_up_self, va_up_self, he]
      · rw [if_neg f, va_up_ne _ _ f, va_up_ne _ _ f]
        exact (a7 p (by omega)).2.2.2.2.1
    · show upd (σ.2.2.1 312) (qP q) w p = nI (if va_up (qs q) (qP q) s p = 0 then 1 else va_up (qs q) (qP q) s p)
      rw [upd_at]
      by_cases f : p = qP q
      · rw [if_pos f, f, va_up_self, hw]
      · rw [if_neg f, va_up_ne _ _ f]
        exact (a7 p (by omega)).2.2.2.2.2
  · have hp1 : qP q + 1 ≤ p := hp1
    rw [hA]
    show upd (σ.2.2.1 311) (qP q) e p = 0
    rw [upd_at, if_neg (by omega)]
    exact a8 p (by omega) hp2
theorem pairDo {N : Nat} {q : Qd} {σ : CSt} {τ : MSt} (hq : WfQ q) (hC : CQd q σ) (hM : MQd q τ) (h606 : σ.1 606 = 0) {t c u o s : Nat} (h1 : t < u) (h2 : u < qT q) (h3 : c < 3) (h5 : o < 3) (h6 : s ≤ 4) (h7 : s = 0 → ∀ p, p < qP q → qs q p ≠ 0) : stepQ q σ τ (fC_pair_J72 N σ (nI t) (nI c) (nI u) (nI o) (nI s)) (fM_pair_J76 N τ (nI t) (nI c) (nI u) (nI o) (nI s)) := by
  have hT := hq.1
  by_cases h4 : qP q = 4
  · refine stepQ_same (-4) ?_ ?_
    · unfold fC_pair_J72
      rw [hC.2.1, h4, if_neg (by decide)]
    · unfold fM_pair_J76
      rw [hM.2.1, h4, if_pos (by decide)]
  · have h4 : qP q < 4 := by have := hq.2.1; omega
    rw [pairM_ok hM h4]
    have eC : fC_pair_J72 N σ (nI t) (nI c) (nI u) (nI o) (nI s) = fQ_addPairing N (fg σ) (nI t) (nI c) (nI u) (nI o) (nI s) := by
      unfold fC_pair_J72
      rw [hC.2.1, if_pos (by rw [i4]; exact nI_lt h4 (by omega)), forget_ok, bs]
      cases fQ_addPairing N (fg σ) (nI t) (nI c) (nI u) (nI o) (nI s) <;> rfl
    rw [eC, addPairing_ok (CQd_fg hC) h4]
    have he := ends_ok t (by omega) u (by omega) h1
    have hwf := qpair_wf hq h4 h1 h2 h3 h5 h6 h7
    have hMq : MQd (qpair q t c u o s) (sI (sA (sA (sA (sA (sA τ 6 (qP q) (nI t)) 7 (qP q) (nI c)) 8 (qP q) (nI u)) 9 (qP q) (nI o)) 10 (qP q) (nI s)) 1 (nI (qP q + 1))) := by
      obtain ⟨a1, a2, a3, a4, a5, a6, a7⟩ := hM
      refine ⟨a1, rfl, a3, a4, a5, a6, fun p hp => ?_⟩
      have hp : p < qP q + 1 := hp
      exact ⟨upd_new rfl hp (fun h => (a7 p h).1), upd_new rfl hp (fun h => (a7 p h).2.1), upd_new rfl hp (fun h => (a7 p h).2.2.1), upd_new rfl hp (fun h => (a7 p h).2.2.2.1), upd_new rfl hp (fun h => (a7 p h).2.2.2.2)⟩
    have hkM : keepM τ (sI (sA (sA (sA (sA (sA τ 6 (qP q) (nI t)) 7 (qP q) (nI c)) 8 (qP q) (nI u)) 9 (qP q) (nI o)) 10 (qP q) (nI s)) 1 (nI (qP q + 1))) := by
      refine ⟨fun k hk => ?_, rfl, fun k hk => ?_, rfl⟩
      · rw [sI_1, if_neg (by omega)]; rfl
      · rw [sI_2]
        simp only [sA_3]
        rw [if_neg (by omega), if_neg (by omega), if_neg (by omega), if_neg (by omega), if_neg (by omega)]
    refine ⟨_, _, _, rfl, rfl, Or.inr ⟨h606, qpair q t c u o s, hwf, ?_, hMq, ?_, hkM⟩⟩
    · by_cases hs : s = 0
      · subst hs
        rw [if_pos nI_0]
        refine pairC_q (CQd_fg hC) he rfl h4 (fun k hk => ?_) rfl rfl (Or.inr ⟨qP q, Nat.lt_succ_self _, va_up_self _ _ _, rfl⟩)
        rcases hk with rfl | rfl | rfl <;> rfl
      · rw [if_neg (nI_ne0 (Nat.pos_of_ne_zero hs) (by omega))]
        refine pairC_q (CQd_fg hC) he (by rw [if_neg hs]) h4 (fun k hk => ?_) rfl rfl ?_
        · rcases hk with rfl | rfl | rfl <;> rfl
        · rcases hC.2.2.2.2.2.2.2.2 with ⟨o1, o2⟩ | ⟨p, o1, o2, o3⟩
          · refine Or.inl ⟨o1, fun p hp => ?_⟩
            by_cases f : p = qP q
            · rw [f, va_up_self]; exact hs
            · rw [va_up_ne _ _ f]; exact o2 p (by omega)
          · exact Or.inr ⟨p, by omega, by rw [up_lt o1]; exact o2, o3⟩
    · have hk : ∀ σ' : CSt, (∀ k, k ≠ 301 → k ≠ 302 → σ'.1 k = (fg σ).1 k) → σ'.2.1 = σ.2.1 → (∃ e w, σ'.2.2 = (pairC q (fg σ) (nI t) (nI c) (nI u) (nI o) e w).2.2) → keepC σ σ' := by
        intro σ' g1 g2 ⟨e, w, g3⟩
        refine ⟨fun k k1 k2 k3 k4 k5 k6 k7 => ?_, g2, fun k hk => ?_, by rw [g3]; rfl, ?_, ?_⟩
        · rw [g1 k k2 k3, fg_1, if_neg k7, if_neg k6]
        · rw [g3]
          unfold pairC
          simp only [cA_3]
          rw [if_neg (by omega), if_neg (by omega), if_neg (by omega), if_neg (by omega), if_neg (by omega), if_neg (by omega)]
          rfl
        · rw [g1 607 (by omega) (by omega)]; rfl
        · rw [g1 608 (by omega) (by omega)]; rfl
      split
      · refine hk _ (fun k k1 k2 => ?_) rfl ⟨_, _, rfl⟩
        rw [cI_1, if_neg k1, cI_1, if_neg k2]
        rfl
      · refine hk _ (fun k k1 k2 => ?_) rfl ⟨_, _, rfl⟩
        rw [cI_1, if_neg k1]
        rfl
