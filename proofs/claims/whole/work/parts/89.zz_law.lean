/-! the law -/
def Inv (σ : CSt) (τ : MSt) : Prop := ∃ q c, Base q c σ τ ∧ SpanI q σ ∧ Ran σ τ
def Gud (a : Option (CSt × MSt)) : Prop := ∃ s, a = some s ∧ Inv s.1 s.2
theorem Gud_S {q : Qd} {σ : CSt} {τ : MSt} {a : Option (Int32 × CSt)} {b : Option (Int32 × MSt)} (hR : Ran σ τ) (h : stepS q σ τ a b) : Gud (a.bind fun q => b.bind fun r => if q.1 = r.1 then some (q.2, r.2) else none) := by
  obtain ⟨r, σ', τ', c', h1, h2, h3, h4, h5, h6⟩ := h
  refine ⟨(σ', τ'), ?_, q, c', h3, h4, Ran_same h5 h6 hR⟩
  rw [h1, bs, h2, bs]
  exact if_pos rfl
theorem Gud_L {q : Qd} {σ : CSt} {τ : MSt} {a : Option (Int64 × CSt)} {b : Option (Int64 × MSt)} (hR : Ran σ τ) (h : stepS q σ τ a b) : Gud (a.bind fun q => b.bind fun r => if lg_cmp q.1 r.1 = 0 then some (q.2, r.2) else none) := by
  obtain ⟨r, σ', τ', c', h1, h2, h3, h4, h5, h6⟩ := h
  refine ⟨(σ', τ'), ?_, q, c', h3, h4, Ran_same h5 h6 hR⟩
  rw [h1, bs, h2, bs]
  exact if_pos (cmp_same r)
theorem Gud_V {σ : CSt} {τ : MSt} {a b : Option Int32} (hI : Inv σ τ) (h : ∃ r, a = some r ∧ b = some r) : Gud (a.bind fun q => b.bind fun r => if q = r then some (σ, τ) else none) := by
  obtain ⟨r, h1, h2⟩ := h
  refine ⟨(σ, τ), ?_, hI⟩
  rw [h1, bs, h2, bs]
  exact if_pos rfl
theorem Gud_Q {q : Qd} {c : Nat} {σ : CSt} {τ : MSt} {a : Option (Int32 × CSt)} {b : Option (Int32 × MSt)} (hB : Base q c σ τ) (hS : SpanI q σ) (hR : Ran σ τ) (h : stepQ q σ τ a b) : Gud (a.bind fun q => b.bind fun r => if q.1 = r.1 then some (q.2, r.2) else none) := by
  obtain ⟨r, σ', τ', h1, h2, h3⟩ := h
  have hg : (a.bind fun q => b.bind fun r => if q.1 = r.1 then some (q.2, r.2) else none) = some (σ', τ') := by
    rw [h1, bs, h2, bs]
    exact if_pos rfl
  refine ⟨(σ', τ'), hg, ?_⟩
  rcases h3 with ⟨rfl, rfl⟩ | ⟨h606, q', w1, w2, w3, kC, kM⟩
  · exact ⟨q, c, hB, hS, hR⟩
  · have hc : c = 0 := by
      have := hB.2.2.2.2.1
      rw [h606] at this
      exact ((nI_eq0 (by have := hB.2.2.2.1; omega)).mp this.symm)
    subst hc
    refine ⟨q', 0, ⟨w1, w2, w3, by omega, ?_, ?_, fun i hi => by omega, Or.inl kC.2.2.2.2.1, fun h => by omega⟩, Or.inl kC.2.2.2.2.2, Ran_same ⟨fun k h1 h2 => kC.1 k (by omega) (by omega) (by omega) (by omega) (by omega) (by omega) (by omega), fun k h1 h2 => kC.2.2.1 k (by omega), by rw [kC.2.2.2.1]⟩ ⟨kM.1 37 (by omega), kM.1 38 (by omega), kM.2.2.1 39 (by omega)⟩ hR⟩
    · rw [kC.1 606 (by omega) (by omega) (by omega) (by omega) (by omega) (by omega) (by omega)]; exact hB.2.2.2.2.1
    · rw [kM.1 11 (by omega)]; exact hB.2.2.2.2.2.1
theorem Gud_clear {N : Nat} (hN : 62 ≤ N) {q : Qd} {c : Nat} {σ : CSt} {τ : MSt} (hB : Base q c σ τ) (hS : SpanI q σ) (hR : Ran σ τ) : Gud ((fC_clear N σ).bind fun q => (fM_clear N τ).bind fun r => if q.1 = r.1 then some (q.2, r.2) else none) := by
  obtain ⟨σ', h1, h2, h3, h4, h5, h6, h7, h8⟩ := clear_ok (N := N) hN σ τ (by rw [hB.2.2.2.2.1, hB.2.2.2.2.2.1])
  refine ⟨(cI σ' 606 0, sI τ 11 0), by rw [h1, bs, h2, bs]; exact if_pos rfl, q, 0, ⟨hB.1, ?_, ?_, by omega, rfl, rfl, fun i hi => by omega, ?_, fun h => by omega⟩, ?_, ?_⟩
  · exact CQd_same (fun k k1 k2 => by rw [cI_1, if_neg (by omega), h3]) (fun k k1 k2 => by rw [cI_2, h5]) hB.2.1
  · exact MQd_HW ⟨fun k hk => rfl, fun _ _ => rfl⟩ hB.2.2.1
  · have := hB.2.2.2.2.2.2.2.1
    unfold Measured at this ⊢
    rw [cI_1, if_neg (by omega), cI_2, h3, h6]
    exact this
  · unfold SpanI
    rw [cI_1, if_neg (by omega), cI_1, if_neg (by omega), h3]
    rcases hS with g | ⟨g1, g2, g3, g4⟩
    · exact Or.inl g
    · exact Or.inr ⟨g1, g2, g3, Spanned_same (by rw [cI_1, if_neg (by omega), h3]) (by rw [cI_2]; exact h8 502 (by omega)) (by rw [cI_2, h6]) (by rw [cI_2, h6]) (by rw [cI_2, h6]) g4⟩
  · exact Ran_same ⟨fun k k1 k2 => by rw [cI_1, if_neg (by omega), h3], fun k k1 k2 => by rw [cI_2, h5], by rw [cI_2, h7]⟩ ⟨rfl, rfl, rfl⟩ hR
theorem law_step {N : Nat} (hN : 100000 ≤ N) (o a1 a2 a3 a4 a5 : Int32) {σ : CSt} {τ : MSt} (hI : Inv σ τ) : Gud (lawStep N o a1 a2 a3 a4 a5 σ τ) := by
  have hI' := hI
  obtain ⟨q, c, hB, hS, hR⟩ := hI
  have hq := hB.1
  have hC := hB.2.1
  have hM := hB.2.2.1
  have hc := hB.2.2.2.1
  have h6 := hB.2.2.2.2.1
  have h11 := hB.2.2.2.2.2.1
  unfold lawStep
  by_cases o0 : o &&& 31 = 0
  · rw [if_pos o0]; exact Gud_Q hB hS hR (table_ok hq hC hM hc h6 h11)
  rw [if_neg o0]
  by_cases o1 : o &&& 31 = 1
  · rw [if_pos o1]; exact Gud_Q hB hS hR (row_ok hq hC hM hc h6 h11 a1 a2 a3 a4)
  rw [if_neg o1]
  by_cases o2 : o &&& 31 = 2
  · rw [if_pos o2]; exact Gud_Q hB hS hR (pair_ok (by omega) hq hC hM hc h6 h11 a1 a2 a3 a4 a5)
  rw [if_neg o2]
  by_cases o3 : o &&& 31 = 3
  · rw [if_pos o3]; exact Gud_Q hB hS hR (order_ok hq hC hM hc h6 h11 a1 a2)
  rw [if_neg o3]
  by_cases o4 : o &&& 31 = 4
  · rw [if_pos o4]; exact Gud_clear (by omega) hB hS hR
  rw [if_neg o4]
  by_cases o5 : o &&& 31 = 5
  · rw [if_pos o5]; exact Gud_S hR (stepK.S hS (read_ok (by omega) hB a1))
  rw [if_neg o5]
  by_cases o6 : o &&& 31 = 6
  · rw [if_pos o6]; exact Gud_S hR (stepK.S hS (join_ok (by omega) hB a1 a2 a3))
  rw [if_neg o6]
  by_cases o7 : o &&& 31 = 7
  · rw [if_pos o7]; exact Gud_V hI' (code_ok (by omega) hB a1 a2)
  rw [if_neg o7]
  by_cases o8 : o &&& 31 = 8
  · rw [if_pos o8]
    obtain ⟨r, τ', h1, h2, h3⟩ := about_ok (N := N) (by omega) hB a1 a2
    refine ⟨(σ, τ'), ?_, q, c, Base_Fr h3 hB, hS, Ran_same (RanC.refl σ) (RanM_Fr h3) hR⟩
    unfold law_8
    rw [h1, bs, h2, bs]
    exact if_pos rfl
  rw [if_neg o8]
  by_cases o9 : o &&& 31 = 9
  · rw [if_pos o9]
    obtain ⟨r, τ', h1, h2, h3⟩ := price_ok (N := N) (by omega) hB a1 a2
    refine ⟨(σ, τ'), ?_, q, c, Base_Fr h3 hB, hS, Ran_same (RanC.refl σ) (RanM_Fr h3) hR⟩
    unfold law_9
    rw [h1, bs, h2, bs]
    exact if_pos (cmp_same r)
  rw [if_neg o9]
  by_cases o10 : o &&& 31 = 10
  · rw [if_pos o10]; exact Gud_S hR (stepK.S hS (best_ok (by omega) hB a1))
  rw [if_neg o10]
  by_cases o11 : o &&& 31 = 11
  · rw [if_pos o11]; exact Gud_S hR (spans_ok (by omega) hB hS)
  rw [if_neg o11]
  by_cases o12 : o &&& 31 = 12
  · rw [if_pos o12]; exact Gud_L hR (border_ok (by omega) hB hS a1 a2)
  rw [if_neg o12]
  by_cases o13 : o &&& 31 = 13
  · rw [if_pos o13]; exact Gud_S hR (keen_ok (by omega) hB hS a1)
  rw [if_neg o13]
  by_cases o14 : o &&& 31 = 14
  · rw [if_pos o14]; exact Gud_S hR (near_ok (by omega) hB hS a1 a2 a3)
  rw [if_neg o14]
  by_cases o15 : o &&& 31 = 15
  · rw [if_pos o15]; exact Gud_S hR (worst_ok (by omega) hB hS a1)
  rw [if_neg o15]
  by_cases o16 : o &&& 31 = 16
  · rw [if_pos o16]; exact Gud_S hR (blind_ok (by omega) hB hS)
  rw [if_neg o16]
  by_cases o17 : o &&& 31 = 17
  · rw [if_pos o17]; exact Gud_S hR (cover_ok hN hB hS a1)
  rw [if_neg o17]
  by_cases o18 : o &&& 31 = 18
  · rw [if_pos o18]
    obtain ⟨r, σ', τ', h1, h2, h3, h4, h5⟩ := run_ok (N := N) (by omega) hB hS hR a1
    refine ⟨(σ', τ'), ?_, q, c, h3, h4, h5⟩
    unfold law_18
    rw [h1, bs, h2, bs]
    exact if_pos rfl
  rw [if_neg o18]
  by_cases o19 : o &&& 31 = 19
  · rw [if_pos o19]; exact Gud_V hI' (steps_ok hR)
  rw [if_neg o19]
  by_cases o20 : o &&& 31 = 20
  · rw [if_pos o20]; exact Gud_V hI' (out_ok hR a1 a2)
  rw [if_neg o20]
  by_cases o21 : o &&& 31 = 21
  · rw [if_pos o21]; exact Gud_V hI' (holds_ok (by omega) hq hC hM a1)
  rw [if_neg o21]
  by_cases o22 : o &&& 31 = 22
  · rw [if_pos o22]; exact Gud_S hR (stepK.S hS (count_ok (by omega) hB a1))
  rw [if_neg o22]
  exact ⟨(σ, τ), rfl, hI'⟩
def q00 : Qd := ((0, 0, -1, 0), fun _ => 0, fun _ _ _ => 0, fun _ => 0, fun _ => 0, fun _ => 0, fun _ => 0, fun _ => 0)
theorem inv_0 : Inv cS0 mS0 := by
  refine ⟨q00, 0, ⟨?_, ?_, ?_, by omega, rfl, rfl, fun i hi => by omega, Or.inl rfl, fun h => by omega⟩, Or.inl rfl, ?_⟩
  · exact ⟨by decide, by decide, fun t => by show 0 ≤ 8; omega, fun t _ => rfl, fun p hp => absurd hp (Nat.not_lt_zero p), fun p p' hp => absurd hp (Nat.not_lt_zero p), Or.inl rfl⟩
  · exact ⟨rfl, rfl, rfl, rfl, fun t _ => rfl, fun t i c _ h => absurd h (Nat.not_lt_zero i), fun p hp => absurd hp (Nat.not_lt_zero p), fun p _ _ => rfl, Or.inl ⟨rfl, fun p hp => absurd hp (Nat.not_lt_zero p)⟩⟩
  · exact ⟨rfl, rfl, rfl, rfl, fun t _ => rfl, fun t i c _ h => absurd h (Nat.not_lt_zero i), fun p hp => absurd hp (Nat.not_lt_zero p)⟩
  · exact ⟨rfl, Or.inl ⟨rfl, rfl⟩, by show 0 ≤ 4096; omega, rfl, 0, 0, by omega, by show 0 ≤ 0; omega, by omega, rfl, rfl, rfl, fun i hi => by omega⟩
theorem law_pure : LawPure := by
  refine ⟨100000, ?_⟩
  intro xs k _
  have : ∀ k, Gud (lawIter 100000 xs k) := by
    intro k
    induction k with
    | zero => exact ⟨(cS0, mS0), rfl, inv_0⟩
    | succ k ih =>
      obtain ⟨s, h1, h2⟩ := ih
      show Gud ((lawIter 100000 xs k).bind fun q => lawStep 100000 (xs (6 * k)) (xs (6 * k + 1)) (xs (6 * k + 2)) (xs (6 * k + 3)) (xs (6 * k + 4)) (xs (6 * k + 5)) q.1 q.2)
      rw [h1, bs]
      exact law_step (Nat.le_refl _) _ _ _ _ _ _ h2
  obtain ⟨s, h1, -⟩ := this k
  exact ⟨s, h1⟩
