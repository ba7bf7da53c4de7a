/-! the walk over all sets -/
theorem kb_l (q : Qd) (l r k : Nat) : (kb q (PE q) l r k).length = (PE q l).length * (PE q r).length := kb_len _ _ _ _ _
theorem l103 {N : Nat} (hN : 5000 ≤ N) {q : Qd} (hq : WfQ q) {S l : Nat} (hS : S < 2 ^ qT q) (hk : okB q S l = true) (K : MSt → Int32 → Int32 → Option MSt) {Y : List Ent} {τ : MSt} (hM : MQd q τ) (hL : Ls (Lt q S ++ Y) τ) (hF : Frm q S τ) (hlen : (Lt q S ++ (Y ++ blk q (PE q) S l)).length ≤ 5000) : ∃ τ', fM_list_L103 N K N τ (nI S) (nI l) (nI (S - l)) 0 = K τ' (nI S) (nI l) ∧ Ls (Lt q S ++ (Y ++ blk q (PE q) S l)) τ' ∧ Fk τ τ' := by
  have hs := (okB_ok hk).1
  obtain ⟨n, rfl⟩ : ∃ n, N = n + 4 := ⟨N - 4, by omega⟩
  unfold blk at hlen ⊢
  rw [if_pos hk] at hlen ⊢
  simp only [List.length_append, kb_l] at hlen
  rw [fM_list_L103, if_neg (by decide)]
  obtain ⟨τ1, a1, a2, a3⟩ := joinAll_ok hN hq hS hs (k := 0) (by omega) hM hL hF (by rw [List.length_append]; omega) (nI S)
  rw [show (0 : Int32) = nI 0 from rfl, a1, bs, nI_1, fM_list_L103, if_neg (show ¬ (3 : Int32) ≤ nI 1 by decide)]
  obtain ⟨τ2, b1, b2, b3⟩ := joinAll_ok hN hq hS hs (k := 1) (by omega) (MQd_Fr a3.1 hM) a2 (Frm_Fk a3 hF) (by simp only [List.length_append, kb_l]; omega) (nI S)
  rw [b1, bs, nI_1, fM_list_L103, if_neg (show ¬ (3 : Int32) ≤ nI 2 by decide)]
  have m2 := a3.trans b3
  obtain ⟨τ3, c1, c2, c3⟩ := joinAll_ok hN hq hS hs (k := 2) (by omega) (MQd_Fr m2.1 hM) b2 (Frm_Fk m2 hF) (by simp only [List.length_append, kb_l]; omega) (nI S)
  rw [c1, bs, nI_1, fM_list_L103, if_pos (show (3 : Int32) ≤ nI 3 by decide)]
  refine ⟨τ3, rfl, ?_, m2.trans c3⟩
  simp only [List.append_assoc] at c2 ⊢
  exact c2
theorem jl_mono (q : Qd) (E : Nat → List Ent) (S : Nat) : ∀ m n, (jl q E S n).length ≤ (jl q E S (n + m)).length := by
  intro m
  induction m with
  | zero => intro n; exact Nat.le_refl _
  | succ m ih =>
    intro n
    refine Nat.le_trans (ih n) ?_
    show (jl q E S (n + m)).length ≤ (jl q E S (n + m) ++ blk q E S (n + m)).length
    rw [List.length_append]
    omega
def subT (S l : Nat) : Bool := decide (0 < l) && decide (l < S) && decide (l &&& (15 - S) = 0) == sub1 S l
theorem subTB : ((List.range 16).all fun S => (List.range S).all fun l => !(decide (0 < l)) || (decide (l &&& (15 - S) = 0) == sub1 S l)) = true := by decide +kernel
theorem sub_iff {S l : Nat} (hS : S < 16) (h0 : 0 < l) (hl : l < S) : l &&& (15 - S) = 0 ↔ sub1 S l = true := by
  have g := subTB
  simp only [List.all_eq_true, List.mem_range] at g
  have g := g S hS l hl
  simp only [h0, decide_true, Bool.not_true, Bool.false_or, beq_iff_eq] at g
  rw [← g, decide_eq_true_eq]
theorem lb_ge {q : Qd} (hq : WfQ q) (l r : Nat) : 0 ≤ lb q l r ↔ lb q l r ≠ -1 := by
  have hP := hq.2.1
  rcases lb_cases (q := q) l r with ⟨h, -⟩ | ⟨p, hp, h, -⟩
  · rw [h]; decide
  · rw [h]
    exact ⟨fun _ => nI_ne_m1 (by omega), fun _ => nI_pos' (by omega)⟩
theorem b_and_15 : ∀ a, a < 16 → ∀ b, b < 16 → a &&& (15 - b) < 16 := by decide +kernel
theorem l69 {N : Nat} (hN : 5000 ≤ N) {q : Qd} (hq : WfQ q) {S : Nat} (hS : S < 2 ^ qT q) (K : MSt → Int32 → Option MSt) (X : List Ent) (hlen : (Lt q S ++ (X ++ jl q (PE q) S S)).length ≤ 5000) : ∀ (n m l : Nat) (τ : MSt), l + m = S → 0 < l → m < n → MQd q τ → Ls (Lt q S ++ (X ++ jl q (PE q) S l)) τ → Frm q S τ → ∃ τ', fM_list_L69 N K n τ (nI S) (nI l) = K τ' (nI S) ∧ Ls (Lt q S ++ (X ++ jl q (PE q) S S)) τ' ∧ Fk τ τ' := by
  have hT := hq.1
  have h16 : 2 ^ qT q ≤ 16 := Nat.pow_le_pow_right (n := 2) (by omega) hT
  intro n
  induction n with
  | zero => intro m l τ _ _ h; omega
  | succ n ih =>
    intro m l τ hm h0 hn hM hL hF
    rw [fM_list_L69]
    cases m with
    | zero =>
      rw [if_pos (nI_le (by omega) (by omega))]
      have e : l = S := by omega
      subst e
      exact ⟨τ, rfl, hL, Fk.refl τ⟩
    | succ m =>
      have hlS : l < S := by omega
      have hd := b_and_15 l (by omega) S (by omega)
      rw [if_neg (nI_ge hlS (by omega)), b_diff l (by omega) S (by omega), nI_1]
      have hno : okB q S l ≠ true → jl q (PE q) S (l + 1) = jl q (PE q) S l := by
        intro hk
        show jl q (PE q) S l ++ blk q (PE q) S l = _
        unfold blk
        rw [if_neg hk, List.append_nil]
      by_cases g : l &&& (15 - S) = 0
      · have hs := (sub_iff (by omega) h0 hlS).mp g
        have hb := b_sub (show S < 16 by omega) hs
        rw [if_pos ((nI_eq0 (by omega)).mpr g), b_diff S (by omega) l (by omega), hb.2.2.2.2.2.2, betweenM (by omega) hq hM (by omega) (by omega), bs]
        by_cases g2 : lb q l (S - l) = -1
        · rw [if_neg (fun h => (lb_ge hq l (S - l)).mp h g2)]
          have hk : okB q S l ≠ true := fun h => (okB_ok h).2 g2
          exact ih m (l + 1) τ (by omega) (by omega) (by omega) hM (by rw [hno hk]; exact hL) hF
        · rw [if_pos ((lb_ge hq l (S - l)).mpr g2)]
          have hk := okB_t hs g2
          have hj : (jl q (PE q) S (l + 1)).length ≤ (jl q (PE q) S S).length := by
            have := jl_mono q (PE q) S m (l + 1)
            rw [show l + 1 + m = S by omega] at this
            exact this
          have hj1 : jl q (PE q) S (l + 1) = jl q (PE q) S l ++ blk q (PE q) S l := rfl
          obtain ⟨τ1, a1, a2, a3⟩ := l103 hN hq hS hk (fun (σ : MSt) (x1 : Int32) (x2 : Int32) => fM_list_L69 N K n σ x1 (x2 + 1)) hM hL hF (by rw [List.append_assoc, ← hj1]; simp only [List.length_append] at hlen ⊢; omega)
          rw [a1, nI_1]
          obtain ⟨τ2, b1, b2, b3⟩ := ih m (l + 1) τ1 (by omega) (by omega) (by omega) (MQd_Fr a3.1 hM) (by rw [hj1, ← List.append_assoc X]; exact a2) (Frm_Fk a3 hF)
          exact ⟨τ2, b1, b2, a3.trans b3⟩
      · rw [if_neg (fun h => g ((nI_eq0 (by omega)).mp h))]
        have hk : okB q S l ≠ true := fun h => g ((sub_iff (by omega) h0 hlS).mpr (okB_ok h).1)
        exact ih m (l + 1) τ (by omega) (by omega) (by omega) hM (by rw [hno hk]; exact hL) hF
theorem l27 {N : Nat} {q : Qd} (hq : WfQ q) {S : Nat} (hS : S < 16) (K : MSt → Int32 → Option MSt) (hlen : (Lt q S ++ rl q S (qT q)).length ≤ 4000) : ∀ (n m t : Nat) (τ : MSt), t + m = qT q → m < n → MQd q τ → Ls (Lt q S ++ rl q S t) τ → (Lt q S ++ rl q S t).length + m ≤ 5000 → ∃ τ', fM_list_L27 N K n τ (nI S) (nI t) = K τ' (nI S) ∧ Ls (Lt q S ++ rl q S (qT q)) τ' ∧ Fk τ τ' := by
  have hT := hq.1
  intro n
  induction n with
  | zero => intro m t τ _ h; omega
  | succ n ih =>
    intro m t τ hm hn hM hL hle
    rw [fM_list_L27, hM.1]
    cases m with
    | zero =>
      rw [if_pos (nI_le (by omega) (by omega))]
      have e : t = qT q := by omega
      rw [e] at hL
      exact ⟨τ, rfl, hL, Fk.refl τ⟩
    | succ m =>
      have htT : t < qT q := by omega
      rw [if_neg (nI_ge htT (by omega)), b_shl t (by omega), nI_1]
      have hp := b_pow_lt t (by omega)
      have hr : rl q S (t + 1) = rl q S t ++ (if S = 2 ^ t then [rd q t] else []) := rfl
      by_cases g : S = 2 ^ t
      · rw [if_pos ((nI_eq (by omega) (by omega)).mpr g), chk_nI (by omega) (by omega), nI_cl (by omega), hM.2.2.2.2.1 t (by omega), nI_l (by have := hq.2.2.1 t; omega), l256, lN_mul, add_eq hL.1 (by omega), bs]
        have hA := add_Ls hL (rd q t)
        rw [if_pos g] at hr
        rw [List.append_assoc, ← hr] at hA
        have hK := add_Fk τ (Lt q S ++ rl q S t).length (nI (eC (rd q t))) (nI (eL (rd q t))) (eK (rd q t)) (lN (eA (rd q t))) (lN (eB (rd q t)))
        obtain ⟨τ1, a1, a2, a3⟩ := ih m (t + 1) _ (by omega) (by omega) (MQd_Fr hK.1 hM) hA (by rw [hr, ← List.append_assoc, List.length_append, List.length_singleton]; omega)
        exact ⟨τ1, a1, a2, hK.trans a3⟩
      · rw [if_neg (fun h => g ((nI_eq (by omega) (by omega)).mp h))]
        rw [if_neg g, List.append_nil] at hr
        exact ih m (t + 1) τ (by omega) (by omega) hM (by rw [hr]; exact hL) (by rw [hr]; omega)
