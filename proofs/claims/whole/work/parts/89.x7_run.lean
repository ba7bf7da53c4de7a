/-! run, steps, out -/
def Ran (σ : CSt) (τ : MSt) : Prop := σ.2.2.1 404 0 = nI 0 ∧ ((σ.2.2.2.2.2 402 = 0 ∧ σ.2.2.2.2.2 403 = 0) ∨ σ.2.2.2.2.2 402 = σ.2.2.2.2.2 403 + 4) ∧ σ.2.2.2.2.2 403 ≤ 4096 ∧ σ.1 400 = τ.1 37 ∧ ∃ rc S, rc ≤ 4096 ∧ rc ≤ σ.2.2.2.2.2 402 ∧ S < 16 ∧ σ.1 412 = nI rc ∧ τ.1 38 = nI rc ∧ σ.1 411 = nI S ∧ ∀ i, i < rc → ∃ v, v < 4096 ∧ σ.2.2.1 402 i = nI v ∧ ∀ t, t < 4 → τ.2.2.1 39 (4 * i + t) = dg4 S v t
theorem Ran_same {σ σ' : CSt} {τ τ' : MSt} (hC : RanC σ σ') (hM : RanM τ τ') (h : Ran σ τ) : Ran σ' τ' := by
  unfold Ran at h ⊢
  rw [hC.2.1 404 (by omega) (by omega), hC.2.1 402 (by omega) (by omega), hC.2.2, hC.1 400 (by omega) (by omega), hC.1 412 (by omega) (by omega), hC.1 411 (by omega) (by omega), hM.1, hM.2.1, hM.2.2]
  exact h
theorem steps_ok {N : Nat} {σ : CSt} {τ : MSt} (h : Ran σ τ) : ∃ r, fC_steps N σ = some r ∧ fM_steps N τ = some r := ⟨σ.1 400, rfl, by unfold fM_steps; rw [h.2.2.2.1]⟩
theorem out_ok {N : Nat} {σ : CSt} {τ : MSt} (h : Ran σ τ) (x y : Int32) : ∃ r, fC_out N σ x y = some r ∧ fM_out N τ x y = some r := by
  obtain ⟨-, hl, hl3, -, rc, S, r1, r2, r3, r4, r5, r6, r7⟩ := h
  have h402 : σ.2.2.2.2.2 402 ≤ 4100 := by omega
  unfold fC_out fR_rowOf fM_out
  generalize σ.2.2.2.2.2 402 = n2 at r2 h402 hl
  rw [r4, r5, r6]
  by_cases x0 : x < 0
  · rw [if_pos x0, if_pos x0]; exact ⟨_, rfl, rfl⟩
  · obtain ⟨i, hi31, rfl⟩ := nI_of x0
    rw [if_neg x0, if_neg x0]
    by_cases c : i < rc
    · obtain ⟨v, v1, v2, v3⟩ := r7 i c
      rw [if_neg (nI_ge c (by omega)), if_neg (nI_ge c (by omega)), if_neg (show ¬ Int32.ofNat n2 ≤ nI i from nI_ge (by omega) (by omega))]
      by_cases y0 : y < 0
      · rw [if_pos y0, if_pos y0]; exact ⟨_, rfl, rfl⟩
      · obtain ⟨t, ht31, rfl⟩ := nI_of y0
        rw [if_neg y0, if_neg y0]
        by_cases ct : t < 4
        · have m1 : S / 2 ^ t % 2 < 2 := Nat.mod_lt _ (by omega)
          rw [if_pos (show nI t < (4 : Int32) from nI_lt (b := 4) ct (by omega)), if_pos (show nI t ≤ (3 : Int32) from nI_le (b := 3) (by omega) (by omega)), show (4 : Int32) = nI 4 from rfl, nI_mul, nI_add, chk_nI (show 4 * i + t < 82944 by omega) (by omega), nI_cl (show 4 * i + t < 2 ^ 31 by omega), v3 t ct, b_bit S r3 t ct, chk_nI (show i < n2 by omega) (by omega), nI_cl (show i < 2 ^ 31 by omega), v2, rowIn_ok N (by omega) ct, bs]
          unfold dg4
          by_cases cb : S / 2 ^ t % 2 = 0
          · rw [if_pos ((nI_eq0 (by omega)).mpr cb), if_pos cb]; exact ⟨_, rfl, rfl⟩
          · rw [if_neg (fun h => cb ((nI_eq0 (by omega)).mp h)), if_neg cb]; exact ⟨_, rfl, rfl⟩
        · rw [if_neg (show ¬ nI t < (4 : Int32) from nI_nlt (b := 4) (by omega) ht31), if_neg (show ¬ nI t ≤ (3 : Int32) from nI_ge (a := 3) (by omega) ht31)]
          exact ⟨_, rfl, rfl⟩
    · rw [if_pos (nI_le (by omega) hi31), if_pos (nI_le (by omega) hi31)]
      exact ⟨_, rfl, rfl⟩
/-- what running changes in the class -/
def GW (σ σ' : CSt) : Prop := (∀ k, (k < 400 ∨ 412 < k) → σ'.1 k = σ.1 k) ∧ (∀ k, (k < 402 ∨ 408 < k) → σ'.2.2.1 k = σ.2.2.1 k) ∧ σ'.2.2.2.1 = σ.2.2.2.1 ∧ σ'.2.2.2.2.1 = σ.2.2.2.2.1
theorem GW.refl (σ : CSt) : GW σ σ := ⟨fun _ _ => rfl, fun _ _ => rfl, rfl, rfl⟩
theorem GW.trans {a b c : CSt} (h : GW a b) (g : GW b c) : GW a c := ⟨fun k h1 => (g.1 k h1).trans (h.1 k h1), fun k h1 => (g.2.1 k h1).trans (h.2.1 k h1), g.2.2.1.trans h.2.2.1, g.2.2.2.trans h.2.2.2⟩
theorem GR.GW {σ σ' : CSt} (h : GR σ σ') : GW σ σ' := ⟨fun k hk => h.1 k (by omega) (by omega) (by omega), fun k hk => h.2.1 k hk, by rw [h.2.2], by rw [h.2.2]⟩
theorem CQd_GW {q : Qd} {σ σ' : CSt} (h : GW σ σ') (hC : CQd q σ) : CQd q σ' := CQd_same (fun k h1 h2 => h.1 k (by omega)) (fun k h1 h2 => h.2.1 k (by omega)) hC
theorem Base_GW {q : Qd} {c : Nat} {σ σ' : CSt} {τ : MSt} (h : GW σ σ') (hB : Base q c σ τ) : Base q c σ' τ := by
  obtain ⟨b1, b2, b3, b4, b5, b6, b7, b8, b9⟩ := hB
  refine ⟨b1, CQd_GW h b2, b3, b4, by rw [h.1 606 (by omega)]; exact b5, b6, ?_, ?_, by rw [h.1 607 (by omega)]; exact b9⟩
  · unfold Kept; rw [h.2.2.2]; exact b7
  · unfold Measured; rw [h.1 607 (by omega), h.2.2.1]; exact b8
theorem SpanI_GW {q : Qd} {σ σ' : CSt} (h : GW σ σ') (hS : SpanI q σ) : SpanI q σ' := by
  unfold SpanI
  rw [h.1 608 (by omega), h.1 607 (by omega)]
  rcases hS with g | ⟨g1, g2, g3, g4⟩
  · exact Or.inl g
  · exact Or.inr ⟨g1, g2, g3, Spanned_same (h.1 500 (by omega)) (by rw [h.2.2.2]) (by rw [h.2.2.1]) (by rw [h.2.2.1]) (by rw [h.2.2.1]) g4⟩
/-- what running leaves in the reference -/
def HW (τ τ' : MSt) : Prop := (∀ k, k ≤ 13 → τ'.1 k = τ.1 k) ∧ ∀ k, k ≤ 13 → τ'.2.2.1 k = τ.2.2.1 k
theorem HW.refl (τ : MSt) : HW τ τ := ⟨fun _ _ => rfl, fun _ _ => rfl⟩
theorem HW.trans {a b c : MSt} (h : HW a b) (g : HW b c) : HW a c := ⟨fun k h1 => (g.1 k h1).trans (h.1 k h1), fun k h1 => (g.2 k h1).trans (h.2 k h1)⟩
theorem HR.HW {τ τ' : MSt} (h : HR τ τ') : HW τ τ' := ⟨fun k hk => h.1 k (by omega), fun k hk => h.2 k (by omega)⟩
theorem Fr.HW {τ τ' : MSt} (h : Fr τ τ') : HW τ τ' := ⟨fun k hk => h.1 k (by omega), fun k hk => h.2.2.1 k (by omega) (by omega) (by omega) (by omega)⟩
theorem MQd_HW {q : Qd} {τ τ' : MSt} (h : HW τ τ') (hM : MQd q τ) : MQd q τ' := by
  unfold MQd at hM ⊢
  rw [h.1 0 (by omega), h.1 1 (by omega), h.1 2 (by omega), h.1 3 (by omega), h.2 4 (by omega), h.2 5 (by omega), h.2 6 (by omega), h.2 7 (by omega), h.2 8 (by omega), h.2 9 (by omega), h.2 10 (by omega)]
  exact hM
theorem Base_HW {q : Qd} {c : Nat} {σ : CSt} {τ τ' : MSt} (h : HW τ τ') (hB : Base q c σ τ) : Base q c σ τ' := by
  obtain ⟨b1, b2, b3, b4, b5, b6, b7, b8, b9⟩ := hB
  refine ⟨b1, b2, MQd_HW h b3, b4, b5, by rw [h.1 11 (by omega)]; exact b6, ?_, b8, b9⟩
  unfold Kept
  rw [h.2 12 (by omega), h.2 13 (by omega)]
  exact b7
theorem room_loop {N : Nat} {q : Qd} (hq : WfQ q) {σ : CSt} (hC : CQd q σ) (K : CSt → Int32 → Option CSt) : ∀ (n m t : Nat), t + m = qT q → m < n → fR_makeRoom_L4 N K n σ (nI (pm q t)) (nI t) = K σ (nI (pm q (qT q))) := by
  have hT := hq.1
  intro n
  induction n with
  | zero => intro m t _ h; omega
  | succ n ih =>
    intro m t ht hn
    rw [fR_makeRoom_L4, hC.1]
    cases m with
    | zero => rw [if_pos (nI_le (by omega) (by omega)), show t = qT q by omega]
    | succ m =>
      have h8 := hq.2.2.1 t
      have e : (if (1 : Int32) < nI (qr q t) then nI (qr q t) else (1 : Int32)) = nI (max 1 (qr q t)) := by
        by_cases c : 1 < qr q t
        · rw [if_pos (show (1 : Int32) < nI (qr q t) from nI_lt (a := 1) c (by omega)), Nat.max_eq_right (by omega)]
        · rw [if_neg (show ¬ (1 : Int32) < nI (qr q t) from nI_nlt (a := 1) (by omega) (by omega)), Nat.max_eq_left (by omega)]
          rfl
      rw [if_neg (nI_ge (by omega) (by omega)), rowsOf_any hq hC (by omega), bs, e, nI_mul, nI_1]
      exact ih m (t + 1) (by omega) (by omega)
theorem makeRoom_ok {N : Nat} (hN : 20 ≤ N) {q : Qd} (hq : WfQ q) {σ : CSt} (hC : CQd q σ) (h0 : σ.2.2.1 404 0 = nI 0) (hl : (σ.2.2.2.2.2 402 = 0 ∧ σ.2.2.2.2.2 403 = 0) ∨ σ.2.2.2.2.2 402 = σ.2.2.2.2.2 403 + 4) (h3 : σ.2.2.2.2.2 403 ≤ 4096) : ∃ σ' n3, fR_makeRoom N σ = some σ' ∧ GW σ σ' ∧ σ'.2.2.1 404 0 = nI 0 ∧ σ'.2.2.2.2.2 402 = n3 + 4 ∧ σ'.2.2.2.2.2 403 = n3 ∧ pm q 4 ≤ n3 ∧ n3 ≤ 4096 := by
  have hp := pm_le hq (qT q)
  have h4 : (8 : Nat) ^ qT q ≤ 8 ^ 4 := Nat.pow_le_pow_right (n := 8) (by omega) hq.1
  have hpp := pm_pos q (qT q)
  unfold fR_makeRoom
  have := room_loop (N := N) hq hC (fun (σ : CSt) (x1 : Int32) => (if x1 ≤ (Int32.ofNat (σ.2.2.2.2.2 403)) then some σ else mkk (x1 + (4 : Int32)) 4100 (mkk x1 4096 (some (cN (cN σ 402 (x1 + (4 : Int32)).toNatClampNeg) 403 x1.toNatClampNeg))))) N (qT q) 0 (by omega) (by have := hq.1; omega)
  rw [nI_0, show nI (pm q 0) = (1 : Int32) from rfl] at this
  rw [this]
  by_cases c : pm q (qT q) ≤ σ.2.2.2.2.2 403
  · rw [if_pos (show nI (pm q (qT q)) ≤ Int32.ofNat (σ.2.2.2.2.2 403) from nI_le c (by omega))]
    exact ⟨σ, σ.2.2.2.2.2 403, rfl, GW.refl σ, h0, by omega, rfl, by rw [pm_4 hq]; exact c, h3⟩
  · rw [if_neg (show ¬ nI (pm q (qT q)) ≤ Int32.ofNat (σ.2.2.2.2.2 403) from nI_ge (by omega) (by omega))]
    unfold mkk
    rw [show (4 : Int32) = nI 4 from rfl, nI_add, nI_cl (by omega), nI_cl (by omega), if_neg (by rintro (h | h); exact nI_pos (by omega) h; omega), if_neg (by rintro (h | h); exact nI_pos (by omega) h; omega)]
    refine ⟨_, pm q (qT q), rfl, ⟨fun _ _ => rfl, fun k hk => ?_, rfl, rfl⟩, ?_, ?_, ?_, by rw [pm_4 hq]; exact Nat.le_refl _, by omega⟩
    · show va_up (va_up σ.2.2.1 402 fun _ => 0) 403 (fun _ => 0) k = _
      unfold va_up
      rw [if_neg (by omega), if_neg (by omega)]
    · exact h0
    · rfl
    · rfl
theorem outs_loop {N : Nat} {rc S : Nat} {L : List Nat} (hL : L.length = rc) (hrc : rc ≤ 4096) : ∀ (n m k : Nat) (τ : MSt), k + m = 4 * rc → m < n → τ.1 38 = nI rc → ML τ 0 S L → (∀ i v t, 4 * i + t < k → t < 4 → L[i]? = some v → τ.2.2.1 39 (4 * i + t) = dg4 S v t) → ∃ τ', fM_run_L141 N n τ (nI k) = some (nI rc, τ') ∧ F1 39 τ τ' ∧ ∀ i v t, t < 4 → L[i]? = some v → τ'.2.2.1 39 (4 * i + t) = dg4 S v t := by
  intro n
  induction n with
  | zero => intro m k τ _ h; omega
  | succ n ih =>
    intro m k τ hk hn h38 hML h39
    rw [fM_run_L141, h38, show (4 : Int32) = nI 4 from rfl, nI_mul]
    cases m with
    | zero =>
      rw [if_pos (nI_le (by omega) (by omega))]
      refine ⟨τ, rfl, F1.refl _ τ, fun i v t ht hi => h39 i v t (by have := (List.getElem?_eq_some_iff.mp hi).1; omega) ht hi⟩
    | succ m =>
      rw [if_neg (nI_ge (by omega) (by omega)), chk_nI (by omega) (by omega), chk_nI (by omega) (by omega), nI_cl (by omega), nI_1]
      have f1 := F1_sA τ 39 k (τ.2.2.1 29 k)
      obtain ⟨τ', a1, a2, a3⟩ := ih m (k + 1) (sA τ 39 k (τ.2.2.1 29 k)) (by omega) (by omega) h38 (fun i v t hi ht => by rw [f1.2.2.1 29 (by omega)]; exact hML i v t hi ht) (by
        intro i v t h1 ht hi
        rw [sA_3, if_pos rfl, upd_at]
        by_cases g : 4 * i + t = k
        · rw [if_pos g, ← g]
          have := hML i v t hi ht
          rw [Nat.zero_add] at this
          exact this
        · rw [if_neg g]; exact h39 i v t (by omega) ht hi)
      exact ⟨τ', a1, f1.trans a2, a3⟩
