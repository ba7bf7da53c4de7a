/-! row -/
theorem n10 : ¬ (1 : Int32) = 0 := by decide
theorem i8 : (8 : Int32) = nI 8 := rfl
theorem i3 : (3 : Int32) = nI 3 := rfl
theorem i36 : (36 : Int32) = nI 36 := rfl
theorem i1 : (1 : Int32) = nI 1 := rfl
theorem i2 : (2 : Int32) = nI 2 := rfl
theorem i4 : (4 : Int32) = nI 4 := rfl
theorem rowsOf_t {N : Nat} {q : Qd} {σ : CSt} (hC : CQd q σ) (hq : qT q ≤ 4) {t : Nat} (ht : t < qT q) : fQ_rowsOf N σ (nI t) = some (nI (qr q t)) := by
  unfold fQ_rowsOf
  rw [fQ_isTable_t hC hq ht, bs, if_neg (by decide), chk_nI (by omega) (by omega), nI_cl (by omega), hC.2.2.2.2.1 t (by omega)]
theorem rowsOf_f {N : Nat} {q : Qd} {σ : CSt} (hC : CQd q σ) {x : Int32} (hx : ¬ isT q x) : fQ_rowsOf N σ x = some 0 := by
  unfold fQ_rowsOf
  rw [fQ_isTable_f hC hx]
  rfl
theorem row_at (t r : Nat) : ((nI t * (8 : Int32)) + nI r) * (3 : Int32) = nI ((t * 8 + r) * 3) := by
  rw [i8, i3, pk_mul, nI_add, pk_mul]
theorem row_atM (t r : Nat) : ((36 : Int32) * nI t) + ((3 : Int32) * nI r) = nI (36 * t + 3 * r) := by
  rw [i36, i3, pk_mul, pk_mul, nI_add]
theorem addRow_ok {N : Nat} {q : Qd} {σ : CSt} (hq : WfQ q) (hC : CQd q σ) {t : Nat} (ht : t < qT q) (h8 : qr q t < 8) (a b c : Int32) : fQ_addRow N σ (nI t) a b c = some (nI (qr q t), cA (cA (cA (cA σ 306 ((t * 8 + qr q t) * 3) a) 306 ((t * 8 + qr q t) * 3 + 1) b) 306 ((t * 8 + qr q t) * 3 + 2) c) 305 t (nI (qr q t + 1))) := by
  have hT := hq.1
  unfold fQ_addRow
  rw [rowsOf_t hC hT ht, bs, fQ_isTable_t hC hT ht, bs, if_neg (by decide), if_pos (by rw [i8]; exact nI_lt h8 (by omega))]
  simp only [row_at, i1, i2, nI_add]
  rw [chk_nI (by omega) (by omega), chk_nI (by omega) (by omega), chk_nI (by omega) (by omega), chk_nI (by omega) (by omega), chk_nI (by omega) (by omega)]
  simp only [nI_cl (show (t * 8 + qr q t) * 3 < 2 ^ 31 by omega), nI_cl (show (t * 8 + qr q t) * 3 + 1 < 2 ^ 31 by omega), nI_cl (show (t * 8 + qr q t) * 3 + 2 < 2 ^ 31 by omega), nI_cl (show t < 2 ^ 31 by omega), cA_3, Nat.reduceEqDiff, ↓reduceIte, hC.2.2.2.2.1 t (by omega), nI_add]
def qrow (q : Qd) (t : Nat) (a b c : Int32) : Qd := (q.1, (fun k => if k = t then qr q t + 1 else qr q k), (fun t' i k => if t' = t ∧ i = qr q t then (if k = 0 then a else if k = 1 then b else c) else qv q t' i k), q.2.2.2)
theorem qrow_lt {q : Qd} {t t' i : Nat} (hi : i < (if t' = t then qr q t + 1 else qr q t')) (e : ¬ (t' = t ∧ i = qr q t)) : i < qr q t' := by
  by_cases h : t' = t
  · subst h
    rw [if_pos rfl] at hi
    have : i ≠ qr q t' := fun h => e ⟨rfl, h⟩
    omega
  · rw [if_neg h] at hi
    exact hi
theorem qrow_v {q : Qd} {t : Nat} {a b c : Int32} (f : Nat → Int32) (M d : Nat) (hd : ∀ t' i, i < 8 → (t' ≠ t ∨ i ≠ qr q t) → d * t' + 3 * i + 2 < d * t + 3 * qr q t ∨ d * t + 3 * qr q t + 2 < d * t' + 3 * i) {t' i k : Nat} (hi : i < 8) (hk : k < 3) (h : ¬ (t' = t ∧ i = qr q t) → f (d * t' + 3 * i + k) = qv q t' i k) :
    upd (upd (upd f (d * t + 3 * qr q t) a) (d * t + 3 * qr q t + 1) b) (d * t + 3 * qr q t + 2) c (d * t' + 3 * i + k) = qv (qrow q t a b c) t' i k := by
  show _ = (if t' = t ∧ i = qr q t then (if k = 0 then a else if k = 1 then b else c) else qv q t' i k)
  simp only [upd_at]
  by_cases e : t' = t ∧ i = qr q t
  · rw [if_pos e]
    obtain ⟨rfl, rfl⟩ := e
    rcases (show k = 0 ∨ k = 1 ∨ k = 2 by omega) with rfl | rfl | rfl
    · rw [if_neg (by omega), if_neg (by omega), if_pos (by omega), if_pos rfl]
    · rw [if_neg (by omega), if_pos rfl, if_neg (by omega), if_pos rfl]
    · rw [if_pos rfl, if_neg (by omega), if_neg (by omega)]
  · have := hd t' i hi (by omega)
    rw [if_neg e, if_neg (by omega), if_neg (by omega), if_neg (by omega)]
    exact h e
theorem row_ok {N : Nat} {q : Qd} {σ : CSt} {τ : MSt} {n : Nat} (hq : WfQ q) (hC : CQd q σ) (hM : MQd q τ) (hc : n ≤ 60) (h1 : σ.1 606 = nI n) (h2 : τ.1 11 = nI n) (x a b c : Int32) : stepQ q σ τ (fC_row N σ x a b c) (fM_row N τ x a b c) := by
  have hT := hq.1
  unfold fC_row fM_row
  by_cases hx : isT q x
  · obtain ⟨t, ht, rfl⟩ := (isT_nat hT).mp hx
    have hr8 := hq.2.2.1 t
    rw [fQ_isTable_t hC hT ht, fM_isTable_t hM hT ht, bs, bs, if_neg n10, if_neg n10, h1, h2]
    rcases cnt_cases hc with ⟨h0, hc0⟩ | ⟨h0, -⟩
    · rw [if_pos h0, if_pos h0, rowsOf_t hC hT ht, bs, chk_nI (by omega) (by omega), nI_cl (by omega), hM.2.2.2.2.1 t (by omega)]
      by_cases h8 : qr q t = 8
      · rw [h8, if_neg (by decide), if_pos (by decide)]
        exact stepQ_same _ rfl rfl
      · have hlt : qr q t < 8 := by omega
        rw [if_pos (by rw [i8]; exact nI_lt hlt (by omega)), if_neg (by rw [i8, nI_eq (by omega) (by omega)]; exact h8), forget_ok, bs, addRow_ok hq (CQd_fg hC) ht hlt, bs]
        simp only [row_atM, i1, i2, nI_add]
        rw [chk_nI (by omega) (by omega), chk_nI (by omega) (by omega), chk_nI (by omega) (by omega), chk_nI (by omega) (by omega), chk_nI (by omega) (by omega), chk_nI (by omega) (by omega), chk_nI (by omega) (by omega)]
        simp only [nI_cl (show 36 * t + 3 * qr q t < 2 ^ 31 by omega), nI_cl (show 36 * t + 3 * qr q t + 1 < 2 ^ 31 by omega), nI_cl (show 36 * t + 3 * qr q t + 2 < 2 ^ 31 by omega), nI_cl (show t < 2 ^ 31 by omega), sA_3, Nat.reduceEqDiff, ↓reduceIte, hM.2.2.2.2.1 t (by omega), nI_add, upd_at]
        subst hc0
        refine ⟨nI (qr q t), _, _, rfl, by rw [show nI (qr q t + 1) - nI 1 = nI (qr q t) from nI_pred _], Or.inr ⟨h1.trans nI_0, qrow q t a b c, ?_, ?_, ?_, ?_, ?_⟩⟩
        · obtain ⟨a1, a2, a3, a4, a5, a6, a7⟩ := hq
          refine ⟨a1, a2, fun k => ?_, fun k hk => ?_, a5, a6, a7⟩
          · show (if k = t then qr q t + 1 else qr q k) ≤ 8
            split
            · omega
            · exact a3 k
          · show (if k = t then qr q t + 1 else qr q k) = 0
            have hk : qT q ≤ k := hk
            rw [if_neg (by omega)]
            exact a4 k hk
        · obtain ⟨a1, a2, a3, a4, a5, a6, a7⟩ := hC
          refine ⟨a1, a2, a3, a4, fun k hk => ?_, fun t' i k ht' hi hk => ?_, a7⟩
          · show upd (σ.2.2.1 305) t (nI (qr q t + 1)) k = nI (if k = t then qr q t + 1 else qr q k)
            rw [upd_at]
            split
            · rfl
            · exact a5 k hk
          · have hi8 : i < 8 := by
              have hi : i < (if t' = t then qr q t + 1 else qr q t') := hi
              have := hq.2.2.1 t'
              split at hi <;> omega
            have := qrow_v (q := q) (t := t) (a := a) (b := b) (c := c) (σ.2.2.1 306) 0 24 (fun t' i _ h => by omega) (t' := t') (i := i) (k := k) hi8 hk (fun e => by
              have := a6 t' i k ht' (qrow_lt hi e) hk
              rw [← this]
              exact congrArg (σ.2.2.1 306) (by omega))
            rw [← this]
            show upd (upd (upd (σ.2.2.1 306) ((t * 8 + qr q t) * 3) a) ((t * 8 + qr q t) * 3 + 1) b) ((t * 8 + qr q t) * 3 + 2) c ((t' * 8 + i) * 3 + k) = _
            rw [show (t * 8 + qr q t) * 3 = 24 * t + 3 * qr q t by omega, show (t' * 8 + i) * 3 = 24 * t' + 3 * i by omega]
        · obtain ⟨a1, a2, a3, a4, a5, a6, a7⟩ := hM
          refine ⟨a1, a2, a3, a4, fun k hk => ?_, fun t' i k ht' hi hk => ?_, a7⟩
          · show upd (τ.2.2.1 4) t (nI (qr q t + 1)) k = nI (if k = t then qr q t + 1 else qr q k)
            rw [upd_at]
            split
            · rfl
            · exact a5 k hk
          · have hi8 : i < 8 := by
              have hi : i < (if t' = t then qr q t + 1 else qr q t') := hi
              have := hq.2.2.1 t'
              split at hi <;> omega
            exact qrow_v (q := q) (t := t) (a := a) (b := b) (c := c) (τ.2.2.1 5) 0 36 (fun t' i _ h => by omega) (t' := t') (i := i) (k := k) hi8 hk (fun e => by
              exact a6 t' i k ht' (qrow_lt hi e) hk)
        · refine ⟨fun k k1 k2 k3 k4 k5 k6 k7 => ?_, rfl, fun k hk => ?_, rfl, rfl, rfl⟩
          · show (fg σ).1 k = σ.1 k
            simp only [fg_1, if_neg k6, if_neg k7]
          · simp only [cA_3]
            rw [if_neg (by omega), if_neg (by omega), if_neg (by omega), if_neg (by omega)]
            rfl
        · refine ⟨fun k hk => rfl, rfl, fun k hk => ?_, rfl⟩
          simp only [sA_3]
          rw [if_neg (by omega), if_neg (by omega), if_neg (by omega), if_neg (by omega)]
    · rw [if_neg h0, if_neg h0]
      exact stepQ_same _ rfl rfl
  · rw [fQ_isTable_f hC hx, fM_isTable_f hM hx]
    exact stepQ_same _ rfl rfl
