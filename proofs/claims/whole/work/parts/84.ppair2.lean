/-! pair -/
theorem open_none {N : Nat} {q : Qd} {τ : MSt} (hq : WfQ q) (hM : MQd q τ) (h : ∀ p, p < qP q → qs q p ≠ 0) : ∀ (n i : Nat), i ≤ qP q → qP q - i < n → fM_open_L2 N τ n (nI i) = some (-1) := by
  have hP := hq.2.1
  intro n
  induction n with
  | zero => intro i _ h; omega
  | succ n ih =>
    intro i hi hn
    rw [fM_open_L2, hM.2.1]
    by_cases e : i = qP q
    · rw [e, if_pos (nI_le (Nat.le_refl _) (by omega))]
    · have hlt : i < qP q := by omega
      rw [if_neg (nI_ge hlt (by omega)), chk_nI (by omega) (by omega), nI_cl (by omega), (hM.2.2.2.2.2.2 i hlt).2.2.2.2, if_neg (nI_ne0 (Nat.pos_of_ne_zero (h i hlt)) (by have := (hq.2.2.2.2.1 i hlt).2.2.2.2; omega)), nI_1]
      exact ih (i + 1) (by omega) (by omega)
theorem open_some {N : Nat} {q : Qd} {τ : MSt} (hq : WfQ q) (hM : MQd q τ) {p : Nat} (hp : p < qP q) (h0 : qs q p = 0) : ∀ (n i : Nat), i ≤ p → p - i < n → fM_open_L2 N τ n (nI i) = some (nI p) := by
  have hP := hq.2.1
  intro n
  induction n with
  | zero => intro i _ h; omega
  | succ n ih =>
    intro i hi hn
    have hlt : i < qP q := by omega
    rw [fM_open_L2, hM.2.1, if_neg (nI_ge hlt (by omega)), chk_nI (by omega) (by omega), nI_cl (by omega), (hM.2.2.2.2.2.2 i hlt).2.2.2.2]
    by_cases e : i = p
    · rw [e, h0, if_pos nI_0]
    · have hne : qs q i ≠ 0 := fun h => e (hq.2.2.2.2.2.1 i p hlt hp h h0)
      rw [if_neg (nI_ne0 (Nat.pos_of_ne_zero hne) (by have := (hq.2.2.2.2.1 i hlt).2.2.2.2; omega)), nI_1]
      exact ih (i + 1) (by omega) (by omega)
theorem ends_ok : ∀ t, t < 4 → ∀ u, u < 4 → t < u → (((1 : Int32) <<< (nI t &&& 31)) ||| ((1 : Int32) <<< (nI u &&& 31))) = nI (2 ^ t + 2 ^ u) := by decide +kernel
def qpair (q : Qd) (t c u o s : Nat) : Qd := ((qT q, qP q + 1, q.1.2.2), q.2.1, q.2.2.1, va_up (qt q) (qP q) t, va_up (qc q) (qP q) c, va_up (qu q) (qP q) u, va_up (qo q) (qP q) o, va_up (qs q) (qP q) s)
theorem up_lt {f : Nat → Nat} {P v p : Nat} (h : p < P) : va_up f P v p = f p := va_up_ne f v (by omega)
theorem qpair_wf {q : Qd} (hq : WfQ q) {t c u o s : Nat} (h4 : qP q < 4) (h1 : t < u) (h2 : u < qT q) (h3 : c < 3) (h5 : o < 3) (h6 : s ≤ 4) (h7 : s = 0 → ∀ p, p < qP q → qs q p ≠ 0) : WfQ (qpair q t c u o s) := by
  obtain ⟨a1, a2, a3, a4, a5, a6, a7⟩ := hq
  refine ⟨a1, h4, a3, a4, fun p hp => ?_, fun p p' hp hp' e e' => ?_, a7⟩
  · have hp : p < qP q + 1 := hp
    show va_up (qt q) (qP q) t p < va_up (qu q) (qP q) u p ∧ va_up (qu q) (qP q) u p < qT q ∧ va_up (qc q) (qP q) c p < 3 ∧ va_up (qo q) (qP q) o p < 3 ∧ va_up (qs q) (qP q) s p ≤ 4
    by_cases e : p = qP q
    · subst e
      simp only [va_up_self]
      exact ⟨h1, h2, h3, h5, h6⟩
    · simp only [va_up_ne _ _ e]
      exact a5 p (by omega)
  · have hp : p < qP q + 1 := hp
    have hp' : p' < qP q + 1 := hp'
    have e : va_up (qs q) (qP q) s p = 0 := e
    have e' : va_up (qs q) (qP q) s p' = 0 := e'
    by_cases f : p = qP q <;> by_cases f' : p' = qP q
    · omega
    · rw [f, va_up_self] at e
      rw [va_up_ne _ _ f'] at e'
      exact absurd e' (h7 e p' (by omega))
    · rw [f', va_up_self] at e'
      rw [va_up_ne _ _ f] at e
      exact absurd e (h7 e' p (by omega))
    · rw [va_up_ne _ _ f] at e
      rw [va_up_ne _ _ f'] at e'
      exact a6 p p' (by omega) (by omega) e e'
theorem upd_new {f : Nat → Int32} {g : Nat → Nat} {P v p : Nat} {x : Int32} (hx : x = nI v) (hp : p < P + 1) (h : p < P → f p = nI (g p)) : upd f P x p = nI (va_up g P v p) := by
  rw [upd_at]
  by_cases e : p = P
  · rw [if_pos e, e, va_up_self, hx]
  · rw [if_neg e, va_up_ne _ _ e]
    exact h (by omega)
theorem pairM_ok {N : Nat} {q : Qd} {τ : MSt} (hM : MQd q τ) (h4 : qP q < 4) (a b c d s : Int32) : fM_pair_J76 N τ a b c d s = some (nI (qP q), sI (sA (sA (sA (sA (sA τ 6 (qP q) a) 7 (qP q) b) 8 (qP q) c) 9 (qP q) d) 10 (qP q) s) 1 (nI (qP q + 1))) := by
  unfold fM_pair_J76
  simp only [sI_1, sA_1, hM.2.1, nI_cl (show qP q < 2 ^ 31 by omega), ↓reduceIte, nI_1, nI_pred]
  rw [if_neg (by rw [i4, nI_eq (by omega) (by omega)]; omega), chk_nI h4 (by omega), chk_nI h4 (by omega), chk_nI h4 (by omega), chk_nI h4 (by omega), chk_nI h4 (by omega)]
def pairC (q : Qd) (σ : CSt) (a b c d e s : Int32) : CSt := cA (cA (cA (cA (cA (cA σ 307 (qP q) a) 308 (qP q) b) 309 (qP q) c) 310 (qP q) d) 311 (qP q) e) 312 (qP q) s
theorem addPairing_ok {N : Nat} {q : Qd} {σ : CSt} (hC : CQd q σ) (h4 : qP q < 4) (a b c d s : Int32) : fQ_addPairing N σ a b c d s = some (nI (qP q), if s = 0 then cI (cI (pairC q σ a b c d (((1 : Int32) <<< (a &&& 31)) ||| ((1 : Int32) <<< (c &&& 31))) 1) 302 (nI (qP q))) 301 (nI (qP q + 1)) else cI (pairC q σ a b c d (((1 : Int32) <<< (a &&& 31)) ||| ((1 : Int32) <<< (c &&& 31))) s) 301 (nI (qP q + 1))) := by
  unfold fQ_addPairing fQ_addPairing_J79 pairC
  simp only [cI_1, cA_1, hC.2.1, nI_cl (show qP q < 2 ^ 31 by omega), Nat.reduceEqDiff, ↓reduceIte, nI_1]
  rw [if_pos (by rw [i4]; exact nI_lt h4 (by omega)), chk_nI h4 (by omega), chk_nI h4 (by omega), chk_nI h4 (by omega), chk_nI h4 (by omega), chk_nI h4 (by omega)]
  by_cases hs : s = 0
  · simp only [hs, ↓reduceIte, chk_nI h4 (show 4 < 2 ^ 31 by omega)]
  · simp only [hs, ↓reduceIte, chk_nI h4 (show 4 < 2 ^ 31 by omega)]
