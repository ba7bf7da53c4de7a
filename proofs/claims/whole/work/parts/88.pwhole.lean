/-! whether the question is whole: both sides say it alike -/
/-- the class: from pairing p on, k of them; then rounds -/
def inC (e : Nat → Nat) : Nat → Nat → Nat → Nat
  | 0, _, r => r
  | k + 1, p, r => inC e k (p + 1) (if e p &&& r = 0 then r else r ||| e p)
def outC (e : Nat → Nat) : Nat → Nat → Nat
  | 0, r => r
  | k + 1, r => outC e k (inC e 4 0 r)
theorem inC_lt {e : Nat → Nat} (he : ∀ p, e p < 16) : ∀ (k p r : Nat), r < 16 → inC e k p r < 16 := by
  intro k
  induction k with
  | zero => intro p r h; exact h
  | succ k ih =>
    intro p r h
    refine ih (p + 1) _ ?_
    split
    · exact h
    · exact b_or_lt _ h _ (he p)
theorem joinedC_in {N : Nat} {q : Qd} {σ : CSt} (hq : WfQ q) (hC : CQd q σ) (K : Int32 → Int32 → Option Int32) (y : Int32) : ∀ (n k p r : Nat), r < 16 → p + k = 4 → k < n → fQ_joinedToFirst_L14 N σ K n (nI r) y (nI p) = K (nI (inC (qe q) k p r)) y := by
  intro n
  induction n with
  | zero => intro k p r _ _ h; omega
  | succ n ih =>
    intro k p r hr hpk hn
    rw [fQ_joinedToFirst_L14]
    cases k with
    | zero =>
      rw [if_pos (by rw [show p = 4 by omega]; decide)]
      rfl
    | succ k =>
      have hp : p < 4 := by omega
      have he := qe_lt hq p
      rw [if_neg (show ¬ (4 : Int32) ≤ nI p from nI_ge (b := 4) hp (by omega)), chk_nI hp (by omega), chk_nI hp (by omega), nI_cl (by omega), qe_C hC hp, b_and _ he _ hr, b_or _ hr _ he, nI_1]
      show _ = K (nI (inC (qe q) k (p + 1) (if qe q p &&& r = 0 then r else r ||| qe q p))) y
      by_cases h0 : qe q p &&& r = 0
      · rw [if_pos ((nI_eq0 (by have := b_and_lt _ he _ hr; omega)).mpr h0), if_pos h0]
        exact ih k (p + 1) r hr (by omega) (by omega)
      · rw [if_neg (fun h => h0 ((nI_eq0 (by have := b_and_lt _ he _ hr; omega)).mp h)), if_neg h0]
        exact ih k (p + 1) _ (b_or_lt _ hr _ he) (by omega) (by omega)
theorem joinedC_out {N : Nat} (hN : 5 ≤ N) {q : Qd} {σ : CSt} (hq : WfQ q) (hC : CQd q σ) : ∀ (n k i r : Nat), r < 16 → i + k = qT q → k < n → fQ_joinedToFirst_L4 N σ n (nI r) (nI i) = some (nI (outC (qe q) k r)) := by
  have hT := hq.1
  intro n
  induction n with
  | zero => intro k i r _ _ h; omega
  | succ n ih =>
    intro k i r hr hik hn
    rw [fQ_joinedToFirst_L4, hC.1]
    cases k with
    | zero =>
      rw [if_pos (nI_le (by omega) (by omega))]
      rfl
    | succ k =>
      rw [if_neg (nI_ge (by omega) (by omega)), show (0 : Int32) = nI 0 from nI_0.symm, joinedC_in hq hC _ _ N 4 0 r hr rfl (by omega), nI_1]
      exact ih k (i + 1) _ (inC_lt (qe_lt hq) 4 0 r hr) (by omega) (by omega)
theorem joinedC {N : Nat} (hN : 5 ≤ N) {q : Qd} {σ : CSt} (hq : WfQ q) (hC : CQd q σ) (h0 : 0 < qT q) : fQ_joinedToFirst N σ = some (nI (outC (qe q) (qT q - 1) 1)) := by
  have hT := hq.1
  exact joinedC_out hN hq hC N (qT q - 1) 1 1 (by omega) (by omega) (by omega)
/-- the reference: pairings p .. P - 1, then four rounds -/
def inM (q : Qd) (all : Nat) : Nat → Nat → Nat → Nat
  | 0, _, r => r
  | k + 1, p, r => inM q all k (p + 1) (if (2 ^ qt q p &&& r ≠ 0 ∧ 2 ^ qu q p &&& (all &&& (15 - r)) ≠ 0) ∨ (2 ^ qt q p &&& (all &&& (15 - r)) ≠ 0 ∧ 2 ^ qu q p &&& r ≠ 0) then r ||| (2 ^ qt q p ||| 2 ^ qu q p) else r)
def outM (q : Qd) (all : Nat) : Nat → Nat → Nat
  | 0, r => r
  | k + 1, r => outM q all k (inM q all (qP q) 0 r)
theorem all_lt {q : Qd} (hq : WfQ q) : 2 ^ qT q - 1 < 16 := by
  have := hq.1
  exact (show ∀ t, t ≤ 4 → 2 ^ t - 1 < 16 by decide) _ this
theorem inM_lt {q : Qd} (hq : WfQ q) (all : Nat) : ∀ (k p r : Nat), p + k = qP q → r < 16 → inM q all k p r < 16 := by
  have hT := hq.1
  intro k
  induction k with
  | zero => intro p r _ h; exact h
  | succ k ih =>
    intro p r hp h
    obtain ⟨b1, b2, -⟩ := hq.2.2.2.2.1 p (by omega)
    refine ih (p + 1) _ (by omega) ?_
    split
    · exact b_or_lt _ h _ (b_or_lt _ (b_pow_lt _ (by omega)) _ (b_pow_lt _ (by omega)))
    · exact h
theorem joinedM_in {N : Nat} {q : Qd} {τ : MSt} (hq : WfQ q) (hM : MQd q τ) (K : Int32 → Int32 → Option Int32) (y : Int32) : ∀ (n k p r : Nat), r < 16 → p + k = qP q → k < n → fM_isWhole_L20 N τ K n (nI r) y (nI p) = K (nI (inM q (2 ^ qT q - 1) k p r)) y := by
  have hT := hq.1
  have hP := hq.2.1
  have ha := all_lt hq
  intro n
  induction n with
  | zero => intro k p r _ _ h; omega
  | succ n ih =>
    intro k p r hr hpk hn
    rw [fM_isWhole_L20, hM.2.1]
    cases k with
    | zero =>
      rw [if_pos (nI_le (by omega) (by omega))]
      rfl
    | succ k =>
      have hp : p < qP q := by omega
      obtain ⟨b1, b2, -⟩ := hq.2.2.2.2.1 p hp
      obtain ⟨c1, -, c3, -⟩ := hM.2.2.2.2.2.2 p hp
      have hall : fM_all N τ = some (nI (2 ^ qT q - 1)) := by
        unfold fM_all
        rw [hM.1, b_all _ (by omega)]
      obtain ⟨b, hb, hbb⟩ := fM_isBetween_ok (N := N) hq hM hp hr (b_and_lt _ ha _ (show 15 - r < 16 by omega))
      rw [if_neg (nI_ge hp (by omega)), hall, bs, b_diff _ ha _ hr, hb, bs, chk_nI (by omega) (by omega), chk_nI (by omega) (by omega), nI_cl (by omega), c1, c3, b_shl _ (by omega), b_shl _ (by omega), b_or _ (b_pow_lt _ (by omega)) _ (b_pow_lt _ (by omega)), b_or _ hr _ (b_or_lt _ (b_pow_lt _ (by omega)) _ (b_pow_lt _ (by omega))), nI_1]
      show _ = K (nI (inM q (2 ^ qT q - 1) k (p + 1) (if btw q p r ((2 ^ qT q - 1) &&& (15 - r)) then r ||| (2 ^ qt q p ||| 2 ^ qu q p) else r))) y
      rcases hbb with ⟨rfl, hbt⟩ | ⟨rfl, hbt⟩
      · rw [if_neg n10, if_pos hbt]
        exact ih k (p + 1) _ (b_or_lt _ hr _ (b_or_lt _ (b_pow_lt _ (by omega)) _ (b_pow_lt _ (by omega)))) (by omega) (by omega)
      · rw [if_pos rfl, if_neg hbt]
        exact ih k (p + 1) r hr (by omega) (by omega)
