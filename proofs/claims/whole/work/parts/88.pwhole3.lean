/-! whole: what both answer -/
def Whole (q : Qd) : Prop := 0 < qT q ∧ (∀ t, t < qT q → 0 < qr q t) ∧ outC (qe q) (qT q - 1) 1 = 2 ^ qT q - 1
theorem wholeC_rows {N : Nat} {q : Qd} {σ : CSt} (hq : WfQ q) (hC : CQd q σ) (K : Option Int32) : ∀ (n i : Nat), i ≤ qT q → qT q - i < n → (∀ t, t < i → 0 < qr q t) → (fQ_isWhole_L2 N σ K n (nI i) = K ∧ ∀ t, t < qT q → 0 < qr q t) ∨ (fQ_isWhole_L2 N σ K n (nI i) = some 0 ∧ ¬ ∀ t, t < qT q → 0 < qr q t) := by
  have hT := hq.1
  intro n
  induction n with
  | zero => intro i _ h; omega
  | succ n ih =>
    intro i hi hn hb
    rw [fQ_isWhole_L2, hC.1]
    by_cases e : i = qT q
    · rw [e, if_pos (nI_le (Nat.le_refl _) (by omega))]
      exact Or.inl ⟨rfl, by rw [← e]; exact hb⟩
    · have hlt : i < qT q := by omega
      rw [if_neg (nI_ge hlt (by omega)), rowsOf_t hC hT hlt, bs]
      by_cases h0 : qr q i = 0
      · rw [h0, if_pos nI_0]
        exact Or.inr ⟨rfl, fun h => by have := h i hlt; omega⟩
      · rw [if_neg (nI_ne0 (Nat.pos_of_ne_zero h0) (by have := hq.2.2.1 i; omega)), nI_1]
        exact ih (i + 1) (by omega) (by omega) (fun t ht => by
          by_cases f : t = i
          · rw [f]; omega
          · exact hb t (by omega))
theorem wholeC {N : Nat} (hN : 6 ≤ N) {q : Qd} {σ : CSt} (hq : WfQ q) (hC : CQd q σ) : (fQ_isWhole N σ = some 1 ∧ Whole q) ∨ (fQ_isWhole N σ = some 0 ∧ ¬ Whole q) := by
  have hT := hq.1
  unfold fQ_isWhole
  rcases wholeC_rows (N := N) hq hC ((if (σ.1 300) ≤ 0 then some (0 : Int32) else (fQ_joinedToFirst N σ).bind fun r_34 => (fQ_allTables N σ).bind fun r_38 => (if r_34 = r_38 then some (1 : Int32) else some (0 : Int32)))) N 0 (Nat.zero_le _) (by omega) (fun t h => by omega) with ⟨h1, h2⟩ | ⟨h1, h2⟩
  · rw [nI_0] at h1
    rw [h1, hC.1]
    by_cases h0 : qT q = 0
    · have e : nI (qT q) ≤ 0 := by rw [h0]; decide
      rw [if_pos e]
      exact Or.inr ⟨rfl, fun h => by have := h.1; omega⟩
    · rw [if_neg (nI_nle (by omega) (by omega)), joinedC (by omega) hq hC (by omega), bs]
      have hall : fQ_allTables N σ = some (nI (2 ^ qT q - 1)) := by
        unfold fQ_allTables
        rw [hC.1, b_all _ (by omega)]
      rw [hall, bs]
      have ha := all_lt hq
      have hj : outC (qe q) (qT q - 1) 1 < 16 := by
        have : ∀ k r, r < 16 → outC (qe q) k r < 16 := by
          intro k
          induction k with
          | zero => intro r h; exact h
          | succ k ih => intro r h; exact ih _ (inC_lt (qe_lt hq) 4 0 r h)
        exact this _ _ (by omega)
      by_cases hw : outC (qe q) (qT q - 1) 1 = 2 ^ qT q - 1
      · rw [if_pos (by rw [hw])]
        exact Or.inl ⟨rfl, by omega, h2, hw⟩
      · rw [if_neg (fun h => hw ((nI_eq (by omega) (by omega)).mp h))]
        exact Or.inr ⟨rfl, fun h => hw h.2.2⟩
  · rw [nI_0] at h1
    exact Or.inr ⟨h1, fun h => h2 h.2.1⟩
theorem wholeM_bad {N : Nat} {q : Qd} {τ : MSt} (hq : WfQ q) (hM : MQd q τ) : ∀ (n i : Nat), i ≤ qT q → qT q - i < n → fM_isWhole_L93 N τ n 0 (nI i) = some 0 := by
  have hT := hq.1
  intro n
  induction n with
  | zero => intro i _ h; omega
  | succ n ih =>
    intro i hi hn
    rw [fM_isWhole_L93, hM.1]
    by_cases e : i = qT q
    · rw [if_pos (nI_le (by omega) (by omega))]; rfl
    · rw [if_neg (nI_ge (show i < qT q by omega) (by omega)), nI_1, if_pos rfl]
      exact ih (i + 1) (by omega) (by omega)
theorem wholeM_rows {N : Nat} {q : Qd} {τ : MSt} (hq : WfQ q) (hM : MQd q τ) : ∀ (n i : Nat), i ≤ qT q → qT q - i < n → (∀ t, t < i → 0 < qr q t) → (fM_isWhole_L93 N τ n 1 (nI i) = some 1 ∧ ∀ t, t < qT q → 0 < qr q t) ∨ (fM_isWhole_L93 N τ n 1 (nI i) = some 0 ∧ ¬ ∀ t, t < qT q → 0 < qr q t) := by
  have hT := hq.1
  intro n
  induction n with
  | zero => intro i _ h; omega
  | succ n ih =>
    intro i hi hn hb
    rw [fM_isWhole_L93, hM.1]
    by_cases e : i = qT q
    · rw [if_pos (nI_le (by omega) (by omega))]
      exact Or.inl ⟨rfl, by rw [← e]; exact hb⟩
    · have hlt : i < qT q := by omega
      rw [if_neg (nI_ge hlt (by omega)), nI_1, if_neg n10, chk_nI (by omega) (by omega), nI_cl (by omega), hM.2.2.2.2.1 i (by omega)]
      by_cases h0 : qr q i = 0
      · have e0 : nI (qr q i) ≤ 0 := by rw [h0]; decide
        rw [if_pos e0]
        exact Or.inr ⟨wholeM_bad hq hM n (i + 1) (by omega) (by omega), fun h => by have := h i hlt; omega⟩
      · rw [if_neg (nI_nle (Nat.pos_of_ne_zero h0) (by have := hq.2.2.1 i; omega))]
        exact ih (i + 1) (by omega) (by omega) (fun t ht => by
          by_cases f : t = i
          · rw [f]; omega
          · exact hb t (by omega))
theorem wholeM {N : Nat} (hN : 6 ≤ N) {q : Qd} {τ : MSt} (hq : WfQ q) (hM : MQd q τ) : (fM_isWhole N τ = some 1 ∧ Whole q) ∨ (fM_isWhole N τ = some 0 ∧ ¬ Whole q) := by
  have hT := hq.1
  unfold fM_isWhole
  rw [hM.1]
  by_cases h0 : qT q = 0
  · have e : nI (qT q) = 0 := by rw [h0]; exact nI_0
    rw [if_pos e]
    exact Or.inr ⟨rfl, fun h => by have := h.1; omega⟩
  · have hall : fM_all N τ = some (nI (2 ^ qT q - 1)) := by
      unfold fM_all
      rw [hM.1, b_all _ (by omega)]
    have ha := all_lt hq
    have hj : outM q (2 ^ qT q - 1) 4 1 < 16 := by
      have : ∀ k r, r < 16 → outM q (2 ^ qT q - 1) k r < 16 := by
        intro k
        induction k with
        | zero => intro r h; exact h
        | succ k ih => intro r h; exact ih _ (inM_lt hq _ (qP q) 0 r (by omega) h)
      exact this _ _ (by omega)
    have hout := joinedM_out (N := N) (by omega) hq hM (fun x1 => (fM_all N τ).bind fun r_79 => (if x1 = r_79 then fM_isWhole_J90 N τ (1 : Int32) else fM_isWhole_J90 N τ (0 : Int32))) N 4 0 1 (by omega) rfl (by omega)
    rw [if_neg (nI_ne0 (Nat.pos_of_ne_zero h0) (by omega))]
    rw [show nI 1 = (1 : Int32) from rfl, nI_0] at hout
    rw [hout, hall, bs]
    unfold fM_isWhole_J90
    have hs := joined_same hq (by omega)
    by_cases hw : outM q (2 ^ qT q - 1) 4 1 = 2 ^ qT q - 1
    · rw [if_pos (by rw [hw])]
      rcases wholeM_rows (N := N) hq hM N 0 (Nat.zero_le _) (by omega) (fun t h => by omega) with ⟨g1, g2⟩ | ⟨g1, g2⟩
      · rw [nI_0] at g1
        exact Or.inl ⟨g1, by omega, g2, hs.mpr hw⟩
      · rw [nI_0] at g1
        exact Or.inr ⟨g1, fun h => g2 h.2.1⟩
    · rw [if_neg (fun h => hw ((nI_eq (by omega) (by omega)).mp h))]
      have r := wholeM_bad (N := N) hq hM N 0 (Nat.zero_le _) (by omega)
      rw [nI_0] at r
      exact Or.inr ⟨r, fun h => hw (hs.mp h.2.2)⟩
