/-! the class measures all sets -/
theorem opB_iff (q : Qd) (S : Nat) : ∀ P, opB q S P = 1 ↔ ∃ p, p < P ∧ ins q S p ∧ qs q p = 0 := by
  intro P
  induction P with
  | zero => exact ⟨fun h => absurd (show (0 : Int32) = 1 from h) (by decide), fun ⟨p, h, _⟩ => absurd h (Nat.not_lt_zero _)⟩
  | succ P ih =>
    have e : opB q S (P + 1) = if ins q S P ∧ qs q P = 0 then (1 : Int32) else opB q S P := rfl
    by_cases h : ins q S P ∧ qs q P = 0
    · rw [if_pos h] at e
      exact ⟨fun _ => ⟨P, Nat.lt_succ_self _, h⟩, fun _ => e⟩
    · rw [if_neg h] at e
      rw [e, ih]
      constructor
      · rintro ⟨p, hp, hh⟩
        exact ⟨p, by omega, hh⟩
      · rintro ⟨p, hp, hh⟩
        refine ⟨p, ?_, hh⟩
        have : p ≠ P := fun f => h (by rw [← f]; exact hh)
        omega
theorem openIn_ok {N : Nat} {q : Qd} {σ : CSt} (hq : WfQ q) (hC : CQd q σ) {S : Nat} (hS : S < 16) : fQ_isInside N σ (σ.1 302) (nI S) = some (opB q S (qP q)) := by
  rcases hC.2.2.2.2.2.2.2.2 with ⟨o1, o2⟩ | ⟨p, o1, o2, o3⟩
  · have h0 : opB q S (qP q) = 0 := by
      rcases opB_01 q S (qP q) with h | h
      · exact h
      · obtain ⟨p, hp, -, h0⟩ := (opB_iff q S _).mp h
        exact absurd h0 (o2 p hp)
    rw [o1, h0]
    unfold fQ_isInside fQ_isPairing
    rw [if_pos (by decide)]
    rfl
  · rw [o3]
    rcases isInside_ok (N := N) hq hC o1 hS with ⟨h1, h2⟩ | ⟨h1, h2⟩
    · rw [h1, (opB_iff q S (qP q)).mpr ⟨p, o1, h2, o2⟩]
    · have h0 : opB q S (qP q) = 0 := by
        rcases opB_01 q S (qP q) with h | h
        · exact h
        · obtain ⟨p', hp', hi, h0⟩ := (opB_iff q S _).mp h
          have := hq.2.2.2.2.2.1 p' p hp' o1 h0 o2
          subst this
          exact absurd hi h2
      rw [h1, h0]
theorem cB_1 (σ : CSt) (k i : Nat) (v : Int64) : (cB σ k i v).1 = σ.1 := rfl
theorem cB_2 (σ : CSt) (k i : Nat) (v : Int64) : (cB σ k i v).2.1 = σ.2.1 := rfl
theorem cB_3 (σ : CSt) (k i : Nat) (v : Int64) : (cB σ k i v).2.2.1 = σ.2.2.1 := rfl
theorem cB_4 (σ : CSt) (k i j : Nat) (v : Int64) : (cB σ k i v).2.2.2.1 j = if j = k then vp_updL (σ.2.2.2.1 k) i v else σ.2.2.2.1 j := rfl
theorem cB_5 (σ : CSt) (k i : Nat) (v : Int64) : (cB σ k i v).2.2.2.2 = σ.2.2.2.2 := rfl
theorem updL_at (f : Nat → Int64) (k j : Nat) (x : Int64) : vp_updL f k x j = if j = k then x else f j := rfl
/-- two states that differ in long rows alone -/
def sameB (σ σ' : CSt) : Prop := σ'.1 = σ.1 ∧ σ'.2.1 = σ.2.1 ∧ σ'.2.2.1 = σ.2.2.1 ∧ σ'.2.2.2.2 = σ.2.2.2.2
theorem CQd_sameB {q : Qd} {σ σ' : CSt} (h : sameB σ σ') (hC : CQd q σ) : CQd q σ' := by
  unfold CQd
  rw [h.1, h.2.2.1]
  exact hC
def Measured (q : Qd) (σ : CSt) : Prop := ∀ S, S < 16 → σ.2.2.2.1 201 S = szA q S ∧ σ.2.2.2.1 202 S = szB q S
theorem measure_loop {N : Nat} (hN : 6 ≤ N) {q : Qd} (hq : WfQ q) : ∀ (n k i : Nat) (σ : CSt), CQd q σ → i + k = 16 → k < n → (∀ S, S < i → σ.2.2.2.1 201 S = szA q S ∧ σ.2.2.2.1 202 S = szB q S) → ∃ σ', fZ_measure_L2 N n σ (nI i) = some σ' ∧ sameB σ σ' ∧ (∀ j, j ≠ 201 → j ≠ 202 → σ'.2.2.2.1 j = σ.2.2.2.1 j) ∧ Measured q σ' := by
  intro n
  induction n with
  | zero => intro k i σ _ _ h; omega
  | succ n ih =>
    intro k i σ hC hik hn hd
    rw [fZ_measure_L2]
    cases k with
    | zero =>
      have e : i = 16 := by omega
      subst e
      rw [if_pos (by decide)]
      exact ⟨σ, rfl, ⟨rfl, rfl, rfl, rfl⟩, fun _ _ _ => rfl, hd⟩
    | succ k =>
      have hi : i < 16 := by omega
      rw [if_neg (show ¬ (16 : Int32) ≤ nI i from nI_ge (b := 16) hi (by omega)), sizeC hN hq hC hi, bs, openIn_ok hq hC hi, bs]
      have key : ∀ (a b : Int64), a = szA q i → b = szB q i → ∃ σ', fZ_measure_L2 N n (cB (cB σ 201 i a) 202 i b) (nI (i + 1)) = some σ' ∧ sameB σ σ' ∧ (∀ j, j ≠ 201 → j ≠ 202 → σ'.2.2.2.1 j = σ.2.2.2.1 j) ∧ Measured q σ' := by
        intro a b ha hb
        obtain ⟨σ', g1, g2, g3, g4⟩ := ih k (i + 1) (cB (cB σ 201 i a) 202 i b) (CQd_sameB ⟨rfl, rfl, rfl, rfl⟩ hC) (by omega) (by omega) (fun S hS => by
          simp only [cB_4, Nat.reduceEqDiff, ↓reduceIte, updL_at]
          by_cases e : S = i
          · rw [if_pos e, if_pos e, e]
            exact ⟨ha, hb⟩
          · rw [if_neg e, if_neg e]
            exact hd S (by omega))
        refine ⟨σ', g1, g2, fun j j1 j2 => ?_, g4⟩
        rw [g3 j j1 j2, cB_4, if_neg j2, cB_4, if_neg j1]
      unfold fZ_measure_J46 
      rw [chk_nI hi (by omega), chk_nI hi (by omega), chk_nI hi (by omega), chk_nI hi (by omega), chk_nI hi (by omega), chk_nI hi (by omega), nI_cl (by omega), nI_1]
      by_cases h0 : opB q i (qP q) = 0
      · rw [if_pos h0, if_pos h0]
        exact key _ _ (by unfold szA; rw [if_pos h0]) (by unfold szB; rw [if_pos h0])
      · rw [if_neg h0, if_neg h0]
        exact key _ _ (by unfold szA; rw [if_neg h0]) (by unfold szB; rw [if_neg h0])
theorem measure_ok {N : Nat} (hN : 18 ≤ N) {q : Qd} {σ : CSt} (hq : WfQ q) (hC : CQd q σ) : ∃ σ', fZ_measure N σ = some σ' ∧ sameB σ σ' ∧ (∀ j, j ≠ 201 → j ≠ 202 → σ'.2.2.2.1 j = σ.2.2.2.1 j) ∧ Measured q σ' := by
  have h := measure_loop (N := N) (by omega) hq N 16 0 σ hC rfl (by omega) (fun S h => by omega)
  rw [nI_0] at h
  exact h
