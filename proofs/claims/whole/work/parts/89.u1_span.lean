/-! lines, crossings, witnesses -/
theorem kyI (u v : Nat) (e : Ent) : ((ky u v e : Nat) : Int) = (eA e : Int) * v + (eB e : Int) * u := by
  unfold ky
  push_cast
  rfl
theorem cr_same {e f : Ent} (hB : eB f < eB e) (hA : eA e ≤ eA f) : ky (eA f - eA e) (eB e - eB f) e = ky (eA f - eA e) (eB e - eB f) f := by
  have h1 := kyI (eA f - eA e) (eB e - eB f) e
  have h2 := kyI (eA f - eA e) (eB e - eB f) f
  have e1 : ((eA f - eA e : Nat) : Int) = (eA f : Int) - eA e := by omega
  have e2 : ((eB e - eB f : Nat) : Int) = (eB e : Int) - eB f := by omega
  rw [e1, e2] at h1 h2
  have : ((ky (eA f - eA e) (eB e - eB f) e : Nat) : Int) = (ky (eA f - eA e) (eB e - eB f) f : Nat) := by
    rw [h1, h2]
    grind
  omega
theorem ar_lt {dA dB u v a b : Int} (h1 : 0 ≤ dA * v + dB * u) (h2 : dA * b + dB * a < 0) (h3 : u * b ≤ a * v) (hb : 0 ≤ b) (hv : 0 < v) : dB < 0 := by
  refine Int.not_le.mp fun h => ?_
  have e1 := Int.mul_nonneg h1 hb
  have e2 := Int.mul_nonneg h (Int.sub_nonneg_of_le h3)
  have e3 := Int.mul_lt_mul_of_pos_right h2 hv
  grind
theorem ar_gt {dA dB u v a b : Int} (h1 : 0 ≤ dA * v + dB * u) (h2 : dA * b + dB * a < 0) (h3 : a * v ≤ u * b) (hb : 0 ≤ b) (hv : 0 < v) : 0 < dB := by
  refine Int.not_le.mp fun h => ?_
  have e1 := Int.mul_nonneg h1 hb
  have e2 := Int.mul_nonneg (show 0 ≤ -dB by omega) (Int.sub_nonneg_of_le h3)
  have e3 := Int.mul_lt_mul_of_pos_right h2 hv
  grind
/-- left of a crossing -/
theorem cr_left {e f : Ent} {u v : Nat} (hB : eB f < eB e) (hA : eA e ≤ eA f) (h : ky u v e ≤ ky u v f) : (eB e - eB f) * u ≤ (eA f - eA e) * v := by
  have h1 := kyI u v e
  have h2 := kyI u v f
  have e1 : ((eA f - eA e : Nat) : Int) = (eA f : Int) - eA e := by omega
  have e2 : ((eB e - eB f : Nat) : Int) = (eB e : Int) - eB f := by omega
  have : ((eB e - eB f : Nat) : Int) * u ≤ ((eA f - eA e : Nat) : Int) * v := by
    rw [e1, e2]
    have h' : ((ky u v e : Nat) : Int) ≤ (ky u v f : Nat) := by omega
    rw [h1, h2] at h'
    grind
  exact_mod_cast this
theorem cr_right {e f : Ent} {u v : Nat} (hB : eB f < eB e) (hA : eA e ≤ eA f) (h : ky u v f ≤ ky u v e) : (eA f - eA e) * v ≤ (eB e - eB f) * u := by
  have h1 := kyI u v e
  have h2 := kyI u v f
  have e1 : ((eA f - eA e : Nat) : Int) = (eA f : Int) - eA e := by omega
  have e2 : ((eB e - eB f : Nat) : Int) = (eB e : Int) - eB f := by omega
  have : ((eA f - eA e : Nat) : Int) * v ≤ ((eB e - eB f : Nat) : Int) * u := by
    rw [e1, e2]
    have h' : ((ky u v f : Nat) : Int) ≤ (ky u v e : Nat) := by omega
    rw [h1, h2] at h'
    grind
  exact_mod_cast this
/-- slopes out of two places: cheaper behind -/
theorem sl_lt {e g : Ent} {u v a b : Nat} (h1 : ky u v e ≤ ky u v g) (h2 : ky a b g < ky a b e) (h3 : u * b ≤ a * v) (hv : 0 < v) : eB g < eB e := by
  have k1 := kyI u v e
  have k2 := kyI u v g
  have k3 := kyI a b g
  have k4 := kyI a b e
  have h3' : (u : Int) * b ≤ a * v := by exact_mod_cast h3
  have := ar_lt (dA := (eA g : Int) - eA e) (dB := (eB g : Int) - eB e) (u := u) (v := v) (a := a) (b := b) (by grind) (by grind) h3' (by omega) (by omega)
  omega
theorem sl_gt {f g : Ent} {u v a b : Nat} (h1 : ky u v f ≤ ky u v g) (h2 : ky a b g < ky a b f) (h3 : a * v ≤ u * b) (hv : 0 < v) : eB f < eB g := by
  have k1 := kyI u v f
  have k2 := kyI u v g
  have k3 := kyI a b g
  have k4 := kyI a b f
  have h3' : (a : Int) * v ≤ u * b := by exact_mod_cast h3
  have := ar_gt (dA := (eA g : Int) - eA f) (dB := (eB g : Int) - eB f) (u := u) (v := v) (a := a) (b := b) (by grind) (by grind) h3' (by omega) (by omega)
  omega
/-- as cheap at a place and flatter: no dearer behind -/
theorem sl_eq {f h : Ent} {u v a b : Nat} (h1 : ky a b h = ky a b f) (h2 : eB h < eB f) (h3 : a * v ≤ u * b) (hb : 0 < b) : ky u v h ≤ ky u v f := by
  have k1 := kyI u v f
  have k2 := kyI u v h
  have k3 := kyI a b h
  have k4 := kyI a b f
  have h3' : (a : Int) * v ≤ u * b := by exact_mod_cast h3
  have h1' : ((ky a b h : Nat) : Int) = (ky a b f : Nat) := by rw [h1]
  rw [k3, k4] at h1'
  refine Nat.not_lt.mp fun hlt => ?_
  have hlt' : ((ky u v f : Nat) : Int) < (ky u v h : Nat) := by omega
  rw [k1, k2] at hlt'
  have e1 := Int.mul_lt_mul_of_pos_right hlt' (show (0 : Int) < b by omega)
  have e2 := Int.mul_nonneg (show (0 : Int) ≤ (eB f : Int) - eB h by omega) (Int.sub_nonneg_of_le h3')
  have e3 : ((eA h : Int) * b + (eB h : Int) * a) * v = ((eA f : Int) * b + (eB f : Int) * a) * v := by rw [h1']
  grind
theorem sgm (b : Nat) : sgB (-1) b = (b : Int) := by unfold sgB; rw [if_neg (by decide), if_neg (by decide)]
theorem sg1 (b : Nat) : sgB 1 b = -(b : Int) := by unfold sgB; rw [if_neg (by decide), if_pos rfl]
theorem leM {u v : Nat} {e f : Ent} : leE u v (-1) e f ↔ ky u v e < ky u v f ∨ ky u v e = ky u v f ∧ (eB e < eB f ∨ eB e = eB f ∧ eC e ≤ eC f) := by
  unfold leE
  rw [sgm, sgm]
  omega
theorem leG {u v : Nat} {e f : Ent} : leE u v 1 e f ↔ ky u v e < ky u v f ∨ ky u v e = ky u v f ∧ (eB f < eB e ∨ eB e = eB f ∧ eC e ≤ eC f) := by
  unfold leE
  rw [sg1, sg1]
  omega
/-- a place before 4 where an entry is the least with the least slope; or 4, with the greatest -/
def Kn (F : List Ent) (e : Ent) : Prop := (∃ u v, 0 < v ∧ u < 4 * v ∧ Lst u v (-1) F e) ∨ Lst 4 1 1 F e
/-- the next span's entry -/
def Nx (F : List Ent) (e f : Ent) : Prop := eB f < eB e ∧ eA e < eA f ∧ eA f - eA e < 4 * (eB e - eB f) ∧ Lst (eA f - eA e) (eB e - eB f) (-1) F f
theorem Kn_A {F : List Ent} {e f : Ent} (he : Kn F e) (hf : f ∈ F) (hB : eB f < eB e) : eA e < eA f := by
  rcases he with ⟨u, v, hv, -, h1, h2⟩ | ⟨h1, h2⟩
  · have h := h2 f hf
    rw [leM] at h
    have h : ky u v e < ky u v f := by omega
    unfold ky at h
    have m1 : eB f * u ≤ eB e * u := Nat.mul_le_mul_right _ (by omega)
    refine Nat.not_le.mp fun g => ?_
    have m2 : eA f * v ≤ eA e * v := Nat.mul_le_mul_right _ g
    omega
  · have h := h2 f hf
    rw [leG] at h
    unfold ky at h
    omega
/-- crossing of neighbours lies before 4 -/
theorem Kn_4 {F : List Ent} {e f : Ent} (he : e ∈ F) (hf : Kn F f) (hB : eB f < eB e) (hA : eA e < eA f) : eA f - eA e < 4 * (eB e - eB f) := by
  rcases hf with ⟨u, v, hv, h4, h1, h2⟩ | ⟨h1, h2⟩
  · have h := h2 e he
    rw [leM] at h
    have h : ky u v f ≤ ky u v e := by omega
    have g := cr_right hB (by omega) h
    refine Nat.not_le.mp fun k => ?_
    have m1 : 4 * (eB e - eB f) * v ≤ (eA f - eA e) * v := Nat.mul_le_mul_right _ k
    have m2 : (eB e - eB f) * u < (eB e - eB f) * (4 * v) := Nat.mul_lt_mul_of_pos_left h4 (by omega)
    have m3 : (eB e - eB f) * (4 * v) = 4 * (eB e - eB f) * v := by rw [← Nat.mul_assoc, Nat.mul_comm _ 4]
    omega
  · have h := h2 e he
    rw [leG] at h
    have h : ky 4 1 f < ky 4 1 e := by omega
    unfold ky at h
    omega
/-- nothing cheaper at the crossing: the next -/
theorem Nx_of {F : List Ent} {e f g : Ent} (he : Kn F e) (hf : Kn F f) (heF : e ∈ F) (hfF : f ∈ F) (hB : eB f < eB e) (hg : Lst (eA f - eA e) (eB e - eB f) (-1) F g) (hno : ¬ ky (eA f - eA e) (eB e - eB f) g < ky (eA f - eA e) (eB e - eB f) e) : Nx F e f := by
  have hA := Kn_A he hfF hB
  have h4 := Kn_4 heF hf hB hA
  have hsame := cr_same hB (by omega)
  refine ⟨hB, hA, h4, hfF, ?_⟩
  intro h hh
  have hgh := hg.2 h hh
  rw [leM] at hgh ⊢
  by_cases c : ky (eA f - eA e) (eB e - eB f) f < ky (eA f - eA e) (eB e - eB f) h
  · exact Or.inl c
  · have ceq : ky (eA f - eA e) (eB e - eB f) h = ky (eA f - eA e) (eB e - eB f) f := by omega
    refine Or.inr ⟨ceq.symm, ?_⟩
    by_cases cB : eB h < eB f
    · exfalso
      rcases hf with ⟨u, v, hv, hu4, h1, h2⟩ | ⟨h1, h2⟩
      · have a1 := h2 e heF
        have a2 := h2 h hh
        rw [leM] at a1 a2
        have w := cr_right hB (by omega) (show ky u v f ≤ ky u v e by omega)
        have s := sl_eq (u := u) (v := v) ceq cB (by rw [Nat.mul_comm u]; exact w) (by omega)
        omega
      · have a1 := h2 e heF
        have a2 := h2 h hh
        rw [leG] at a1 a2
        have k1 := kyI 4 1 h
        have k2 := kyI 4 1 f
        have s : ky 4 1 h < ky 4 1 f := by
          have q1 := kyI (eA f - eA e) (eB e - eB f) h
          have q2 := kyI (eA f - eA e) (eB e - eB f) f
          have ceq' : ((ky (eA f - eA e) (eB e - eB f) h : Nat) : Int) = (ky (eA f - eA e) (eB e - eB f) f : Nat) := by rw [ceq]
          rw [q1, q2] at ceq'
          have p1 : (0 : Int) < ((eB e - eB f : Nat) : Int) := by omega
          have p2 : (0 : Int) < (eB f : Int) - eB h := by omega
          have p3 : (0 : Int) < 4 * ((eB e - eB f : Nat) : Int) - ((eA f - eA e : Nat) : Int) := by omega
          have m := Int.mul_pos p2 p3
          generalize ((eB e - eB f : Nat) : Int) = b at *
          generalize ((eA f - eA e : Nat) : Int) = a at *
          have : ((eA h : Int) + 4 * eB h) * b < ((eA f : Int) + 4 * eB f) * b := by grind
          have := Int.lt_of_mul_lt_mul_right this (Int.le_of_lt p1)
          have z1 : ((ky 4 1 h : Nat) : Int) < (ky 4 1 f : Nat) := by rw [k1, k2]; omega
          omega
        omega
    · by_cases cE : eB h = eB f
      · refine Or.inr ⟨cE.symm, ?_⟩
        have hAe : eA h = eA f := by
          unfold ky at ceq
          rw [cE] at ceq
          have : eA h * (eB e - eB f) = eA f * (eB e - eB f) := by omega
          exact Nat.eq_of_mul_eq_mul_right (by omega) this
        have hk : ∀ u v, ky u v h = ky u v f := fun u v => by unfold ky; rw [cE, hAe]
        rcases hf with ⟨u, v, hv, hu4, h1, h2⟩ | ⟨h1, h2⟩
        · have a2 := h2 h hh
          rw [leM, hk] at a2
          omega
        · have a2 := h2 h hh
          rw [leG, hk] at a2
          omega
      · exact Or.inl (by omega)
/-- what is cheaper at the crossing lies between -/
theorem Kn_btw {F : List Ent} {e f g : Ent} (he : Kn F e) (hf : Kn F f) (heF : e ∈ F) (hfF : f ∈ F) (hB : eB f < eB e) (hg : Lst (eA f - eA e) (eB e - eB f) (-1) F g) (hyes : ky (eA f - eA e) (eB e - eB f) g < ky (eA f - eA e) (eB e - eB f) e) : Kn F g ∧ eB g < eB e ∧ eB f < eB g := by
  have hA := Kn_A he hfF hB
  have h4 := Kn_4 heF hf hB hA
  have hsame := cr_same hB (by omega)
  refine ⟨Or.inl ⟨_, _, by omega, h4, hg⟩, ?_, ?_⟩
  · rcases he with ⟨u, v, hv, hu4, h1, h2⟩ | ⟨h1, h2⟩
    · have a1 := h2 f hfF
      have a2 := h2 g hg.1
      rw [leM] at a1 a2
      have w := cr_left hB (by omega) (show ky u v e ≤ ky u v f by omega)
      exact sl_lt (u := u) (v := v) (show ky u v e ≤ ky u v g by omega) hyes (by rw [Nat.mul_comm u]; exact w) hv
    · exfalso
      have a1 := h2 f hfF
      rw [leG] at a1
      unfold ky at a1
      omega
  · rw [hsame] at hyes
    rcases hf with ⟨u, v, hv, hu4, h1, h2⟩ | ⟨h1, h2⟩
    · have a1 := h2 e heF
      have a2 := h2 g hg.1
      rw [leM] at a1 a2
      have w := cr_right hB (by omega) (show ky u v f ≤ ky u v e by omega)
      exact sl_gt (u := u) (v := v) (show ky u v f ≤ ky u v g by omega) hyes (by rw [Nat.mul_comm u]; exact w) hv
    · have a2 := h2 g hg.1
      rw [leG] at a2
      exact sl_gt (u := 4) (v := 1) (show ky 4 1 f ≤ ky 4 1 g by omega) hyes (by omega) (by omega)
