/-! the order of the cheapest; what a join does to it -/
def ky (up dn : Nat) (e : Ent) : Nat := eA e * dn + eB e * up
def sgB (sl : Int32) (b : Nat) : Int := if sl = 0 then 0 else if sl = 1 then -(b : Int) else (b : Int)
def ltE (up dn : Nat) (sl : Int32) (e f : Ent) : Prop := ky up dn e < ky up dn f ∨ ky up dn e = ky up dn f ∧ (sgB sl (eB e) < sgB sl (eB f) ∨ sgB sl (eB e) = sgB sl (eB f) ∧ eC e < eC f)
def leE (up dn : Nat) (sl : Int32) (e f : Ent) : Prop := ky up dn e < ky up dn f ∨ ky up dn e = ky up dn f ∧ (sgB sl (eB e) < sgB sl (eB f) ∨ sgB sl (eB e) = sgB sl (eB f) ∧ eC e ≤ eC f)
theorem leE_refl (up dn : Nat) (sl : Int32) (e : Ent) : leE up dn sl e e := Or.inr ⟨rfl, Or.inr ⟨rfl, Nat.le_refl _⟩⟩
theorem leE_trans {up dn : Nat} {sl : Int32} {e f g : Ent} (h1 : leE up dn sl e f) (h2 : leE up dn sl f g) : leE up dn sl e g := by
  unfold leE at *
  omega
theorem leE_of {up dn : Nat} {sl : Int32} {e f : Ent} (h : ¬ ltE up dn sl f e) : leE up dn sl e f := by
  unfold leE ltE at *
  omega
theorem leE_lt {up dn : Nat} {sl : Int32} {e f : Ent} (h : ltE up dn sl e f) : leE up dn sl e f := by
  unfold leE ltE at *
  omega
theorem sgB_add (sl : Int32) (a b : Nat) : sgB sl (a + b) = sgB sl a + sgB sl b := by
  unfold sgB
  split
  · rfl
  · split <;> push_cast <;> omega
theorem mkc_mono {k l r a a' b b' : Nat} (ha : a ≤ a') (hb : b ≤ b') : mkc k l a r b ≤ mkc k l a' r b' := by
  unfold mkc
  exact Nat.add_le_add (Nat.mul_le_mul_right _ (by omega)) hb
theorem fjn_ky (q : Qd) (S k l : Nat) (a b : Ent) (up dn : Nat) : ky up dn (fjn q S k l a b) = ky up dn a + ky up dn b + ((jA q k l (S - l) + endF q S k l * nA q S) * dn + (jB q k l (S - l) + endF q S k l * nB q S) * up) := by
  unfold ky
  rw [(fjn_A q S k l a b).1, (fjn_A q S k l a b).2]
  simp only [Nat.add_mul]
  omega
theorem fjn_mono {q : Qd} {S k l up dn : Nat} {sl : Int32} {a a' b b' : Ent} (ha : leE up dn sl a a') (hb : leE up dn sl b b') : leE up dn sl (fjn q S k l a b) (fjn q S k l a' b') := by
  have m : eC a ≤ eC a' → eC b ≤ eC b' → eC (fjn q S k l a b) ≤ eC (fjn q S k l a' b') := by
    intro h1 h2
    rw [fjn_C, fjn_C]
    exact mkc_mono h1 h2
  unfold leE at *
  rw [fjn_ky, fjn_ky, (fjn_A q S k l a b).2, (fjn_A q S k l a' b').2]
  simp only [sgB_add]
  omega
/-- the least of a list -/
def Lst (up dn : Nat) (sl : Int32) (L : List Ent) (e : Ent) : Prop := e ∈ L ∧ ∀ f, f ∈ L → leE up dn sl e f
/-- entry e stands in the chooser's rows at set s -/
def Hd (q : Qd) (σ : CSt) (s : Nat) (e : Ent) : Prop := σ.2.2.1 4 s = nI (eC e) ∧ σ.2.2.2.1 2 s = lN (eA e) ∧ σ.2.2.2.1 3 s = lN (eB e) ∧ σ.2.2.1 5 s = (if ioB q (eK e) (eL e) (s - eL e) = true then 1 else 0)
/-- the rows hold the least of a list -/
def Hl (q : Qd) (up dn : Nat) (sl : Int32) (σ : CSt) (s : Nat) (L : List Ent) : Prop := (L = [] ∧ σ.2.2.1 4 s = -1) ∨ ∃ e, Hd q σ s e ∧ Lst up dn sl L e
/-- what the chooser asks for -/
def Ask (up dn : Nat) (sl : Int32) (σ : CSt) : Prop := σ.2.1 7 = lN up ∧ σ.2.1 8 = lN dn ∧ σ.1 9 = sl
theorem cmp_eq0 {a b : Nat} (ha : a < 2 ^ 63) (hb : b < 2 ^ 63) : lg_cmp (lN a) (lN b) = 0 ↔ a = b := by
  rw [← pk_lEQ ha hb]
  unfold lg_cmp
  constructor
  · intro h
    split at h
    · exact absurd h (by decide)
    · split at h
      · assumption
      · exact absurd h (by decide)
  · intro h
    rw [h, if_neg (by exact Int64.lt_irrefl), if_pos rfl]
theorem cmp_ge {a b : Nat} (ha : a < 2 ^ 63) (hb : b < 2 ^ 63) : 0 ≤ lg_cmp (lN a) (lN b) ↔ b ≤ a := by rw [lg_cmp_ge, pk_lLE hb ha]
theorem cmp_le {a b : Nat} (ha : a < 2 ^ 63) (hb : b < 2 ^ 63) : lg_cmp (lN a) (lN b) ≤ 0 ↔ a ≤ b := by rw [lg_cmp_le, pk_lLE ha hb]
theorem ky_lt {up dn : Nat} {e : Ent} (hu : up < 2 ^ 26) (hd : dn < 2 ^ 26) (h : eA e < 2 ^ 26 ∧ eB e < 2 ^ 26) : ky up dn e < 2 ^ 63 := by
  unfold ky
  have h1 : eA e * dn ≤ 2 ^ 26 * 2 ^ 26 := Nat.mul_le_mul (by omega) (by omega)
  have h2 : eB e * up ≤ 2 ^ 26 * 2 ^ 26 := Nat.mul_le_mul (by omega) (by omega)
  omega
theorem isBetter_ok {N : Nat} {q : Qd} {up dn S : Nat} {sl : Int32} {σ : CSt} {e f : Ent} (hA : Ask up dn sl σ) (hsl : sl = 0 ∨ sl = 1 ∨ sl = -1) (hS : S < 16) (hu : up < 2 ^ 26) (hd : dn < 2 ^ 26) (hH : Hd q σ S e) (he : eC e < 2 ^ 31 ∧ eA e < 2 ^ 26 ∧ eB e < 2 ^ 26) (hf : eC f < 2 ^ 31 ∧ eA f < 2 ^ 26 ∧ eB f < 2 ^ 26) : (fH_isBetter N σ (lN (eA f)) (lN (eB f)) (nI (eC f)) (nI S) = some 1 ∧ ltE up dn sl f e) ∨ (fH_isBetter N σ (lN (eA f)) (lN (eB f)) (nI (eC f)) (nI S) = some 0 ∧ ¬ ltE up dn sl f e) := by
  have k1 := ky_lt hu hd ⟨he.2.1, he.2.2⟩
  have k2 := ky_lt hu hd ⟨hf.2.1, hf.2.2⟩
  obtain ⟨a1, a2, a3⟩ := hA
  obtain ⟨g1, g2, g3, -⟩ := hH
  have e1 : lN (eA f) * lN dn + lN (eB f) * lN up = lN (ky up dn f) := by rw [lN_mul, lN_mul, lN_add]; rfl
  have e2 : lN (eA e) * lN dn + lN (eB e) * lN up = lN (ky up dn e) := by rw [lN_mul, lN_mul, lN_add]; rfl
  unfold fH_isBetter fH_isBetter_J122 fH_isBetter_J100
  simp only [chk_nI hS (show 16 < 2 ^ 31 by omega), nI_cl (show S < 2 ^ 31 by omega), a1, a2, a3, g1, g2, g3, e1, e2, cmp_eq0 k2 k1, cmp_ge k2 k1, cmp_eq0 (show eB f < 2 ^ 63 by omega) (show eB e < 2 ^ 63 by omega), cmp_le (show eB f < 2 ^ 63 by omega) (show eB e < 2 ^ 63 by omega), nI_leI (show eC e < 2 ^ 31 by omega) (show eC f < 2 ^ 31 by omega)]
  unfold ltE
  by_cases c1 : ky up dn f = ky up dn e
  · rw [if_pos c1]
    rcases hsl with rfl | rfl | rfl
    · rw [if_pos rfl]
      have z : ∀ b, sgB 0 b = 0 := fun b => if_pos rfl
      rw [z, z]
      by_cases c2 : eC e ≤ eC f
      · rw [if_pos c2]; exact Or.inr ⟨rfl, by omega⟩
      · rw [if_neg c2]; exact Or.inl ⟨rfl, by omega⟩
    · rw [if_neg (by decide)]
      have z : ∀ b : Nat, sgB 1 b = -(b : Int) := fun b => by unfold sgB; rw [if_neg (by decide), if_pos rfl]
      rw [z, z]
      by_cases c3 : eB f = eB e
      · rw [if_pos c3]
        by_cases c2 : eC e ≤ eC f
        · rw [if_pos c2]; exact Or.inr ⟨rfl, by omega⟩
        · rw [if_neg c2]; exact Or.inl ⟨rfl, by omega⟩
      · rw [if_neg c3]
        by_cases c4 : eB f ≤ eB e
        · rw [if_pos c4, if_pos rfl, if_neg (by decide)]; exact Or.inr ⟨rfl, by omega⟩
        · rw [if_neg c4, if_pos rfl, if_pos trivial]; exact Or.inl ⟨rfl, by omega⟩
    · rw [if_neg (by decide)]
      have z : ∀ b : Nat, sgB (-1) b = (b : Int) := fun b => by unfold sgB; rw [if_neg (by decide), if_neg (by decide)]
      rw [z, z]
      by_cases c3 : eB f = eB e
      · rw [if_pos c3]
        by_cases c2 : eC e ≤ eC f
        · rw [if_pos c2]; exact Or.inr ⟨rfl, by omega⟩
        · rw [if_neg c2]; exact Or.inl ⟨rfl, by omega⟩
      · rw [if_neg c3]
        by_cases c4 : eB f ≤ eB e
        · rw [if_pos c4, if_neg (by decide), if_pos trivial]; exact Or.inl ⟨rfl, by omega⟩
        · rw [if_neg c4, if_neg (by decide), if_neg (by decide)]; exact Or.inr ⟨rfl, by omega⟩
  · rw [if_neg c1]
    by_cases c5 : ky up dn e ≤ ky up dn f
    · rw [if_pos c5]; exact Or.inr ⟨rfl, by omega⟩
    · rw [if_neg c5]; exact Or.inl ⟨rfl, by omega⟩
