/-! bounds of prices -/
def bdj (l r : Nat) : Bool := !(l &&& r == 0) || (List.range 4).all fun k => decide (l / 2 ^ k % 2 = 0 ∨ r / 2 ^ k % 2 = 0)
theorem bdjB : ((List.range 16).all fun l => (List.range 16).all fun r => bdj l r) = true := by decide +kernel
theorem b_disj {l r : Nat} (hl : l < 16) (hr : r < 16) (h : l &&& r = 0) : ∀ k, k < 4 → l / 2 ^ k % 2 = 0 ∨ r / 2 ^ k % 2 = 0 := by
  have g := bdjB
  simp only [List.all_eq_true, List.mem_range] at g
  have g := g l hl r hr
  unfold bdj at g
  rw [h] at g
  simp only [beq_self_eq_true, Bool.not_true, Bool.false_or, List.all_eq_true, List.mem_range, decide_eq_true_eq] at g
  exact g
theorem rows2 {q : Qd} (hq : WfQ q) {l r : Nat} (h : ∀ k, k < 4 → l / 2 ^ k % 2 = 0 ∨ r / 2 ^ k % 2 = 0) : ∀ k, k ≤ 4 → rowsP q l k * rowsP q r k ≤ 8 ^ k := by
  intro k
  induction k with
  | zero => intro _; exact Nat.le_refl _
  | succ k ih =>
    intro hk
    have i := ih (by omega)
    have h8 := hq.2.2.1 k
    show rowsP q l k * (if l / 2 ^ k % 2 = 0 then 1 else qr q k) * (rowsP q r k * (if r / 2 ^ k % 2 = 0 then 1 else qr q k)) ≤ 8 ^ (k + 1)
    have g : (if l / 2 ^ k % 2 = 0 then 1 else qr q k) * (if r / 2 ^ k % 2 = 0 then 1 else qr q k) ≤ 8 := by
      rcases h k (by omega) with e | e
      · rw [if_pos e, Nat.one_mul]; split <;> omega
      · rw [if_pos e, Nat.mul_one]; split <;> omega
    calc _ = (rowsP q l k * rowsP q r k) * ((if l / 2 ^ k % 2 = 0 then 1 else qr q k) * (if r / 2 ^ k % 2 = 0 then 1 else qr q k)) := Nat.mul_mul_mul_comm _ _ _ _
      _ ≤ 8 ^ k * 8 := Nat.mul_le_mul i g
      _ = 8 ^ (k + 1) := (Nat.pow_succ _ _).symm
theorem sz2 {q : Qd} (hq : WfQ q) {l r : Nat} (hl : l < 16) (hr : r < 16) (h : l &&& r = 0) : sz q l * sz q r ≤ 268435456 := by
  have g := rows2 hq (b_disj hl hr h) 4 (Nat.le_refl _)
  have g1 := shP_256 hq l (qP q) (Nat.le_refl _)
  have g2 := shP_256 hq r (qP q) (Nat.le_refl _)
  unfold sz
  calc _ = (rowsP q l 4 * rowsP q r 4) * ((shP q l (qP q) * 4 ^ (4 - cntP q l (qP q))) * (shP q r (qP q) * 4 ^ (4 - cntP q r (qP q)))) := Nat.mul_mul_mul_comm _ _ _ _
    _ ≤ 8 ^ 4 * (256 * 256) := Nat.mul_le_mul g (Nat.mul_le_mul g1 g2)
    _ = 268435456 := by decide
theorem nA_le {q : Qd} (S : Nat) : nA q S ≤ sz q S := by unfold nA; split <;> omega
theorem nB_le {q : Qd} (S : Nat) : nB q S ≤ sz q S := by unfold nB; split <;> omega
theorem nA_lt {q : Qd} (hq : WfQ q) (S : Nat) : nA q S ≤ 1048576 := Nat.le_trans (nA_le S) (sz_le hq S)
theorem nB_lt {q : Qd} (hq : WfQ q) (S : Nat) : nB q S ≤ 1048576 := Nat.le_trans (nB_le S) (sz_le hq S)
theorem prodA {q : Qd} (hq : WfQ q) {l r : Nat} (hl : l < 16) (hr : r < 16) (h : l &&& r = 0) : nA q l * nA q r ≤ 268435456 := Nat.le_trans (Nat.mul_le_mul (nA_le l) (nA_le r)) (sz2 hq hl hr h)
theorem prodB {q : Qd} (hq : WfQ q) {l r : Nat} (hl : l < 16) (hr : r < 16) (h : l &&& r = 0) : nA q l * nB q r + nB q l * nA q r ≤ 536870912 := by
  have h1 := Nat.le_trans (Nat.mul_le_mul (nA_le l) (nB_le r)) (sz2 hq hl hr h)
  have h2 := Nat.le_trans (Nat.mul_le_mul (nB_le l) (nA_le r)) (sz2 hq hl hr h)
  omega
theorem jA_le {q : Qd} (hq : WfQ q) {l r : Nat} (hl : l < 16) (hr : r < 16) (h : l &&& r = 0) (k : Nat) : jA q k l r ≤ 6291456 := by
  have h1 := prodA hq hl hr h
  have h2 := nA_lt hq l
  have h3 := nA_lt hq r
  unfold jA
  by_cases e : k = 0
  · rw [if_pos e]
    have := Nat.div_le_div_right (c := 256) h1
    omega
  · rw [if_neg e]
    split <;> omega
theorem jB_le {q : Qd} (hq : WfQ q) {l r : Nat} (hl : l < 16) (hr : r < 16) (h : l &&& r = 0) (k : Nat) : jB q k l r ≤ 6291456 := by
  have h1 := prodB hq hl hr h
  have h2 := nB_lt hq l
  have h3 := nB_lt hq r
  unfold jB
  by_cases e : k = 0
  · rw [if_pos e]
    have := Nat.div_le_div_right (c := 256) h1
    omega
  · rw [if_neg e]
    split <;> omega
theorem bc_pow : ∀ t, t < 4 → bc (2 ^ t) = 1 := by decide +kernel
theorem PE_bd {q : Qd} (hq : WfQ q) : ∀ n S, S ≤ n → S < 16 → ∀ e, e ∈ PE q S → eA e + 6291456 ≤ bc S * 6293504 ∧ eB e + 6291456 ≤ bc S * 6293504 := by
  have hT := hq.1
  intro n
  induction n with
  | zero =>
    intro S h0 hS e h
    rw [show S = 0 by omega, show PE q 0 = [] from ents_0 q 4] at h
    exact absurd h List.not_mem_nil
  | succ n ih =>
    intro S hn hS e h
    rcases (mem_PE hS).mp h with ⟨t, ht, hs, rfl⟩ | ⟨l, ho, k, hk, a, ha, b, hb, rfl⟩
    · rw [hs, bc_pow t (by omega)]
      have := hq.2.2.1 t
      show 256 * qr q t + _ ≤ _ ∧ 0 + _ ≤ _
      omega
    · have hs := (okB_ok ho).1
      have hl := sub1_ok hs
      have hb2 := b_sub hS hs
      obtain ⟨a1, a2⟩ := ih l (by omega) (by omega) a ha
      obtain ⟨b1, b2⟩ := ih (S - l) (by omega) (by omega) b hb
      have j1 := jA_le hq (l := l) (r := S - l) (by omega) (by omega) hb2.2.2.2.1 k
      have j2 := jB_le hq (l := l) (r := S - l) (by omega) (by omega) hb2.2.2.2.1 k
      show eA a + eA b + jA q k l (S - l) + _ ≤ _ ∧ eB a + eB b + jB q k l (S - l) + _ ≤ _
      have e := hb2.1
      rw [← e, Nat.add_mul]
      omega
theorem PE_lt {q : Qd} (hq : WfQ q) {S : Nat} (hS : S < 16) {e : Ent} (h : e ∈ PE q S) : eA e ≤ 18882560 ∧ eB e ≤ 18882560 := by
  obtain ⟨h1, h2⟩ := PE_bd hq S S (Nat.le_refl _) hS e h
  have := Nat.mul_le_mul_right 6293504 (bc_le S hS)
  omega
/-- ends in the order at a join of the parts l and r by kind k -/
def ioB (q : Qd) (k : Int32) (l r : Nat) : Bool := decide (k = 2) && decide (qot q ≠ -1 ∧ ((nI (qt q (lb q l r).toNatClampNeg) = qot q ∧ nI (qc q (lb q l r).toNatClampNeg) = qoc q) ∨ (nI (qu q (lb q l r).toNatClampNeg) = qot q ∧ nI (qo q (lb q l r).toNatClampNeg) = qoc q)))
theorem ioB_iff {q : Qd} {k : Int32} {l r p : Nat} (hp : p < 2 ^ 31) (h : lb q l r = nI p) : ioB q k l r = true ↔ k = 2 ∧ ordP q p := by
  unfold ioB ordP
  rw [Bool.and_eq_true, decide_eq_true_eq, decide_eq_true_eq, h, nI_cl hp]
theorem lbf_cases {q : Qd} (l r : Nat) : ∀ k p, (lbf q l r k p = -1 ∧ ∀ p', p ≤ p' → p' < p + k → ¬ btw q p' l r) ∨ ∃ p', p ≤ p' ∧ p' < p + k ∧ lbf q l r k p = nI p' ∧ btw q p' l r := by
  intro k
  induction k with
  | zero => intro p; exact Or.inl ⟨rfl, fun p' h1 h2 => by omega⟩
  | succ k ih =>
    intro p
    have e : lbf q l r (k + 1) p = if btw q p l r then nI p else lbf q l r k (p + 1) := rfl
    by_cases h : btw q p l r
    · rw [if_pos h] at e
      exact Or.inr ⟨p, by omega, by omega, e, h⟩
    · rw [if_neg h] at e
      rw [e]
      rcases ih (p + 1) with ⟨g1, g2⟩ | ⟨p', g1, g2, g3⟩
      · refine Or.inl ⟨g1, fun p' h1 h2 => ?_⟩
        by_cases f : p' = p
        · rw [f]; exact h
        · exact g2 p' (by omega) (by omega)
      · exact Or.inr ⟨p', by omega, by omega, g3⟩
theorem lb_cases {q : Qd} (l r : Nat) : (lb q l r = -1 ∧ ∀ p, p < qP q → ¬ btw q p l r) ∨ ∃ p, p < qP q ∧ lb q l r = nI p ∧ btw q p l r := by
  rcases lbf_cases (q := q) l r (qP q) 0 with ⟨g1, g2⟩ | ⟨p, g1, g2, g3, g4⟩
  · exact Or.inl ⟨g1, fun p hp => g2 p (by omega) (by omega)⟩
  · exact Or.inr ⟨p, by omega, g3, g4⟩
/-- the entry with what the order costs at the end of a whole plan -/
def fin (q : Qd) (S : Nat) (e : Ent) : Ent := if qot q = -1 ∨ ioB q (eK e) (eL e) (S - eL e) = true then e else (eC e, eL e, eK e, eA e + 3 * nA q S, eB e + 3 * nB q S)
def fl (q : Qd) (S : Nat) : List Ent := if S = 2 ^ qT q - 1 then (PE q S).map (fin q S) else PE q S
theorem fin_C (q : Qd) (S : Nat) (e : Ent) : eC (fin q S e) = eC e := by unfold fin; split <;> rfl
theorem fin_L (q : Qd) (S : Nat) (e : Ent) : eL (fin q S e) = eL e := by unfold fin; split <;> rfl
theorem fin_K (q : Qd) (S : Nat) (e : Ent) : eK (fin q S e) = eK e := by unfold fin; split <;> rfl
theorem fin_bd {q : Qd} (hq : WfQ q) (S : Nat) {e : Ent} (h : eA e ≤ 18882560 ∧ eB e ≤ 18882560) : eA (fin q S e) ≤ 22028288 ∧ eB (fin q S e) ≤ 22028288 := by
  have h1 := nA_lt hq S
  have h2 := nB_lt hq S
  unfold fin
  split
  · omega
  · show eA e + 3 * nA q S ≤ _ ∧ eB e + 3 * nB q S ≤ _
    omega
theorem fl_mem {q : Qd} {S : Nat} {e : Ent} (h : e ∈ fl q S) : ∃ e0, e0 ∈ PE q S ∧ (e = e0 ∨ e = fin q S e0) ∧ (S = 2 ^ qT q - 1 → e = fin q S e0) ∧ (S ≠ 2 ^ qT q - 1 → e = e0) := by
  unfold fl at h
  by_cases hs : S = 2 ^ qT q - 1
  · rw [if_pos hs] at h
    obtain ⟨e0, h1, h2⟩ := List.mem_map.mp h
    exact ⟨e0, h1, Or.inr h2.symm, fun _ => h2.symm, fun g => absurd hs g⟩
  · rw [if_neg hs] at h
    exact ⟨e, h, Or.inl rfl, fun g => absurd g hs, fun _ => rfl⟩
theorem fl_inj {q : Qd} (hq : WfQ q) {S : Nat} (hS : S < 16) {e e' : Ent} (h : e ∈ fl q S) (h' : e' ∈ fl q S) (hc : eC e = eC e') : e = e' := by
  unfold fl at h h'
  by_cases hs : S = 2 ^ qT q - 1
  · rw [if_pos hs] at h h'
    obtain ⟨e0, h1, rfl⟩ := List.mem_map.mp h
    obtain ⟨e1, h2, rfl⟩ := List.mem_map.mp h'
    rw [fin_C, fin_C] at hc
    rw [PE_inj hq hS h1 h2 hc]
  · rw [if_neg hs] at h h'
    exact PE_inj hq hS h h' hc
theorem fl_lt {q : Qd} (hq : WfQ q) {S : Nat} (hS : S < 16) {e : Ent} (h : e ∈ fl q S) : eC e < 2097152 ∧ eA e ≤ 22028288 ∧ eB e ≤ 22028288 := by
  obtain ⟨e0, h0, h1, -⟩ := fl_mem h
  have hb := PE_lt hq hS h0
  have hc := eC_lt7 hq hS h0
  rcases h1 with rfl | rfl
  · omega
  · rw [fin_C]
    exact ⟨hc, fin_bd hq S hb⟩
theorem fl_len {q : Qd} (hq : WfQ q) (S : Nat) : (fl q S).length ≤ (acd 4 S).length := by
  have h : (fl q S).length = (PE q S).length := by
    unfold fl
    split
    · exact List.length_map _
    · rfl
  rw [h]
  exact ents_len hq 4 S
/-- all entries of the sets below S, one set behind the other -/
def Lt (q : Qd) : Nat → List Ent
  | 0 => []
  | S + 1 => Lt q S ++ fl q S
def off (q : Qd) (S : Nat) : Nat := (Lt q S).length
theorem off_succ (q : Qd) (S : Nat) : off q (S + 1) = off q S + (fl q S).length := List.length_append
def aoff : Nat → Nat
  | 0 => 0
  | S + 1 => aoff S + (acd 4 S).length
theorem aoffB : ((List.range 17).all fun S => decide (aoff S ≤ 3712)) = true := by decide +kernel
theorem off_aoff {q : Qd} (hq : WfQ q) : ∀ S, off q S ≤ aoff S := by
  intro S
  induction S with
  | zero => exact Nat.le_refl _
  | succ S ih => rw [off_succ]; exact Nat.add_le_add ih (fl_len hq S)
theorem off_le {q : Qd} (hq : WfQ q) {S : Nat} (hS : S < 17) : off q S ≤ 3712 := by
  have g := aoffB
  simp only [List.all_eq_true, List.mem_range, decide_eq_true_eq] at g
  exact Nat.le_trans (off_aoff hq S) (g S hS)
theorem fl_0 (q : Qd) : fl q 0 = [] := by
  have h : PE q 0 = [] := ents_0 q 4
  unfold fl
  rw [h]
  split <;> rfl
theorem Lt_pre (q : Qd) : ∀ (n S : Nat), ∃ X, Lt q (S + n) = Lt q S ++ X := by
  intro n
  induction n with
  | zero => intro S; exact ⟨[], (List.append_nil _).symm⟩
  | succ n ih =>
    intro S
    obtain ⟨X, h⟩ := ih S
    refine ⟨X ++ fl q (S + n), ?_⟩
    show Lt q (S + n) ++ fl q (S + n) = _
    rw [h, List.append_assoc]
/-- where the entries of s lie in the list -/
theorem Lt_at (q : Qd) {s S : Nat} (h : s < S) (Y : List Ent) (i : Nat) (e : Ent) (he : (fl q s)[i]? = some e) : (Lt q S ++ Y)[off q s + i]? = some e := by
  obtain ⟨X, hX⟩ := Lt_pre q (S - (s + 1)) (s + 1)
  rw [show s + 1 + (S - (s + 1)) = S by omega] at hX
  have hi : i < (fl q s).length := (List.getElem?_eq_some_iff.mp he).1
  rw [hX]
  show (Lt q s ++ fl q s ++ X ++ Y)[off q s + i]? = some e
  rw [List.append_assoc, List.append_assoc, List.getElem?_append_right (by unfold off; omega), List.getElem?_append_left (by unfold off; omega)]
  unfold off
  rw [Nat.add_sub_cancel_left]
  exact he
