/-! the pure part: the question, as both sides hold it -/
abbrev Qd : Type := (Nat × Nat × Int32 × Int32) × (Nat → Nat) × (Nat → Nat → Nat → Int32) × (Nat → Nat) × (Nat → Nat) × (Nat → Nat) × (Nat → Nat) × (Nat → Nat)
def qT (q : Qd) : Nat := q.1.1
def qP (q : Qd) : Nat := q.1.2.1
def qot (q : Qd) : Int32 := q.1.2.2.1
def qoc (q : Qd) : Int32 := q.1.2.2.2
def qr (q : Qd) : Nat → Nat := q.2.1
def qv (q : Qd) : Nat → Nat → Nat → Int32 := q.2.2.1
def qt (q : Qd) : Nat → Nat := q.2.2.2.1
def qc (q : Qd) : Nat → Nat := q.2.2.2.2.1
def qu (q : Qd) : Nat → Nat := q.2.2.2.2.2.1
def qo (q : Qd) : Nat → Nat := q.2.2.2.2.2.2.1
def qs (q : Qd) : Nat → Nat := q.2.2.2.2.2.2.2
/-- a well-formed question -/
def WfQ (q : Qd) : Prop := qT q ≤ 4 ∧ qP q ≤ 4 ∧ (∀ t, qr q t ≤ 8) ∧ (∀ t, qT q ≤ t → qr q t = 0) ∧ (∀ p, p < qP q → qt q p < qu q p ∧ qu q p < qT q ∧ qc q p < 3 ∧ qo q p < 3 ∧ qs q p ≤ 4) ∧ (∀ p p', p < qP q → p' < qP q → qs q p = 0 → qs q p' = 0 → p = p') ∧ (qot q = -1 ∨ ∃ t c, t < qT q ∧ c < 3 ∧ qot q = nI t ∧ qoc q = nI c)
/-- the reference holds it -/
def MQd (q : Qd) (τ : MSt) : Prop := τ.1 0 = nI (qT q) ∧ τ.1 1 = nI (qP q) ∧ τ.1 2 = qot q ∧ τ.1 3 = qoc q ∧ (∀ t, t < 4 → τ.2.2.1 4 t = nI (qr q t)) ∧ (∀ t i c, t < 4 → i < qr q t → c < 3 → τ.2.2.1 5 (36 * t + 3 * i + c) = qv q t i c) ∧ ∀ p, p < qP q → τ.2.2.1 6 p = nI (qt q p) ∧ τ.2.2.1 7 p = nI (qc q p) ∧ τ.2.2.1 8 p = nI (qu q p) ∧ τ.2.2.1 9 p = nI (qo q p) ∧ τ.2.2.1 10 p = nI (qs q p)
/-- the class holds it -/
def CQd (q : Qd) (σ : CSt) : Prop := σ.1 300 = nI (qT q) ∧ σ.1 301 = nI (qP q) ∧ σ.1 303 = qot q ∧ σ.1 304 = qoc q ∧ (∀ t, t < 4 → σ.2.2.1 305 t = nI (qr q t)) ∧ (∀ t i c, t < 4 → i < qr q t → c < 3 → σ.2.2.1 306 ((t * 8 + i) * 3 + c) = qv q t i c) ∧ (∀ p, p < qP q → σ.2.2.1 307 p = nI (qt q p) ∧ σ.2.2.1 308 p = nI (qc q p) ∧ σ.2.2.1 309 p = nI (qu q p) ∧ σ.2.2.1 310 p = nI (qo q p) ∧ σ.2.2.1 311 p = nI (2 ^ qt q p + 2 ^ qu q p) ∧ σ.2.2.1 312 p = nI (if qs q p = 0 then 1 else qs q p)) ∧ (∀ p, qP q ≤ p → p < 4 → σ.2.2.1 311 p = 0) ∧ ((σ.1 302 = -1 ∧ ∀ p, p < qP q → qs q p ≠ 0) ∨ ∃ p, p < qP q ∧ qs q p = 0 ∧ σ.1 302 = nI p)
theorem bs {α β : Type} {a : α} {f : α → Option β} : (some a).bind f = f a := rfl
theorem i32_lt {x y : Int32} : x < y ↔ x.toInt < y.toInt := Int32.lt_iff_toInt_lt
theorem i32_le {x y : Int32} : x ≤ y ↔ x.toInt ≤ y.toInt := Int32.le_iff_toInt_le
theorem i32_eq {x y : Int32} : x = y ↔ x.toInt = y.toInt := Int32.toInt_inj.symm
theorem nat_of_i32 {x : Int32} (h0 : ¬ x < 0) : ∃ j : Nat, j < 2 ^ 31 ∧ x = nI j := nI_of h0
theorem chk_nI {α : Type} {k n : Nat} {x : Option α} (h : k < n) (hn : n < 2 ^ 31) : chk (nI k) n x = x := chk_in (vp_in_nI h hn)
theorem nI_cl {k : Nat} (h : k < 2 ^ 31) : (nI k).toNatClampNeg = k := nI_clamp h
theorem cI_1 (σ : CSt) (k j : Nat) (v : Int32) : (cI σ k v).1 j = if j = k then v else σ.1 j := rfl
theorem cI_2 (σ : CSt) (k : Nat) (v : Int32) : (cI σ k v).2 = σ.2 := rfl
theorem cX_1 (σ : CSt) (k : Nat) (f : Nat → Int32) : (cX σ k f).1 = σ.1 := rfl
theorem cX_2 (σ : CSt) (k : Nat) (f : Nat → Int32) : (cX σ k f).2.1 = σ.2.1 := rfl
theorem cX_3 (σ : CSt) (k j : Nat) (f : Nat → Int32) : (cX σ k f).2.2.1 j = if j = k then f else σ.2.2.1 j := rfl
theorem cX_4 (σ : CSt) (k : Nat) (f : Nat → Int32) : (cX σ k f).2.2.2 = σ.2.2.2 := rfl
theorem cA_1 (σ : CSt) (k i : Nat) (v : Int32) : (cA σ k i v).1 = σ.1 := rfl
theorem cA_2 (σ : CSt) (k i : Nat) (v : Int32) : (cA σ k i v).2.1 = σ.2.1 := rfl
theorem cA_3 (σ : CSt) (k i j : Nat) (v : Int32) : (cA σ k i v).2.2.1 j = if j = k then upd (σ.2.2.1 k) i v else σ.2.2.1 j := rfl
theorem cA_4 (σ : CSt) (k i : Nat) (v : Int32) : (cA σ k i v).2.2.2 = σ.2.2.2 := rfl
theorem sI_1 (τ : MSt) (k j : Nat) (v : Int32) : (sI τ k v).1 j = if j = k then v else τ.1 j := rfl
theorem sI_2 (τ : MSt) (k : Nat) (v : Int32) : (sI τ k v).2 = τ.2 := rfl
theorem sA_1 (τ : MSt) (k i : Nat) (v : Int32) : (sA τ k i v).1 = τ.1 := rfl
theorem sA_2 (τ : MSt) (k i : Nat) (v : Int32) : (sA τ k i v).2.1 = τ.2.1 := rfl
theorem sA_3 (τ : MSt) (k i j : Nat) (v : Int32) : (sA τ k i v).2.2.1 j = if j = k then upd (τ.2.2.1 k) i v else τ.2.2.1 j := rfl
theorem sA_4 (τ : MSt) (k i : Nat) (v : Int32) : (sA τ k i v).2.2.2 = τ.2.2.2 := rfl
theorem upd_at (f : Nat → Int32) (k j : Nat) (x : Int32) : upd f k x j = if j = k then x else f j := by
  by_cases h : j = k
  · subst h; rw [pk_us, if_pos rfl]
  · rw [pk_un h, if_neg h]
/-- is x the number of a table -/
def isT (q : Qd) (x : Int32) : Prop := ¬ x < 0 ∧ x < nI (qT q)
theorem isT_nat {q : Qd} (hq : qT q ≤ 4) {x : Int32} : isT q x ↔ ∃ t, t < qT q ∧ x = nI t := by
  constructor
  · intro ⟨h0, h1⟩
    obtain ⟨j, hj, rfl⟩ := nI_of h0
    exact ⟨j, (nI_ltI hj (by omega)).mp h1, rfl⟩
  · rintro ⟨t, ht, rfl⟩
    exact ⟨nI_pos (by omega), nI_lt ht (by omega)⟩
theorem fM_isTable_t {N : Nat} {q : Qd} {τ : MSt} (h : MQd q τ) {t : Nat} (hq : qT q ≤ 4) (ht : t < qT q) : fM_isTable N τ (nI t) = some 1 := by
  unfold fM_isTable
  rw [if_neg (nI_pos (by omega)), h.1, if_neg (nI_ge ht (by omega))]
theorem fM_isTable_f {N : Nat} {q : Qd} {τ : MSt} (h : MQd q τ) {x : Int32} (hx : ¬ isT q x) : fM_isTable N τ x = some 0 := by
  unfold fM_isTable
  by_cases h0 : x < 0
  · rw [if_pos h0]
  · rw [if_neg h0, h.1]
    by_cases h1 : nI (qT q) ≤ x
    · rw [if_pos h1]
    · exact absurd ⟨h0, Int32.not_le.mp h1⟩ hx
theorem fQ_isTable_t {N : Nat} {q : Qd} {σ : CSt} (h : CQd q σ) {t : Nat} (hq : qT q ≤ 4) (ht : t < qT q) : fQ_isTable N σ (nI t) = some 1 := by
  unfold fQ_isTable
  rw [if_neg (nI_pos (by omega)), h.1, if_neg (nI_ge ht (by omega)), if_neg (show ¬ (4 : Int32) ≤ nI t from nI_ge (b := 4) (by omega) (by omega))]
theorem fQ_isTable_f {N : Nat} {q : Qd} {σ : CSt} (h : CQd q σ) {x : Int32} (hx : ¬ isT q x) : fQ_isTable N σ x = some 0 := by
  unfold fQ_isTable
  by_cases h0 : x < 0
  · rw [if_pos h0]
  · rw [if_neg h0, h.1]
    by_cases h1 : nI (qT q) ≤ x
    · rw [if_pos h1]
    · exact absurd ⟨h0, Int32.not_le.mp h1⟩ hx
/-- is x the number of a column -/
def isK (x : Int32) : Prop := ¬ x < 0 ∧ x < 3
theorem isK_nat {x : Int32} : isK x ↔ ∃ c, c < 3 ∧ x = nI c := by
  constructor
  · intro ⟨h0, h1⟩
    obtain ⟨j, hj, rfl⟩ := nI_of h0
    exact ⟨j, (nI_ltI (b := 3) hj (by omega)).mp h1, rfl⟩
  · rintro ⟨t, ht, rfl⟩
    exact ⟨nI_pos (by omega), nI_lt (b := 3) ht (by omega)⟩
theorem fM_isColumn_t {N : Nat} {τ : MSt} {x : Int32} (hx : isK x) : fM_isColumn N τ x = some 1 := by
  unfold fM_isColumn
  rw [if_neg hx.1, if_neg]
  intro h
  have := hx.2
  rw [i32_lt] at h this
  have e2 : (2 : Int32).toInt = 2 := by decide
  have e3 : (3 : Int32).toInt = 3 := by decide
  omega
theorem fM_isColumn_f {N : Nat} {τ : MSt} {x : Int32} (hx : ¬ isK x) : fM_isColumn N τ x = some 0 := by
  unfold fM_isColumn
  by_cases h0 : x < 0
  · rw [if_pos h0]
  · rw [if_neg h0, if_pos]
    have h3 : ¬ x < 3 := fun h => hx ⟨h0, h⟩
    rw [i32_lt] at h3 ⊢
    have e2 : (2 : Int32).toInt = 2 := by decide
    have e3 : (3 : Int32).toInt = 3 := by decide
    omega
theorem fQ_isField_t {N : Nat} {q : Qd} {σ : CSt} (h : CQd q σ) {t : Nat} {x : Int32} (hq : qT q ≤ 4) (ht : t < qT q) (hx : isK x) : fQ_isField N σ (nI t) x = some 1 := by
  unfold fQ_isField
  rw [fQ_isTable_t h hq ht]
  rw [bs, if_neg (by decide), if_neg hx.1, if_neg (Int32.not_le.mpr hx.2)]
theorem fQ_isField_f {N : Nat} {q : Qd} {σ : CSt} (h : CQd q σ) {y x : Int32} (hq : qT q ≤ 4) (hx : ¬ (isT q y ∧ isK x)) : fQ_isField N σ y x = some 0 := by
  unfold fQ_isField
  by_cases hy : isT q y
  · obtain ⟨t, ht, rfl⟩ := (isT_nat hq).mp hy
    rw [fQ_isTable_t h hq ht]
    rw [bs, if_neg (by decide)]
    by_cases h0 : x < 0
    · rw [if_pos h0]
    · rw [if_neg h0, if_pos]
      exact Int32.not_lt.mp (fun h3 => hx ⟨hy, h0, h3⟩)
  · rw [fQ_isTable_f h hy]
    rfl
