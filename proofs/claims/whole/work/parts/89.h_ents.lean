/-! entries: membership, one entry a code -/
def nA (q : Qd) (S : Nat) : Nat := if opB q S (qP q) = 0 then sz q S else 0
def nB (q : Qd) (S : Nat) : Nat := if opB q S (qP q) = 0 then 0 else sz q S
theorem szA_n (q : Qd) (S : Nat) : szA q S = lN (nA q S) := by
  unfold szA nA
  split <;> rfl
theorem szB_n (q : Qd) (S : Nat) : szB q S = lN (nB q S) := by
  unfold szB nB
  split <;> rfl
def jA (q : Qd) (k l r : Nat) : Nat := if k = 0 then nA q l * nA q r / 256 else (if k = 1 then 2 else 3) * (nA q l + nA q r)
def jB (q : Qd) (k l r : Nat) : Nat := if k = 0 then (nA q l * nB q r + nB q l * nA q r) / 256 else (if k = 1 then 2 else 3) * (nB q l + nB q r)
def jn (q : Qd) (k l r : Nat) (a b : Ent) : Ent := (mkc k l (eC a) r (eC b), l, nI k, eA a + eA b + jA q k l r, eB a + eB b + jB q k l r)
def rd (q : Qd) (t : Nat) : Ent := (t, 0, -1, 256 * qr q t, 0)
def okB (q : Qd) (S l : Nat) : Bool := sub1 S l && decide (lb q l (S - l) ≠ -1)
def kb (q : Qd) (E : Nat → List Ent) (l r k : Nat) : List Ent := (E l).flatMap fun a => (E r).map fun b => jn q k l r a b
def blk (q : Qd) (E : Nat → List Ent) (S l : Nat) : List Ent := if okB q S l = true then kb q E l (S - l) 0 ++ (kb q E l (S - l) 1 ++ kb q E l (S - l) 2) else []
def jl (q : Qd) (E : Nat → List Ent) (S : Nat) : Nat → List Ent
  | 0 => []
  | n + 1 => jl q E S n ++ blk q E S n
def rl (q : Qd) (S : Nat) : Nat → List Ent
  | 0 => []
  | t + 1 => rl q S t ++ (if S = 2 ^ t then [rd q t] else [])
def ents (q : Qd) : Nat → Nat → List Ent
  | 0, _ => []
  | f + 1, S => rl q S (qT q) ++ jl q (ents q f) S S
def PE (q : Qd) (S : Nat) : List Ent := ents q 4 S
theorem sub1_ok {S l : Nat} (h : sub1 S l = true) : 0 < l ∧ l < S ∧ l &&& S = l := by
  unfold sub1 at h
  rw [Bool.and_eq_true, Bool.and_eq_true] at h
  have h1 : l ≠ 0 := by simpa using h.1
  have h2 : l ≠ S := by simpa using h.2.1
  have h3 : l &&& S = l := by simpa using h.2.2
  have h4 : l &&& S ≤ S := Nat.and_le_right
  omega
theorem sub1_t {S l : Nat} (h1 : 0 < l) (h2 : l < S) (h3 : l &&& S = l) : sub1 S l = true := by
  unfold sub1
  rw [Bool.and_eq_true, Bool.and_eq_true]
  exact ⟨by simpa using (show l ≠ 0 by omega), by simpa using (show l ≠ S by omega), by simpa using h3⟩
def bcT (S l : Nat) : Bool := !(sub1 S l) || (decide (bc l + bc (S - l) = bc S) && (decide (0 < bc l) && (decide (0 < bc (S - l)) && (decide (l &&& (S - l) = 0) && (decide (l ||| (S - l) = S) && (decide (S ^^^ l = S - l) && decide (S &&& (15 - l) = S - l)))))))
theorem bcTB : ((List.range 16).all fun S => (List.range 16).all fun l => bcT S l) = true := by decide +kernel
theorem b_sub {S l : Nat} (hS : S < 16) (h : sub1 S l = true) : bc l + bc (S - l) = bc S ∧ 0 < bc l ∧ 0 < bc (S - l) ∧ l &&& (S - l) = 0 ∧ l ||| (S - l) = S ∧ S ^^^ l = S - l ∧ S &&& (15 - l) = S - l := by
  have g := bcTB
  simp only [List.all_eq_true, List.mem_range] at g
  have g := g S hS l (by have := (sub1_ok h).2.1; omega)
  unfold bcT at g
  rw [h] at g
  simpa using g
theorem bc_le : ∀ S, S < 16 → bc S ≤ 4 := by decide +kernel
theorem bc_0 : ∀ S, S < 16 → bc S = 0 → S = 0 := by decide +kernel
theorem okB_ok {q : Qd} {S l : Nat} (h : okB q S l = true) : sub1 S l = true ∧ lb q l (S - l) ≠ -1 := by
  unfold okB at h
  rw [Bool.and_eq_true] at h
  exact ⟨h.1, of_decide_eq_true h.2⟩
theorem okB_t {q : Qd} {S l : Nat} (h1 : sub1 S l = true) (h2 : lb q l (S - l) ≠ -1) : okB q S l = true := by
  unfold okB
  rw [Bool.and_eq_true]
  exact ⟨h1, decide_eq_true h2⟩
theorem rl_0 (q : Qd) : ∀ n, rl q 0 n = [] := by
  intro n
  induction n with
  | zero => rfl
  | succ n ih =>
    show rl q 0 n ++ (if 0 = 2 ^ n then [rd q n] else []) = []
    have h : ¬ 0 = 2 ^ n := by have := Nat.two_pow_pos n; omega
    rw [ih, if_neg h]
    rfl
theorem jl_congr (q : Qd) {E F : Nat → List Ent} (S : Nat) (h : ∀ l, okB q S l = true → E l = F l ∧ E (S - l) = F (S - l)) : ∀ n, jl q E S n = jl q F S n := by
  intro n
  induction n with
  | zero => rfl
  | succ n ih =>
    show jl q E S n ++ blk q E S n = jl q F S n ++ blk q F S n
    rw [ih]
    unfold blk
    by_cases hk : okB q S n = true
    · rw [if_pos hk, if_pos hk]
      unfold kb
      rw [(h n hk).1, (h n hk).2]
    · rw [if_neg hk, if_neg hk]
theorem ents_0 (q : Qd) : ∀ f, ents q f 0 = [] := by
  intro f
  cases f with
  | zero => rfl
  | succ f =>
    show rl q 0 (qT q) ++ jl q (ents q f) 0 0 = []
    rw [rl_0]
    rfl
theorem ents_st (q : Qd) : ∀ f g S, S < 16 → bc S ≤ f → bc S ≤ g → ents q f S = ents q g S := by
  intro f
  induction f with
  | zero =>
    intro g S hS h1 _
    have h0 := bc_0 S hS (by omega)
    subst h0
    rw [ents_0, ents_0]
  | succ f ih =>
    intro g S hS h1 h2
    cases g with
    | zero =>
      have h0 := bc_0 S hS (by omega)
      subst h0
      rw [ents_0, ents_0]
    | succ g =>
      show rl q S (qT q) ++ jl q (ents q f) S S = rl q S (qT q) ++ jl q (ents q g) S S
      rw [jl_congr q (E := ents q f) (F := ents q g) S]
      intro l hl
      have hs := (okB_ok hl).1
      have hb := b_sub hS hs
      have hl2 := sub1_ok hs
      exact ⟨ih g l (by omega) (by omega) (by omega), ih g (S - l) (by omega) (by omega) (by omega)⟩
theorem PE_eq (q : Qd) {S : Nat} (hS : S < 16) : PE q S = rl q S (qT q) ++ jl q (PE q) S S := by
  show rl q S (qT q) ++ jl q (ents q 3) S S = _
  rw [jl_congr q (E := ents q 3) (F := PE q) S]
  intro l hl
  have hs := (okB_ok hl).1
  have hb := b_sub hS hs
  have hl2 := sub1_ok hs
  have h4 := bc_le S hS
  exact ⟨ents_st q 3 4 l (by omega) (by omega) (by omega), ents_st q 3 4 (S - l) (by omega) (by omega) (by omega)⟩
theorem mem_kb {q : Qd} {E : Nat → List Ent} {l r k : Nat} {e : Ent} : e ∈ kb q E l r k ↔ ∃ a, a ∈ E l ∧ ∃ b, b ∈ E r ∧ e = jn q k l r a b := by
  unfold kb
  simp only [List.mem_flatMap, List.mem_map]
  constructor
  · rintro ⟨a, ha, b, hb, rfl⟩
    exact ⟨a, ha, b, hb, rfl⟩
  · rintro ⟨a, ha, b, hb, rfl⟩
    exact ⟨a, ha, b, hb, rfl⟩
theorem mem_blk {q : Qd} {E : Nat → List Ent} {S l : Nat} {e : Ent} : e ∈ blk q E S l ↔ okB q S l = true ∧ ∃ k, k < 3 ∧ ∃ a, a ∈ E l ∧ ∃ b, b ∈ E (S - l) ∧ e = jn q k l (S - l) a b := by
  unfold blk
  by_cases h : okB q S l = true
  · rw [if_pos h, List.mem_append, List.mem_append, mem_kb, mem_kb, mem_kb]
    constructor
    · rintro (g | g | g)
      · exact ⟨h, 0, by omega, g⟩
      · exact ⟨h, 1, by omega, g⟩
      · exact ⟨h, 2, by omega, g⟩
    · rintro ⟨-, k, hk, g⟩
      rcases (show k = 0 ∨ k = 1 ∨ k = 2 by omega) with rfl | rfl | rfl
      · exact Or.inl g
      · exact Or.inr (Or.inl g)
      · exact Or.inr (Or.inr g)
  · rw [if_neg h]
    exact ⟨fun g => absurd g List.not_mem_nil, fun g => absurd g.1 h⟩
theorem mem_jl {q : Qd} {E : Nat → List Ent} {S : Nat} {e : Ent} : ∀ n, e ∈ jl q E S n ↔ ∃ l, l < n ∧ e ∈ blk q E S l := by
  intro n
  induction n with
  | zero => exact ⟨fun g => absurd g List.not_mem_nil, fun ⟨l, h, _⟩ => absurd h (Nat.not_lt_zero _)⟩
  | succ n ih =>
    show e ∈ jl q E S n ++ blk q E S n ↔ _
    rw [List.mem_append, ih]
    constructor
    · rintro (⟨l, h, g⟩ | g)
      · exact ⟨l, by omega, g⟩
      · exact ⟨n, by omega, g⟩
    · rintro ⟨l, h, g⟩
      by_cases e : l = n
      · subst e; exact Or.inr g
      · exact Or.inl ⟨l, by omega, g⟩
theorem mem_rl {q : Qd} {S : Nat} {e : Ent} : ∀ n, e ∈ rl q S n ↔ ∃ t, t < n ∧ S = 2 ^ t ∧ e = rd q t := by
  intro n
  induction n with
  | zero => exact ⟨fun g => absurd g List.not_mem_nil, fun ⟨l, h, _⟩ => absurd h (Nat.not_lt_zero _)⟩
  | succ n ih =>
    show e ∈ rl q S n ++ (if S = 2 ^ n then [rd q n] else []) ↔ _
    rw [List.mem_append, ih]
    constructor
    · rintro (⟨l, h, g⟩ | g)
      · exact ⟨l, by omega, g⟩
      · by_cases hs : S = 2 ^ n
        · rw [if_pos hs] at g
          exact ⟨n, by omega, hs, List.mem_singleton.mp g⟩
        · rw [if_neg hs] at g
          exact absurd g List.not_mem_nil
    · rintro ⟨l, h, g1, g2⟩
      by_cases e : l = n
      · subst e; right; rw [if_pos g1]; exact List.mem_singleton.mpr g2
      · exact Or.inl ⟨l, by omega, g1, g2⟩
/-- what an entry of S is: a read, or a join of two entries -/
theorem mem_PE {q : Qd} {S : Nat} (hS : S < 16) {e : Ent} : e ∈ PE q S ↔ (∃ t, t < qT q ∧ S = 2 ^ t ∧ e = rd q t) ∨ ∃ l, okB q S l = true ∧ ∃ k, k < 3 ∧ ∃ a, a ∈ PE q l ∧ ∃ b, b ∈ PE q (S - l) ∧ e = jn q k l (S - l) a b := by
  rw [PE_eq q hS, List.mem_append, mem_rl, mem_jl]
  constructor
  · rintro (h | ⟨l, h, g⟩)
    · exact Or.inl h
    · exact Or.inr ⟨l, mem_blk.mp g⟩
  · rintro (h | ⟨l, h⟩)
    · exact Or.inl h
    · exact Or.inr ⟨l, (sub1_ok (okB_ok h.1).1).2.1, mem_blk.mpr h⟩
