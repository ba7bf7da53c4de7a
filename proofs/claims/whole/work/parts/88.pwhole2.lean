/-! whole: the same by all graphs of four pairings -/
theorem joinedM_out {N : Nat} (hN : 5 ≤ N) {q : Qd} {τ : MSt} (hq : WfQ q) (hM : MQd q τ) (K : Int32 → Option Int32) : ∀ (n k i r : Nat), r < 16 → i + k = 4 → k < n → fM_isWhole_L13 N τ K n (nI r) (nI i) = K (nI (outM q (2 ^ qT q - 1) k r)) := by
  have hP := hq.2.1
  intro n
  induction n with
  | zero => intro k i r _ _ h; omega
  | succ n ih =>
    intro k i r hr hik hn
    rw [fM_isWhole_L13]
    cases k with
    | zero =>
      rw [if_pos (by rw [show i = 4 by omega]; decide)]
      rfl
    | succ k =>
      rw [if_neg (show ¬ (4 : Int32) ≤ nI i from nI_ge (b := 4) (by omega) (by omega)), show (0 : Int32) = nI 0 from nI_0.symm, joinedM_in hq hM _ _ N (qP q) 0 r hr (by omega) (by omega), nI_1]
      exact ih k (i + 1) _ (inM_lt hq _ (qP q) 0 r (by omega) hr) (by omega) (by omega)
def tc (a : Nat) : Nat := [0, 0, 0, 1, 1, 2].getD a 0
def uc (a : Nat) : Nat := [1, 2, 3, 2, 3, 3].getD a 0
theorem code_ex : ∀ t, t < 4 → ∀ u, u < 4 → t < u → ∃ a, a < 6 ∧ tc a = t ∧ uc a = u := by decide +kernel
def qcode (T P a b c d : Nat) : Qd := ((T, P, 0, 0), fun _ => 0, fun _ _ _ => 0, fun p => tc ([a, b, c, d].getD p 0), fun _ => 0, fun p => uc ([a, b, c, d].getD p 0), fun _ => 0, fun _ => 0)
def okg (T P a b c d : Nat) : Bool := !((decide (1 < P) || b == 0) && (decide (2 < P) || c == 0) && (decide (3 < P) || d == 0) && decide (0 < T) && (List.range P).all (fun p => decide (uc ([a, b, c, d].getD p 0) < T))) || ((outC (qe (qcode T P a b c d)) (T - 1) 1 == 2 ^ T - 1) == (outM (qcode T P a b c d) (2 ^ T - 1) 4 1 == 2 ^ T - 1))
theorem graphsB : ((List.range 5).all fun T => (List.range 5).all fun P => (List.range 6).all fun a => (List.range 6).all fun b => (List.range 6).all fun c => (List.range 6).all fun d => okg T P a b c d) = true := by decide +kernel
theorem graphs : ∀ T, T < 5 → ∀ P, P < 5 → ∀ a, a < 6 → ∀ b, b < 6 → (P ≤ 1 → b = 0) → ∀ c, c < 6 → (P ≤ 2 → c = 0) → ∀ d, d < 6 → (P ≤ 3 → d = 0) → 0 < T → (∀ p, p < P → uc ([a, b, c, d].getD p 0) < T) → (outC (qe (qcode T P a b c d)) (T - 1) 1 = 2 ^ T - 1 ↔ outM (qcode T P a b c d) (2 ^ T - 1) 4 1 = 2 ^ T - 1) := by
  intro T hT P hP a ha b hb b0 c hc c0 d hd d0 h0 hu
  have g := graphsB
  simp only [List.all_eq_true, List.mem_range] at g
  have g := g T hT P hP a ha b hb c hc d hd
  unfold okg at g
  have e1 : (decide (1 < P) || b == 0) = true := by
    by_cases h : 1 < P
    · simp [h]
    · simp [b0 (by omega)]
  have e2 : (decide (2 < P) || c == 0) = true := by
    by_cases h : 2 < P
    · simp [h]
    · simp [c0 (by omega)]
  have e3 : (decide (3 < P) || d == 0) = true := by
    by_cases h : 3 < P
    · simp [h]
    · simp [d0 (by omega)]
  have e4 : (List.range P).all (fun p => decide (uc ([a, b, c, d].getD p 0) < T)) = true := by
    rw [List.all_eq_true]
    intro p hp
    exact decide_eq_true (hu p (List.mem_range.mp hp))
  rw [e1, e2, e3, e4, decide_eq_true h0] at g
  simp only [Bool.and_self, Bool.not_true, Bool.false_or, beq_iff_eq] at g
  constructor
  · intro h
    have : (outC (qe (qcode T P a b c d)) (T - 1) 1 == 2 ^ T - 1) = true := by simp [h]
    rw [this] at g
    exact beq_iff_eq.mp g.symm
  · intro h
    have : (outM (qcode T P a b c d) (2 ^ T - 1) 4 1 == 2 ^ T - 1) = true := by simp [h]
    rw [this] at g
    exact beq_iff_eq.mp g
theorem inC_congr {e e' : Nat → Nat} (h : ∀ p, p < 4 → e p = e' p) : ∀ (k p r : Nat), p + k ≤ 4 → inC e k p r = inC e' k p r := by
  intro k
  induction k with
  | zero => intro p r _; rfl
  | succ k ih =>
    intro p r hp
    show inC e k (p + 1) (if e p &&& r = 0 then r else r ||| e p) = inC e' k (p + 1) (if e' p &&& r = 0 then r else r ||| e' p)
    rw [h p (by omega)]
    exact ih _ _ (by omega)
theorem outC_congr {e e' : Nat → Nat} (h : ∀ p, p < 4 → e p = e' p) : ∀ (k r : Nat), outC e k r = outC e' k r := by
  intro k
  induction k with
  | zero => intro r; rfl
  | succ k ih =>
    intro r
    show outC e k (inC e 4 0 r) = outC e' k (inC e' 4 0 r)
    rw [inC_congr h 4 0 r (by omega)]
    exact ih _
theorem inM_congr {q q' : Qd} {all P : Nat} (h : ∀ p, p < P → qt q p = qt q' p ∧ qu q p = qu q' p) : ∀ (k p r : Nat), p + k ≤ P → inM q all k p r = inM q' all k p r := by
  intro k
  induction k with
  | zero => intro p r _; rfl
  | succ k ih =>
    intro p r hp
    unfold inM
    rw [(h p (by omega)).1, (h p (by omega)).2]
    exact ih _ _ (by omega)
theorem outM_congr {q q' : Qd} {all : Nat} (hP : qP q = qP q') (h : ∀ p, p < qP q → qt q p = qt q' p ∧ qu q p = qu q' p) : ∀ (k r : Nat), outM q all k r = outM q' all k r := by
  intro k
  induction k with
  | zero => intro r; rfl
  | succ k ih =>
    intro r
    show outM q all k (inM q all (qP q) 0 r) = outM q' all k (inM q' all (qP q') 0 r)
    rw [← hP, inM_congr (P := qP q) h (qP q) 0 r (by omega)]
    exact ih _
/-- a question's graph by four numbers -/
theorem graph_of {q : Qd} (hq : WfQ q) : ∃ a b c d, a < 6 ∧ b < 6 ∧ (qP q ≤ 1 → b = 0) ∧ c < 6 ∧ (qP q ≤ 2 → c = 0) ∧ d < 6 ∧ (qP q ≤ 3 → d = 0) ∧ ∀ p, p < qP q → tc ([a, b, c, d].getD p 0) = qt q p ∧ uc ([a, b, c, d].getD p 0) = qu q p := by
  have hT := hq.1
  have hP := hq.2.1
  have key : ∀ p, ∃ a, a < 6 ∧ (qP q ≤ p → a = 0) ∧ (p < qP q → tc a = qt q p ∧ uc a = qu q p) := by
    intro p
    by_cases hp : p < qP q
    · obtain ⟨b1, b2, -⟩ := hq.2.2.2.2.1 p hp
      obtain ⟨a, h1, h2, h3⟩ := code_ex (qt q p) (by omega) (qu q p) (by omega) b1
      exact ⟨a, h1, fun h => by omega, fun _ => ⟨h2, h3⟩⟩
    · exact ⟨0, by omega, fun _ => rfl, fun h => absurd h hp⟩
  obtain ⟨a, a1, -, a3⟩ := key 0
  obtain ⟨b, b1, b2, b3⟩ := key 1
  obtain ⟨c, c1, c2, c3⟩ := key 2
  obtain ⟨d, d1, d2, d3⟩ := key 3
  refine ⟨a, b, c, d, a1, b1, b2, c1, c2, d1, d2, fun p hp => ?_⟩
  rcases (show p = 0 ∨ p = 1 ∨ p = 2 ∨ p = 3 by omega) with rfl | rfl | rfl | rfl
  · exact a3 hp
  · exact b3 hp
  · exact c3 hp
  · exact d3 hp
theorem joined_same {q : Qd} (hq : WfQ q) (h0 : 0 < qT q) : outC (qe q) (qT q - 1) 1 = 2 ^ qT q - 1 ↔ outM q (2 ^ qT q - 1) 4 1 = 2 ^ qT q - 1 := by
  obtain ⟨a, b, c, d, a1, b1, b2, c1, c2, d1, d2, h⟩ := graph_of hq
  have g := graphs (qT q) (by have := hq.1; omega) (qP q) (by have := hq.2.1; omega) a a1 b b1 b2 c c1 c2 d d1 d2 h0 (fun p hp => by rw [(h p hp).2]; exact (hq.2.2.2.2.1 p hp).2.1)
  rw [outC_congr (e := qe q) (e' := qe (qcode (qT q) (qP q) a b c d)) (fun p _ => ?_), outM_congr (q := q) (q' := qcode (qT q) (qP q) a b c d) rfl (fun p hp => ⟨(h p hp).1.symm, (h p hp).2.symm⟩)]
  · exact g
  · unfold qe
    show (if p < qP q then _ else _) = (if p < qP q then 2 ^ tc ([a, b, c, d].getD p 0) + 2 ^ uc ([a, b, c, d].getD p 0) else 0)
    by_cases hp : p < qP q
    · rw [if_pos hp, if_pos hp, (h p hp).1, (h p hp).2]
    · rw [if_neg hp, if_neg hp]
