/-! cover -/
theorem fa_orL (a b : Nat) : lN a ||| lN b = lN (a ||| b) := by
  apply Int64.toBitVec_inj.1
  show BitVec.ofNat 64 a ||| BitVec.ofNat 64 b = BitVec.ofNat 64 (a ||| b)
  apply BitVec.eq_of_getLsbD_eq
  intro i hi
  simp [hi]
theorem shL : ∀ p, p < 33 → (1 : Int64) <<< ((nI p).toInt64 &&& 63) = lN (2 ^ p) := by decide +kernel
theorem sh16 : ∀ i, i < 17 → (1 : Int32) <<< (nI i &&& 31) = nI (2 ^ i) := by decide +kernel
theorem smod16 : ∀ i, i < 16 → ((nI i &&& 31).toBitVec.smod 32).toNat = i := by decide +kernel
theorem bit16 {s i : Nat} (hs : s < 2 ^ 31) (hi : i < 16) : ((nI s >>> (nI i &&& 31)) &&& (1 : Int32)) = if s.testBit i = true then 1 else 0 := by
  rw [pk_shrN hs _ i (smod16 i hi), show (1 : Int32) = nI (2 ^ 1 - 1) from rfl, fa_mask, Nat.testBit_eq_decide_div_mod_eq]
  rcases Nat.mod_two_eq_zero_or_one (s / 2 ^ i) with h | h
  · have h' : s / 2 ^ i % 2 ^ 1 = 0 := h
    rw [h']
    rfl
  · have h' : s / 2 ^ i % 2 ^ 1 = 1 := h
    rw [h']
    rfl
/-- the points where an entry is near, as bits -/
def pmk (lp : Nat → Nat) (e : Ent) (d : Nat) : Nat → Nat
  | 0 => 0
  | p + 1 => pmk lp e d p ||| (if nrP lp e p d then 2 ^ p else 0)
theorem pmk_bit (lp : Nat → Nat) (e : Ent) (d : Nat) (p : Nat) : ∀ n, (pmk lp e d n).testBit p = decide (p < n ∧ nrP lp e p d) := by
  intro n
  induction n with
  | zero => show (0 : Nat).testBit p = _; rw [Nat.zero_testBit]; simp
  | succ n ih =>
    show (pmk lp e d n ||| (if nrP lp e n d then 2 ^ n else 0)).testBit p = _
    rw [Nat.testBit_or, ih]
    by_cases c : nrP lp e n d
    · rw [if_pos c, Nat.testBit_two_pow, Bool.eq_iff_iff]
      simp only [Bool.or_eq_true, decide_eq_true_eq]
      constructor
      · rintro (h | h)
        · exact ⟨by omega, h.2⟩
        · subst h; exact ⟨by omega, c⟩
      · rintro ⟨h1, h2⟩
        by_cases g : n = p
        · exact Or.inr g
        · exact Or.inl ⟨by omega, h2⟩
    · rw [if_neg c, Nat.zero_testBit, Bool.or_false, Bool.eq_iff_iff]
      simp only [decide_eq_true_eq]
      constructor
      · exact fun h => ⟨by omega, h.2⟩
      · rintro ⟨h1, h2⟩
        refine ⟨?_, h2⟩
        by_cases g : p = n
        · rw [g] at h2; exact absurd h2 c
        · omega
def F6 (σ σ' : CSt) : Prop := σ'.1 = σ.1 ∧ σ'.2.2.1 = σ.2.2.1 ∧ (∀ k, k ≠ 506 → σ'.2.2.2.1 k = σ.2.2.2.1 k) ∧ σ'.2.2.2.2 = σ.2.2.2.2
theorem F6.refl (σ : CSt) : F6 σ σ := ⟨rfl, rfl, fun _ _ => rfl, rfl⟩
theorem F6.trans {a b c : CSt} (h : F6 a b) (g : F6 b c) : F6 a c := ⟨g.1.trans h.1, g.2.1.trans h.2.1, fun k hk => (g.2.2.1 k hk).trans (h.2.2.1 k hk), g.2.2.2.trans h.2.2.2⟩
theorem near_in {N : Nat} {q : Qd} (hq : WfQ q) {σ : CSt} {lp : Nat → Nat} (h : LpC q σ lp) (h30 : ∀ p, p < 33 → lp p < 2 ^ 30) {e : Ent} (he : e ∈ fl q (2 ^ qT q - 1)) {d : Nat} (hd : d ≤ 10000) (K : CSt → Int32 → Int32 → Int64 → Option CSt) (x2 : Int32) : ∀ (n m p : Nat), p + m = 33 → m < n → fS_findPointsNear_L28 N K n σ (nI d) x2 (some (pl q (2 ^ qT q - 1) e)) (lN (pmk lp e d p)) (nI p) = K σ (nI d) x2 (lN (pmk lp e d 33)) := by
  intro n
  induction n with
  | zero => intro m p _ h; omega
  | succ n ih =>
    intro m p hp hn
    rw [fS_findPointsNear_L28]
    cases m with
    | zero =>
      rw [if_pos (show (33 : Int32) ≤ nI p from nI_le (a := 33) (by omega) (by omega)), show p = 33 by omega]
    | succ m =>
      rw [if_neg (show ¬ (33 : Int32) ≤ nI p from nI_ge (b := 33) (by omega) (by omega)), onS, isNear_C hq h h30 he (by omega) hd, bs, nI_1, shL p (by omega), fa_orL]
      have e1 : pmk lp e d (p + 1) = pmk lp e d p ||| (if nrP lp e p d then 2 ^ p else 0) := rfl
      by_cases c : nrP lp e p d
      · rw [if_pos c, if_neg n10]
        rw [if_pos c] at e1
        rw [← e1]
        exact ih m (p + 1) (by omega) (by omega)
      · rw [if_neg c, if_pos rfl]
        rw [if_neg c, Nat.or_zero] at e1
        rw [← e1]
        exact ih m (p + 1) (by omega) (by omega)
theorem near_out {N : Nat} (hN : 40 ≤ N) {q : Qd} (hq : WfQ q) {lp : Nat → Nat} (h30 : ∀ p, p < 33 → lp p < 2 ^ 30) {E : List Ent} (hF : ∀ e, e ∈ E → e ∈ fl q (2 ^ qT q - 1)) (h16 : E.length ≤ 16) {d : Nat} (hd : d ≤ 10000) : ∀ (n m i : Nat) (σ : CSt), i + m = E.length → m < n → LpC q σ lp → Rw q σ E → (∀ j e, j < i → E[j]? = some e → σ.2.2.2.1 506 j = lN (pmk lp e d 33)) → ∃ σ', fS_findPointsNear_L2 N n σ (nI d) (nI i) = some σ' ∧ F6 σ σ' ∧ ∀ j e, E[j]? = some e → σ'.2.2.2.1 506 j = lN (pmk lp e d 33) := by
  intro n
  induction n with
  | zero => intro m i σ _ h; omega
  | succ n ih =>
    intro m i σ hi hn hL hR h6
    rw [fS_findPointsNear_L2, hR.1]
    cases m with
    | zero =>
      rw [if_pos (nI_le (by omega) (by omega))]
      exact ⟨σ, rfl, F6.refl σ, fun j e he => h6 j e (by have := (List.getElem?_eq_some_iff.mp he).1; omega) he⟩
    | succ m =>
      have he : E[i]? = some E[i] := List.getElem?_eq_getElem (by omega)
      generalize E[i] = e at he
      have hin := near_in (N := N) hq hL h30 (hF e (List.mem_of_getElem? he)) hd (fun (σ : CSt) (x1 : Int32) (x2 : Int32) (x4 : Int64) => chk x2 16 (fS_findPointsNear_L2 N n (cB σ 506 x2.toNatClampNeg x4) x1 (x2 + 1))) (nI i) N 33 0 (by omega) (by omega)
      rw [show lN (pmk lp e d 0) = (0 : Int64) from rfl, nI_0] at hin
      rw [if_neg (nI_ge (by omega) (by omega)), if_neg (show ¬ (16 : Int32) ≤ nI i from nI_ge (b := 16) (by omega) (by omega)), planOf_ok hR (by omega) he, bs, hin, chk_nI (by omega) (by omega), nI_cl (by omega), nI_1]
      have f1 : F6 σ (cB σ 506 i (lN (pmk lp e d 33))) := ⟨rfl, rfl, fun k hk => by rw [cB_4, if_neg hk], rfl⟩
      obtain ⟨σ', a1, a2, a3⟩ := ih m (i + 1) (cB σ 506 i (lN (pmk lp e d 33))) (by omega) (by omega) hL hR (by
        intro j f hj hf
        rw [cB_4, if_pos rfl, updL_at]
        by_cases c : j = i
        · rw [if_pos c]
          rw [c, he] at hf
          rw [Option.some.inj hf]
        · rw [if_neg c]; exact h6 j f (by omega) hf)
      exact ⟨σ', a1, f1.trans a2, a3⟩
/-- a set of spans is near enough everywhere -/
def En (lp : Nat → Nat) (E : List Ent) (d s : Nat) : Prop := ∀ p, p < 33 → ∃ i e, E[i]? = some e ∧ s.testBit i = true ∧ nrP lp e p d
theorem l33 : (8589934591 : Int64) = lN (2 ^ 33 - 1) := by decide +kernel
theorem enough_C {N : Nat} {q : Qd} {σ : CSt} {lp : Nat → Nat} {E : List Ent} {d s : Nat} (h16 : E.length ≤ 16) (hs : s < 2 ^ 16) (hR : Rw q σ E) (h6 : ∀ j e, E[j]? = some e → σ.2.2.2.1 506 j = lN (pmk lp e d 33)) : ∀ (n m i X : Nat), i + m = E.length → m < n → (∀ p, X.testBit p = true ↔ ∃ j e, j < i ∧ E[j]? = some e ∧ s.testBit j = true ∧ p < 33 ∧ nrP lp e p d) → (fS_isEnough_L5 N σ n (nI s) (lN X) (nI i) = some 1 ∧ En lp E d s) ∨ (fS_isEnough_L5 N σ n (nI s) (lN X) (nI i) = some 0 ∧ ¬ En lp E d s) := by
  intro n
  induction n with
  | zero => intro m i X _ h; omega
  | succ n ih =>
    intro m i X hi hn hX
    rw [fS_isEnough_L5, hR.1]
    cases m with
    | zero =>
      rw [if_pos (nI_le (by omega) (by omega))]
      have hlt : X < 2 ^ 33 := by
        refine Nat.lt_pow_two_of_testBit X ?_
        intro p hp
        cases hb : X.testBit p with
        | false => rfl
        | true =>
          obtain ⟨j, e, -, -, -, h, -⟩ := (hX p).mp hb
          omega
      have hall : X = 2 ^ 33 - 1 ↔ En lp E d s := by
        constructor
        · intro h p hp
          have : X.testBit p = true := by rw [h, Nat.testBit_two_pow_sub_one]; exact decide_eq_true hp
          obtain ⟨j, e, -, h1, h2, -, h3⟩ := (hX p).mp this
          exact ⟨j, e, h1, h2, h3⟩
        · intro h
          apply Nat.eq_of_testBit_eq
          intro p
          rw [Nat.testBit_two_pow_sub_one, Bool.eq_iff_iff, decide_eq_true_eq, hX]
          constructor
          · rintro ⟨j, e, -, -, -, h, -⟩
            exact h
          · intro hp
            obtain ⟨j, e, h1, h2, h3⟩ := h p hp
            exact ⟨j, e, by have := (List.getElem?_eq_some_iff.mp h1).1; omega, h1, h2, hp, h3⟩
      have hc : lg_cmp (lN X) (8589934591 : Int64) = 0 ↔ X = 2 ^ 33 - 1 := by
        rw [l33]
        exact cmp_eq0 (by omega) (by omega)
      by_cases c : X = 2 ^ 33 - 1
      · rw [if_pos (hc.mpr c)]; exact Or.inl ⟨rfl, hall.mp c⟩
      · rw [if_neg (fun h => c (hc.mp h))]; exact Or.inr ⟨rfl, fun h => c (hall.mpr h)⟩
    | succ m =>
      have he : E[i]? = some E[i] := List.getElem?_eq_getElem (by omega)
      generalize E[i] = e at he
      rw [if_neg (nI_ge (by omega) (by omega)), if_neg (show ¬ (16 : Int32) ≤ nI i from nI_ge (b := 16) (by omega) (by omega)), bit16 (by omega) (by omega), nI_1]
      by_cases c : s.testBit i = true
      · rw [if_pos c, if_neg n10, chk_nI (by omega) (by omega), nI_cl (by omega), h6 i e he, fa_orL]
        refine ih m (i + 1) _ (by omega) (by omega) ?_
        intro p
        rw [Nat.testBit_or, Bool.or_eq_true, hX, pmk_bit, decide_eq_true_eq]
        constructor
        · rintro (⟨j, f, h1, h2⟩ | h)
          · exact ⟨j, f, by omega, h2⟩
          · exact ⟨i, e, by omega, he, c, h⟩
        · rintro ⟨j, f, h1, h2, h3, h4⟩
          by_cases g : j = i
          · rw [g, he] at h2
            rw [← Option.some.inj h2] at h4
            exact Or.inr h4
          · exact Or.inl ⟨j, f, by omega, h2, h3, h4⟩
      · rw [if_neg c, if_pos rfl]
        refine ih m (i + 1) X (by omega) (by omega) ?_
        intro p
        rw [hX]
        constructor
        · rintro ⟨j, f, h1, h2⟩
          exact ⟨j, f, by omega, h2⟩
        · rintro ⟨j, f, h1, h2, h3, h4⟩
          by_cases g : j = i
          · rw [g] at h3; exact absurd h3 c
          · exact ⟨j, f, by omega, h2, h3, h4⟩
theorem i33 : (33 : Int32) = nI 33 := rfl
theorem enough_in {N : Nat} {τ : MSt} {lp : Nat → Nat} {E : List Ent} {d s p : Nat} (h16 : E.length ≤ 16) (hs : s < 2 ^ 16) (hp : p < 33) (h26 : τ.1 26 = nI E.length) (h28 : ∀ j e, E[j]? = some e → τ.2.2.1 28 (33 * j + p) = if nrP lp e p d then 1 else 0) (K : Int32 → Int32 → Int32 → Option Int32) : ∀ (n m i : Nat) (x3 : Int32), i + m = E.length → m < n → ((x3 = 1 ∧ ∃ j e, j < i ∧ E[j]? = some e ∧ s.testBit j = true ∧ nrP lp e p d) ∨ (x3 = 0 ∧ ¬ ∃ j e, j < i ∧ E[j]? = some e ∧ s.testBit j = true ∧ nrP lp e p d)) → ∃ y : Int32, fM_isEnough_L13 N τ K n (nI s) (nI p) x3 (nI i) = K (nI s) (nI p) y ∧ ((y = 1 ∧ ∃ j e, E[j]? = some e ∧ s.testBit j = true ∧ nrP lp e p d) ∨ (y = 0 ∧ ¬ ∃ j e, E[j]? = some e ∧ s.testBit j = true ∧ nrP lp e p d)) := by
  intro n
  induction n with
  | zero => intro m i x3 _ h; omega
  | succ n ih =>
    intro m i x3 hi hn hx
    rw [fM_isEnough_L13, h26]
    cases m with
    | zero =>
      rw [if_pos (nI_le (by omega) (by omega))]
      refine ⟨x3, rfl, ?_⟩
      rcases hx with ⟨h1, j, e, -, h2⟩ | ⟨h1, h2⟩
      · exact Or.inl ⟨h1, j, e, h2⟩
      · refine Or.inr ⟨h1, ?_⟩
        rintro ⟨j, e, h3, h4⟩
        exact h2 ⟨j, e, by have := (List.getElem?_eq_some_iff.mp h3).1; omega, h3, h4⟩
    | succ m =>
      have he : E[i]? = some E[i] := List.getElem?_eq_getElem (by omega)
      generalize E[i] = e at he
      rw [if_neg (nI_ge (by omega) (by omega)), bit16 (by omega) (by omega), nI_1, i33, nI_mul, nI_add]
      have no : (¬ ∃ j e, j < i ∧ E[j]? = some e ∧ s.testBit j = true ∧ nrP lp e p d) → ¬ (s.testBit i = true ∧ nrP lp e p d) → ¬ ∃ j e, j < i + 1 ∧ E[j]? = some e ∧ s.testBit j = true ∧ nrP lp e p d := by
        rintro h1 h2 ⟨j, f, h3, h4, h5, h6⟩
        by_cases g : j = i
        · rw [g, he] at h4
          rw [g] at h5
          rw [← Option.some.inj h4] at h6
          exact h2 ⟨h5, h6⟩
        · exact h1 ⟨j, f, by omega, h4, h5, h6⟩
      rcases hx with ⟨h1, j, f, h2, h3⟩ | ⟨h1, h2⟩
      · rw [h1, if_neg n10]
        exact ih m (i + 1) 1 (by omega) (by omega) (Or.inl ⟨rfl, j, f, by omega, h3⟩)
      · rw [h1, if_pos rfl]
        by_cases c : s.testBit i = true
        · rw [if_pos c, if_pos rfl, chk_nI (by omega) (by omega), nI_cl (by omega), h28 i e he]
          by_cases g : nrP lp e p d
          · rw [if_pos g, if_neg n10]
            exact ih m (i + 1) 1 (by omega) (by omega) (Or.inl ⟨rfl, i, e, by omega, he, c, g⟩)
          · rw [if_neg g, if_pos rfl]
            exact ih m (i + 1) 0 (by omega) (by omega) (Or.inr ⟨rfl, no h2 (fun h => g h.2)⟩)
        · rw [if_neg c, if_neg (by decide)]
          exact ih m (i + 1) 0 (by omega) (by omega) (Or.inr ⟨rfl, no h2 (fun h => c h.1)⟩)
theorem enough_M {N : Nat} (hN : 40 ≤ N) {τ : MSt} {lp : Nat → Nat} {E : List Ent} {d s : Nat} (h16 : E.length ≤ 16) (hs : s < 2 ^ 16) (h26 : τ.1 26 = nI E.length) (h28 : ∀ p j e, p < 33 → E[j]? = some e → τ.2.2.1 28 (33 * j + p) = if nrP lp e p d then 1 else 0) : ∀ (n m p : Nat), p + m = 33 → m < n → (∀ r, r < p → ∃ j e, E[j]? = some e ∧ s.testBit j = true ∧ nrP lp e r d) → (fM_isEnough_L2 N τ n (nI s) (nI p) = some 1 ∧ En lp E d s) ∨ (fM_isEnough_L2 N τ n (nI s) (nI p) = some 0 ∧ ¬ En lp E d s) := by
  intro n
  induction n with
  | zero => intro m p _ h; omega
  | succ n ih =>
    intro m p hp hn hr
    rw [fM_isEnough_L2]
    cases m with
    | zero =>
      rw [if_pos (show (32 : Int32) < nI p from nI_lt (a := 32) (by omega) (by omega))]
      exact Or.inl ⟨rfl, fun r h => hr r (by omega)⟩
    | succ m =>
      rw [if_neg (show ¬ (32 : Int32) < nI p from nI_nlt (a := 32) (by omega) (by omega))]
      obtain ⟨y, h1, h2⟩ := enough_in (N := N) h16 hs (show p < 33 by omega) h26 (fun j e he => h28 p j e (by omega) he) (fun (x1 : Int32) (x2 : Int32) (x3 : Int32) => (if x3 = 0 then some (0 : Int32) else fM_isEnough_L2 N τ n x1 (x2 + 1))) N E.length 0 0 (by omega) (by omega) (Or.inr ⟨rfl, by rintro ⟨j, e, h, -⟩; omega⟩)
      rw [nI_0] at h1
      rw [h1]
      rcases h2 with ⟨rfl, h3⟩ | ⟨rfl, h3⟩
      · rw [if_neg n10, nI_1]
        refine ih m (p + 1) (by omega) (by omega) ?_
        intro r hrp
        by_cases g : r = p
        · rw [g]; exact h3
        · exact hr r (by omega)
      · rw [if_pos rfl]
        exact Or.inr ⟨rfl, fun h => h3 (h p (by omega))⟩
