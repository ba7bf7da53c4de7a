/-! entries: codes, lengths, bounds -/
theorem fm_len {α β γ : Type} (f : α → β → γ) (M : List β) : ∀ L : List α, (L.flatMap fun a => M.map fun b => f a b).length = L.length * M.length := by
  intro L
  induction L with
  | nil => exact (Nat.zero_mul _).symm
  | cons a L ih =>
    rw [List.flatMap_cons, List.length_append, ih, List.length_map, List.length_cons, Nat.succ_mul, Nat.add_comm]
theorem kb_len (q : Qd) (E : Nat → List Ent) (l r k : Nat) : (kb q E l r k).length = (E l).length * (E r).length := fm_len _ _ _
theorem akb_len (E : Nat → List Nat) (l r k : Nat) : (akb E l r k).length = (E l).length * (E r).length := fm_len _ _ _
theorem blk_len (q : Qd) (E : Nat → List Ent) (S l : Nat) : (blk q E S l).length = if okB q S l = true then 3 * (E l).length * (E (S - l)).length else 0 := by
  unfold blk
  by_cases h : okB q S l = true
  · rw [if_pos h, if_pos h, List.length_append, List.length_append, kb_len, kb_len, kb_len, Nat.mul_assoc]
    omega
  · rw [if_neg h, if_neg h]; rfl
theorem blk_le {q : Qd} {E : Nat → List Ent} {F : Nat → List Nat} (h : ∀ l, (E l).length ≤ (F l).length) (S l : Nat) : (blk q E S l).length ≤ (ablk F S l).length := by
  rw [blk_len]
  unfold ablk
  by_cases g : okB q S l = true
  · rw [if_pos g, if_pos (okB_ok g).1, List.length_append, List.length_append, akb_len, akb_len, akb_len, Nat.mul_assoc]
    have := Nat.mul_le_mul (h l) (h (S - l))
    omega
  · rw [if_neg g]; exact Nat.zero_le _
theorem jl_le {q : Qd} {E : Nat → List Ent} {F : Nat → List Nat} (h : ∀ l, (E l).length ≤ (F l).length) (S : Nat) : ∀ n, (jl q E S n).length ≤ (ajl F S n).length := by
  intro n
  induction n with
  | zero => exact Nat.le_refl _
  | succ n ih =>
    show (jl q E S n ++ blk q E S n).length ≤ (ajl F S n ++ ablk F S n).length
    rw [List.length_append, List.length_append]
    exact Nat.add_le_add ih (blk_le h S n)
theorem rl_mono (q : Qd) (S : Nat) : ∀ n m, n ≤ m → (rl q S n).length ≤ (arl S m).length := by
  intro n m
  induction m generalizing n with
  | zero => intro h; rw [show n = 0 by omega]; exact Nat.le_refl _
  | succ m ih =>
    intro h
    show _ ≤ (arl S m ++ (if S = 2 ^ m then [m] else [])).length
    rw [List.length_append]
    by_cases e : n = m + 1
    · subst e
      show (rl q S m ++ (if S = 2 ^ m then [rd q m] else [])).length ≤ _
      rw [List.length_append]
      have := ih m (Nat.le_refl _)
      by_cases g : S = 2 ^ m
      · rw [if_pos g, if_pos g]; exact Nat.add_le_add this (Nat.le_refl _)
      · rw [if_neg g, if_neg g]; exact Nat.add_le_add this (Nat.le_refl _)
    · have := ih n (by omega)
      omega
theorem ents_len {q : Qd} (hq : WfQ q) : ∀ f S, (ents q f S).length ≤ (acd f S).length := by
  intro f
  induction f with
  | zero => intro S; exact Nat.le_refl _
  | succ f ih =>
    intro S
    show (rl q S (qT q) ++ jl q (ents q f) S S).length ≤ (arl S 4 ++ ajl (acd f) S S).length
    rw [List.length_append, List.length_append]
    exact Nat.add_le_add (rl_mono q S _ _ hq.1) (jl_le ih S S)
theorem mem_akb {E : Nat → List Nat} {l r k a b : Nat} (ha : a ∈ E l) (hb : b ∈ E r) : mkc k l a r b ∈ akb E l r k := by
  unfold akb
  exact List.mem_flatMap.mpr ⟨a, ha, List.mem_map.mpr ⟨b, hb, rfl⟩⟩
theorem mem_ablk {E : Nat → List Nat} {S l k a b : Nat} (h : sub1 S l = true) (hk : k < 3) (ha : a ∈ E l) (hb : b ∈ E (S - l)) : mkc k l a (S - l) b ∈ ablk E S l := by
  unfold ablk
  rw [if_pos h, List.mem_append, List.mem_append]
  rcases (show k = 0 ∨ k = 1 ∨ k = 2 by omega) with rfl | rfl | rfl
  · exact Or.inl (mem_akb ha hb)
  · exact Or.inr (Or.inl (mem_akb ha hb))
  · exact Or.inr (Or.inr (mem_akb ha hb))
theorem mem_ajl {E : Nat → List Nat} {S l : Nat} {c : Nat} (h : c ∈ ablk E S l) : ∀ n, l < n → c ∈ ajl E S n := by
  intro n
  induction n with
  | zero => intro h; omega
  | succ n ih =>
    intro hl
    show c ∈ ajl E S n ++ ablk E S n
    rw [List.mem_append]
    by_cases e : l = n
    · subst e; exact Or.inr h
    · exact Or.inl (ih (by omega))
theorem mem_arl {S t : Nat} (h : S = 2 ^ t) : ∀ n, t < n → t ∈ arl S n := by
  intro n
  induction n with
  | zero => intro h; omega
  | succ n ih =>
    intro hl
    show t ∈ arl S n ++ (if S = 2 ^ n then [n] else [])
    rw [List.mem_append]
    by_cases e : t = n
    · subst e; right; rw [if_pos h]; exact List.mem_singleton.mpr rfl
    · exact Or.inl (ih (by omega))
theorem ents_acd {q : Qd} (hq : WfQ q) : ∀ f S e, e ∈ ents q f S → eC e ∈ acd f S := by
  have hT := hq.1
  intro f
  induction f with
  | zero => intro S e h; exact absurd h List.not_mem_nil
  | succ f ih =>
    intro S e h
    show eC e ∈ arl S 4 ++ ajl (acd f) S S
    rw [List.mem_append]
    have h : e ∈ rl q S (qT q) ++ jl q (ents q f) S S := h
    rcases List.mem_append.mp h with g | g
    · obtain ⟨t, ht, hs, rfl⟩ := (mem_rl _).mp g
      exact Or.inl (mem_arl hs 4 (by omega))
    · obtain ⟨l, hl, g⟩ := (mem_jl _).mp g
      obtain ⟨ho, k, hk, a, ha, b, hb, rfl⟩ := mem_blk.mp g
      exact Or.inr (mem_ajl (mem_ablk (okB_ok ho).1 hk (ih l a ha) (ih _ b hb)) S hl)
theorem dcd_ok {S l k a b : Nat} (hS : S < 16) (h : sub1 S l = true) (hk : k < 3) (ha : a ∈ acd 4 l) (hb : b ∈ acd 4 (S - l)) : dcd (dg S) (mkc k l a (S - l) b) = (k, l, a, b) := by
  have g := dcdB
  simp only [List.all_eq_true, List.mem_range] at g
  have g := g S hS l (sub1_ok h).2.1
  rw [h, Bool.not_true, Bool.false_or] at g
  simp only [List.all_eq_true, List.mem_range] at g
  exact eq_of_beq (g k hk a ha b hb)
theorem pow_no_sub : ∀ t, t < 4 → ∀ l, l < 16 → sub1 (2 ^ t) l = false := by decide +kernel
theorem pow2_inj : ∀ t, t < 4 → ∀ u, u < 4 → 2 ^ t = 2 ^ u → t = u := by decide +kernel
/-- a code has one entry -/
theorem ent_inj {q : Qd} (hq : WfQ q) : ∀ n S, S ≤ n → S < 16 → ∀ e e', e ∈ PE q S → e' ∈ PE q S → eC e = eC e' → e = e' := by
  have hT := hq.1
  intro n
  induction n with
  | zero =>
    intro S h0 hS e e' h
    rw [show S = 0 by omega, show PE q 0 = [] from ents_0 q 4] at h
    exact absurd h List.not_mem_nil
  | succ n ih =>
    intro S hn hS e e' h h' hc
    rcases (mem_PE hS).mp h with ⟨t, ht, hs, rfl⟩ | ⟨l, ho, k, hk, a, ha, b, hb, rfl⟩
    · rcases (mem_PE hS).mp h' with ⟨t', ht', hs', rfl⟩ | ⟨l, ho, k, hk, a, ha, b, hb, rfl⟩
      · rw [pow2_inj t (by omega) t' (by omega) (by rw [← hs, ← hs'])]
      · have g := (okB_ok ho).1
        have hl := (sub1_ok g).2.1
        rw [hs, pow_no_sub t (by omega) l (by omega)] at g
        exact absurd g (by decide)
    · rcases (mem_PE hS).mp h' with ⟨t', ht', hs', rfl⟩ | ⟨l', ho', k', hk', a', ha', b', hb', rfl⟩
      · have g := (okB_ok ho).1
        have hl := (sub1_ok g).2.1
        rw [hs', pow_no_sub t' (by omega) l (by omega)] at g
        exact absurd g (by decide)
      · have d := dcd_ok hS (okB_ok ho).1 hk (ents_acd hq 4 _ a ha) (ents_acd hq 4 _ b hb)
        have d' := dcd_ok hS (okB_ok ho').1 hk' (ents_acd hq 4 _ a' ha') (ents_acd hq 4 _ b' hb')
        have hc : mkc k l (eC a) (S - l) (eC b) = mkc k' l' (eC a') (S - l') (eC b') := hc
        rw [hc, d'] at d
        have e1 : k' = k := congrArg Prod.fst d
        have e2 : l' = l := congrArg (fun x => x.2.1) d
        have e3 : eC a' = eC a := congrArg (fun x => x.2.2.1) d
        have e4 : eC b' = eC b := congrArg (fun x => x.2.2.2) d
        subst e1 e2
        have hl := sub1_ok (okB_ok ho).1
        rw [ih l' (by omega) (by omega) a a' ha ha' e3.symm, ih (S - l') (by omega) (by omega) b b' hb hb' e4.symm]
theorem PE_inj {q : Qd} (hq : WfQ q) {S : Nat} (hS : S < 16) {e e' : Ent} (h : e ∈ PE q S) (h' : e' ∈ PE q S) (hc : eC e = eC e') : e = e' := ent_inj hq S S (Nat.le_refl _) hS e e' h h' hc
def acdLt (S : Nat) : Bool := (acd 4 S).all fun c => decide (c < 8 ^ dg S)
theorem acdLtB : ((List.range 16).all acdLt) = true := by decide +kernel
theorem eC_lt {q : Qd} (hq : WfQ q) {S : Nat} (hS : S < 16) {e : Ent} (h : e ∈ PE q S) : eC e < 8 ^ dg S := by
  have g := acdLtB
  simp only [List.all_eq_true, List.mem_range] at g
  have g := g S hS
  unfold acdLt at g
  simp only [List.all_eq_true] at g
  exact of_decide_eq_true (g _ (ents_acd hq 4 _ e h))
theorem dg_le : ∀ S, S < 16 → dg S ≤ 7 := by decide +kernel
theorem eC_lt7 {q : Qd} (hq : WfQ q) {S : Nat} (hS : S < 16) {e : Ent} (h : e ∈ PE q S) : eC e < 2097152 := Nat.lt_of_lt_of_le (eC_lt hq hS h) (Nat.pow_le_pow_right (n := 8) (by omega) (dg_le S hS))
