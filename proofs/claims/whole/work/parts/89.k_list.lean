/-! the reference's list of entries -/
theorem sB_1 (τ : MSt) (k i : Nat) (v : Int64) : (sB τ k i v).1 = τ.1 := rfl
theorem sB_2 (τ : MSt) (k i : Nat) (v : Int64) : (sB τ k i v).2.1 = τ.2.1 := rfl
theorem sB_3 (τ : MSt) (k i : Nat) (v : Int64) : (sB τ k i v).2.2.1 = τ.2.2.1 := rfl
theorem sB_4 (τ : MSt) (k i j : Nat) (v : Int64) : (sB τ k i v).2.2.2 j = if j = k then vp_updL (τ.2.2.2 k) i v else τ.2.2.2 j := rfl
theorem sJ_1 (τ : MSt) (k : Nat) (v : Int64) : (sJ τ k v).1 = τ.1 := rfl
theorem sJ_2 (τ : MSt) (k j : Nat) (v : Int64) : (sJ τ k v).2.1 j = if j = k then v else τ.2.1 j := rfl
theorem sJ_3 (τ : MSt) (k : Nat) (v : Int64) : (sJ τ k v).2.2 = τ.2.2 := rfl
/-- entry i of the reference's rows is e -/
def At (τ : MSt) (i : Nat) (e : Ent) : Prop := τ.2.2.1 17 i = nI (eC e) ∧ τ.2.2.1 18 i = nI (eL e) ∧ τ.2.2.1 19 i = eK e ∧ τ.2.2.2 20 i = lN (eA e) ∧ τ.2.2.2 21 i = lN (eB e)
def Ls (L : List Ent) (τ : MSt) : Prop := τ.1 22 = nI L.length ∧ ∀ i e, L[i]? = some e → At τ i e
/-- what else stays -/
def Fr (τ τ' : MSt) : Prop := (∀ k, k ≠ 22 → τ'.1 k = τ.1 k) ∧ (∀ k, k ≠ 14 → k ≠ 15 → τ'.2.1 k = τ.2.1 k) ∧ (∀ k, k ≠ 16 → k ≠ 17 → k ≠ 18 → k ≠ 19 → τ'.2.2.1 k = τ.2.2.1 k) ∧ ∀ k, k ≠ 20 → k ≠ 21 → τ'.2.2.2 k = τ.2.2.2 k
/-- the same, and the starts stay -/
def Fk (τ τ' : MSt) : Prop := Fr τ τ' ∧ τ'.2.2.1 16 = τ.2.2.1 16
theorem Fr.refl (τ : MSt) : Fr τ τ := ⟨fun _ _ => rfl, fun _ _ _ => rfl, fun _ _ _ _ _ => rfl, fun _ _ _ => rfl⟩
theorem Fr.trans {a b c : MSt} (h : Fr a b) (g : Fr b c) : Fr a c := ⟨fun k h1 => (g.1 k h1).trans (h.1 k h1), fun k h1 h2 => (g.2.1 k h1 h2).trans (h.2.1 k h1 h2), fun k h1 h2 h3 h4 => (g.2.2.1 k h1 h2 h3 h4).trans (h.2.2.1 k h1 h2 h3 h4), fun k h1 h2 => (g.2.2.2 k h1 h2).trans (h.2.2.2 k h1 h2)⟩
theorem Fk.refl (τ : MSt) : Fk τ τ := ⟨Fr.refl τ, rfl⟩
theorem Fk.trans {a b c : MSt} (h : Fk a b) (g : Fk b c) : Fk a c := ⟨h.1.trans g.1, g.2.trans h.2⟩
theorem MQd_Fr {q : Qd} {τ τ' : MSt} (h : Fr τ τ') (hM : MQd q τ) : MQd q τ' := by
  obtain ⟨h1, -, h3, -⟩ := h
  have e0 := h1 0 (by omega)
  have e1 := h1 1 (by omega)
  have e2 := h1 2 (by omega)
  have e3 := h1 3 (by omega)
  have f4 := h3 4 (by omega) (by omega) (by omega) (by omega)
  have f5 := h3 5 (by omega) (by omega) (by omega) (by omega)
  have f6 := h3 6 (by omega) (by omega) (by omega) (by omega)
  have f7 := h3 7 (by omega) (by omega) (by omega) (by omega)
  have f8 := h3 8 (by omega) (by omega) (by omega) (by omega)
  have f9 := h3 9 (by omega) (by omega) (by omega) (by omega)
  have f10 := h3 10 (by omega) (by omega) (by omega) (by omega)
  unfold MQd at hM ⊢
  rw [e0, e1, e2, e3, f4, f5, f6, f7, f8, f9, f10]
  exact hM
theorem Fr_J {τ : MSt} (x y : Int64) : Fk τ (sJ (sJ τ 14 x) 15 y) := ⟨⟨fun _ _ => rfl, fun k h1 h2 => by rw [sJ_2, if_neg h2, sJ_2, if_neg h1], fun _ _ _ _ _ => rfl, fun _ _ _ => rfl⟩, rfl⟩
theorem Ls_J {L : List Ent} {τ : MSt} (x y : Int64) (h : Ls L τ) : Ls L (sJ (sJ τ 14 x) 15 y) := h
def addS (τ : MSt) (i : Nat) (c l k : Int32) (x y : Int64) : MSt := sI (sB (sB (sA (sA (sA τ 17 i c) 18 i l) 19 i k) 20 i x) 21 i y) 22 (nI (i + 1))
theorem add_eq {N : Nat} {τ : MSt} {i : Nat} (h : τ.1 22 = nI i) (hi : i < 5000) (c l k : Int32) (x y : Int64) : fM_add N τ c l k x y = some (addS τ i c l k x y) := by
  unfold fM_add
  simp only [sA_1, sB_1, h, chk_nI hi (by omega), nI_cl (show i < 2 ^ 31 by omega), nI_1]
  rfl
theorem add_Fk (τ : MSt) (i : Nat) (c l k : Int32) (x y : Int64) : Fk τ (addS τ i c l k x y) := by
  unfold addS
  refine ⟨⟨?_, ?_, ?_, ?_⟩, ?_⟩
  · intro j h
    rw [sI_1, if_neg h]
    rfl
  · intro j _ _
    rfl
  · intro j _ h1 h2 h3
    rw [sI_2, sB_3, sB_3, sA_3, if_neg h3, sA_3, if_neg h2, sA_3, if_neg h1]
  · intro j h1 h2
    rw [sI_2, sB_4, if_neg h2, sB_4, if_neg h1]
    rfl
  · rfl
theorem add_Ls {τ : MSt} {L : List Ent} (h : Ls L τ) (e : Ent) : Ls (L ++ [e]) (addS τ L.length (nI (eC e)) (nI (eL e)) (eK e) (lN (eA e)) (lN (eB e))) := by
  refine ⟨by rw [List.length_append]; rfl, ?_⟩
  intro i e' hi
  have a17 : ∀ (c l k : Int32) (x y : Int64) (n : Nat), (addS τ n c l k x y).2.2.1 17 i = if i = n then c else τ.2.2.1 17 i := fun c l k x y n => upd_at _ _ _ _
  have a18 : ∀ (c l k : Int32) (x y : Int64) (n : Nat), (addS τ n c l k x y).2.2.1 18 i = if i = n then l else τ.2.2.1 18 i := fun c l k x y n => upd_at _ _ _ _
  have a19 : ∀ (c l k : Int32) (x y : Int64) (n : Nat), (addS τ n c l k x y).2.2.1 19 i = if i = n then k else τ.2.2.1 19 i := fun c l k x y n => upd_at _ _ _ _
  have a20 : ∀ (c l k : Int32) (x y : Int64) (n : Nat), (addS τ n c l k x y).2.2.2 20 i = if i = n then x else τ.2.2.2 20 i := fun c l k x y n => updL_at _ _ _ _
  have a21 : ∀ (c l k : Int32) (x y : Int64) (n : Nat), (addS τ n c l k x y).2.2.2 21 i = if i = n then y else τ.2.2.2 21 i := fun c l k x y n => updL_at _ _ _ _
  unfold At
  rw [a17, a18, a19, a20, a21]
  by_cases g : i = L.length
  · subst g
    rw [List.getElem?_append_right (Nat.le_refl _), Nat.sub_self] at hi
    have hi : e = e' := by simpa using hi
    subst hi
    rw [if_pos rfl, if_pos rfl, if_pos rfl, if_pos rfl, if_pos rfl]
    exact ⟨rfl, rfl, rfl, rfl, rfl⟩
  · have hlt : i < L.length := by
      have := (List.getElem?_eq_some_iff.mp hi).1
      rw [List.length_append, List.length_singleton] at this
      omega
    rw [List.getElem?_append_left hlt] at hi
    simp only [if_neg g]
    exact h.2 i e' hi
/-! bits, digits -/
theorem bits_B : ((List.range 16).all fun S => decide (fM_bits 6 (fun _ => 0, fun _ => 0, fun _ _ => 0, fun _ _ => 0) (nI S) = some (nI (bc S)))) = true := by decide +kernel
theorem bits_more {N : Nat} {τ : MSt} : ∀ (n m : Nat) (x y : Int32) (r : Int32), n ≤ m → fM_bits_L4 6 (fun _ => 0, fun _ => 0, fun _ _ => 0, fun _ _ => 0) n x y = some r → fM_bits_L4 N τ m x y = some r := by
  intro n
  induction n with
  | zero => intro m x y r _ h; cases h
  | succ n ih =>
    intro m x y r hm h
    obtain ⟨m, rfl⟩ : ∃ k, m = k + 1 := ⟨m - 1, by omega⟩
    rw [fM_bits_L4] at h ⊢
    by_cases g : y = 0
    · rw [if_pos g] at h ⊢; exact h
    · rw [if_neg g] at h ⊢; exact ih m _ _ r (by omega) h
theorem bits_ok {N : Nat} (hN : 6 ≤ N) {τ : MSt} {S : Nat} (hS : S < 16) : fM_bits N τ (nI S) = some (nI (bc S)) := by
  have g := bits_B
  simp only [List.all_eq_true, List.mem_range, decide_eq_true_eq] at g
  exact bits_more 6 N _ _ _ hN (g S hS)
theorem bc_pos : ∀ S, S < 16 → 0 < S → 0 < bc S := by decide +kernel
theorem dg_I : ∀ S, S < 16 → 0 < S → ((2 : Int32) * nI (bc S)) - (1 : Int32) = nI (dg S) := by decide +kernel
theorem digits_ok {N : Nat} (hN : 6 ≤ N) {τ : MSt} {S : Nat} (hS : S < 16) (h0 : 0 < S) : fM_digits N τ (nI S) = some (nI (dg S)) := by
  unfold fM_digits
  rw [bits_ok hN hS, bs, dg_I S hS h0]
theorem sh8 : ∀ d, d < 9 → ((((3 : Int32) * nI d) &&& 31).toBitVec.smod 32).toNat = 3 * d := by decide +kernel
theorem shifted_ok {N : Nat} {τ : MSt} {c d : Nat} (hd : d < 9) (h : c * 8 ^ d < 2 ^ 32) : fM_shifted N τ (nI c) (nI d) = some (nI (c * 8 ^ d)) := by
  unfold fM_shifted
  have e : (8 : Nat) ^ d = 2 ^ (3 * d) := by rw [Nat.pow_mul]
  rw [e] at h ⊢
  rw [pk_shlN _ _ (sh8 d hd) h]
