/-! the runner's stack, both sides; reading a table -/
abbrev Stk : Type := List (Nat × List Nat)
def tt : Stk → Nat
  | [] => 0
  | x :: R => tt R + x.2.length
def CS : Stk → CSt → Prop
  | [], σ => σ.2.2.1 404 0 = nI 0
  | x :: R, σ => CS R σ ∧ σ.2.2.1 405 R.length = nI x.1 ∧ σ.2.2.1 404 (R.length + 1) = nI (tt R + x.2.length) ∧ Seg (σ.2.2.1 402) (tt R) x.2
def MS : Stk → MSt → Prop
  | [], _ => True
  | x :: R, τ => MS R τ ∧ τ.2.2.1 30 R.length = nI x.2.length ∧ τ.2.2.1 31 R.length = nI x.1 ∧ ML τ (82944 * R.length) x.1 x.2
theorem CS_top {SL : Stk} {σ : CSt} (h : CS SL σ) : σ.2.2.1 404 SL.length = nI (tt SL) := by
  cases SL with
  | nil => exact h
  | cons x R => exact h.2.2.1
theorem CS_0 : ∀ {SL : Stk} {σ : CSt}, CS SL σ → σ.2.2.1 404 0 = nI 0 := by
  intro SL
  induction SL with
  | nil => intro σ h; exact h
  | cons x R ih => intro σ h; exact ih h.1
theorem CS_eq : ∀ {SL : Stk} {σ σ' : CSt}, (∀ j, j ≤ SL.length → σ'.2.2.1 404 j = σ.2.2.1 404 j) → (∀ j, j < SL.length → σ'.2.2.1 405 j = σ.2.2.1 405 j) → (∀ j, j < tt SL → σ'.2.2.1 402 j = σ.2.2.1 402 j) → CS SL σ → CS SL σ' := by
  intro SL
  induction SL with
  | nil => intro σ σ' h1 _ _ h; show σ'.2.2.1 404 0 = nI 0; rw [h1 0 (Nat.le_refl _)]; exact h
  | cons x R ih =>
    intro σ σ' h1 h2 h3 h
    have e : tt (x :: R) = tt R + x.2.length := rfl
    rw [List.length_cons] at h1 h2
    refine ⟨ih (fun j hj => h1 j (by omega)) (fun j hj => h2 j (by omega)) (fun j hj => h3 j (by omega)) h.1, by rw [h2 _ (by omega)]; exact h.2.1, by rw [h1 _ (by omega)]; exact h.2.2.1, ?_⟩
    exact Seg_eq (fun j _ hj => h3 j (by omega)) h.2.2.2
theorem ML_eq {τ τ' : MSt} {b S : Nat} {L : List Nat} (h : ∀ j, b ≤ j → j < b + 4 * L.length → τ'.2.2.1 29 j = τ.2.2.1 29 j) (hM : ML τ b S L) : ML τ' b S L := by
  intro i v k hi hk
  have hl := (List.getElem?_eq_some_iff.mp hi).1
  rw [h _ (by omega) (by omega)]
  exact hM i v k hi hk
theorem MS_eq : ∀ {SL : Stk} {τ τ' : MSt}, (∀ x, x ∈ SL → x.2.length ≤ 4096) → (∀ j, j < SL.length → τ'.2.2.1 30 j = τ.2.2.1 30 j) → (∀ j, j < SL.length → τ'.2.2.1 31 j = τ.2.2.1 31 j) → (∀ j, j < 82944 * SL.length → τ'.2.2.1 29 j = τ.2.2.1 29 j) → MS SL τ → MS SL τ' := by
  intro SL
  induction SL with
  | nil => intro τ τ' _ _ _ _ _; trivial
  | cons x R ih =>
    intro τ τ' hl h1 h2 h3 h
    have hx := hl x List.mem_cons_self
    rw [List.length_cons] at h1 h2 h3
    refine ⟨ih (fun y hy => hl y (List.mem_cons_of_mem _ hy)) (fun j hj => h1 j (by omega)) (fun j hj => h2 j (by omega)) (fun j hj => h3 j (by omega)) h.1, by rw [h1 _ (by omega)]; exact h.2.1, by rw [h2 _ (by omega)]; exact h.2.2.1, ?_⟩
    exact ML_eq (fun j _ hj => h3 j (by omega)) h.2.2.2
/-- the runner's own numbers change -/
def GR (σ σ' : CSt) : Prop := (∀ k, k ≠ 400 → k ≠ 409 → k ≠ 410 → σ'.1 k = σ.1 k) ∧ (∀ k, (k < 402 ∨ 408 < k) → σ'.2.2.1 k = σ.2.2.1 k) ∧ σ'.2.2.2 = σ.2.2.2
theorem GR.refl (σ : CSt) : GR σ σ := ⟨fun _ _ _ _ => rfl, fun _ _ => rfl, rfl⟩
theorem GR.trans {a b c : CSt} (h : GR a b) (g : GR b c) : GR a c := ⟨fun k h1 h2 h3 => (g.1 k h1 h2 h3).trans (h.1 k h1 h2 h3), fun k h1 => (g.2.1 k h1).trans (h.2.1 k h1), g.2.2.trans h.2.2⟩
theorem CQd_GR {q : Qd} {σ σ' : CSt} (h : GR σ σ') (hC : CQd q σ) : CQd q σ' := CQd_same (fun k h1 h2 => h.1 k (by omega) (by omega) (by omega)) (fun k h1 h2 => h.2.1 k (by omega)) hC
theorem G1.GR {r : Nat} (hr : 402 ≤ r ∧ r ≤ 408) {σ σ' : CSt} (h : G1 r σ σ') : GR σ σ' := ⟨fun k _ _ _ => by rw [h.1], fun k hk => h.2.2.1 k (by omega), h.2.2.2⟩
theorem GS.GR {σ σ' : CSt} (h : GS σ σ') : GR σ σ' := ⟨fun k _ _ _ => by rw [h.1], fun k hk => h.2.1 k (by omega) (by omega) (by omega) (by omega), h.2.2⟩
/-- the reference's run numbers change -/
def HR (τ τ' : MSt) : Prop := (∀ k, k ≤ 26 → τ'.1 k = τ.1 k) ∧ ∀ k, k ≤ 28 → τ'.2.2.1 k = τ.2.2.1 k
theorem HR.refl (τ : MSt) : HR τ τ := ⟨fun _ _ => rfl, fun _ _ => rfl⟩
theorem HR.trans {a b c : MSt} (h : HR a b) (g : HR b c) : HR a c := ⟨fun k h1 => (g.1 k h1).trans (h.1 k h1), fun k h1 => (g.2 k h1).trans (h.2 k h1)⟩
theorem MQd_HR {q : Qd} {τ τ' : MSt} (h : HR τ τ') (hM : MQd q τ) : MQd q τ' := by
  unfold MQd at hM ⊢
  rw [h.1 0 (by omega), h.1 1 (by omega), h.1 2 (by omega), h.1 3 (by omega), h.2 4 (by omega), h.2 5 (by omega), h.2 6 (by omega), h.2 7 (by omega), h.2 8 (by omega), h.2 9 (by omega), h.2 10 (by omega)]
  exact hM
/-- the rows of a table, as combinations -/
def rds (q : Qd) (t : Nat) : List Nat := (List.range (qr q t)).map fun r => r * 8 ^ t
theorem rds_len (q : Qd) (t : Nat) : (rds q t).length = qr q t := by unfold rds; rw [List.length_map, List.length_range]
theorem rds_at {q : Qd} {t r : Nat} (h : r < qr q t) : (rds q t)[r]? = some (r * 8 ^ t) := by
  unfold rds
  rw [List.getElem?_map, List.getElem?_range h]
  rfl
theorem push_loop {N : Nat} {q : Qd} (hq : WfQ q) {t a n2 : Nat} (ht : t < 4) (ha : a + qr q t ≤ n2) (hn2 : n2 < 2 ^ 31) (K : CSt → Int32 → Int32 → Int32 → Option CSt) : ∀ (n m r : Nat) (σ : CSt), r + m = qr q t → m < n → σ.2.2.2.2.2 402 = n2 → Seg (σ.2.2.1 402) a ((rds q t).take r) → ∃ σ', fR_pushRows_L46 N K n σ (nI t) (nI (qr q t)) (nI a) (nI r) = K σ' (nI t) (nI (qr q t)) (nI a) ∧ G1 402 σ σ' ∧ Seg (σ'.2.2.1 402) a (rds q t) ∧ ∀ j, j < a → σ'.2.2.1 402 j = σ.2.2.1 402 j := by
  have h8 := hq.2.2.1 t
  have hl := rds_len q t
  intro n
  induction n with
  | zero => intro m r σ _ h; omega
  | succ n ih =>
    intro m r σ hr hn h2 hs
    rw [fR_pushRows_L46]
    cases m with
    | zero =>
      rw [if_pos (nI_le (by omega) (by omega))]
      rw [List.take_of_length_le (by omega)] at hs
      exact ⟨σ, rfl, G1.refl _ σ, hs, fun _ _ => rfl⟩
    | succ m =>
      rw [if_neg (nI_ge (by omega) (by omega)), asPart_ok N (by omega) ht, bs, nI_add, h2, chk_nI (by omega) (by omega), nI_cl (by omega), nI_1]
      have f1 := G1_cA σ 402 (a + r) (nI (r * 8 ^ t))
      have ets : (rds q t).take (r + 1) = (rds q t).take r ++ [r * 8 ^ t] := by rw [List.take_add_one, rds_at (by omega)]; rfl
      have ltk : ((rds q t).take r).length = r := by rw [List.length_take]; omega
      obtain ⟨σ', a1, a2, a3, a4⟩ := ih m (r + 1) (cA σ 402 (a + r) (nI (r * 8 ^ t))) (by omega) (by omega) h2 (by
        rw [ets]
        refine Seg_app.mpr ⟨Seg_eq (fun j _ hj => ?_) hs, Seg_cons.mpr ⟨?_, Seg_nil _ _⟩⟩
        · rw [cA_3, if_pos rfl, upd_at, if_neg (by omega)]
        · rw [cA_3, if_pos rfl, upd_at, if_pos (by omega)])
      refine ⟨σ', a1, f1.trans a2, a3, fun j hj => ?_⟩
      rw [a4 j hj, cA_3, if_pos rfl, upd_at, if_neg (by omega)]
theorem push_C {N : Nat} (hN : 20 ≤ N) {q : Qd} (hq : WfQ q) {σ : CSt} (hC : CQd q σ) {SL : Stk} {t n2 : Nat} (ht : t < 4) (hd : SL.length < 4) (h410 : σ.1 410 = nI SL.length) (hS : CS SL σ) (h402 : σ.2.2.2.2.2 402 = n2) (hn2 : n2 < 2 ^ 31) (hroom : tt SL + qr q t ≤ n2) : ∃ σ', fR_pushRows N σ (nI t) = some σ' ∧ GR σ σ' ∧ CS ((2 ^ t, rds q t) :: SL) σ' ∧ σ'.1 410 = nI (SL.length + 1) ∧ σ'.1 400 = σ.1 400 + nI (qr q t) := by
  have h8 := hq.2.2.1 t
  have hi : (if (4 : Int32) < nI SL.length then (4 : Int32) else nI SL.length) = nI SL.length := if_neg (show ¬ (4 : Int32) < nI SL.length from nI_nlt (a := 4) (by omega) (by omega))
  unfold fR_pushRows
  rw [rowsOf_any hq hC ht, bs, h410, hi, chk_nI (by omega) (by omega), if_neg (show ¬ (4 : Int32) ≤ nI SL.length from nI_ge (b := 4) hd (by omega)), nI_cl (by omega), CS_top hS, nI_add, h402, if_pos (show nI (tt SL + qr q t) ≤ Int32.ofNat n2 from nI_le hroom hn2)]
  obtain ⟨σ1, a1, a2, a3, a4⟩ := push_loop (N := N) hq ht hroom hn2 (fun (σ : CSt) (x1 : Int32) (x2 : Int32) (x3 : Int32) => chk (σ.1 410) 4 (chk ((cI (cA σ 405 (σ.1 410).toNatClampNeg ((1 : Int32) <<< (x1 &&& 31))) 410 (((cA σ 405 (σ.1 410).toNatClampNeg ((1 : Int32) <<< (x1 &&& 31))).1 410) + (1 : Int32))).1 410) 5 (some (cI (cA (cI (cA σ 405 (σ.1 410).toNatClampNeg ((1 : Int32) <<< (x1 &&& 31))) 410 (((cA σ 405 (σ.1 410).toNatClampNeg ((1 : Int32) <<< (x1 &&& 31))).1 410) + (1 : Int32))) 404 ((cI (cA σ 405 (σ.1 410).toNatClampNeg ((1 : Int32) <<< (x1 &&& 31))) 410 (((cA σ 405 (σ.1 410).toNatClampNeg ((1 : Int32) <<< (x1 &&& 31))).1 410) + (1 : Int32))).1 410).toNatClampNeg (x3 + x2)) 400 (((cA (cI (cA σ 405 (σ.1 410).toNatClampNeg ((1 : Int32) <<< (x1 &&& 31))) 410 (((cA σ 405 (σ.1 410).toNatClampNeg ((1 : Int32) <<< (x1 &&& 31))).1 410) + (1 : Int32))) 404 ((cI (cA σ 405 (σ.1 410).toNatClampNeg ((1 : Int32) <<< (x1 &&& 31))) 410 (((cA σ 405 (σ.1 410).toNatClampNeg ((1 : Int32) <<< (x1 &&& 31))).1 410) + (1 : Int32))).1 410).toNatClampNeg (x3 + x2)).1 400) + x2))))) N (qr q t) 0 σ (by omega) (by omega) h402 (Seg_nil _ _)
  rw [nI_0] at a1
  rw [a1]
  have e410 : σ1.1 410 = nI SL.length := by rw [a2.1]; exact h410
  simp only [cA_1, cI_1, e410, if_true, chk_nI (show SL.length < 4 by omega) (show 4 < 2 ^ 31 by omega), nI_1, chk_nI (show SL.length + 1 < 5 by omega) (show 5 < 2 ^ 31 by omega), nI_cl (show SL.length < 2 ^ 31 by omega), nI_cl (show SL.length + 1 < 2 ^ 31 by omega), b_shl t (by omega), nI_add, if_neg (show ¬ 400 = 410 by omega)]
  refine ⟨_, rfl, ⟨?_, ?_, ?_⟩, ⟨?_, ?_, ?_, ?_⟩, ?_, ?_⟩
  · intro k h1 h2 h3
    rw [cI_1, if_neg h1, cA_1, cI_1, if_neg h3, cA_1, a2.1]
  · intro k hk
    rw [cI_2, cA_3, if_neg (by omega), cI_2, cA_3, if_neg (by omega), a2.2.2.1 k (by omega)]
  · rw [cI_2, cA_4, cI_2, cA_4, a2.2.2.2]
  · refine CS_eq (σ := σ) (fun j hj => ?_) (fun j hj => ?_) (fun j hj => ?_) hS
    · rw [cI_2, cA_3, if_pos rfl, upd_at, if_neg (by omega), cI_2, cA_3, if_neg (by omega), a2.2.2.1 404 (by omega)]
    · rw [cI_2, cA_3, if_neg (by omega), cI_2, cA_3, if_pos rfl, upd_at, if_neg (by omega), a2.2.2.1 405 (by omega)]
    · rw [cI_2, cA_3, if_neg (by omega), cI_2, cA_3, if_neg (by omega)]
      exact a4 j hj
  · rw [cI_2, cA_3, if_neg (by omega), cI_2, cA_3, if_pos rfl, upd_at, if_pos rfl]
  · rw [cI_2, cA_3, if_pos rfl, upd_at, if_pos rfl]
    show nI (tt SL + qr q t) = nI (tt SL + (rds q t).length)
    rw [rds_len]
  · rw [cI_2, cA_3, if_neg (by omega), cI_2, cA_3, if_neg (by omega)]
    exact a3
  · rw [cI_1, if_neg (by omega), cA_1, cI_1, if_pos rfl]
  · rw [cI_1, if_pos rfl, a2.1]
theorem rd4_B : ((List.range 4).all fun t => (List.range 8).all fun r => (List.range 4).all fun k => decide (r * 8 ^ t / 8 ^ k % 8 = if k = t then r else 0) && decide (2 ^ t / 2 ^ k % 2 = if k = t then 1 else 0)) = true := by decide +kernel
theorem rd4 {t r k : Nat} (ht : t < 4) (hr : r < 8) (hk : k < 4) : r * 8 ^ t / 8 ^ k % 8 = (if k = t then r else 0) ∧ 2 ^ t / 2 ^ k % 2 = if k = t then 1 else 0 := by
  have g := rd4_B
  simp only [List.all_eq_true, List.mem_range] at g
  have g := g t ht r hr k hk
  rw [Bool.and_eq_true, decide_eq_true_eq, decide_eq_true_eq] at g
  exact g
theorem rds_Vc {q : Qd} (hq : WfQ q) {t : Nat} (ht : t < 4) : ∀ v, v ∈ rds q t → Vc q (2 ^ t) v := by
  intro v hv
  have h8 := hq.2.2.1 t
  obtain ⟨r, hr, rfl⟩ := List.mem_map.mp hv
  have hr := List.mem_range.mp hr
  constructor
  · have : r * 8 ^ t ≤ 7 * 8 ^ 3 := Nat.mul_le_mul (by omega) (Nat.pow_le_pow_right (n := 8) (by omega) (by omega))
    omega
  · intro k hk
    obtain ⟨g1, g2⟩ := rd4 ht (show r < 8 by omega) hk
    rw [g1, g2]
    by_cases c : k = t
    · rw [if_pos c, if_pos c, c]
      exact ⟨fun h => by omega, fun _ => hr⟩
    · rw [if_neg c, if_neg c]
      exact ⟨fun _ => rfl, fun h => by omega⟩
theorem read_in {N : Nat} {d t r : Nat} (hd : d < 5) (ht : t < 4) (hr : r < 8) (K : MSt → Int32 → Int32 → Option MSt) : ∀ (n m k : Nat) (τ : MSt), k + m = 4 → m < n → (∀ j, j < k → τ.2.2.1 29 (82944 * d + 4 * r + j) = dg4 (2 ^ t) (r * 8 ^ t) j) → ∃ τ', fM_readAll_L52 N K n τ (nI t) (nI r) (nI (82944 * d + 4 * r)) (nI k) = K τ' (nI t) (nI r) ∧ F1 29 τ τ' ∧ (∀ j, (j < 82944 * d + 4 * r + k ∨ 82944 * d + 4 * r + 4 ≤ j) → τ'.2.2.1 29 j = τ.2.2.1 29 j) ∧ ∀ j, j < 4 → τ'.2.2.1 29 (82944 * d + 4 * r + j) = dg4 (2 ^ t) (r * 8 ^ t) j := by
  intro n
  induction n with
  | zero => intro m k τ _ h; omega
  | succ n ih =>
    intro m k τ hk hn h9
    rw [fM_readAll_L52]
    cases m with
    | zero =>
      rw [if_pos (show (4 : Int32) ≤ nI k from nI_le (a := 4) (by omega) (by omega))]
      exact ⟨τ, rfl, F1.refl _ τ, fun _ _ => rfl, fun j hj => h9 j (by omega)⟩
    | succ m =>
      obtain ⟨g1, g2⟩ := rd4 ht hr (show k < 4 by omega)
      rw [if_neg (show ¬ (4 : Int32) ≤ nI k from nI_ge (b := 4) (by omega) (by omega)), nI_add, chk_nI (by omega) (by omega), chk_nI (by omega) (by omega), nI_cl (by omega), nI_1]
      have main : ∀ x : Int32, x = dg4 (2 ^ t) (r * 8 ^ t) k → ∃ τ', fM_readAll_L52 N K n (sA τ 29 (82944 * d + 4 * r + k) x) (nI t) (nI r) (nI (82944 * d + 4 * r)) (nI (k + 1)) = K τ' (nI t) (nI r) ∧ F1 29 τ τ' ∧ (∀ j, (j < 82944 * d + 4 * r + k ∨ 82944 * d + 4 * r + 4 ≤ j) → τ'.2.2.1 29 j = τ.2.2.1 29 j) ∧ ∀ j, j < 4 → τ'.2.2.1 29 (82944 * d + 4 * r + j) = dg4 (2 ^ t) (r * 8 ^ t) j := by
        intro x hx
        have f1 := F1_sA τ 29 (82944 * d + 4 * r + k) x
        obtain ⟨τ', a1, a2, a3, a4⟩ := ih m (k + 1) (sA τ 29 (82944 * d + 4 * r + k) x) (by omega) (by omega) (by
          intro j hj
          rw [sA_3, if_pos rfl, upd_at]
          by_cases g : j = k
          · rw [if_pos (by omega), g, hx]
          · rw [if_neg (by omega)]; exact h9 j (by omega))
        refine ⟨τ', a1, f1.trans a2, fun j hj => ?_, a4⟩
        rw [a3 j (by omega), sA_3, if_pos rfl, upd_at, if_neg (by omega)]
      by_cases c : k = t
      · rw [if_pos (by rw [c])]
        refine main _ ?_
        unfold dg4
        rw [g1, g2, if_pos c, if_pos c, if_neg (by omega)]
      · rw [if_neg (fun h => c ((nI_eq (by omega) (by omega)).mp h))]
        refine main _ ?_
        unfold dg4
        rw [g2, if_neg c, if_pos rfl]
theorem read_out {N : Nat} (hN : 20 ≤ N) {q : Qd} (hq : WfQ q) {d t : Nat} (hd : d < 5) (ht : t < 4) (K : MSt → Int32 → Option MSt) : ∀ (n m r : Nat) (τ : MSt), r + m = qr q t → m < n → MQd q τ → τ.1 36 = nI d → ML τ (82944 * d) (2 ^ t) ((rds q t).take r) → ∃ τ', fM_readAll_L29 N K n τ (nI t) (nI r) = K τ' (nI t) ∧ F1 29 τ τ' ∧ (∀ j, j < 82944 * d → τ'.2.2.1 29 j = τ.2.2.1 29 j) ∧ ML τ' (82944 * d) (2 ^ t) (rds q t) := by
  have h8 := hq.2.2.1 t
  have hl := rds_len q t
  intro n
  induction n with
  | zero => intro m r τ _ h; omega
  | succ n ih =>
    intro m r τ hr hn hM h36 hML
    rw [fM_readAll_L29, chk_nI ht (by omega), nI_cl (by omega), hM.2.2.2.2.1 t ht]
    cases m with
    | zero =>
      rw [if_pos (nI_le (by omega) (by omega))]
      rw [List.take_of_length_le (by omega)] at hML
      exact ⟨τ, rfl, F1.refl _ τ, fun _ _ => rfl, hML⟩
    | succ m =>
      unfold fM_spot
      rw [if_neg (nI_ge (by omega) (by omega)), bs, h36, show (82944 : Int32) = nI 82944 from rfl, show (4 : Int32) = nI 4 from rfl, nI_mul, nI_mul, nI_add]
      obtain ⟨τ1, a1, a2, a3, a4⟩ := read_in (N := N) hd ht (show r < 8 by omega) (fun (σ : MSt) (x1 : Int32) (x2 : Int32) => fM_readAll_L29 N K n σ x1 (x2 + 1)) N 4 0 τ (by omega) (by omega) (fun j hj => by omega)
      rw [nI_0] at a1
      rw [a1, nI_1]
      have ets : (rds q t).take (r + 1) = (rds q t).take r ++ [r * 8 ^ t] := by rw [List.take_add_one, rds_at (by omega)]; rfl
      have ltk : ((rds q t).take r).length = r := by rw [List.length_take]; omega
      obtain ⟨τ2, b1, b2, b3, b4⟩ := ih m (r + 1) τ1 (by omega) (by omega) (MQd_HR ⟨fun k _ => by rw [a2.1], fun k hk => a2.2.2.1 k (by omega)⟩ hM) (by rw [a2.1]; exact h36) (by
        rw [ets]
        intro i v k hi hk
        have hil := (List.getElem?_eq_some_iff.mp hi).1
        rw [List.length_append, ltk, List.length_singleton] at hil
        by_cases g : i = r
        · rw [g] at hi ⊢
          rw [List.getElem?_append_right (by omega), ltk, Nat.sub_self] at hi
          have : r * 8 ^ t = v := by simpa using hi
          rw [← this]
          exact a4 k hk
        · rw [List.getElem?_append_left (by omega)] at hi
          rw [a3 _ (by omega)]
          exact hML i v k hi hk)
      exact ⟨τ2, b1, a2.trans b2, fun j hj => by rw [b3 j hj, a3 j (by omega)], b4⟩
theorem readAll_M {N : Nat} (hN : 20 ≤ N) {q : Qd} (hq : WfQ q) {τ : MSt} (hM : MQd q τ) {SL : Stk} {t : Nat} (ht : t < 4) (hd : SL.length < 4) (hl : ∀ x, x ∈ SL → x.2.length ≤ 4096) (h36 : τ.1 36 = nI SL.length) (hS : MS SL τ) : ∃ τ', fM_readAll N τ (nI t) = some τ' ∧ HR τ τ' ∧ MS ((2 ^ t, rds q t) :: SL) τ' ∧ τ'.1 36 = nI (SL.length + 1) ∧ τ'.1 37 = τ.1 37 + nI (qr q t) ∧ τ'.1 38 = τ.1 38 ∧ τ'.2.2.1 39 = τ.2.2.1 39 := by
  unfold fM_readAll
  have hr4 := hM.2.2.2.2.1 t ht
  simp only [sA_1, h36, chk_nI ht (show 4 < 2 ^ 31 by omega), chk_nI (show SL.length < 5 by omega) (show 5 < 2 ^ 31 by omega), nI_cl (show t < 2 ^ 31 by omega), nI_cl (show SL.length < 2 ^ 31 by omega), hr4, b_shl t (by omega)]
  have f1 := F1_sA τ 30 SL.length (nI (qr q t))
  have f2 := F1_sA (sA τ 30 SL.length (nI (qr q t))) 31 SL.length (nI (2 ^ t))
  have H2 : HR τ (sA (sA τ 30 SL.length (nI (qr q t))) 31 SL.length (nI (2 ^ t))) := ⟨fun k _ => rfl, fun k hk => by rw [f2.2.2.1 k (by omega), f1.2.2.1 k (by omega)]⟩
  have e30 : (sA (sA τ 30 SL.length (nI (qr q t))) 31 SL.length (nI (2 ^ t))).2.2.1 30 = upd (τ.2.2.1 30) SL.length (nI (qr q t)) := by rw [f2.2.2.1 30 (by omega), sA_3, if_pos rfl]
  have e31 : (sA (sA τ 30 SL.length (nI (qr q t))) 31 SL.length (nI (2 ^ t))).2.2.1 31 = upd (τ.2.2.1 31) SL.length (nI (2 ^ t)) := by rw [sA_3, if_pos rfl, f1.2.2.1 31 (by omega)]
  have e29 : (sA (sA τ 30 SL.length (nI (qr q t))) 31 SL.length (nI (2 ^ t))).2.2.1 29 = τ.2.2.1 29 := by rw [f2.2.2.1 29 (by omega), f1.2.2.1 29 (by omega)]
  have e39 : (sA (sA τ 30 SL.length (nI (qr q t))) 31 SL.length (nI (2 ^ t))).2.2.1 39 = τ.2.2.1 39 := by rw [f2.2.2.1 39 (by omega), f1.2.2.1 39 (by omega)]
  have e1 : (sA (sA τ 30 SL.length (nI (qr q t))) 31 SL.length (nI (2 ^ t))).1 = τ.1 := rfl
  generalize sA (sA τ 30 SL.length (nI (qr q t))) 31 SL.length (nI (2 ^ t)) = τ2 at H2 e30 e31 e29 e39 e1
  obtain ⟨τ3, a1, a2, a3, a4⟩ := read_out (N := N) hN hq (show SL.length < 5 by omega) ht (fun (σ : MSt) (x1 : Int32) => chk x1 4 (some (sI (sI σ 37 ((σ.1 37) + (σ.2.2.1 4 x1.toNatClampNeg))) 36 (((sI σ 37 ((σ.1 37) + (σ.2.2.1 4 x1.toNatClampNeg))).1 36) + (1 : Int32))))) N (qr q t) 0 τ2 (by omega) (by have := hq.2.2.1 t; omega) (MQd_HR H2 hM) (by rw [e1]; exact h36) (fun i v k hi => by simp at hi)
  rw [nI_0] at a1
  rw [a1]
  have H3 : HR τ τ3 := H2.trans ⟨fun k _ => by rw [a2.1], fun k hk => a2.2.2.1 k (by omega)⟩
  have r4 := (MQd_HR H3 hM).2.2.2.2.1 t ht
  have i36 : τ3.1 36 = nI SL.length := by rw [a2.1, e1]; exact h36
  have i37 : τ3.1 37 = τ.1 37 := by rw [a2.1, e1]
  have i38 : τ3.1 38 = τ.1 38 := by rw [a2.1, e1]
  simp only [chk_nI ht (show 4 < 2 ^ 31 by omega), nI_cl (show t < 2 ^ 31 by omega), r4, sI_1, if_neg (show ¬ 36 = 37 by omega), i36, nI_1, i37]
  refine ⟨_, rfl, ⟨fun k hk => ?_, fun k hk => ?_⟩, ⟨?_, ?_, ?_, ?_⟩, rfl, ?_, ?_, ?_⟩
  · rw [sI_1, if_neg (by omega), sI_1, if_neg (by omega)]; exact H3.1 k hk
  · exact H3.2 k hk
  · refine MS_eq (τ := τ) hl (fun j hj => ?_) (fun j hj => ?_) (fun j hj => ?_) hS
    · show τ3.2.2.1 30 j = _
      rw [a2.2.2.1 30 (by omega), e30, upd_at, if_neg (by omega)]
    · show τ3.2.2.1 31 j = _
      rw [a2.2.2.1 31 (by omega), e31, upd_at, if_neg (by omega)]
    · show τ3.2.2.1 29 j = _
      rw [a3 j hj, e29]
  · show τ3.2.2.1 30 SL.length = nI (rds q t).length
    rw [a2.2.2.1 30 (by omega), e30, upd_at, if_pos rfl, rds_len]
  · show τ3.2.2.1 31 SL.length = _
    rw [a2.2.2.1 31 (by omega), e31, upd_at, if_pos rfl]
  · exact a4
  · rw [sI_1, if_neg (by omega), sI_1, if_pos rfl]
  · rw [sI_1, if_neg (by omega), sI_1, if_neg (by omega), i38]
  · show τ3.2.2.1 39 = _
    rw [a2.2.2.1 39 (by omega), e39]
