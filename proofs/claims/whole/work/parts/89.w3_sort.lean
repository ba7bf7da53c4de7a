/-! the reference's sort: all of it -/
theorem passes {N : Nat} (hN : 30000 ≤ N) {K32 : Nat → Int32} {key : Nat → Int} (hkey : ∀ v, key v = (K32 v).toInt) {X : List Nat} (hX : X.length ≤ 4096) (hXv : ∀ v, v ∈ X → v < 20736) (K : MSt → Int32 → Int32 → Option MSt) (x4 : Int32) : ∀ (n j w : Nat) (A : List Nat) (τ : MSt), j < n → w * 2 ^ j = 8192 → bsS key w (2 ^ j) X A → τ.2.2.1 32 = K32 → Seg (τ.2.2.1 33) 0 A → (∀ v, v ∈ A → v < 20736) → ∃ τ' M, fM_sort_L79 N K n τ (nI X.length) x4 (nI w) = K τ' (nI X.length) x4 ∧ (τ'.1 = τ.1 ∧ τ'.2.1 = τ.2.1 ∧ (∀ k, k ≠ 33 → k ≠ 34 → τ'.2.2.1 k = τ.2.2.1 k) ∧ τ'.2.2.2 = τ.2.2.2) ∧ Seg (τ'.2.2.1 33) 0 M ∧ stS key X M ∧ M.length = X.length := by
  intro n
  induction n with
  | zero => intro j w A τ h; omega
  | succ n ih =>
    intro j w A τ hj hwj hbs h32 s33 hAv
    have hl := bs_len hbs
    have hw : 0 < w := by
      rcases Nat.eq_zero_or_pos w with h | h
      · rw [h, Nat.zero_mul] at hwj; omega
      · exact h
    have h2j := Nat.two_pow_pos j
    rw [fM_sort_L79]
    have hw8 : w ≤ 8192 := by
      rw [← hwj]; exact Nat.le_mul_of_pos_right _ h2j
    by_cases c : X.length ≤ w
    · rw [if_pos (nI_le c (by omega))]
      have : stS key X A := by
        obtain ⟨k, hk⟩ : ∃ k, 2 ^ j = k + 1 := ⟨2 ^ j - 1, by omega⟩
        rw [hk] at hbs
        have := hbs.2.1
        rw [List.take_of_length_le c, List.take_of_length_le (by omega)] at this
        exact this
      exact ⟨τ, A, rfl, ⟨rfl, rfl, fun _ _ _ => rfl, rfl⟩, s33, this, hl.symm⟩
    · rw [if_neg (nI_ge (by omega) (by omega))]
      cases j with
      | zero => rw [Nat.pow_zero, Nat.mul_one] at hwj; omega
      | succ j =>
        have e : 2 ^ (j + 1) = 2 * 2 ^ j := by rw [Nat.pow_succ, Nat.mul_comm]
        have hw2 : 2 * w * 2 ^ j = 8192 := by rw [← hwj, e, ← Nat.mul_assoc, Nat.mul_comm w 2]
        rw [e] at hbs
        have hjl : 2 ^ j ≤ 8192 := by
          rw [← hw2]; exact Nat.le_mul_of_pos_left _ (by omega)
        have hbs2 := ps_bs hw (2 ^ j) X A (by omega) hbs
        have hpl := ps_len (key := key) hw (2 ^ j) A (by omega)
        obtain ⟨τ1, a1, a2, a3⟩ := pass_loop (N := N) hN hkey (A := A) hw (by omega) (by omega) hAv (fun (σ : MSt) (x3 : Int32) (x4 : Int32) (x5 : Int32) => fM_sort_L155 N (fun (σ : MSt) (x3 : Int32) (x4 : Int32) (x5 : Int32) => fM_sort_L79 N K n σ x3 x4 (x5 * (2 : Int32))) N σ x3 x4 x5 (0 : Int32)) x4 N (2 ^ j) 0 [] τ (by rw [List.drop_zero]; omega) (by omega) (by simp) (by omega) h32 s33 (Seg_nil _ _)
        rw [nI_0] at a1
        rw [List.drop_zero, List.nil_append] at a3
        rw [hl, a1]
        obtain ⟨τ2, b1, b2, b3⟩ := copy_loop (N := N) (B := psS key w (2 ^ j) A) (by omega) (fun (σ : MSt) (x3 : Int32) (x4 : Int32) (x5 : Int32) => fM_sort_L79 N K n σ x3 x4 (x5 * (2 : Int32))) x4 (nI w) N A.length 0 τ1 (by omega) (by omega) a3 (Seg_nil _ _)
        rw [nI_0, hpl] at b1
        rw [b1, show (2 : Int32) = nI 2 from rfl, nI_mul, Nat.mul_comm w 2, ← hl]
        have hm := bs_len hbs2
        have hmem : ∀ v, v ∈ psS key w (2 ^ j) A → v < 20736 := by
          have key2 : ∀ (k : Nat) (w : Nat) (X B : List Nat), bsS key w k X B → X.length ≤ w * k → ∀ v, v ∈ B → v ∈ X := by
            intro k
            induction k with
            | zero => intro w X B h _ v hv; rw [h.2] at hv; exact absurd hv List.not_mem_nil
            | succ k ih2 =>
              intro w X B h hl v hv
              have hv : v ∈ B.take w ++ B.drop w := by rw [List.take_append_drop]; exact hv
              rcases List.mem_append.mp hv with g | g
              · exact List.mem_of_mem_take ((stS_mem h.2.1 v).mp g)
              · exact List.mem_of_mem_drop (ih2 w _ _ h.2.2 (by rw [List.length_drop, Nat.mul_succ] at *; omega) v g)
          intro v hv
          exact hXv v (key2 _ _ _ _ hbs2 (by omega) v hv)
        obtain ⟨τ3, M, c1, c2, c3⟩ := ih j (2 * w) _ τ2 (by omega) hw2 hbs2 (by rw [b2.2.2.1 32 (by omega), a2.2.2.1 32 (by omega)]; exact h32) b3 hmem
        refine ⟨τ3, M, c1, ⟨c2.1.trans (b2.1.trans a2.1), c2.2.1.trans (b2.2.1.trans a2.2.1), fun k h1 h2 => ?_, c2.2.2.2.trans (b2.2.2.2.trans a2.2.2.2)⟩, c3⟩
        rw [c2.2.2.1 k h1 h2, b2.2.2.1 k h1, a2.2.2.1 k h2]
theorem bs_one {key : Nat → Int} : ∀ (k : Nat) (X : List Nat), X.length ≤ k → bsS key 1 k X X := by
  intro k
  induction k with
  | zero =>
    intro X h
    have : X = [] := List.length_eq_zero_iff.mp (by omega)
    exact ⟨this, this⟩
  | succ k ih =>
    intro X h
    refine ⟨rfl, ⟨?_, fun _ => rfl⟩, ih _ (by rw [List.length_drop]; omega)⟩
    cases X with
    | nil => exact List.Pairwise.nil
    | cons a X =>
      show ([a] : List Nat).Pairwise _
      exact List.pairwise_singleton _ _
/-- table k's row in a combination of set S, as the reference writes it -/
def dg4 (S v k : Nat) : Int32 := if S / 2 ^ k % 2 = 0 then -1 else nI (v / 8 ^ k % 8)
/-- a list of combinations in the reference's rows -/
def ML (τ : MSt) (b S : Nat) (L : List Nat) : Prop := ∀ i v k, L[i]? = some v → k < 4 → τ.2.2.1 29 (b + 4 * i + k) = dg4 S v k
/-- a combination of set S -/
def Vc (q : Qd) (S v : Nat) : Prop := v < 4096 ∧ ∀ t, t < 4 → (S / 2 ^ t % 2 = 0 → v / 8 ^ t % 8 = 0) ∧ (S / 2 ^ t % 2 = 1 → v / 8 ^ t % 8 < qr q t)
def kv (q : Qd) (t c v : Nat) : Int := (qv q t (v / 8 ^ t % 8) c).toInt
theorem init_loop {N : Nat} {q : Qd} (hq : WfQ q) {S b t c : Nat} {L : List Nat} (hL : L.length ≤ 4096) (hVc : ∀ v, v ∈ L → Vc q S v) (hb : b + 4 * 4096 ≤ 414720) (ht : t < 4) (hSt : S / 2 ^ t % 2 = 1) (hc : c < 3) (K : MSt → Int32 → Int32 → Option MSt) : ∀ (n m i : Nat) (τ : MSt), i + m = L.length → m < n → MQd q τ → ML τ b S L → (∀ j, j < i → τ.2.2.1 33 j = nI j) → (∀ j v, j < i → L[j]? = some v → τ.2.2.1 32 j = qv q t (v / 8 ^ t % 8) c) → ∃ τ', fM_sort_L28 N K n τ (nI t) (nI c) (nI L.length) (nI b) (nI i) = K τ' (nI L.length) (nI b) ∧ (τ'.1 = τ.1 ∧ τ'.2.1 = τ.2.1 ∧ (∀ k, k ≠ 32 → k ≠ 33 → τ'.2.2.1 k = τ.2.2.1 k) ∧ τ'.2.2.2 = τ.2.2.2) ∧ (∀ j, j < L.length → τ'.2.2.1 33 j = nI j) ∧ ∀ j v, L[j]? = some v → τ'.2.2.1 32 j = qv q t (v / 8 ^ t % 8) c := by
  intro n
  induction n with
  | zero => intro m i τ _ h; omega
  | succ n ih =>
    intro m i τ hi hn hM hML h33 h32
    rw [fM_sort_L28]
    cases m with
    | zero =>
      rw [if_pos (nI_le (by omega) (by omega))]
      exact ⟨τ, rfl, ⟨rfl, rfl, fun _ _ _ => rfl, rfl⟩, fun j hj => h33 j (by omega), fun j v hj => h32 j v (by have := (List.getElem?_eq_some_iff.mp hj).1; omega) hj⟩
    | succ m =>
      have hv : L[i]? = some L[i] := List.getElem?_eq_getElem (by omega)
      generalize L[i] = v at hv
      have hvc := hVc v (List.mem_of_getElem? hv)
      have h29 := hML i v t hv ht
      have e4 : (4 : Int32) = nI 4 := rfl
      rw [if_neg (nI_ge (by omega) (by omega)), chk_nI (by omega) (by omega), nI_cl (by omega), e4, nI_mul, nI_add, nI_add, chk_nI (by omega) (by omega), nI_cl (by omega)]
      have f1 := F1_sA τ 33 i (nI i)
      have h29' : (sA τ 33 i (nI i)).2.2.1 29 (b + 4 * i + t) = nI (v / 8 ^ t % 8) := by
        rw [f1.2.2.1 29 (by omega), h29]
        unfold dg4
        rw [if_neg (by omega)]
      have M1 : MQd q (sA τ 33 i (nI i)) := MQd_FW (τ := τ) ⟨fun k _ => rfl, fun k hk => f1.2.2.1 k (by omega)⟩ hM
      rw [h29', of_M hq M1 ht ((hvc.2 t ht).2 hSt) hc, bs, chk_nI (by omega) (by omega), nI_1]
      have f2 := F1_sA (sA τ 33 i (nI i)) 32 i (qv q t (v / 8 ^ t % 8) c)
      obtain ⟨τ', a1, a2, a3, a4⟩ := ih m (i + 1) (sA (sA τ 33 i (nI i)) 32 i (qv q t (v / 8 ^ t % 8) c)) (by omega) (by omega) (MQd_FW (τ := sA τ 33 i (nI i)) ⟨fun k _ => rfl, fun k hk => f2.2.2.1 k (by omega)⟩ M1) (by
        intro j w k hj hk
        rw [f2.2.2.1 29 (by omega), f1.2.2.1 29 (by omega)]
        exact hML j w k hj hk) (by
        intro j hj
        rw [f2.2.2.1 33 (by omega), sA_3, if_pos rfl, upd_at]
        by_cases g : j = i
        · rw [if_pos g, g]
        · rw [if_neg g]; exact h33 j (by omega)) (by
        intro j w hj hw
        rw [sA_3, if_pos rfl, upd_at]
        by_cases g : j = i
        · rw [if_pos g]
          rw [g, hv] at hw
          rw [Option.some.inj hw]
        · rw [if_neg g, f1.2.2.1 32 (by omega)]; exact h32 j w (by omega) hw)
      refine ⟨τ', a1, ⟨a2.1, a2.2.1, fun k h1 h2 => ?_, a2.2.2.2⟩, a3, a4⟩
      rw [a2.2.2.1 k h1 h2, f2.2.2.1 k h1, f1.2.2.1 k h2]
theorem mv_in {N : Nat} {S b a i : Nat} {v : Nat} (hb : b + 4 * 4096 ≤ 414720) (ha : a < 4096) (hi : i < 4096) (K : MSt → Int32 → Int32 → Int32 → Option MSt) (x3 : Int32) : ∀ (n m k : Nat) (τ : MSt), k + m = 4 → m < n → τ.2.2.1 33 i = nI a → (∀ r, r < 4 → τ.2.2.1 29 (b + 4 * a + r) = dg4 S v r) → ∃ τ', fM_sort_L202 N K n τ x3 (nI b) (nI i) (nI k) = K τ' x3 (nI b) (nI i) ∧ F1 35 τ τ' ∧ (∀ j, (j < 4 * i + k ∨ 4 * i + 4 ≤ j) → τ'.2.2.1 35 j = τ.2.2.1 35 j) ∧ ∀ r, k ≤ r → r < 4 → τ'.2.2.1 35 (4 * i + r) = dg4 S v r := by
  intro n
  induction n with
  | zero => intro m k τ _ h; omega
  | succ n ih =>
    intro m k τ hk hn h33 h29
    rw [fM_sort_L202]
    cases m with
    | zero =>
      rw [if_pos (show (4 : Int32) ≤ nI k from nI_le (a := 4) (by omega) (by omega))]
      exact ⟨τ, rfl, F1.refl _ τ, fun _ _ => rfl, fun r h1 h2 => by omega⟩
    | succ m =>
      rw [if_neg (show ¬ (4 : Int32) ≤ nI k from nI_ge (b := 4) (by omega) (by omega)), chk_nI (by omega) (by omega), nI_cl (by omega), h33, show (4 : Int32) = nI 4 from rfl, nI_mul, nI_add, nI_add, chk_nI (by omega) (by omega), nI_mul, nI_add, chk_nI (by omega) (by omega), nI_cl (by omega), nI_cl (by omega), h29 k (by omega), nI_1]
      have f1 := F1_sA τ 35 (4 * i + k) (dg4 S v k)
      obtain ⟨τ', a1, a2, a3, a4⟩ := ih m (k + 1) (sA τ 35 (4 * i + k) (dg4 S v k)) (by omega) (by omega) (by rw [f1.2.2.1 33 (by omega)]; exact h33) (fun r hr => by rw [f1.2.2.1 29 (by omega)]; exact h29 r hr)
      refine ⟨τ', a1, f1.trans a2, ?_, ?_⟩
      · intro j hj
        rw [a3 j (by omega), sA_3, if_pos rfl, upd_at, if_neg (by omega)]
      · intro r h1 h2
        by_cases g : r = k
        · rw [g, a3 _ (by omega), sA_3, if_pos rfl, upd_at, if_pos rfl]
        · exact a4 r (by omega) h2
/-- a list of combinations in the reference's second row -/
def MV (τ : MSt) (S : Nat) (n : Nat) (L : List Nat) : Prop := ∀ i v k, i < n → L[i]? = some v → k < 4 → τ.2.2.1 35 (4 * i + k) = dg4 S v k
theorem mv_out {N : Nat} (hN : 30000 ≤ N) {S b : Nat} {L M A : List Nat} (hb : b + 4 * 4096 ≤ 414720) (hL : L.length ≤ 4096) (hA : A.length = L.length) (hM : ∀ (i a : Nat), A[i]? = some a → ∃ v, L[a]? = some v ∧ M[i]? = some v) (K : MSt → Int32 → Int32 → Option MSt) : ∀ (n m i : Nat) (τ : MSt), i + m = L.length → m < n → Seg (τ.2.2.1 33) 0 A → ML τ b S L → MV τ S i M → ∃ τ', fM_sort_L193 N K n τ (nI L.length) (nI b) (nI i) = K τ' (nI L.length) (nI b) ∧ F1 35 τ τ' ∧ MV τ' S L.length M := by
  intro n
  induction n with
  | zero => intro m i τ _ h; omega
  | succ n ih =>
    intro m i τ hi hn s33 hML hMV
    rw [fM_sort_L193]
    cases m with
    | zero =>
      rw [if_pos (nI_le (by omega) (by omega))]
      refine ⟨τ, rfl, F1.refl _ τ, ?_⟩
      rw [← show i = L.length by omega]
      exact hMV
    | succ m =>
      have ha : A[i]? = some A[i] := List.getElem?_eq_getElem (by omega)
      generalize A[i] = a at ha
      obtain ⟨v, hv, hMi⟩ := hM i a ha
      have hal := (List.getElem?_eq_some_iff.mp hv).1
      have h33 := s33 i a ha
      rw [Nat.zero_add] at h33
      rw [if_neg (nI_ge (by omega) (by omega))]
      obtain ⟨τ1, a1, a2, a3, a4⟩ := mv_in (N := N) (S := S) (v := v) hb (show a < 4096 by omega) (show i < 4096 by omega) (fun (σ : MSt) (x3 : Int32) (x4 : Int32) (x5 : Int32) => fM_sort_L193 N K n σ x3 x4 (x5 + 1)) (nI L.length) N 4 0 τ (by omega) (by omega) h33 (fun r hr => hML a v r hv hr)
      rw [nI_0] at a1
      rw [a1, nI_1]
      obtain ⟨τ2, b1, b2, b3⟩ := ih m (i + 1) τ1 (by omega) (by omega) (by rw [a2.2.2.1 33 (by omega)]; exact s33) (by
        intro j w k hj hk
        rw [a2.2.2.1 29 (by omega)]
        exact hML j w k hj hk) (by
        intro j w k hj hw hk
        by_cases g : j = i
        · rw [g, hMi] at hw
          rw [g, a4 k (by omega) hk, Option.some.inj hw]
        · rw [a3 _ (by omega)]
          exact hMV j w k (by omega) hw hk)
      exact ⟨τ2, b1, a2.trans b2, b3⟩
theorem back_loop {N : Nat} {b n4 : Nat} (hb : b + 4 * 4096 ≤ 414720) (h4 : n4 ≤ 4096) : ∀ (n m k : Nat) (τ : MSt), k + m = 4 * n4 → m < n → ∃ τ', fM_sort_L255 N n τ (nI n4) (nI b) (nI k) = some τ' ∧ F1 29 τ τ' ∧ (∀ j, (j < b + k ∨ b + 4 * n4 ≤ j) → τ'.2.2.1 29 j = τ.2.2.1 29 j) ∧ ∀ j, k ≤ j → j < 4 * n4 → τ'.2.2.1 29 (b + j) = τ.2.2.1 35 j := by
  intro n
  induction n with
  | zero => intro m k τ _ h; omega
  | succ n ih =>
    intro m k τ hk hn
    rw [fM_sort_L255, show (4 : Int32) = nI 4 from rfl, nI_mul]
    cases m with
    | zero =>
      rw [if_pos (nI_le (by omega) (by omega))]
      exact ⟨τ, rfl, F1.refl _ τ, fun _ _ => rfl, fun j h1 h2 => by omega⟩
    | succ m =>
      rw [if_neg (nI_ge (by omega) (by omega)), chk_nI (by omega) (by omega), nI_add, chk_nI (by omega) (by omega), nI_cl (by omega), nI_cl (by omega), nI_1]
      have f1 := F1_sA τ 29 (b + k) (τ.2.2.1 35 k)
      obtain ⟨τ', a1, a2, a3, a4⟩ := ih m (k + 1) (sA τ 29 (b + k) (τ.2.2.1 35 k)) (by omega) (by omega)
      refine ⟨τ', a1, f1.trans a2, ?_, ?_⟩
      · intro j hj
        rw [a3 j (by omega), sA_3, if_pos rfl, upd_at, if_neg (by omega)]
      · intro j h1 h2
        by_cases g : j = k
        · rw [g, a3 _ (by omega), sA_3, if_pos rfl, upd_at, if_pos rfl]
        · rw [a4 j (by omega) h2, f1.2.2.1 35 (by omega)]
/-- what sorting changes in the reference -/
def FQ (b n4 : Nat) (τ τ' : MSt) : Prop := τ'.1 = τ.1 ∧ (∀ k, (k < 29 ∨ k = 30 ∨ k = 31 ∨ 35 < k) → τ'.2.2.1 k = τ.2.2.1 k) ∧ ∀ j, (j < b ∨ b + 4 * n4 ≤ j) → τ'.2.2.1 29 j = τ.2.2.1 29 j
theorem sort_M {N : Nat} (hN : 30000 ≤ N) {q : Qd} (hq : WfQ q) {S d t c : Nat} {L : List Nat} {τ : MSt} (hM : MQd q τ) (hd : d < 5) (hL : L.length ≤ 4096) (hVc : ∀ v, v ∈ L → Vc q S v) (ht : t < 4) (hSt : S / 2 ^ t % 2 = 1) (hc : c < 3) (h36 : τ.1 36 = nI (d + 1)) (h30 : τ.2.2.1 30 d = nI L.length) (hML : ML τ (82944 * d) S L) : ∃ τ' M, fM_sort N τ (nI t) (nI c) = some τ' ∧ FQ (82944 * d) L.length τ τ' ∧ ML τ' (82944 * d) S M ∧ stS (kv q t c) L M ∧ M.length = L.length := by
  unfold fM_sort fM_spot
  rw [h36, nI_pred, chk_nI hd (by omega), bs, nI_cl (by omega), h30, show (82944 : Int32) = nI 82944 from rfl, nI_mul, show (4 : Int32) * 0 = nI 0 from rfl, nI_add, Nat.add_zero]
  obtain ⟨τ1, a1, a2, a3, a4⟩ := init_loop (N := N) hq (S := S) (b := 82944 * d) (t := t) (c := c) hL hVc (by omega) ht hSt hc (fun (σ : MSt) (x3 : Int32) (x4 : Int32) => fM_sort_L79 N (fun (σ : MSt) (x3 : Int32) (x4 : Int32) => fM_sort_L193 N (fun (σ : MSt) (x3 : Int32) (x4 : Int32) => fM_sort_L255 N N σ x3 x4 (0 : Int32)) N σ x3 x4 (0 : Int32)) N σ x3 x4 (1 : Int32)) N L.length 0 τ (by omega) (by omega) hM hML (fun j hj => by omega) (fun j v hj => by omega)
  rw [nI_0] at a1
  rw [a1]
  have rl : (List.range L.length).length = L.length := List.length_range
  have s33 : Seg (τ1.2.2.1 33) 0 (List.range L.length) := by
    intro j v hj
    have hl := (List.getElem?_eq_some_iff.mp hj).1
    rw [List.getElem?_range (by omega)] at hj
    rw [Nat.zero_add, ← Option.some.inj hj]
    exact a3 j (by omega)
  obtain ⟨τ2, A, b1, b2, b3, b4, b5⟩ := passes (N := N) hN (K32 := τ1.2.2.1 32) (key := fun v => (τ1.2.2.1 32 v).toInt) (fun _ => rfl) (X := List.range L.length) (by omega) (fun v hv => by have := List.mem_range.mp hv; omega) (fun (σ : MSt) (x3 : Int32) (x4 : Int32) => fM_sort_L193 N (fun (σ : MSt) (x3 : Int32) (x4 : Int32) => fM_sort_L255 N N σ x3 x4 (0 : Int32)) N σ x3 x4 (0 : Int32)) (nI (82944 * d)) N 13 1 (List.range L.length) τ1 (by omega) (by decide) (bs_one _ _ (by omega)) rfl s33 (fun v hv => by have := List.mem_range.mp hv; omega)
  rw [rl, show nI 1 = (1 : Int32) from rfl] at b1
  rw [b1]
  rw [rl] at b5
  have hget : ∀ a, a ∈ A → a < L.length := fun a ha => List.mem_range.mp ((stS_mem b4 a).mp ha)
  have hML2 : ML τ2 (82944 * d) S L := by
    intro j w k hj hk
    rw [b2.2.2.1 29 (by omega) (by omega), a2.2.2.1 29 (by omega) (by omega)]
    exact hML j w k hj hk
  obtain ⟨τ3, c1, c2, c3⟩ := mv_out (N := N) hN (S := S) (b := 82944 * d) (M := A.map fun a => L[a]?.getD 0) (by omega) hL b5 (by
    intro i a ha
    have hal := hget a (List.mem_of_getElem? ha)
    refine ⟨L[a], List.getElem?_eq_getElem hal, ?_⟩
    rw [List.getElem?_map, ha]
    simp [hal]) (fun (σ : MSt) (x3 : Int32) (x4 : Int32) => fM_sort_L255 N N σ x3 x4 (0 : Int32)) N L.length 0 τ2 (by omega) (by omega) b3 hML2 (fun i v k hi => by omega)
  rw [nI_0] at c1
  rw [c1]
  obtain ⟨τ4, d1, d2, d3, d4⟩ := back_loop (N := N) (b := 82944 * d) (n4 := L.length) (by omega) hL N (4 * L.length) 0 τ3 (by omega) (by omega)
  rw [nI_0] at d1
  refine ⟨τ4, A.map fun a => L[a]?.getD 0, d1, ⟨?_, ?_, ?_⟩, ?_, ?_, by rw [List.length_map]; exact b5⟩
  · rw [d2.1, c2.1, b2.1, a2.1]
  · intro k hk
    rw [d2.2.2.1 k (by omega), c2.2.2.1 k (by omega), b2.2.2.1 k (by omega) (by omega), a2.2.2.1 k (by omega) (by omega)]
  · intro j hj
    rw [d3 j (by omega), c2.2.2.1 29 (by omega), b2.2.2.1 29 (by omega) (by omega), a2.2.2.1 29 (by omega) (by omega)]
  · intro i v k hi hk
    have hil := (List.getElem?_eq_some_iff.mp hi).1
    rw [List.length_map] at hil
    rw [Nat.add_assoc, d4 _ (by omega) (by omega)]
    exact c3 i v k (by omega) hi hk
  · have hs := stS_key (k2 := fun a => kv q t c (L[a]?.getD 0)) (by
      intro x y hx hy
      have hx := List.mem_range.mp hx
      have hy := List.mem_range.mp hy
      have ex := a4 x _ (List.getElem?_eq_getElem hx)
      have ey := a4 y _ (List.getElem?_eq_getElem hy)
      simp only [ex, ey, kv, List.getElem?_eq_getElem hx, List.getElem?_eq_getElem hy, Option.getD_some]) b4
    have hm := stS_map (g := fun a => L[a]?.getD 0) (key := kv q t c) hs
    have e : (List.range L.length).map (fun a => L[a]?.getD 0) = L := by
      apply List.ext_getElem?
      intro i
      rw [List.getElem?_map]
      by_cases g : i < L.length
      · rw [List.getElem?_range g]
        simp [g]
      · rw [List.getElem?_eq_none (l := L) (by omega), List.getElem?_eq_none (l := List.range L.length) (by rw [List.length_range]; omega)]
        rfl
    rw [e] at hm
    exact hm
