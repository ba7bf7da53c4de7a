/-! the class's sort: ranks, places -/
/-- only one int row of the class changes -/
def G1 (r : Nat) (σ σ' : CSt) : Prop := σ'.1 = σ.1 ∧ σ'.2.1 = σ.2.1 ∧ (∀ k, k ≠ r → σ'.2.2.1 k = σ.2.2.1 k) ∧ σ'.2.2.2 = σ.2.2.2
theorem G1.refl (r : Nat) (σ : CSt) : G1 r σ σ := ⟨rfl, rfl, fun _ _ => rfl, rfl⟩
theorem G1.trans {r : Nat} {a b c : CSt} (h : G1 r a b) (g : G1 r b c) : G1 r a c := ⟨g.1.trans h.1, g.2.1.trans h.2.1, fun k hk => (g.2.2.1 k hk).trans (h.2.2.1 k hk), g.2.2.2.trans h.2.2.2⟩
theorem G1_cA (σ : CSt) (r i : Nat) (v : Int32) : G1 r σ (cA σ r i v) := ⟨rfl, rfl, fun k hk => by rw [cA_3, if_neg hk], rfl⟩
theorem CQd_G1 {q : Qd} {r : Nat} (hr : 312 < r) {σ σ' : CSt} (h : G1 r σ σ') (hC : CQd q σ) : CQd q σ' := CQd_same (fun k _ _ => by rw [h.1]) (fun k _ _ => h.2.2.1 k (by omega)) hC
def fdv (σ : CSt) (t c r : Nat) : Int32 := σ.2.2.1 306 ((t * 8 + r) * 3 + c)
theorem field_any {N : Nat} {σ : CSt} {t r c : Nat} (ht : t < 4) (hr : r < 8) (hc : c < 3) : fQ_field N σ (nI t) (nI r) (nI c) = some (fdv σ t c r) := by
  unfold fQ_field
  rw [if_neg (nI_pos (by omega)), if_neg (show ¬ (4 : Int32) ≤ nI t from nI_ge (b := 4) ht (by omega)), if_neg (nI_pos (by omega)), if_neg (show ¬ (8 : Int32) ≤ nI r from nI_ge (b := 8) (by omega) (by omega)), if_neg (nI_pos (by omega)), if_pos (show nI c < (3 : Int32) from nI_lt (b := 3) hc (by omega))]
  rw [i_8, i_3, nI_mul, nI_add, nI_mul, nI_add, chk_nI (by omega) (by omega), nI_cl (by omega)]
  rfl
/-- how many rows have a lesser value -/
def rcnt (f : Nat → Int32) (r : Nat) : Nat → Nat
  | 0 => 0
  | o + 1 => rcnt f r o + (if f r ≤ f o then 0 else 1)
theorem rcnt_le (f : Nat → Int32) (r : Nat) : ∀ n, rcnt f r n ≤ n := by
  intro n
  induction n with
  | zero => exact Nat.le_refl _
  | succ n ih =>
    show rcnt f r n + _ ≤ n + 1
    split <;> omega
theorem rcnt_lt (f : Nat → Int32) {r : Nat} : ∀ n, r < n → rcnt f r n < n := by
  intro n
  induction n with
  | zero => intro h; omega
  | succ n ih =>
    intro h
    show rcnt f r n + (if f r ≤ f n then 0 else 1) < n + 1
    by_cases g : r = n
    · subst g
      rw [if_pos (Int32.le_refl _)]
      have := rcnt_le f r r
      omega
    · have := ih (by omega)
      split <;> omega
theorem rcnt_mono (f : Nat → Int32) {r s : Nat} (h : f r ≤ f s) : ∀ n, rcnt f r n ≤ rcnt f s n := by
  intro n
  induction n with
  | zero => exact Nat.le_refl _
  | succ n ih =>
    show rcnt f r n + (if f r ≤ f n then 0 else 1) ≤ rcnt f s n + (if f s ≤ f n then 0 else 1)
    by_cases g : f s ≤ f n
    · rw [if_pos g, if_pos (Int32.le_trans h g)]; omega
    · rw [if_neg g]; split <;> omega
theorem rcnt_str (f : Nat → Int32) {r s : Nat} (h : f r < f s) : ∀ n, r < n → rcnt f r n < rcnt f s n := by
  intro n
  induction n with
  | zero => intro h; omega
  | succ n ih =>
    intro hr
    show rcnt f r n + (if f r ≤ f n then 0 else 1) < rcnt f s n + (if f s ≤ f n then 0 else 1)
    by_cases g : r = n
    · subst g
      rw [if_pos (Int32.le_refl _), if_neg (Int32.not_le.mpr h)]
      have := rcnt_mono f (Int32.le_of_lt h) r
      omega
    · have := ih (by omega)
      by_cases g2 : f s ≤ f n
      · rw [if_pos g2, if_pos (Int32.le_trans (Int32.le_of_lt h) g2)]; omega
      · rw [if_neg g2]; split <;> omega
def rk (σ : CSt) (q : Qd) (t c r : Nat) : Nat := min (rcnt (fdv σ t c) r (qr q t)) 7
theorem rank_in {N : Nat} {q : Qd} (hq : WfQ q) {σ : CSt} (hC : CQd q σ) {t c r : Nat} (ht : t < 4) (hc : c < 3) (hr : r < 8) (K : CSt → Int32 → Int32 → Int32 → Int32 → Option CSt) : ∀ (n m o : Nat), o + m = qr q t → m < n → fR_findRanks_L14 N K n σ (nI t) (nI c) (nI r) (nI (rcnt (fdv σ t c) r o)) (nI o) = K σ (nI t) (nI c) (nI r) (nI (rcnt (fdv σ t c) r (qr q t))) := by
  have h8 := hq.2.2.1 t
  intro n
  induction n with
  | zero => intro m o _ h; omega
  | succ n ih =>
    intro m o ho hn
    rw [fR_findRanks_L14, rowsOf_any hq hC ht, bs]
    cases m with
    | zero => rw [if_pos (nI_le (by omega) (by omega)), show o = qr q t by omega]
    | succ m =>
      rw [if_neg (nI_ge (by omega) (by omega)), field_any ht (by omega) hc, bs, field_any ht hr hc, bs, nI_1, nI_1]
      have e : rcnt (fdv σ t c) r (o + 1) = rcnt (fdv σ t c) r o + (if fdv σ t c r ≤ fdv σ t c o then 0 else 1) := rfl
      by_cases g : fdv σ t c r ≤ fdv σ t c o
      · rw [if_pos g]
        rw [if_pos g] at e
        have e' : rcnt (fdv σ t c) r o = rcnt (fdv σ t c) r (o + 1) := e.symm
        rw [e']
        exact ih m (o + 1) (by omega) (by omega)
      · rw [if_neg g]
        rw [if_neg g] at e
        rw [← e]
        exact ih m (o + 1) (by omega) (by omega)
theorem ranks_ok {N : Nat} (hN : 20 ≤ N) {q : Qd} (hq : WfQ q) {t c : Nat} (ht : t < 4) (hc : c < 3) : ∀ (n m r : Nat) (σ : CSt), r + m = 8 → m < n → CQd q σ → (∀ j, j < r → σ.2.2.1 406 j = nI (rk σ q t c j)) → ∃ σ', fR_findRanks_L2 N n σ (nI t) (nI c) (nI r) = some σ' ∧ G1 406 σ σ' ∧ ∀ j, j < 8 → σ'.2.2.1 406 j = nI (rk σ' q t c j) := by
  intro n
  induction n with
  | zero => intro m r σ _ h; omega
  | succ n ih =>
    intro m r σ hr hn hC h6
    rw [fR_findRanks_L2]
    cases m with
    | zero =>
      rw [if_pos (show (8 : Int32) ≤ nI r from nI_le (a := 8) (by omega) (by omega))]
      exact ⟨σ, rfl, G1.refl _ σ, fun j hj => h6 j (by omega)⟩
    | succ m =>
      have h8 := hq.2.2.1 t
      have hin := rank_in (N := N) hq hC ht hc (show r < 8 by omega) (fun (σ : CSt) (x1 : Int32) (x2 : Int32) (x3 : Int32) (x4 : Int32) => chk x3 8 (fR_findRanks_L2 N n (cA σ 406 x3.toNatClampNeg (if (7 : Int32) < x4 then (7 : Int32) else x4)) x1 x2 (x3 + 1))) N (qr q t) 0 (by omega) (by omega)
      rw [show nI (rcnt (fdv σ t c) r 0) = (0 : Int32) from rfl, nI_0] at hin
      have hle := rcnt_le (fdv σ t c) r (qr q t)
      have hmin : (if (7 : Int32) < nI (rcnt (fdv σ t c) r (qr q t)) then (7 : Int32) else nI (rcnt (fdv σ t c) r (qr q t))) = nI (rk σ q t c r) := by
        unfold rk
        by_cases g : 7 < rcnt (fdv σ t c) r (qr q t)
        · rw [if_pos (show (7 : Int32) < nI (rcnt (fdv σ t c) r (qr q t)) from nI_lt (a := 7) g (by omega)), Nat.min_eq_right (by omega)]
          rfl
        · rw [if_neg (show ¬ (7 : Int32) < nI (rcnt (fdv σ t c) r (qr q t)) from nI_nlt (a := 7) (by omega) (by omega)), Nat.min_eq_left (by omega)]
      rw [if_neg (show ¬ (8 : Int32) ≤ nI r from nI_ge (b := 8) (by omega) (by omega)), hin, hmin, chk_nI (by omega) (by omega), nI_cl (by omega), nI_1]
      have f1 := G1_cA σ 406 r (nI (rk σ q t c r))
      have erk : ∀ j, rk (cA σ 406 r (nI (rk σ q t c r))) q t c j = rk σ q t c j := fun j => rfl
      obtain ⟨σ', a1, a2, a3⟩ := ih m (r + 1) (cA σ 406 r (nI (rk σ q t c r))) (by omega) (by omega) (CQd_G1 (by omega) f1 hC) (by
        intro j hj
        rw [erk, cA_3, if_pos rfl, upd_at]
        by_cases g : j = r
        · rw [if_pos g, g]
        · rw [if_neg g]; exact h6 j (by omega))
      exact ⟨σ', a1, f1.trans a2, a3⟩
/-- how many of a list have rank r -/
def rn (ρ : Nat → Nat) (r : Nat) (L : List Nat) : Nat := (L.filter fun v => decide (ρ v = r)).length
def rst (ρ : Nat → Nat) (L : List Nat) : Nat → Nat
  | 0 => 0
  | r + 1 => rst ρ L r + rn ρ r L
theorem rn_snoc (ρ : Nat → Nat) (r : Nat) (L : List Nat) (v : Nat) : rn ρ r (L ++ [v]) = rn ρ r L + (if ρ v = r then 1 else 0) := by
  unfold rn
  rw [List.filter_append, List.length_append]
  by_cases g : ρ v = r
  · rw [if_pos g]; simp [List.filter_cons, g]
  · rw [if_neg g]; simp [List.filter_cons, g]
theorem zero_loop {N : Nat} (K : CSt → Int32 → Int32 → Int32 → Option CSt) (x1 x2 x3 : Int32) : ∀ (n m i : Nat) (σ : CSt), i + m = 9 → m < n → (∀ j, j < i → σ.2.2.1 407 j = 0) → ∃ σ', fR_sort_L48 N K n σ x1 x2 x3 (nI i) = K σ' x1 x2 x3 ∧ G1 407 σ σ' ∧ ∀ j, j < 9 → σ'.2.2.1 407 j = 0 := by
  intro n
  induction n with
  | zero => intro m i σ _ h; omega
  | succ n ih =>
    intro m i σ hi hn h7
    rw [fR_sort_L48]
    cases m with
    | zero =>
      rw [if_pos (show (8 : Int32) < nI i from nI_lt (a := 8) (by omega) (by omega))]
      exact ⟨σ, rfl, G1.refl _ σ, fun j hj => h7 j (by omega)⟩
    | succ m =>
      rw [if_neg (show ¬ (8 : Int32) < nI i from nI_nlt (a := 8) (by omega) (by omega)), chk_nI (by omega) (by omega), nI_cl (by omega), nI_1]
      have f1 := G1_cA σ 407 i 0
      obtain ⟨σ', a1, a2, a3⟩ := ih m (i + 1) (cA σ 407 i 0) (by omega) (by omega) (by
        intro j hj
        rw [cA_3, if_pos rfl, upd_at]
        by_cases g : j = i
        · rw [if_pos g]
        · rw [if_neg g]; exact h7 j (by omega))
      exact ⟨σ', a1, f1.trans a2, a3⟩
theorem count_loop {N : Nat} {ρ : Nat → Nat} {t a n2 : Nat} {L : List Nat} (ht : t < 4) (hL : L.length ≤ 4096) (ha : a + L.length ≤ n2) (hn2 : n2 < 2 ^ 31) (hv : ∀ v, v ∈ L → v < 4096) (hρ : ∀ v, ρ v < 8) (K : CSt → Int32 → Int32 → Int32 → Option CSt) : ∀ (n m i : Nat) (σ : CSt), i + m = L.length → m < n → σ.2.2.2.2.2 402 = n2 → Seg (σ.2.2.1 402) a L → (∀ v, v ∈ L → σ.2.2.1 406 (v / 8 ^ t % 8) = nI (ρ v)) → σ.2.2.1 407 0 = 0 → (∀ r, r < 8 → σ.2.2.1 407 (r + 1) = nI (rn ρ r (L.take i))) → ∃ σ', fR_sort_L72 N K n σ (nI a) (nI (a + L.length)) (nI t) (nI (a + i)) = K σ' (nI a) (nI (a + L.length)) (nI t) ∧ G1 407 σ σ' ∧ σ'.2.2.1 407 0 = 0 ∧ ∀ r, r < 8 → σ'.2.2.1 407 (r + 1) = nI (rn ρ r L) := by
  intro n
  induction n with
  | zero => intro m i σ _ h; omega
  | succ n ih =>
    intro m i σ hi hn hl s2 h6 h70 h7
    rw [fR_sort_L72]
    cases m with
    | zero =>
      rw [if_pos (nI_le (by omega) (by omega))]
      refine ⟨σ, rfl, G1.refl _ σ, h70, fun r hr => ?_⟩
      have := h7 r hr
      rw [List.take_of_length_le (by omega)] at this
      exact this
    | succ m =>
      have hx : L[i]? = some L[i] := List.getElem?_eq_getElem (by omega)
      generalize L[i] = v at hx
      have hvm := List.mem_of_getElem? hx
      have hr := hρ v
      have hv4 := hv v hvm
      have e2 := s2 i v hx
      have hd : v / 8 ^ t % 8 < 8 := Nat.mod_lt _ (by omega)
      rw [if_neg (nI_ge (by omega) (by omega)), hl, chk_nI (by omega) (by omega), nI_cl (by omega), e2, rowIn_ok N (by omega) ht, bs, chk_nI hd (by omega), nI_cl (by omega), h6 v hvm, nI_1, chk_nI (by omega) (by omega), chk_nI (by omega) (by omega), nI_cl (by omega), h7 (ρ v) hr, nI_1, nI_1, Nat.add_assoc]
      have f1 := G1_cA σ 407 (ρ v + 1) (nI (rn ρ (ρ v) (L.take i) + 1))
      have ets : L.take (i + 1) = L.take i ++ [v] := by rw [List.take_add_one, hx]; rfl
      obtain ⟨σ', a1, a2, a3, a4⟩ := ih m (i + 1) (cA σ 407 (ρ v + 1) (nI (rn ρ (ρ v) (L.take i) + 1))) (by omega) (by omega) hl (by rw [f1.2.2.1 402 (by omega)]; exact s2) (fun w hw => by rw [f1.2.2.1 406 (by omega)]; exact h6 w hw) (by rw [cA_3, if_pos rfl, upd_at, if_neg (by omega)]; exact h70) (by
        intro r hr'
        rw [cA_3, if_pos rfl, upd_at, ets, rn_snoc]
        by_cases g : r = ρ v
        · rw [if_pos (by omega), if_pos g.symm, g]
        · rw [if_neg (by omega), if_neg (fun h => g h.symm), Nat.add_zero]
          exact h7 r hr')
      exact ⟨σ', a1, f1.trans a2, a3, a4⟩
theorem pref_loop {N : Nat} {ρ : Nat → Nat} {L : List Nat} (hL : L.length ≤ 4096) (K : CSt → Int32 → Int32 → Int32 → Option CSt) (x1 x2 x3 : Int32) : ∀ (n m i : Nat) (σ : CSt), i + m = 9 → 0 < i → m < n → (∀ j, j < i → σ.2.2.1 407 j = nI (rst ρ L j)) → (∀ r, i ≤ r + 1 → r < 8 → σ.2.2.1 407 (r + 1) = nI (rn ρ r L)) → ∃ σ', fR_sort_L114 N K n σ x1 x2 x3 (nI i) = K σ' x1 x2 x3 ∧ G1 407 σ σ' ∧ ∀ j, j < 9 → σ'.2.2.1 407 j = nI (rst ρ L j) := by
  intro n
  induction n with
  | zero => intro m i σ _ _ h; omega
  | succ n ih =>
    intro m i σ hi h0 hn h7 h8
    rw [fR_sort_L114]
    cases m with
    | zero =>
      rw [if_pos (show (8 : Int32) < nI i from nI_lt (a := 8) (by omega) (by omega))]
      exact ⟨σ, rfl, G1.refl _ σ, fun j hj => h7 j (by omega)⟩
    | succ m =>
      obtain ⟨r, rfl⟩ : ∃ r, i = r + 1 := ⟨i - 1, by omega⟩
      rw [if_neg (show ¬ (8 : Int32) < nI (r + 1) from nI_nlt (a := 8) (by omega) (by omega)), nI_pred, chk_nI (by omega) (by omega), chk_nI (by omega) (by omega), chk_nI (by omega) (by omega), nI_cl (by omega), nI_cl (by omega), h8 r (by omega) (by omega), h7 r (by omega), nI_add, nI_1]
      have e : rn ρ r L + rst ρ L r = rst ρ L (r + 1) := Nat.add_comm _ _
      rw [e]
      have f1 := G1_cA σ 407 (r + 1) (nI (rst ρ L (r + 1)))
      obtain ⟨σ', a1, a2, a3⟩ := ih m (r + 1 + 1) (cA σ 407 (r + 1) (nI (rst ρ L (r + 1)))) (by omega) (by omega) (by omega) (by
        intro j hj
        rw [cA_3, if_pos rfl, upd_at]
        by_cases g : j = r + 1
        · rw [if_pos g, g]
        · rw [if_neg g]; exact h7 j (by omega)) (by
        intro s hs hs8
        rw [cA_3, if_pos rfl, upd_at, if_neg (by omega)]
        exact h8 s (by omega) hs8)
      exact ⟨σ', a1, f1.trans a2, a3⟩
