/-! the class: borders, plans put in -/
theorem half_rem {y z k : Nat} (hz : 0 < z) (hzy : z ≤ y) (hy : y < 2 ^ (k + 1)) : y % z < 2 ^ k := by
  have h1 := Nat.mod_lt y hz
  have h2 : y % z + z ≤ y := by
    have := Nat.div_add_mod y z
    have h3 : 1 ≤ y / z := (Nat.one_le_div_iff hz).mpr hzy
    have h4 : z * 1 ≤ z * (y / z) := Nat.mul_le_mul_left z h3
    omega
  rw [Nat.pow_succ] at hy
  omega
theorem gcd_step {x y : Nat} : Nat.gcd x y = Nat.gcd y (x % y) := by rw [Nat.gcd_comm x y, Nat.gcd_rec y x, Nat.gcd_comm]
theorem l0 : (0 : Int64) = lN 0 := rfl
theorem eu_C {N : Nat} : ∀ (k x y n r : Nat), x < 2 ^ 31 → y < 2 ^ 31 → y < 2 ^ k → 2 * k + 1 ≤ n → r + (2 * k + 1) ≤ 200 → fS_commonDivisor_L9 N n (lN x) (lN y) (nI r) = some (lN (Nat.gcd x y)) := by
  have stop : ∀ (x n r : Nat), x < 2 ^ 31 → 0 < n → r < 200 → fS_commonDivisor_L9 N n (lN x) (lN 0) (nI r) = some (lN (Nat.gcd x 0)) := by
    intro x n r hx hn hr
    obtain ⟨n, rfl⟩ : ∃ m, n = m + 1 := ⟨n - 1, by omega⟩
    rw [fS_commonDivisor_L9, if_neg (show ¬ (200 : Int32) ≤ nI r from nI_ge (b := 200) (by omega) (by omega)), if_pos (show lg_cmp (lN 0) (0 : Int64) = 0 from cmp_same _), Nat.gcd_zero_right]
  have step : ∀ (x y n r : Nat), x < 2 ^ 31 → y < 2 ^ 31 → 0 < y → r < 200 → fS_commonDivisor_L9 N (n + 1) (lN x) (lN y) (nI r) = fS_commonDivisor_L9 N n (lN y) (lN (x % y)) (nI (r + 1)) := by
    intro x y n r hx hy h0 hr
    rw [fS_commonDivisor_L9, if_neg (show ¬ (200 : Int32) ≤ nI r from nI_ge (b := 200) (by omega) (by omega)), l0, if_neg (fun h => by have := (cmp_eq0 (show y < 2 ^ 63 by omega) (by omega)).mp h; omega)]
    unfold nz64
    rw [l0, if_neg (fun h => by have := (pk_lEQ (show y < 2 ^ 63 by omega) (by omega)).mp h; omega), pk_lRem (by omega) h0 (by omega), nI_1]
  intro k
  induction k with
  | zero =>
    intro x y n r hx hy hk hn hr
    have : y = 0 := by omega
    subst this
    exact stop x n r hx (by omega) (by omega)
  | succ k ih =>
    intro x y n r hx hy hk hn hr
    by_cases h0 : y = 0
    · subst h0; exact stop x n r hx (by omega) (by omega)
    · obtain ⟨n, rfl⟩ : ∃ m, n = m + 1 := ⟨n - 1, by omega⟩
      have hlt := Nat.mod_lt x (show 0 < y by omega)
      rw [step x y n r hx hy (by omega) (by omega), gcd_step]
      by_cases h1 : x % y = 0
      · rw [h1]; exact stop y n (r + 1) hy (by omega) (by omega)
      · obtain ⟨n, rfl⟩ : ∃ m, n = m + 1 := ⟨n - 1, by omega⟩
        have hlt2 := Nat.mod_lt y (show 0 < x % y by omega)
        rw [step y (x % y) n (r + 1) hy (by omega) (by omega) (by omega), gcd_step]
        exact ih (x % y) (y % (x % y)) n (r + 1 + 1) (by omega) (by omega) (half_rem (by omega) (by omega) hk) (by omega) (by omega)
theorem eu_M {N : Nat} {τ : MSt} : ∀ (k x y n : Nat), x < 2 ^ 31 → y < 2 ^ 31 → y < 2 ^ k → 2 * k + 1 ≤ n → fM_divisor_L6 N τ n (lN x) (lN y) = some (lN (Nat.gcd x y)) := by
  have stop : ∀ (x n : Nat), x < 2 ^ 31 → 0 < n → fM_divisor_L6 N τ n (lN x) (lN 0) = some (lN (Nat.gcd x 0)) := by
    intro x n hx hn
    obtain ⟨n, rfl⟩ : ∃ m, n = m + 1 := ⟨n - 1, by omega⟩
    rw [fM_divisor_L6, if_pos (show lg_cmp (lN 0) (0 : Int64) = 0 from cmp_same _), Nat.gcd_zero_right]
  have step : ∀ (x y n : Nat), x < 2 ^ 31 → y < 2 ^ 31 → 0 < y → fM_divisor_L6 N τ (n + 1) (lN x) (lN y) = fM_divisor_L6 N τ n (lN y) (lN (x % y)) := by
    intro x y n hx hy h0
    rw [fM_divisor_L6, l0, if_neg (fun h => by have := (cmp_eq0 (show y < 2 ^ 63 by omega) (by omega)).mp h; omega)]
    unfold nz64
    rw [l0, if_neg (fun h => by have := (pk_lEQ (show y < 2 ^ 63 by omega) (by omega)).mp h; omega), pk_lRem (by omega) h0 (by omega)]
  intro k
  induction k with
  | zero =>
    intro x y n hx hy hk hn
    have : y = 0 := by omega
    subst this
    exact stop x n hx (by omega)
  | succ k ih =>
    intro x y n hx hy hk hn
    by_cases h0 : y = 0
    · subst h0; exact stop x n hx (by omega)
    · obtain ⟨n, rfl⟩ : ∃ m, n = m + 1 := ⟨n - 1, by omega⟩
      have hlt := Nat.mod_lt x (show 0 < y by omega)
      rw [step x y n hx hy (by omega), gcd_step]
      by_cases h1 : x % y = 0
      · rw [h1]; exact stop y n hy (by omega)
      · obtain ⟨n, rfl⟩ : ∃ m, n = m + 1 := ⟨n - 1, by omega⟩
        have hlt2 := Nat.mod_lt y (show 0 < x % y by omega)
        rw [step y (x % y) n hy (by omega) (by omega), gcd_step]
        exact ih (x % y) (y % (x % y)) n (by omega) (by omega) (half_rem (by omega) (by omega) hk) (by omega)
def setB (σ : CSt) (i u v : Nat) : CSt := cB (cB σ 503 i (lN (u / Nat.gcd u v))) 504 i (lN (v / Nat.gcd u v))
theorem setBorder_ok {N : Nat} (hN : 200 ≤ N) {σ : CSt} {i u v : Nat} (hi : i ≤ 120) (hu : u < 2 ^ 26) (hv : v < 2 ^ 26) (h0 : 0 < v) : fS_setBorder N σ (nI i) (lN u) (lN v) = some (setB σ i u v) := by
  have hg := Nat.gcd_pos_of_pos_right u h0
  have hg2 : Nat.gcd u v ≤ v := Nat.gcd_le_right u h0
  unfold fS_setBorder fS_commonDivisor
  have := eu_C (N := N) 26 u v N 0 (by omega) (by omega) hv (by omega) (by omega)
  rw [nI_0] at this
  rw [this, bs, if_neg (nI_pos (by omega)), if_neg (show ¬ (120 : Int32) < nI i from nI_nlt (a := 120) hi (by omega)), l0, if_neg (fun h => by have := (cmp_le (show Nat.gcd u v < 2 ^ 63 by omega) (by omega)).mp h; omega)]
  unfold nz64
  rw [l0, if_neg (fun h => by have := (pk_lEQ (show Nat.gcd u v < 2 ^ 63 by omega) (by omega)).mp h; omega), chk_nI (by omega) (by omega), if_neg (fun h => by have := (pk_lEQ (show Nat.gcd u v < 2 ^ 63 by omega) (by omega)).mp h; omega), chk_nI (by omega) (by omega), nI_cl (by omega), pk_lDiv (by omega) hg (by omega), pk_lDiv (by omega) hg (by omega)]
  rfl
/-- only the chooser's and the spans' numbers change -/
def FS (σ σ' : CSt) : Prop := (∀ k, 100 ≤ k → k ≠ 500 → σ'.1 k = σ.1 k) ∧ (∀ k, 100 ≤ k → σ'.2.2.1 k = σ.2.2.1 k) ∧ (∀ k, 100 ≤ k → (k < 503 ∨ 506 < k) → σ'.2.2.2.1 k = σ.2.2.2.1 k) ∧ (∀ k, k ≠ 502 → σ'.2.2.2.2.1 k = σ.2.2.2.2.1 k) ∧ σ'.2.2.2.2.2 = σ.2.2.2.2.2
theorem FS.refl (σ : CSt) : FS σ σ := ⟨fun _ _ _ => rfl, fun _ _ => rfl, fun _ _ _ => rfl, fun _ _ => rfl, rfl⟩
theorem FS.trans {a b c : CSt} (h : FS a b) (g : FS b c) : FS a c := ⟨fun k h1 h2 => (g.1 k h1 h2).trans (h.1 k h1 h2), fun k h1 => (g.2.1 k h1).trans (h.2.1 k h1), fun k h1 h2 => (g.2.2.1 k h1 h2).trans (h.2.2.1 k h1 h2), fun k h1 => (g.2.2.2.1 k h1).trans (h.2.2.2.1 k h1), g.2.2.2.2.trans h.2.2.2.2⟩
theorem FH.FS {σ σ' : CSt} (h : FH σ σ') : FS σ σ' := ⟨fun k h1 _ => h.1 k h1, h.2.1, fun k h1 _ => h.2.2.1 k h1, fun k _ => by rw [h.2.2.2], by rw [h.2.2.2]⟩
theorem setB_FS (σ : CSt) (i u v : Nat) : FS σ (setB σ i u v) := by
  unfold setB
  refine ⟨fun _ _ _ => rfl, fun _ _ => rfl, fun k _ h => ?_, fun _ _ => rfl, rfl⟩
  rw [cB_4, if_neg (by omega), cB_4, if_neg (by omega)]
theorem setB_3 (σ : CSt) (i u v j : Nat) : (setB σ i u v).2.2.2.1 503 j = if j = i then lN (u / Nat.gcd u v) else σ.2.2.2.1 503 j := by
  unfold setB
  rw [cB_4, if_neg (by omega), cB_4, if_pos rfl, updL_at]
theorem setB_4 (σ : CSt) (i u v j : Nat) : (setB σ i u v).2.2.2.1 504 j = if j = i then lN (v / Nat.gcd u v) else σ.2.2.2.1 504 j := by
  unfold setB
  rw [cB_4, if_pos rfl, cB_4, if_neg (show ¬ 504 = 503 by omega), updL_at]
theorem CQd_FS {q : Qd} {σ σ' : CSt} (h : FS σ σ') (hC : CQd q σ) : CQd q σ' := CQd_same (fun k h1 _ => h.1 k (by omega) (by omega)) (fun k h1 _ => h.2.1 k (by omega)) hC
theorem Meas_FS {q : Qd} {σ σ' : CSt} (h : FS σ σ') (hm : Measured q σ) : Measured q σ' := by
  unfold Measured
  rw [h.2.2.1 201 (by omega) (by omega), h.2.2.1 202 (by omega) (by omega)]
  exact hm
/-- the spans' plans -/
def Rw (q : Qd) (σ : CSt) (E : List Ent) : Prop := σ.1 500 = nI E.length ∧ ∀ i e, E[i]? = some e → σ.2.2.2.2.1 502 i = some (pl q (2 ^ qT q - 1) e)
theorem Rw_FH {q : Qd} {σ σ' : CSt} {E : List Ent} (h : FH σ σ') (hR : Rw q σ E) : Rw q σ' E := by
  unfold Rw
  rw [h.1 500 (by omega), h.2.2.2]
  exact hR
theorem Rw_setB {q : Qd} {σ : CSt} {E : List Ent} (i u v : Nat) (hR : Rw q σ E) : Rw q (setB σ i u v) E := hR
theorem planOf_ok {N : Nat} {q : Qd} {σ : CSt} {E : List Ent} (hR : Rw q σ E) (h120 : E.length ≤ 120) {i : Nat} {e : Ent} (he : E[i]? = some e) : fS_planOf N σ (nI i) = some (some (pl q (2 ^ qT q - 1) e)) := by
  have hi := (List.getElem?_eq_some_iff.mp he).1
  unfold fS_planOf
  rw [if_neg (nI_pos (by omega)), hR.1, if_neg (nI_ge hi (by omega)), if_pos (show nI i < (120 : Int32) from nI_lt (b := 120) (by omega) (by omega)), chk_nI (by omega) (by omega), nI_cl (by omega), hR.2 i e he]
theorem shift_ok {N : Nat} {v : Option Pl} (K : CSt → Int32 → Option Pl → Option (Int32 × CSt)) {i : Nat} : ∀ (n m : Nat) (σ : CSt), i + m < 120 → m < n → ∃ σ', fS_insert_L32 N K n σ (nI i) v (nI (i + m)) = K σ' (nI i) v ∧ FS σ σ' ∧ σ'.1 = σ.1 ∧ σ'.2.2.2.1 = σ.2.2.2.1 ∧ ∀ j, σ'.2.2.2.2.1 502 j = if i < j ∧ j ≤ i + m then σ.2.2.2.2.1 502 (j - 1) else σ.2.2.2.2.1 502 j := by
  intro n
  induction n with
  | zero => intro m σ _ h; omega
  | succ n ih =>
    intro m σ hm hn
    rw [fS_insert_L32]
    cases m with
    | zero =>
      rw [if_pos (nI_le (by omega) (by omega))]
      refine ⟨σ, rfl, FS.refl σ, rfl, rfl, ?_⟩
      intro j
      rw [if_neg (by omega)]
    | succ m =>
      have e1 : i + (m + 1) = i + m + 1 := by omega
      rw [if_neg (nI_ge (by omega) (by omega)), e1, nI_pred, chk_nI (by omega) (by omega), chk_nI (by omega) (by omega), nI_cl (by omega), nI_cl (by omega)]
      have e2 : nI (i + m + 1) + -1 = nI (i + m) := by rw [← Int32.sub_eq_add_neg]; exact nI_pred _
      rw [e2]
      obtain ⟨σ', h1, h2, h3, h4, h5⟩ := ih m (cP σ 502 (i + m + 1) (σ.2.2.2.2.1 502 (i + m))) (by omega) (by omega)
      have f1 : FS σ (cP σ 502 (i + m + 1) (σ.2.2.2.2.1 502 (i + m))) := ⟨fun _ _ _ => rfl, fun _ _ => rfl, fun _ _ _ => rfl, fun k h => by rw [cP_5, if_neg h], rfl⟩
      refine ⟨σ', h1, f1.trans h2, h3, h4, ?_⟩
      intro j
      have a : ∀ j, (cP σ 502 (i + m + 1) (σ.2.2.2.2.1 502 (i + m))).2.2.2.2.1 502 j = if j = i + m + 1 then σ.2.2.2.2.1 502 (i + m) else σ.2.2.2.2.1 502 j := fun j => rfl
      rw [h5, a, a]
      by_cases c1 : j = i + m + 1
      · rw [if_neg (by omega), if_pos c1, if_pos (by omega), c1]; rfl
      · by_cases c2 : i < j ∧ j ≤ i + m
        · rw [if_pos c2, if_neg (by omega), if_pos (by omega)]
        · rw [if_neg c2, if_neg c1, if_neg (by omega)]
theorem insert_ok {N : Nat} (hN : 200 ≤ N) {q : Qd} {σ : CSt} {E : List Ent} (hR : Rw q σ E) {i : Nat} (hi : i ≤ E.length) (h120 : E.length < 120) (g : Ent) : ∃ σ', fS_insert N σ (nI i) (some (pl q (2 ^ qT q - 1) g)) = some (1, σ') ∧ FS σ σ' ∧ Rw q σ' (E.take i ++ g :: E.drop i) ∧ σ'.2.2.2.1 = σ.2.2.2.1 := by
  unfold fS_insert on
  show ∃ σ', (if (120 : Int32) ≤ σ.1 500 then _ else _) = some (1, σ') ∧ _
  rw [hR.1, if_neg (show ¬ (120 : Int32) ≤ nI E.length from nI_ge (b := 120) h120 (by omega)), if_neg (nI_pos (by omega)), if_pos (nI_le hi (by omega))]
  obtain ⟨σ', h1, h2, h3, h4, h5⟩ := shift_ok (N := N) (v := some (pl q (2 ^ qT q - 1) g)) (fun (σ : CSt) (x1 : Int32) (x2 : Option Pl) => chk x1 120 (some ((1 : Int32), (cI (cP σ 502 x1.toNatClampNeg x2) 500 (((cP σ 502 x1.toNatClampNeg x2).1 500) + (1 : Int32)))))) (i := i) N (E.length - i) σ (by omega) (by omega)
  rw [show i + (E.length - i) = E.length by omega] at h1 h5
  rw [h1, chk_nI (by omega) (by omega), nI_cl (by omega), cP_1, h3, hR.1, nI_1]
  refine ⟨_, rfl, ?_, ⟨?_, ?_⟩, h4⟩
  · refine h2.trans ⟨fun k _ h => by rw [cI_1, if_neg h, cP_1], fun _ _ => rfl, fun _ _ _ => rfl, fun k h => by rw [cI_2, cP_5, if_neg h], rfl⟩
  · show nI (E.length + 1) = _
    congr 1
    simp only [List.length_append, List.length_take, List.length_cons, List.length_drop]
    omega
  · intro j e he
    have a : (cI (cP σ' 502 i (some (pl q (2 ^ qT q - 1) g))) 500 (nI (E.length + 1))).2.2.2.2.1 502 j = if j = i then some (pl q (2 ^ qT q - 1) g) else σ'.2.2.2.2.1 502 j := rfl
    rw [a, h5]
    have hl : (E.take i).length = i := by rw [List.length_take]; omega
    by_cases c1 : j = i
    · rw [if_pos c1]
      rw [c1, List.getElem?_append_right (by omega), hl, Nat.sub_self] at he
      have he : g = e := by simpa using he
      rw [he]
    · rw [if_neg c1]
      by_cases c2 : j < i
      · rw [if_neg (by omega)]
        rw [List.getElem?_append_left (by omega), List.getElem?_take_of_lt c2] at he
        exact hR.2 j e he
      · have hj : j - i = (j - 1 - i) + 1 := by omega
        rw [List.getElem?_append_right (by omega), hl, hj, List.getElem?_cons_succ, List.getElem?_drop, show i + (j - 1 - i) = j - 1 by omega] at he
        have hjl := (List.getElem?_eq_some_iff.mp he).1
        rw [if_pos (by omega)]
        exact hR.2 (j - 1) e he
