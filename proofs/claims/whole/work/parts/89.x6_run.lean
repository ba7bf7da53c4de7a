/-! run: the code's digits, one by one -/
def pm (q : Qd) : Nat → Nat
  | 0 => 1
  | t + 1 => pm q t * max 1 (qr q t)
theorem pr_pm (q : Qd) (S : Nat) : ∀ k, rowsP q S k ≤ pm q k := by
  intro k
  induction k with
  | zero => exact Nat.le_refl _
  | succ k ih =>
    show rowsP q S k * (if S / 2 ^ k % 2 = 0 then 1 else qr q k) ≤ pm q k * max 1 (qr q k)
    refine Nat.mul_le_mul ih ?_
    split <;> omega
theorem pm_top {q : Qd} (hq : WfQ q) : ∀ j, pm q (qT q + j) = pm q (qT q) := by
  intro j
  induction j with
  | zero => rfl
  | succ j ih =>
    show pm q (qT q + j) * max 1 (qr q (qT q + j)) = _
    rw [ih, hq.2.2.2.1 _ (by omega)]
    simp
theorem pm_4 {q : Qd} (hq : WfQ q) : pm q 4 = pm q (qT q) := by
  have := pm_top hq (4 - qT q)
  rw [show qT q + (4 - qT q) = 4 by have := hq.1; omega] at this
  exact this
theorem pm_le {q : Qd} (hq : WfQ q) : ∀ k, pm q k ≤ 8 ^ k := by
  intro k
  induction k with
  | zero => exact Nat.le_refl _
  | succ k ih =>
    have := hq.2.2.1 k
    show pm q k * max 1 (qr q k) ≤ 8 ^ (k + 1)
    rw [Nat.pow_succ]
    exact Nat.mul_le_mul ih (by omega)
theorem pm_pos (q : Qd) : ∀ k, 0 < pm q k := by
  intro k
  induction k with
  | zero => exact Nat.one_pos
  | succ k ih => exact Nat.mul_pos ih (by omega)
theorem pr_mul {q : Qd} {S l : Nat} (hS : S < 16) (hs : sub1 S l = true) : ∀ k, k ≤ 4 → rowsP q S k = rowsP q l k * rowsP q (S - l) k := by
  have hb := b_sub hS hs
  have hl := sub1_ok hs
  intro k
  induction k with
  | zero => intro _; rfl
  | succ k ih =>
    intro hk
    have d := b_disj (show l < 16 by omega) (show S - l < 16 by omega) hb.2.2.2.1 k (by omega)
    have o := bit_or l (S - l) k
    rw [hb.2.2.2.2.1] at o
    have m1 : l / 2 ^ k % 2 < 2 := Nat.mod_lt _ (by omega)
    have m2 : (S - l) / 2 ^ k % 2 < 2 := Nat.mod_lt _ (by omega)
    show rowsP q S k * (if S / 2 ^ k % 2 = 0 then 1 else qr q k) = (rowsP q l k * (if l / 2 ^ k % 2 = 0 then 1 else qr q k)) * (rowsP q (S - l) k * (if (S - l) / 2 ^ k % 2 = 0 then 1 else qr q k))
    rw [ih (by omega), o]
    by_cases c1 : l / 2 ^ k % 2 = 0
    · by_cases c2 : (S - l) / 2 ^ k % 2 = 0
      · rw [c1, c2, if_pos rfl, if_pos (by decide), Nat.mul_one, Nat.mul_one, Nat.mul_one]
      · have c2 : (S - l) / 2 ^ k % 2 = 1 := by omega
        rw [c1, c2, if_pos rfl, if_neg (by decide), if_neg (by decide), Nat.mul_one, Nat.mul_assoc]
    · have c1' : l / 2 ^ k % 2 = 1 := by omega
      have c2 : (S - l) / 2 ^ k % 2 = 0 := by omega
      rw [c1', c2, if_pos rfl, if_neg (by decide), if_neg (by decide), Nat.mul_one, Nat.mul_right_comm]
/-- both hold the same stack -/
def Rst (q : Qd) (n3 : Nat) (SL : Stk) (σ : CSt) (τ : MSt) : Prop := CQd q σ ∧ MQd q τ ∧ σ.1 410 = nI SL.length ∧ τ.1 36 = nI SL.length ∧ CS SL σ ∧ MS SL τ ∧ σ.1 400 = τ.1 37 ∧ σ.2.2.2.2.2 402 = n3 + 4 ∧ σ.2.2.2.2.2 403 = n3
def ix (m : Nat) : Int32 := nI m - 1
theorem ix_s (m : Nat) : ix (m + 1) = nI m := nI_pred m
theorem ix_p (m : Nat) : nI m + (-1) = ix m := by
  unfold ix
  rw [Int32.sub_eq_add_neg]
theorem step_C {N : Nat} {q : Qd} {S0 n m o : Nat} {e0 : Ent} (hS0 : S0 < 16) (h0 : 0 < S0) (hc0 : eC e0 < 2 ^ 31) (hm : o + (m + 1) = dg S0) (K : CSt → Option Pl → Option (Int32 × CSt)) (σ : CSt) : fR_work_L21 N K (n + 1) σ (some (pl q S0 e0)) (ix (m + 1)) = (if (4 : Int32) ≤ nI (eC e0 / 8 ^ o % 8) then (fR_joinTopTwo N σ (nI (eC e0 / 8 ^ o % 8) - (4 : Int32))).bind fun r_48 => fR_work_L21 N K n r_48 (some (pl q S0 e0)) (ix m) else (fR_pushRows N σ (nI (eC e0 / 8 ^ o % 8))).bind fun r_38 => fR_work_L21 N K n r_38 (some (pl q S0 e0)) (ix m)) := by
  have hd := dg_le S0 hS0
  rw [fR_work_L21, ix_s, if_neg (nI_pos (by omega)), onS]
  have hcl : fP_codeLength N σ (pl q S0 e0) = some (nI (dg S0)) := by
    unfold fP_codeLength pl
    show (fJ_bitCount_0f7a4 N (nI S0)).bind _ = _
    rw [bitC N (by omega), bs, dg_I S0 (by omega) h0]
  have hcn : fP_codeNumber N σ (pl q S0 e0) (nI m) = some (nI (eC e0 / 8 ^ o % 8)) := by
    unfold fP_codeNumber
    rw [hcl, bs]
    show some ((nI (eC e0) >>> (((3 : Int32) * ((nI (dg S0) - 1) - nI m)) &&& 31)) &&& 7) = _
    have e1 : nI (dg S0) - (1 : Int32) = nI (dg S0 - 1) := nI_sub (b := 1) (by omega)
    have e : (8 : Nat) ^ o = 2 ^ (3 * o) := by rw [Nat.pow_mul]
    rw [e1, nI_sub (by omega), show dg S0 - 1 - m = o by omega, pk_shrN hc0 _ _ (sh8 o (by omega)), show (7 : Int32) = nI (2 ^ 3 - 1) from rfl, fa_mask, ← e]
  rw [hcn, bs, ix_p]
theorem step_M {N : Nat} (hN : 20 ≤ N) {S0 n m o i c : Nat} {e0 : Ent} (hS0 : S0 < 16) (h0 : 0 < S0) (hc0 : eC e0 < 2 ^ 31) (hm : o + (m + 1) = dg S0) (hic : i < c) (hc : c ≤ 60) (K : MSt → Int32 → Option (Int32 × MSt)) (τ : MSt) (h11 : τ.1 11 = nI c) (h12 : τ.2.2.1 12 i = nI (eC e0)) (h13 : τ.2.2.1 13 i = nI S0) : fM_run_L35 N K (n + 1) τ (nI i) (ix (m + 1)) = (if (4 : Int32) ≤ nI (eC e0 / 8 ^ o % 8) then (fM_joinTop N τ (nI (eC e0 / 8 ^ o % 8) - (4 : Int32))).bind fun r_67 => fM_run_L35 N K n r_67 (nI i) (ix m) else (fM_readAll N τ (nI (eC e0 / 8 ^ o % 8))).bind fun r_56 => fM_run_L35 N K n r_56 (nI i) (ix m)) := by
  have hd := dg_le S0 hS0
  rw [fM_run_L35, ix_s, if_neg (nI_pos (by omega))]
  have hcn : fM_code N τ (nI i) (nI m) = some (nI (eC e0 / 8 ^ o % 8)) := by
    unfold fM_code fM_isPlan
    rw [h11, if_neg (nI_pos (by omega)), if_neg (nI_ge hic (by omega)), bs, if_neg n10, chk_nI (by omega) (by omega), nI_cl (by omega), h13, digits_ok (by omega) hS0 h0, bs, if_neg (nI_pos (by omega)), if_pos (nI_lt (by omega) (by omega)), chk_nI (by omega) (by omega), h12]
    have e1 : nI (dg S0) - (1 : Int32) = nI (dg S0 - 1) := nI_sub (b := 1) (by omega)
    have e : (8 : Nat) ^ o = 2 ^ (3 * o) := by rw [Nat.pow_mul]
    rw [e1, nI_sub (by omega), show dg S0 - 1 - m = o by omega, pk_shrN hc0 _ _ (sh8 o (by omega)), show (7 : Int32) = nI (2 ^ 3 - 1) from rfl, fa_mask, ← e]
  rw [hcn, bs, ix_p]
theorem dig_parts {x k dl dr a b : Nat} (hb : b < 8 ^ dr) (ha : a < 8 ^ dl) (hk : k < 4) (h : x % 8 ^ (dl + dr + 1) = ((4 + k) * 8 ^ dl + a) * 8 ^ dr + b) : x % 8 ^ dr = b ∧ x / 8 ^ dr % 8 ^ dl = a ∧ x / 8 ^ (dr + dl) % 8 = 4 + k := by
  have pr : 0 < 8 ^ dr := Nat.pow_pos (by omega)
  have pl : 0 < 8 ^ dl := Nat.pow_pos (by omega)
  have e1 : (8 : Nat) ^ (dl + dr + 1) = 8 ^ dr * 8 ^ (dl + 1) := by rw [← Nat.pow_add]; congr 1; omega
  have e2 : (8 : Nat) ^ (dl + 1) = 8 ^ dl * 8 := Nat.pow_succ 8 dl
  have h1 : x / 8 ^ dr % 8 ^ (dl + 1) = (4 + k) * 8 ^ dl + a := by
    rw [← Nat.mod_mul_right_div_self, ← e1, h, Nat.mul_comm _ (8 ^ dr), Nat.mul_add_div pr, Nat.div_eq_of_lt hb, Nat.add_zero]
  refine ⟨?_, ?_, ?_⟩
  · have : x % 8 ^ (dl + dr + 1) % 8 ^ dr = x % 8 ^ dr := Nat.mod_mod_of_dvd _ ⟨8 ^ (dl + 1), e1⟩
    rw [← this, h, Nat.mul_comm _ (8 ^ dr), Nat.mul_add_mod, Nat.mod_eq_of_lt hb]
  · have : x / 8 ^ dr % 8 ^ (dl + 1) % 8 ^ dl = x / 8 ^ dr % 8 ^ dl := Nat.mod_mod_of_dvd _ ⟨8, e2⟩
    rw [← this, h1, Nat.mul_comm _ (8 ^ dl), Nat.mul_add_mod, Nat.mod_eq_of_lt ha]
  · rw [Nat.pow_add, ← Nat.div_div_eq_div_mul, ← Nat.mod_mul_right_div_self, ← e2, h1, Nat.mul_comm _ (8 ^ dl), Nat.mul_add_div pl, Nat.div_eq_of_lt ha, Nat.add_zero]
theorem add_mul1 {a b : Nat} (ha : 0 < a) (hb : 0 < b) : a + b ≤ a * b + 1 := by
  obtain ⟨a, rfl⟩ : ∃ k, a = k + 1 := ⟨a - 1, by omega⟩
  obtain ⟨b, rfl⟩ : ∃ k, b = k + 1 := ⟨b - 1, by omega⟩
  rw [Nat.succ_mul, Nat.mul_succ]
  omega
/-- both joins leave the same list -/
theorem join_same {q : Qd} (hq : WfQ q) {l r k p : Nat} {L L' R M : List Nat} (hl : l < 16) (hr : r < 16) (h0 : l &&& r = 0) (hp : p < qP q) (hb : btw q p l r) (hL : ∀ x, x ∈ L → Vc q l x) (hR : ∀ y, y ∈ R → Vc q r y) (h1 : (k = 2 ∧ stS (kv q (tL q p l) (cL q p l)) L L') ∨ (k ≠ 2 ∧ L' = L)) (h2 : (k = 2 ∧ stS (kv q (qt q p) (qc q p)) (JJ q l r L R) M) ∨ (k ≠ 2 ∧ M = JJ q l r L R)) : M = JJ q l r L' R := by
  rcases h1 with ⟨k1, s1⟩ | ⟨k1, rfl⟩
  · rcases h2 with ⟨-, s2⟩ | ⟨k2, -⟩
    · have := stS_flat (f := fun x => jx q l r x R) (kA := kv q (tL q p l) (cL q p l)) (kB := kv q (qt q p) (qc q p)) (L := L) (M := L') (by
        intro x hx z hz
        obtain ⟨y, hy, rfl⟩ := List.mem_map.mp hz
        have hy := List.mem_filter.mp hy
        exact key_left hq hp hl hr h0 hb (hL x hx) (hR y hy.1) hy.2) s1
      exact ss_uniq s2 this
    · exact absurd k1 k2
  · rcases h2 with ⟨k2, -⟩ | ⟨-, h⟩
    · exact absurd k2 k1
    · exact h
theorem run_ent {N : Nat} (hN : 30000 ≤ N) {q : Qd} (hq : WfQ q) (hW : Whole q) {S0 i c n3 : Nat} {e0 : Ent} (hS0 : S0 < 16) (h00 : 0 < S0) (hc0 : eC e0 < 2 ^ 31) (hic : i < c) (hc : c ≤ 60) (hn3 : pm q 4 ≤ n3) (hn3' : n3 ≤ 4096) (K : CSt → Option Pl → Option (Int32 × CSt)) (K' : MSt → Int32 → Option (Int32 × MSt)) : ∀ (z S : Nat), S ≤ z → S < 2 ^ qT q → ∀ (e : Ent), e ∈ PE q S → ∀ (o : Nat) (SL : Stk) (σ : CSt) (τ : MSt) (n n' : Nat), o + dg S ≤ dg S0 → eC e0 / 8 ^ o % 8 ^ dg S = eC e → Rst q n3 SL σ τ → τ.1 11 = nI c → τ.2.2.1 12 i = nI (eC e0) → τ.2.2.1 13 i = nI S0 → SL.length + bc S ≤ 4 → tt SL + rowsP q S 4 + bc S ≤ pm q 4 + 4 → (∀ x, x ∈ SL → x.2.length ≤ 4096) → ∃ L σ' τ', fR_work_L21 N K (n + dg S) σ (some (pl q S0 e0)) (ix (dg S0 - o)) = fR_work_L21 N K n σ' (some (pl q S0 e0)) (ix (dg S0 - (o + dg S))) ∧ fM_run_L35 N K' (n' + dg S) τ (nI i) (ix (dg S0 - o)) = fM_run_L35 N K' n' τ' (nI i) (ix (dg S0 - (o + dg S))) ∧ Rst q n3 ((S, L) :: SL) σ' τ' ∧ (∀ v, v ∈ L → Vc q S v) ∧ L.length ≤ rowsP q S 4 ∧ GR σ σ' ∧ HR τ τ' := by
  have hT := hq.1
  have h16 : 2 ^ qT q ≤ 16 := Nat.pow_le_pow_right (n := 2) (by omega) hT
  intro z
  induction z with
  | zero =>
    intro S hz hS e he
    have : S = 0 := by omega
    subst this
    have : PE q 0 = [] := ents_0 q 4
    rw [this] at he
    exact absurd he List.not_mem_nil
  | succ z ih =>
    intro S hz hS e he o SL σ τ n n' ho hdig hR h11 h12 h13 hlen htt hSl
    obtain ⟨C, M, c410, m36, cs, ms, st, l2, l3⟩ := hR
    have hprS := pr_pm q S 4
    have hpm := pm_le hq 4
    rcases (mem_PE (show S < 16 by omega)).mp he with ⟨t, ht, rfl, rfl⟩ | ⟨l, hk, k, hk3, a, ha, b, hb, rfl⟩
    · have hbc := bc_pow t (by omega)
      have hdg : dg (2 ^ t) = 1 := by unfold dg; rw [hbc]
      rw [hdg] at ho hdig ⊢
      rw [hbc] at hlen htt
      have hrt := one_rows q (show t < 4 by omega)
      rw [hrt] at htt
      have hd : eC e0 / 8 ^ o % 8 = t := by
        have : eC e0 / 8 ^ o % 8 ^ 1 = t := hdig
        exact this
      have hm : o + (dg S0 - o - 1 + 1) = dg S0 := by omega
      have sC := step_C (N := N) (q := q) (n := n) (m := dg S0 - o - 1) (o := o) hS0 h00 hc0 hm K σ
      have sM := step_M (N := N) (by omega) (n := n') (m := dg S0 - o - 1) (o := o) hS0 h00 hc0 hm hic hc K' τ h11 h12 h13
      rw [hd, if_neg (show ¬ (4 : Int32) ≤ nI t from nI_ge (b := 4) (by omega) (by omega))] at sC sM
      rw [show dg S0 - o - 1 + 1 = dg S0 - o by omega] at sC sM
      obtain ⟨σ1, a1, a2, a3, a4, a5⟩ := push_C (N := N) (by omega) hq C (show t < 4 by omega) (by omega) c410 cs l2 (by omega) (by omega)
      obtain ⟨τ1, b1, b2, b3, b4, b5, -⟩ := readAll_M (N := N) (by omega) hq M (show t < 4 by omega) (by omega) hSl m36 ms
      rw [a1, bs] at sC
      rw [b1, bs] at sM
      refine ⟨rds q t, σ1, τ1, ?_, ?_, ⟨CQd_GR a2 C, MQd_HR b2 M, a4, b4, a3, b3, by rw [a5, b5, st], by rw [a2.2.2]; exact l2, by rw [a2.2.2]; exact l3⟩, rds_Vc hq (by omega), by rw [rds_len, hrt]; exact Nat.le_refl _, a2, b2⟩
      · rw [sC, show dg S0 - o - 1 = dg S0 - (o + 1) by omega]
      · rw [sM, show dg S0 - o - 1 = dg S0 - (o + 1) by omega]
    · obtain ⟨hs, hlb⟩ := okB_ok hk
      have hl := sub1_ok hs
      have hbs := b_sub (show S < 16 by omega) hs
      have hla := eC_lt hq (show l < 16 by omega) ha
      have hlbb := eC_lt hq (show S - l < 16 by omega) hb
      have hdg : dg S = dg l + dg (S - l) + 1 := by unfold dg; omega
      have hpr := pr_mul (q := q) (show S < 16 by omega) hs 4 (Nat.le_refl _)
      have ppl := rows_pos hW.2.1 (show l < 2 ^ qT q by omega) 4
      have ppr := rows_pos hW.2.1 (show S - l < 2 ^ qT q by omega) 4
      have hab := add_mul1 ppl ppr
      have hpl := pr_pm q l 4
      have hprr := pr_pm q (S - l) 4
      rw [hdg] at ho hdig ⊢
      have hE : eC e0 / 8 ^ o % 8 ^ (dg l + dg (S - l) + 1) = ((4 + k) * 8 ^ dg l + eC a) * 8 ^ dg (S - l) + eC b := hdig
      obtain ⟨x1, x2, x3⟩ := dig_parts hlbb hla (by omega) hE
      have hle : rowsP q (S - l) 4 ≤ rowsP q l 4 * rowsP q (S - l) 4 := Nat.le_mul_of_pos_left _ ppl
      obtain ⟨R, σ1, τ1, r1, r2, r3, r4, r5, r6, r7⟩ := ih (S - l) (by omega) (by omega) b hb o SL σ τ (n + 1 + dg l) (n' + 1 + dg l) (by omega) x1 ⟨C, M, c410, m36, cs, ms, st, l2, l3⟩ h11 h12 h13 (by omega) (by omega) hSl
      have h11' : τ1.1 11 = nI c := by rw [r7.1 11 (by omega)]; exact h11
      have h12' : τ1.2.2.1 12 i = nI (eC e0) := by rw [r7.2 12 (by omega)]; exact h12
      have h13' : τ1.2.2.1 13 i = nI S0 := by rw [r7.2 13 (by omega)]; exact h13
      have htt1 : tt ((S - l, R) :: SL) = tt SL + R.length := rfl
      have hSl1 : ∀ x, x ∈ ((S - l, R) :: SL : Stk) → x.2.length ≤ 4096 := by
        intro x hx
        rcases List.mem_cons.mp hx with h | h
        · rw [h]; show R.length ≤ 4096; omega
        · exact hSl x h
      obtain ⟨L, σ2, τ2, s1, s2, s3, s4, s5, s6, s7⟩ := ih l (by omega) (by omega) a ha (o + dg (S - l)) ((S - l, R) :: SL) σ1 τ1 (n + 1) (n' + 1) (by omega) (by rw [Nat.pow_add, ← Nat.div_div_eq_div_mul]; exact x2) r3 h11' h12' h13' (by rw [List.length_cons]; omega) (by rw [htt1]; omega) hSl1
      have h11'' : τ2.1 11 = nI c := by rw [s7.1 11 (by omega)]; exact h11'
      have h12'' : τ2.2.2.1 12 i = nI (eC e0) := by rw [s7.2 12 (by omega)]; exact h12'
      have h13'' : τ2.2.2.1 13 i = nI S0 := by rw [s7.2 13 (by omega)]; exact h13'
      obtain ⟨C2, M2, c410', m36', cs', ms', st', l2', l3'⟩ := s3
      have hm : o + (dg l + dg (S - l)) + (dg S0 - (o + (dg l + dg (S - l))) - 1 + 1) = dg S0 := by omega
      have sC := step_C (N := N) (q := q) (n := n) (m := dg S0 - (o + (dg l + dg (S - l))) - 1) (o := o + (dg l + dg (S - l))) hS0 h00 hc0 hm K σ2
      have sM := step_M (N := N) (by omega) (n := n') (m := dg S0 - (o + (dg l + dg (S - l))) - 1) (o := o + (dg l + dg (S - l))) hS0 h00 hc0 hm hic hc K' τ2 h11'' h12'' h13''
      have hd : eC e0 / 8 ^ (o + (dg l + dg (S - l))) % 8 = 4 + k := by
        rw [Nat.pow_add, ← Nat.div_div_eq_div_mul, Nat.add_comm (dg l)]
        exact x3
      rw [hd, if_pos (show (4 : Int32) ≤ nI (4 + k) from nI_le (a := 4) (by omega) (by omega)), show nI (4 + k) - (4 : Int32) = nI k by rw [show (4 : Int32) = nI 4 from rfl, nI_sub (by omega), Nat.add_sub_cancel_left]] at sC sM
      rw [show dg S0 - (o + (dg l + dg (S - l))) - 1 + 1 = dg S0 - (o + (dg l + dg (S - l))) by omega] at sC sM
      obtain ⟨p, hp, hp1, hpb, hpf⟩ := lb_first hlb
      have hLR : L.length * R.length ≤ rowsP q l 4 * rowsP q (S - l) 4 := Nat.mul_le_mul s5 r5
      have hL4 : L.length ≤ 4096 := by omega
      have hR4 : R.length ≤ 4096 := by omega
      obtain ⟨σ3, L', j1, j2, j3, j4, j5, j6, j7, j8⟩ := joinTop_C (N := N) (by omega) hq (n2 := n3 + 4) (n3 := n3) hk3 (show l < 16 by omega) (show S - l < 16 by omega) hbs.2.2.2.1 hp hpb hpf (by omega) s4 r4 hR4 hL4 (by omega) (by omega) (by omega) (by omega) (by omega) (by omega) C2 c410' cs' l2' l3'
      obtain ⟨τ3, M', k1, k2, k3, k4, k5, k6, k7⟩ := joinTop_M (N := N) hN hq hk3 (show l < 16 by omega) (show S - l < 16 by omega) hbs.2.2.2.1 hp hpb hp1 (by omega) s4 r4 hR4 hL4 (by omega) hSl M2 m36' ms'
      have hsame := join_same hq (show l < 16 by omega) (show S - l < 16 by omega) hbs.2.2.2.1 hp hpb s4 r4 j8 k7
      rw [hsame] at k3
      rw [hbs.2.2.2.2.1] at j3 k3
      rw [j1, bs] at sC
      rw [k1, bs] at sM
      refine ⟨JJ q l (S - l) L' R, σ3, τ3, ?_, ?_, ⟨CQd_GR j2 C2, MQd_HR k2 M2, j4, k4, j3, k3, by rw [j5, k5, st'], by rw [j2.2.2]; exact l2', by rw [j2.2.2]; exact l3'⟩, ?_, ?_, (r6.trans s6).trans j2, (r7.trans s7).trans k2⟩
      · rw [show n + (dg l + dg (S - l) + 1) = n + 1 + dg l + dg (S - l) by omega, r1, s1, show o + dg (S - l) + dg l = o + (dg l + dg (S - l)) by omega, sC, show dg S0 - (o + (dg l + dg (S - l))) - 1 = dg S0 - (o + (dg l + dg (S - l) + 1)) by omega]
      · rw [show n' + (dg l + dg (S - l) + 1) = n' + 1 + dg l + dg (S - l) by omega, r2, s2, show o + dg (S - l) + dg l = o + (dg l + dg (S - l)) by omega, sM, show dg S0 - (o + (dg l + dg (S - l))) - 1 = dg S0 - (o + (dg l + dg (S - l) + 1)) by omega]
      · intro v hv
        obtain ⟨x, hx, y, hy, -, rfl⟩ := JJ_mem hv
        have := Vc_or (show l < 16 by omega) (show S - l < 16 by omega) hbs.2.2.2.1 (s4 x (j7 x hx)) (r4 y hy)
        rw [hbs.2.2.2.2.1] at this
        exact this
      · have := JJ_len q l (S - l) R L'
        rw [j6] at this
        omega
