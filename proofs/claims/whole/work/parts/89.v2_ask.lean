/-! near, worst, blind -/
theorem ky_30 {q : Qd} (hq : WfQ q) {S : Nat} (hS : S < 16) {e : Ent} (h : e ∈ fl q S) {pt : Nat} (hp : pt < 33) : ky pt 8 e < 2 ^ 30 := by
  have b := fl_lt hq hS h
  unfold ky
  have h1 : eA e * 8 ≤ 22028288 * 8 := Nat.mul_le_mul_right _ b.2.1
  have h2 : eB e * pt ≤ 22028288 * 32 := Nat.mul_le_mul b.2.2 (by omega)
  omega
theorem prod_63 {a b : Nat} (ha : a < 2 ^ 30) (hb : b < 2 ^ 30) : a * b < 2 ^ 63 := by
  have : a * b ≤ 2 ^ 30 * 2 ^ 30 := Nat.mul_le_mul (by omega) (by omega)
  omega
/-- the least prices, in the class's row and in the reference's -/
def LpC (q : Qd) (σ : CSt) (lp : Nat → Nat) : Prop := ∀ p, p < 33 → σ.2.2.2.1 505 p = lN (lp p)
def LpM (τ : MSt) (lp : Nat → Nat) : Prop := ∀ p, p < 33 → τ.2.2.2 27 p = lN (lp p)
def Lp (q : Qd) (lp : Nat → Nat) : Prop := ∀ p, p < 33 → ∃ e, Lst p 8 0 (fl q (2 ^ qT q - 1)) e ∧ lp p = ky p 8 e
theorem Lst_ex {up dn : Nat} {sl : Int32} : ∀ (F : List Ent), F ≠ [] → ∃ e, Lst up dn sl F e := by
  intro F
  induction F with
  | nil => intro h; exact absurd rfl h
  | cons a F ih =>
    intro _
    by_cases c : F = []
    · subst c
      exact ⟨a, by simp, fun f hf => by rw [List.mem_singleton.mp hf]; exact leE_refl _ _ _ _⟩
    · obtain ⟨e, h1, h2⟩ := ih c
      by_cases d : ltE up dn sl a e
      · refine ⟨a, List.mem_cons_self, fun f hf => ?_⟩
        rcases List.mem_cons.mp hf with h | h
        · rw [h]; exact leE_refl _ _ _ _
        · exact leE_trans (leE_lt d) (h2 f h)
      · refine ⟨e, List.mem_cons_of_mem _ h1, fun f hf => ?_⟩
        rcases List.mem_cons.mp hf with h | h
        · rw [h]; exact leE_of d
        · exact h2 f h
theorem Lp_ex {q : Qd} (hq : WfQ q) (hW : Whole q) : ∃ lp, Lp q lp ∧ ∀ p, p < 33 → lp p < 2 ^ 30 := by
  have hT := hq.1
  have h16 : 2 ^ qT q ≤ 16 := Nat.pow_le_pow_right (n := 2) (by omega) hT
  have h := fun p : Nat => Lst_ex (up := p) (dn := 8) (sl := 0) (fl q (2 ^ qT q - 1)) (whole_fl hq hW)
  refine ⟨fun p => ky p 8 (Classical.choose (h p)), fun p hp => ⟨_, Classical.choose_spec (h p), rfl⟩, fun p hp => ?_⟩
  exact ky_30 hq (by omega) (Classical.choose_spec (h p)).1 hp
theorem LpC_of {q : Qd} {σ : CSt} {lp : Nat → Nat} (h : ∀ p e, p < 33 → Lst p 8 0 (fl q (2 ^ qT q - 1)) e → σ.2.2.2.1 505 p = lN (ky p 8 e)) (hl : Lp q lp) : LpC q σ lp := by
  intro p hp
  obtain ⟨e, h1, h2⟩ := hl p hp
  rw [h p e hp h1, h2]
theorem leastAt_C {N : Nat} {q : Qd} {σ : CSt} {lp : Nat → Nat} (h : LpC q σ lp) {p : Nat} (hp : p < 33) : fS_leastAt N σ (nI p) = some (lN (lp p)) := by
  unfold fS_leastAt
  rw [(isPoint_t (N := N) (τ := mS0) hp).1, bs, if_neg n10, chk_nI hp (by omega), nI_cl (by omega), h p hp]
theorem bestLp_M {N : Nat} (hN : 5000 ≤ N) {q : Qd} (hq : WfQ q) (hW : Whole q) {τ : MSt} (hM : MQd q τ) (hL : Listed q τ) {lp : Nat → Nat} (hl : Lp q lp) {p : Nat} (hp : p < 33) : ∃ i, i < 5000 ∧ fM_bestAt N τ (nI p) = some (nI i) ∧ fM_at N τ (nI i) (nI p) = some (lN (lp p)) := by
  have hT := hq.1
  have h16 : 2 ^ qT q ≤ 16 := Nat.pow_le_pow_right (n := 2) (by omega) hT
  obtain ⟨i, e, hi, h1, h2, h3⟩ := bestAt_ok hN hq hM hL hW.1 (whole_fl hq hW) hp
  obtain ⟨f, f1, f2⟩ := hl p hp
  have := Lst_uniq hq (show 2 ^ qT q - 1 < 16 by omega) h3 f1
  subst this
  exact ⟨i, hi, h1, by rw [at_M h2 hi (by omega), f2]⟩
theorem hund_ok (N : Nat) (x : Int32) : (fC_areHundredths N x = some 0 ∧ (x < 0 ∨ ¬ x ≤ 10000)) ∨ ∃ d, d ≤ 10000 ∧ x = nI d ∧ fC_areHundredths N x = some 1 ∧ ¬ x < 0 ∧ x ≤ 10000 := by
  unfold fC_areHundredths
  by_cases h0 : x < 0
  · rw [if_pos h0]; exact Or.inl ⟨rfl, Or.inl h0⟩
  · obtain ⟨d, hd, rfl⟩ := nI_of h0
    rw [if_neg h0]
    by_cases c : d ≤ 10000
    · rw [if_neg (show ¬ (10000 : Int32) < nI d from nI_nlt (a := 10000) c (by omega))]
      exact Or.inr ⟨d, c, rfl, rfl, h0, nI_le (b := 10000) c (by omega)⟩
    · rw [if_pos (show (10000 : Int32) < nI d from nI_lt (a := 10000) (by omega) hd)]
      exact Or.inl ⟨rfl, Or.inr (nI_ge (a := 10000) (by omega) hd)⟩
/-- is e near at p -/
abbrev nrP (lp : Nat → Nat) (e : Ent) (p d : Nat) : Prop := 100 * ky p 8 e ≤ (100 + d) * lp p
theorem isNear_C {N : Nat} {q : Qd} (hq : WfQ q) {σ : CSt} {lp : Nat → Nat} (h : LpC q σ lp) (h30 : ∀ p, p < 33 → lp p < 2 ^ 30) {e : Ent} (he : e ∈ fl q (2 ^ qT q - 1)) {p d : Nat} (hp : p < 33) (hd : d ≤ 10000) : fS_isNear N σ (some (pl q (2 ^ qT q - 1) e)) (nI p) (nI d) = some (if nrP lp e p d then 1 else 0) := by
  have hT := hq.1
  have h16 : 2 ^ qT q ≤ 16 := Nat.pow_le_pow_right (n := 2) (by omega) hT
  have k1 := ky_30 hq (show 2 ^ qT q - 1 < 16 by omega) he hp
  have k2 := h30 p hp
  have m1 : ky p 8 e * 100 < 2 ^ 63 := by omega
  have m2 : lp p * (100 + d) < 2 ^ 63 := prod_63 k2 (by omega)
  unfold fS_isNear
  rw [onS, priceAt_ok (by omega), bs, leastAt_C h hp, bs, show (100 : Int32) = nI 100 from rfl, nI_add, nI_l (by omega), show (100 : Int64) = lN 100 from rfl, lN_mul, lN_mul]
  simp only [cmp_gt m1 m2]
  unfold nrP
  rw [Nat.mul_comm 100, Nat.mul_comm (100 + d)]
  by_cases c : ky p 8 e * 100 ≤ lp p * (100 + d)
  · rw [if_neg (by omega), if_pos c]
  · rw [if_pos (by omega), if_neg c]
theorem isNear_M {N : Nat} (hN : 5000 ≤ N) {q : Qd} (hq : WfQ q) (hW : Whole q) {τ : MSt} (hM : MQd q τ) (hL : Listed q τ) {lp : Nat → Nat} (hl : Lp q lp) (h30 : ∀ p, p < 33 → lp p < 2 ^ 30) {e : Ent} (he : e ∈ fl q (2 ^ qT q - 1)) {x : Nat} (hx : x < 5000) (hA : At τ x e) {p d : Nat} (hp : p < 33) (hd : d ≤ 10000) : fM_isNear N τ (nI x) (nI p) (nI d) = some (if nrP lp e p d then 1 else 0) := by
  have hT := hq.1
  have h16 : 2 ^ qT q ≤ 16 := Nat.pow_le_pow_right (n := 2) (by omega) hT
  have k1 := ky_30 hq (show 2 ^ qT q - 1 < 16 by omega) he hp
  have k2 := h30 p hp
  have m1 : 100 * ky p 8 e < 2 ^ 63 := by omega
  have m2 : (100 + d) * lp p < 2 ^ 63 := prod_63 (by omega) k2
  obtain ⟨i, hi, b1, b2⟩ := bestLp_M hN hq hW hM hL hl hp
  unfold fM_isNear
  rw [at_M hA hx (by omega), bs, b1, bs, b2, bs, nI_l (by omega), show (100 : Int64) = lN 100 from rfl, lN_add, lN_mul, lN_mul]
  simp only [cmp_gt m1 m2]
  unfold nrP
  by_cases c : 100 * ky p 8 e ≤ (100 + d) * lp p
  · rw [if_neg (by omega), if_pos c]
  · rw [if_pos (by omega), if_neg c]
theorem near_ok {N : Nat} (hN : 5000 ≤ N) {q : Qd} {c : Nat} {σ : CSt} {τ : MSt} (hB : Base q c σ τ) (hS : SpanI q σ) (x y z : Int32) : stepS q σ τ (fC_near N σ x y z) (fM_near N τ x y z) := by
  have hq := hB.1
  have hT := hB.1.1
  have hc := hB.2.2.2.1
  have h16 : 2 ^ qT q ≤ 16 := Nat.pow_le_pow_right (n := 2) (by omega) hT
  have same : ∀ r : Int32, stepS q σ τ (some (r, σ)) (some (r, τ)) := fun r => ⟨r, σ, τ, c, rfl, rfl, hB, hS, RanC.refl σ, RanM.refl τ⟩
  unfold fC_near fM_near
  rcases planAt_ok (N := N) hB x with ⟨h1, h2⟩ | ⟨i, S, e, hi, rfl, hp, h1, h2, h3, h4, h5, h6⟩
  · rw [h1, h2]; exact same _
  · rw [h6, hp, bs, bs, if_neg n10, onS]
    by_cases hy : ∃ pt, pt < 33 ∧ y = nI pt
    · obtain ⟨pt, hpt, rfl⟩ := hy
      obtain ⟨p1, p2⟩ := isPoint_t (N := N) (τ := τ) hpt
      rw [p1, p2, bs, bs, if_neg n10, if_neg n10]
      rcases hund_ok N z with ⟨z1, z2⟩ | ⟨d, hd, rfl, z1, z2, z3⟩
      · rw [z1, bs, if_pos rfl]
        rcases z2 with g | g
        · rw [if_pos g]; exact same _
        · by_cases g0 : z < 0
          · rw [if_pos g0]; exact same _
          · rw [if_neg g0, if_neg g]; exact same _
      · rw [z1, bs, if_neg n10, if_neg z2, if_pos z3, allTables_C hq hB.2.1, bs]
        unfold fM_isWholePlan
        rw [chk_nI (by omega) (by omega), all_M hq hB.2.2.1, bs, nI_cl (by omega), h5]
        show stepS q σ τ (if nI S = nI (2 ^ qT q - 1) then _ else _) _
        by_cases g : S = 2 ^ qT q - 1
        · have hW := (hB.2.2.2.2.2.2.2.2 (by omega)).1
          rw [if_pos (by rw [g]), if_pos (by rw [g]), bs, if_neg n10]
          rcases tell_ok hN hB hS with ⟨-, v1, σ1, t1, B1, s8, s7, sp, rc⟩ | ⟨hn, -, -⟩
          · have hsp := sp
            obtain ⟨E, hE, h120, hR, hbd, hbl, hlp⟩ := sp
            obtain ⟨lp, hl, h30⟩ := Lp_ex hq hW
            obtain ⟨τ1, l1, l2, l3⟩ := list_ok hN hq hB.2.2.1
            have M1 := MQd_Fr l3 hB.2.2.1
            have e12 : τ1.2.2.1 12 = τ.2.2.1 12 := l3.2.2.1 12 (by omega) (by omega) (by omega) (by omega)
            rw [g] at h3 h1 h2
            obtain ⟨k, hk, f1, f2⟩ := find_ok hN hq h1 h2 l2 h3
            rw [t1, bs, l1, bs, all_M hq M1, bs, chk_nI (by omega) (by omega), e12, h4, f1, bs, isNear_M hN hq hW M1 l2 hl h30 h3 hk f2 hpt hd, bs, g]
            rw [if_neg (show ¬ ((1 : Int32), σ1).1 = 0 from n10)]
            show stepS q σ τ ((fS_isNear N σ1 (some (pl q (2 ^ qT q - 1) e)) (nI pt) (nI d)).bind _) _
            rw [isNear_C hq (LpC_of hlp hl) h30 h3 hpt hd, bs]
            have fin : ∀ r : Int32, stepS q σ τ (some (r, σ1)) (some (r, τ1)) := fun r => ⟨r, σ1, τ1, c, rfl, rfl, Base_Fr l3 B1, Or.inr ⟨s8, s7, hW, hsp⟩, rc, RanM_Fr l3⟩
            by_cases cn : nrP lp e pt d
            · rw [if_pos cn, if_neg n10, if_neg n10]; exact fin _
            · rw [if_neg cn, if_pos rfl, if_pos rfl]; exact fin _
          · exact absurd hW hn
        · rw [if_neg (fun h => g ((nI_eq (by omega) (by omega)).mp h)), if_neg (fun h => g ((nI_eq (by omega) (by omega)).mp h)), bs, if_pos rfl]
          exact same _
    · obtain ⟨p1, p2⟩ := isPoint_f (N := N) (τ := τ) hy
      rw [p1, p2]
      exact same _
/-! the worst point -/
theorem least_M {N : Nat} (hN : 5000 ≤ N) {q : Qd} (hq : WfQ q) (hW : Whole q) {lp : Nat → Nat} (hl : Lp q lp) : ∀ (n m p : Nat) (τ : MSt), p + m = 33 → m < n → MQd q τ → Listed q τ → (∀ k, k < p → τ.2.2.2 27 k = lN (lp k)) → ∃ τ', fM_least_L2 N n τ (nI p) = some τ' ∧ τ'.1 = τ.1 ∧ τ'.2.2.1 = τ.2.2.1 ∧ (∀ k, k ≠ 27 → τ'.2.2.2 k = τ.2.2.2 k) ∧ LpM τ' lp := by
  intro n
  induction n with
  | zero => intro m p τ _ h; omega
  | succ n ih =>
    intro m p τ hm hn hM hL h27
    rw [fM_least_L2]
    cases m with
    | zero =>
      rw [if_pos (show (32 : Int32) < nI p from nI_lt (a := 32) (by omega) (by omega))]
      exact ⟨τ, rfl, rfl, rfl, fun _ _ => rfl, fun k hk => h27 k (by omega)⟩
    | succ m =>
      obtain ⟨i, hi, b1, b2⟩ := bestLp_M hN hq hW hM hL hl (show p < 33 by omega)
      rw [if_neg (show ¬ (32 : Int32) < nI p from nI_nlt (a := 32) (by omega) (by omega)), b1, bs, b2, bs, chk_nI (by omega) (by omega), nI_cl (by omega), nI_1]
      obtain ⟨τ', a1, a2, a3, a4, a5⟩ := ih m (p + 1) (sB τ 27 p (lN (lp p))) (by omega) (by omega) hM hL (by
        intro k hk
        rw [sB_4, if_pos rfl, updL_at]
        by_cases c : k = p
        · rw [if_pos c, c]
        · rw [if_neg c]; exact h27 k (by omega))
      exact ⟨τ', a1, a2, a3, fun k hk => by rw [a4 k hk, sB_4, if_neg hk], a5⟩
theorem regret_C {N : Nat} {q : Qd} (hq : WfQ q) {σ : CSt} {lp : Nat → Nat} (h : LpC q σ lp) (h30 : ∀ p, p < 33 → lp p < 2 ^ 30) {e f : Ent} (he : e ∈ fl q (2 ^ qT q - 1)) (hf : f ∈ fl q (2 ^ qT q - 1)) {p r : Nat} (hp : p < 33) (hr : r < 33) : fS_isRegretLess N σ (some (pl q (2 ^ qT q - 1) e)) (nI p) (some (pl q (2 ^ qT q - 1) f)) (nI r) = some (if ky r 8 f * lp p ≤ ky p 8 e * lp r then 0 else 1) := by
  have hT := hq.1
  have h16 : 2 ^ qT q ≤ 16 := Nat.pow_le_pow_right (n := 2) (by omega) hT
  have k1 := ky_30 hq (show 2 ^ qT q - 1 < 16 by omega) he hp
  have k2 := ky_30 hq (show 2 ^ qT q - 1 < 16 by omega) hf hr
  unfold fS_isRegretLess
  rw [onS, priceAt_ok (by omega), bs, leastAt_C h hr, bs, onS, priceAt_ok (by omega), bs, leastAt_C h hp, bs, lN_mul, lN_mul]
  simp only [cmp_ge (prod_63 k1 (h30 r hr)) (prod_63 k2 (h30 p hp))]
  split <;> rfl
/-- the worst point, as a walk -/
def wst (lp : Nat → Nat) (e : Ent) : Nat → Nat → Nat → Nat
  | 0, w, _ => w
  | m + 1, w, p => wst lp e m (if ky p 8 e * lp w ≤ ky w 8 e * lp p then w else p) (p + 1)
theorem wst_lt (lp : Nat → Nat) (e : Ent) : ∀ m w p, p + m = 33 → w < 33 → wst lp e m w p < 33 := by
  intro m
  induction m with
  | zero => intro w p _ h; exact h
  | succ m ih =>
    intro w p hp hw
    exact ih _ (p + 1) (by omega) (by split <;> omega)
theorem worst_C {N : Nat} {q : Qd} (hq : WfQ q) {σ : CSt} {lp : Nat → Nat} (h : LpC q σ lp) (h30 : ∀ p, p < 33 → lp p < 2 ^ 30) {e : Ent} (he : e ∈ fl q (2 ^ qT q - 1)) : ∀ (n m w p : Nat), p + m = 33 → m < n → w < 33 → fS_worstPoint_L4 N σ n (some (pl q (2 ^ qT q - 1) e)) (nI w) (nI p) = some (nI (wst lp e m w p)) := by
  intro n
  induction n with
  | zero => intro m w p _ h; omega
  | succ n ih =>
    intro m w p hp hn hw
    rw [fS_worstPoint_L4]
    cases m with
    | zero =>
      rw [if_pos (show (33 : Int32) ≤ nI p from nI_le (a := 33) (by omega) (by omega))]
      rfl
    | succ m =>
      rw [if_neg (show ¬ (33 : Int32) ≤ nI p from nI_ge (b := 33) (by omega) (by omega)), regret_C hq h h30 he he hw (by omega), bs, nI_1]
      show _ = some (nI (wst lp e m (if ky p 8 e * lp w ≤ ky w 8 e * lp p then w else p) (p + 1)))
      by_cases c : ky p 8 e * lp w ≤ ky w 8 e * lp p
      · rw [if_pos c, if_pos rfl, if_pos c]
        exact ih m w (p + 1) (by omega) (by omega) hw
      · rw [if_neg c, if_neg n10, if_neg c]
        exact ih m p (p + 1) (by omega) (by omega) (by omega)
theorem worst_M {N : Nat} {q : Qd} (hq : WfQ q) {τ : MSt} {lp : Nat → Nat} (h : LpM τ lp) (h30 : ∀ p, p < 33 → lp p < 2 ^ 30) {e : Ent} (he : e ∈ fl q (2 ^ qT q - 1)) {x : Nat} (hx : x < 5000) (hA : At τ x e) : ∀ (n m w p : Nat), p + m = 33 → m < n → w < 33 → fM_worstOf_L4 N τ n (nI x) (nI w) (nI p) = some (nI (wst lp e m w p)) := by
  have hT := hq.1
  have h16 : 2 ^ qT q ≤ 16 := Nat.pow_le_pow_right (n := 2) (by omega) hT
  intro n
  induction n with
  | zero => intro m w p _ h; omega
  | succ n ih =>
    intro m w p hp hn hw
    rw [fM_worstOf_L4]
    cases m with
    | zero =>
      rw [if_pos (show (32 : Int32) < nI p from nI_lt (a := 32) (by omega) (by omega))]
      rfl
    | succ m =>
      have k1 := ky_30 hq (show 2 ^ qT q - 1 < 16 by omega) he (show p < 33 by omega)
      have k2 := ky_30 hq (show 2 ^ qT q - 1 < 16 by omega) he hw
      rw [if_neg (show ¬ (32 : Int32) < nI p from nI_nlt (a := 32) (by omega) (by omega)), at_M hA hx (by omega), bs, chk_nI hw (by omega), at_M hA hx (by omega), bs, chk_nI (by omega) (by omega), nI_cl (by omega), nI_cl (by omega), h w hw, h p (by omega), lN_mul, lN_mul, nI_1]
      simp only [cmp_le (prod_63 k1 (h30 w hw)) (prod_63 k2 (h30 p (by omega)))]
      show _ = some (nI (wst lp e m (if ky p 8 e * lp w ≤ ky w 8 e * lp p then w else p) (p + 1)))
      by_cases c : ky p 8 e * lp w ≤ ky w 8 e * lp p
      · rw [if_pos c, if_pos c]
        exact ih m w (p + 1) (by omega) (by omega) hw
      · rw [if_neg c, if_neg c]
        exact ih m p (p + 1) (by omega) (by omega) (by omega)
def wp (lp : Nat → Nat) (e : Ent) : Nat := wst lp e 32 0 1
theorem wp_lt (lp : Nat → Nat) (e : Ent) : wp lp e < 33 := wst_lt lp e 32 0 1 (by omega) (by omega)
theorem worstC {N : Nat} (hN : 40 ≤ N) {q : Qd} (hq : WfQ q) {σ : CSt} {lp : Nat → Nat} (h : LpC q σ lp) (h30 : ∀ p, p < 33 → lp p < 2 ^ 30) {e : Ent} (he : e ∈ fl q (2 ^ qT q - 1)) : fS_worstPoint N σ (some (pl q (2 ^ qT q - 1) e)) = some (nI (wp lp e)) := worst_C hq h h30 he N 32 0 1 (by omega) (by omega) (by omega)
theorem worstM {N : Nat} (hN : 40 ≤ N) {q : Qd} (hq : WfQ q) {τ : MSt} {lp : Nat → Nat} (h : LpM τ lp) (h30 : ∀ p, p < 33 → lp p < 2 ^ 30) {e : Ent} (he : e ∈ fl q (2 ^ qT q - 1)) {x : Nat} (hx : x < 5000) (hA : At τ x e) : fM_worstOf N τ (nI x) = some (nI (wp lp e)) := worst_M hq h h30 he hx hA N 32 0 1 (by omega) (by omega) (by omega)
/-- the least prices leave all else -/
theorem leastM {N : Nat} (hN : 5000 ≤ N) {q : Qd} (hq : WfQ q) (hW : Whole q) {lp : Nat → Nat} (hl : Lp q lp) {τ : MSt} (hM : MQd q τ) (hL : Listed q τ) : ∃ τ', fM_least N τ = some τ' ∧ FrS τ τ' ∧ Listed q τ' ∧ LpM τ' lp ∧ (∀ E n, SpM τ E n → SpM τ' E n) := by
  obtain ⟨τ', a1, a2, a3, a4, a5⟩ := least_M (N := N) hN hq hW hl N 33 0 τ (by omega) (by omega) hM hL (fun k h => by omega)
  have hAt : ∀ i e, At τ i e → At τ' i e := by
    intro i e h
    unfold At
    rw [a3, a4 20 (by omega), a4 21 (by omega)]
    exact h
  refine ⟨τ', a1, ⟨fun k _ _ => by rw [a2], fun k _ _ => by rw [a3]⟩, ⟨⟨by rw [a2]; exact hL.1.1, fun i e h => hAt i e (hL.1.2 i e h)⟩, fun s h1 h2 => by rw [a3]; exact hL.2 s h1 h2⟩, a5, ?_⟩
  intro E n hS
  refine ⟨by rw [a2]; exact hS.1, fun i e hi he => ?_⟩
  obtain ⟨⟨x, hx, h23, hA⟩, hb⟩ := hS.2 i e hi he
  refine ⟨⟨x, hx, by rw [a3]; exact h23, hAt x e hA⟩, fun u v hB => ?_⟩
  rw [a4 24 (by omega), a4 25 (by omega)]
  exact hb u v hB
theorem worst_ok {N : Nat} (hN : 5000 ≤ N) {q : Qd} {c : Nat} {σ : CSt} {τ : MSt} (hB : Base q c σ τ) (hS : SpanI q σ) (x : Int32) : stepS q σ τ (fC_worst N σ x) (fM_worst N τ x) := by
  have hq := hB.1
  have hT := hB.1.1
  have hc := hB.2.2.2.1
  have h16 : 2 ^ qT q ≤ 16 := Nat.pow_le_pow_right (n := 2) (by omega) hT
  have same : ∀ r : Int32, stepS q σ τ (some (r, σ)) (some (r, τ)) := fun r => ⟨r, σ, τ, c, rfl, rfl, hB, hS, RanC.refl σ, RanM.refl τ⟩
  unfold fC_worst fM_worst
  rcases planAt_ok (N := N) hB x with ⟨h1, h2⟩ | ⟨i, S, e, hi, rfl, hp, h1, h2, h3, h4, h5, h6⟩
  · rw [h1, h2]; exact same _
  · rw [h6, hp, bs, bs, if_neg n10, onS, allTables_C hq hB.2.1, bs]
    unfold fM_isWholePlan
    rw [chk_nI (by omega) (by omega), all_M hq hB.2.2.1, bs, nI_cl (by omega), h5]
    show stepS q σ τ (if nI S = nI (2 ^ qT q - 1) then _ else _) _
    by_cases g : S = 2 ^ qT q - 1
    · have hW := (hB.2.2.2.2.2.2.2.2 (by omega)).1
      rw [if_pos (by rw [g]), if_pos (by rw [g]), bs, if_neg n10]
      rcases tell_ok hN hB hS with ⟨-, v1, σ1, t1, B1, s8, s7, sp, rc⟩ | ⟨hn, -, -⟩
      · have hsp := sp
        obtain ⟨E, hE, h120, hR, hbd, hbl, hlp⟩ := sp
        obtain ⟨lp, hl, h30⟩ := Lp_ex hq hW
        obtain ⟨τ1, l1, l2, l3⟩ := list_ok hN hq hB.2.2.1
        have M1 := MQd_Fr l3 hB.2.2.1
        obtain ⟨τ2, m1, m2, m3, m4, -⟩ := leastM hN hq hW hl M1 l2
        have F2 := l3.FrS.trans m2
        have e12 : τ2.2.2.1 12 = τ.2.2.1 12 := F2.2 12 (by omega) (by omega)
        rw [g] at h3 h1 h2
        obtain ⟨k, hk, f1, f2⟩ := find_ok hN hq h1 h2 m3 h3
        rw [t1, bs, l1, bs, m1, bs, all_M hq (MQd_FrS F2 hB.2.2.1), bs, chk_nI (by omega) (by omega), e12, h4, f1, bs, worstM (by omega) hq m4 h30 h3 hk f2, bs, g]
        rw [if_neg (show ¬ ((1 : Int32), σ1).1 = 0 from n10)]
        show stepS q σ τ ((fS_worstPoint N σ1 (some (pl q (2 ^ qT q - 1) e))).bind _) _
        rw [worstC (by omega) hq (LpC_of hlp hl) h30 h3, bs]
        exact ⟨_, σ1, τ2, c, rfl, rfl, Base_FrS F2 B1, Or.inr ⟨s8, s7, hW, hsp⟩, rc, RanM_FrS F2⟩
      · exact absurd hW hn
    · rw [if_neg (fun h => g ((nI_eq (by omega) (by omega)).mp h)), if_neg (fun h => g ((nI_eq (by omega) (by omega)).mp h)), bs, if_pos rfl]
      exact same _
theorem blind_loop {N : Nat} (hN : 40 ≤ N) {q : Qd} (hq : WfQ q) {σ : CSt} {τ : MSt} {lp : Nat → Nat} (hC : LpC q σ lp) (hM : LpM τ lp) (h30 : ∀ p, p < 33 → lp p < 2 ^ 30) {E : List Ent} (h120 : E.length ≤ 120) (hF : ∀ e, e ∈ E → e ∈ fl q (2 ^ qT q - 1)) (hR : Rw q σ E) (hS : SpM τ E E.length) : ∀ (n m i b : Nat), i + m = E.length → m < n → b < E.length → ∃ r, fS_leastWrong_L4 N σ n (nI b) (nI i) = some r ∧ fM_blind_L22 N n τ (nI b) (nI i) = some (r, τ) := by
  have hT := hq.1
  have h16 : 2 ^ qT q ≤ 16 := Nat.pow_le_pow_right (n := 2) (by omega) hT
  intro n
  induction n with
  | zero => intro m i b _ h; omega
  | succ n ih =>
    intro m i b hi hn hb
    rw [fS_leastWrong_L4, fM_blind_L22, hR.1, hS.1]
    cases m with
    | zero =>
      rw [if_pos (nI_le (by omega) (by omega)), if_pos (nI_le (by omega) (by omega))]
      exact ⟨_, rfl, rfl⟩
    | succ m =>
      have he : E[i]? = some E[i] := List.getElem?_eq_getElem (by omega)
      have hf : E[b]? = some E[b] := List.getElem?_eq_getElem hb
      generalize E[i] = e at he
      generalize E[b] = f at hf
      have me := hF e (List.mem_of_getElem? he)
      have mf := hF f (List.mem_of_getElem? hf)
      obtain ⟨⟨x, hx, x1, x2⟩, -⟩ := hS.2 i e (by omega) he
      obtain ⟨⟨y, hy, y1, y2⟩, -⟩ := hS.2 b f (by omega) hf
      have we := wp_lt lp e
      have wf := wp_lt lp f
      rw [if_neg (nI_ge (by omega) (by omega)), if_neg (nI_ge (by omega) (by omega)), planOf_ok hR h120 he, bs, planOf_ok hR h120 hf, bs, onS, onS, worstC hN hq hC h30 me, bs, worstC hN hq hC h30 mf, bs, regret_C hq hC h30 me mf we wf, bs]
      rw [chk_nI (by omega) (by omega), nI_cl (by omega), x1, worstM hN hq hM h30 me hx x2, bs, chk_nI (by omega) (by omega), nI_cl (by omega), y1, worstM hN hq hM h30 mf hy y2, bs, chk_nI (by omega) (by omega), at_M x2 hx (by omega), bs, chk_nI wf (by omega), chk_nI (by omega) (by omega), at_M y2 hy (by omega), bs, chk_nI we (by omega), nI_cl (by omega), nI_cl (by omega), hM _ wf, hM _ we, lN_mul, lN_mul, nI_1]
      have k1 := ky_30 hq (show 2 ^ qT q - 1 < 16 by omega) me we
      have k2 := ky_30 hq (show 2 ^ qT q - 1 < 16 by omega) mf wf
      simp only [cmp_ge (prod_63 k1 (h30 _ wf)) (prod_63 k2 (h30 _ we))]
      by_cases g : ky (wp lp f) 8 f * lp (wp lp e) ≤ ky (wp lp e) 8 e * lp (wp lp f)
      · rw [if_pos g, if_pos rfl, if_pos g]
        exact ih m (i + 1) b (by omega) (by omega) hb
      · rw [if_neg g, if_neg n10, if_neg g]
        exact ih m (i + 1) i (by omega) (by omega) (by omega)
theorem blind_ok {N : Nat} (hN : 5000 ≤ N) {q : Qd} {c : Nat} {σ : CSt} {τ : MSt} (hB : Base q c σ τ) (hS : SpanI q σ) : stepS q σ τ (fC_blind N σ) (fM_blind N τ) := by
  have hq := hB.1
  unfold fC_blind fM_blind
  rcases tell_ok hN hB hS with ⟨hW, v1, σ1, t1, B1, s8, s7, sp, rc⟩ | ⟨hW, v1, t1⟩
  · have hsp := sp
    obtain ⟨E, hE, h120, hR, hbd, hbl, hlp⟩ := sp
    obtain ⟨lp, hl, h30⟩ := Lp_ex hq hW
    obtain ⟨τ1, a1, a2, a3, a4⟩ := span_ok hN hB.1 hW hE h120 hB.2.2.1
    obtain ⟨τ2, m1, m2, m3, m4, m5⟩ := leastM hN hq hW hl (MQd_FrS a2 hB.2.2.1) a3
    have F2 := a2.trans m2
    have hlen : 0 < E.length := List.length_pos_iff.mpr hE.1
    rw [t1, v1, bs, bs, if_neg n10, a1, bs, m1, bs, if_neg (show ¬ ((1 : Int32), σ1).1 = 0 from n10)]
    unfold fS_leastWrong
    obtain ⟨r, b1, b2⟩ := blind_loop (N := N) (by omega) hq (LpC_of hlp hl) m4 h30 h120 hE.2.1 hR (m5 _ _ a4) N (E.length - 1) 1 0 (by omega) (by omega) hlen
    rw [nI_0, show nI 1 = (1 : Int32) from rfl] at b1 b2
    show stepS q σ τ ((fS_leastWrong_L4 N σ1 N 0 1).bind _) _
    rw [b1, b2, bs]
    exact ⟨r, σ1, τ2, c, rfl, rfl, Base_FrS F2 B1, Or.inr ⟨s8, s7, hW, hsp⟩, rc, RanM_FrS F2⟩
  · rw [t1, v1]
    exact ⟨_, σ, τ, c, rfl, rfl, hB, hS, RanC.refl σ, RanM.refl τ⟩
