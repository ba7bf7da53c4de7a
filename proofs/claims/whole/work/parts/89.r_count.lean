/-! holds, count -/
theorem fa_and (a b : Nat) : nI a &&& nI b = nI (a &&& b) := by
  apply Int32.toBitVec_inj.1
  show BitVec.ofNat 32 a &&& BitVec.ofNat 32 b = BitVec.ofNat 32 (a &&& b)
  apply BitVec.eq_of_getLsbD_eq
  intro i hi
  simp [hi]
theorem fa_mask (n k : Nat) : nI n &&& nI (2 ^ k - 1) = nI (n % 2 ^ k) := by rw [fa_and, Nat.and_two_pow_sub_one_eq_mod]
theorem rowIn_ok (N : Nat) {n t : Nat} (hn : n < 2 ^ 31) (ht : t < 4) : fQ_rowIn N (nI n) (nI t) = some (nI (n / 8 ^ t % 8)) := by
  unfold fQ_rowIn
  have e : (8 : Nat) ^ t = 2 ^ (3 * t) := by rw [Nat.pow_mul]
  rw [pk_shrN hn _ _ (sh8 t (by omega)), show (7 : Int32) = nI (2 ^ 3 - 1) from rfl, fa_mask, ← e]
theorem asPart_ok (N : Nat) {x t : Nat} (hx : x < 8) (ht : t < 4) : fQ_asPart N (nI x) (nI t) = some (nI (x * 8 ^ t)) := by
  unfold fQ_asPart
  have e : (8 : Nat) ^ t = 2 ^ (3 * t) := by rw [Nat.pow_mul]
  have hp : (8 : Nat) ^ t ≤ 8 ^ 3 := Nat.pow_le_pow_right (n := 8) (by omega) (by omega)
  have hm : x * 8 ^ t ≤ 8 * 8 ^ 3 := Nat.mul_le_mul (by omega) hp
  rw [e] at hm ⊢
  rw [pk_shlN _ _ (sh8 t (by omega)) (by omega)]
def twT (t u x y : Nat) : Bool := !(decide (t < u)) || (decide ((x * 8 ^ t ||| y * 8 ^ u) / 8 ^ t % 8 = x) && (decide ((x * 8 ^ t ||| y * 8 ^ u) / 8 ^ u % 8 = y) && decide ((x * 8 ^ t ||| y * 8 ^ u) < 4096)))
theorem twTB : ((List.range 4).all fun t => (List.range 4).all fun u => (List.range 8).all fun x => (List.range 8).all fun y => twT t u x y) = true := by decide +kernel
theorem tw_ok {t u x y : Nat} (htu : t < u) (hu : u < 4) (hx : x < 8) (hy : y < 8) : (x * 8 ^ t ||| y * 8 ^ u) / 8 ^ t % 8 = x ∧ (x * 8 ^ t ||| y * 8 ^ u) / 8 ^ u % 8 = y ∧ (x * 8 ^ t ||| y * 8 ^ u) < 4096 := by
  have g := twTB
  simp only [List.all_eq_true, List.mem_range] at g
  have g := g t (by omega) u hu x hx y hy
  unfold twT at g
  simpa [htu] using g
theorem i_8 : (8 : Int32) = nI 8 := rfl
theorem i_3 : (3 : Int32) = nI 3 := rfl
theorem i_36 : (36 : Int32) = nI 36 := rfl
theorem nI_mul (a b : Nat) : nI a * nI b = nI (a * b) := (Int32.ofNat_mul a b).symm
theorem field_C {N : Nat} {q : Qd} {σ : CSt} (hq : WfQ q) (hC : CQd q σ) {t i c : Nat} (ht : t < 4) (hi : i < qr q t) (hc : c < 3) : fQ_field N σ (nI t) (nI i) (nI c) = some (qv q t i c) := by
  have h8 := hq.2.2.1 t
  unfold fQ_field
  rw [if_neg (nI_pos (by omega)), if_neg (show ¬ (4 : Int32) ≤ nI t from nI_ge (b := 4) ht (by omega)), if_neg (nI_pos (by omega)), if_neg (show ¬ (8 : Int32) ≤ nI i from nI_ge (b := 8) (by omega) (by omega)), if_neg (nI_pos (by omega)), if_pos (show nI c < (3 : Int32) from nI_lt (b := 3) hc (by omega))]
  rw [i_8, i_3, nI_mul, nI_add, nI_mul, nI_add, chk_nI (by omega) (by omega), nI_cl (by omega), hC.2.2.2.2.2.1 t i c ht hi hc]
theorem of_M {N : Nat} {q : Qd} {τ : MSt} (hq : WfQ q) (hM : MQd q τ) {t i c : Nat} (ht : t < 4) (hi : i < qr q t) (hc : c < 3) : fM_of N τ (nI t) (nI i) (nI c) = some (qv q t i c) := by
  have h8 := hq.2.2.1 t
  unfold fM_of
  rw [i_36, i_3, nI_mul, nI_mul, nI_add, nI_add, chk_nI (by omega) (by omega), nI_cl (by omega), hM.2.2.2.2.2.1 t i c ht hi hc]
theorem isHeld_C {N : Nat} {q : Qd} {σ : CSt} (hq : WfQ q) (hC : CQd q σ) {p n : Nat} (hp : p < qP q) (hn : n < 2 ^ 31) (h1 : n / 8 ^ qt q p % 8 < qr q (qt q p)) (h2 : n / 8 ^ qu q p % 8 < qr q (qu q p)) : fQ_isHeld N σ (nI p) (nI n) = some (if qv q (qt q p) (n / 8 ^ qt q p % 8) (qc q p) = qv q (qu q p) (n / 8 ^ qu q p % 8) (qo q p) then 1 else 0) := by
  have hP := hq.2.1
  have hT := hq.1
  obtain ⟨b1, b2, b3, b4, -⟩ := hq.2.2.2.2.1 p hp
  obtain ⟨c1, c2, c3, c4, -⟩ := hC.2.2.2.2.2.2.1 p hp
  unfold fQ_isHeld
  simp only [chk_nI (show p < 4 by omega) (show 4 < 2 ^ 31 by omega), nI_cl (show p < 2 ^ 31 by omega), c1, c2, c3, c4]
  rw [if_neg (nI_pos (by omega)), if_pos (show nI p < (4 : Int32) from nI_lt (b := 4) (by omega) (by omega)), rowIn_ok N hn (by omega), bs, rowIn_ok N hn (by omega), bs, field_C hq hC (by omega) h1 b3, bs, field_C hq hC (by omega) h2 b4, bs]
  split <;> rfl
theorem holds_in {N : Nat} {q : Qd} {σ : CSt} {τ : MSt} (hq : WfQ q) (hC : CQd q σ) (hM : MQd q τ) {p x : Nat} (hp : p < qP q) (hx : x < qr q (qt q p)) (K K' : Int32 → Int32 → Int32 → Option Int32) : ∀ (n k y : Nat) (acc : Int32), y + k = qr q (qu q p) → k < n → ∃ r, fQ_matches_L29 N σ K n (nI p) acc (nI x) (nI y) = K (nI p) r (nI x) ∧ fM_holds_L36 N τ K' n (nI p) acc (nI x) (nI y) = K' (nI p) r (nI x) := by
  have hP := hq.2.1
  have hT := hq.1
  obtain ⟨b1, b2, b3, b4, -⟩ := hq.2.2.2.2.1 p hp
  obtain ⟨c1, c2, c3, c4, -⟩ := hC.2.2.2.2.2.2.1 p hp
  obtain ⟨m1, m2, m3, m4, -⟩ := hM.2.2.2.2.2.2 p hp
  have h8 := hq.2.2.1 (qt q p)
  have g8 := hq.2.2.1 (qu q p)
  intro n
  induction n with
  | zero => intro k y acc _ h; omega
  | succ n ih =>
    intro k y acc hy hn
    rw [fQ_matches_L29, fM_holds_L36]
    simp only [chk_nI (show p < 4 by omega) (show 4 < 2 ^ 31 by omega), nI_cl (show p < 2 ^ 31 by omega), c1, c3, m1, m2, m3, m4, chk_nI (show qu q p < 4 by omega) (show 4 < 2 ^ 31 by omega), nI_cl (show qu q p < 2 ^ 31 by omega), hM.2.2.2.2.1 (qu q p) (by omega)]
    rw [rowsOf_any hq hC (show qu q p < 4 by omega), bs]
    cases k with
    | zero =>
      rw [if_pos (nI_le (by omega) (by omega)), if_pos (nI_le (by omega) (by omega))]
      exact ⟨acc, rfl, rfl⟩
    | succ k =>
      obtain ⟨w1, w2, w3⟩ := tw_ok b1 (show qu q p < 4 by omega) (show x < 8 by omega) (show y < 8 by omega)
      rw [if_neg (nI_ge (by omega) (by omega)), if_neg (nI_ge (by omega) (by omega)), asPart_ok N (by omega) (by omega), bs, asPart_ok N (by omega) (by omega), bs, fa_or, isHeld_C hq hC hp (by omega) (by rw [w1]; exact hx) (by rw [w2]; omega), bs, w1, w2, of_M hq hM (by omega) hx b3, bs, of_M hq hM (by omega) (by omega) b4, bs, nI_1]
      by_cases g : qv q (qt q p) x (qc q p) = qv q (qu q p) y (qo q p)
      · rw [if_pos g, if_pos g, if_neg n10]
        exact ih k (y + 1) _ (by omega) (by omega)
      · rw [if_neg g, if_neg g, if_pos rfl]
        exact ih k (y + 1) _ (by omega) (by omega)
theorem holds_out {N : Nat} (hN : 10 ≤ N) {q : Qd} {σ : CSt} {τ : MSt} (hq : WfQ q) (hC : CQd q σ) (hM : MQd q τ) {p : Nat} (hp : p < qP q) : ∀ (n k x : Nat) (acc : Int32), x + k = qr q (qt q p) → k < n → ∃ r, fQ_matches_L12 N σ n (nI p) acc (nI x) = some r ∧ fM_holds_L18 N τ n (nI p) acc (nI x) = some r := by
  have hP := hq.2.1
  have hT := hq.1
  obtain ⟨b1, b2, b3, b4, -⟩ := hq.2.2.2.2.1 p hp
  obtain ⟨c1, c2, c3, c4, -⟩ := hC.2.2.2.2.2.2.1 p hp
  obtain ⟨m1, m2, m3, m4, -⟩ := hM.2.2.2.2.2.2 p hp
  have h8 := hq.2.2.1 (qt q p)
  have g8 := hq.2.2.1 (qu q p)
  intro n
  induction n with
  | zero => intro k y acc _ h; omega
  | succ n ih =>
    intro k x acc hx hn
    rw [fQ_matches_L12, fM_holds_L18, chk_nI (by omega) (by omega), chk_nI (by omega) (by omega), nI_cl (by omega), c1, m1, rowsOf_any hq hC (show qt q p < 4 by omega), bs, chk_nI (by omega) (by omega), nI_cl (by omega), hM.2.2.2.2.1 (qt q p) (by omega)]
    cases k with
    | zero =>
      rw [if_pos (nI_le (by omega) (by omega)), if_pos (nI_le (by omega) (by omega))]
      exact ⟨acc, rfl, rfl⟩
    | succ k =>
      rw [if_neg (nI_ge (by omega) (by omega)), if_neg (nI_ge (by omega) (by omega))]
      obtain ⟨r, h1, h2⟩ := holds_in (N := N) hq hC hM hp (show x < qr q (qt q p) by omega) (fun (x1 : Int32) (x2 : Int32) (x3 : Int32) => fQ_matches_L12 N σ n x1 x2 (x3 + 1)) (fun (x1 : Int32) (x2 : Int32) (x3 : Int32) => fM_holds_L18 N τ n x1 x2 (x3 + 1)) N (qr q (qu q p)) 0 acc (by omega) (by omega)
      rw [nI_0] at h1 h2
      rw [h1, h2, nI_1]
      exact ih k (x + 1) r (by omega) (by omega)
theorem holds_ok {N : Nat} (hN : 10 ≤ N) {q : Qd} {σ : CSt} {τ : MSt} (hq : WfQ q) (hC : CQd q σ) (hM : MQd q τ) (x : Int32) : ∃ r, fC_holds N σ x = some r ∧ fM_holds N τ x = some r := by
  have hP := hq.2.1
  unfold fC_holds fM_holds
  rw [hM.2.1]
  by_cases h0 : x < 0
  · have : fQ_isPairing N σ x = some 0 := by unfold fQ_isPairing; rw [if_pos h0]
    rw [this, if_pos h0]
    exact ⟨_, rfl, rfl⟩
  · obtain ⟨p, hp31, rfl⟩ := nI_of h0
    rw [if_neg h0]
    by_cases hp : p < qP q
    · rw [isPairing_t hq hC hp, bs, if_neg n10, if_pos (nI_lt hp (by omega))]
      unfold fQ_matches
      rw [isPairing_t hq hC hp, bs, if_neg n10]
      have h8 := hq.2.2.1 (qt q p)
      obtain ⟨r, h1, h2⟩ := holds_out (N := N) hN hq hC hM hp N (qr q (qt q p)) 0 0 (by omega) (by omega)
      rw [nI_0] at h1 h2
      rw [h1, h2]
      exact ⟨r, rfl, rfl⟩
    · have : fQ_isPairing N σ (nI p) = some 0 := by
        unfold fQ_isPairing
        rw [if_neg h0, hC.2.1, if_pos (nI_le (by omega) hp31)]
      rw [this, if_neg (nI_nlt (by omega) hp31)]
      exact ⟨_, rfl, rfl⟩
def rsum (q : Qd) : Nat → Nat
  | 0 => 0
  | t + 1 => rsum q t + qr q t
theorem rsum_le {q : Qd} (hq : WfQ q) : ∀ i, rsum q i ≤ 8 * i := by
  intro i
  induction i with
  | zero => exact Nat.le_refl _
  | succ i ih => have := hq.2.2.1 i; show rsum q i + qr q i ≤ _; omega
theorem rsum_top {q : Qd} (hq : WfQ q) : ∀ j, rsum q (qT q + j) = rsum q (qT q) := by
  intro j
  induction j with
  | zero => rfl
  | succ j ih => show rsum q (qT q + j) + qr q (qT q + j) = _; rw [ih, hq.2.2.2.1 _ (by omega)]; rfl
theorem allRows_C {N : Nat} {q : Qd} {σ : CSt} (hC : CQd q σ) : ∀ (n k i : Nat), i + k = 4 → k < n → fQ_allRows_L4 N σ n (nI (rsum q i)) (nI i) = some (nI (rsum q 4)) := by
  intro n
  induction n with
  | zero => intro k i _ h; omega
  | succ n ih =>
    intro k i hi hn
    rw [fQ_allRows_L4]
    cases k with
    | zero => rw [if_pos (show (4 : Int32) ≤ nI i from nI_le (a := 4) (by omega) (by omega)), show i = 4 by omega]
    | succ k =>
      rw [if_neg (show ¬ (4 : Int32) ≤ nI i from nI_ge (b := 4) (by omega) (by omega)), chk_nI (by omega) (by omega), nI_cl (by omega), hC.2.2.2.2.1 i (by omega), nI_add, nI_1]
      exact ih k (i + 1) (by omega) (by omega)
theorem allRows_M {N : Nat} {q : Qd} {τ : MSt} (hq : WfQ q) (hM : MQd q τ) : ∀ (n k i : Nat), i + k = qT q → k < n → fM_count_L51 N n τ (nI (rsum q i)) (nI i) = some (nI (rsum q (qT q)), τ) := by
  have hT := hq.1
  intro n
  induction n with
  | zero => intro k i _ h; omega
  | succ n ih =>
    intro k i hi hn
    rw [fM_count_L51, hM.1]
    cases k with
    | zero => rw [if_pos (nI_le (by omega) (by omega)), show i = qT q by omega]
    | succ k =>
      rw [if_neg (nI_ge (by omega) (by omega)), chk_nI (by omega) (by omega), nI_cl (by omega), hM.2.2.2.2.1 i (by omega), nI_add, nI_1]
      exact ih k (i + 1) (by omega) (by omega)
/-! the number of whole plans -/
def rln (S : Nat) : Nat → Nat
  | 0 => 0
  | t + 1 => rln S t + (if S = 2 ^ t then 1 else 0)
theorem rl_rln (q : Qd) (S : Nat) : ∀ n, (rl q S n).length = rln S n := by
  intro n
  induction n with
  | zero => rfl
  | succ n ih =>
    show (rl q S n ++ (if S = 2 ^ n then [rd q n] else [])).length = rln S n + _
    rw [List.length_append, ih]
    split <;> rfl
theorem rlnB : ((List.range 5).all fun T => (List.range (2 ^ T)).all fun S => S == 0 || decide (rln S T = if bc S = 1 then 1 else 0)) = true := by decide +kernel
theorem rl_len {q : Qd} (hq : WfQ q) {S : Nat} (h0 : 0 < S) (hS : S < 2 ^ qT q) : (rl q S (qT q)).length = if bc S = 1 then 1 else 0 := by
  have hT := hq.1
  have g := rlnB
  simp only [List.all_eq_true, List.mem_range] at g
  have g := g (qT q) (by omega) S hS
  have e : (S == 0) = false := by simpa using (show S ≠ 0 by omega)
  rw [e] at g
  rw [rl_rln]
  simpa using g
theorem PE_len {q : Qd} {S : Nat} (hS : S < 16) : (PE q S).length = (rl q S (qT q)).length + (jl q (PE q) S S).length := by rw [← List.length_append, ← PE_eq q hS]
theorem PE_le {q : Qd} (hq : WfQ q) {S : Nat} (hS : S < 16) : (PE q S).length ≤ 3712 := by
  have h := off_succ q S
  have h2 := off_le hq (show S + 1 < 17 by omega)
  have hlf : (fl q S).length = (PE q S).length := by
    unfold fl
    split
    · rw [List.length_map]
    · rfl
  omega
/-- ways of the sets below S are known -/
def Wy (q : Qd) (S : Nat) (σ : CSt) : Prop := ∀ s, 0 < s → s < S → σ.2.2.1 6 s = nI (PE q s).length
theorem FH_6 (σ : CSt) (i : Nat) (v : Int32) : FH σ (cA σ 6 i v) := ⟨fun _ _ => rfl, fun k h => by rw [cA_3, if_neg (by omega)], fun _ _ => rfl, rfl⟩
theorem xor_sub {S l : Nat} (hS : S < 16) (hs : sub1 S l = true) : S ^^^ l = S - l := (b_sub hS hs).2.2.2.2.2.1
theorem ways_in {N : Nat} (hN : 6 ≤ N) {q : Qd} (hq : WfQ q) {S : Nat} (hS : S < 2 ^ qT q) (K : CSt → Int32 → Int32 → Option (Int32 × CSt)) (x1 : Int32) : ∀ (n m l : Nat) (σ : CSt), l + m = S → 0 < l → m < n → CQd q σ → Wy q S σ → σ.2.2.1 6 S = nI ((rl q S (qT q)).length + (jl q (PE q) S l).length) → ∃ σ', fH_wholePlans_L42 N K n σ x1 (nI S) (nI l) = K σ' x1 (nI S) ∧ FH σ σ' ∧ Wy q (S + 1) σ' := by
  have hT := hq.1
  have h16 : 2 ^ qT q ≤ 16 := Nat.pow_le_pow_right (n := 2) (by omega) hT
  intro n
  induction n with
  | zero => intro m l σ _ _ h; omega
  | succ n ih =>
    intro m l σ hm h0 hn hC hW hw
    rw [fH_wholePlans_L42]
    cases m with
    | zero =>
      have e : l = S := by omega
      subst e
      rw [if_pos (nI_le (by omega) (by omega))]
      refine ⟨σ, rfl, FH.refl σ, ?_⟩
      intro s s0 s1
      by_cases g : s = l
      · rw [g, hw, ← PE_len (by omega)]
      · exact hW s s0 (by omega)
    | succ m =>
      have hlS : l < S := by omega
      have ha := b_and_lt l (by omega) S (by omega)
      rw [if_neg (nI_ge hlS (by omega)), b_and l (by omega) S (by omega), nI_1]
      have hjl : (jl q (PE q) S (l + 1)).length = (jl q (PE q) S l).length + (blk q (PE q) S l).length := List.length_append
      rw [blk_len] at hjl
      by_cases g : l &&& S = l
      · have hs := sub1_t h0 hlS g
        have hb := b_sub (show S < 16 by omega) hs
        rw [if_pos (by rw [g]), b_xor S (by omega) l (by omega), hb.2.2.2.2.2.1, leastC hN hq hC (by omega) (by omega) hb.2.2.2.1, bs]
        by_cases g2 : lb q l (S - l) = -1
        · rw [if_pos g2]
          rw [if_neg (fun h => (okB_ok h).2 g2)] at hjl
          exact ih m (l + 1) σ (by omega) (by omega) (by omega) hC hW (by rw [hjl]; exact hw)
        · have hok := okB_t hs g2
          rw [if_neg g2, chk_nI (by omega) (by omega), chk_nI (by omega) (by omega), chk_nI (by omega) (by omega), chk_nI (by omega) (by omega), nI_cl (by omega), nI_cl (by omega), nI_cl (by omega), hw, hW l h0 hlS, hW (S - l) (by omega) (by omega), i_3, nI_mul, nI_mul, nI_add]
          rw [if_pos hok] at hjl
          have f1 := FH_6 σ S (nI ((rl q S (qT q)).length + (jl q (PE q) S l).length + 3 * (PE q l).length * (PE q (S - l)).length))
          obtain ⟨σ', h1, h2, h3⟩ := ih m (l + 1) (cA σ 6 S (nI ((rl q S (qT q)).length + (jl q (PE q) S l).length + 3 * (PE q l).length * (PE q (S - l)).length))) (by omega) (by omega) (by omega) (CQd_FH f1 hC) (by
            intro s s0 s1
            rw [cA_3, if_pos rfl, upd_at, if_neg (by omega)]
            exact hW s s0 s1) (by rw [cA_3, if_pos rfl, upd_at, if_pos rfl, hjl, Nat.add_assoc])
          exact ⟨σ', h1, f1.trans h2, h3⟩
      · rw [if_neg (fun h => g ((nI_eq (by omega) (by omega)).mp h))]
        rw [if_neg (fun h => g (sub1_ok (okB_ok h).1).2.2)] at hjl
        exact ih m (l + 1) σ (by omega) (by omega) (by omega) hC hW (by rw [hjl]; exact hw)
theorem ways_out {N : Nat} (hN : 20 ≤ N) {q : Qd} (hq : WfQ q) (K : CSt → Int32 → Option (Int32 × CSt)) : ∀ (n m S : Nat) (σ : CSt), S + m = 2 ^ qT q → 0 < S → m < n → CQd q σ → Wy q S σ → ∃ σ', fH_wholePlans_L10 N K n σ (nI (2 ^ qT q - 1)) (nI S) = K σ' (nI (2 ^ qT q - 1)) ∧ FH σ σ' ∧ Wy q (2 ^ qT q) σ' := by
  have hT := hq.1
  have h16 : 2 ^ qT q ≤ 16 := Nat.pow_le_pow_right (n := 2) (by omega) hT
  intro n
  induction n with
  | zero => intro m S σ _ _ h; omega
  | succ n ih =>
    intro m S σ hm h0 hn hC hW
    rw [fH_wholePlans_L10]
    cases m with
    | zero =>
      have e : S = 2 ^ qT q := by omega
      rw [if_pos (nI_lt (by omega) (by omega))]
      exact ⟨σ, rfl, FH.refl σ, by rw [← e]; exact hW⟩
    | succ m =>
      have hj1 : jl q (PE q) S 1 = [] := by
        show blk q (PE q) S 0 = []
        exact if_neg (fun h => absurd (sub1_ok (okB_ok h).1).1 (by omega))
      have hb4 := bc_le S (by omega)
      rw [if_neg (nI_nlt (by omega) (by omega)), if_neg (show ¬ (16 : Int32) ≤ nI S from nI_ge (b := 16) (by omega) (by omega)), bitC N (by omega), bs]
      have hrl := rl_len hq h0 (show S < 2 ^ qT q by omega)
      have main : ∀ v : Nat, v = (rl q S (qT q)).length → ∃ σ', fH_wholePlans_J39 N (fun (σ : CSt) (x1 : Int32) (x2 : Int32) => fH_wholePlans_L10 N K n σ x1 x2) σ (nI (2 ^ qT q - 1)) (nI S) (nI S) (nI v) = K σ' (nI (2 ^ qT q - 1)) ∧ FH σ σ' ∧ Wy q (2 ^ qT q) σ' := by
        intro v hv
        unfold fH_wholePlans_J39
        rw [chk_nI (by omega) (by omega), nI_cl (by omega)]
        have f1 := FH_6 σ S (nI v)
        obtain ⟨σ1, a1, a2, a3⟩ := ways_in (N := N) (by omega) hq (show S < 2 ^ qT q by omega) (fun (σ : CSt) (x1 : Int32) (x2 : Int32) => fH_wholePlans_L10 N K n σ x1 (x2 + 1)) (nI (2 ^ qT q - 1)) N (S - 1) 1 (cA σ 6 S (nI v)) (by omega) (by omega) (by omega) (CQd_FH f1 hC) (by
          intro s s0 s1
          rw [cA_3, if_pos rfl, upd_at, if_neg (by omega)]
          exact hW s s0 s1) (by rw [cA_3, if_pos rfl, upd_at, if_pos rfl, hj1, hv]; rfl)
        rw [show nI 1 = (1 : Int32) from rfl] at a1
        rw [a1, nI_1]
        obtain ⟨σ2, c1, c2, c3⟩ := ih m (S + 1) σ1 (by omega) (by omega) (by omega) (CQd_FH (f1.trans a2) hC) a3
        exact ⟨σ2, c1, (f1.trans a2).trans c2, c3⟩
      by_cases g : bc S = 1
      · rw [if_pos (by rw [g]; rfl)]
        rw [if_pos g] at hrl
        exact main 1 hrl.symm
      · rw [if_neg (show ¬ nI (bc S) = (1 : Int32) from fun h => g ((nI_eq (b := 1) (by omega) (by omega)).mp h))]
        rw [if_neg g] at hrl
        exact main 0 hrl.symm
theorem wholePlans_C {N : Nat} (hN : 20 ≤ N) {q : Qd} (hq : WfQ q) {σ : CSt} (hC : CQd q σ) (h0 : 0 < qT q) : ∃ σ', fH_wholePlans N σ = some (nI (PE q (2 ^ qT q - 1)).length, σ') ∧ FH σ σ' := by
  have hT := hq.1
  have h16 : 2 ^ qT q ≤ 16 := Nat.pow_le_pow_right (n := 2) (by omega) hT
  have h2 : 2 ^ 1 ≤ 2 ^ qT q := Nat.pow_le_pow_right (n := 2) (by omega) h0
  unfold fH_wholePlans
  rw [allTables_C hq hC, bs]
  obtain ⟨σ', a1, a2, a3⟩ := ways_out hN hq (fun (σ : CSt) (x1 : Int32) => fH_wholePlans_J110 N σ x1) N (2 ^ qT q - 1) 1 σ (by omega) (by omega) (by omega) hC (fun s s0 s1 => by omega)
  rw [show nI 1 = (1 : Int32) from rfl] at a1
  rw [a1]
  unfold fH_wholePlans_J110
  rw [if_neg (nI_nle (by omega) (by omega)), if_pos (show nI (2 ^ qT q - 1) < (16 : Int32) from nI_lt (b := 16) (by omega) (by omega)), chk_nI (by omega) (by omega), nI_cl (by omega), a3 _ (by omega) (by omega)]
  exact ⟨σ', rfl, a2⟩
theorem nI_sub {a b : Nat} (h : b ≤ a) : nI a - nI b = nI (a - b) := by
  obtain ⟨k, rfl⟩ : ∃ k, a = b + k := ⟨a - b, by omega⟩
  rw [← nI_add, Nat.add_sub_cancel_left, Int32.add_comm, Int32.add_sub_cancel]
theorem count_ok {N : Nat} (hN : 5000 ≤ N) {q : Qd} {c : Nat} {σ : CSt} {τ : MSt} (hB : Base q c σ τ) (x : Int32) : stepK q σ τ (fC_count N σ x) (fM_count N τ x) := by
  have hq := hB.1
  have hT := hB.1.1
  have hP := hB.1.2.1
  have h16 : 2 ^ qT q ≤ 16 := Nat.pow_le_pow_right (n := 2) (by omega) hT
  have same : ∀ r, stepK q σ τ (some (r, σ)) (some (r, τ)) := fun r => ⟨_, σ, τ, c, rfl, rfl, hB, FK.refl σ, RanM.refl τ⟩
  unfold fC_count fM_count
  by_cases x0 : x = 0
  · rw [if_pos x0, if_pos x0, hB.2.1.1, hB.2.2.1.1]; exact same _
  rw [if_neg x0, if_neg x0]
  by_cases x1 : x = 1
  · rw [if_pos x1, if_pos x1]
    have a := allRows_C (N := N) hB.2.1 N 4 0 (by omega) (by omega)
    have b := allRows_M (N := N) hq hB.2.2.1 N (qT q) 0 (by omega) (by omega)
    have e := rsum_top hq (4 - qT q)
    rw [show qT q + (4 - qT q) = 4 by omega] at e
    unfold fQ_allRows
    rw [show nI (rsum q 0) = (0 : Int32) from rfl, nI_0] at a b
    rw [a, b, bs, e]
    exact same _
  rw [if_neg x1, if_neg x1]
  by_cases x2 : x = 2
  · rw [if_pos x2, if_pos x2, hB.2.1.2.1, hB.2.2.1.2.1]; exact same _
  rw [if_neg x2, if_neg x2]
  by_cases x3 : x = 3
  · rw [if_pos x3, if_pos x3, hB.2.2.2.2.1, hB.2.2.2.2.2.1]; exact same _
  rw [if_neg x3, if_neg x3]
  by_cases x4 : x = 4
  · rw [if_pos x4, if_pos x4]
    rcases hB.2.1.2.2.2.2.2.2.2.2 with ⟨o1, o2⟩ | ⟨p, o1, o2, o3⟩
    · have hopen : fM_open N τ = some (-1) := open_none hq hB.2.2.1 o2 N 0 (Nat.zero_le _) (by omega)
      rw [o1, hopen]; exact same _
    · have hopen : fM_open N τ = some (nI p) := open_some hq hB.2.2.1 o1 o2 N 0 (Nat.zero_le _) (by omega)
      rw [o3, hopen]; exact same _
  rw [if_neg x4, if_neg x4]
  by_cases x5 : x = 5
  · rw [if_pos x5, if_pos x5]
    rcases wholeC (N := N) (by omega) hq hB.2.1 with ⟨w1, w2⟩ | ⟨w1, w2⟩ <;> rcases wholeM (N := N) (by omega) hq hB.2.2.1 with ⟨v1, v2⟩ | ⟨v1, v2⟩
    · rw [w1, v1, bs, bs, if_neg n10, if_neg n10]; exact same _
    · exact absurd w2 v2
    · exact absurd v2 w2
    · rw [w1, v1, bs, bs, if_pos rfl, if_pos rfl]; exact same _
  rw [if_neg x5, if_neg x5]
  by_cases x6 : x = 6
  · rw [if_pos x6, if_pos x6]
    rcases wholeC (N := N) (by omega) hq hB.2.1 with ⟨w1, w2⟩ | ⟨w1, w2⟩ <;> rcases wholeM (N := N) (by omega) hq hB.2.2.1 with ⟨v1, v2⟩ | ⟨v1, v2⟩
    · have h2 : 2 ^ 1 ≤ 2 ^ qT q := Nat.pow_le_pow_right (n := 2) (by omega) w2.1
      obtain ⟨σ1, a1, a2⟩ := wholePlans_C (N := N) (by omega) hq hB.2.1 w2.1
      obtain ⟨τ1, l1, l2, l3⟩ := list_ok hN hq hB.2.2.1
      have hlf : (fl q (2 ^ qT q - 1)).length = (PE q (2 ^ qT q - 1)).length := by
        unfold fl
        split
        · rw [List.length_map]
        · rfl
      have ho := off_succ q (2 ^ qT q - 1)
      rw [show 2 ^ qT q - 1 + 1 = 2 ^ qT q by omega, hlf] at ho
      have h22 : τ1.1 22 = nI (off q (2 ^ qT q)) := l2.1.1
      rw [w1, v1, bs, bs, if_neg n10, if_neg n10, a1, l1, bs, bs, all_M hq (MQd_Fr l3 hB.2.2.1), bs, chk_nI (by omega) (by omega), nI_cl (by omega), h22, l2.2 (2 ^ qT q - 1) (by omega) (by omega), nI_sub (by omega), ho, Nat.add_sub_cancel_left]
      exact ⟨_, σ1, τ1, c, rfl, rfl, Base_FH a2 (Base_Fr l3 hB), a2.FK, RanM_Fr l3⟩
    · exact absurd w2 v2
    · exact absurd v2 w2
    · rw [w1, v1, bs, bs, if_pos rfl, if_pos rfl]; exact same _
  rw [if_neg x6, if_neg x6]
  exact same _
