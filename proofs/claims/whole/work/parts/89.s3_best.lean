/-! the chooser: all sets -/
theorem rl_no (q : Qd) (s : Nat) : ∀ n, (∀ t, t < n → s ≠ 2 ^ t) → rl q s n = [] := by
  intro n
  induction n with
  | zero => exact fun _ => rfl
  | succ n ih =>
    intro h
    show rl q s n ++ (if s = 2 ^ n then [rd q n] else []) = []
    rw [ih (fun t ht => h t (by omega)), if_neg (h n (by omega))]
    rfl
theorem rl_one (q : Qd) {t : Nat} (ht : t < 4) : ∀ n, n ≤ 4 → t < n → rl q (2 ^ t) n = [rd q t] := by
  intro n
  induction n with
  | zero => intro _ h; omega
  | succ n ih =>
    intro hn h
    show rl q (2 ^ t) n ++ (if 2 ^ t = 2 ^ n then [rd q n] else []) = _
    by_cases g : t = n
    · subst g
      rw [if_pos rfl, rl_no q (2 ^ t) t (fun u hu e => by have := pow2_inj t ht u (by omega) e; omega)]
      rfl
    · rw [ih (by omega) (by omega), if_neg (fun e => g (pow2_inj t ht n (by omega) e))]
      rfl
theorem jl_1 (q : Qd) (S : Nat) : jl q (PE q) S 1 = [] := by
  show blk q (PE q) S 0 = []
  exact if_neg (fun h => absurd (sub1_ok (okB_ok h).1).1 (by omega))
theorem Xl_one {q : Qd} (hq : WfQ q) {t : Nat} (ht : t < qT q) : Xl q (2 ^ t) 1 = [frd q t] := by
  have hT := hq.1
  unfold Xl
  rw [jl_1, List.append_nil, rl_one q (by omega) (qT q) hT ht]
  unfold fx frd
  split <;> rfl
theorem Xl_no {q : Qd} {s : Nat} (h : ∀ t, t < qT q → s ≠ 2 ^ t) : Xl q s 1 = [] := by
  unfold Xl
  rw [jl_1, List.append_nil, rl_no q s _ h, fx_nil]
theorem offerRead_ok {N : Nat} {q : Qd} {σ : CSt} (hq : WfQ q) (hC : CQd q σ) (hm : Measured q σ) {t : Nat} (ht : t < qT q) : fH_offerRead N σ (nI t) = some (putE q σ (2 ^ t) (frd q t)) := by
  have hT := hq.1
  have h16 := b_pow_lt t (by omega)
  obtain ⟨h1, h2⟩ := readA_C (N := N) hq hC hm ht
  unfold fH_offerRead putE
  rw [b_shl t (by omega), h1, bs, chk_nI h16 (by omega), chk_nI h16 (by omega), chk_nI h16 (by omega), chk_nI h16 (by omega), nI_cl (by omega), frd_K, frd_C, h2, if_neg (ioB_rd q _ _)]
  rfl
theorem reads_loop {N : Nat} {q : Qd} (hq : WfQ q) {up dn : Nat} {sl : Int32} (K : CSt → Int32 → Option ((Option Pl) × CSt)) (x6 : Int32) : ∀ (n m t : Nat) (σ : CSt), t + m = qT q → m < n → CQd q σ → Measured q σ → Ask up dn sl σ → (∀ u, u < t → Hd q σ (2 ^ u) (frd q u)) → (∀ s, s < 16 → (∀ u, u < t → s ≠ 2 ^ u) → σ.2.2.1 4 s = -1) → ∃ σ', fH_cheapest_L52 N K n σ x6 (nI t) = K σ' x6 ∧ FH σ σ' ∧ Ask up dn sl σ' ∧ ∀ s, 0 < s → s < 2 ^ qT q → Hl q up dn sl σ' s (Xl q s 1) := by
  have hT := hq.1
  have h16 : 2 ^ qT q ≤ 16 := Nat.pow_le_pow_right (n := 2) (by omega) hT
  intro n
  induction n with
  | zero => intro m t σ _ h; omega
  | succ n ih =>
    intro m t σ hm hn hC hM hA h1 h2
    rw [fH_cheapest_L52, hC.1]
    cases m with
    | zero =>
      rw [if_pos (nI_le (by omega) (by omega))]
      refine ⟨σ, rfl, FH.refl σ, hA, ?_⟩
      have e : t = qT q := by omega
      intro s s0 s1
      by_cases g : ∃ u, u < qT q ∧ s = 2 ^ u
      · obtain ⟨u, hu, rfl⟩ := g
        rw [Xl_one hq hu]
        exact Or.inr ⟨frd q u, h1 u (by omega), by simp, fun f hf => by rw [List.mem_singleton.mp hf]; exact leE_refl _ _ _ _⟩
      · have g : ∀ u, u < qT q → s ≠ 2 ^ u := fun u hu e => g ⟨u, hu, e⟩
        rw [Xl_no g]
        exact Or.inl ⟨rfl, h2 s (by omega) (fun u hu => g u (by omega))⟩
    | succ m =>
      rw [if_neg (nI_ge (by omega) (by omega)), if_neg (show ¬ (4 : Int32) ≤ nI t from nI_ge (b := 4) (by omega) (by omega)), offerRead_ok hq hC hM (by omega), bs, nI_1]
      have f1 := putE_FO q σ (2 ^ t) (frd q t)
      obtain ⟨σ', a1, a2, a3⟩ := ih m (t + 1) (putE q σ (2 ^ t) (frd q t)) (by omega) (by omega) (CQd_FH f1.1 hC) (Meas_FH f1.1 hM) (Ask_FO f1 hA) (by
        intro u hu
        by_cases g : u = t
        · rw [g]; exact putE_Hd _ _ _ _
        · exact Hd_FO f1 (fun e => g (pow2_inj u (by omega) t (by omega) e)) (h1 u (by omega))) (by
        intro s s1 hs
        rw [(f1.2.2.2 s (hs t (by omega))).1]
        exact h2 s s1 (fun u hu => hs u (by omega)))
      exact ⟨σ', a1, f1.1.trans a2, a3⟩
theorem none_loop {N : Nat} (K : CSt → Int32 → Option ((Option Pl) × CSt)) (x6 : Int32) {up dn : Nat} {sl : Int32} : ∀ (n m i : Nat) (σ : CSt), i + m = 16 → m < n → Ask up dn sl σ → (∀ s, s < i → σ.2.2.1 4 s = -1) → ∃ σ', fH_cheapest_L28 N K n σ x6 (nI i) = K σ' x6 ∧ FH σ σ' ∧ Ask up dn sl σ' ∧ ∀ s, s < 16 → σ'.2.2.1 4 s = -1 := by
  intro n
  induction n with
  | zero => intro m i σ _ h; omega
  | succ n ih =>
    intro m i σ hm hn hA h
    rw [fH_cheapest_L28]
    cases m with
    | zero =>
      rw [if_pos (show (16 : Int32) ≤ nI i from nI_le (a := 16) (by omega) (by omega))]
      exact ⟨σ, rfl, FH.refl σ, hA, fun s hs => h s (by omega)⟩
    | succ m =>
      rw [if_neg (show ¬ (16 : Int32) ≤ nI i from nI_ge (b := 16) (by omega) (by omega)), chk_nI (by omega) (by omega), nI_cl (by omega), nI_1]
      have f1 : FH σ (cA σ 4 i (-1)) := ⟨fun _ _ => rfl, fun k h => by rw [cA_3, if_neg (by omega)], fun _ _ => rfl, rfl⟩
      obtain ⟨σ', a1, a2, a3⟩ := ih m (i + 1) (cA σ 4 i (-1)) (by omega) (by omega) hA (by
        intro s hs
        rw [cA_3, if_pos rfl, upd_at]
        by_cases g : s = i
        · rw [if_pos g]
        · rw [if_neg g]; exact h s (by omega))
      exact ⟨σ', a1, f1.trans a2, a3⟩
theorem sets_loop {N : Nat} (hN : 20 ≤ N) {q : Qd} (hq : WfQ q) {up dn : Nat} {sl : Int32} (hsl : sl = 0 ∨ sl = 1 ∨ sl = -1) (hu : up < 2 ^ 26) (hd : dn < 2 ^ 26) (K : CSt → Int32 → Option ((Option Pl) × CSt)) : ∀ (n m S : Nat) (σ : CSt), S + m = 2 ^ qT q → 0 < S → m < n → CQd q σ → Measured q σ → Ask up dn sl σ → (∀ s, 0 < s → s < S → Hl q up dn sl σ s (fl q s)) → (∀ s, S ≤ s → s < 2 ^ qT q → Hl q up dn sl σ s (Xl q s 1)) → ∃ σ', fH_cheapest_L85 N K n σ (nI (2 ^ qT q - 1)) (nI S) = K σ' (nI (2 ^ qT q - 1)) ∧ FH σ σ' ∧ ∀ s, 0 < s → s < 2 ^ qT q → Hl q up dn sl σ' s (fl q s) := by
  have hT := hq.1
  have h16 : 2 ^ qT q ≤ 16 := Nat.pow_le_pow_right (n := 2) (by omega) hT
  intro n
  induction n with
  | zero => intro m S σ _ _ h; omega
  | succ n ih =>
    intro m S σ hm h0 hn hC hM hA h1 h2
    rw [fH_cheapest_L85]
    cases m with
    | zero =>
      rw [if_pos (nI_lt (by omega) (by omega))]
      exact ⟨σ, rfl, FH.refl σ, fun s s0 s1 => h1 s s0 (by omega)⟩
    | succ m =>
      rw [if_neg (nI_nlt (by omega) (by omega)), if_neg (show ¬ (16 : Int32) ≤ nI S from nI_ge (b := 16) (by omega) (by omega))]
      obtain ⟨σ1, a1, a2, a3⟩ := joins_loop (N := N) (by omega) hq hsl hu hd (show S < 2 ^ qT q by omega) N (S - 1) 1 σ (by omega) (by omega) (by omega) hC hM hA h1 (h2 S (by omega) (by omega))
      unfold fH_offerJoins
      rw [show nI 1 = (1 : Int32) from rfl] at a1
      rw [a1, bs, nI_1]
      obtain ⟨σ2, b1, b2, b3⟩ := ih m (S + 1) σ1 (by omega) (by omega) (by omega) (CQd_FH a2.1 hC) (Meas_FH a2.1 hM) (Ask_FO a2 hA) (by
        intro s s0 s1
        by_cases g : s = S
        · rw [g]; exact a3
        · exact Hl_FO a2 g (h1 s s0 (by omega))) (fun s s0 s1 => Hl_FO a2 (by omega) (h2 s (by omega) s1))
      exact ⟨σ2, b1, a2.1.trans b2, b3⟩
theorem cheapest_ok {N : Nat} (hN : 20 ≤ N) {q : Qd} (hq : WfQ q) {σ : CSt} (hC : CQd q σ) (hm : Measured q σ) {up dn : Nat} {sl : Int32} (hsl : sl = 0 ∨ sl = 1 ∨ sl = -1) (hu : up < 2 ^ 26) (hd : dn < 2 ^ 26) (h0 : 0 < qT q) (hne : fl q (2 ^ qT q - 1) ≠ []) : ∃ e σ', fH_cheapest N σ (lN up) (lN dn) sl = some (some (pl q (2 ^ qT q - 1) e), σ') ∧ FH σ σ' ∧ Lst up dn sl (fl q (2 ^ qT q - 1)) e := by
  have hT := hq.1
  have h16 : 2 ^ qT q ≤ 16 := Nat.pow_le_pow_right (n := 2) (by omega) hT
  have h2 : 2 ^ 1 ≤ 2 ^ qT q := Nat.pow_le_pow_right (n := 2) (by omega) h0
  unfold fH_cheapest
  have f0 : FH σ (cI (cJ (cJ σ 7 (lN up)) 8 (lN dn)) 9 sl) := ⟨fun k h => by rw [cI_1, if_neg (by omega)]; rfl, fun _ _ => rfl, fun _ _ => rfl, rfl⟩
  have A0 : Ask up dn sl (cI (cJ (cJ σ 7 (lN up)) 8 (lN dn)) 9 sl) := ⟨rfl, rfl, rfl⟩
  generalize cI (cJ (cJ σ 7 (lN up)) 8 (lN dn)) 9 sl = σ0 at f0 A0
  have C0 := CQd_FH f0 hC
  have M0 := Meas_FH f0 hm
  rw [allTables_C hq C0, bs]
  obtain ⟨σ1, a1, a2, a3, a4⟩ := none_loop (N := N) (fun (σ : CSt) (x6 : Int32) => fH_cheapest_L52 N (fun (σ : CSt) (x6 : Int32) => fH_cheapest_J82 N σ x6) N σ x6 (0 : Int32)) (nI (2 ^ qT q - 1)) N 16 0 σ0 (by omega) (by omega) A0 (fun s hs => by omega)
  rw [nI_0] at a1
  rw [a1]
  have C1 := CQd_FH a2 C0
  have M1 := Meas_FH a2 M0
  obtain ⟨σ2, b1, b2, b3, b4⟩ := reads_loop (N := N) hq (fun (σ : CSt) (x6 : Int32) => fH_cheapest_J82 N σ x6) (nI (2 ^ qT q - 1)) N (qT q) 0 σ1 (by omega) (by omega) C1 M1 a3 (fun u hu => by omega) (fun s hs _ => a4 s hs)
  rw [nI_0] at b1
  rw [b1]
  have C2 := CQd_FH b2 C1
  have M2 := Meas_FH b2 M1
  unfold fH_cheapest_J82
  obtain ⟨σ3, c1, c2, c3⟩ := sets_loop (N := N) hN hq hsl hu hd (fun (σ : CSt) (x6 : Int32) => fH_cheapest_J111 N σ x6) N (2 ^ qT q - 1) 1 σ2 (by omega) (by omega) (by omega) C2 M2 b3 (fun s s0 s1 => by omega) (fun s s0 s1 => b4 s (by omega) s1)
  rw [show nI 1 = (1 : Int32) from rfl] at c1
  rw [c1]
  rcases c3 (2 ^ qT q - 1) (by omega) (by omega) with ⟨d1, -⟩ | ⟨e, d1, d2⟩
  · exact absurd d1 hne
  · have be := fl_bd hq (show 2 ^ qT q - 1 < 16 by omega) d2.1
    unfold fH_cheapest_J111 bt
    rw [if_neg (nI_nle (by omega) (by omega)), if_neg (show ¬ (16 : Int32) ≤ nI (2 ^ qT q - 1) from nI_ge (b := 16) (by omega) (by omega)), chk_nI (by omega) (by omega), nI_cl (by omega), if_neg (show ¬ σ3.2.2.1 4 (2 ^ qT q - 1) = -1 by rw [d1.1]; exact nI_ne_m1 be.1), chk_nI (by omega) (by omega), chk_nI (by omega) (by omega), chk_nI (by omega) (by omega), chk_nI (by omega) (by omega), d1.1, d1.2.1, d1.2.2.1, d1.2.2.2, if_pos (by split; exact Or.inr rfl; exact Or.inl rfl)]
    exact ⟨e, σ3, rfl, ((f0.trans a2).trans b2).trans c2, d2⟩
/-! a whole question has a whole plan -/
def stT (t u r : Nat) : Bool := !(decide (t < u) && ((2 ^ t + 2 ^ u) &&& r != 0)) || (r ||| (2 ^ t + 2 ^ u) == r || ((r ||| (2 ^ t + 2 ^ u) == r + 2 ^ t && (sub1 (r + 2 ^ t) r && (2 ^ u &&& r != 0 && 2 ^ t &&& r == 0))) || (r ||| (2 ^ t + 2 ^ u) == r + 2 ^ u && (sub1 (r + 2 ^ u) r && (2 ^ t &&& r != 0 && 2 ^ u &&& r == 0)))))
theorem stTB : ((List.range 4).all fun t => (List.range 4).all fun u => (List.range 16).all fun r => stT t u r) = true := by decide +kernel
theorem st_ok {t u r : Nat} (htu : t < u) (hu : u < 4) (hr : r < 16) (h : (2 ^ t + 2 ^ u) &&& r ≠ 0) : r ||| (2 ^ t + 2 ^ u) = r ∨ (r ||| (2 ^ t + 2 ^ u) = r + 2 ^ t ∧ sub1 (r + 2 ^ t) r = true ∧ 2 ^ u &&& r ≠ 0) ∨ (r ||| (2 ^ t + 2 ^ u) = r + 2 ^ u ∧ sub1 (r + 2 ^ u) r = true ∧ 2 ^ t &&& r ≠ 0) := by
  have g := stTB
  simp only [List.all_eq_true, List.mem_range] at g
  have g := g t (by omega) u hu r hr
  unfold stT at g
  simp only [htu, decide_true, Bool.true_and, Bool.or_eq_true, Bool.and_eq_true, Bool.not_eq_true', bne_iff_ne, beq_iff_eq, bne_eq_false_iff_eq] at g
  rcases g with g | g | g | g
  · exact absurd g h
  · exact Or.inl g
  · exact Or.inr (Or.inl ⟨g.1, g.2.1, g.2.2.1⟩)
  · exact Or.inr (Or.inr ⟨g.1, g.2.1, g.2.2.1⟩)
theorem PE_one {q : Qd} (hq : WfQ q) {t : Nat} (ht : t < qT q) : PE q (2 ^ t) ≠ [] := by
  have hT := hq.1
  exact List.ne_nil_of_mem ((mem_PE (b_pow_lt t (by omega))).mpr (Or.inl ⟨t, ht, rfl, rfl⟩))
theorem PE_join {q : Qd} {S l : Nat} (hS : S < 16) (hk : okB q S l = true) (h1 : PE q l ≠ []) (h2 : PE q (S - l) ≠ []) : PE q S ≠ [] := by
  obtain ⟨a, ha⟩ := List.exists_mem_of_ne_nil _ h1
  obtain ⟨b, hb⟩ := List.exists_mem_of_ne_nil _ h2
  exact List.ne_nil_of_mem ((mem_PE hS).mpr (Or.inr ⟨l, hk, 0, by omega, a, ha, b, hb, rfl⟩))
theorem lb_btw {q : Qd} (hq : WfQ q) {l r p : Nat} (hp : p < qP q) (h : btw q p l r) : lb q l r ≠ -1 := by
  have hP := hq.2.1
  rcases lb_cases (q := q) l r with ⟨-, g⟩ | ⟨p', hp', g, -⟩
  · exact absurd h (g p hp)
  · rw [g]
    exact nI_ne_m1 (by omega)
theorem st_PE {q : Qd} (hq : WfQ q) {p r : Nat} (hr : r < 16) (h0 : PE q r ≠ []) : PE q (if qe q p &&& r = 0 then r else r ||| qe q p) ≠ [] := by
  have hT := hq.1
  have hP := hq.2.1
  by_cases g : qe q p &&& r = 0
  · rw [if_pos g]; exact h0
  · rw [if_neg g]
    unfold qe at g ⊢
    by_cases hp : p < qP q
    · rw [if_pos hp] at g ⊢
      obtain ⟨b1, b2, -⟩ := hq.2.2.2.2.1 p hp
      have hlt := b_or_lt r hr _ (b_two_lt _ (show qt q p < 4 by omega) _ (show qu q p < 4 by omega) b1)
      have t0 := Nat.two_pow_pos (qt q p)
      have u0 := Nat.two_pow_pos (qu q p)
      rcases st_ok b1 (show qu q p < 4 by omega) hr g with h | ⟨h, hs, hb⟩ | ⟨h, hs, hb⟩
      · rw [h]; exact h0
      · rw [h] at hlt ⊢
        have e : r + 2 ^ qt q p - r = 2 ^ qt q p := by omega
        refine PE_join hlt (okB_t hs (lb_btw hq hp ?_)) h0 (by rw [e]; exact PE_one hq (by omega))
        rw [e]
        exact Or.inr ⟨by rw [Nat.and_self]; omega, hb⟩
      · rw [h] at hlt ⊢
        have e : r + 2 ^ qu q p - r = 2 ^ qu q p := by omega
        refine PE_join hlt (okB_t hs (lb_btw hq hp ?_)) h0 (by rw [e]; exact PE_one hq (by omega))
        rw [e]
        exact Or.inl ⟨hb, by rw [Nat.and_self]; omega⟩
    · rw [if_neg hp, Nat.zero_and] at g
      exact absurd rfl g
theorem inC_PE {q : Qd} (hq : WfQ q) : ∀ (k p r : Nat), r < 16 → PE q r ≠ [] → inC (qe q) k p r < 16 ∧ PE q (inC (qe q) k p r) ≠ [] := by
  intro k
  induction k with
  | zero => intro p r h1 h2; exact ⟨h1, h2⟩
  | succ k ih =>
    intro p r h1 h2
    refine ih (p + 1) _ ?_ (st_PE hq h1 h2)
    split
    · exact h1
    · exact b_or_lt r h1 _ (qe_lt hq p)
theorem outC_PE {q : Qd} (hq : WfQ q) : ∀ (k r : Nat), r < 16 → PE q r ≠ [] → PE q (outC (qe q) k r) ≠ [] := by
  intro k
  induction k with
  | zero => intro r h1 h2; exact h2
  | succ k ih =>
    intro r h1 h2
    obtain ⟨a, b⟩ := inC_PE hq 4 0 r h1 h2
    exact ih _ a b
theorem whole_fl {q : Qd} (hq : WfQ q) (hW : Whole q) : fl q (2 ^ qT q - 1) ≠ [] := by
  have h := outC_PE hq (qT q - 1) 1 (by omega) (PE_one (t := 0) hq hW.1)
  rw [hW.2.2] at h
  unfold fl
  rw [if_pos rfl]
  intro e
  exact h (List.map_eq_nil_iff.mp e)
