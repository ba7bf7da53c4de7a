/-! cover: the search -/
/-- what the reference's question, plans and run need -/
def FW (τ τ' : MSt) : Prop := (∀ k, k ≤ 13 ∨ k = 37 ∨ k = 38 → τ'.1 k = τ.1 k) ∧ ∀ k, k ≤ 13 ∨ k = 39 → τ'.2.2.1 k = τ.2.2.1 k
theorem FW.refl (τ : MSt) : FW τ τ := ⟨fun _ _ => rfl, fun _ _ => rfl⟩
theorem FW.trans {a b c : MSt} (h : FW a b) (g : FW b c) : FW a c := ⟨fun k h1 => (g.1 k h1).trans (h.1 k h1), fun k h1 => (g.2 k h1).trans (h.2 k h1)⟩
theorem FrS.FW {τ τ' : MSt} (h : FrS τ τ') : FW τ τ' := ⟨fun k h1 => h.1 k (by omega) (by omega), fun k h1 => h.2 k (by omega) (by omega)⟩
theorem MQd_FW {q : Qd} {τ τ' : MSt} (h : FW τ τ') (hM : MQd q τ) : MQd q τ' := by
  unfold MQd at hM ⊢
  rw [h.1 0 (by omega), h.1 1 (by omega), h.1 2 (by omega), h.1 3 (by omega), h.2 4 (by omega), h.2 5 (by omega), h.2 6 (by omega), h.2 7 (by omega), h.2 8 (by omega), h.2 9 (by omega), h.2 10 (by omega)]
  exact hM
theorem Base_FW {q : Qd} {c : Nat} {σ : CSt} {τ τ' : MSt} (h : FW τ τ') (hB : Base q c σ τ) : Base q c σ τ' := by
  obtain ⟨b1, b2, b3, b4, b5, b6, b7, b8, b9⟩ := hB
  refine ⟨b1, b2, MQd_FW h b3, b4, b5, by rw [h.1 11 (by omega)]; exact b6, ?_, b8, b9⟩
  unfold Kept
  rw [h.2 12 (by omega), h.2 13 (by omega)]
  exact b7
theorem RanM_FW {τ τ' : MSt} (h : FW τ τ') : RanM τ τ' := ⟨h.1 37 (by omega), h.1 38 (by omega), h.2 39 (by omega)⟩
/-- only row 28 changes -/
def F28 (τ τ' : MSt) : Prop := τ'.1 = τ.1 ∧ (∀ k, k ≠ 28 → τ'.2.2.1 k = τ.2.2.1 k) ∧ τ'.2.2.2 = τ.2.2.2
theorem F28.refl (τ : MSt) : F28 τ τ := ⟨rfl, fun _ _ => rfl, rfl⟩
theorem F28.trans {a b c : MSt} (h : F28 a b) (g : F28 b c) : F28 a c := ⟨g.1.trans h.1, fun k hk => (g.2.1 k hk).trans (h.2.1 k hk), g.2.2.trans h.2.2⟩
theorem At_28 {τ τ' : MSt} (h : F28 τ τ') {i : Nat} {e : Ent} (hA : At τ i e) : At τ' i e := by
  unfold At
  rw [h.2.1 17 (by omega), h.2.1 18 (by omega), h.2.1 19 (by omega), h.2.2]
  exact hA
theorem Listed_28 {q : Qd} {τ τ' : MSt} (h : F28 τ τ') (hL : Listed q τ) : Listed q τ' := ⟨⟨by rw [h.1]; exact hL.1.1, fun i e he => At_28 h (hL.1.2 i e he)⟩, fun s h1 h2 => by rw [h.2.1 16 (by omega)]; exact hL.2 s h1 h2⟩
theorem SpM_28 {τ τ' : MSt} (h : F28 τ τ') {E : List Ent} {n : Nat} (hS : SpM τ E n) : SpM τ' E n := by
  refine ⟨by rw [h.1]; exact hS.1, fun i e hi he => ?_⟩
  obtain ⟨⟨x, hx, h23, hA⟩, hb⟩ := hS.2 i e hi he
  refine ⟨⟨x, hx, by rw [h.2.1 23 (by omega)]; exact h23, At_28 h hA⟩, fun u v hB => ?_⟩
  rw [h.2.2]
  exact hb u v hB
theorem F28.FW {τ τ' : MSt} (h : F28 τ τ') : FW τ τ' := ⟨fun k _ => by rw [h.1], fun k hk => h.2.1 k (by omega)⟩
theorem nar_if (P : Prop) [Decidable P] : vp_nar .boolean (if P then 1 else 0) = (if P then 1 else 0) := by
  by_cases h : P
  · rw [if_pos h]; rfl
  · rw [if_neg h]; rfl
theorem fill_in {N : Nat} (hN : 5000 ≤ N) {q : Qd} (hq : WfQ q) (hW : Whole q) {lp : Nat → Nat} (hl : Lp q lp) (h30 : ∀ p, p < 33 → lp p < 2 ^ 30) {e : Ent} (he : e ∈ fl q (2 ^ qT q - 1)) {i x d : Nat} (hi : i < 16) (hx : x < 5000) (hd : d ≤ 10000) (K : MSt → Int32 → Int32 → Option (Int32 × MSt)) : ∀ (n m p : Nat) (τ : MSt), p + m = 33 → m < n → MQd q τ → Listed q τ → τ.2.2.1 23 i = nI x → At τ x e → ∃ τ', fM_cover_L52 N K n τ (nI d) (nI i) (nI p) = K τ' (nI d) (nI i) ∧ F28 τ τ' ∧ (∀ k, (k < 33 * i + p ∨ 33 * i + 33 ≤ k) → τ'.2.2.1 28 k = τ.2.2.1 28 k) ∧ ∀ r, p ≤ r → r < 33 → τ'.2.2.1 28 (33 * i + r) = if nrP lp e r d then 1 else 0 := by
  intro n
  induction n with
  | zero => intro m p τ _ h; omega
  | succ n ih =>
    intro m p τ hp hn hM hL h23 hA
    rw [fM_cover_L52]
    cases m with
    | zero =>
      rw [if_pos (show (32 : Int32) < nI p from nI_lt (a := 32) (by omega) (by omega))]
      exact ⟨τ, rfl, F28.refl τ, fun _ _ => rfl, fun r h1 h2 => by omega⟩
    | succ m =>
      rw [if_neg (show ¬ (32 : Int32) < nI p from nI_nlt (a := 32) (by omega) (by omega)), chk_nI (by omega) (by omega), nI_cl (by omega), h23, isNear_M hN hq hW hM hL hl h30 he hx hA (by omega) hd, bs, i33, nI_mul, nI_add, chk_nI (by omega) (by omega), nI_cl (by omega), nar_if, nI_1]
      have f1 : F28 τ (sA τ 28 (33 * i + p) (if nrP lp e p d then 1 else 0)) := ⟨rfl, fun k hk => by rw [sA_3, if_neg hk], rfl⟩
      obtain ⟨τ', a1, a2, a3, a4⟩ := ih m (p + 1) (sA τ 28 (33 * i + p) (if nrP lp e p d then 1 else 0)) (by omega) (by omega) (MQd_FW f1.FW hM) (Listed_28 f1 hL) (by rw [f1.2.1 23 (by omega)]; exact h23) (At_28 f1 hA)
      refine ⟨τ', a1, f1.trans a2, ?_, ?_⟩
      · intro k hk
        rw [a3 k (by omega), sA_3, if_pos rfl, upd_at, if_neg (by omega)]
      · intro r h1 h2
        by_cases c : r = p
        · rw [c, a3 _ (by omega), sA_3, if_pos rfl, upd_at, if_pos rfl]
        · exact a4 r (by omega) h2
theorem fill_out {N : Nat} (hN : 5000 ≤ N) {q : Qd} (hq : WfQ q) (hW : Whole q) {lp : Nat → Nat} (hl : Lp q lp) (h30 : ∀ p, p < 33 → lp p < 2 ^ 30) {E : List Ent} (hF : ∀ e, e ∈ E → e ∈ fl q (2 ^ qT q - 1)) (h16 : E.length ≤ 16) {d : Nat} (hd : d ≤ 10000) (K : MSt → Option (Int32 × MSt)) : ∀ (n m i : Nat) (τ : MSt), i + m = E.length → m < n → MQd q τ → Listed q τ → SpM τ E E.length → (∀ p j e, j < i → p < 33 → E[j]? = some e → τ.2.2.1 28 (33 * j + p) = if nrP lp e p d then 1 else 0) → ∃ τ', fM_cover_L42 N K n τ (nI d) (nI i) = K τ' ∧ F28 τ τ' ∧ ∀ p j e, p < 33 → E[j]? = some e → τ'.2.2.1 28 (33 * j + p) = if nrP lp e p d then 1 else 0 := by
  intro n
  induction n with
  | zero => intro m i τ _ h; omega
  | succ n ih =>
    intro m i τ hi hn hM hL hS h28
    rw [fM_cover_L42, hS.1]
    cases m with
    | zero =>
      rw [if_pos (nI_le (by omega) (by omega))]
      exact ⟨τ, rfl, F28.refl τ, fun p j e hp he => h28 p j e (by have := (List.getElem?_eq_some_iff.mp he).1; omega) hp he⟩
    | succ m =>
      have he : E[i]? = some E[i] := List.getElem?_eq_getElem (by omega)
      generalize E[i] = e at he
      obtain ⟨⟨x, hx, h23, hA⟩, -⟩ := hS.2 i e (by omega) he
      rw [if_neg (nI_ge (by omega) (by omega))]
      obtain ⟨τ1, a1, a2, a3, a4⟩ := fill_in (N := N) hN hq hW hl h30 (hF e (List.mem_of_getElem? he)) (show i < 16 by omega) hx hd (fun (σ : MSt) (x1 : Int32) (x2 : Int32) => fM_cover_L42 N K n σ x1 (x2 + 1)) N 33 0 τ (by omega) (by omega) hM hL h23 hA
      rw [nI_0] at a1
      rw [a1, nI_1]
      obtain ⟨τ2, b1, b2, b3⟩ := ih m (i + 1) τ1 (by omega) (by omega) (MQd_FW a2.FW hM) (Listed_28 a2 hL) (SpM_28 a2 hS) (by
        intro p j f hj hp hf
        by_cases c : j = i
        · rw [c, he] at hf
          rw [c, a4 p (by omega) hp, Option.some.inj hf]
        · rw [a3 _ (by omega)]
          exact h28 p j f (by omega) hp hf)
      exact ⟨τ2, b1, a2.trans b2, b3⟩
theorem pcD : ∀ a, a < 17 → ∀ b, b < 17 → (nI a - nI b = 0 ↔ a = b) ∧ (0 ≤ nI a - nI b ↔ b ≤ a) := by decide +kernel
theorem cover_loop {N : Nat} (hN : 40 ≤ N) {q : Qd} {σ : CSt} {τ : MSt} {lp : Nat → Nat} {E : List Ent} {d : Nat} (h0 : 0 < E.length) (h16 : E.length ≤ 16) (hR : Rw q σ E) (h6 : ∀ j e, E[j]? = some e → σ.2.2.2.1 506 j = lN (pmk lp e d 33)) (h26 : τ.1 26 = nI E.length) (h28 : ∀ p j e, p < 33 → E[j]? = some e → τ.2.2.1 28 (33 * j + p) = if nrP lp e p d then 1 else 0) (hfull : En lp E d (2 ^ E.length - 1)) : ∀ (n m s ch bt : Nat), s + m = 2 ^ E.length → m < n → 0 < s → ((ch = 0 ∧ bt = 2 ^ E.length - 1 ∧ ∀ r, 0 < r → r < s → ¬ En lp E d r) ∨ (ch = bt ∧ 0 < ch ∧ ch < 2 ^ E.length)) → ∃ r, fS_fewestNear_L22 N n σ (nI ch) (nI (2 ^ E.length)) (nI s) = some (r, σ) ∧ fM_cover_L104 N n τ (nI bt) (nI s) = some (r, τ) := by
  have hp16 : 2 ^ E.length ≤ 2 ^ 16 := Nat.pow_le_pow_right (by omega) h16
  have hp2 : 2 ^ 1 ≤ 2 ^ E.length := Nat.pow_le_pow_right (by omega) h0
  intro n
  induction n with
  | zero => intro m s ch bt _ h; omega
  | succ n ih =>
    intro m s ch bt hm hn hs hst
    rw [fS_fewestNear_L22, fM_cover_L104, h26, sh16 _ (by omega)]
    cases m with
    | zero =>
      rw [if_pos (nI_le (by omega) (by omega)), if_pos (nI_le (by omega) (by omega))]
      rcases hst with ⟨-, -, h⟩ | ⟨rfl, -, -⟩
      · exact absurd hfull (h (2 ^ E.length - 1) (by omega) (by omega))
      · exact ⟨_, rfl, rfl⟩
    | succ m =>
      have hs16 : s < 2 ^ 16 := by omega
      have ec := enough_C (N := N) (σ := σ) h16 hs16 hR h6 N E.length 0 0 (by omega) (by omega) (by
        intro p
        rw [Nat.zero_testBit]
        constructor
        · intro h; exact absurd h (by decide)
        · rintro ⟨j, e, h, -⟩; omega)
      have em := enough_M (N := N) hN (τ := τ) h16 hs16 h26 h28 N 33 0 (by omega) (by omega) (fun r hr => by omega)
      rw [nI_0, show lN 0 = (0 : Int64) from rfl] at ec
      rw [nI_0] at em
      have ec : (fS_isEnough N σ (nI s) = some 1 ∧ En lp E d s) ∨ (fS_isEnough N σ (nI s) = some 0 ∧ ¬ En lp E d s) := ec
      have em : (fM_isEnough N τ (nI s) = some 1 ∧ En lp E d s) ∨ (fM_isEnough N τ (nI s) = some 0 ∧ ¬ En lp E d s) := em
      have hb16 : bt < 2 ^ 16 := by omega
      have p1 := pc_le 16 s
      have p2 := pc_le 16 bt
      rw [if_neg (nI_ge (by omega) (by omega)), if_neg (nI_ge (by omega) (by omega)), bits16 (by omega) hs16, bs, bits16 (by omega) hb16, bs]
      simp only [nI_ltI (show pcf 16 s < 2 ^ 31 by omega) (show pcf 16 bt < 2 ^ 31 by omega), nI_eq (show pcf 16 s < 2 ^ 31 by omega) (show pcf 16 bt < 2 ^ 31 by omega)]
      rcases hst with ⟨rfl, rfl, hno⟩ | ⟨rfl, hc0, hc1⟩
      · rw [if_pos (show nI 0 = 0 from rfl)]
        unfold fS_fewestNear_J41 fM_cover_J158 fM_cover_J162 fM_cover_J163
        have hpf := pc_full E.length 16 h16
        rw [hpf]
        by_cases cf : s = 2 ^ E.length - 1
        · have hes : En lp E d s := by rw [cf]; exact hfull
          have e1 : fS_isEnough N σ (nI s) = some 1 := by
            rcases ec with h | h
            · exact h.1
            · exact absurd hes h.2
          have hx : nI s ^^^ nI (2 ^ E.length - 1) = 0 := by rw [cf]; exact Int32.xor_self
          rw [e1, bs, if_neg n10, if_neg (by rw [cf, hpf]; omega), if_pos (by rw [cf, hpf]), hx, Int32.and_zero, Int32.zero_and, if_pos rfl, if_pos rfl, nI_1, cf]
          exact ih m (2 ^ E.length - 1 + 1) (2 ^ E.length - 1) (2 ^ E.length - 1) (by omega) (by omega) (by omega) (Or.inr ⟨rfl, by omega, by omega⟩)
        · have hlt := pc_top E.length 16 s h16 (by omega)
          rw [if_pos hlt, if_neg n10]
          rcases ec with ⟨e1, hes⟩ | ⟨e1, hes⟩
          · have e2 : fM_isEnough N τ (nI s) = some 1 := by
              rcases em with h | h
              · exact h.1
              · exact absurd hes h.2
            rw [e1, e2, bs, bs, if_neg n10, if_neg n10, nI_1]
            exact ih m (s + 1) s s (by omega) (by omega) (by omega) (Or.inr ⟨rfl, hs, by omega⟩)
          · have e2 : fM_isEnough N τ (nI s) = some 0 := by
              rcases em with h | h
              · exact absurd h.2 hes
              · exact h.1
            rw [e1, e2, bs, bs, if_pos rfl, if_pos rfl, nI_1]
            refine ih m (s + 1) 0 _ (by omega) (by omega) (by omega) (Or.inl ⟨rfl, rfl, ?_⟩)
            intro r hr0 hr1
            by_cases g : r = s
            · rw [g]; exact hes
            · exact hno r hr0 (by omega)
      · rw [if_neg (show ¬ nI ch = 0 from nI_ne0 hc0 (by omega))]
        unfold fS_isSetBefore fS_fewestNear_J41 fM_cover_J158 fM_cover_J162 fM_cover_J163
        rw [bitC16 N hs16, bs, bitC16 N hb16, bs]
        obtain ⟨d1, d2⟩ := pcD _ (show pcf 16 s < 17 by omega) _ (show pcf 16 ch < 17 by omega)
        simp only [d1, d2]
        have stay : ∃ r, fS_fewestNear_L22 N n σ (nI ch) (nI (2 ^ E.length)) (nI (s + 1)) = some (r, σ) ∧ fM_cover_L104 N n τ (nI ch) (nI (s + 1)) = some (r, τ) := ih m (s + 1) ch ch (by omega) (by omega) (by omega) (Or.inr ⟨rfl, hc0, hc1⟩)
        have go : ∃ r, ((fS_isEnough N σ (nI s)).bind fun r_44 => (if r_44 = 0 then fS_fewestNear_L22 N n σ (nI ch) (nI (2 ^ E.length)) (nI s + 1) else fS_fewestNear_L22 N n σ (nI s) (nI (2 ^ E.length)) (nI s + 1))) = some (r, σ) ∧ (if (1 : Int32) = 0 then fM_cover_L104 N n τ (nI ch) (nI s + 1) else (fM_isEnough N τ (nI s)).bind fun r_172 => (if r_172 = 0 then fM_cover_L104 N n τ (nI ch) (nI s + 1) else fM_cover_L104 N n τ (nI s) (nI s + 1))) = some (r, τ) := by
          rw [if_neg n10, nI_1]
          rcases ec with ⟨e1, hes⟩ | ⟨e1, hes⟩
          · have e2 : fM_isEnough N τ (nI s) = some 1 := by
              rcases em with h | h
              · exact h.1
              · exact absurd hes h.2
            rw [e1, e2, bs, bs, if_neg n10, if_neg n10]
            exact ih m (s + 1) s s (by omega) (by omega) (by omega) (Or.inr ⟨rfl, hs, by omega⟩)
          · have e2 : fM_isEnough N τ (nI s) = some 0 := by
              rcases em with h | h
              · exact absurd h.2 hes
              · exact h.1
            rw [e1, e2, bs, bs, if_pos rfl, if_pos rfl]
            exact stay
        by_cases c1 : pcf 16 s = pcf 16 ch
        · rw [if_pos c1, if_neg (show ¬ pcf 16 s < pcf 16 ch by omega), if_pos c1]
          by_cases c2 : (nI s &&& (nI s ^^^ nI ch)) &&& (-(nI s ^^^ nI ch)) = 0
          · rw [if_pos c2, if_pos c2, bs, if_pos rfl, if_pos trivial, nI_1]
            exact stay
          · rw [if_neg c2, if_neg c2, bs, if_neg n10]
            exact go
        · rw [if_neg c1]
          by_cases c2 : pcf 16 ch ≤ pcf 16 s
          · rw [if_pos c2, if_neg (show ¬ pcf 16 s < pcf 16 ch by omega), if_neg c1, bs, if_pos rfl, if_pos trivial, nI_1]
            exact stay
          · rw [if_neg c2, if_pos (show pcf 16 s < pcf 16 ch by omega), bs, if_neg n10]
            exact go
theorem En_full {q : Qd} (hq : WfQ q) {lp : Nat → Nat} (hl : Lp q lp) {E : List Ent} (hE : Chn (fl q (2 ^ qT q - 1)) E) (d : Nat) : En lp E d (2 ^ E.length - 1) := by
  intro p hp
  obtain ⟨e, he, hmin⟩ := env hE (show p ≤ 32 by omega)
  obtain ⟨i, hi⟩ := List.getElem?_of_mem he
  have hil := (List.getElem?_eq_some_iff.mp hi).1
  refine ⟨i, e, hi, by rw [Nat.testBit_two_pow_sub_one]; exact decide_eq_true hil, ?_⟩
  obtain ⟨f, f1, f2⟩ := hl p hp
  have h1 := hmin f f1.1
  unfold nrP
  rw [f2]
  have : 100 * ky p 8 f ≤ (100 + d) * ky p 8 f := Nat.mul_le_mul_right _ (by omega)
  omega
theorem Base_F6 {q : Qd} {c : Nat} {σ σ' : CSt} {τ : MSt} (h : F6 σ σ') (hB : Base q c σ τ) : Base q c σ' τ := by
  obtain ⟨b1, b2, b3, b4, b5, b6, b7, b8, b9⟩ := hB
  refine ⟨b1, CQd_same (fun k _ _ => by rw [h.1]) (fun k _ _ => by rw [h.2.1]) b2, b3, b4, by rw [h.1]; exact b5, b6, ?_, ?_, by rw [h.1]; exact b9⟩
  · unfold Kept; rw [h.2.2.2]; exact b7
  · unfold Measured
    rw [h.1, h.2.2.1 201 (by omega), h.2.2.1 202 (by omega)]
    exact b8
theorem SpanI_F6 {q : Qd} {σ σ' : CSt} (h : F6 σ σ') (hS : SpanI q σ) : SpanI q σ' := by
  unfold SpanI
  rw [h.1]
  rcases hS with g | ⟨g1, g2, g3, g4⟩
  · exact Or.inl g
  · exact Or.inr ⟨g1, g2, g3, Spanned_same (by rw [h.1]) (by rw [h.2.2.2]) (h.2.2.1 503 (by omega)) (h.2.2.1 504 (by omega)) (h.2.2.1 505 (by omega)) g4⟩
theorem F6.RanC {σ σ' : CSt} (h : F6 σ σ') : RanC σ σ' := ⟨fun k _ _ => by rw [h.1], fun k _ _ => by rw [h.2.1], by rw [h.2.2.2]⟩
theorem cover_ok {N : Nat} (hN : 100000 ≤ N) {q : Qd} {c : Nat} {σ : CSt} {τ : MSt} (hB : Base q c σ τ) (hS : SpanI q σ) (x : Int32) : stepS q σ τ (fC_cover N σ x) (fM_cover N τ x) := by
  have hq := hB.1
  have same : ∀ r : Int32, stepS q σ τ (some (r, σ)) (some (r, τ)) := fun r => ⟨r, σ, τ, c, rfl, rfl, hB, hS, RanC.refl σ, RanM.refl τ⟩
  unfold fC_cover fM_cover
  rcases hund_ok N x with ⟨z1, z2⟩ | ⟨d, hd, rfl, z1, z2, z3⟩
  · rw [z1, bs, if_pos rfl]
    by_cases g0 : x < 0
    · rw [if_pos g0]; exact same _
    · rcases z2 with g | g
      · exact absurd g g0
      · rw [if_neg g0, if_neg g]; exact same _
  · rw [z1, bs, if_neg n10, if_neg z2, if_pos z3]
    rcases tell_ok (N := N) (by omega) hB hS with ⟨hW, v1, σ1, t1, B1, s8, s7, sp, rc⟩ | ⟨hW, v1, t1⟩
    · have hsp := sp
      obtain ⟨E, hE, h120, hR, hbd, hbl, hlp⟩ := sp
      obtain ⟨lp, hl, h30⟩ := Lp_ex hq hW
      obtain ⟨τ1, a1, a2, a3, a4⟩ := span_ok (N := N) (by omega) hB.1 hW hE h120 hB.2.2.1
      have S1 : SpanI q σ1 := Or.inr ⟨s8, s7, hW, hsp⟩
      rw [t1, v1, bs, bs, if_neg n10, a1, bs, if_neg (show ¬ ((1 : Int32), σ1).1 = 0 from n10), a4.1]
      show stepS q σ τ (if σ1.1 500 ≤ 16 then (fS_fewestNear N σ1 (nI d)).bind _ else _) _
      rw [hR.1]
      by_cases h16 : E.length ≤ 16
      · rw [if_pos (show nI E.length ≤ (16 : Int32) from nI_le (b := 16) h16 (by omega)), if_pos (show nI E.length ≤ (16 : Int32) from nI_le (b := 16) h16 (by omega))]
        have hlen : 0 < E.length := List.length_pos_iff.mpr hE.1
        have M1 := MQd_FrS a2 hB.2.2.1
        have hp16 : 2 ^ E.length ≤ 2 ^ 16 := Nat.pow_le_pow_right (by omega) h16
        have hp2 : 2 ^ 1 ≤ 2 ^ E.length := Nat.pow_le_pow_right (by omega) hlen
        obtain ⟨σ2, b1, b2, b3⟩ := near_out (N := N) (by omega) hq h30 hE.2.1 h16 hd N E.length 0 σ1 (by omega) (by omega) (LpC_of hlp hl) hR (fun j e hj => by omega)
        obtain ⟨τ2, c1, c2, c3⟩ := fill_out (N := N) (by omega) hq hW hl h30 hE.2.1 h16 hd (fun (σ : MSt) => fM_cover_L104 N N σ (((1 : Int32) <<< ((σ.1 26) &&& 31)) - (1 : Int32)) (1 : Int32)) N E.length 0 τ1 (by omega) (by omega) M1 a3 a4 (fun p j e hj => by omega)
        rw [nI_0] at b1 c1
        unfold fS_fewestNear fS_findPointsNear
        have R2 : Rw q σ2 E := by unfold Rw; rw [b2.1, b2.2.2.2]; exact hR
        have e26 : τ2.1 26 = nI E.length := by rw [c2.1]; exact a4.1
        rw [b1, c1, bs, R2.1, if_neg (show ¬ (16 : Int32) < nI E.length from nI_nlt (a := 16) h16 (by omega)), sh16 _ (by omega), e26, sh16 _ (by omega)]
        have e1 : nI (2 ^ E.length) - 1 = nI (2 ^ E.length - 1) := nI_sub (b := 1) (by omega)
        rw [e1]
        obtain ⟨r, l1, l2⟩ := cover_loop (N := N) (by omega) hlen h16 R2 b3 e26 c3 (En_full hq hl hE d) N (2 ^ E.length - 1) 1 0 (2 ^ E.length - 1) (by omega) (by omega) (by omega) (Or.inl ⟨rfl, rfl, fun r h1 h2 => by omega⟩)
        rw [nI_0, show nI 1 = (1 : Int32) from rfl] at l1
        rw [show nI 1 = (1 : Int32) from rfl] at l2
        rw [l1, l2, bs]
        have fw := a2.FW.trans c2.FW
        exact ⟨r, σ2, τ2, c, rfl, rfl, Base_F6 b2 (Base_FW fw B1), SpanI_F6 b2 S1, rc.trans (F6.RanC b2), RanM_FW fw⟩
      · rw [if_neg (show ¬ nI E.length ≤ (16 : Int32) from nI_ge (a := 16) (by omega) (by omega)), if_neg (show ¬ nI E.length ≤ (16 : Int32) from nI_ge (a := 16) (by omega) (by omega))]
        exact ⟨_, σ1, τ1, c, rfl, rfl, Base_FrS a2 B1, S1, rc, RanM_FrS a2⟩
    · rw [t1, v1]
      exact same _
