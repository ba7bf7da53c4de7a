/-! keep, read, join -/
theorem cP_1 (σ : CSt) (k i : Nat) (v : Option Pl) : (cP σ k i v).1 = σ.1 := rfl
theorem cP_5 (σ : CSt) (k i j : Nat) (v : Option Pl) : (cP σ k i v).2.2.2.2.1 j = if j = k then va_up (σ.2.2.2.2.1 k) i v else σ.2.2.2.2.1 j := rfl
/-- only the chooser's own numbers change -/
def FH (σ σ' : CSt) : Prop := (∀ k, 100 ≤ k → σ'.1 k = σ.1 k) ∧ (∀ k, 100 ≤ k → σ'.2.2.1 k = σ.2.2.1 k) ∧ (∀ k, 100 ≤ k → σ'.2.2.2.1 k = σ.2.2.2.1 k) ∧ σ'.2.2.2.2 = σ.2.2.2.2
theorem FH.refl (σ : CSt) : FH σ σ := ⟨fun _ _ => rfl, fun _ _ => rfl, fun _ _ => rfl, rfl⟩
theorem FH.trans {a b c : CSt} (h : FH a b) (g : FH b c) : FH a c := ⟨fun k hk => (g.1 k hk).trans (h.1 k hk), fun k hk => (g.2.1 k hk).trans (h.2.1 k hk), fun k hk => (g.2.2.1 k hk).trans (h.2.2.1 k hk), g.2.2.2.trans h.2.2.2⟩
/-- the chooser's, the prices' and the kept plans -/
def FK (σ σ' : CSt) : Prop := (∀ k, k ≠ 606 → k ≠ 607 → 100 ≤ k → σ'.1 k = σ.1 k) ∧ (σ.1 607 = 1 → σ'.1 607 = 1) ∧ (∀ k, 100 ≤ k → σ'.2.2.1 k = σ.2.2.1 k) ∧ (∀ k, 100 ≤ k → k ≠ 201 → k ≠ 202 → σ'.2.2.2.1 k = σ.2.2.2.1 k) ∧ (∀ k, k ≠ 605 → σ'.2.2.2.2.1 k = σ.2.2.2.2.1 k) ∧ σ'.2.2.2.2.2 = σ.2.2.2.2.2
theorem FK.refl (σ : CSt) : FK σ σ := ⟨fun _ _ _ _ => rfl, fun h => h, fun _ _ => rfl, fun _ _ _ _ => rfl, fun _ _ => rfl, rfl⟩
theorem FK.trans {a b c : CSt} (h : FK a b) (g : FK b c) : FK a c := ⟨fun k h1 h2 h3 => (g.1 k h1 h2 h3).trans (h.1 k h1 h2 h3), fun h1 => g.2.1 (h.2.1 h1), fun k h1 => (g.2.2.1 k h1).trans (h.2.2.1 k h1), fun k h1 h2 h3 => (g.2.2.2.1 k h1 h2 h3).trans (h.2.2.2.1 k h1 h2 h3), fun k h1 => (g.2.2.2.2.1 k h1).trans (h.2.2.2.2.1 k h1), g.2.2.2.2.2.trans h.2.2.2.2.2⟩
theorem FH.FK {σ σ' : CSt} (h : FH σ σ') : FK σ σ' := ⟨fun k _ _ hk => h.1 k hk, fun g => by rw [h.1 607 (by omega)]; exact g, h.2.1, fun k hk _ _ => h.2.2.1 k hk, fun k _ => by rw [h.2.2.2], by rw [h.2.2.2]⟩
theorem CQd_same {q : Qd} {σ σ' : CSt} (h1 : ∀ k, 300 ≤ k → k < 305 → σ'.1 k = σ.1 k) (h2 : ∀ k, 305 ≤ k → k < 313 → σ'.2.2.1 k = σ.2.2.1 k) (hC : CQd q σ) : CQd q σ' := by
  unfold CQd at hC ⊢
  rw [h1 300 (by omega) (by omega), h1 301 (by omega) (by omega), h1 302 (by omega) (by omega), h1 303 (by omega) (by omega), h1 304 (by omega) (by omega), h2 305 (by omega) (by omega), h2 306 (by omega) (by omega), h2 307 (by omega) (by omega), h2 308 (by omega) (by omega), h2 309 (by omega) (by omega), h2 310 (by omega) (by omega), h2 311 (by omega) (by omega), h2 312 (by omega) (by omega)]
  exact hC
theorem Base_FH {q : Qd} {c : Nat} {σ σ' : CSt} {τ : MSt} (h : FH σ σ') (hB : Base q c σ τ) : Base q c σ' τ := by
  obtain ⟨b1, b2, b3, b4, b5, b6, b7, b8, b9⟩ := hB
  refine ⟨b1, CQd_same (fun k h1 _ => h.1 k (by omega)) (fun k h1 _ => h.2.1 k (by omega)) b2, b3, b4, ?_, b6, ?_, ?_, ?_⟩
  · rw [h.1 606 (by omega)]; exact b5
  · unfold Kept; rw [h.2.2.2]; exact b7
  · rw [h.1 607 (by omega)]
    unfold Measured
    rw [h.2.2.1 201 (by omega), h.2.2.1 202 (by omega)]
    exact b8
  · rw [h.1 607 (by omega)]; exact b9
theorem Meas_FH {q : Qd} {σ σ' : CSt} (h : FH σ σ') (hm : Measured q σ) : Measured q σ' := by
  unfold Measured
  rw [h.2.2.1 201 (by omega), h.2.2.1 202 (by omega)]
  exact hm
theorem CQd_FH {q : Qd} {σ σ' : CSt} (h : FH σ σ') (hC : CQd q σ) : CQd q σ' := CQd_same (fun k h1 _ => h.1 k (by omega)) (fun k h1 _ => h.2.1 k (by omega)) hC
theorem measure_C {N : Nat} (hN : 18 ≤ N) {q : Qd} {c : Nat} {σ : CSt} {τ : MSt} (hB : Base q c σ τ) : ∃ σ', fC_measure N σ = some σ' ∧ Base q c σ' τ ∧ σ'.1 607 = 1 ∧ Measured q σ' ∧ FK σ σ' := by
  unfold fC_measure
  obtain ⟨b1, b2, b3, b4, b5, b6, b7, b8, b9⟩ := hB
  rcases b8 with g | ⟨g, hm⟩
  · obtain ⟨σ1, h1, h2, h3, h4⟩ := measure_ok (N := N) hN b1 b2
    rw [if_pos g, h1, bs]
    refine ⟨_, rfl, ⟨b1, ?_, b3, b4, ?_, b6, ?_, Or.inr ⟨rfl, h4⟩, fun hc => ⟨(b9 hc).1, rfl⟩⟩, rfl, h4, ?_⟩
    · refine CQd_same (fun k h1 h2' => ?_) (fun k _ _ => ?_) b2
      · rw [cI_1, if_neg (by omega), h2.1]
      · rw [cI_2, h2.2.2.1]
    · rw [cI_1, if_neg (by omega), h2.1]; exact b5
    · unfold Kept; rw [cI_2, h2.2.2.2]; exact b7
    · refine ⟨fun k _ h2' _ => by rw [cI_1, if_neg h2', h2.1], fun _ => rfl, fun k _ => by rw [cI_2, h2.2.2.1], fun k _ e1 e2 => h3 k e1 e2, fun k _ => by rw [cI_2, h2.2.2.2], by rw [cI_2, h2.2.2.2]⟩
  · rw [if_neg (by rw [g]; decide)]
    exact ⟨σ, rfl, ⟨b1, b2, b3, b4, b5, b6, b7, Or.inr ⟨g, hm⟩, b9⟩, g, hm, FK.refl σ⟩
def kC (σ : CSt) (c : Nat) (v : Pl) : CSt := cI (cP σ 605 c (some v)) 606 (nI (c + 1))
def kM (τ : MSt) (c : Nat) (x y : Int32) : MSt := sI (sA (sA τ 12 c x) 13 c y) 11 (nI (c + 1))
theorem keep_C {N : Nat} {σ : CSt} {c : Nat} (hc : c < 60) (h : σ.1 606 = nI c) (v : Pl) : fC_keep N σ (some v) = some (nI c, kC σ c v) := by
  unfold fC_keep on
  simp only [cP_1, h, cI_1, if_true]
  rw [if_pos (show nI c < (60 : Int32) from nI_lt (b := 60) hc (by omega)), chk_nI hc (by omega), nI_cl (by omega), nI_1, nI_pred]
  rfl
theorem kept_M {N : Nat} {τ : MSt} {c : Nat} (hc : c < 60) (h : τ.1 11 = nI c) (x y : Int32) : fM_kept N τ x y = some (nI c, kM τ c x y) := by
  unfold fM_kept
  simp only [sA_1, sI_1, h, if_true]
  rw [if_neg (show ¬ nI c = (60 : Int32) from fun g => by have := (nI_eq (b := 60) (show c < 2 ^ 31 by omega) (by omega)).mp g; omega), chk_nI hc (by omega), chk_nI hc (by omega), nI_cl (by omega), nI_1, nI_pred]
  rfl
theorem kept_full {N : Nat} {τ : MSt} (h : τ.1 11 = nI 60) (x y : Int32) : fM_kept N τ x y = some (-4, τ) := by
  unfold fM_kept
  rw [h, if_pos (show nI 60 = (60 : Int32) from rfl)]
theorem kC_FK (σ : CSt) (c : Nat) (v : Pl) : FK σ (kC σ c v) := by
  unfold kC
  refine ⟨fun k h1 h2 _ => by rw [cI_1, if_neg h1, cP_1], fun h => by rw [cI_1, if_neg (by omega), cP_1]; exact h, fun _ _ => rfl, fun _ _ _ _ => rfl, fun k h => by rw [cI_2, cP_5, if_neg h], rfl⟩
theorem kM_Ran (τ : MSt) (c : Nat) (x y : Int32) : RanM τ (kM τ c x y) := ⟨rfl, rfl, rfl⟩
theorem kM_MQd {q : Qd} {τ : MSt} (c : Nat) (x y : Int32) (hM : MQd q τ) : MQd q (kM τ c x y) := hM
theorem Base_keep {q : Qd} {c : Nat} {σ : CSt} {τ : MSt} (hB : Base q c σ τ) (hc : c < 60) (hW : Whole q) (h7 : σ.1 607 = 1) {S : Nat} {e : Ent} (h0 : 0 < S) (hS : S < 2 ^ qT q) (he : e ∈ fl q S) : Base q (c + 1) (kC σ c (pl q S e)) (kM τ c (nI (eC e)) (nI S)) := by
  obtain ⟨b1, b2, b3, b4, b5, b6, b7, b8, b9⟩ := hB
  refine ⟨b1, b2, kM_MQd _ _ _ b3, by omega, rfl, rfl, ?_, b8, fun _ => ⟨hW, h7⟩⟩
  intro i hi
  have a12 : (kM τ c (nI (eC e)) (nI S)).2.2.1 12 i = if i = c then nI (eC e) else τ.2.2.1 12 i := upd_at _ _ _ _
  have a13 : (kM τ c (nI (eC e)) (nI S)).2.2.1 13 i = if i = c then nI S else τ.2.2.1 13 i := upd_at _ _ _ _
  have a5 : (kC σ c (pl q S e)).2.2.2.2.1 605 i = if i = c then some (pl q S e) else σ.2.2.2.2.1 605 i := rfl
  rw [a12, a13, a5]
  by_cases g : i = c
  · rw [if_pos g, if_pos g, if_pos g]
    exact ⟨S, e, h0, hS, he, rfl, rfl, rfl⟩
  · rw [if_neg g, if_neg g, if_neg g]
    exact b7 i (by omega)
/-- one call that may keep a plan -/
def stepK (q : Qd) (σ : CSt) (τ : MSt) (a : Option (Int32 × CSt)) (b : Option (Int32 × MSt)) : Prop := ∃ r σ' τ' c', a = some (r, σ') ∧ b = some (r, τ') ∧ Base q c' σ' τ' ∧ FK σ σ' ∧ RanM τ τ'
theorem RanM.refl (τ : MSt) : RanM τ τ := ⟨rfl, rfl, rfl⟩
theorem RanM.trans {a b c : MSt} (h : RanM a b) (g : RanM b c) : RanM a c := ⟨g.1.trans h.1, g.2.1.trans h.2.1, g.2.2.trans h.2.2⟩
theorem read_ok {N : Nat} (hN : 18 ≤ N) {q : Qd} {c : Nat} {σ : CSt} {τ : MSt} (hB : Base q c σ τ) (x : Int32) : stepK q σ τ (fC_read N σ x) (fM_read N τ x) := by
  have hT := hB.1.1
  have hc := hB.2.2.2.1
  unfold fC_read fM_read
  by_cases hx : isT q x
  · obtain ⟨t, ht, rfl⟩ := (isT_nat hT).mp hx
    rw [fQ_isTable_t hB.2.1 hT ht, fM_isTable_t hB.2.2.1 hT ht, bs, bs, if_neg n10, if_neg n10]
    rcases wholeC (N := N) (by omega) hB.1 hB.2.1 with ⟨w1, w2⟩ | ⟨w1, w2⟩
    · have v1 : fM_isWhole N τ = some 1 := by
        rcases wholeM (N := N) (by omega) hB.1 hB.2.2.1 with ⟨h, -⟩ | ⟨-, h⟩
        · exact h
        · exact absurd w2 h
      rw [w1, v1, bs, bs, if_neg n10, if_neg n10, hB.2.2.2.2.1, b_shl t (by omega)]
      by_cases g : c < 60
      · obtain ⟨σ1, m1, m2, m3, m4, m5⟩ := measure_C hN hB
        rw [if_pos (show nI c < (60 : Int32) from nI_lt (b := 60) g (by omega)), m1, bs, reading_C hB.1 m2.2.1 m4 ht, bs, keep_C g m2.2.2.2.2.1, bs, kept_M g hB.2.2.2.2.2.1, bs]
        have hk := Base_keep m2 g w2 m3 (Nat.two_pow_pos t) (Nat.pow_lt_pow_right (by omega) ht) (frd_mem hB.1 ht)
        rw [frd_C] at hk
        exact ⟨nI c, _, _, c + 1, rfl, rfl, hk, m5.trans (kC_FK _ _ _), kM_Ran _ _ _ _⟩
      · have e : c = 60 := by omega
        subst e
        rw [if_neg (by decide), kept_full hB.2.2.2.2.2.1]
        exact ⟨-4, σ, τ, 60, rfl, rfl, hB, FK.refl σ, RanM.refl τ⟩
    · have v1 : fM_isWhole N τ = some 0 := by
        rcases wholeM (N := N) (by omega) hB.1 hB.2.2.1 with ⟨-, h⟩ | ⟨h, -⟩
        · exact absurd h w2
        · exact h
      rw [w1, v1, bs, bs, if_pos rfl, if_pos rfl]
      exact ⟨_, σ, τ, c, rfl, rfl, hB, FK.refl σ, RanM.refl τ⟩
  · rw [fQ_isTable_f hB.2.1 hx, fM_isTable_f hB.2.2.1 hx]
    exact ⟨_, σ, τ, c, rfl, rfl, hB, FK.refl σ, RanM.refl τ⟩
def orT (l r : Nat) : Bool := !(l &&& r == 0 && (l != 0 && r != 0)) || (sub1 (l ||| r) l && ((l ||| r) - l == r))
theorem orTB : ((List.range 16).all fun l => (List.range 16).all fun r => orT l r) = true := by decide +kernel
theorem or_sub {l r : Nat} (hl : l < 16) (hr : r < 16) (h : l &&& r = 0) (h1 : 0 < l) (h2 : 0 < r) : sub1 (l ||| r) l = true ∧ (l ||| r) - l = r := by
  have g := orTB
  simp only [List.all_eq_true, List.mem_range] at g
  have g := g l hl r hr
  unfold orT at g
  have e1 : (l != 0) = true := by simpa using (show l ≠ 0 by omega)
  have e2 : (r != 0) = true := by simpa using (show r ≠ 0 by omega)
  rw [h, e1, e2] at g
  simpa using g
theorem or_pow {l r T : Nat} (hl : l < 2 ^ T) (hr : r < 2 ^ T) : l ||| r < 2 ^ T := Nat.or_lt_two_pow hl hr
theorem join_ok {N : Nat} (hN : 18 ≤ N) {q : Qd} {c : Nat} {σ : CSt} {τ : MSt} (hB : Base q c σ τ) (x y z : Int32) : stepK q σ τ (fC_join N σ x y z) (fM_join N τ x y z) := by
  have hq := hB.1
  have hT := hB.1.1
  have hc := hB.2.2.2.1
  have h16 : 2 ^ qT q ≤ 16 := Nat.pow_le_pow_right (n := 2) (by omega) hT
  have same : ∀ r, stepK q σ τ (some (r, σ)) (some (r, τ)) := fun r => ⟨_, σ, τ, c, rfl, rfl, hB, FK.refl σ, RanM.refl τ⟩
  unfold fC_join fM_join
  rcases planAt_ok (N := N) hB y with ⟨h1, h2⟩ | ⟨i, S1, a, hi, rfl, hp, h1, h2, h3, h4, h5, h6⟩
  · rcases planAt_ok (N := N) hB z with ⟨g1, g2⟩ | ⟨j, S2, b, hj, rfl, gp, g1, g2, g3, g4, g5, g6⟩
    · rw [h1, h2, g1]
      exact same _
    · rw [h1, h2, g6]
      exact same _
  · rcases planAt_ok (N := N) hB z with ⟨g1, g2⟩ | ⟨j, S2, b, hj, rfl, gp, g1, g2, g3, g4, g5, g6⟩
    · rw [h6, hp, g1, g2]
      exact same _
    · rw [h6, hp, g6, gp, bs, bs, bs, bs, if_neg n10, if_neg n10]
      show stepK q σ τ (if x < 0 then _ else _) _
      by_cases x0 : x < 0
      · rw [if_pos x0, if_pos x0]; exact same _
      · obtain ⟨k, hk, rfl⟩ := nI_of x0
        rw [if_neg x0, if_neg x0]
        by_cases k3 : k < 3
        · rw [if_pos (show nI k < (3 : Int32) from nI_lt (b := 3) k3 (by omega)), if_pos (show nI k ≤ (2 : Int32) from nI_le (b := 2) (by omega) (by omega)), chk_nI (by omega) (by omega), chk_nI (by omega) (by omega), nI_cl (by omega), nI_cl (by omega), h4, h5, g4, g5]
          show stepK q σ τ (if nI S1 &&& nI S2 = 0 then _ else _) _
          have ha16 := b_and_lt S1 (by omega) S2 (by omega)
          rw [b_and S1 (by omega) S2 (by omega), b_or S1 (by omega) S2 (by omega)]
          by_cases g : S1 &&& S2 = 0
          · rw [if_pos ((nI_eq0 (by omega)).mpr g), if_pos ((nI_eq0 (by omega)).mpr g)]
            show stepK q σ τ ((fQ_leastBetween N σ (nI S1) (nI S2)).bind _) _
            rw [leastC (by omega) hq hB.2.1 (by omega) (by omega) g, betweenM (by omega) hq hB.2.2.1 (by omega) (by omega), bs, bs]
            by_cases gb : lb q S1 S2 = -1
            · rw [if_pos gb, if_neg (fun h => (lb_ge hq S1 S2).mp h gb)]; exact same _
            · rw [if_neg gb, if_pos ((lb_ge hq S1 S2).mpr gb)]
              obtain ⟨s1, s2⟩ := or_sub (show S1 < 16 by omega) (show S2 < 16 by omega) g h1 g1
              have hor := or_pow h2 g2
              have hsb := sub1_ok s1
              have hok : okB q (S1 ||| S2) S1 = true := okB_t s1 (by rw [s2]; exact gb)
              have ha : a ∈ PE q S1 := by
                unfold fl at h3
                rw [if_neg (show ¬ S1 = 2 ^ qT q - 1 by omega)] at h3
                exact h3
              have hb : b ∈ PE q S2 := by
                unfold fl at g3
                rw [if_neg (show ¬ S2 = 2 ^ qT q - 1 by omega)] at g3
                exact g3
              have hcd := code_I (N := N) (by omega) (τ := τ) (b := 0) (S := S1 ||| S2) (l := S1) (k := k) (a := eC a) (by omega) s1 k3 (eC_lt hq (by omega) ha)
              rw [s2] at hcd
              rw [digits_ok (by omega) (by omega) h1, bs, hcd.1, bs, chk_nI (by omega) (by omega), digits_ok (by omega) (by omega) g1, bs, hcd.2, bs, chk_nI (by omega) (by omega), nI_add, hB.2.2.2.2.1]
              have hmk : ((4 + k) * 8 ^ dg S1 + eC a) * 8 ^ dg S2 + eC b = eC (fjn q (S1 ||| S2) k S1 a b) := by rw [fjn_C, s2]; rfl
              rw [hmk]
              have hW := hB.2.2.2.2.2.2.2.2 (by omega)
              have hm : Measured q σ := by
                rcases hB.2.2.2.2.2.2.2.1 with g | g
                · rw [g] at hW; exact absurd hW.2 (by decide)
                · exact g.2
              have hjn := joining_C (N := N) (by omega) hq hB.2.1 hm (S := S1 ||| S2) (k := k) (by omega) hok k3 ha (by rw [s2]; exact hb)
              rw [s2] at hjn
              by_cases g60 : c < 60
              · rw [if_pos (show nI c < (60 : Int32) from nI_lt (b := 60) g60 (by omega)), hjn, bs, keep_C g60 hB.2.2.2.2.1, bs, kept_M g60 hB.2.2.2.2.2.1, bs]
                have hk := Base_keep hB g60 hW.1 hW.2 (show 0 < S1 ||| S2 by omega) hor (fjn_mem (by omega) hok k3 ha (by rw [s2]; exact hb))
                exact ⟨nI c, _, _, c + 1, rfl, rfl, hk, kC_FK _ _ _, kM_Ran _ _ _ _⟩
              · have e : c = 60 := by omega
                subst e
                rw [if_neg (by decide), kept_full hB.2.2.2.2.2.1]
                exact same _
          · rw [if_neg (fun h => g ((nI_eq0 (by omega)).mp h)), if_neg (fun h => g ((nI_eq0 (by omega)).mp h))]; exact same _
        · rw [if_neg (show ¬ nI k < (3 : Int32) from nI_nlt (b := 3) (by omega) hk), if_neg (show ¬ nI k ≤ (2 : Int32) from nI_ge (a := 2) (by omega) hk)]; exact same _
