/-! the best at a point -/
theorem Lst_uniq {q : Qd} (hq : WfQ q) {S up dn : Nat} {sl : Int32} (hS : S < 16) {e f : Ent} (he : Lst up dn sl (fl q S) e) (hf : Lst up dn sl (fl q S) f) : e = f := by
  refine fl_inj hq hS he.1 hf.1 ?_
  have h1 := he.2 f hf.1
  have h2 := hf.2 e he.1
  unfold leE at h1 h2
  omega
theorem l8 : (8 : Int64) = lN 8 := rfl
theorem at_M {N : Nat} {τ : MSt} {i : Nat} {e : Ent} (hA : At τ i e) (hi : i < 5000) {pt : Nat} (hp : pt < 2 ^ 31) : fM_at N τ (nI i) (nI pt) = some (lN (ky pt 8 e)) := by
  unfold fM_at ky
  rw [chk_nI hi (by omega), chk_nI hi (by omega), nI_cl (by omega), hA.2.2.2.1, hA.2.2.2.2, nI_l hp, l8, lN_mul, lN_mul, lN_add, Nat.mul_comm 8, Nat.mul_comm pt]
theorem cmp_lt {a b : Nat} (ha : a < 2 ^ 63) (hb : b < 2 ^ 63) : lg_cmp (lN a) (lN b) < 0 ↔ a < b := by rw [lg_cmp_lt, pk_lLT ha hb]
theorem cmp_gt {a b : Nat} (ha : a < 2 ^ 63) (hb : b < 2 ^ 63) : 0 < lg_cmp (lN a) (lN b) ↔ b < a := by rw [lg_cmp_gt, pk_lLT hb ha]
/-- the last set's entries in the reference's rows -/
theorem top_At {q : Qd} {τ : MSt} (hL : Listed q τ) {j : Nat} {e : Ent} (he : (fl q (2 ^ qT q - 1))[j]? = some e) : At τ (off q (2 ^ qT q - 1) + j) e := by
  have h1 := Nat.two_pow_pos (qT q)
  exact hL.1.2 _ _ (by have := Lt_at q (show 2 ^ qT q - 1 < 2 ^ qT q by omega) [] j e he; rw [List.append_nil] at this; exact this)
theorem top_22 {q : Qd} {τ : MSt} (hL : Listed q τ) : τ.1 22 = nI (off q (2 ^ qT q - 1) + (fl q (2 ^ qT q - 1)).length) := by
  have h1 := Nat.two_pow_pos (qT q)
  have ho := off_succ q (2 ^ qT q - 1)
  rw [show 2 ^ qT q - 1 + 1 = 2 ^ qT q by omega] at ho
  rw [← ho]
  exact hL.1.1
theorem top_le {q : Qd} (hq : WfQ q) : off q (2 ^ qT q - 1) + (fl q (2 ^ qT q - 1)).length ≤ 3712 := by
  have hT := hq.1
  have h16 : 2 ^ qT q ≤ 16 := Nat.pow_le_pow_right (n := 2) (by omega) hT
  have h1 := Nat.two_pow_pos (qT q)
  have ho := off_succ q (2 ^ qT q - 1)
  have := off_le hq (show 2 ^ qT q - 1 + 1 < 17 by omega)
  omega
theorem bestAt_loop {N : Nat} {q : Qd} (hq : WfQ q) {τ : MSt} (hL : Listed q τ) {pt : Nat} (hp : pt < 33) : ∀ (n m j b : Nat) (e : Ent), j + m = (fl q (2 ^ qT q - 1)).length → m < n → (fl q (2 ^ qT q - 1))[b]? = some e → (∀ i f, i < j → (fl q (2 ^ qT q - 1))[i]? = some f → leE pt 8 0 e f) → ∃ b' e', fM_bestAt_L12 N τ n (nI pt) (nI (off q (2 ^ qT q - 1) + b)) (nI (off q (2 ^ qT q - 1) + j)) = some (nI (off q (2 ^ qT q - 1) + b')) ∧ (fl q (2 ^ qT q - 1))[b']? = some e' ∧ ∀ f, f ∈ fl q (2 ^ qT q - 1) → leE pt 8 0 e' f := by
  have hT := hq.1
  have h16 : 2 ^ qT q ≤ 16 := Nat.pow_le_pow_right (n := 2) (by omega) hT
  have h1 := Nat.two_pow_pos (qT q)
  have hle := top_le hq
  intro n
  induction n with
  | zero => intro m j b e _ h; omega
  | succ n ih =>
    intro m j b e hj hn hb he
    have hbl := (List.getElem?_eq_some_iff.mp hb).1
    have be := fl_bd hq (show 2 ^ qT q - 1 < 16 by omega) (List.mem_of_getElem? hb)
    rw [fM_bestAt_L12, top_22 hL]
    cases m with
    | zero =>
      rw [if_pos (nI_le (by omega) (by omega))]
      refine ⟨b, e, rfl, hb, ?_⟩
      intro f hf
      obtain ⟨i, hi⟩ := List.getElem?_of_mem hf
      exact he i f (by have := (List.getElem?_eq_some_iff.mp hi).1; omega) hi
    | succ m =>
      have hjl : j < (fl q (2 ^ qT q - 1)).length := by omega
      have hf : (fl q (2 ^ qT q - 1))[j]? = some (fl q (2 ^ qT q - 1))[j] := List.getElem?_eq_getElem hjl
      generalize (fl q (2 ^ qT q - 1))[j] = f at hf
      have bf := fl_bd hq (show 2 ^ qT q - 1 < 16 by omega) (List.mem_of_getElem? hf)
      have Ae := top_At hL hb
      have Af := top_At hL hf
      have k1 := ky_lt (up := pt) (dn := 8) (by omega) (by omega) ⟨be.2.1, be.2.2⟩
      have k2 := ky_lt (up := pt) (dn := 8) (by omega) (by omega) ⟨bf.2.1, bf.2.2⟩
      rw [if_neg (nI_ge (by omega) (by omega)), at_M Af (by omega) (by omega), bs, at_M Ae (by omega) (by omega), bs]
      simp only [bs, cmp_lt k2 k1, cmp_eq0 k2 k1, chk_nI (show off q (2 ^ qT q - 1) + j < 5000 by omega) (show 5000 < 2 ^ 31 by omega), chk_nI (show off q (2 ^ qT q - 1) + b < 5000 by omega) (show 5000 < 2 ^ 31 by omega), nI_cl (show off q (2 ^ qT q - 1) + j < 2 ^ 31 by omega), nI_cl (show off q (2 ^ qT q - 1) + b < 2 ^ 31 by omega), Ae.1, Af.1, nI_leI be.1 bf.1, nI_1]
      have z : ∀ b : Nat, sgB 0 b = 0 := fun b => if_pos rfl
      have hstay : leE pt 8 0 e f → ∃ b' e', fM_bestAt_L12 N τ n (nI pt) (nI (off q (2 ^ qT q - 1) + b)) (nI (off q (2 ^ qT q - 1) + j + 1)) = some (nI (off q (2 ^ qT q - 1) + b')) ∧ (fl q (2 ^ qT q - 1))[b']? = some e' ∧ ∀ f, f ∈ fl q (2 ^ qT q - 1) → leE pt 8 0 e' f := by
        intro hle2
        refine ih m (j + 1) b e (by omega) (by omega) hb ?_
        intro i g hi hg
        by_cases c : i = j
        · rw [c, hf] at hg
          rw [← Option.some.inj hg]; exact hle2
        · exact he i g (by omega) hg
      have hgo : leE pt 8 0 f e → ∃ b' e', fM_bestAt_L12 N τ n (nI pt) (nI (off q (2 ^ qT q - 1) + j)) (nI (off q (2 ^ qT q - 1) + j + 1)) = some (nI (off q (2 ^ qT q - 1) + b')) ∧ (fl q (2 ^ qT q - 1))[b']? = some e' ∧ ∀ f, f ∈ fl q (2 ^ qT q - 1) → leE pt 8 0 e' f := by
        intro hle2
        refine ih m (j + 1) j f (by omega) (by omega) hf ?_
        intro i g hi hg
        by_cases c : i = j
        · rw [c, hf] at hg
          rw [← Option.some.inj hg]; exact leE_refl _ _ _ _
        · exact leE_trans hle2 (he i g (by omega) hg)
      have hl1 : ∀ a b : Ent, (ky pt 8 a < ky pt 8 b ∨ ky pt 8 a = ky pt 8 b ∧ eC a ≤ eC b) → leE pt 8 0 a b := by
        intro a b h
        unfold leE
        rw [z, z]
        omega
      by_cases c1 : ky pt 8 f < ky pt 8 e
      · rw [if_pos c1]; exact hgo (hl1 _ _ (by omega))
      · rw [if_neg c1]
        by_cases c2 : ky pt 8 f = ky pt 8 e
        · rw [if_pos c2]
          by_cases c3 : eC e ≤ eC f
          · rw [if_pos c3]; exact hstay (hl1 _ _ (by omega))
          · rw [if_neg c3]; exact hgo (hl1 _ _ (by omega))
        · rw [if_neg c2]; exact hstay (hl1 _ _ (by omega))
theorem bestAt_ok {N : Nat} (hN : 5000 ≤ N) {q : Qd} (hq : WfQ q) {τ : MSt} (hM : MQd q τ) (hL : Listed q τ) (h0 : 0 < qT q) (hne : fl q (2 ^ qT q - 1) ≠ []) {pt : Nat} (hp : pt < 33) : ∃ i e, i < 5000 ∧ fM_bestAt N τ (nI pt) = some (nI i) ∧ At τ i e ∧ Lst pt 8 0 (fl q (2 ^ qT q - 1)) e := by
  have hT := hq.1
  have h16 : 2 ^ qT q ≤ 16 := Nat.pow_le_pow_right (n := 2) (by omega) hT
  have h2 : 2 ^ 1 ≤ 2 ^ qT q := Nat.pow_le_pow_right (n := 2) (by omega) h0
  have hle := top_le hq
  have hlen : 0 < (fl q (2 ^ qT q - 1)).length := List.length_pos_iff.mpr hne
  have hf : (fl q (2 ^ qT q - 1))[0]? = some (fl q (2 ^ qT q - 1))[0] := List.getElem?_eq_getElem hlen
  unfold fM_bestAt
  rw [all_M hq hM, bs, chk_nI (by omega) (by omega), nI_cl (by omega), hL.2 _ (by omega) (by omega)]
  obtain ⟨b, e, h1, h2, h3⟩ := bestAt_loop (N := N) hq hL hp N (fl q (2 ^ qT q - 1)).length 0 0 _ (by omega) (by omega) hf (fun i f hi => by omega)
  rw [Nat.add_zero] at h1
  have hbl := (List.getElem?_eq_some_iff.mp h2).1
  exact ⟨_, e, by omega, h1, top_At hL h2, List.mem_of_getElem? h2, h3⟩
theorem isPoint_t {N : Nat} {τ : MSt} {pt : Nat} (h : pt < 33) : fC_isPoint N (nI pt) = some 1 ∧ fM_isPoint N τ (nI pt) = some 1 := by
  unfold fC_isPoint fM_isPoint
  rw [if_neg (nI_pos (by omega)), if_neg (nI_pos (by omega)), if_neg (show ¬ (33 : Int32) ≤ nI pt from nI_ge (b := 33) h (by omega)), if_neg (show ¬ (32 : Int32) < nI pt from nI_nlt (a := 32) (by omega) (by omega))]
  exact ⟨rfl, rfl⟩
theorem isPoint_f {N : Nat} {τ : MSt} {x : Int32} (h : ¬ ∃ pt, pt < 33 ∧ x = nI pt) : fC_isPoint N x = some 0 ∧ fM_isPoint N τ x = some 0 := by
  unfold fC_isPoint fM_isPoint
  by_cases h0 : x < 0
  · rw [if_pos h0, if_pos h0]; exact ⟨rfl, rfl⟩
  · obtain ⟨j, hj, rfl⟩ := nI_of h0
    have : ¬ j < 33 := fun g => h ⟨j, g, rfl⟩
    rw [if_neg h0, if_neg h0, if_pos (show (33 : Int32) ≤ nI j from nI_le (a := 33) (by omega) hj), if_pos (show (32 : Int32) < nI j from nI_lt (a := 32) (by omega) hj)]
    exact ⟨rfl, rfl⟩
theorem whole_both {N : Nat} (hN : 6 ≤ N) {q : Qd} {σ : CSt} {τ : MSt} (hq : WfQ q) (hC : CQd q σ) (hM : MQd q τ) : (fQ_isWhole N σ = some 1 ∧ fM_isWhole N τ = some 1 ∧ Whole q) ∨ (fQ_isWhole N σ = some 0 ∧ fM_isWhole N τ = some 0 ∧ ¬ Whole q) := by
  rcases wholeC (N := N) hN hq hC with ⟨w1, w2⟩ | ⟨w1, w2⟩ <;> rcases wholeM (N := N) hN hq hM with ⟨v1, v2⟩ | ⟨v1, v2⟩
  · exact Or.inl ⟨w1, v1, w2⟩
  · exact absurd w2 v2
  · exact absurd v2 w2
  · exact Or.inr ⟨w1, v1, w2⟩
theorem best_ok {N : Nat} (hN : 5000 ≤ N) {q : Qd} {c : Nat} {σ : CSt} {τ : MSt} (hB : Base q c σ τ) (x : Int32) : stepK q σ τ (fC_best N σ x) (fM_best N τ x) := by
  have hq := hB.1
  have hT := hB.1.1
  have hc := hB.2.2.2.1
  have h16 : 2 ^ qT q ≤ 16 := Nat.pow_le_pow_right (n := 2) (by omega) hT
  have same : ∀ r, stepK q σ τ (some (r, σ)) (some (r, τ)) := fun r => ⟨_, σ, τ, c, rfl, rfl, hB, FK.refl σ, RanM.refl τ⟩
  unfold fC_best fM_best
  by_cases hx : ∃ pt, pt < 33 ∧ x = nI pt
  · obtain ⟨pt, hp, rfl⟩ := hx
    obtain ⟨p1, p2⟩ := isPoint_t (N := N) (τ := τ) hp
    rw [p1, p2, bs, bs, if_neg n10, if_neg n10]
    rcases whole_both (N := N) (by omega) hq hB.2.1 hB.2.2.1 with ⟨w1, v1, hW⟩ | ⟨w1, v1, hW⟩
    · have h2 : 2 ^ 1 ≤ 2 ^ qT q := Nat.pow_le_pow_right (n := 2) (by omega) hW.1
      have hne := whole_fl hq hW
      obtain ⟨τ1, l1, l2, l3⟩ := list_ok hN hq hB.2.2.1
      have M1 := MQd_Fr l3 hB.2.2.1
      obtain ⟨i, e, hi, e1, e2, e3⟩ := bestAt_ok hN hq M1 l2 hW.1 hne hp
      have hB1 := Base_Fr l3 hB
      rw [w1, v1, bs, bs, if_neg n10, if_neg n10, hB.2.2.2.2.1, l1, bs, e1, bs, chk_nI hi (by omega), all_M hq M1, bs, nI_cl (by omega), e2.1]
      by_cases g : c < 60
      · obtain ⟨σ1, m1, m2, m3, m4, m5⟩ := measure_C (N := N) (by omega) hB1
        obtain ⟨f, σ2, f1, f2, f3⟩ := cheapest_ok (N := N) (by omega) hq m2.2.1 m4 (Or.inl rfl) (show pt < 2 ^ 26 by omega) (show 8 < 2 ^ 26 by omega) hW.1 hne
        have hfe : f = e := Lst_uniq hq (by omega) f3 e3
        subst hfe
        rw [if_pos (show nI c < (60 : Int32) from nI_lt (b := 60) g (by omega)), m1, bs, nI_l (by omega), l8, f1, bs]
        have B2 := Base_FH f2 m2
        rw [keep_C g B2.2.2.2.2.1, bs, kept_M g B2.2.2.2.2.2.1, bs]
        have hk := Base_keep B2 g hW (by rw [f2.1 607 (by omega)]; exact m3) (show 0 < 2 ^ qT q - 1 by omega) (by omega) f3.1
        exact ⟨nI c, _, _, c + 1, rfl, rfl, hk, (m5.trans f2.FK).trans (kC_FK _ _ _), (RanM_Fr l3).trans (kM_Ran _ _ _ _)⟩
      · have e60 : c = 60 := by omega
        subst e60
        rw [if_neg (by decide), kept_full hB1.2.2.2.2.2.1]
        exact ⟨_, σ, τ1, 60, rfl, rfl, hB1, FK.refl σ, RanM_Fr l3⟩
    · rw [w1, v1, bs, bs, if_pos rfl, if_pos rfl]
      exact same _
  · obtain ⟨p1, p2⟩ := isPoint_f (N := N) (τ := τ) hx
    rw [p1, p2]
    exact same _
