/-! the reference walks the same chain -/
theorem lN_subI {a b : Nat} (ha : a < 2 ^ 31) (hb : b < 2 ^ 31) : (lN a - lN b).toInt = (a : Int) - b := by
  rw [← nI_l ha, ← nI_l hb, lg_i2l_sub, nI_toInt ha, nI_toInt hb]
theorem sub_le0 {a b : Nat} (ha : a < 2 ^ 31) (hb : b < 2 ^ 31) : lg_cmp (lN a - lN b) (0 : Int64) ≤ 0 ↔ a ≤ b := by
  rw [lg_cmp_le, Int64.le_iff_toInt_le, lN_subI ha hb]
  have : (0 : Int64).toInt = 0 := by decide
  rw [this]
  omega
theorem ky01 (e : Ent) : ky 0 1 e = eA e := by unfold ky; omega
/-- what the walk of the spans changes -/
def FrS (τ τ' : MSt) : Prop := (∀ k, k ≠ 22 → k ≠ 26 → τ'.1 k = τ.1 k) ∧ (∀ k, (k < 16 ∨ 19 < k) → k ≠ 23 → τ'.2.2.1 k = τ.2.2.1 k)
theorem FrS.refl (τ : MSt) : FrS τ τ := ⟨fun _ _ _ => rfl, fun _ _ _ => rfl⟩
theorem FrS.trans {a b c : MSt} (h : FrS a b) (g : FrS b c) : FrS a c := ⟨fun k h1 h2 => (g.1 k h1 h2).trans (h.1 k h1 h2), fun k h1 h2 => (g.2 k h1 h2).trans (h.2 k h1 h2)⟩
theorem Fr.FrS {τ τ' : MSt} (h : Fr τ τ') : FrS τ τ' := ⟨fun k h1 _ => h.1 k h1, fun k h1 _ => h.2.2.1 k (by omega) (by omega) (by omega) (by omega)⟩
theorem MQd_FrS {q : Qd} {τ τ' : MSt} (h : FrS τ τ') (hM : MQd q τ) : MQd q τ' := by
  unfold MQd at hM ⊢
  rw [h.1 0 (by omega) (by omega), h.1 1 (by omega) (by omega), h.1 2 (by omega) (by omega), h.1 3 (by omega) (by omega), h.2 4 (by omega) (by omega), h.2 5 (by omega) (by omega), h.2 6 (by omega) (by omega), h.2 7 (by omega) (by omega), h.2 8 (by omega) (by omega), h.2 9 (by omega) (by omega), h.2 10 (by omega) (by omega)]
  exact hM
theorem Base_FrS {q : Qd} {c : Nat} {σ : CSt} {τ τ' : MSt} (h : FrS τ τ') (hB : Base q c σ τ) : Base q c σ τ' := by
  obtain ⟨b1, b2, b3, b4, b5, b6, b7, b8, b9⟩ := hB
  refine ⟨b1, b2, MQd_FrS h b3, b4, b5, by rw [h.1 11 (by omega) (by omega)]; exact b6, ?_, b8, b9⟩
  unfold Kept
  rw [h.2 12 (by omega) (by omega), h.2 13 (by omega) (by omega)]
  exact b7
theorem RanM_FrS {τ τ' : MSt} (h : FrS τ τ') : RanM τ τ' := ⟨h.1 37 (by omega) (by omega), h.1 38 (by omega) (by omega), h.2 39 (by omega) (by omega)⟩
theorem first_loop {N : Nat} {q : Qd} (hq : WfQ q) {τ : MSt} (hL : Listed q τ) (K : MSt → Int32 → Option MSt) : ∀ (n m j b : Nat) (e : Ent), j + m = (fl q (2 ^ qT q - 1)).length → m < n → (fl q (2 ^ qT q - 1))[b]? = some e → (∀ i f, i < j → (fl q (2 ^ qT q - 1))[i]? = some f → leE 0 1 (-1) e f) → ∃ b' e', fM_span_L21 N K n τ (nI (off q (2 ^ qT q - 1) + b)) (nI (off q (2 ^ qT q - 1) + j)) = K τ (nI (off q (2 ^ qT q - 1) + b')) ∧ (fl q (2 ^ qT q - 1))[b']? = some e' ∧ ∀ f, f ∈ fl q (2 ^ qT q - 1) → leE 0 1 (-1) e' f := by
  have hT := hq.1
  have h16 : 2 ^ qT q ≤ 16 := Nat.pow_le_pow_right (n := 2) (by omega) hT
  have h1 := Nat.two_pow_pos (qT q)
  have hle := top_le hq
  intro n
  induction n with
  | zero => intro m j b e _ h; omega
  | succ n ih =>
    intro m j b e hj hn hb he
    have hbl := (List.getElem?_eq_some_iff.mp hb).1
    have be := fl_bd hq (show 2 ^ qT q - 1 < 16 by omega) (List.mem_of_getElem? hb)
    rw [fM_span_L21, top_22 hL]
    cases m with
    | zero =>
      rw [if_pos (nI_le (by omega) (by omega))]
      refine ⟨b, e, rfl, hb, ?_⟩
      intro f hf
      obtain ⟨i, hi⟩ := List.getElem?_of_mem hf
      exact he i f (by have := (List.getElem?_eq_some_iff.mp hi).1; omega) hi
    | succ m =>
      have hjl : j < (fl q (2 ^ qT q - 1)).length := by omega
      have hf : (fl q (2 ^ qT q - 1))[j]? = some (fl q (2 ^ qT q - 1))[j] := List.getElem?_eq_getElem hjl
      generalize (fl q (2 ^ qT q - 1))[j] = f at hf
      have bf := fl_bd hq (show 2 ^ qT q - 1 < 16 by omega) (List.mem_of_getElem? hf)
      have Ae := top_At hL hb
      have Af := top_At hL hf
      rw [if_neg (nI_ge (by omega) (by omega))]
      simp only [chk_nI (show off q (2 ^ qT q - 1) + j < 5000 by omega) (show 5000 < 2 ^ 31 by omega), chk_nI (show off q (2 ^ qT q - 1) + b < 5000 by omega) (show 5000 < 2 ^ 31 by omega), nI_cl (show off q (2 ^ qT q - 1) + j < 2 ^ 31 by omega), nI_cl (show off q (2 ^ qT q - 1) + b < 2 ^ 31 by omega), Ae.1, Af.1, Ae.2.2.2.1, Af.2.2.2.1, Ae.2.2.2.2, Af.2.2.2.2, nI_leI be.1 bf.1, nI_1, cmp_lt (show eA f < 2 ^ 63 by omega) (show eA e < 2 ^ 63 by omega), cmp_eq0 (show eA f < 2 ^ 63 by omega) (show eA e < 2 ^ 63 by omega), cmp_lt (show eB f < 2 ^ 63 by omega) (show eB e < 2 ^ 63 by omega), cmp_eq0 (show eB f < 2 ^ 63 by omega) (show eB e < 2 ^ 63 by omega), if_neg n10, if_pos (show (0 : Int32) = 0 from rfl)]
      have hstay : leE 0 1 (-1) e f → ∃ b' e', fM_span_L21 N K n τ (nI (off q (2 ^ qT q - 1) + b)) (nI (off q (2 ^ qT q - 1) + j + 1)) = K τ (nI (off q (2 ^ qT q - 1) + b')) ∧ (fl q (2 ^ qT q - 1))[b']? = some e' ∧ ∀ f, f ∈ fl q (2 ^ qT q - 1) → leE 0 1 (-1) e' f := by
        intro hle2
        refine ih m (j + 1) b e (by omega) (by omega) hb ?_
        intro i g hi hg
        by_cases c : i = j
        · rw [c, hf] at hg
          rw [← Option.some.inj hg]; exact hle2
        · exact he i g (by omega) hg
      have hgo : leE 0 1 (-1) f e → ∃ b' e', fM_span_L21 N K n τ (nI (off q (2 ^ qT q - 1) + j)) (nI (off q (2 ^ qT q - 1) + j + 1)) = K τ (nI (off q (2 ^ qT q - 1) + b')) ∧ (fl q (2 ^ qT q - 1))[b']? = some e' ∧ ∀ f, f ∈ fl q (2 ^ qT q - 1) → leE 0 1 (-1) e' f := by
        intro hle2
        refine ih m (j + 1) j f (by omega) (by omega) hf ?_
        intro i g hi hg
        by_cases c : i = j
        · rw [c, hf] at hg
          rw [← Option.some.inj hg]; exact leE_refl _ _ _ _
        · exact leE_trans hle2 (he i g (by omega) hg)
      rw [leM, ky01, ky01] at hstay hgo
      by_cases c1 : eA f < eA e
      · rw [if_pos c1]; exact hgo (by omega)
      · rw [if_neg c1]
        by_cases c2 : eA f = eA e
        · rw [if_pos c2]
          by_cases c3 : eB f < eB e
          · rw [if_pos c3]; exact hgo (by omega)
          · rw [if_neg c3]
            by_cases c4 : eB f = eB e
            · rw [if_pos c4]
              by_cases c5 : eC e ≤ eC f
              · rw [if_pos c5]; exact hstay (by omega)
              · rw [if_neg c5]; exact hgo (by omega)
            · rw [if_neg c4]; exact hstay (by omega)
        · rw [if_neg c2]; exact hstay (by omega)
/-- what may come next -/
def Cd (e k : Ent) : Prop := eB k < eB e ∧ eA k - eA e < 4 * (eB e - eB k)
/-- k comes before h -/
def Bt (e k h : Ent) : Prop := (eA k - eA e) * (eB e - eB h) < (eA h - eA e) * (eB e - eB k) ∨ (eA k - eA e) * (eB e - eB h) = (eA h - eA e) * (eB e - eB k) ∧ (eB k < eB h ∨ eB k = eB h ∧ eC k < eC h)
/-- the walk's state: no next yet, or h -/
def St (q : Qd) (e : Ent) (x2 x4 : Int64) (x8 : Int32) (h : Ent) : Prop := Cd e h ∧ ∃ b, (fl q (2 ^ qT q - 1))[b]? = some h ∧ x8 = nI (off q (2 ^ qT q - 1) + b) ∧ x2 = lN (eA h - eA e) ∧ x4 = lN (eB e - eB h)
theorem lst_A {F : List Ent} {u v : Nat} {e k : Ent} (hv : 0 < v) (h : Lst u v (-1) F e) (hk : k ∈ F) (hB : eB k < eB e) : eA e < eA k := by
  have h := h.2 k hk
  rw [leM] at h
  have h : ky u v e < ky u v k := by omega
  unfold ky at h
  have m1 : eB k * u ≤ eB e * u := Nat.mul_le_mul_right _ (by omega)
  refine Nat.not_le.mp fun g => ?_
  have m2 : eA k * v ≤ eA e * v := Nat.mul_le_mul_right _ g
  omega
theorem next_step {N : Nat} {q : Qd} (hq : WfQ q) {τ : MSt} (hL : Listed q τ) (K : MSt → Int64 → Int64 → Int32 → Option MSt) {u v ie j : Nat} {e k : Ent} (hv : 0 < v) (hLe : Lst u v (-1) (fl q (2 ^ qT q - 1)) e) (hie : ie < 5000) (Ae : At τ ie e) (hk : (fl q (2 ^ qT q - 1))[j]? = some k) (n : Nat) (x2 x4 : Int64) (x8 : Int32) (hst : x8 = -1 ∨ ∃ h, St q e x2 x4 x8 h) : ∃ x2' x4' x8', fM_span_L216 N K (n + 1) τ (nI ie) x2 x4 x8 (nI (off q (2 ^ qT q - 1) + j)) = fM_span_L216 N K n τ (nI ie) x2' x4' x8' (nI (off q (2 ^ qT q - 1) + (j + 1))) ∧ ((¬ Cd e k ∧ x2' = x2 ∧ x4' = x4 ∧ x8' = x8) ∨ (Cd e k ∧ x8 = -1 ∧ St q e x2' x4' x8' k) ∨ ∃ h, Cd e k ∧ St q e x2 x4 x8 h ∧ ((Bt e k h ∧ St q e x2' x4' x8' k) ∨ (¬ Bt e k h ∧ x2' = x2 ∧ x4' = x4 ∧ x8' = x8))) := by
  have hT := hq.1
  have h16 : 2 ^ qT q ≤ 16 := Nat.pow_le_pow_right (n := 2) (by omega) hT
  have hle := top_le hq
  have hjl := (List.getElem?_eq_some_iff.mp hk).1
  have hkm := List.mem_of_getElem? hk
  have be := fl_bd hq (show 2 ^ qT q - 1 < 16 by omega) hLe.1
  have bk := fl_bd hq (show 2 ^ qT q - 1 < 16 by omega) hkm
  have Ak := top_At hL hk
  rw [fM_span_L216, top_22 hL, if_neg (nI_ge (by omega) (by omega))]
  simp only [chk_nI (show off q (2 ^ qT q - 1) + j < 5000 by omega) (show 5000 < 2 ^ 31 by omega), chk_nI hie (show 5000 < 2 ^ 31 by omega), nI_cl (show off q (2 ^ qT q - 1) + j < 2 ^ 31 by omega), nI_cl (show ie < 2 ^ 31 by omega), Ae.2.2.2.1, Ak.2.2.2.1, Ae.2.2.2.2, Ak.2.2.2.2, nI_1, sub_le0 (show eB e < 2 ^ 31 by omega) (show eB k < 2 ^ 31 by omega)]
  by_cases c1 : eB e ≤ eB k
  · rw [if_pos c1]
    exact ⟨x2, x4, x8, rfl, Or.inl ⟨fun h => by have := h.1; omega, rfl, rfl, rfl⟩⟩
  · have hA := lst_A hv hLe hkm (by omega)
    rw [if_neg c1, lN_sub (show eA e ≤ eA k by omega), lN_sub (show eB k ≤ eB e by omega), show (4 : Int64) = lN 4 from rfl, lN_mul]
    simp only [cmp_lt (show eA k - eA e < 2 ^ 63 by omega) (show 4 * (eB e - eB k) < 2 ^ 63 by omega)]
    by_cases c2 : eA k - eA e < 4 * (eB e - eB k)
    · have hc : Cd e k := ⟨by omega, c2⟩
      have stk : St q e (lN (eA k - eA e)) (lN (eB e - eB k)) (nI (off q (2 ^ qT q - 1) + j)) k := ⟨hc, j, hk, rfl, rfl, rfl⟩
      rw [if_pos c2]
      simp only [fM_span_J297, fM_span_J302, fM_span_J375, fM_span_J379, fM_span_J380, fM_span_J382, if_neg n10, if_pos (show (0 : Int32) = 0 from rfl)]
      rcases hst with rfl | ⟨h, hch, b, hb, rfl, rfl, rfl⟩
      · rw [if_pos (by decide)]
        simp only [if_pos (show (-1 : Int32) < 0 by decide), nI_1]
        exact ⟨_, _, _, rfl, Or.inr (Or.inl ⟨hc, trivial, stk⟩)⟩
      · have hbl := (List.getElem?_eq_some_iff.mp hb).1
        have hhm := List.mem_of_getElem? hb
        have bh := fl_bd hq (show 2 ^ qT q - 1 < 16 by omega) hhm
        have Ah := top_At hL hb
        have hsth : St q e (lN (eA h - eA e)) (lN (eB e - eB h)) (nI (off q (2 ^ qT q - 1) + b)) h := ⟨hch, b, hb, rfl, rfl, rfl⟩
        have m1 : (eA k - eA e) * (eB e - eB h) < 2 ^ 63 := by
          have : (eA k - eA e) * (eB e - eB h) ≤ 2 ^ 26 * 2 ^ 26 := Nat.mul_le_mul (by omega) (by omega)
          omega
        have m2 : (eA h - eA e) * (eB e - eB k) < 2 ^ 63 := by
          have : (eA h - eA e) * (eB e - eB k) ≤ 2 ^ 26 * 2 ^ 26 := Nat.mul_le_mul (by omega) (by omega)
          omega
        rw [lN_mul, lN_mul]
        simp only [if_neg (nI_pos (show off q (2 ^ qT q - 1) + b < 2 ^ 31 by omega)), cmp_ge m1 m2, cmp_eq0 m1 m2, chk_nI (show off q (2 ^ qT q - 1) + j < 5000 by omega) (show 5000 < 2 ^ 31 by omega), chk_nI (show off q (2 ^ qT q - 1) + b < 5000 by omega) (show 5000 < 2 ^ 31 by omega), nI_cl (show off q (2 ^ qT q - 1) + j < 2 ^ 31 by omega), nI_cl (show off q (2 ^ qT q - 1) + b < 2 ^ 31 by omega), Ak.1, Ah.1, Ak.2.2.2.2, Ah.2.2.2.2, cmp_lt (show eB k < 2 ^ 63 by omega) (show eB h < 2 ^ 63 by omega), cmp_eq0 (show eB k < 2 ^ 63 by omega) (show eB h < 2 ^ 63 by omega), nI_leI bh.1 bk.1, nI_1]
        have keep : ¬ Bt e k h → ∃ x2' x4' x8', fM_span_L216 N K n τ (nI ie) (lN (eA h - eA e)) (lN (eB e - eB h)) (nI (off q (2 ^ qT q - 1) + b)) (nI (off q (2 ^ qT q - 1) + j + 1)) = fM_span_L216 N K n τ (nI ie) x2' x4' x8' (nI (off q (2 ^ qT q - 1) + (j + 1))) ∧ ((¬ Cd e k ∧ x2' = lN (eA h - eA e) ∧ x4' = lN (eB e - eB h) ∧ x8' = nI (off q (2 ^ qT q - 1) + b)) ∨ (Cd e k ∧ nI (off q (2 ^ qT q - 1) + b) = -1 ∧ St q e x2' x4' x8' k) ∨ ∃ h', Cd e k ∧ St q e (lN (eA h - eA e)) (lN (eB e - eB h)) (nI (off q (2 ^ qT q - 1) + b)) h' ∧ ((Bt e k h' ∧ St q e x2' x4' x8' k) ∨ (¬ Bt e k h' ∧ x2' = lN (eA h - eA e) ∧ x4' = lN (eB e - eB h) ∧ x8' = nI (off q (2 ^ qT q - 1) + b)))) := fun hB => ⟨_, _, _, rfl, Or.inr (Or.inr ⟨h, hc, hsth, Or.inr ⟨hB, rfl, rfl, rfl⟩⟩)⟩
        have take : Bt e k h → ∃ x2' x4' x8', fM_span_L216 N K n τ (nI ie) (lN (eA k - eA e)) (lN (eB e - eB k)) (nI (off q (2 ^ qT q - 1) + j)) (nI (off q (2 ^ qT q - 1) + j + 1)) = fM_span_L216 N K n τ (nI ie) x2' x4' x8' (nI (off q (2 ^ qT q - 1) + (j + 1))) ∧ ((¬ Cd e k ∧ x2' = lN (eA h - eA e) ∧ x4' = lN (eB e - eB h) ∧ x8' = nI (off q (2 ^ qT q - 1) + b)) ∨ (Cd e k ∧ nI (off q (2 ^ qT q - 1) + b) = -1 ∧ St q e x2' x4' x8' k) ∨ ∃ h', Cd e k ∧ St q e (lN (eA h - eA e)) (lN (eB e - eB h)) (nI (off q (2 ^ qT q - 1) + b)) h' ∧ ((Bt e k h' ∧ St q e x2' x4' x8' k) ∨ (¬ Bt e k h' ∧ x2' = lN (eA h - eA e) ∧ x4' = lN (eB e - eB h) ∧ x8' = nI (off q (2 ^ qT q - 1) + b)))) := fun hB => ⟨_, _, _, rfl, Or.inr (Or.inr ⟨h, hc, hsth, Or.inl ⟨hB, stk⟩⟩)⟩
        unfold Bt at keep take
        generalize (eA k - eA e) * (eB e - eB h) = X at *
        generalize (eA h - eA e) * (eB e - eB k) = Y at *
        by_cases d1 : Y ≤ X
        · rw [if_pos d1]
          by_cases d2 : X = Y
          · rw [if_pos d2]
            by_cases d3 : eB k < eB h
            · rw [if_pos d3]; exact take (by omega)
            · rw [if_neg d3]
              by_cases d4 : eB k = eB h
              · rw [if_pos d4]
                by_cases d5 : eC h ≤ eC k
                · rw [if_pos d5]; exact keep (by omega)
                · rw [if_neg d5]; exact take (by omega)
              · rw [if_neg d4]; exact keep (by omega)
          · rw [if_neg d2]; exact keep (by omega)
        · rw [if_neg d1, if_neg (by omega)]; exact take (by omega)
    · rw [if_neg c2]
      exact ⟨x2, x4, x8, rfl, Or.inl ⟨fun h => c2 h.2, rfl, rfl, rfl⟩⟩
