/-! kept plans -/
def Kept (q : Qd) (c : Nat) (σ : CSt) (τ : MSt) : Prop := ∀ i, i < c → ∃ S e, 0 < S ∧ S < 2 ^ qT q ∧ e ∈ fl q S ∧ τ.2.2.1 12 i = nI (eC e) ∧ τ.2.2.1 13 i = nI S ∧ σ.2.2.2.2.1 605 i = some (pl q S e)
def Base (q : Qd) (c : Nat) (σ : CSt) (τ : MSt) : Prop := WfQ q ∧ CQd q σ ∧ MQd q τ ∧ c ≤ 60 ∧ σ.1 606 = nI c ∧ τ.1 11 = nI c ∧ Kept q c σ τ ∧ (σ.1 607 = 0 ∨ σ.1 607 = 1 ∧ Measured q σ) ∧ (0 < c → Whole q ∧ σ.1 607 = 1)
/-- what the run left, in the reference -/
def RanM (τ τ' : MSt) : Prop := τ'.1 37 = τ.1 37 ∧ τ'.1 38 = τ.1 38 ∧ τ'.2.2.1 39 = τ.2.2.1 39
theorem RanM_Fr {τ τ' : MSt} (h : Fr τ τ') : RanM τ τ' := ⟨h.1 37 (by omega), h.1 38 (by omega), h.2.2.1 39 (by omega) (by omega) (by omega) (by omega)⟩
theorem Kept_Fr {q : Qd} {c : Nat} {σ : CSt} {τ τ' : MSt} (h : Fr τ τ') (hk : Kept q c σ τ) : Kept q c σ τ' := by
  intro i hi
  obtain ⟨S, e, h1, h2, h3, h4, h5, h6⟩ := hk i hi
  exact ⟨S, e, h1, h2, h3, by rw [h.2.2.1 12 (by omega) (by omega) (by omega) (by omega)]; exact h4, by rw [h.2.2.1 13 (by omega) (by omega) (by omega) (by omega)]; exact h5, h6⟩
theorem Base_Fr {q : Qd} {c : Nat} {σ : CSt} {τ τ' : MSt} (h : Fr τ τ') (hB : Base q c σ τ) : Base q c σ τ' := by
  obtain ⟨b1, b2, b3, b4, b5, b6, b7, b8, b9⟩ := hB
  exact ⟨b1, b2, MQd_Fr h b3, b4, b5, by rw [h.1 11 (by omega)]; exact b6, Kept_Fr h b7, b8, b9⟩
theorem planAt_ok {N : Nat} {q : Qd} {c : Nat} {σ : CSt} {τ : MSt} (hB : Base q c σ τ) (x : Int32) : (fC_planAt N σ x = some none ∧ fM_isPlan N τ x = some 0) ∨ ∃ i S e, i < c ∧ x = nI i ∧ fM_isPlan N τ x = some 1 ∧ 0 < S ∧ S < 2 ^ qT q ∧ e ∈ fl q S ∧ τ.2.2.1 12 i = nI (eC e) ∧ τ.2.2.1 13 i = nI S ∧ fC_planAt N σ x = some (some (pl q S e)) := by
  obtain ⟨b1, b2, b3, b4, b5, b6, b7, b8, b9⟩ := hB
  unfold fC_planAt fM_isPlan
  rw [b5, b6]
  by_cases h0 : x < 0
  · rw [if_pos h0, if_pos h0]; exact Or.inl ⟨rfl, rfl⟩
  · obtain ⟨i, hi, rfl⟩ := nI_of h0
    rw [if_neg h0, if_neg h0]
    by_cases h1 : i < c
    · obtain ⟨S, e, h1', h2, h3, h4, h5, h6⟩ := b7 i h1
      rw [if_neg (nI_ge h1 (by omega)), if_neg (nI_ge h1 (by omega)), if_pos (show nI i < (60 : Int32) from nI_lt (b := 60) (by omega) (by omega)), chk_nI (by omega) (by omega), nI_cl hi, h6]
      exact Or.inr ⟨i, S, e, h1, rfl, rfl, h1', h2, h3, h4, h5, rfl⟩
    · rw [if_pos (nI_le (by omega) hi), if_pos (nI_le (by omega) hi)]; exact Or.inl ⟨rfl, rfl⟩
theorem find_loop {N : Nat} {q : Qd} (hq : WfQ q) {τ : MSt} {S : Nat} (hS : S < 2 ^ qT q) (hL : Listed q τ) {e : Ent} {j0 : Nat} (he : (fl q S)[j0]? = some e) : ∀ (n m j : Nat), j + m = j0 → m < n → ∃ j', fM_find_L7 N τ n (nI (eC e)) (nI (off q S + j)) = some (nI (off q S + j')) ∧ (fl q S)[j']? = some e := by
  have hT := hq.1
  have h16 : 2 ^ qT q ≤ 16 := Nat.pow_le_pow_right (n := 2) (by omega) hT
  have hj0 := (List.getElem?_eq_some_iff.mp he).1
  have ho := off_succ q S
  have ho2 := off_le hq (show S + 1 < 17 by omega)
  intro n
  induction n with
  | zero => intro m j _ h; omega
  | succ n ih =>
    intro m j hm hn
    have hat : ∀ j f, (fl q S)[j]? = some f → At τ (off q S + j) f := fun j f h => hL.1.2 _ _ (by have := Lt_at q hS [] j f h; rw [List.append_nil] at this; exact this)
    rw [fM_find_L7, chk_nI (by omega) (by omega), nI_cl (by omega)]
    have hj : j < (fl q S).length := by omega
    have hf : (fl q S)[j]? = some (fl q S)[j] := List.getElem?_eq_getElem hj
    rw [(hat j _ hf).1]
    have hm1 := List.mem_of_getElem? hf
    have hm2 := List.mem_of_getElem? he
    have b1 := (fl_lt hq (show S < 16 by omega) hm1).1
    have b2 := (fl_lt hq (show S < 16 by omega) hm2).1
    by_cases g : eC (fl q S)[j] = eC e
    · rw [if_pos (by rw [g])]
      refine ⟨j, rfl, ?_⟩
      rw [hf, fl_inj hq (by omega) hm1 hm2 g]
    · rw [if_neg (fun h => g ((nI_eq (by omega) (by omega)).mp h)), nI_1]
      cases m with
      | zero =>
        have : j = j0 := by omega
        subst this
        rw [hf] at he
        exact absurd (congrArg eC (Option.some.inj he)) g
      | succ m => exact ih m (j + 1) (by omega) (by omega)
theorem find_ok {N : Nat} (hN : 5000 ≤ N) {q : Qd} (hq : WfQ q) {τ : MSt} {S : Nat} (h0 : 0 < S) (hS : S < 2 ^ qT q) (hL : Listed q τ) {e : Ent} (he : e ∈ fl q S) : ∃ i, i < 5000 ∧ fM_find N τ (nI S) (nI (eC e)) = some (nI i) ∧ At τ i e := by
  have hT := hq.1
  have h16 : 2 ^ qT q ≤ 16 := Nat.pow_le_pow_right (n := 2) (by omega) hT
  obtain ⟨j0, hj0⟩ := List.getElem?_of_mem he
  have hl0 := (List.getElem?_eq_some_iff.mp hj0).1
  have ho := off_succ q S
  have ho2 := off_le hq (show S + 1 < 17 by omega)
  unfold fM_find
  rw [chk_nI (by omega) (by omega), nI_cl (by omega), hL.2 S (by omega) (by omega)]
  obtain ⟨j', h1, h2⟩ := find_loop (N := N) hq hS hL hj0 N j0 0 (by omega) (by omega)
  rw [Nat.add_zero] at h1
  have hl' := (List.getElem?_eq_some_iff.mp h2).1
  refine ⟨off q S + j', by omega, h1, ?_⟩
  exact hL.1.2 _ _ (by have := Lt_at q hS [] j' e h2; rw [List.append_nil] at this; exact this)
/-- how an entry was made -/
theorem fl_how {q : Qd} {S : Nat} (hS : S < 16) {e : Ent} (he : e ∈ fl q S) : (eK e = -1) ∨ ∃ l k, k < 3 ∧ okB q S l = true ∧ eL e = l ∧ eK e = nI k := by
  obtain ⟨e0, h0, h1, -, -⟩ := fl_mem he
  have hK : eK e = eK e0 := by rcases h1 with rfl | rfl; rfl; exact fin_K _ _ _
  have hL : eL e = eL e0 := by rcases h1 with rfl | rfl; rfl; exact fin_L _ _ _
  rw [hK, hL]
  rcases (mem_PE hS).mp h0 with ⟨t, -, -, rfl⟩ | ⟨l, hk, k, hk3, a, -, b, -, rfl⟩
  · exact Or.inl rfl
  · exact Or.inr ⟨l, k, hk3, hk, rfl, rfl⟩
/-- the code, both sides -/
theorem code_ok {N : Nat} (hN : 6 ≤ N) {q : Qd} {c : Nat} {σ : CSt} {τ : MSt} (hB : Base q c σ τ) (x y : Int32) : ∃ r, fC_code N σ x y = some r ∧ fM_code N τ x y = some r := by
  have hT := hB.1.1
  have h16 : 2 ^ qT q ≤ 16 := Nat.pow_le_pow_right (n := 2) (by omega) hT
  unfold fC_code fM_code
  rcases planAt_ok (N := N) hB x with ⟨h1, h2⟩ | ⟨i, S, e, hi, rfl, hp, h1, h2, h3, h4, h5, h6⟩
  · rw [h1, h2]; exact ⟨_, rfl, rfl⟩
  · have hc := hB.2.2.2.1
    rw [h6, hp, bs, bs, if_neg n10, chk_nI (by omega) (by omega), nI_cl (by omega), h5, digits_ok hN (by omega) h1, bs, h4]
    show ∃ r, (if y < 0 then _ else _) = some r ∧ _
    by_cases g : y < 0
    · rw [if_pos g, if_pos g]; exact ⟨_, rfl, rfl⟩
    · have hcl : fP_codeLength N σ (pl q S e) = some (nI (dg S)) := by
        unfold fP_codeLength pl
        show (fJ_bitCount_0f7a4 N (nI S)).bind _ = _
        rw [bitC N (by omega), bs, dg_I S (by omega) h1]
      rw [if_neg g, if_neg g, hcl, bs]
      by_cases g2 : y < nI (dg S)
      · rw [if_pos g2, if_pos g2, chk_nI (by omega) (by omega)]
        unfold fP_codeNumber
        rw [hcl]
        exact ⟨_, rfl, rfl⟩
      · rw [if_neg g2, if_neg g2]; exact ⟨_, rfl, rfl⟩
theorem about_ok {N : Nat} (hN : 5000 ≤ N) {q : Qd} {c : Nat} {σ : CSt} {τ : MSt} (hB : Base q c σ τ) (x y : Int32) : ∃ r τ', fC_about N σ x y = some r ∧ fM_about N τ x y = some (r, τ') ∧ Fr τ τ' := by
  have hq := hB.1
  have hT := hB.1.1
  have hP := hB.1.2.1
  have h16 : 2 ^ qT q ≤ 16 := Nat.pow_le_pow_right (n := 2) (by omega) hT
  unfold fC_about fM_about
  rcases planAt_ok (N := N) hB x with ⟨h1, h2⟩ | ⟨i, S, e, hi, rfl, hp, h1, h2, h3, h4, h5, h6⟩
  · rw [h1, h2]; exact ⟨_, τ, rfl, rfl, Fr.refl τ⟩
  · have hc := hB.2.2.2.1
    rw [h6, hp, bs, bs, if_neg n10]
    show ∃ r τ', (if y = 0 then _ else _) = some r ∧ _
    by_cases y0 : y = 0
    · rw [if_pos y0, if_pos y0, chk_nI (by omega) (by omega), nI_cl (by omega), h5]
      exact ⟨_, τ, rfl, rfl, Fr.refl τ⟩
    · rw [if_neg y0, if_neg y0]
      by_cases y1 : y = 1
      · rw [if_pos y1, if_pos y1, chk_nI (by omega) (by omega), nI_cl (by omega), h5, bits_ok (by omega) (by omega), bs]
        unfold pl
        show ∃ r τ', (fJ_bitCount_0f7a4 N (nI S)).bind _ = some r ∧ _
        rw [bitC N (by omega), bs]
        exact ⟨_, τ, rfl, rfl, Fr.refl τ⟩
      · rw [if_neg y1, if_neg y1]
        by_cases y2 : y = 2
        · rw [if_pos y2, if_pos y2, hB.2.2.1.2.2.1]
          unfold pl
          show ∃ r τ', (if (if ioB q (eK e) (eL e) (S - eL e) = true then (1 : Int32) else 0) = 0 then _ else _) = some r ∧ _
          by_cases g : qot q = -1
          · have hno : ¬ ioB q (eK e) (eL e) (S - eL e) = true := by
              intro h
              unfold ioB at h
              rw [Bool.and_eq_true] at h
              exact (of_decide_eq_true h.2).1 g
            rw [if_neg (show ¬ 0 ≤ qot q by rw [g]; decide), if_neg hno, if_pos rfl]
            exact ⟨_, τ, rfl, rfl, Fr.refl τ⟩
          · have hpos : 0 ≤ qot q := Int32.not_lt.mp (fun h => g ((qot_neg hq).mp h))
            obtain ⟨τ1, l1, l2, l3⟩ := list_ok hN hq hB.2.2.1
            have M1 := MQd_Fr l3 hB.2.2.1
            have e12 : τ1.2.2.1 12 = τ.2.2.1 12 := l3.2.2.1 12 (by omega) (by omega) (by omega) (by omega)
            have e13 : τ1.2.2.1 13 = τ.2.2.1 13 := l3.2.2.1 13 (by omega) (by omega) (by omega) (by omega)
            rw [if_pos hpos, l1, bs, chk_nI (by omega) (by omega), chk_nI (by omega) (by omega), nI_cl (by omega), e12, e13, h4, h5]
            obtain ⟨k, hk, f1, f2⟩ := find_ok hN hq h1 h2 l2 h3
            rw [f1, bs, chk_nI (by omega) (by omega), nI_cl (by omega), f2.2.2.1]
            rcases fl_how (show S < 16 by omega) h3 with hK | ⟨l, k3, hk3, hok, hL, hK⟩
            · rw [if_neg (show ¬ eK e = 2 by rw [hK]; decide), hK, if_neg (ioB_rd q _ _), if_pos rfl]
              exact ⟨_, τ1, rfl, rfl, l3⟩
            · obtain ⟨hs, hlb⟩ := okB_ok hok
              have hl := sub1_ok hs
              have hbs := b_sub (show S < 16 by omega) hs
              rcases lb_cases (q := q) l (S - l) with ⟨h, -⟩ | ⟨p, hp, hp1, -⟩
              · exact absurd h hlb
              have hio := ioB_iff (q := q) (k := eK e) (show p < 2 ^ 31 by omega) hp1
              rw [hL]
              by_cases g2 : eK e = 2
              · rw [if_pos g2, chk_nI (by omega) (by omega), chk_nI (by omega) (by omega), chk_nI (by omega) (by omega), f2.2.1, hL, b_diff S (by omega) l (by omega), hbs.2.2.2.2.2.2]
                rcases sortedSo_M (N := N) (by omega) hq M1 (show l < 16 by omega) (show S - l < 16 by omega) hp hp1 with ⟨h, ho⟩ | ⟨h, ho⟩
                · rw [h, bs, if_neg n10, if_pos (hio.mpr ⟨g2, ho⟩), if_neg n10]
                  exact ⟨_, τ1, rfl, rfl, l3⟩
                · rw [h, bs, if_pos rfl, if_neg (fun h => ho (hio.mp h).2), if_pos rfl]
                  exact ⟨_, τ1, rfl, rfl, l3⟩
              · rw [if_neg g2, if_neg (fun h => g2 (hio.mp h).1), if_pos rfl]
                exact ⟨_, τ1, rfl, rfl, l3⟩
        · rw [if_neg y2, if_neg y2]
          by_cases y3 : y = 3
          · rw [if_pos y3, if_pos y3]
            unfold fM_isWholePlan
            rw [chk_nI (by omega) (by omega), all_M hq hB.2.2.1, bs, nI_cl (by omega), h5, allTables_C hq hB.2.1, bs]
            show ∃ r τ', (if nI S = _ then _ else _) = some r ∧ _
            by_cases g : nI S = nI (2 ^ qT q - 1)
            · rw [if_pos g, bs, if_neg n10]
              exact ⟨_, τ, rfl, rfl, Fr.refl τ⟩
            · rw [if_neg g, bs, if_pos rfl]
              exact ⟨_, τ, rfl, rfl, Fr.refl τ⟩
          · rw [if_neg y3, if_neg y3]
            exact ⟨_, τ, rfl, rfl, Fr.refl τ⟩
theorem cmp_same (x : Int64) : lg_cmp x x = 0 := by
  unfold lg_cmp
  rw [if_neg (Int64.lt_irrefl), if_pos rfl]
theorem price_ok {N : Nat} (hN : 5000 ≤ N) {q : Qd} {c : Nat} {σ : CSt} {τ : MSt} (hB : Base q c σ τ) (x y : Int32) : ∃ r τ', fC_price N σ x y = some r ∧ fM_price N τ x y = some (r, τ') ∧ Fr τ τ' := by
  have hq := hB.1
  have hT := hB.1.1
  have h16 : 2 ^ qT q ≤ 16 := Nat.pow_le_pow_right (n := 2) (by omega) hT
  unfold fC_price fM_price
  rcases planAt_ok (N := N) hB x with ⟨h1, h2⟩ | ⟨i, S, e, hi, rfl, hp, h1, h2, h3, h4, h5, h6⟩
  · rw [h1, h2]; exact ⟨_, τ, rfl, rfl, Fr.refl τ⟩
  · have hc := hB.2.2.2.1
    have hm : Measured q σ := by
      rcases hB.2.2.2.2.2.2.2.1 with g | g
      · have := (hB.2.2.2.2.2.2.2.2 (by omega)).2
        rw [g] at this
        exact absurd this (by decide)
      · exact g.2
    rw [h6, hp, bs, bs, if_neg n10]
    show ∃ r τ', (if y = 0 then _ else _) = some r ∧ _
    obtain ⟨τ1, l1, l2, l3⟩ := list_ok hN hq hB.2.2.1
    have M1 := MQd_Fr l3 hB.2.2.1
    have e12 : τ1.2.2.1 12 = τ.2.2.1 12 := l3.2.2.1 12 (by omega) (by omega) (by omega) (by omega)
    have e13 : τ1.2.2.1 13 = τ.2.2.1 13 := l3.2.2.1 13 (by omega) (by omega) (by omega) (by omega)
    obtain ⟨k, hk, f1, f2⟩ := find_ok hN hq h1 h2 l2 h3
    rw [l1, bs, chk_nI (by omega) (by omega), chk_nI (by omega) (by omega), nI_cl (by omega), e12, e13, h4, h5, f1, bs, chk_nI hk (by omega), chk_nI hk (by omega), nI_cl (by omega), f2.2.2.2.1, f2.2.2.2.2, chk_nI (by omega) (by omega), sizeM (by omega) hq M1 h2, bs]
    by_cases y0 : y = 0
    · rw [if_pos y0, if_neg (by rw [y0]; decide), if_pos (by rw [y0]; decide), if_pos y0]
      exact ⟨_, τ1, rfl, rfl, l3⟩
    · rw [if_neg y0]
      by_cases y1 : y = 1
      · rw [if_pos y1, if_neg (by rw [y1]; decide), if_pos (by rw [y1]; decide), if_neg y0, if_pos y1]
        exact ⟨_, τ1, rfl, rfl, l3⟩
      · rw [if_neg y1]
        have e1 : (sJ (sJ τ1 14 (szA q S)) 15 (szB q S)).2.1 14 = lN (nA q S) := by rw [← szA_n]; rfl
        have e2 : (sJ (sJ τ1 14 (szA q S)) 15 (szB q S)).2.1 15 = lN (nB q S) := by rw [← szB_n]; rfl
        by_cases y2 : y = 2
        · rw [if_pos y2, if_neg (by rw [y2]; decide), if_pos (by rw [y2]; decide), if_neg y0, if_neg y1, if_pos y2, e1]
          show ∃ r τ', (fZ_sizeA N σ (nI S)).bind _ = some r ∧ _
          rw [sizeA_C hm (by omega), bs]
          exact ⟨_, _, rfl, rfl, l3.trans (Fr_J _ _).1⟩
        · rw [if_neg y2]
          by_cases y3 : y = 3
          · rw [if_pos y3, if_neg (by rw [y3]; decide), if_pos (by rw [y3]; decide), if_neg y0, if_neg y1, if_neg y2, e2]
            show ∃ r τ', (fZ_sizeB N σ (nI S)).bind _ = some r ∧ _
            rw [sizeB_C hm (by omega), bs]
            exact ⟨_, _, rfl, rfl, l3.trans (Fr_J _ _).1⟩
          · rw [if_neg y3]
            by_cases g : y < 0
            · rw [if_pos g]
              exact ⟨_, τ, rfl, rfl, Fr.refl τ⟩
            · rw [if_neg g]
              have : ¬ y ≤ 3 := by
                obtain ⟨j, hj, rfl⟩ := nI_of g
                intro h
                have h : j ≤ 3 := (nI_leI (b := 3) hj (by omega)).mp h
                have z0 : j ≠ 0 := fun h => y0 (by rw [h]; rfl)
                have z1 : j ≠ 1 := fun h => y1 (by rw [h]; rfl)
                have z2 : j ≠ 2 := fun h => y2 (by rw [h]; rfl)
                have z3 : j ≠ 3 := fun h => y3 (by rw [h]; rfl)
                omega
              rw [if_neg this]
              exact ⟨_, τ, rfl, rfl, Fr.refl τ⟩
