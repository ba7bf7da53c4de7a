/-! the calls that ask for the spans -/
def SpanI (q : Qd) (σ : CSt) : Prop := σ.1 608 = 0 ∨ (σ.1 608 = 1 ∧ σ.1 607 = 1 ∧ Whole q ∧ Spanned q σ)
/-- the runner's numbers stay -/
def RanC (σ σ' : CSt) : Prop := (∀ k, 400 ≤ k → k < 500 → σ'.1 k = σ.1 k) ∧ (∀ k, 400 ≤ k → k < 500 → σ'.2.2.1 k = σ.2.2.1 k) ∧ σ'.2.2.2.2.2 = σ.2.2.2.2.2
theorem RanC.refl (σ : CSt) : RanC σ σ := ⟨fun _ _ _ => rfl, fun _ _ _ => rfl, rfl⟩
theorem RanC.trans {a b c : CSt} (h : RanC a b) (g : RanC b c) : RanC a c := ⟨fun k h1 h2 => (g.1 k h1 h2).trans (h.1 k h1 h2), fun k h1 h2 => (g.2.1 k h1 h2).trans (h.2.1 k h1 h2), g.2.2.trans h.2.2⟩
theorem FK.RanC {σ σ' : CSt} (h : FK σ σ') : RanC σ σ' := ⟨fun k h1 h2 => h.1 k (by omega) (by omega) (by omega), fun k h1 h2 => h.2.2.1 k (by omega), h.2.2.2.2.2⟩
theorem FS.RanC {σ σ' : CSt} (h : FS σ σ') : RanC σ σ' := ⟨fun k h1 h2 => h.1 k (by omega) (by omega), fun k h1 h2 => h.2.1 k (by omega), h.2.2.2.2⟩
theorem Spanned_same {q : Qd} {σ σ' : CSt} (h1 : σ'.1 500 = σ.1 500) (h2 : σ'.2.2.2.2.1 502 = σ.2.2.2.2.1 502) (h3 : σ'.2.2.2.1 503 = σ.2.2.2.1 503) (h4 : σ'.2.2.2.1 504 = σ.2.2.2.1 504) (h5 : σ'.2.2.2.1 505 = σ.2.2.2.1 505) (h : Spanned q σ) : Spanned q σ' := by
  unfold Spanned Rw BdC at *
  rw [h1, h2, h3, h4, h5]
  exact h
theorem SpanI_FK {q : Qd} {σ σ' : CSt} (h : FK σ σ') (hS : SpanI q σ) : SpanI q σ' := by
  unfold SpanI
  rw [h.1 608 (by omega) (by omega) (by omega)]
  rcases hS with g | ⟨g1, g2, g3, g4⟩
  · exact Or.inl g
  · exact Or.inr ⟨g1, h.2.1 g2, g3, Spanned_same (h.1 500 (by omega) (by omega) (by omega)) (h.2.2.2.2.1 502 (by omega)) (h.2.2.2.1 503 (by omega) (by omega) (by omega)) (h.2.2.2.1 504 (by omega) (by omega) (by omega)) (h.2.2.2.1 505 (by omega) (by omega) (by omega)) g4⟩
/-- one call: the same answer, and all stays in order -/
def stepS (q : Qd) (σ : CSt) (τ : MSt) {α : Type} (a : Option (α × CSt)) (b : Option (α × MSt)) : Prop := ∃ r σ' τ' c', a = some (r, σ') ∧ b = some (r, τ') ∧ Base q c' σ' τ' ∧ SpanI q σ' ∧ RanC σ σ' ∧ RanM τ τ'
theorem stepK.S {q : Qd} {σ : CSt} {τ : MSt} {a : Option (Int32 × CSt)} {b : Option (Int32 × MSt)} (hS : SpanI q σ) (h : stepK q σ τ a b) : stepS q σ τ a b := by
  obtain ⟨r, σ', τ', c', h1, h2, h3, h4, h5⟩ := h
  exact ⟨r, σ', τ', c', h1, h2, h3, SpanI_FK h4 hS, h4.RanC, h5⟩
theorem tell_ok {N : Nat} (hN : 5000 ≤ N) {q : Qd} {c : Nat} {σ : CSt} {τ : MSt} (hB : Base q c σ τ) (hS : SpanI q σ) : (Whole q ∧ fM_isWhole N τ = some 1 ∧ ∃ σ', fC_tellSpans N σ = some (1, σ') ∧ Base q c σ' τ ∧ σ'.1 608 = 1 ∧ σ'.1 607 = 1 ∧ Spanned q σ' ∧ RanC σ σ') ∨ (¬ Whole q ∧ fM_isWhole N τ = some 0 ∧ fC_tellSpans N σ = some (0, σ)) := by
  unfold fC_tellSpans
  rcases whole_both (N := N) (by omega) hB.1 hB.2.1 hB.2.2.1 with ⟨w1, v1, hW⟩ | ⟨w1, v1, hW⟩
  · refine Or.inl ⟨hW, v1, ?_⟩
    rw [w1, bs, if_neg n10]
    rcases hS with g | ⟨g1, g2, g3, g4⟩
    · rw [if_pos g]
      obtain ⟨σ1, m1, m2, m3, m4, m5⟩ := measure_C (N := N) (by omega) hB
      obtain ⟨σ2, a1, a2, a3⟩ := find_all (N := N) (by omega) hB.1 hW m2.2.1 m4
      rw [m1, bs, a1, bs]
      have C2 : Base q c (cI σ2 608 1) τ := by
        obtain ⟨b1, b2, b3, b4, b5, b6, b7, b8, b9⟩ := m2
        have e7 : (cI σ2 608 1).1 607 = 1 := by rw [cI_1, if_neg (by omega), a2.1 607 (by omega) (by omega)]; exact m3
        refine ⟨b1, CQd_same (fun k h1 h2 => by rw [cI_1, if_neg (by omega), a2.1 k (by omega) (by omega)]) (fun k h1 h2 => by rw [cI_2]; exact a2.2.1 k (by omega)) b2, b3, b4, ?_, b6, ?_, ?_, fun _ => ⟨hW, e7⟩⟩
        · rw [cI_1, if_neg (by omega), a2.1 606 (by omega) (by omega)]; exact b5
        · unfold Kept
          rw [cI_2, a2.2.2.2.1 605 (by omega)]
          exact b7
        · refine Or.inr ⟨e7, ?_⟩
          unfold Measured
          rw [cI_2]
          exact Meas_FS a2 m4
      refine ⟨cI σ2 608 1, rfl, C2, rfl, ?_, ?_, ?_⟩
      · rw [cI_1, if_neg (by omega), a2.1 607 (by omega) (by omega)]; exact m3
      · exact Spanned_same (σ := σ2) (by rw [cI_1, if_neg (by omega)]) (by rw [cI_2]) (by rw [cI_2]) (by rw [cI_2]) (by rw [cI_2]) a3
      · exact (m5.RanC.trans a2.RanC).trans ⟨fun k h1 h2 => by rw [cI_1, if_neg (by omega)], fun k _ _ => by rw [cI_2], by rw [cI_2]⟩
    · rw [if_neg (by rw [g1]; decide)]
      exact ⟨σ, rfl, hB, g1, g2, g4, RanC.refl σ⟩
  · refine Or.inr ⟨hW, v1, ?_⟩
    rw [w1]
    rfl
theorem spans_ok {N : Nat} (hN : 5000 ≤ N) {q : Qd} {c : Nat} {σ : CSt} {τ : MSt} (hB : Base q c σ τ) (hS : SpanI q σ) : stepS q σ τ (fC_spans N σ) (fM_spans N τ) := by
  unfold fC_spans fM_spans
  rcases tell_ok hN hB hS with ⟨hW, v1, σ1, t1, B1, s8, s7, sp, rc⟩ | ⟨hW, v1, t1⟩
  · obtain ⟨E, hE, h120, hR, hbd, hbl, hlp⟩ := sp
    obtain ⟨τ1, a1, a2, a3, a4⟩ := span_ok hN hB.1 hW hE h120 hB.2.2.1
    rw [t1, v1, bs, bs, a1, bs]
    refine ⟨nI E.length, σ1, τ1, c, ?_, ?_, Base_FrS a2 B1, Or.inr ⟨s8, s7, hW, E, hE, h120, hR, hbd, hbl, hlp⟩, rc, RanM_FrS a2⟩
    · show (if (1 : Int32) = 0 then _ else some (σ1.1 500, σ1)) = _
      rw [if_neg n10, hR.1]
    · rw [if_neg n10, a4.1]
  · rw [t1, v1]
    exact ⟨_, σ, τ, c, rfl, rfl, hB, hS, RanC.refl σ, RanM.refl τ⟩
theorem Bd_ex {E : List Ent} {i : Nat} (hi : i < E.length) : ∃ u v, Bd E i u v := by
  by_cases c : i = 0
  · exact ⟨0, 1, Or.inl ⟨c, rfl, rfl⟩⟩
  · exact ⟨_, _, Or.inr ⟨by omega, E[i - 1], E[i], List.getElem?_eq_getElem (by omega), List.getElem?_eq_getElem hi, rfl, rfl⟩⟩
theorem borderAbove_C {N : Nat} {q : Qd} {σ : CSt} {E : List Ent} (hR : Rw q σ E) (h120 : E.length ≤ 120) {i : Nat} (hi : i ≤ E.length) : fS_borderAbove N σ (nI i) = some (σ.2.2.2.1 503 i) ∧ fS_borderBelow N σ (nI i) = some (σ.2.2.2.1 504 i) := by
  unfold fS_borderAbove fS_borderBelow
  rw [hR.1]
  simp only [if_neg (nI_pos (show i < 2 ^ 31 by omega)), if_neg (nI_nlt hi (show E.length < 2 ^ 31 by omega)), if_pos (show nI i ≤ (120 : Int32) from nI_le (b := 120) (by omega) (by omega)), chk_nI (show i < 121 by omega) (show 121 < 2 ^ 31 by omega), nI_cl (show i < 2 ^ 31 by omega)]
  exact ⟨trivial, trivial⟩
theorem border_ok {N : Nat} (hN : 5000 ≤ N) {q : Qd} {c : Nat} {σ : CSt} {τ : MSt} (hB : Base q c σ τ) (hS : SpanI q σ) (x y : Int32) : stepS q σ τ (fC_border N σ x y) (fM_border N τ x y) := by
  unfold fC_border fM_border
  rcases tell_ok hN hB hS with ⟨hW, v1, σ1, t1, B1, s8, s7, sp, rc⟩ | ⟨hW, v1, t1⟩
  · have hsp := sp
    obtain ⟨E, hE, h120, hR, hbd, hbl, hlp⟩ := sp
    obtain ⟨τ1, a1, a2, a3, a4⟩ := span_ok hN hB.1 hW hE h120 hB.2.2.1
    rw [t1, v1, bs, bs, a1, bs]
    have S1 : SpanI q σ1 := Or.inr ⟨s8, s7, hW, hsp⟩
    have go : ∀ r : Int64, stepS q σ τ (some (r, σ1)) (some (r, τ1)) := fun r => ⟨r, σ1, τ1, c, rfl, rfl, Base_FrS a2 B1, S1, rc, RanM_FrS a2⟩
    have go0 : ∀ r : Int64, stepS q σ τ (some (r, σ1)) (some (r, τ)) := fun r => ⟨r, σ1, τ, c, rfl, rfl, B1, S1, rc, RanM.refl τ⟩
    rw [if_neg n10, if_neg (show ¬ ((1 : Int32), σ1).1 = 0 from n10), hR.1, a4.1]
    by_cases x0 : x < 0
    · rw [if_pos x0, if_pos x0]
      by_cases y0 : y < 0
      · rw [if_pos y0]; exact go0 _
      · rw [if_neg y0]
        by_cases y3 : y ≤ 3
        · rw [if_pos y3]; exact go _
        · rw [if_neg y3]; exact go0 _
    · obtain ⟨i, hi31, rfl⟩ := nI_of x0
      rw [if_neg x0, if_neg x0]
      by_cases hi : i < E.length
      · rw [if_pos (nI_lt hi (by omega)), if_pos (nI_lt hi (by omega))]
        obtain ⟨u, v, hb⟩ := Bd_ex hi
        have he : E[i]? = some E[i] := List.getElem?_eq_getElem hi
        have hc := hbd i u v hi hb
        have hm := (a4.2 i _ hi he).2 u v hb
        obtain ⟨ba, bb⟩ := borderAbove_C (N := N) hR h120 (show i ≤ E.length by omega)
        obtain ⟨ba1, bb1⟩ := borderAbove_C (N := N) hR h120 (show i + 1 ≤ E.length by omega)
        rw [nI_1, ba, bb, ba1, bb1, bs, bs, bs, bs, hc.1, hc.2]
        simp only [chk_nI (show i < 5000 by omega) (show 5000 < 2 ^ 31 by omega), chk_nI (show i + 1 < 5000 by omega) (show 5000 < 2 ^ 31 by omega), nI_cl (show i < 2 ^ 31 by omega), nI_cl (show i + 1 < 2 ^ 31 by omega), hm.1, hm.2]
        by_cases y0 : y = 0
        · rw [if_pos y0, if_neg (by rw [y0]; decide), if_pos (by rw [y0]; decide), if_neg (by rw [y0]; decide), if_pos y0]
          exact go _
        · rw [if_neg y0]
          by_cases y1 : y = 1
          · rw [if_pos y1, if_neg (by rw [y1]; decide), if_pos (by rw [y1]; decide), if_neg (by rw [y1]; decide), if_neg y0]
            exact go _
          · rw [if_neg y1]
            have nx : ∀ w, w = 2 ∨ w = 3 → (σ1.2.2.2.1 503 (i + 1) = (if nI (i + 1) = nI E.length then 4 else τ1.2.2.2 24 (i + 1))) ∧ (σ1.2.2.2.1 504 (i + 1) = (if nI (i + 1) = nI E.length then 1 else τ1.2.2.2 25 (i + 1))) := by
              intro w _
              by_cases ce : i + 1 = E.length
              · rw [if_pos (by rw [ce]), if_pos (by rw [ce]), ce, hbl.1, hbl.2]
                exact ⟨rfl, rfl⟩
              · obtain ⟨u', v', hb'⟩ := Bd_ex (E := E) (i := i + 1) (by omega)
                have he' : E[i + 1]? = some E[i + 1] := List.getElem?_eq_getElem (by omega)
                have hc' := hbd (i + 1) u' v' (by omega) hb'
                have hm' := (a4.2 (i + 1) _ (by omega) he').2 u' v' hb'
                rw [if_neg (fun h => ce ((nI_eq (by omega) (by omega)).mp h)), if_neg (fun h => ce ((nI_eq (by omega) (by omega)).mp h)), hc'.1, hc'.2, hm'.1, hm'.2]
                exact ⟨rfl, rfl⟩
            by_cases y2 : y = 2
            · obtain ⟨n1, n2⟩ := nx 2 (Or.inl rfl)
              rw [if_pos y2, if_neg (by rw [y2]; decide), if_pos (by rw [y2]; decide), if_pos (by rw [y2]; decide), if_pos y2, if_pos y2, n1]
              by_cases ce : nI (i + 1) = nI E.length
              · rw [if_pos ce, if_pos ce]; exact go _
              · rw [if_neg ce, if_neg ce]
                exact go _
            · rw [if_neg y2]
              by_cases y3 : y = 3
              · obtain ⟨n1, n2⟩ := nx 3 (Or.inr rfl)
                rw [if_pos y3, if_neg (by rw [y3]; decide), if_pos (by rw [y3]; decide), if_pos (by rw [y3]; decide), if_neg y2, if_neg y2, n2]
                by_cases ce : nI (i + 1) = nI E.length
                · rw [if_pos ce, if_pos ce]; exact go _
                · rw [if_neg ce, if_neg ce]
                  exact go _
              · rw [if_neg y3]
                by_cases g : y < 0
                · rw [if_pos g]; exact go0 _
                · rw [if_neg g]
                  have : ¬ y ≤ 3 := by
                    obtain ⟨j, hj, rfl⟩ := nI_of g
                    intro h
                    have h : j ≤ 3 := (nI_leI (b := 3) hj (by omega)).mp h
                    have z0 : j ≠ 0 := fun h => y0 (by rw [h]; rfl)
                    have z1 : j ≠ 1 := fun h => y1 (by rw [h]; rfl)
                    have z2 : j ≠ 2 := fun h => y2 (by rw [h]; rfl)
                    have z3 : j ≠ 3 := fun h => y3 (by rw [h]; rfl)
                    omega
                  rw [if_neg this]
                  exact go0 _
      · rw [if_neg (nI_nlt (by omega) hi31), if_neg (nI_nlt (by omega) hi31)]
        by_cases y0 : y < 0
        · rw [if_pos y0]; exact go0 _
        · rw [if_neg y0]
          by_cases y3 : y ≤ 3
          · rw [if_pos y3]; exact go _
          · rw [if_neg y3]; exact go0 _
  · rw [t1, v1]
    exact ⟨_, σ, τ, c, rfl, rfl, hB, hS, RanC.refl σ, RanM.refl τ⟩
theorem keen_ok {N : Nat} (hN : 5000 ≤ N) {q : Qd} {c : Nat} {σ : CSt} {τ : MSt} (hB : Base q c σ τ) (hS : SpanI q σ) (x : Int32) : stepS q σ τ (fC_keen N σ x) (fM_keen N τ x) := by
  have hT := hB.1.1
  have h16 : 2 ^ qT q ≤ 16 := Nat.pow_le_pow_right (n := 2) (by omega) hT
  have hc := hB.2.2.2.1
  unfold fC_keen fM_keen
  have le0 : ∀ y : Int32, (0 ≤ y) = ¬ (y < 0) := fun y => by rw [eq_iff_iff, Int32.not_lt]
  rcases tell_ok hN hB hS with ⟨hW, v1, σ1, t1, B1, s8, s7, sp, rc⟩ | ⟨hW, v1, t1⟩
  · have hsp := sp
    obtain ⟨E, hE, h120, hR, hbd, hbl, hlp⟩ := sp
    obtain ⟨τ1, a1, a2, a3, a4⟩ := span_ok hN hB.1 hW hE h120 hB.2.2.1
    have h2 : 2 ^ 1 ≤ 2 ^ qT q := Nat.pow_le_pow_right (n := 2) (by omega) hW.1
    have S1 : SpanI q σ1 := Or.inr ⟨s8, s7, hW, hsp⟩
    have B2 := Base_FrS a2 B1
    have M1 := MQd_FrS a2 hB.2.2.1
    rw [t1, v1, bs, bs, if_neg n10, a1, bs]
    by_cases x0 : x < 0
    · rw [if_neg (by rw [le0]; exact fun h => h x0), if_pos x0]
      exact ⟨_, σ, τ1, c, rfl, rfl, Base_FrS a2 hB, hS, RanC.refl σ, RanM_FrS a2⟩
    · rw [if_pos (by rw [le0]; exact x0), if_neg x0]
      obtain ⟨i, hi31, rfl⟩ := nI_of x0
      rw [if_neg (show ¬ ((1 : Int32), σ1).1 = 0 from n10), hR.1, a4.1, B1.2.2.2.2.1]
      by_cases hi : i < E.length
      · have he : E[i]? = some E[i] := List.getElem?_eq_getElem hi
        generalize E[i] = e at he
        obtain ⟨⟨xx, hx, h23, hAt⟩, -⟩ := a4.2 i e hi he
        have heF := hE.2.1 e (List.mem_of_getElem? he)
        rw [if_pos (nI_lt hi (by omega)), if_pos (nI_lt hi (by omega)), chk_nI (by omega) (by omega), nI_cl (by omega), h23, chk_nI hx (by omega), all_M hB.1 M1, bs, nI_cl (by omega), hAt.1]
        by_cases g : c < 60
        · rw [if_pos (show nI c < (60 : Int32) from nI_lt (b := 60) g (by omega))]
          show stepS q σ τ ((fS_planOf N σ1 (nI i)).bind fun r_47 => (fC_keep N σ1 r_47).bind _) _
          rw [planOf_ok hR h120 he, bs, keep_C g B1.2.2.2.2.1, bs, kept_M g B2.2.2.2.2.2.1, bs]
          have hk := Base_keep B2 g hW s7 (show 0 < 2 ^ qT q - 1 by omega) (by omega) heF
          exact ⟨nI c, _, _, c + 1, rfl, rfl, hk, SpanI_FK (kC_FK _ _ _) S1, rc.trans (kC_FK _ _ _).RanC, (RanM_FrS a2).trans (kM_Ran _ _ _ _)⟩
        · have e60 : c = 60 := by omega
          subst e60
          rw [if_neg (by decide), kept_full B2.2.2.2.2.2.1]
          exact ⟨_, σ1, τ1, 60, rfl, rfl, B2, S1, rc, RanM_FrS a2⟩
      · rw [if_neg (nI_nlt (by omega) hi31), if_neg (nI_nlt (by omega) hi31)]
        exact ⟨_, σ1, τ1, c, rfl, rfl, B2, S1, rc, RanM_FrS a2⟩
  · rw [t1, v1, bs, bs, if_pos rfl]
    by_cases x0 : 0 ≤ x
    · rw [if_pos x0, if_pos x0]
      exact ⟨_, σ, τ, c, rfl, rfl, hB, hS, RanC.refl σ, RanM.refl τ⟩
    · rw [if_neg x0, if_neg x0]
      exact ⟨_, σ, τ, c, rfl, rfl, hB, hS, RanC.refl σ, RanM.refl τ⟩
