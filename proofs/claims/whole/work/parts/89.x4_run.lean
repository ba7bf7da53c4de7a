/-! run: the class's join of the two topmost -/
theorem lbf_first {q : Qd} (l r : Nat) : ∀ k p, (lbf q l r k p = -1 ∧ ∀ p', p ≤ p' → p' < p + k → ¬ btw q p' l r) ∨ ∃ p', p ≤ p' ∧ p' < p + k ∧ lbf q l r k p = nI p' ∧ btw q p' l r ∧ ∀ s, p ≤ s → s < p' → ¬ btw q s l r := by
  intro k
  induction k with
  | zero => intro p; exact Or.inl ⟨rfl, fun p' h1 h2 => by omega⟩
  | succ k ih =>
    intro p
    show ((if btw q p l r then nI p else lbf q l r k (p + 1)) = -1 ∧ _) ∨ ∃ p', _ ∧ _ ∧ (if btw q p l r then nI p else lbf q l r k (p + 1)) = nI p' ∧ _
    by_cases c : btw q p l r
    · rw [if_pos c]
      exact Or.inr ⟨p, by omega, by omega, rfl, c, fun s h1 h2 => by omega⟩
    · rw [if_neg c]
      rcases ih (p + 1) with ⟨h1, h2⟩ | ⟨p', h1, h2, h3, h4, h5⟩
      · refine Or.inl ⟨h1, fun p' g1 g2 => ?_⟩
        by_cases g : p' = p
        · rw [g]; exact c
        · exact h2 p' (by omega) (by omega)
      · refine Or.inr ⟨p', by omega, by omega, h3, h4, fun s g1 g2 => ?_⟩
        by_cases g : s = p
        · rw [g]; exact c
        · exact h5 s (by omega) g2
theorem lb_first {q : Qd} {l r : Nat} (h : lb q l r ≠ -1) : ∃ p, p < qP q ∧ lb q l r = nI p ∧ btw q p l r ∧ ∀ s, s < p → ¬ btw q s l r := by
  rcases lbf_first (q := q) l r (qP q) 0 with ⟨h1, -⟩ | ⟨p, -, h2, h3, h4, h5⟩
  · exact absurd h1 h
  · exact ⟨p, by omega, h3, h4, fun s hs => h5 s (by omega) hs⟩
theorem bL_first {q : Qd} (hq : WfQ q) {l r p : Nat} (hp : p < qP q) (hb : btw q p l r) (hf : ∀ s, s < p → ¬ btw q s l r) : (bL q l r 4)[0]? = some p := by
  have hP := hq.2.1
  have h0 : ∀ k, k ≤ p → bL q l r k = [] := by
    intro k
    induction k with
    | zero => intro _; rfl
    | succ k ih =>
      intro hk
      rw [bL_succ, ih (by omega), if_neg (fun h => hf k (by omega) h.2)]
      rfl
  have h1 : ∀ m, ∃ X, bL q l r (p + 1 + m) = p :: X := by
    intro m
    induction m with
    | zero => exact ⟨[], by rw [Nat.add_zero, bL_succ, h0 p (Nat.le_refl _), if_pos ⟨hp, hb⟩]; rfl⟩
    | succ m ih =>
      obtain ⟨X, hX⟩ := ih
      exact ⟨X ++ (if p + 1 + m < qP q ∧ btw q (p + 1 + m) l r then [p + 1 + m] else []), by rw [show p + 1 + (m + 1) = p + 1 + m + 1 by omega, bL_succ, hX]; rfl⟩
  obtain ⟨X, hX⟩ := h1 (4 - (p + 1))
  rw [show p + 1 + (4 - (p + 1)) = 4 by omega] at hX
  rw [hX]
  rfl
/-- the table and the column of a pairing on the left -/
def tL (q : Qd) (p l : Nat) : Nat := if l / 2 ^ qt q p % 2 = 0 then qu q p else qt q p
def cL (q : Qd) (p l : Nat) : Nat := if l / 2 ^ qt q p % 2 = 0 then qo q p else qc q p
theorem tableOn_C {N : Nat} {q : Qd} (hq : WfQ q) {σ : CSt} (hC : CQd q σ) {p l : Nat} (hp : p < qP q) (hl : l < 16) : fQ_tableOn N σ (nI p) (nI l) = some (nI (tL q p l)) ∧ fQ_columnOn N σ (nI p) (nI l) = some (nI (cL q p l)) := by
  have hT := hq.1
  have hP := hq.2.1
  obtain ⟨b1, b2, b3, b4, -⟩ := hq.2.2.2.2.1 p hp
  obtain ⟨c1, c2, c3, c4, -⟩ := hC.2.2.2.2.2.2.1 p hp
  have m1 : l / 2 ^ qt q p % 2 < 2 := Nat.mod_lt _ (by omega)
  unfold fQ_tableOn fQ_columnOn tL cL
  simp only [isPairing_t hq hC hp, bs, if_neg n10, chk_nI (show p < 4 by omega) (show 4 < 2 ^ 31 by omega), nI_cl (show p < 2 ^ 31 by omega), c1, c2, c3, c4, b_bit l hl (qt q p) (by omega), nI_eq0 (show l / 2 ^ qt q p % 2 < 2 ^ 31 by omega)]
  by_cases c : l / 2 ^ qt q p % 2 = 0
  · simp only [if_pos c]; exact ⟨trivial, trivial⟩
  · simp only [if_neg c]; exact ⟨trivial, trivial⟩
theorem tL_ok {q : Qd} (hq : WfQ q) {p l r : Nat} (hp : p < qP q) (hl : l < 16) (hr : r < 16) (h0 : l &&& r = 0) (hb : btw q p l r) : tL q p l < qT q ∧ cL q p l < 3 ∧ l / 2 ^ tL q p l % 2 = 1 := by
  have hT := hq.1
  obtain ⟨b1, b2, b3, b4, -⟩ := hq.2.2.2.2.1 p hp
  have d1 := b_disj hl hr h0 (qt q p) (by omega)
  unfold tL cL
  rcases btw_bits hq hp hl hr h0 hb with ⟨g1, g2⟩ | ⟨g1, g2⟩
  · rw [if_neg (by omega), if_neg (by omega)]
    exact ⟨by omega, b3, g1⟩
  · have : l / 2 ^ qt q p % 2 = 0 := by omega
    rw [if_pos this, if_pos this]
    exact ⟨by omega, b4, g2⟩
/-- a joined one's key is its left part's -/
theorem key_left {q : Qd} (hq : WfQ q) {p l r x y : Nat} (hp : p < qP q) (hl : l < 16) (hr : r < 16) (h0 : l &&& r = 0) (hb : btw q p l r) (hx : Vc q l x) (hy : Vc q r y) (hh : hbB q l r (x ||| y) = true) : kv q (qt q p) (qc q p) (x ||| y) = kv q (tL q p l) (cL q p l) x := by
  have hT := hq.1
  obtain ⟨b1, b2, b3, b4, -⟩ := hq.2.2.2.2.1 p hp
  have hpz := hbB_iff.mp hh p hp hb
  have d1 := b_disj hl hr h0 (qt q p) (by omega)
  unfold kv tL cL
  rcases btw_bits hq hp hl hr h0 hb with ⟨g1, g2⟩ | ⟨g1, g2⟩
  · rw [if_neg (by omega), if_neg (by omega), ((dig_z hl hr h0 hx hy (show qt q p < 4 by omega)).1 g1).1]
  · have : l / 2 ^ qt q p % 2 = 0 := by omega
    rw [if_pos this, if_pos this, ← ((dig_z hl hr h0 hx hy (show qu q p < 4 by omega)).1 g2).1]
    have hpz : qv q (qt q p) ((x ||| y) / 8 ^ qt q p % 8) (qc q p) = qv q (qu q p) ((x ||| y) / 8 ^ qu q p % 8) (qo q p) := hpz
    rw [hpz]
def js (k a b : Nat) : Nat := if k = 0 then a * b else (if k = 1 then 2 else 3) * (a + b)
theorem joinSteps_C {N : Nat} {k a b : Nat} (hk : k < 3) : fR_joinSteps N (nI k) (nI a) (nI b) = some (nI (js k a b)) := by
  unfold fR_joinSteps js
  have i1 : (nI k = (1 : Int32)) ↔ k = 1 := nI_eq (b := 1) (by omega) (by omega)
  simp only [nI_eq0 (show k < 2 ^ 31 by omega), i1, show (2 : Int32) = nI 2 from rfl, show (3 : Int32) = nI 3 from rfl, nI_mul, nI_add]
  by_cases c : k = 0
  · rw [if_pos c, if_pos c]
  · rw [if_neg c, if_neg c]
    by_cases c1 : k = 1
    · rw [if_pos c1, if_pos c1]
    · rw [if_neg c1, if_neg c1]
theorem joinTop_C {N : Nat} (hN : 5000 ≤ N) {q : Qd} (hq : WfQ q) {l r k p n2 n3 : Nat} {L R : List Nat} {SL : Stk} {σ : CSt} (hk : k < 3) (hl : l < 16) (hr : r < 16) (h0 : l &&& r = 0) (hp : p < qP q) (hb : btw q p l r) (hf : ∀ s, s < p → ¬ btw q s l r) (hd : SL.length + 2 ≤ 4) (hL : ∀ x, x ∈ L → Vc q l x) (hR : ∀ y, y ∈ R → Vc q r y) (hRl : R.length ≤ 4096) (hLl : L.length ≤ 4096) (ha : tt SL + R.length + L.length ≤ n2) (hn2 : n2 < 2 ^ 31) (hn3 : n3 < 2 ^ 31) (hL3 : L.length ≤ n3) (hLR : L.length * R.length ≤ n3) (hroom : tt SL + L.length * R.length ≤ n2) (hC : CQd q σ) (h410 : σ.1 410 = nI (SL.length + 2)) (hS : CS ((l, L) :: (r, R) :: SL) σ) (h402 : σ.2.2.2.2.2 402 = n2) (h403 : σ.2.2.2.2.2 403 = n3) : ∃ σ' L', fR_joinTopTwo N σ (nI k) = some σ' ∧ GR σ σ' ∧ CS ((l ||| r, JJ q l r L' R) :: SL) σ' ∧ σ'.1 410 = nI (SL.length + 1) ∧ σ'.1 400 = σ.1 400 + nI (js k L.length R.length) ∧ L'.length = L.length ∧ (∀ x, x ∈ L' → x ∈ L) ∧ ((k = 2 ∧ stS (kv q (tL q p l) (cL q p l)) L L') ∨ (k ≠ 2 ∧ L' = L)) := by
  have hP := hq.2.1
  unfold fR_joinTopTwo
  have p1 : nI (SL.length + 2) - (1 : Int32) = nI (SL.length + 1) := nI_pred (SL.length + 1)
  have p2 : nI (SL.length + 2) - (2 : Int32) = nI SL.length := nI_sub (b := 2) (by omega)
  have s1 : σ.2.2.1 405 (SL.length + 1) = nI l := hS.2.1
  have s2 : σ.2.2.1 405 SL.length = nI r := hS.1.2.1
  rw [h410, if_neg (show ¬ nI (SL.length + 2) < (2 : Int32) from nI_nlt (b := 2) (by omega) (by omega)), if_pos (show nI (SL.length + 2) ≤ (4 : Int32) from nI_le (b := 4) (by omega) (by omega)), p1, p2, chk_nI (by omega) (by omega), chk_nI (by omega) (by omega), nI_cl (by omega), nI_cl (by omega), s1, s2]
  unfold fR_findBetween
  have f0 : GR σ (cI σ 409 0) := ⟨fun k h1 h2 h3 => by rw [cI_1, if_neg h2], fun _ _ => rfl, rfl⟩
  obtain ⟨σ1, a1, a2, a3, a4⟩ := findBetween_C (N := N) hq hl hr h0 N 4 0 (cI σ 409 0) (by omega) (by omega) (CQd_GR f0 hC) rfl (Seg_nil _ _)
  rw [nI_0] at a1
  rw [a1, bs]
  have f1 : GR σ σ1 := f0.trans ⟨fun k h1 h2 h3 => a2.1 k h2, fun k hk => a2.2.2.1 k (by omega), a2.2.2.2⟩
  have e410 : σ1.1 410 = nI (SL.length + 2) := by rw [a2.1 410 (by omega), cI_1, if_neg (by omega)]; exact h410
  have e400 : σ1.1 400 = σ.1 400 := by rw [a2.1 400 (by omega), cI_1, if_neg (by omega)]
  have S1 : CS ((l, L) :: (r, R) :: SL) σ1 := CS_eq (σ := σ) (fun j _ => by rw [a2.2.2.1 404 (by omega)]; rfl) (fun j _ => by rw [a2.2.2.1 405 (by omega)]; rfl) (fun j _ => by rw [a2.2.2.1 402 (by omega)]; rfl) hS
  have C1 := CQd_GR f1 hC
  have t0 : σ1.2.2.1 404 SL.length = nI (tt SL) := CS_top S1.1.1
  have t1 : σ1.2.2.1 404 (SL.length + 1) = nI (tt SL + R.length) := S1.1.2.2.1
  have t2 : σ1.2.2.1 404 (SL.length + 2) = nI (tt SL + R.length + L.length) := S1.2.2.1
  have l2 : σ1.2.2.2.2.2 402 = n2 := by rw [f1.2.2]; exact h402
  have l3 : σ1.2.2.2.2.2 403 = n3 := by rw [f1.2.2]; exact h403
  simp only [e410, p1, p2, chk_nI (show SL.length < 5 by omega) (show 5 < 2 ^ 31 by omega), chk_nI (show SL.length + 1 < 5 by omega) (show 5 < 2 ^ 31 by omega), chk_nI (show SL.length + 2 < 5 by omega) (show 5 < 2 ^ 31 by omega), nI_cl (show SL.length < 2 ^ 31 by omega), nI_cl (show SL.length + 1 < 2 ^ 31 by omega), nI_cl (show SL.length + 2 < 2 ^ 31 by omega), t0, t1, t2]
  have d1 : nI (tt SL + R.length + L.length) - nI (tt SL + R.length) = nI L.length := by rw [nI_sub (by omega), Nat.add_sub_cancel_left]
  have d2 : nI (tt SL + R.length) - nI (tt SL) = nI R.length := by rw [nI_sub (by omega), Nat.add_sub_cancel_left]
  rw [d1, d2, joinSteps_C hk, bs, e400]
  have g2 : GR σ1 (cI σ1 400 (σ.1 400 + nI (js k L.length R.length))) := ⟨fun k h1 h2 h3 => by rw [cI_1, if_neg h1], fun _ _ => rfl, rfl⟩
  have S2 : CS ((l, L) :: (r, R) :: SL) (cI σ1 400 (σ.1 400 + nI (js k L.length R.length))) := CS_eq (σ := σ1) (fun _ _ => rfl) (fun _ _ => rfl) (fun _ _ => rfl) S1
  have C2 := CQd_GR g2 C1
  have i400 : (cI σ1 400 (σ.1 400 + nI (js k L.length R.length))).1 400 = σ.1 400 + nI (js k L.length R.length) := by rw [cI_1, if_pos rfl]
  have i410 : (cI σ1 400 (σ.1 400 + nI (js k L.length R.length))).1 410 = nI (SL.length + 2) := by rw [cI_1, if_neg (by omega)]; exact e410
  have i9 : (cI σ1 400 (σ.1 400 + nI (js k L.length R.length))).1 409 = nI (bL q l r 4).length := by rw [cI_1, if_neg (by omega)]; exact a3
  have i8 : Seg ((cI σ1 400 (σ.1 400 + nI (js k L.length R.length))).2.2.1 408) 0 (bL q l r 4) := a4
  have j2 : (cI σ1 400 (σ.1 400 + nI (js k L.length R.length))).2.2.2.2.2 402 = n2 := l2
  have j3 : (cI σ1 400 (σ.1 400 + nI (js k L.length R.length))).2.2.2.2.2 403 = n3 := l3
  generalize cI σ1 400 (σ.1 400 + nI (js k L.length R.length)) = σ2 at g2 S2 C2 i400 i410 i9 i8 j2 j3
  have k2 : (nI k = (2 : Int32)) ↔ k = 2 := nI_eq (b := 2) (by omega) (by omega)
  by_cases c : k = 2
  · have e0 := i8 0 p (bL_first hq hp hb hf)
    rw [if_pos (k2.mpr c), chk_in (show vp_in (0 : Int32) 4 by unfold vp_in; decide), show (0 : Int32).toNatClampNeg = 0 from rfl, show σ2.2.2.1 408 0 = nI p from e0, (tableOn_C hq C2 hp hl).1, bs, (tableOn_C hq C2 hp hl).2, bs]
    obtain ⟨w1, w2, w3⟩ := tL_ok hq hp hl hr h0 hb
    obtain ⟨σ3, L', b1, b2, b3, b4, b5, b6⟩ := sort_C (N := N) hN hq C2 (a := tt SL + R.length) (n2 := n2) (n3 := n3) (L := L) w1 w2 hLl (by omega) hn2 hL3 hn3 j2 j3 S2.2.2.2 (fun v hv => ⟨(hL v hv).1, ((hL v hv).2 _ (by have := hq.1; omega)).2 w3⟩)
    rw [b1, bs]
    have S3 : CS ((l, L') :: (r, R) :: SL) σ3 := by
      refine ⟨CS_eq (σ := σ2) (fun j _ => by rw [b6.2.1 404 (by omega) (by omega) (by omega) (by omega)]) (fun j _ => by rw [b6.2.1 405 (by omega) (by omega) (by omega) (by omega)]) (fun j hj => b5 j (Or.inl hj)) S2.1, ?_, ?_, ?_⟩
      · rw [b6.2.1 405 (by omega) (by omega) (by omega) (by omega)]; exact S2.2.1
      · rw [b6.2.1 404 (by omega) (by omega) (by omega) (by omega)]
        have := S2.2.2.1
        rw [this]
        show nI (tt ((r, R) :: SL) + L.length) = nI (tt ((r, R) :: SL) + L'.length)
        rw [b3]
      · exact b4
    have hm : ∀ x, x ∈ L' → x ∈ L := fun x hx => (stS_mem b2 x).mp hx
    obtain ⟨σ4, c1, c2, c3, c4, c5⟩ := join148 (N := N) hN hq (L := L') hl hr h0 hd (fun x hx => hL x (hm x hx)) hR hRl (by omega) (by rw [b3]; exact ha) hn2 hn3 (by rw [b3]; exact hLR) (by rw [b3]; exact hroom) (CQd_GR b6.GR C2) (by rw [b6.1]; exact i410) S3 (by rw [b6.2.2]; exact j2) (by rw [b6.2.2]; exact j3) (by rw [b6.1]; exact i9) (by rw [b6.2.1 408 (by omega) (by omega) (by omega) (by omega)]; exact i8)
    exact ⟨σ4, L', c1, ((f1.trans g2).trans b6.GR).trans c2, c3, c4, by rw [c5, b6.1]; exact i400, b3, hm, Or.inl ⟨c, b2⟩⟩
  · rw [if_neg (fun h => c (k2.mp h))]
    obtain ⟨σ4, c1, c2, c3, c4, c5⟩ := join148 (N := N) hN hq (L := L) hl hr h0 hd hL hR hRl hLl ha hn2 hn3 hLR hroom C2 i410 S2 j2 j3 i9 i8
    exact ⟨σ4, L, c1, (f1.trans g2).trans c2, c3, c4, by rw [c5]; exact i400, rfl, fun x hx => hx, Or.inr ⟨c, rfl⟩⟩
