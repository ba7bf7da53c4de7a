/-! run: what holds between two parts -/
theorem dig_or (x y k : Nat) : (x ||| y) / 8 ^ k % 8 = x / 8 ^ k % 8 ||| y / 8 ^ k % 8 := by
  have e : (8 : Nat) ^ k = 2 ^ (3 * k) := by rw [Nat.pow_mul]
  rw [e, show (8 : Nat) = 2 ^ 3 from rfl, Nat.or_div_two_pow, Nat.or_mod_two_pow]
theorem bit_or (l r k : Nat) : (l ||| r) / 2 ^ k % 2 = l / 2 ^ k % 2 ||| r / 2 ^ k % 2 := by
  have := Nat.or_mod_two_pow (a := l / 2 ^ k) (b := r / 2 ^ k) (n := 1)
  rw [Nat.or_div_two_pow]
  simpa using this
/-- the digits of a combination joined of two -/
theorem dig_z {q : Qd} {l r x y : Nat} (hl : l < 16) (hr : r < 16) (h0 : l &&& r = 0) (hx : Vc q l x) (hy : Vc q r y) {k : Nat} (hk : k < 4) : (l / 2 ^ k % 2 = 1 → (x ||| y) / 8 ^ k % 8 = x / 8 ^ k % 8 ∧ r / 2 ^ k % 2 = 0) ∧ (r / 2 ^ k % 2 = 1 → (x ||| y) / 8 ^ k % 8 = y / 8 ^ k % 8 ∧ l / 2 ^ k % 2 = 0) ∧ (l / 2 ^ k % 2 = 0 → r / 2 ^ k % 2 = 0 → (x ||| y) / 8 ^ k % 8 = 0) := by
  have hd := b_disj hl hr h0 k hk
  have vx := hx.2 k hk
  have vy := hy.2 k hk
  rw [dig_or]
  have m1 : l / 2 ^ k % 2 < 2 := Nat.mod_lt _ (by omega)
  have m2 : r / 2 ^ k % 2 < 2 := Nat.mod_lt _ (by omega)
  refine ⟨fun h => ?_, fun h => ?_, fun h1 h2 => ?_⟩
  · have : r / 2 ^ k % 2 = 0 := by omega
    rw [vy.1 this, Nat.or_zero]
    exact ⟨rfl, this⟩
  · have : l / 2 ^ k % 2 = 0 := by omega
    rw [vx.1 this, Nat.zero_or]
    exact ⟨rfl, this⟩
  · rw [vx.1 h1, vy.1 h2]
    rfl
theorem Vc_or {q : Qd} {l r x y : Nat} (hl : l < 16) (hr : r < 16) (h0 : l &&& r = 0) (hx : Vc q l x) (hy : Vc q r y) : Vc q (l ||| r) (x ||| y) := by
  constructor
  · have := Nat.or_lt_two_pow (n := 12) (show x < 2 ^ 12 from hx.1) (show y < 2 ^ 12 from hy.1)
    exact this
  · intro k hk
    obtain ⟨d1, d2, d3⟩ := dig_z hl hr h0 hx hy hk
    have m1 : l / 2 ^ k % 2 < 2 := Nat.mod_lt _ (by omega)
    have m2 : r / 2 ^ k % 2 < 2 := Nat.mod_lt _ (by omega)
    rw [bit_or]
    by_cases c1 : l / 2 ^ k % 2 = 1
    · obtain ⟨e1, e2⟩ := d1 c1
      rw [e1, e2, c1]
      exact ⟨fun h => absurd h (by decide), fun _ => (hx.2 k hk).2 c1⟩
    · have c1 : l / 2 ^ k % 2 = 0 := by omega
      by_cases c2 : r / 2 ^ k % 2 = 1
      · obtain ⟨e1, e2⟩ := d2 c2
        rw [e1, c1, c2]
        exact ⟨fun h => absurd h (by decide), fun _ => (hy.2 k hk).2 c2⟩
      · have c2 : r / 2 ^ k % 2 = 0 := by omega
        rw [d3 c1 c2, c1, c2]
        exact ⟨fun _ => rfl, fun h => absurd h (by decide)⟩
theorem dg4_or {q : Qd} {l r x y : Nat} (hl : l < 16) (hr : r < 16) (h0 : l &&& r = 0) (hx : Vc q l x) (hy : Vc q r y) {k : Nat} (hk : k < 4) : dg4 (l ||| r) (x ||| y) k = if l / 2 ^ k % 2 = 1 then dg4 l x k else dg4 r y k := by
  obtain ⟨d1, d2, d3⟩ := dig_z hl hr h0 hx hy hk
  have m1 : l / 2 ^ k % 2 < 2 := Nat.mod_lt _ (by omega)
  have m2 : r / 2 ^ k % 2 < 2 := Nat.mod_lt _ (by omega)
  unfold dg4
  rw [bit_or]
  by_cases c1 : l / 2 ^ k % 2 = 1
  · obtain ⟨e1, e2⟩ := d1 c1
    rw [e1, e2, c1, if_pos rfl, if_neg (by decide), if_neg (by decide)]
  · have c1' : l / 2 ^ k % 2 = 0 := by omega
    by_cases c2 : r / 2 ^ k % 2 = 1
    · obtain ⟨e1, e2⟩ := d2 c2
      rw [e1, c1', c2, if_neg (by decide), if_neg (by decide), if_neg (by decide)]
    · have c2 : r / 2 ^ k % 2 = 0 := by omega
      rw [c1', c2, if_pos (by decide), if_neg (by decide), if_pos rfl]
theorem dg4_neg {q : Qd} {l x k : Nat} (hx : Vc q l x) (hk : k < 4) : dg4 l x k < 0 ↔ ¬ l / 2 ^ k % 2 = 1 := by
  have m1 : l / 2 ^ k % 2 < 2 := Nat.mod_lt _ (by omega)
  have m3 : x / 8 ^ k % 8 < 8 := Nat.mod_lt _ (by omega)
  unfold dg4
  by_cases c : l / 2 ^ k % 2 = 0
  · rw [if_pos c]
    exact ⟨fun _ => by omega, fun _ => by decide⟩
  · rw [if_neg c]
    exact ⟨fun h => absurd h (nI_pos (by omega)), fun h => by omega⟩
/-- does pairing p hold for a combination -/
abbrev hp (q : Qd) (p z : Nat) : Prop := qv q (qt q p) (z / 8 ^ qt q p % 8) (qc q p) = qv q (qu q p) (z / 8 ^ qu q p % 8) (qo q p)
/-- do all pairings between l and r hold -/
def hbB (q : Qd) (l r z : Nat) : Bool := (List.range (qP q)).all fun p => !(decide (btw q p l r)) || decide (hp q p z)
theorem hbB_iff {q : Qd} {l r z : Nat} : hbB q l r z = true ↔ ∀ p, p < qP q → btw q p l r → hp q p z := by
  unfold hbB
  simp only [List.all_eq_true, List.mem_range]
  constructor
  · intro h p hp hb
    have := h p hp
    rw [decide_eq_true hb] at this
    simpa using this
  · intro h p hp
    by_cases c : btw q p l r
    · rw [decide_eq_true c]; simpa using h p hp c
    · rw [decide_eq_false c]; rfl
def btT (t u l r : Nat) : Bool := !(decide (t < u) && decide (l &&& r = 0)) || (decide ((2 ^ t &&& l ≠ 0 ∧ 2 ^ u &&& r ≠ 0) ∨ (2 ^ t &&& r ≠ 0 ∧ 2 ^ u &&& l ≠ 0)) == ((decide (l / 2 ^ t % 2 = 1) && decide (r / 2 ^ u % 2 = 1)) || (decide (r / 2 ^ t % 2 = 1) && decide (l / 2 ^ u % 2 = 1))))
theorem btTB : ((List.range 4).all fun t => (List.range 4).all fun u => (List.range 16).all fun l => (List.range 16).all fun r => btT t u l r) = true := by decide +kernel
theorem btw_bits {q : Qd} (hq : WfQ q) {p l r : Nat} (hp : p < qP q) (hl : l < 16) (hr : r < 16) (h0 : l &&& r = 0) (hb : btw q p l r) : (l / 2 ^ qt q p % 2 = 1 ∧ r / 2 ^ qu q p % 2 = 1) ∨ (r / 2 ^ qt q p % 2 = 1 ∧ l / 2 ^ qu q p % 2 = 1) := by
  have hT := hq.1
  obtain ⟨b1, b2, -⟩ := hq.2.2.2.2.1 p hp
  have g := btTB
  simp only [List.all_eq_true, List.mem_range] at g
  have g := g (qt q p) (by omega) (qu q p) (by omega) l hl r hr
  unfold btT at g
  rw [decide_eq_true b1, decide_eq_true h0, decide_eq_true (show (2 ^ qt q p &&& l ≠ 0 ∧ 2 ^ qu q p &&& r ≠ 0) ∨ (2 ^ qt q p &&& r ≠ 0 ∧ 2 ^ qu q p &&& l ≠ 0) from hb)] at g
  simp only [Bool.and_self, Bool.not_true, Bool.false_or, beq_iff_eq] at g
  have g := g.symm
  rw [Bool.or_eq_true, Bool.and_eq_true, Bool.and_eq_true] at g
  simpa using g
/-- the rows of a between pairing are there -/
theorem btw_row {q : Qd} (hq : WfQ q) {p l r z : Nat} (hp : p < qP q) (hl : l < 16) (hr : r < 16) (h0 : l &&& r = 0) (hb : btw q p l r) (hz : Vc q (l ||| r) z) : z / 8 ^ qt q p % 8 < qr q (qt q p) ∧ z / 8 ^ qu q p % 8 < qr q (qu q p) := by
  have hT := hq.1
  obtain ⟨b1, b2, -⟩ := hq.2.2.2.2.1 p hp
  have d1 := b_disj hl hr h0 (qt q p) (by omega)
  have d2 := b_disj hl hr h0 (qu q p) (by omega)
  have o1 := bit_or l r (qt q p)
  have o2 := bit_or l r (qu q p)
  rcases btw_bits hq hp hl hr h0 hb with ⟨h1, h2⟩ | ⟨h1, h2⟩
  · have z1 : r / 2 ^ qt q p % 2 = 0 := by omega
    have z2 : l / 2 ^ qu q p % 2 = 0 := by omega
    rw [h1, z1] at o1
    rw [h2, z2] at o2
    exact ⟨(hz.2 _ (by omega)).2 o1, (hz.2 _ (by omega)).2 o2⟩
  · have z1 : l / 2 ^ qt q p % 2 = 0 := by omega
    have z2 : r / 2 ^ qu q p % 2 = 0 := by omega
    rw [h1, z1] at o1
    rw [h2, z2] at o2
    exact ⟨(hz.2 _ (by omega)).2 o1, (hz.2 _ (by omega)).2 o2⟩
/-! the class -/
def bL (q : Qd) (l r k : Nat) : List Nat := (List.range k).filter fun p => decide (p < qP q ∧ btw q p l r)
theorem bL_succ (q : Qd) (l r k : Nat) : bL q l r (k + 1) = bL q l r k ++ (if k < qP q ∧ btw q k l r then [k] else []) := by
  unfold bL
  rw [List.range_succ, List.filter_append]
  by_cases c : k < qP q ∧ btw q k l r
  · rw [if_pos c]; simp [List.filter_cons, c]
  · have e : ([k].filter fun p => decide (p < qP q ∧ btw q p l r)) = [] := by
      rw [List.filter_eq_nil_iff]
      intro x hx h
      rw [List.mem_singleton] at hx
      subst hx
      exact c (of_decide_eq_true h)
    rw [if_neg c, e]
theorem bL_len (q : Qd) (l r k : Nat) : (bL q l r k).length ≤ k := by
  unfold bL
  have := List.length_filter_le (fun p => decide (p < qP q ∧ btw q p l r)) (List.range k)
  rw [List.length_range] at this
  exact this
theorem isBetween_C {N : Nat} {q : Qd} (hq : WfQ q) {σ : CSt} (hC : CQd q σ) {p l r : Nat} (hp : p < 4) (hl : l < 16) (hr : r < 16) (h0 : l &&& r = 0) : fQ_isBetween N σ (nI p) (nI l) (nI r) = some (if p < qP q ∧ btw q p l r then 1 else 0) := by
  have hT := hq.1
  have he := qe_lt hq p
  unfold fQ_isBetween
  simp only [chk_nI hp (show 4 < 2 ^ 31 by omega), nI_cl (show p < 2 ^ 31 by omega), qe_C hC hp, b_and _ he _ hl, b_and _ he _ hr]
  rw [if_neg (nI_pos (by omega)), if_neg (show ¬ (4 : Int32) ≤ nI p from nI_ge (b := 4) hp (by omega))]
  simp only [nI_eq0 (show qe q p &&& l < 2 ^ 31 by have := b_and_lt _ he _ hl; omega), nI_eq0 (show qe q p &&& r < 2 ^ 31 by have := b_and_lt _ he _ hr; omega)]
  by_cases c : p < qP q
  · obtain ⟨b1, b2, -⟩ := hq.2.2.2.2.1 p c
    have hb := b_btw (qt q p) (by omega) (qu q p) (by omega) b1 l hl r hr h0
    have hqe : qe q p = 2 ^ qt q p + 2 ^ qu q p := if_pos c
    rw [← hqe] at hb
    by_cases g1 : qe q p &&& l = 0
    · rw [if_pos g1, if_neg (fun h => (hb.mpr h.2).1 g1)]
    · rw [if_neg g1]
      by_cases g2 : qe q p &&& r = 0
      · rw [if_pos g2, if_neg (fun h => (hb.mpr h.2).2 g2)]
      · rw [if_neg g2, if_pos ⟨c, hb.mp ⟨g1, g2⟩⟩]
  · have hqe : qe q p = 0 := if_neg c
    rw [hqe, Nat.zero_and, if_pos rfl, if_neg (fun h => c h.1)]
theorem findBetween_C {N : Nat} {q : Qd} (hq : WfQ q) {l r : Nat} (hl : l < 16) (hr : r < 16) (h0 : l &&& r = 0) : ∀ (n m p : Nat) (σ : CSt), p + m = 4 → m < n → CQd q σ → σ.1 409 = nI (bL q l r p).length → Seg (σ.2.2.1 408) 0 (bL q l r p) → ∃ σ', fR_findBetween_L7 N n σ (nI l) (nI r) (nI p) = some σ' ∧ ((∀ k, k ≠ 409 → σ'.1 k = σ.1 k) ∧ σ'.2.1 = σ.2.1 ∧ (∀ k, k ≠ 408 → σ'.2.2.1 k = σ.2.2.1 k) ∧ σ'.2.2.2 = σ.2.2.2) ∧ σ'.1 409 = nI (bL q l r 4).length ∧ Seg (σ'.2.2.1 408) 0 (bL q l r 4) := by
  intro n
  induction n with
  | zero => intro m p σ _ h; omega
  | succ n ih =>
    intro m p σ hp hn hC h9 h8
    rw [fR_findBetween_L7]
    cases m with
    | zero =>
      rw [if_pos (show (4 : Int32) ≤ nI p from nI_le (a := 4) (by omega) (by omega))]
      rw [show p = 4 by omega] at h9 h8
      exact ⟨σ, rfl, ⟨fun _ _ => rfl, rfl, fun _ _ => rfl, rfl⟩, h9, h8⟩
    | succ m =>
      have hlen := bL_len q l r p
      rw [if_neg (show ¬ (4 : Int32) ≤ nI p from nI_ge (b := 4) (by omega) (by omega)), isBetween_C hq hC (by omega) hl hr h0, bs, nI_1]
      have es := bL_succ q l r p
      by_cases c : p < qP q ∧ btw q p l r
      · rw [if_pos c] at es
        rw [if_pos c, if_neg n10, h9, chk_nI (by omega) (by omega), nI_cl (by omega), cA_1, h9, nI_1]
        have f1 := G1_cA σ 408 (bL q l r p).length (nI p)
        obtain ⟨σ', a1, a2, a3⟩ := ih m (p + 1) (cI (cA σ 408 (bL q l r p).length (nI p)) 409 (nI ((bL q l r p).length + 1))) (by omega) (by omega) (CQd_same (fun k h1 h2 => by rw [cI_1, if_neg (by omega)]; rfl) (fun k h1 h2 => f1.2.2.1 k (by omega)) hC) (by rw [es, List.length_append]; rfl) (by
          rw [es]
          refine Seg_app.mpr ⟨Seg_eq (fun j _ hj => ?_) h8, Seg_cons.mpr ⟨?_, Seg_nil _ _⟩⟩
          · rw [cI_2, cA_3, if_pos rfl, upd_at, if_neg (by omega)]
          · rw [cI_2, cA_3, if_pos rfl, upd_at, if_pos (by omega)])
        refine ⟨σ', a1, ⟨fun k hk => ?_, a2.2.1, fun k hk => ?_, a2.2.2.2⟩, a3⟩
        · rw [a2.1 k hk, cI_1, if_neg hk, cA_1]
        · rw [a2.2.2.1 k hk, cI_2, f1.2.2.1 k hk]
      · rw [if_neg c, List.append_nil] at es
        rw [if_neg c, if_pos rfl]
        exact ih m (p + 1) σ (by omega) (by omega) hC (by rw [es]; exact h9) (by rw [es]; exact h8)
theorem held_C {N : Nat} {q : Qd} (hq : WfQ q) {σ : CSt} (hC : CQd q σ) {l r z : Nat} (hl : l < 16) (hr : r < 16) (h0 : l &&& r = 0) (hz : Vc q (l ||| r) z) (h9 : σ.1 409 = nI (bL q l r 4).length) (h8 : Seg (σ.2.2.1 408) 0 (bL q l r 4)) : ∀ (n m i : Nat), i + m = (bL q l r 4).length → m < n → (∀ j p, j < i → (bL q l r 4)[j]? = some p → hp q p z) → fR_isHeldBetween_L2 N σ n (nI z) (nI i) = some (if hbB q l r z = true then 1 else 0) := by
  have hlen := bL_len q l r 4
  have hz31 := hz.1
  intro n
  induction n with
  | zero => intro m i _ h; omega
  | succ n ih =>
    intro m i hi hn hh
    rw [fR_isHeldBetween_L2, h9]
    cases m with
    | zero =>
      rw [if_pos (nI_le (by omega) (by omega)), if_pos]
      rw [hbB_iff]
      intro p hpp hb
      have : p ∈ bL q l r 4 := by
        unfold bL
        rw [List.mem_filter]
        exact ⟨List.mem_range.mpr (by have := hq.2.1; omega), decide_eq_true ⟨hpp, hb⟩⟩
      obtain ⟨j, hj⟩ := List.getElem?_of_mem this
      exact hh j p (by have := (List.getElem?_eq_some_iff.mp hj).1; omega) hj
    | succ m =>
      have hx : (bL q l r 4)[i]? = some (bL q l r 4)[i] := List.getElem?_eq_getElem (by omega)
      generalize (bL q l r 4)[i] = p at hx
      have hm := List.mem_of_getElem? hx
      unfold bL at hm
      rw [List.mem_filter] at hm
      have hpb := of_decide_eq_true hm.2
      have e8 := h8 i p hx
      rw [Nat.zero_add] at e8
      obtain ⟨w1, w2⟩ := btw_row hq hpb.1 hl hr h0 hpb.2 hz
      rw [if_neg (nI_ge (by omega) (by omega)), if_neg (show ¬ (4 : Int32) ≤ nI i from nI_ge (b := 4) (by omega) (by omega)), chk_nI (by omega) (by omega), nI_cl (by omega), e8, isHeld_C hq hC hpb.1 (by omega) w1 w2, bs, nI_1]
      by_cases c : hp q p z
      · rw [if_pos c, if_neg n10]
        refine ih m (i + 1) (by omega) (by omega) ?_
        intro j p' hj hj'
        by_cases g : j = i
        · rw [g, hx] at hj'
          rw [← Option.some.inj hj']; exact c
        · exact hh j p' (by omega) hj'
      · rw [if_neg c, if_pos rfl, if_neg]
        intro h
        exact c (hbB_iff.mp h p hpb.1 hpb.2)
/-! the reference -/
theorem fits_M {N : Nat} (hN : 20 ≤ N) {q : Qd} (hq : WfQ q) {τ : MSt} (hM : MQd q τ) {l r x y xa ya : Nat} (hl : l < 16) (hr : r < 16) (h0 : l &&& r = 0) (hx : Vc q l x) (hy : Vc q r y) (hxa : xa + 4 ≤ 414720) (hya : ya + 4 ≤ 414720) (sx : ∀ k, k < 4 → τ.2.2.1 29 (xa + k) = dg4 l x k) (sy : ∀ k, k < 4 → τ.2.2.1 29 (ya + k) = dg4 r y k) : ∀ (n m p : Nat), p + m = qP q → m < n → (∀ p', p' < p → btw q p' l r → hp q p' (x ||| y)) → fM_fits_L3 N τ n (nI l) (nI r) (nI xa) (nI ya) (nI p) = some (if hbB q l r (x ||| y) = true then 1 else 0) := by
  have hT := hq.1
  have hP := hq.2.1
  have hz := Vc_or hl hr h0 hx hy
  intro n
  induction n with
  | zero => intro m p _ h; omega
  | succ n ih =>
    intro m p hp' hn hh
    rw [fM_fits_L3, hM.2.1]
    cases m with
    | zero =>
      rw [if_pos (nI_le (by omega) (by omega)), if_pos]
      rw [hbB_iff]
      intro p' h1 h2
      exact hh p' (by omega) h2
    | succ m =>
      have hpp : p < qP q := by omega
      obtain ⟨b1, b2, b3, b4, -⟩ := hq.2.2.2.2.1 p hpp
      obtain ⟨m1, m2, m3, m4, -⟩ := hM.2.2.2.2.2.2 p hpp
      obtain ⟨b, hb, hbb⟩ := fM_isBetween_ok (N := N) hq hM hpp hl hr
      rw [if_neg (nI_ge (by omega) (by omega)), hb, bs, nI_1]
      rcases hbb with ⟨rfl, hbt⟩ | ⟨rfl, hbt⟩
      · rw [if_neg n10]
        obtain ⟨w1, w2⟩ := btw_row hq hpp hl hr h0 hbt hz
        have c4 : chk (nI p) 4 = fun x : Option Int32 => x := by
          funext x
          exact chk_nI (by omega) (by omega)
        unfold fM_fits_J73 fM_fits_J122
        simp only [chk_nI (show p < 4 by omega) (show 4 < 2 ^ 31 by omega), nI_cl (show p < 2 ^ 31 by omega), m1, m2, m3, m4, b_bit l hl (qt q p) (by omega), b_bit l hl (qu q p) (by omega), nI_add, chk_nI (show xa + qt q p < 414720 by omega) (show 414720 < 2 ^ 31 by omega), chk_nI (show ya + qt q p < 414720 by omega) (show 414720 < 2 ^ 31 by omega), chk_nI (show xa + qu q p < 414720 by omega) (show 414720 < 2 ^ 31 by omega), chk_nI (show ya + qu q p < 414720 by omega) (show 414720 < 2 ^ 31 by omega), nI_cl (show xa + qt q p < 2 ^ 31 by omega), nI_cl (show ya + qt q p < 2 ^ 31 by omega), nI_cl (show xa + qu q p < 2 ^ 31 by omega), nI_cl (show ya + qu q p < 2 ^ 31 by omega), sx (qt q p) (by omega), sy (qt q p) (by omega), sx (qu q p) (by omega), sy (qu q p) (by omega), nI_1]
        have i1 : ∀ v, v < 2 → ((nI v = (1 : Int32)) ↔ v = 1) := fun v hv => nI_eq (b := 1) (by omega) (by omega)
        have mt : l / 2 ^ qt q p % 2 < 2 := Nat.mod_lt _ (by omega)
        have mu : l / 2 ^ qu q p % 2 < 2 := Nat.mod_lt _ (by omega)
        simp only [i1 _ mt, i1 _ mu]
        obtain ⟨t1, t2, -⟩ := dig_z hl hr h0 hx hy (show qt q p < 4 by omega)
        obtain ⟨u1, u2, -⟩ := dig_z hl hr h0 hx hy (show qu q p < 4 by omega)
        have fin : ∀ b : Bool, ((fM_of N τ (nI (qt q p)) (nI ((x ||| y) / 8 ^ qt q p % 8)) (nI (qc q p))).bind fun r_141 => (fM_of N τ (nI (qu q p)) (nI ((x ||| y) / 8 ^ qu q p % 8)) (nI (qo q p))).bind fun r_161 => (if r_141 = r_161 then fM_fits_L3 N τ n (nI l) (nI r) (nI xa) (nI ya) (nI (p + 1)) else some (0 : Int32))) = some (if hbB q l r (x ||| y) = true then 1 else 0) := by
          intro _
          rw [of_M hq hM (by omega) w1 b3, bs, of_M hq hM (by omega) w2 b4, bs]
          by_cases c : hp q p (x ||| y)
          · rw [if_pos c]
            refine ih m (p + 1) (by omega) (by omega) ?_
            intro p' h1 h2
            by_cases g : p' = p
            · rw [g]; exact c
            · exact hh p' (by omega) h2
          · rw [if_neg c, if_neg]
            intro h
            exact c (hbB_iff.mp h p hpp hbt)
        rcases btw_bits hq hpp hl hr h0 hbt with ⟨g1, g2⟩ | ⟨g1, g2⟩
        · have z2 := (u2 g2).2
          have e1 : dg4 l x (qt q p) = nI ((x ||| y) / 8 ^ qt q p % 8) := by unfold dg4; rw [if_neg (by omega), (t1 g1).1]
          have e2 : dg4 r y (qu q p) = nI ((x ||| y) / 8 ^ qu q p % 8) := by unfold dg4; rw [if_neg (by omega), (u2 g2).1]
          rw [if_pos g1, if_neg (by omega), e1, e2]
          exact fin true
        · have z2 := (t2 g1).2
          have e1 : dg4 r y (qt q p) = nI ((x ||| y) / 8 ^ qt q p % 8) := by unfold dg4; rw [if_neg (by omega), (t2 g1).1]
          have e2 : dg4 l x (qu q p) = nI ((x ||| y) / 8 ^ qu q p % 8) := by unfold dg4; rw [if_neg (by omega), (u1 g2).1]
          rw [if_neg (by omega), if_pos g2, e1, e2]
          exact fin true
      · rw [if_pos rfl]
        refine ih m (p + 1) (by omega) (by omega) ?_
        intro p' h1 h2
        by_cases g : p' = p
        · rw [g] at h2; exact absurd h2 hbt
        · exact hh p' (by omega) h2
