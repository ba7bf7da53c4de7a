/-! no more than 120 keen lines -/
theorem mkc_lt_a {k l r a a' b : Nat} (h : a < a') : mkc k l a r b < mkc k l a' r b := by
  unfold mkc
  have : ((4 + k) * 8 ^ dg l + a) * 8 ^ dg r < ((4 + k) * 8 ^ dg l + a') * 8 ^ dg r := Nat.mul_lt_mul_of_pos_right (by omega) (Nat.pow_pos (by omega))
  omega
theorem mkc_lt_b {k l r a b b' : Nat} (h : b < b') : mkc k l a r b < mkc k l a r b' := by
  unfold mkc
  omega
theorem fjn_lt_a {q : Qd} {S k l up dn : Nat} {sl : Int32} {a a' b : Ent} (h : ltE up dn sl a' a) : ltE up dn sl (fjn q S k l a' b) (fjn q S k l a b) := by
  have m : eC a' < eC a → eC (fjn q S k l a' b) < eC (fjn q S k l a b) := by
    intro h1
    rw [fjn_C, fjn_C]
    exact mkc_lt_a h1
  unfold ltE at *
  rw [fjn_ky, fjn_ky, (fjn_A q S k l a b).2, (fjn_A q S k l a' b).2]
  simp only [sgB_add]
  omega
theorem fjn_lt_b {q : Qd} {S k l up dn : Nat} {sl : Int32} {a b b' : Ent} (h : ltE up dn sl b' b) : ltE up dn sl (fjn q S k l a b') (fjn q S k l a b) := by
  have m : eC b' < eC b → eC (fjn q S k l a b') < eC (fjn q S k l a b) := by
    intro h1
    rw [fjn_C, fjn_C]
    exact mkc_lt_b h1
  unfold ltE at *
  rw [fjn_ky, fjn_ky, (fjn_A q S k l a b).2, (fjn_A q S k l a b').2]
  simp only [sgB_add]
  omega
theorem le_not_lt {up dn : Nat} {sl : Int32} {e f : Ent} (h : leE up dn sl e f) : ¬ ltE up dn sl f e := by
  unfold leE ltE at *
  omega
theorem mem_fl {q : Qd} {S : Nat} (hS : S < 16) {e : Ent} (h : e ∈ fl q S) : (∃ t, t < qT q ∧ S = 2 ^ t ∧ e = frd q t) ∨ ∃ l, okB q S l = true ∧ ∃ k, k < 3 ∧ ∃ a, a ∈ PE q l ∧ ∃ b, b ∈ PE q (S - l) ∧ e = fjn q S k l a b := by
  obtain ⟨e0, h0, -, h1, h2⟩ := fl_mem h
  rcases (mem_PE hS).mp h0 with ⟨t, ht, hSt, rfl⟩ | ⟨l, hk, k, hk3, a, ha, b, hb, rfl⟩
  · refine Or.inl ⟨t, ht, hSt, ?_⟩
    unfold frd
    rw [← hSt]
    by_cases g : S = 2 ^ qT q - 1
    · rw [if_pos g]; exact h1 g
    · rw [if_neg g]; exact h2 g
  · refine Or.inr ⟨l, hk, k, hk3, a, ha, b, hb, ?_⟩
    unfold fjn
    by_cases g : S = 2 ^ qT q - 1
    · rw [if_pos g]; exact h1 g
    · rw [if_neg g]; exact h2 g
theorem rows_pos {q : Qd} (hr : ∀ t, t < qT q → 0 < qr q t) {S : Nat} (hS : S < 2 ^ qT q) : ∀ k, 0 < rowsP q S k := by
  intro k
  induction k with
  | zero => exact Nat.one_pos
  | succ k ih =>
    show 0 < rowsP q S k * (if S / 2 ^ k % 2 = 0 then 1 else qr q k)
    refine Nat.mul_pos ih ?_
    split
    · omega
    · rename_i h
      refine hr k (Nat.not_le.mp fun g => h ?_)
      have : S < 2 ^ k := Nat.lt_of_lt_of_le hS (Nat.pow_le_pow_right (by omega) g)
      rw [Nat.div_eq_of_lt this]
theorem sh_pos (q : Qd) (S : Nat) : ∀ p, 0 < shP q S p := by
  intro p
  induction p with
  | zero => exact Nat.one_pos
  | succ p ih =>
    show 0 < shP q S p * (if ins q S p then (if qs q p = 0 then 1 else qs q p) else 1)
    refine Nat.mul_pos ih ?_
    split
    · split <;> omega
    · omega
theorem sz_pos {q : Qd} (hW : Whole q) {S : Nat} (hS : S < 2 ^ qT q) : 0 < nA q S + nB q S := by
  have h : 0 < sz q S := Nat.mul_pos (rows_pos hW.2.1 hS 4) (Nat.mul_pos (sh_pos q S (qP q)) (Nat.pow_pos (by omega)))
  unfold nA nB
  split <;> omega
/-- a place that a span's witness may have -/
def Adm (u v : Nat) (sl : Int32) : Prop := 0 < v ∧ (sl = -1 ∨ sl = 1 ∧ 0 < u)
theorem no_sorted {q : Qd} (hW : Whole q) {S l u v : Nat} {sl : Int32} {a b : Ent} (hA : Adm u v sl) (hS : S < 2 ^ qT q) (hne : S ≠ 2 ^ qT q - 1) (hl : l < S) : ltE u v sl (fjn q S 1 l a b) (fjn q S 2 l a b) := by
  have e0 : ∀ k, endF q S k l = 0 := fun k => if_neg (fun h => hne h.1)
  have p1 := sz_pos hW (show l < 2 ^ qT q by omega)
  obtain ⟨hv, hs⟩ := hA
  unfold ltE
  rw [fjn_ky, fjn_ky, (fjn_A q S 1 l a b).2, (fjn_A q S 2 l a b).2, e0, e0]
  have j1 : jA q 1 l (S - l) = 2 * (nA q l + nA q (S - l)) := rfl
  have j2 : jA q 2 l (S - l) = 3 * (nA q l + nA q (S - l)) := rfl
  have j3 : jB q 1 l (S - l) = 2 * (nB q l + nB q (S - l)) := rfl
  have j4 : jB q 2 l (S - l) = 3 * (nB q l + nB q (S - l)) := rfl
  rw [j1, j2, j3, j4]
  have hxy : 0 < (nA q l + nA q (S - l)) + (nB q l + nB q (S - l)) := by omega
  generalize nA q l + nA q (S - l) = x at hxy ⊢
  generalize nB q l + nB q (S - l) = y at hxy ⊢
  simp only [Nat.zero_mul, Nat.add_zero, Nat.mul_assoc]
  by_cases g : 0 < x * v + y * u
  · exact Or.inl (by omega)
  · have gx : x * v = 0 := by omega
    have gy : y * u = 0 := by omega
    have hx : x = 0 := by
      rcases Nat.mul_eq_zero.mp gx with h | h
      · exact h
      · omega
    have hu : u = 0 := by
      rcases Nat.mul_eq_zero.mp gy with h | h
      · omega
      · exact h
    refine Or.inr ⟨by omega, Or.inl ?_⟩
    rcases hs with rfl | ⟨-, h⟩
    · rw [sgm, sgm]; omega
    · omega
theorem btw_sym (q : Qd) (p l r : Nat) : btw q p l r ↔ btw q p r l := by
  unfold btw
  constructor
  · rintro (h | h)
    · exact Or.inr h
    · exact Or.inl h
  · rintro (h | h)
    · exact Or.inr h
    · exact Or.inl h
theorem lbf_sym (q : Qd) (l r : Nat) : ∀ k p, lbf q l r k p = lbf q r l k p := by
  intro k
  induction k with
  | zero => intro p; rfl
  | succ k ih =>
    intro p
    show (if btw q p l r then nI p else lbf q l r k (p + 1)) = (if btw q p r l then nI p else lbf q r l k (p + 1))
    by_cases h : btw q p l r
    · rw [if_pos h, if_pos ((btw_sym q p l r).mp h)]
    · rw [if_neg h, if_neg (fun g => h ((btw_sym q p l r).mpr g)), ih]
theorem lb_sym (q : Qd) (l r : Nat) : lb q l r = lb q r l := lbf_sym q l r _ _
theorem jA_sym (q : Qd) (k l r : Nat) : jA q k l r = jA q k r l ∧ jB q k l r = jB q k r l := by
  unfold jA jB
  rw [Nat.mul_comm (nA q l) (nA q r), Nat.add_comm (nA q l), Nat.add_comm (nB q l) (nB q r), Nat.mul_comm (nA q l) (nB q r), Nat.mul_comm (nB q l) (nA q r), Nat.add_comm (nB q r * nA q l)]
  exact ⟨rfl, rfl⟩
theorem ioB_sym (q : Qd) (k : Int32) (l r : Nat) : ioB q k l r = ioB q k r l := by
  unfold ioB
  rw [lb_sym]
def swT (S l : Nat) : Bool := !(sub1 S l) || (sub1 S (S - l) && (S - (S - l) == l && l != S - l))
theorem swTB : ((List.range 16).all fun S => (List.range 16).all fun l => swT S l) = true := by decide +kernel
theorem sw_ok {S l : Nat} (hS : S < 16) (h : sub1 S l = true) : sub1 S (S - l) = true ∧ S - (S - l) = l ∧ l ≠ S - l := by
  have g := swTB
  simp only [List.all_eq_true, List.mem_range] at g
  have hl := sub1_ok h
  have g := g S hS l (by omega)
  unfold swT at g
  rw [h] at g
  simpa using g
theorem okB_sym {q : Qd} {S l : Nat} (hS : S < 16) (h : okB q S l = true) : okB q S (S - l) = true := by
  obtain ⟨h1, h2⟩ := okB_ok h
  obtain ⟨g1, g2, -⟩ := sw_ok hS h1
  exact okB_t g1 (by rw [g2, lb_sym]; exact h2)
theorem fjn_sym {q : Qd} {S k l : Nat} (hS : S < 16) (h : sub1 S l = true) (a b : Ent) : eA (fjn q S k l a b) = eA (fjn q S k (S - l) b a) ∧ eB (fjn q S k l a b) = eB (fjn q S k (S - l) b a) := by
  obtain ⟨g1, g2, -⟩ := sw_ok hS h
  rw [(fjn_A q S k l a b).1, (fjn_A q S k l a b).2, (fjn_A q S k (S - l) b a).1, (fjn_A q S k (S - l) b a).2, g2]
  have e : endF q S k (S - l) = endF q S k l := by
    unfold endF
    rw [g2, ioB_sym]
  rw [e, ← (jA_sym q k l (S - l)).1, ← (jA_sym q k l (S - l)).2]
  omega
/-- the lines that may be keen -/
def lnk (q : Qd) (S l : Nat) (E : Nat → List (Nat × Nat)) (ks : Nat) : List (Nat × Nat) := (List.range ks).flatMap fun k => (E l).flatMap fun a => (E (S - l)).map fun b => (a.1 + b.1 + jA q k l (S - l) + endF q S k l * nA q S, a.2 + b.2 + jB q k l (S - l) + endF q S k l * nB q S)
def lnj (q : Qd) (S : Nat) (E : Nat → List (Nat × Nat)) (ks : Nat) : List (Nat × Nat) := (List.range S).flatMap fun l => if (okB q S l && decide (l < S - l)) = true then lnk q S l E ks else []
def lnr (q : Qd) (S : Nat) : List (Nat × Nat) := (List.range (qT q)).flatMap fun t => if S = 2 ^ t then [(eA (frd q t), eB (frd q t))] else []
def lns (q : Qd) : Nat → Nat → List (Nat × Nat)
  | 0, _ => []
  | f + 1, S => lnr q S ++ lnj q S (lns q f) (if S = 2 ^ qT q - 1 then 3 else 2)
theorem mem_lnk {q : Qd} {S l ks k : Nat} {E : Nat → List (Nat × Nat)} {a b : Nat × Nat} (hk : k < ks) (ha : a ∈ E l) (hb : b ∈ E (S - l)) : (a.1 + b.1 + jA q k l (S - l) + endF q S k l * nA q S, a.2 + b.2 + jB q k l (S - l) + endF q S k l * nB q S) ∈ lnk q S l E ks :=
  List.mem_flatMap.mpr ⟨k, List.mem_range.mpr hk, List.mem_flatMap.mpr ⟨a, ha, List.mem_map.mpr ⟨b, hb, rfl⟩⟩⟩
theorem mem_lnj {q : Qd} {S l ks : Nat} {E : Nat → List (Nat × Nat)} {x : Nat × Nat} (hS : S < 16) (h : okB q S l = true) (hlt : l < S - l) (hx : x ∈ lnk q S l E ks) : x ∈ lnj q S E ks := by
  have hl := sub1_ok (okB_ok h).1
  refine List.mem_flatMap.mpr ⟨l, List.mem_range.mpr (by omega), ?_⟩
  rw [if_pos (by rw [h, decide_eq_true hlt]; rfl)]
  exact hx
theorem keen_line {q : Qd} (hq : WfQ q) (hW : Whole q) {u v : Nat} {sl : Int32} (hA : Adm u v sl) : ∀ (f S : Nat) (e : Ent), S < 2 ^ qT q → bc S ≤ f → Lst u v sl (fl q S) e → (eA e, eB e) ∈ lns q f S := by
  have hT := hq.1
  have h16 : 2 ^ qT q ≤ 16 := Nat.pow_le_pow_right (n := 2) (by omega) hT
  intro f
  induction f with
  | zero =>
    intro S e hS hf he
    have h0 := bc_0 S (by omega) (by omega)
    subst h0
    rw [fl_0] at he
    exact absurd he.1 List.not_mem_nil
  | succ f ih =>
    intro S e hS hf he
    show (eA e, eB e) ∈ lnr q S ++ lnj q S (lns q f) (if S = 2 ^ qT q - 1 then 3 else 2)
    rcases mem_fl (show S < 16 by omega) he.1 with ⟨t, ht, hSt, rfl⟩ | ⟨l, hk, k, hk3, a, ha, b, hb, rfl⟩
    · refine List.mem_append_left _ (List.mem_flatMap.mpr ⟨t, List.mem_range.mpr ht, ?_⟩)
      rw [if_pos hSt]
      exact List.mem_singleton.mpr rfl
    · have hs := (okB_ok hk).1
      have hl := sub1_ok hs
      have hbs := b_sub (show S < 16 by omega) hs
      have ea : fl q l = PE q l := if_neg (by omega)
      have eb : fl q (S - l) = PE q (S - l) := if_neg (by omega)
      have La : Lst u v sl (fl q l) a := by
        rw [ea]
        refine ⟨ha, fun a' ha' => leE_of fun hlt => ?_⟩
        exact le_not_lt (he.2 _ (fjn_mem (k := k) (by omega) hk hk3 ha' hb)) (fjn_lt_a hlt)
      have Lb : Lst u v sl (fl q (S - l)) b := by
        rw [eb]
        refine ⟨hb, fun b' hb' => leE_of fun hlt => ?_⟩
        exact le_not_lt (he.2 _ (fjn_mem (k := k) (by omega) hk hk3 ha hb')) (fjn_lt_b hlt)
      have ia := ih l a (by omega) (by omega) La
      have ib := ih (S - l) b (by omega) (by omega) Lb
      have hks : k < (if S = 2 ^ qT q - 1 then 3 else 2) := by
        by_cases g : S = 2 ^ qT q - 1
        · rw [if_pos g]; exact hk3
        · rw [if_neg g]
          refine Nat.not_le.mp fun g2 => ?_
          have e2 : k = 2 := by omega
          subst e2
          exact le_not_lt (he.2 _ (fjn_mem (k := 1) (by omega) hk (by omega) ha hb)) (no_sorted hW hA hS g (by omega))
      refine List.mem_append_right _ ?_
      obtain ⟨w1, w2, w3⟩ := sw_ok (show S < 16 by omega) hs
      by_cases g : l < S - l
      · have := mem_lnk (q := q) (E := lns q f) hks ia ib
        rw [(fjn_A q S k l a b).1, (fjn_A q S k l a b).2]
        exact mem_lnj (by omega) hk g this
      · have hsy := fjn_sym (q := q) (k := k) (show S < 16 by omega) hs a b
        rw [hsy.1, hsy.2, (fjn_A q S k (S - l) b a).1, (fjn_A q S k (S - l) b a).2]
        have := mem_lnk (q := q) (S := S) (l := S - l) (E := lns q f) hks ib (show (eA a, eB a) ∈ lns q f (S - (S - l)) by rw [w2]; exact ia)
        exact mem_lnj (by omega) (okB_sym (by omega) hk) (by omega) this
/-! their number, by the pairings as a set of six -/
def ei (t u : Nat) : Nat := t + u * (u - 1) / 2
def bti (i l r : Nat) : Bool := let t := [0, 0, 1, 0, 1, 2].getD i 0; let u := [1, 2, 2, 3, 3, 3].getD i 0; decide ((2 ^ t &&& l ≠ 0 ∧ 2 ^ u &&& r ≠ 0) ∨ (2 ^ t &&& r ≠ 0 ∧ 2 ^ u &&& l ≠ 0))
def cnx (m l r : Nat) : Bool := (List.range 6).any fun i => m.testBit i && bti i l r
def mkq (q : Qd) : Nat → Nat
  | 0 => 0
  | p + 1 => mkq q p ||| 2 ^ ei (qt q p) (qu q p)
theorem eiB : ∀ u, u < 4 → ∀ t, t < u → ei t u < 6 ∧ [0, 0, 1, 0, 1, 2].getD (ei t u) 0 = t ∧ [1, 2, 2, 3, 3, 3].getD (ei t u) 0 = u := by decide +kernel
theorem cnx_ok {q : Qd} (hq : WfQ q) (l r : Nat) : ∀ n, n ≤ qP q → (cnx (mkq q n) l r = true ↔ ∃ p, p < n ∧ btw q p l r) := by
  have hT := hq.1
  intro n
  induction n with
  | zero =>
    intro _
    constructor
    · intro h
      unfold cnx at h
      rw [List.any_eq_true] at h
      obtain ⟨i, -, h⟩ := h
      rw [show mkq q 0 = 0 from rfl, Nat.zero_testBit, Bool.false_and] at h
      exact absurd h (by decide)
    · rintro ⟨p, hp, -⟩
      omega
  | succ n ih =>
    intro hn
    have ih := ih (by omega)
    obtain ⟨b1, b2, -⟩ := hq.2.2.2.2.1 n (by omega)
    obtain ⟨e1, e2, e3⟩ := eiB (qu q n) (by omega) (qt q n) b1
    have hb : bti (ei (qt q n) (qu q n)) l r = true ↔ btw q n l r := by
      unfold bti
      rw [e2, e3]
      exact decide_eq_true_iff
    have hs : cnx (mkq q (n + 1)) l r = true ↔ cnx (mkq q n) l r = true ∨ bti (ei (qt q n) (qu q n)) l r = true := by
      unfold cnx
      rw [List.any_eq_true, List.any_eq_true]
      constructor
      · rintro ⟨i, hi, h⟩
        rw [Bool.and_eq_true, show mkq q (n + 1) = mkq q n ||| 2 ^ ei (qt q n) (qu q n) from rfl, Nat.testBit_or, Bool.or_eq_true, Nat.testBit_two_pow, decide_eq_true_iff] at h
        rcases h with ⟨h | h, h2⟩
        · exact Or.inl ⟨i, hi, by rw [Bool.and_eq_true]; exact ⟨h, h2⟩⟩
        · rw [h]; exact Or.inr h2
      · rintro (⟨i, hi, h⟩ | h)
        · rw [Bool.and_eq_true] at h
          refine ⟨i, hi, ?_⟩
          rw [Bool.and_eq_true, show mkq q (n + 1) = mkq q n ||| 2 ^ ei (qt q n) (qu q n) from rfl, Nat.testBit_or, Bool.or_eq_true]
          exact ⟨Or.inl h.1, h.2⟩
        · refine ⟨ei (qt q n) (qu q n), List.mem_range.mpr e1, ?_⟩
          rw [Bool.and_eq_true, show mkq q (n + 1) = mkq q n ||| 2 ^ ei (qt q n) (qu q n) from rfl, Nat.testBit_or, Bool.or_eq_true, Nat.testBit_two_pow, decide_eq_true_iff]
          exact ⟨Or.inr rfl, h⟩
    rw [hs, ih, hb]
    constructor
    · rintro (⟨p, hp, h⟩ | h)
      · exact ⟨p, by omega, h⟩
      · exact ⟨n, by omega, h⟩
    · rintro ⟨p, hp, h⟩
      by_cases g : p = n
      · rw [g] at h; exact Or.inr h
      · exact Or.inl ⟨p, by omega, h⟩
theorem okB_cnx {q : Qd} (hq : WfQ q) (S l : Nat) : okB q S l = (sub1 S l && cnx (mkq q (qP q)) l (S - l)) := by
  have h := cnx_ok hq l (S - l) (qP q) (Nat.le_refl _)
  have h2 : decide (lb q l (S - l) ≠ -1) = cnx (mkq q (qP q)) l (S - l) := by
    rcases lb_cases (q := q) l (S - l) with ⟨g, g2⟩ | ⟨p, hp, g, g2⟩
    · have : cnx (mkq q (qP q)) l (S - l) ≠ true := fun k => by
        obtain ⟨p, hp, k⟩ := h.mp k
        exact g2 p hp k
      rw [g]
      simpa using this.symm
    · rw [h.mpr ⟨p, hp, g2⟩]
      have hP := hq.2.1
      exact decide_eq_true (by rw [g]; exact nI_ne_m1 (by omega))
  unfold okB
  rw [h2]
/-- how many lines -/
def cnm (T m : Nat) : Nat → Nat → Nat
  | 0, _ => 0
  | f + 1, S => ((List.range T).map fun t => if S = 2 ^ t then 1 else 0).sum + ((List.range S).map fun l => if (sub1 S l && cnx m l (S - l) && decide (l < S - l)) = true then (if S = 2 ^ T - 1 then 3 else 2) * (cnm T m f l * cnm T m f (S - l)) else 0).sum
theorem flatMap_len {α β : Type} (f : α → List β) : ∀ L : List α, (L.flatMap f).length = (L.map fun x => (f x).length).sum := by
  intro L
  induction L with
  | nil => rfl
  | cons a L ih => rw [List.flatMap_cons, List.length_append, ih, List.map_cons, List.sum_cons]
theorem map_congr {α β : Type} {f g : α → β} : ∀ L : List α, (∀ x, x ∈ L → f x = g x) → L.map f = L.map g := fun L h => List.map_congr_left h
theorem const_sum (c : Nat) : ∀ n, ((List.range n).map fun _ => c).sum = n * c := by
  intro n
  induction n with
  | zero => rw [Nat.zero_mul]; rfl
  | succ n ih => rw [List.range_succ, List.map_append, List.sum_append, ih, Nat.succ_mul]; rfl
theorem lnk_len (q : Qd) (S l ks : Nat) (E : Nat → List (Nat × Nat)) : (lnk q S l E ks).length = ks * ((E l).length * (E (S - l)).length) := by
  unfold lnk
  rw [flatMap_len]
  rw [map_congr (g := fun _ => (E l).length * (E (S - l)).length) _ (fun k _ => fm_len _ _ _)]
  exact const_sum _ _
theorem lns_len {q : Qd} (hq : WfQ q) : ∀ f S, (lns q f S).length = cnm (qT q) (mkq q (qP q)) f S := by
  intro f
  induction f with
  | zero => intro S; rfl
  | succ f ih =>
    intro S
    show (lnr q S ++ lnj q S (lns q f) (if S = 2 ^ qT q - 1 then 3 else 2)).length = _ + _
    rw [List.length_append]
    unfold lnr lnj
    rw [flatMap_len, flatMap_len]
    congr 1
    · refine congrArg List.sum (map_congr _ fun t _ => ?_)
      split <;> rfl
    · refine congrArg List.sum (map_congr _ fun l _ => ?_)
      rw [okB_cnx hq]
      split
      · rw [lnk_len, ih, ih]
      · rfl
def pc6 (m : Nat) : Nat := m % 2 + m / 2 % 2 + m / 4 % 2 + m / 8 % 2 + m / 16 % 2 + m / 32 % 2
theorem pc6B : ∀ m, m < 64 → ∀ i, i < 6 → pc6 (m ||| 2 ^ i) ≤ pc6 m + 1 ∧ m ||| 2 ^ i < 64 := by decide +kernel
theorem mkq_pc {q : Qd} (hq : WfQ q) : ∀ n, n ≤ qP q → pc6 (mkq q n) ≤ n ∧ mkq q n < 64 := by
  have hT := hq.1
  intro n
  induction n with
  | zero =>
    intro _
    show pc6 0 ≤ 0 ∧ 0 < 64
    exact ⟨by decide, by decide⟩
  | succ n ih =>
    intro hn
    obtain ⟨i1, i2⟩ := ih (by omega)
    obtain ⟨b1, b2, -⟩ := hq.2.2.2.2.1 n (by omega)
    obtain ⟨e1, -⟩ := eiB (qu q n) (by omega) (qt q n) b1
    have := pc6B _ i2 _ e1
    show pc6 (mkq q n ||| 2 ^ ei (qt q n) (qu q n)) ≤ _ ∧ mkq q n ||| 2 ^ ei (qt q n) (qu q n) < 64
    omega
theorem cnmB : ((List.range 5).all fun T => (List.range 64).all fun m => decide (4 < pc6 m) || decide (cnm T m 4 (2 ^ T - 1) ≤ 120)) = true := by decide +kernel
theorem lns_120 {q : Qd} (hq : WfQ q) : (lns q 4 (2 ^ qT q - 1)).length ≤ 120 := by
  have hT := hq.1
  have hP := hq.2.1
  obtain ⟨h1, h2⟩ := mkq_pc hq (qP q) (Nat.le_refl _)
  have g := cnmB
  simp only [List.all_eq_true, List.mem_range] at g
  have g := g (qT q) (by omega) _ h2
  rw [Bool.or_eq_true, decide_eq_true_iff, decide_eq_true_iff] at g
  rw [lns_len hq]
  omega
theorem nodup_len {α : Type} [DecidableEq α] : ∀ (L M : List α), L.Nodup → (∀ x, x ∈ L → x ∈ M) → L.length ≤ M.length := by
  intro L
  induction L with
  | nil => intro M _ _; exact Nat.zero_le _
  | cons a L ih =>
    intro M hn hs
    rw [List.nodup_cons] at hn
    have ha := hs a List.mem_cons_self
    have h := ih (M.erase a) hn.2 (fun x hx => (List.mem_erase_of_ne (fun e => hn.1 (by rw [← e]; exact hx))).mpr (hs x (List.mem_cons_of_mem _ hx)))
    rw [List.length_erase_of_mem ha] at h
    have : 0 < M.length := List.length_pos_of_mem ha
    rw [List.length_cons]
    omega
/-- entries with falling slopes, each keen: 120 at most -/
theorem keen_120 {q : Qd} (hq : WfQ q) (hW : Whole q) (E : List Ent) (hn : (E.map eB).Nodup) (hk : ∀ e, e ∈ E → Kn (fl q (2 ^ qT q - 1)) e) : E.length ≤ 120 := by
  have hT := hq.1
  have h16 : 2 ^ qT q ≤ 16 := Nat.pow_le_pow_right (n := 2) (by omega) hT
  have h1 := Nat.two_pow_pos (qT q)
  have h4 := bc_le (2 ^ qT q - 1) (by omega)
  have h : (E.map eB).length ≤ ((lns q 4 (2 ^ qT q - 1)).map fun x => x.2).length := by
    refine nodup_len _ _ hn ?_
    intro x hx
    obtain ⟨e, he, rfl⟩ := List.mem_map.mp hx
    rcases hk e he with ⟨u, v, hv, -, hL⟩ | hL
    · exact List.mem_map.mpr ⟨_, keen_line hq hW ⟨hv, Or.inl rfl⟩ 4 _ e (by omega) h4 hL, rfl⟩
    · exact List.mem_map.mpr ⟨_, keen_line hq hW ⟨by omega, Or.inr ⟨rfl, by omega⟩⟩ 4 _ e (by omega) h4 hL, rfl⟩
  rw [List.length_map, List.length_map] at h
  exact Nat.le_trans h (lns_120 hq)
