/-! the class finds the chain of spans -/
theorem onS {α β : Type} (a : α) (n : Option β) (f : α → Option β) : on (some a) n f = f a := rfl
theorem onN {α β : Type} (n : Option β) (f : α → Option β) : on none n f = n := rfl
def Chn (F E : List Ent) : Prop := E ≠ [] ∧ (∀ e, e ∈ E → e ∈ F) ∧ (∀ e, E[0]? = some e → Lst 0 1 (-1) F e) ∧ (∀ i e f, E[i]? = some e → E[i + 1]? = some f → Nx F e f) ∧ ∀ e, E[E.length - 1]? = some e → ∀ g, g ∈ F → ky 4 1 e ≤ ky 4 1 g
theorem conv {e g : Ent} {u v a b pt : Nat} (h1 : ky u v e ≤ ky u v g) (h2 : ky a b e ≤ ky a b g) (h3 : u * 8 ≤ pt * v) (h4 : pt * b ≤ a * 8) (hv : 0 < v) (hb : 0 < b) : ky pt 8 e ≤ ky pt 8 g := by
  have k1 := kyI u v e
  have k2 := kyI u v g
  have k3 := kyI a b e
  have k4 := kyI a b g
  have k5 := kyI pt 8 e
  have k6 := kyI pt 8 g
  have h1' : ((ky u v e : Nat) : Int) ≤ (ky u v g : Nat) := by omega
  have h2' : ((ky a b e : Nat) : Int) ≤ (ky a b g : Nat) := by omega
  have h3' : (u : Int) * 8 ≤ pt * v := by exact_mod_cast h3
  have h4' : (pt : Int) * b ≤ a * 8 := by exact_mod_cast h4
  rw [k1, k2] at h1'
  rw [k3, k4] at h2'
  refine Nat.not_lt.mp fun hlt => ?_
  have hlt' : ((ky pt 8 g : Nat) : Int) < (ky pt 8 e : Nat) := by omega
  rw [k5, k6] at hlt'
  by_cases c : eB e ≤ eB g
  · have m1 := Int.mul_lt_mul_of_pos_right hlt' (show (0 : Int) < v by omega)
    have m2 := Int.mul_nonneg (show (0 : Int) ≤ (eB g : Int) - eB e by omega) (Int.sub_nonneg_of_le h3')
    grind
  · have m1 := Int.mul_lt_mul_of_pos_right hlt' (show (0 : Int) < b by omega)
    have m2 := Int.mul_nonneg (show (0 : Int) ≤ (eB e : Int) - eB g by omega) (Int.sub_nonneg_of_le h4')
    grind
theorem env_go {F E : List Ent} (hE : Chn F E) {pt : Nat} (hp : pt ≤ 32) : ∀ (m i : Nat) (e : Ent) (u v : Nat), i + m + 1 = E.length → E[i]? = some e → 0 < v → u * 8 ≤ pt * v → (∀ g, g ∈ F → ky u v e ≤ ky u v g) → ∃ f, f ∈ E ∧ ∀ g, g ∈ F → ky pt 8 f ≤ ky pt 8 g := by
  intro m
  induction m with
  | zero =>
    intro i e u v hi he hv hu hm
    have hlast := hE.2.2.2.2 e (by rw [← hi]; exact he)
    exact ⟨e, List.mem_of_getElem? he, fun g hg => conv (a := 4) (b := 1) (hm g hg) (hlast g hg) hu (by omega) hv (by omega)⟩
  | succ m ih =>
    intro i e u v hi he hv hu hm
    have hlt : i + 1 < E.length := by omega
    have hf : E[i + 1]? = some E[i + 1] := List.getElem?_eq_getElem hlt
    generalize E[i + 1] = f at hf
    have hN := hE.2.2.2.1 i e f he hf
    have hmf : ∀ g, g ∈ F → ky (eA f - eA e) (eB e - eB f) f ≤ ky (eA f - eA e) (eB e - eB f) g := fun g hg => by
      have := hN.2.2.2.2 g hg
      rw [leM] at this
      omega
    by_cases c : pt * (eB e - eB f) ≤ (eA f - eA e) * 8
    · refine ⟨e, List.mem_of_getElem? he, fun g hg => conv (hm g hg) ?_ hu c hv (by have := hN.1; omega)⟩
      rw [cr_same hN.1 (by have := hN.2.1; omega)]
      exact hmf g hg
    · exact ih (i + 1) f _ _ (by omega) hf (by have := hN.1; omega) (by omega) hmf
theorem env {F E : List Ent} (hE : Chn F E) {pt : Nat} (hp : pt ≤ 32) : ∃ f, f ∈ E ∧ ∀ g, g ∈ F → ky pt 8 f ≤ ky pt 8 g := by
  have hlen : 0 < E.length := List.length_pos_iff.mpr hE.1
  have h0 : E[0]? = some E[0] := List.getElem?_eq_getElem hlen
  refine env_go hE hp (E.length - 1) 0 _ 0 1 (by omega) h0 (by omega) (by omega) ?_
  intro g hg
  have := (hE.2.2.1 _ h0).2 g hg
  rw [leM] at this
  omega
/-- the least price of a list at a point -/
def mnl (pt : Nat) : Nat → List Ent → Nat
  | m, [] => m
  | m, e :: L => mnl pt (if ky pt 8 e < m then ky pt 8 e else m) L
theorem mnl_ok (pt : Nat) : ∀ (L : List Ent) (m : Nat), mnl pt m L ≤ m ∧ (∀ e, e ∈ L → mnl pt m L ≤ ky pt 8 e) ∧ (mnl pt m L = m ∨ ∃ e, e ∈ L ∧ mnl pt m L = ky pt 8 e) := by
  intro L
  induction L with
  | nil => intro m; exact ⟨Nat.le_refl _, fun e h => absurd h List.not_mem_nil, Or.inl rfl⟩
  | cons a L ih =>
    intro m
    show mnl pt (if ky pt 8 a < m then ky pt 8 a else m) L ≤ m ∧ _
    obtain ⟨h1, h2, h3⟩ := ih (if ky pt 8 a < m then ky pt 8 a else m)
    have hs : (if ky pt 8 a < m then ky pt 8 a else m) ≤ m ∧ (if ky pt 8 a < m then ky pt 8 a else m) ≤ ky pt 8 a := by split <;> omega
    refine ⟨by omega, ?_, ?_⟩
    · intro e he
      rcases List.mem_cons.mp he with h | h
      · rw [h]; show mnl pt (if ky pt 8 a < m then ky pt 8 a else m) L ≤ _; omega
      · exact h2 e h
    · rcases h3 with h | ⟨e, he, h⟩
      · by_cases c : ky pt 8 a < m
        · rw [if_pos c] at h
          refine Or.inr ⟨a, List.mem_cons_self, ?_⟩
          show mnl pt (if ky pt 8 a < m then ky pt 8 a else m) L = _
          rw [if_pos c]
          exact h
        · rw [if_neg c] at h
          refine Or.inl ?_
          show mnl pt (if ky pt 8 a < m then ky pt 8 a else m) L = _
          rw [if_neg c]
          exact h
      · exact Or.inr ⟨e, List.mem_cons_of_mem _ he, h⟩
theorem priceAt_ok {N : Nat} {q : Qd} {σ : CSt} {S : Nat} {e : Ent} {pt : Nat} (hp : pt < 2 ^ 31) : fP_priceAt N σ (pl q S e) (nI pt) = some (lN (ky pt 8 e)) := by
  unfold fP_priceAt pl ky
  show some (lN (eA e) * 8 + lN (eB e) * (nI pt).toInt64) = _
  rw [nI_l hp, l8, lN_mul, lN_mul, lN_add]
theorem least_in {N : Nat} {q : Qd} {σ : CSt} {E : List Ent} (hR : Rw q σ E) (h120 : E.length ≤ 120) (hb : ∀ e, e ∈ E → eA e < 2 ^ 26 ∧ eB e < 2 ^ 26) (K : CSt → Int32 → Int64 → Option CSt) {pt : Nat} (hp : pt < 33) : ∀ (n m j x : Nat), j + m = E.length → m < n → x < 2 ^ 63 → fS_findLeastPrices_L15 N K n σ (nI pt) (lN x) (nI j) = K σ (nI pt) (lN (mnl pt x (E.drop j))) := by
  intro n
  induction n with
  | zero => intro m j x _ h; omega
  | succ n ih =>
    intro m j x hj hn hx
    rw [fS_findLeastPrices_L15, hR.1]
    cases m with
    | zero =>
      rw [if_pos (nI_le (by omega) (by omega)), List.drop_eq_nil_of_le (by omega)]
      rfl
    | succ m =>
      obtain ⟨e, he, hd⟩ := drop_at (A := E) (j := j) (by omega)
      have be := hb e (List.mem_of_getElem? he)
      have hk := ky_lt (up := pt) (dn := 8) (by omega) (by omega) be
      rw [if_neg (nI_ge (by omega) (by omega)), planOf_ok hR h120 he, bs, hd, onS, priceAt_ok (by omega), bs, nI_1]
      have e1 : (if lN (ky pt 8 e) < lN x then lN (ky pt 8 e) else lN x) = lN (if ky pt 8 e < x then ky pt 8 e else x) := by
        by_cases c : ky pt 8 e < x
        · rw [if_pos c, if_pos ((pk_lLT hk hx).mpr c)]
        · rw [if_neg c, if_neg (fun h => c ((pk_lLT hk hx).mp h))]
      rw [e1]
      exact ih m (j + 1) _ (by omega) (by omega) (by split <;> omega)
theorem least_out {N : Nat} (hN : 200 ≤ N) {q : Qd} {E : List Ent} (h120 : E.length ≤ 120) (hb : ∀ e, e ∈ E → eA e < 2 ^ 26 ∧ eB e < 2 ^ 26) : ∀ (n m pt : Nat) (σ : CSt), pt + m = 33 → m < n → Rw q σ E → (∀ p, p < pt → σ.2.2.2.1 505 p = lN (mnl p (2 ^ 63 - 1) E)) → ∃ σ', fS_findLeastPrices_L2 N n σ (nI pt) = some σ' ∧ FS σ σ' ∧ Rw q σ' E ∧ σ'.2.2.2.1 503 = σ.2.2.2.1 503 ∧ σ'.2.2.2.1 504 = σ.2.2.2.1 504 ∧ ∀ p, p < 33 → σ'.2.2.2.1 505 p = lN (mnl p (2 ^ 63 - 1) E) := by
  intro n
  induction n with
  | zero => intro m pt σ _ h; omega
  | succ n ih =>
    intro m pt σ hm hn hR h5
    rw [fS_findLeastPrices_L2]
    cases m with
    | zero =>
      rw [if_pos (show (33 : Int32) ≤ nI pt from nI_le (a := 33) (by omega) (by omega))]
      exact ⟨σ, rfl, FS.refl σ, hR, rfl, rfl, fun p hp => h5 p (by omega)⟩
    | succ m =>
      have hin := least_in (N := N) hR h120 hb (fun (σ : CSt) (x1 : Int32) (x2 : Int64) => chk x1 33 (fS_findLeastPrices_L2 N n (cB σ 505 x1.toNatClampNeg x2) (x1 + 1))) (pt := pt) (by omega) N E.length 0 (2 ^ 63 - 1) (by omega) (by omega) (by omega)
      rw [nI_0] at hin
      rw [if_neg (show ¬ (33 : Int32) ≤ nI pt from nI_ge (b := 33) (by omega) (by omega)), show (9223372036854775807 : Int64) = lN (2 ^ 63 - 1) from rfl, hin, chk_nI (by omega) (by omega), nI_cl (by omega), nI_1, List.drop_zero]
      obtain ⟨σ', a1, a2, a3, a4, a5, a6⟩ := ih m (pt + 1) (cB σ 505 pt (lN (mnl pt (2 ^ 63 - 1) E))) (by omega) (by omega) hR (by
        intro p hp
        rw [cB_4, if_pos rfl, updL_at]
        by_cases c : p = pt
        · rw [if_pos c, c]
        · rw [if_neg c]; exact h5 p (by omega))
      have f1 : FS σ (cB σ 505 pt (lN (mnl pt (2 ^ 63 - 1) E))) := ⟨fun _ _ _ => rfl, fun _ _ => rfl, fun k _ h => by rw [cB_4, if_neg (by omega)], fun _ _ => rfl, rfl⟩
      exact ⟨σ', a1, f1.trans a2, a3, a4, a5, a6⟩
/-- the numbers of a border, before they are made small -/
def Bd (E : List Ent) (i u v : Nat) : Prop := (i = 0 ∧ u = 0 ∧ v = 1) ∨ (0 < i ∧ ∃ e f, E[i - 1]? = some e ∧ E[i]? = some f ∧ u = eA f - eA e ∧ v = eB e - eB f)
def BdC (σ : CSt) (i u v : Nat) : Prop := σ.2.2.2.1 503 i = lN (u / Nat.gcd u v) ∧ σ.2.2.2.1 504 i = lN (v / Nat.gcd u v)
/-- the spans are at hand -/
def Spanned (q : Qd) (σ : CSt) : Prop := ∃ E, Chn (fl q (2 ^ qT q - 1)) E ∧ E.length ≤ 120 ∧ Rw q σ E ∧ (∀ i u v, i < E.length → Bd E i u v → BdC σ i u v) ∧ BdC σ E.length 4 1 ∧ ∀ p e, p < 33 → Lst p 8 0 (fl q (2 ^ qT q - 1)) e → σ.2.2.2.1 505 p = lN (ky p 8 e)
theorem mnl_Lst {q : Qd} (hq : WfQ q) {E : List Ent} (hE : Chn (fl q (2 ^ qT q - 1)) E) {p : Nat} (hp : p < 33) {e : Ent} (he : Lst p 8 0 (fl q (2 ^ qT q - 1)) e) : mnl p (2 ^ 63 - 1) E = ky p 8 e := by
  have hT := hq.1
  have h16 : 2 ^ qT q ≤ 16 := Nat.pow_le_pow_right (n := 2) (by omega) hT
  obtain ⟨f, hf, hmin⟩ := env hE (show p ≤ 32 by omega)
  obtain ⟨h1, h2, h3⟩ := mnl_ok p E (2 ^ 63 - 1)
  have a1 := hmin e he.1
  have a2 := h2 f hf
  have be := fl_bd hq (show 2 ^ qT q - 1 < 16 by omega) he.1
  have hk := ky_lt (up := p) (dn := 8) (by omega) (by omega) ⟨be.2.1, be.2.2⟩
  have z : ∀ g, g ∈ fl q (2 ^ qT q - 1) → ky p 8 e ≤ ky p 8 g := fun g hg => by
    have := he.2 g hg
    unfold leE at this
    omega
  have a3 := z f (hE.2.1 f hf)
  rcases h3 with h | ⟨g, hg, h⟩
  · omega
  · have := z g (hE.2.1 g hg)
    omega
theorem find_end {N : Nat} (hN : 200 ≤ N) {q : Qd} (hq : WfQ q) {E : List Ent} {σ : CSt} (hE : Chn (fl q (2 ^ qT q - 1)) E) (h120 : E.length ≤ 120) (hR : Rw q σ E) (hbd : ∀ i u v, 0 < i → i < E.length → Bd E i u v → BdC σ i u v) : ∃ σ', ((fS_setBorder N σ (0 : Int32) (0 : Int64) (1 : Int64)).bind fun r_203 => (fS_setBorder N r_203 (r_203.1 500) (4 : Int64) (1 : Int64)).bind fun r_215 => (fS_findLeastPrices N r_215).bind fun r_219 => some r_219) = some σ' ∧ FS σ σ' ∧ Spanned q σ' := by
  have hT := hq.1
  have h16 : 2 ^ qT q ≤ 16 := Nat.pow_le_pow_right (n := 2) (by omega) hT
  have hlen : 0 < E.length := List.length_pos_iff.mpr hE.1
  have hb : ∀ e, e ∈ E → eA e < 2 ^ 26 ∧ eB e < 2 ^ 26 := fun e he => by
    have := fl_bd hq (show 2 ^ qT q - 1 < 16 by omega) (hE.2.1 e he)
    exact ⟨this.2.1, this.2.2⟩
  have s1 := setBorder_ok (N := N) hN (σ := σ) (i := 0) (u := 0) (v := 1) (by omega) (by omega) (by omega) (by omega)
  rw [show (0 : Int32) = nI 0 from rfl, show (0 : Int64) = lN 0 from rfl, show (1 : Int64) = lN 1 from rfl, s1, bs]
  have h5 : (setB σ 0 0 1).1 500 = nI E.length := hR.1
  rw [h5, show (4 : Int64) = lN 4 from rfl, setBorder_ok (N := N) hN h120 (by omega) (by omega) (by omega), bs]
  obtain ⟨σ', a1, a2, a3, a4, a5, a6⟩ := least_out (N := N) hN (q := q) h120 hb N 33 0 (setB (setB σ 0 0 1) E.length 4 1) (by omega) (by omega) (Rw_setB _ _ _ (Rw_setB _ _ _ hR)) (fun p hp => by omega)
  rw [nI_0] at a1
  unfold fS_findLeastPrices
  rw [a1, bs]
  refine ⟨σ', rfl, ((setB_FS _ _ _ _).trans (setB_FS _ _ _ _)).trans a2, E, hE, h120, a3, ?_, ?_, ?_⟩
  · intro i u v hi hB
    unfold BdC
    rw [a4, a5, setB_3, setB_4, if_neg (by omega), if_neg (by omega), setB_3, setB_4]
    by_cases c : i = 0
    · rw [if_pos c, if_pos c]
      rcases hB with ⟨-, h1, h2⟩ | ⟨h, -⟩
      · rw [h1, h2]; exact ⟨rfl, rfl⟩
      · omega
    · rw [if_neg c, if_neg c]
      exact hbd i u v (by omega) hi hB
  · unfold BdC
    rw [a4, a5, setB_3, setB_4, if_pos rfl, if_pos rfl]
    exact ⟨rfl, rfl⟩
  · intro p e hp he
    rw [a6 p hp, mnl_Lst hq hE hp he]
