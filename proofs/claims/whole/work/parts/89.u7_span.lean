/-! the reference's spans -/
theorem Nx_Cd {F : List Ent} {e f : Ent} (h : Nx F e f) : Cd e f := ⟨h.1, h.2.2.1⟩
/-- the next one beats all that may come next -/
theorem Nx_Bt {F : List Ent} {e f k : Ent} (h : Nx F e f) (hk : k ∈ F) (hc : Cd e k) (hA : eA e < eA k) : ¬ Bt e k f ∧ (eC k ≠ eC f → Bt e f k) := by
  have hs := cr_same h.1 (Nat.le_of_lt h.2.1)
  have hle := h.2.2.2.2 k hk
  rw [leM, ← hs] at hle
  have k1 := kyI (eA f - eA e) (eB e - eB f) e
  have k2 := kyI (eA f - eA e) (eB e - eB f) k
  have e1 : ((eA k - eA e : Nat) : Int) = (eA k : Int) - eA e := by omega
  have e2 : ((eB e - eB k : Nat) : Int) = (eB e : Int) - eB k := by have := hc.1; omega
  have X : (((eA k - eA e) * (eB e - eB f) : Nat) : Int) - (((eA f - eA e) * (eB e - eB k) : Nat) : Int) = ((ky (eA f - eA e) (eB e - eB f) k : Nat) : Int) - (ky (eA f - eA e) (eB e - eB f) e : Nat) := by
    rw [k1, k2]
    push_cast
    rw [e1, e2]
    generalize ((eB e - eB f : Nat) : Int) = b
    generalize ((eA f - eA e : Nat) : Int) = a
    grind
  unfold Bt
  generalize (eA k - eA e) * (eB e - eB f) = P at *
  generalize (eA f - eA e) * (eB e - eB k) = Q at *
  constructor
  · omega
  · intro hne
    omega
theorem next_loop {N : Nat} {q : Qd} (hq : WfQ q) {τ : MSt} (hL : Listed q τ) (K : MSt → Int64 → Int64 → Int32 → Option MSt) {u v ie jf : Nat} {e f : Ent} (hv : 0 < v) (hLe : Lst u v (-1) (fl q (2 ^ qT q - 1)) e) (hie : ie < 5000) (Ae : At τ ie e) (hNx : Nx (fl q (2 ^ qT q - 1)) e f) (hf : (fl q (2 ^ qT q - 1))[jf]? = some f) : ∀ (n m j : Nat) (x2 x4 : Int64) (x8 : Int32), j + m = (fl q (2 ^ qT q - 1)).length → m < n → (x8 = -1 ∨ ∃ h, St q e x2 x4 x8 h) → (jf < j → St q e x2 x4 x8 f) → ∃ x2' x4' x8', fM_span_L216 N K n τ (nI ie) x2 x4 x8 (nI (off q (2 ^ qT q - 1) + j)) = K τ x2' x4' x8' ∧ St q e x2' x4' x8' f := by
  have hT := hq.1
  have h16 : 2 ^ qT q ≤ 16 := Nat.pow_le_pow_right (n := 2) (by omega) hT
  have hle := top_le hq
  have hjf := (List.getElem?_eq_some_iff.mp hf).1
  have hfm := List.mem_of_getElem? hf
  intro n
  induction n with
  | zero => intro m j x2 x4 x8 _ h; omega
  | succ n ih =>
    intro m j x2 x4 x8 hj hn hst hfst
    cases m with
    | zero =>
      rw [fM_span_L216, top_22 hL, if_pos (nI_le (by omega) (by omega))]
      exact ⟨x2, x4, x8, rfl, hfst (by omega)⟩
    | succ m =>
      have hk : (fl q (2 ^ qT q - 1))[j]? = some (fl q (2 ^ qT q - 1))[j] := List.getElem?_eq_getElem (by omega)
      generalize (fl q (2 ^ qT q - 1))[j] = k at hk
      have hkm := List.mem_of_getElem? hk
      obtain ⟨y2, y4, y8, h1, h2⟩ := next_step (N := N) hq hL K hv hLe hie Ae hk n x2 x4 x8 hst
      rw [h1]
      have stx : ∀ h, St q e x2 x4 x8 h → ¬ x8 = -1 := by
        rintro h ⟨-, b, hb, rfl, -⟩
        have hbl := (List.getElem?_eq_some_iff.mp hb).1
        exact nI_ne_m1 (by omega)
      have same : ∀ h h', St q e x2 x4 x8 h → St q e x2 x4 x8 h' → h = h' := by
        rintro h h' ⟨-, b, hb, e8, -⟩ ⟨-, b', hb', e8', -⟩
        have hbl := (List.getElem?_eq_some_iff.mp hb).1
        have hbl' := (List.getElem?_eq_some_iff.mp hb').1
        rw [e8] at e8'
        have := (nI_eq (show off q (2 ^ qT q - 1) + b < 2 ^ 31 by omega) (show off q (2 ^ qT q - 1) + b' < 2 ^ 31 by omega)).mp e8'
        have : b = b' := by omega
        rw [this, hb'] at hb
        exact (Option.some.inj hb).symm
      refine ih m (j + 1) y2 y4 y8 (by omega) (by omega) ?_ ?_
      · rcases h2 with ⟨-, rfl, rfl, rfl⟩ | ⟨-, -, h⟩ | ⟨h, -, hs, ⟨-, h3⟩ | ⟨-, rfl, rfl, rfl⟩⟩
        · exact hst
        · exact Or.inr ⟨k, h⟩
        · exact Or.inr ⟨k, h3⟩
        · exact hst
      · intro hlt
        by_cases c : jf = j
        · subst c
          rw [hf] at hk
          have hkf := Option.some.inj hk
          subst hkf
          rcases h2 with ⟨h, -⟩ | ⟨-, -, h⟩ | ⟨h, -, hs, ⟨-, h3⟩ | ⟨hb, rfl, rfl, rfl⟩⟩
          · exact absurd (Nx_Cd hNx) h
          · exact h
          · exact h3
          · have hhm : h ∈ fl q (2 ^ qT q - 1) := by
              obtain ⟨-, b, hb', -⟩ := hs
              exact List.mem_of_getElem? hb'
            by_cases ce : eC h = eC f
            · have := fl_inj hq (show 2 ^ qT q - 1 < 16 by omega) hhm hfm ce
              rw [this] at hs
              exact hs
            · exact absurd ((Nx_Bt hNx hhm hs.1 (lst_A hv hLe hhm hs.1.1)).2 ce) hb
        · have hsf := hfst (by omega)
          rcases h2 with ⟨-, rfl, rfl, rfl⟩ | ⟨-, h, -⟩ | ⟨h, hc, hs, ⟨hb, h3⟩ | ⟨-, rfl, rfl, rfl⟩⟩
          · exact hsf
          · exact absurd h (stx f hsf)
          · have := same h f hs hsf
            rw [this] at hb
            exact absurd hb (Nx_Bt hNx hkm hc (lst_A hv hLe hkm hc.1)).1
          · exact hsf
theorem none_next {N : Nat} {q : Qd} (hq : WfQ q) {τ : MSt} (hL : Listed q τ) (K : MSt → Int64 → Int64 → Int32 → Option MSt) {u v ie : Nat} {e : Ent} (hv : 0 < v) (hLe : Lst u v (-1) (fl q (2 ^ qT q - 1)) e) (hie : ie < 5000) (Ae : At τ ie e) (h4 : ∀ g, g ∈ fl q (2 ^ qT q - 1) → ky 4 1 e ≤ ky 4 1 g) (x2 x4 : Int64) : ∀ (n m j : Nat), j + m = (fl q (2 ^ qT q - 1)).length → m < n → fM_span_L216 N K n τ (nI ie) x2 x4 (-1) (nI (off q (2 ^ qT q - 1) + j)) = K τ x2 x4 (-1) := by
  have hle := top_le hq
  intro n
  induction n with
  | zero => intro m j _ h; omega
  | succ n ih =>
    intro m j hj hn
    cases m with
    | zero => rw [fM_span_L216, top_22 hL, if_pos (nI_le (by omega) (by omega))]
    | succ m =>
      have hk : (fl q (2 ^ qT q - 1))[j]? = some (fl q (2 ^ qT q - 1))[j] := List.getElem?_eq_getElem (by omega)
      generalize (fl q (2 ^ qT q - 1))[j] = k at hk
      have hkm := List.mem_of_getElem? hk
      obtain ⟨y2, y4, y8, h1, h2⟩ := next_step (N := N) hq hL K hv hLe hie Ae hk n x2 x4 (-1) (Or.inl rfl)
      have hno : ¬ Cd e k := by
        intro hc
        have hA := lst_A hv hLe hkm hc.1
        have := h4 k hkm
        obtain ⟨c1, c2⟩ := hc
        unfold ky at this
        omega
      rw [h1]
      rcases h2 with ⟨-, rfl, rfl, rfl⟩ | ⟨h, -⟩ | ⟨h, hc, -⟩
      · exact ih m (j + 1) (by omega) (by omega)
      · exact absurd h hno
      · exact absurd hc hno
/-- the reference's spans, up to i -/
def SpM (τ : MSt) (E : List Ent) (n : Nat) : Prop := τ.1 26 = nI n ∧ ∀ i e, i < n → E[i]? = some e → (∃ x, x < 5000 ∧ τ.2.2.1 23 i = nI x ∧ At τ x e) ∧ ∀ u v, Bd E i u v → τ.2.2.2 24 i = lN (u / Nat.gcd u v) ∧ τ.2.2.2 25 i = lN (v / Nat.gcd u v)
def emit (τ : MSt) (i : Nat) (x : Int32) (a b : Int64) : MSt := sI (sB (sB (sA τ 23 i x) 24 i a) 25 i b) 26 (nI (i + 1))
theorem emit_Listed {q : Qd} {τ : MSt} (i : Nat) (x : Int32) (a b : Int64) (h : Listed q τ) : Listed q (emit τ i x a b) := h
theorem emit_FrS (τ : MSt) (i : Nat) (x : Int32) (a b : Int64) : FrS τ (emit τ i x a b) := ⟨fun k h1 h2 => by unfold emit; rw [sI_1, if_neg h2]; rfl, fun k h1 h2 => by unfold emit; rw [sI_2, sB_3, sB_3, sA_3, if_neg h2]⟩
theorem emit_SpM {τ : MSt} {E : List Ent} {i u v x : Nat} {e : Ent} (h : SpM τ E i) (he : E[i]? = some e) (hB : Bd E i u v) (hx : x < 5000) (hA : At τ x e) : SpM (emit τ i (nI x) (lN (u / Nat.gcd u v)) (lN (v / Nat.gcd u v))) E (i + 1) := by
  refine ⟨rfl, ?_⟩
  intro j f hj hf
  have a23 : (emit τ i (nI x) (lN (u / Nat.gcd u v)) (lN (v / Nat.gcd u v))).2.2.1 23 j = if j = i then nI x else τ.2.2.1 23 j := upd_at _ _ _ _
  have a24 : (emit τ i (nI x) (lN (u / Nat.gcd u v)) (lN (v / Nat.gcd u v))).2.2.2 24 j = if j = i then lN (u / Nat.gcd u v) else τ.2.2.2 24 j := updL_at _ _ _ _
  have a25 : (emit τ i (nI x) (lN (u / Nat.gcd u v)) (lN (v / Nat.gcd u v))).2.2.2 25 j = if j = i then lN (v / Nat.gcd u v) else τ.2.2.2 25 j := updL_at _ _ _ _
  rw [a23, a24, a25]
  by_cases c : j = i
  · subst c
    rw [he] at hf
    have hf := Option.some.inj hf
    subst hf
    rw [if_pos rfl, if_pos rfl, if_pos rfl]
    refine ⟨⟨x, hx, rfl, hA⟩, ?_⟩
    intro u' v' hB'
    have : u' = u ∧ v' = v := by
      rcases hB with ⟨b1, b2, b3⟩ | ⟨b1, e1, f1, b2, b3, b4, b5⟩ <;> rcases hB' with ⟨d1, d2, d3⟩ | ⟨d1, e2, f2, d2, d3, d4, d5⟩
      · omega
      · omega
      · omega
      · rw [b2] at d2
        rw [b3] at d3
        rw [b4, b5, d4, d5, Option.some.inj d2, Option.some.inj d3]
        exact ⟨rfl, rfl⟩
    rw [this.1, this.2]
    exact ⟨rfl, rfl⟩
  · rw [if_neg c, if_neg c, if_neg c]
    exact h.2 j f (by omega) hf
theorem span_go {N : Nat} (hN : 5000 ≤ N) {q : Qd} (hq : WfQ q) (h0 : 0 < qT q) {E : List Ent} (hE : Chn (fl q (2 ^ qT q - 1)) E) (h120 : E.length ≤ 120) : ∀ (n m i : Nat) (e : Ent) (u v x : Nat) (τ : MSt), i + m + 1 = E.length → m + 1 < n → E[i]? = some e → Bd E i u v → 0 < v → u < 2 ^ 26 → v < 2 ^ 26 → Lst u v (-1) (fl q (2 ^ qT q - 1)) e → MQd q τ → Listed q τ → x < 5000 → At τ x e → SpM τ E i → ∃ τ', fM_span_L131 N n τ (nI x) (lN u) (lN v) = some τ' ∧ FrS τ τ' ∧ Listed q τ' ∧ SpM τ' E E.length := by
  have hT := hq.1
  have h16 : 2 ^ qT q ≤ 16 := Nat.pow_le_pow_right (n := 2) (by omega) hT
  have h2 : 2 ^ 1 ≤ 2 ^ qT q := Nat.pow_le_pow_right (n := 2) (by omega) h0
  have hle := top_le hq
  intro n
  induction n with
  | zero => intro m i e u v x τ _ h; omega
  | succ n ih =>
    intro m i e u v x τ hi hn he hB hv hu26 hv26 hLe hM hL hx hA hS
    have hg := Nat.gcd_pos_of_pos_right u hv
    have hg2 : Nat.gcd u v ≤ v := Nat.gcd_le_right u hv
    have gz : ¬ lN (Nat.gcd u v) = (0 : Int64) := fun h => by have := (pk_lEQ (b := 0) (show Nat.gcd u v < 2 ^ 63 by omega) (by omega)).mp h; omega
    have hJ : ∀ K : MSt → Int32 → Int64 → Int64 → Option MSt, fM_span_J163 N K (sA τ 23 i (nI x)) (nI x) (lN u) (lN v) (lN (Nat.gcd u v)) = fM_span_L216 N (fun (σ : MSt) (x2 : Int64) (x4 : Int64) (x8 : Int32) => K σ x8 x2 x4) N (emit τ i (nI x) (lN (u / Nat.gcd u v)) (lN (v / Nat.gcd u v))) (nI x) (lN u) (lN v) (-1) (nI (off q (2 ^ qT q - 1))) := by
      intro K
      unfold fM_span_J163 nz64
      have e26 : ∀ a b : Int64, (sA τ 23 i (nI x)).1 26 = nI i := fun _ _ => hS.1
      simp only [sB_1, sA_1, hS.1, chk_nI (show i < 5000 by omega) (show 5000 < 2 ^ 31 by omega), if_neg gz, nI_cl (show i < 2 ^ 31 by omega), nI_1, pk_lDiv (show u < 2 ^ 63 by omega) hg (show Nat.gcd u v < 2 ^ 63 by omega), pk_lDiv (show v < 2 ^ 63 by omega) hg (show Nat.gcd u v < 2 ^ 63 by omega)]
      show (fM_all N (emit τ i (nI x) (lN (u / Nat.gcd u v)) (lN (v / Nat.gcd u v)))).bind _ = _
      rw [all_M hq (MQd_FrS (emit_FrS _ _ _ _ _) hM), bs, chk_nI (by omega) (by omega), nI_cl (by omega)]
      have := (emit_Listed i (nI x) (lN (u / Nat.gcd u v)) (lN (v / Nat.gcd u v)) hL).2 (2 ^ qT q - 1) (by omega) (by omega)
      show fM_span_L216 N _ N (emit τ i (nI x) (lN (u / Nat.gcd u v)) (lN (v / Nat.gcd u v))) (nI x) (lN u) (lN v) (-1) ((emit τ i (nI x) (lN (u / Nat.gcd u v)) (lN (v / Nat.gcd u v))).2.2.1 16 (2 ^ qT q - 1)) = _
      rw [this]
    have hd : (if lg_cmp (lN u) (0 : Int64) = 0 then fM_span_J163 N (fun (σ : MSt) (x1 : Int32) (x2 : Int64) (x4 : Int64) => fM_span_L131 N n σ x1 x2 x4) (sA τ 23 i (nI x)) (nI x) (lN u) (lN v) (lN v) else (fM_divisor N (sA τ 23 i (nI x)) (lN u) (lN v)).bind fun r_160 => fM_span_J163 N (fun (σ : MSt) (x1 : Int32) (x2 : Int64) (x4 : Int64) => fM_span_L131 N n σ x1 x2 x4) (sA τ 23 i (nI x)) (nI x) (lN u) (lN v) r_160) = fM_span_J163 N (fun (σ : MSt) (x1 : Int32) (x2 : Int64) (x4 : Int64) => fM_span_L131 N n σ x1 x2 x4) (sA τ 23 i (nI x)) (nI x) (lN u) (lN v) (lN (Nat.gcd u v)) := by
      by_cases c : u = 0
      · subst c
        rw [if_pos (show lg_cmp (lN 0) (0 : Int64) = 0 from cmp_same _), Nat.gcd_zero_left]
      · rw [if_neg (show ¬ lg_cmp (lN u) (0 : Int64) = 0 from fun h => c ((cmp_eq0 (b := 0) (show u < 2 ^ 63 by omega) (by omega)).mp h))]
        unfold fM_divisor
        rw [eu_M 26 u v N (by omega) (by omega) hv26 (by omega), bs]
    rw [fM_span_L131, if_neg (nI_pos (by omega)), hS.1, chk_nI (by omega) (by omega), nI_cl (by omega), hd, hJ]
    have L2 := emit_Listed i (nI x) (lN (u / Nat.gcd u v)) (lN (v / Nat.gcd u v)) hL
    have F2 := emit_FrS τ i (nI x) (lN (u / Nat.gcd u v)) (lN (v / Nat.gcd u v))
    have S2 := emit_SpM hS he hB hx hA
    have A2 : At (emit τ i (nI x) (lN (u / Nat.gcd u v)) (lN (v / Nat.gcd u v))) x e := hA
    have M2 := MQd_FrS F2 hM
    generalize emit τ i (nI x) (lN (u / Nat.gcd u v)) (lN (v / Nat.gcd u v)) = τ2 at L2 F2 S2 A2 M2
    cases m with
    | zero =>
      have h4 := hE.2.2.2.2 e (by rw [← hi]; exact he)
      have hnn := none_next (N := N) hq L2 (fun (σ : MSt) (x2 : Int64) (x4 : Int64) (x8 : Int32) => fM_span_L131 N n σ x8 x2 x4) hv hLe hx A2 h4 (lN u) (lN v) N (fl q (2 ^ qT q - 1)).length 0 (by omega) (by omega)
      rw [Nat.add_zero] at hnn
      rw [hnn]
      obtain ⟨n, rfl⟩ : ∃ k, n = k + 1 := ⟨n - 1, by omega⟩
      rw [fM_span_L131, if_pos (by decide)]
      exact ⟨τ2, rfl, F2, L2, by rw [← hi]; exact S2⟩
    | succ m =>
      have hf : E[i + 1]? = some E[i + 1] := List.getElem?_eq_getElem (by omega)
      generalize E[i + 1] = f at hf
      have hNx := hE.2.2.2.1 i e f he hf
      obtain ⟨jf, hjf⟩ := List.getElem?_of_mem hNx.2.2.2.1
      have bf := fl_bd hq (show 2 ^ qT q - 1 < 16 by omega) hNx.2.2.2.1
      have be := fl_bd hq (show 2 ^ qT q - 1 < 16 by omega) hLe.1
      obtain ⟨y2, y4, y8, g1, -, b, hb, rfl, rfl, rfl⟩ := next_loop (N := N) hq L2 (fun (σ : MSt) (x2 : Int64) (x4 : Int64) (x8 : Int32) => fM_span_L131 N n σ x8 x2 x4) hv hLe hx A2 hNx hjf N (fl q (2 ^ qT q - 1)).length 0 (lN u) (lN v) (-1) (by omega) (by omega) (Or.inl rfl) (fun h => by omega)
      rw [Nat.add_zero] at g1
      rw [g1]
      have hbl := (List.getElem?_eq_some_iff.mp hb).1
      have hB1 := hNx.1
      obtain ⟨τ3, a1, a2, a3⟩ := ih m (i + 1) f (eA f - eA e) (eB e - eB f) (off q (2 ^ qT q - 1) + b) τ2 (by omega) (by omega) hf (Or.inr ⟨by omega, e, f, he, hf, rfl, rfl⟩) (by omega) (by omega) (by omega) hNx.2.2.2 M2 L2 (by omega) (top_At L2 hb) S2
      exact ⟨τ3, a1, F2.trans a2, a3⟩
theorem span_ok {N : Nat} (hN : 5000 ≤ N) {q : Qd} (hq : WfQ q) (hW : Whole q) {E : List Ent} (hE : Chn (fl q (2 ^ qT q - 1)) E) (h120 : E.length ≤ 120) {τ : MSt} (hM : MQd q τ) : ∃ τ', fM_span N τ = some τ' ∧ FrS τ τ' ∧ Listed q τ' ∧ SpM τ' E E.length := by
  have hT := hq.1
  have h16 : 2 ^ qT q ≤ 16 := Nat.pow_le_pow_right (n := 2) (by omega) hT
  have h2 : 2 ^ 1 ≤ 2 ^ qT q := Nat.pow_le_pow_right (n := 2) (by omega) hW.1
  have hle := top_le hq
  have hne := whole_fl hq hW
  have hlen : 0 < (fl q (2 ^ qT q - 1)).length := List.length_pos_iff.mpr hne
  obtain ⟨τ1, l1, l2, l3⟩ := list_ok hN hq hM
  have f1 : FrS τ1 (sI τ1 26 0) := ⟨fun k _ h => by rw [sI_1, if_neg h], fun _ _ _ => rfl⟩
  have L1 : Listed q (sI τ1 26 0) := l2
  have M1 := MQd_FrS (l3.FrS.trans f1) hM
  unfold fM_span
  rw [l1, bs]
  have S1 : SpM (sI τ1 26 0) E 0 := ⟨rfl, fun i e h => by omega⟩
  have F1 := l3.FrS.trans f1
  generalize sI τ1 26 (0 : Int32) = τ2 at f1 L1 M1 S1 F1
  have hf : (fl q (2 ^ qT q - 1))[0]? = some (fl q (2 ^ qT q - 1))[0] := List.getElem?_eq_getElem hlen
  rw [all_M hq M1, bs, chk_nI (by omega) (by omega), nI_cl (by omega), L1.2 (2 ^ qT q - 1) (by omega) (by omega)]
  obtain ⟨b, e, g1, g2, g3⟩ := first_loop (N := N) hq L1 (fun (σ : MSt) (x1 : Int32) => fM_span_L131 N N σ x1 (0 : Int64) (1 : Int64)) N (fl q (2 ^ qT q - 1)).length 0 0 _ (by omega) (by omega) hf (fun i f h => by omega)
  rw [Nat.add_zero] at g1
  rw [g1]
  have hbl := (List.getElem?_eq_some_iff.mp g2).1
  have hE0 : 0 < E.length := List.length_pos_iff.mpr hE.1
  have he0 : E[0]? = some E[0] := List.getElem?_eq_getElem hE0
  have hl0 := hE.2.2.1 _ he0
  have heq : e = E[0] := Lst_uniq hq (show 2 ^ qT q - 1 < 16 by omega) ⟨List.mem_of_getElem? g2, g3⟩ hl0
  rw [← heq] at he0 hl0
  obtain ⟨τ3, a1, a2, a3⟩ := span_go hN hq hW.1 hE h120 N (E.length - 1) 0 e 0 1 (off q (2 ^ qT q - 1) + b) τ2 (by omega) (by omega) he0 (Or.inl ⟨rfl, rfl, rfl⟩) (by omega) (by omega) (by omega) hl0 M1 L1 (by omega) (top_At L1 g2) S1
  exact ⟨τ3, a1, F1.trans a2, a3⟩
