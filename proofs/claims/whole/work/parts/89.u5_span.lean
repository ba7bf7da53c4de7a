/-! the class's search for the spans -/
def ins1 (E : List Ent) (i : Nat) (g : Ent) : List Ent := E.take i ++ g :: E.drop i
theorem ins1_get {E : List Ent} {i : Nat} (hi : i ≤ E.length) (g : Ent) (j : Nat) : (ins1 E i g)[j]? = if j < i then E[j]? else if j = i then some g else E[j - 1]? := by
  unfold ins1
  have hl : (E.take i).length = i := by rw [List.length_take]; omega
  by_cases c1 : j < i
  · rw [if_pos c1, List.getElem?_append_left (by omega), List.getElem?_take_of_lt c1]
  · rw [if_neg c1, List.getElem?_append_right (by omega), hl]
    by_cases c2 : j = i
    · rw [if_pos c2, c2, Nat.sub_self]; rfl
    · rw [if_neg c2, show j - i = (j - 1 - i) + 1 by omega, List.getElem?_cons_succ, List.getElem?_drop, show i + (j - 1 - i) = j - 1 by omega]
theorem ins1_len {E : List Ent} {i : Nat} (hi : i ≤ E.length) (g : Ent) : (ins1 E i g).length = E.length + 1 := by
  unfold ins1
  simp only [List.length_append, List.length_take, List.length_cons, List.length_drop]
  omega
def Gd (F E : List Ent) : Prop := E ≠ [] ∧ (∀ e, e ∈ E → Kn F e) ∧ (∀ (j k : Nat) (e f : Ent), j < k → E[j]? = some e → E[k]? = some f → eB f < eB e) ∧ (∀ e, E[0]? = some e → Lst 0 1 (-1) F e) ∧ ∀ e, E[E.length - 1]? = some e → ∀ g, g ∈ F → ky 4 1 e ≤ ky 4 1 g
theorem Kn_F {F : List Ent} {e : Ent} (h : Kn F e) : e ∈ F := by
  rcases h with ⟨u, v, -, -, h⟩ | h
  · exact h.1
  · exact h.1
theorem Gd_nodup {F E : List Ent} (h : Gd F E) : (E.map eB).Nodup := by
  rw [List.Nodup, List.pairwise_map, List.pairwise_iff_getElem]
  intro i j hi hj hij
  have := h.2.2.1 i j _ _ hij (List.getElem?_eq_getElem hi) (List.getElem?_eq_getElem hj)
  omega
theorem Gd_ins {F E : List Ent} (h : Gd F E) {i : Nat} {e f g : Ent} (he : E[i]? = some e) (hf : E[i + 1]? = some f) (hg : Kn F g) (h1 : eB g < eB e) (h2 : eB f < eB g) : Gd F (ins1 E (i + 1) g) := by
  have hi := (List.getElem?_eq_some_iff.mp hf).1
  have hget := fun j => ins1_get (E := E) (i := i + 1) (by omega) g j
  have hlen := ins1_len (E := E) (i := i + 1) (by omega) g
  refine ⟨?_, ?_, ?_, ?_, ?_⟩
  · intro c
    rw [c] at hlen
    simp at hlen
  · intro x hx
    obtain ⟨j, hj⟩ := List.getElem?_of_mem hx
    rw [hget] at hj
    split at hj
    · exact h.2.1 x (List.mem_of_getElem? hj)
    · split at hj
      · rw [← Option.some.inj hj]; exact hg
      · exact h.2.1 x (List.mem_of_getElem? hj)
  · intro j k x y hjk hx hy
    rw [hget] at hx hy
    have before : ∀ j x, j < i + 1 → E[j]? = some x → eB e ≤ eB x := by
      intro j x hj hx
      by_cases c : j = i
      · rw [c, he] at hx; rw [Option.some.inj hx]; exact Nat.le_refl _
      · exact Nat.le_of_lt (h.2.2.1 j i x e (by omega) hx he)
    have after : ∀ k y, i + 1 < k → E[k - 1]? = some y → eB y ≤ eB f := by
      intro k y hk hy
      by_cases c : k - 1 = i + 1
      · rw [c, hf] at hy; rw [Option.some.inj hy]; exact Nat.le_refl _
      · exact Nat.le_of_lt (h.2.2.1 (i + 1) (k - 1) f y (by omega) hf hy)
    by_cases c1 : j < i + 1
    · rw [if_pos c1] at hx
      by_cases c2 : k < i + 1
      · rw [if_pos c2] at hy
        exact h.2.2.1 j k x y hjk hx hy
      · rw [if_neg c2] at hy
        have b := before j x c1 hx
        by_cases c3 : k = i + 1
        · rw [if_pos c3] at hy
          rw [← Option.some.inj hy]; omega
        · rw [if_neg c3] at hy
          have := after k y (by omega) hy
          omega
    · rw [if_neg c1] at hx
      rw [if_neg (show ¬ k < i + 1 by omega), if_neg (show ¬ k = i + 1 by omega)] at hy
      by_cases c3 : j = i + 1
      · rw [if_pos c3] at hx
        have := after k y (by omega) hy
        rw [← Option.some.inj hx]; omega
      · rw [if_neg c3] at hx
        exact h.2.2.1 (j - 1) (k - 1) x y (by omega) hx hy
  · intro x hx
    rw [hget, if_pos (by omega)] at hx
    exact h.2.2.2.1 x hx
  · intro x hx
    rw [hlen, hget, if_neg (by omega), if_neg (by omega)] at hx
    exact h.2.2.2.2 x hx
theorem find_loop64 {N : Nat} (hN : 200 ≤ N) {q : Qd} (hq : WfQ q) (hW : Whole q) : ∀ (n s i : Nat) (E : List Ent) (σ : CSt), n + s = 241 → s + 1 ≤ i + E.length → Gd (fl q (2 ^ qT q - 1)) E → E.length ≤ 120 → i < E.length → CQd q σ → Measured q σ → Rw q σ E → (∀ j e f, j < i → E[j]? = some e → E[j + 1]? = some f → Nx (fl q (2 ^ qT q - 1)) e f) → (∀ j u v, 0 < j → j ≤ i → Bd E j u v → BdC σ j u v) → ∃ σ', fS_find_L64 N n σ (nI i) (nI s) = some σ' ∧ FS σ σ' ∧ Spanned q σ' := by
  have hT := hq.1
  have h16 : 2 ^ qT q ≤ 16 := Nat.pow_le_pow_right (n := 2) (by omega) hT
  have h2 : 2 ^ 1 ≤ 2 ^ qT q := Nat.pow_le_pow_right (n := 2) (by omega) hW.1
  have hne := whole_fl hq hW
  intro n
  induction n with
  | zero => intro s i E σ h1 h2 _ h3 h4; omega
  | succ n ih =>
    intro s i E σ hns hsi hG h120 hi hC hM hR hNx hBd
    rw [fS_find_L64]
    rw [if_neg (show ¬ (240 : Int32) ≤ nI s from nI_ge (b := 240) (by omega) (by omega)), hR.1, nI_1]
    by_cases c : E.length ≤ i + 1
    · rw [if_pos (nI_le c (by omega))]
      have hE : Chn (fl q (2 ^ qT q - 1)) E := ⟨hG.1, fun e he => Kn_F (hG.2.1 e he), hG.2.2.2.1, fun j e f he hf => hNx j e f (by have := (List.getElem?_eq_some_iff.mp hf).1; omega) he hf, hG.2.2.2.2⟩
      exact find_end hN hq hE h120 hR (fun j u v h0 h1 hB => hBd j u v h0 (by omega) hB)
    · have he : E[i]? = some E[i] := List.getElem?_eq_getElem hi
      have hf : E[i + 1]? = some E[i + 1] := List.getElem?_eq_getElem (by omega)
      generalize E[i] = e at he
      generalize E[i + 1] = f at hf
      have ke := hG.2.1 e (List.mem_of_getElem? he)
      have kf := hG.2.1 f (List.mem_of_getElem? hf)
      have fe := Kn_F ke
      have ff := Kn_F kf
      have hB := hG.2.2.1 i (i + 1) e f (by omega) he hf
      have hA := Kn_A ke ff hB
      have be := fl_bd hq (show 2 ^ qT q - 1 < 16 by omega) fe
      have bf := fl_bd hq (show 2 ^ qT q - 1 < 16 by omega) ff
      rw [if_neg (nI_ge (by omega) (by omega)), planOf_ok hR h120 he, bs, planOf_ok hR h120 hf, bs, onS, onS]
      have e1 : (pl q (2 ^ qT q - 1) f).2.2.1 - (pl q (2 ^ qT q - 1) e).2.2.1 = lN (eA f - eA e) := lN_sub (by omega)
      have e2 : (pl q (2 ^ qT q - 1) e).2.2.2.1 - (pl q (2 ^ qT q - 1) f).2.2.2.1 = lN (eB e - eB f) := lN_sub (by omega)
      rw [e1, e2]
      obtain ⟨g, σ1, g1, g2, g3⟩ := cheapest_ok (N := N) (by omega) hq hC hM (Or.inr (Or.inr rfl)) (show eA f - eA e < 2 ^ 26 by omega) (show eB e - eB f < 2 ^ 26 by omega) hW.1 hne
      rw [g1, bs]
      have bg := fl_bd hq (show 2 ^ qT q - 1 < 16 by omega) g3.1
      have kg := ky_lt (up := eA f - eA e) (dn := eB e - eB f) (by omega) (by omega) ⟨bg.2.1, bg.2.2⟩
      have kke := ky_lt (up := eA f - eA e) (dn := eB e - eB f) (by omega) (by omega) ⟨be.2.1, be.2.2⟩
      have d1 : fP_isDearer N σ1 (pl q (2 ^ qT q - 1) e) (some (pl q (2 ^ qT q - 1) g)) (lN (eA f - eA e)) (lN (eB e - eB f)) = if ky (eA f - eA e) (eB e - eB f) e ≤ ky (eA f - eA e) (eB e - eB f) g then some 0 else some 1 := by
        unfold fP_isDearer
        rw [onS]
        have p1 : (pl q (2 ^ qT q - 1) g).2.2.1 * lN (eB e - eB f) + (pl q (2 ^ qT q - 1) g).2.2.2.1 * lN (eA f - eA e) = lN (ky (eA f - eA e) (eB e - eB f) g) := by
          show lN (eA g) * _ + lN (eB g) * _ = _
          rw [lN_mul, lN_mul, lN_add]; rfl
        have p2 : (pl q (2 ^ qT q - 1) e).2.2.1 * lN (eB e - eB f) + (pl q (2 ^ qT q - 1) e).2.2.2.1 * lN (eA f - eA e) = lN (ky (eA f - eA e) (eB e - eB f) e) := by
          show lN (eA e) * _ + lN (eB e) * _ = _
          rw [lN_mul, lN_mul, lN_add]; rfl
        rw [p1, p2]
        simp only [cmp_ge kg kke]
      show ∃ σ', (fP_isDearer N σ1 (pl q (2 ^ qT q - 1) e) (some (pl q (2 ^ qT q - 1) g)) (lN (eA f - eA e)) (lN (eB e - eB f))).bind _ = some σ' ∧ _
      rw [d1]
      have C1 := CQd_FH g2 hC
      have M1 := Meas_FH g2 hM
      have R1 := Rw_FH g2 hR
      by_cases cd : ky (eA f - eA e) (eB e - eB f) e ≤ ky (eA f - eA e) (eB e - eB f) g
      · rw [if_pos cd, bs, if_pos rfl, setBorder_ok hN (by omega) (by omega) (by omega) (by omega), bs, nI_1]
        have hx := Nx_of ke kf fe ff hB g3 (by omega)
        obtain ⟨σ2, a1, a2, a3⟩ := ih (s + 1) (i + 1) E (setB σ1 (i + 1) (eA f - eA e) (eB e - eB f)) (by omega) (by omega) hG h120 (by omega) (CQd_FS (setB_FS _ _ _ _) C1) (Meas_FS (setB_FS _ _ _ _) M1) (Rw_setB _ _ _ R1) (by
          intro j x y hj hxx hyy
          by_cases cj : j = i
          · subst cj
            rw [he] at hxx
            rw [hf] at hyy
            rw [← Option.some.inj hxx, ← Option.some.inj hyy]
            exact hx
          · exact hNx j x y (by omega) hxx hyy) (by
          intro j u v h0 h1 hb
          unfold BdC
          rw [setB_3, setB_4]
          by_cases cj : j = i + 1
          · rw [if_pos cj, if_pos cj]
            rcases hb with ⟨h, -⟩ | ⟨-, x, y, hxx, hyy, hu, hv⟩
            · omega
            · rw [cj] at hxx hyy
              rw [show i + 1 - 1 = i by omega, he] at hxx
              rw [hf] at hyy
              rw [hu, hv, ← Option.some.inj hxx, ← Option.some.inj hyy]
              exact ⟨rfl, rfl⟩
          · rw [if_neg cj, if_neg cj, g2.2.2.1 503 (by omega), g2.2.2.1 504 (by omega)]
            exact hBd j u v h0 (by omega) hb)
        exact ⟨σ2, a1, (g2.FS.trans (setB_FS _ _ _ _)).trans a2, a3⟩
      · rw [if_neg cd, bs, if_neg n10]
        obtain ⟨kb1, kb2, kb3⟩ := Kn_btw ke kf fe ff hB g3 (by omega)
        have hG2 := Gd_ins hG he hf kb1 kb2 kb3
        have hl2 := ins1_len (E := E) (i := i + 1) (by omega) g
        have h120b := keen_120 hq hW _ (Gd_nodup hG2) hG2.2.1
        obtain ⟨σ2, b1, b2, b3, b4⟩ := insert_ok (N := N) hN R1 (i := i + 1) (by omega) (by omega) g
        rw [b1, bs, if_neg n10, nI_1]
        have f12 := g2.FS.trans b2
        have hget := fun j => ins1_get (E := E) (i := i + 1) (by omega) g j
        obtain ⟨σ3, a1, a2, a3⟩ := ih (s + 1) i (ins1 E (i + 1) g) σ2 (by omega) (by omega) hG2 h120b (by omega) (CQd_FS f12 hC) (Meas_FS f12 hM) b3 (by
          intro j x y hj hxx hyy
          rw [hget, if_pos (by omega)] at hxx hyy
          exact hNx j x y hj hxx hyy) (by
          intro j u v h0 h1 hb
          have hb' : Bd E j u v := by
            rcases hb with ⟨h, -⟩ | ⟨-, x, y, hxx, hyy, hu, hv⟩
            · omega
            · rw [hget, if_pos (by omega)] at hxx hyy
              exact Or.inr ⟨h0, x, y, hxx, hyy, hu, hv⟩
          have := hBd j u v h0 h1 hb'
          unfold BdC at this ⊢
          rw [b4, g2.2.2.1 503 (by omega), g2.2.2.1 504 (by omega)]
          exact this)
        exact ⟨σ3, a1, f12.trans a2, a3⟩
theorem find_all {N : Nat} (hN : 241 ≤ N) {q : Qd} (hq : WfQ q) (hW : Whole q) {σ : CSt} (hC : CQd q σ) (hM : Measured q σ) : ∃ σ', fS_find N σ = some σ' ∧ FS σ σ' ∧ Spanned q σ' := by
  have hT := hq.1
  have h16 : 2 ^ qT q ≤ 16 := Nat.pow_le_pow_right (n := 2) (by omega) hT
  have h2 : 2 ^ 1 ≤ 2 ^ qT q := Nat.pow_le_pow_right (n := 2) (by omega) hW.1
  have hne := whole_fl hq hW
  unfold fS_find
  have f0 : FS σ (cI σ 500 0) := ⟨fun k _ h => by rw [cI_1, if_neg h], fun _ _ => rfl, fun _ _ _ => rfl, fun _ _ => rfl, rfl⟩
  have R0 : Rw q (cI σ 500 0) [] := ⟨rfl, fun i e h => by simp at h⟩
  obtain ⟨e, σ1, a1, a2, a3⟩ := cheapest_ok (N := N) (by omega) hq (CQd_FS f0 hC) (Meas_FS f0 hM) (Or.inr (Or.inr rfl)) (show 0 < 2 ^ 26 by omega) (show 1 < 2 ^ 26 by omega) hW.1 hne
  rw [show (0 : Int64) = lN 0 from rfl, show (1 : Int64) = lN 1 from rfl, a1, bs]
  obtain ⟨σ2, b1, b2, b3, b4⟩ := insert_ok (N := N) (by omega) (Rw_FH a2 R0) (i := 0) (Nat.le_refl _) (by simp) e
  have b3 : Rw q σ2 [e] := b3
  rw [nI_0] at b1
  rw [b1, bs]
  have f2 := (f0.trans a2.FS).trans b2
  obtain ⟨z, σ3, c1, c2, c3⟩ := cheapest_ok (N := N) (by omega) hq (CQd_FS f2 hC) (Meas_FS f2 hM) (Or.inr (Or.inl rfl)) (show 4 < 2 ^ 26 by omega) (show 1 < 2 ^ 26 by omega) hW.1 hne
  rw [show (4 : Int64) = lN 4 from rfl, c1, bs, onS]
  have R3 := Rw_FH c2 b3
  have f3 := f2.trans c2.FS
  have p0 := planOf_ok (N := N) (i := 0) (e := e) R3 (by simp) rfl
  rw [nI_0] at p0
  rw [p0, bs]
  have be := fl_bd hq (show 2 ^ qT q - 1 < 16 by omega) a3.1
  have bz := fl_bd hq (show 2 ^ qT q - 1 < 16 by omega) c3.1
  have hl : fP_hasLineOf N σ3 (pl q (2 ^ qT q - 1) z) (some (pl q (2 ^ qT q - 1) e)) = if eA z = eA e ∧ eB z = eB e then some 1 else some 0 := by
    unfold fP_hasLineOf
    rw [onS]
    show (if lg_cmp (lN (eA z)) (lN (eA e)) = 0 then (if lg_cmp (lN (eB z)) (lN (eB e)) = 0 then _ else _) else _) = _
    simp only [cmp_eq0 (show eA z < 2 ^ 63 by omega) (show eA e < 2 ^ 63 by omega), cmp_eq0 (show eB z < 2 ^ 63 by omega) (show eB e < 2 ^ 63 by omega)]
    by_cases d1 : eA z = eA e
    · by_cases d2 : eB z = eB e
      · rw [if_pos d1, if_pos d2, if_pos ⟨d1, d2⟩]
      · rw [if_pos d1, if_neg d2, if_neg (fun h => d2 h.2)]
    · rw [if_neg d1, if_neg (fun h => d1 h.1)]
  show ∃ σ', (fP_hasLineOf N σ3 (pl q (2 ^ qT q - 1) z) (some (pl q (2 ^ qT q - 1) e))).bind _ = some σ' ∧ _
  rw [hl]
  have z4 : ∀ g, g ∈ fl q (2 ^ qT q - 1) → ky 4 1 z ≤ ky 4 1 g := fun g hg => by
    have := c3.2 g hg
    rw [leG] at this
    omega
  have ke : Kn (fl q (2 ^ qT q - 1)) e := Or.inl ⟨0, 1, by omega, by omega, a3⟩
  unfold fS_find_J60
  by_cases d : eA z = eA e ∧ eB z = eB e
  · rw [if_pos d, bs, if_neg n10]
    have hG : Gd (fl q (2 ^ qT q - 1)) [e] := by
      refine ⟨by simp, ?_, ?_, ?_, ?_⟩
      · intro x hx
        rw [List.mem_singleton.mp hx]; exact ke
      · intro j k x y hjk hx hy
        have := (List.getElem?_eq_some_iff.mp hy).1
        simp at this
        omega
      · intro x hx
        have : e = x := by simpa using hx
        rw [← this]; exact a3
      · intro x hx g hg
        have : e = x := by simpa using hx
        rw [← this]
        have h := z4 g hg
        have : ky 4 1 e = ky 4 1 z := by unfold ky; rw [d.1, d.2]
        omega
    obtain ⟨σ4, d1, d2, d3⟩ := find_loop64 (N := N) (by omega) hq hW 241 0 0 [e] σ3 rfl (by simp) hG (by simp) (by simp) (CQd_FS f3 hC) (Meas_FS f3 hM) R3 (fun j x y hj => by omega) (fun j u v h0 h1 => by omega)
    rw [nI_0] at d1
    exact ⟨σ4, d1, f3.trans d2, d3⟩
  · rw [if_neg d, bs, if_pos rfl, R3.1]
    obtain ⟨σ4, i1, i2, i3, i4⟩ := insert_ok (N := N) (by omega) R3 (i := 1) (by simp) (by simp) z
    have i3 : Rw q σ4 [e, z] := i3
    show ∃ σ', (fS_insert N σ3 (nI 1) (some (pl q (2 ^ qT q - 1) z))).bind _ = some σ' ∧ _
    rw [i1, bs]
    have hBz : eB z < eB e := by
      have h1 := a3.2 z c3.1
      have h2 := z4 e a3.1
      rw [leM] at h1
      unfold ky at h1 h2
      omega
    have f4 := f3.trans i2
    have hG : Gd (fl q (2 ^ qT q - 1)) [e, z] := by
      refine ⟨by simp, ?_, ?_, ?_, ?_⟩
      · intro x hx
        rcases List.mem_cons.mp hx with h | h
        · rw [h]; exact ke
        · rw [List.mem_singleton.mp h]; exact Or.inr c3
      · intro j k x y hjk hx hy
        have hk := (List.getElem?_eq_some_iff.mp hy).1
        simp at hk
        have j0 : j = 0 := by omega
        have k1 : k = 1 := by omega
        subst j0 k1
        have hx : e = x := by simpa using hx
        have hy : z = y := by simpa using hy
        rw [← hx, ← hy]; exact hBz
      · intro x hx
        have : e = x := by simpa using hx
        rw [← this]; exact a3
      · intro x hx g hg
        have : z = x := by simpa using hx
        rw [← this]; exact z4 g hg
    obtain ⟨σ5, d1, d2, d3⟩ := find_loop64 (N := N) (by omega) hq hW 241 0 0 [e, z] σ4 rfl (by simp) hG (by simp) (by simp) (CQd_FS f4 hC) (Meas_FS f4 hM) i3 (fun j x y hj => by omega) (fun j u v h0 h1 => by omega)
    rw [nI_0] at d1
    exact ⟨σ5, d1, f4.trans d2, d3⟩
