/-! all joins of two parts -/
theorem l256 : (256 : Int64) = lN 256 := by decide
theorem l2 : (2 : Int64) = lN 2 := by decide
theorem l3 : (3 : Int64) = lN 3 := by decide
theorem joining_M {N : Nat} (hN : 6 ≤ N) {q : Qd} {τ : MSt} (hq : WfQ q) (hM : MQd q τ) {l r k : Nat} (hl : l < 2 ^ qT q) (hr : r < 2 ^ qT q) (hk : k < 3) (h0 : l &&& r = 0) : ∃ τ', fM_joining N τ (nI k) (nI l) (nI r) = some τ' ∧ Fk τ τ' ∧ (∀ L, Ls L τ → Ls L τ') ∧ τ'.2.1 14 = lN (jA q k l r) ∧ τ'.2.1 15 = lN (jB q k l r) := by
  have hT := hq.1
  have h16 : 2 ^ qT q ≤ 16 := Nat.pow_le_pow_right (n := 2) (by omega) hT
  have pA := prodA hq (show l < 16 by omega) (show r < 16 by omega) h0
  have pB := prodB hq (show l < 16 by omega) (show r < 16 by omega) h0
  have hM2 : MQd q (sJ (sJ τ 14 (szA q l)) 15 (szB q l)) := MQd_Fr (Fr_J _ _).1 hM
  have i1 : (nI k = (1 : Int32)) ↔ k = 1 := nI_eq (b := 1) (by omega) (by omega)
  have i0 : (nI k = 0) ↔ k = 0 := nI_eq0 (by omega)
  unfold fM_joining
  rw [sizeM hN hq hM hl, bs, sizeM hN hq hM2 hr, bs]
  have e1 : (sJ (sJ τ 14 (szA q l)) 15 (szB q l)).2.1 14 = lN (nA q l) := by rw [← szA_n]; rfl
  have e2 : (sJ (sJ τ 14 (szA q l)) 15 (szB q l)).2.1 15 = lN (nB q l) := by rw [← szB_n]; rfl
  have e3 : (sJ (sJ (sJ (sJ τ 14 (szA q l)) 15 (szB q l)) 14 (szA q r)) 15 (szB q r)).2.1 14 = lN (nA q r) := by rw [← szA_n]; rfl
  have e4 : (sJ (sJ (sJ (sJ τ 14 (szA q l)) 15 (szB q l)) 14 (szA q r)) 15 (szB q r)).2.1 15 = lN (nB q r) := by rw [← szB_n]; rfl
  rw [e1, e2, e3, e4]
  generalize hτ : sJ (sJ (sJ (sJ τ 14 (szA q l)) 15 (szB q l)) 14 (szA q r)) 15 (szB q r) = τ2
  have hf : Fk τ τ2 := by rw [← hτ]; exact (Fr_J _ _).trans (Fr_J _ _)
  have hL : ∀ L, Ls L τ → Ls L τ2 := by rw [← hτ]; exact fun L h => h
  have n0 : ¬ (256 : Int64) = 0 := by decide
  unfold fM_joining_J48 fM_joining_J75 nz64
  simp only [i0, i1, if_neg n0]
  rcases (show k = 0 ∨ k = 1 ∨ k = 2 by omega) with rfl | rfl | rfl
  · refine ⟨_, rfl, hf.trans (Fr_J _ _), fun L h => hL L h, ?_, ?_⟩
    · show lN (nA q l) * lN (nA q r) / (256 : Int64) = _
      rw [lN_mul, l256, pk_lDiv (by omega) (by omega) (by omega)]
      rfl
    · show (lN (nA q l) * lN (nB q r) + lN (nB q l) * lN (nA q r)) / (256 : Int64) = _
      rw [lN_mul, lN_mul, lN_add, l256, pk_lDiv (by omega) (by omega) (by omega)]
      rfl
  · refine ⟨_, rfl, hf.trans (Fr_J _ _), fun L h => hL L h, ?_, ?_⟩
    · show (2 : Int64) * (lN (nA q l) + lN (nA q r)) = _
      rw [lN_add, l2, lN_mul]
      rfl
    · show (2 : Int64) * (lN (nB q l) + lN (nB q r)) = _
      rw [lN_add, l2, lN_mul]
      rfl
  · refine ⟨_, rfl, hf.trans (Fr_J _ _), fun L h => hL L h, ?_, ?_⟩
    · show (3 : Int64) * (lN (nA q l) + lN (nA q r)) = _
      rw [lN_add, l3, lN_mul]
      rfl
    · show (3 : Int64) * (lN (nB q l) + lN (nB q r)) = _
      rw [lN_add, l3, lN_mul]
      rfl
/-- the starts of the sets up to S -/
def Frm (q : Qd) (S : Nat) (τ : MSt) : Prop := ∀ s, 1 ≤ s → s ≤ S → τ.2.2.1 16 s = nI (off q s)
theorem Frm_Fk {q : Qd} {S : Nat} {τ τ' : MSt} (h : Fk τ τ') (hF : Frm q S τ) : Frm q S τ' := fun s h1 h2 => by rw [h.2]; exact hF s h1 h2
theorem lastOf_M {N : Nat} {q : Qd} {S l : Nat} {τ : MSt} (hF : Frm q S τ) (h1 : l < S) (hS : S < 17) : fM_lastOf N τ (nI l) = some (nI (off q (l + 1))) := by
  unfold fM_lastOf
  rw [nI_1, chk_nI (by omega) (by omega), nI_cl (by omega), hF (l + 1) (by omega) (by omega)]
theorem drop_at {α : Type} {A : List α} {j : Nat} (h : j < A.length) : ∃ a, A[j]? = some a ∧ A.drop j = a :: A.drop (j + 1) := ⟨A[j], List.getElem?_eq_getElem h, List.drop_eq_getElem_cons h⟩
theorem code_I {N : Nat} (hN : 6 ≤ N) {τ : MSt} {S l k a b : Nat} (hS : S < 16) (hs : sub1 S l = true) (hk : k < 3) (ha : a < 8 ^ dg l) : (fM_shifted N τ ((4 : Int32) + nI k) (nI (dg l))) = some (nI ((4 + k) * 8 ^ dg l)) ∧ fM_shifted N τ (nI ((4 + k) * 8 ^ dg l) + nI a) (nI (dg (S - l))) = some (nI (((4 + k) * 8 ^ dg l + a) * 8 ^ dg (S - l))) := by
  have hb := b_sub hS hs
  have h4 := bc_le S hS
  have hl := sub1_ok hs
  have d1 := dg_le l (by omega)
  have d2 := dg_le (S - l) (by omega)
  have p1 : 8 ^ dg l ≤ 8 ^ 7 := Nat.pow_le_pow_right (n := 8) (by omega) d1
  have p2 : 8 ^ dg l * 8 ^ dg (S - l) ≤ 8 ^ 6 := by
    rw [← Nat.pow_add]
    exact Nat.pow_le_pow_right (n := 8) (by omega) (by unfold dg; omega)
  have m1 : (4 + k) * 8 ^ dg l ≤ 6 * 8 ^ dg l := Nat.mul_le_mul_right _ (by omega)
  constructor
  · rw [show (4 : Int32) = nI 4 from rfl, nI_add, shifted_ok (by omega) (by omega)]
  · rw [nI_add, shifted_ok (by omega)]
    have m2 : ((4 + k) * 8 ^ dg l + a) * 8 ^ dg (S - l) ≤ (7 * 8 ^ dg l) * 8 ^ dg (S - l) := Nat.mul_le_mul_right _ (by omega)
    rw [Nat.mul_assoc] at m2
    omega
theorem jl46 {N : Nat} (hN : 6 ≤ N) {q : Qd} (hq : WfQ q) {S l k ia : Nat} {a : Ent} (hS : S < 16) (hs : sub1 S l = true) (hk : k < 3) (ha : a ∈ PE q l) (hR : fl q (S - l) = PE q (S - l)) (K : MSt → Int32 → Int32 → Int32 → Int64 → Int64 → Int32 → Option MSt) : ∀ (n m j : Nat) (Y : List Ent) (τ : MSt), j + m = (PE q (S - l)).length → m < n → Ls (Lt q S ++ Y) τ → Frm q S τ → (Lt q S ++ Y)[ia]? = some a → (Lt q S ++ Y).length + m ≤ 5000 → ∃ τ', fM_joinAll_L46 N K n τ (nI l) (nI (S - l)) (nI k) (lN (jA q k l (S - l))) (lN (jB q k l (S - l))) (nI ia) (nI (off q (S - l) + j)) = K τ' (nI l) (nI (S - l)) (nI k) (lN (jA q k l (S - l))) (lN (jB q k l (S - l))) (nI ia) ∧ Ls (Lt q S ++ (Y ++ ((PE q (S - l)).drop j).map fun b => jn q k l (S - l) a b)) τ' ∧ Fk τ τ' := by
  have hl := sub1_ok hs
  have hoff := off_succ q (S - l)
  rw [hR] at hoff
  have hoL := off_le hq (show S - l < 17 by omega)
  have hoR := off_le hq (show S - l + 1 < 17 by omega)
  intro n
  induction n with
  | zero => intro m j Y τ _ h; omega
  | succ n ih =>
    intro m j Y τ hj hn hL hF hia hlen
    rw [fM_joinAll_L46, lastOf_M hF (by omega) (by omega), bs]
    cases m with
    | zero =>
      rw [if_pos (nI_le (by omega) (by omega)), List.drop_eq_nil_of_le (by omega)]
      exact ⟨τ, rfl, by simpa using hL, Fk.refl τ⟩
    | succ m =>
      obtain ⟨b, hb, hd⟩ := drop_at (A := PE q (S - l)) (j := j) (by omega)
      have hbm : b ∈ PE q (S - l) := List.mem_of_getElem? hb
      rw [← hR] at hb
      have hbL := Lt_at q (show S - l < S by omega) Y j b hb
      have hib := (List.getElem?_eq_some_iff.mp hbL).1
      have hiaL := (List.getElem?_eq_some_iff.mp hia).1
      obtain ⟨a17, -, -, a20, a21⟩ := hL.2 _ _ hia
      obtain ⟨b17, -, -, b20, b21⟩ := hL.2 _ _ hbL
      have hc := code_I hN (τ := τ) (b := 0) hS hs hk (eC_lt hq (by omega) ha)
      rw [if_neg (nI_ge (by omega) (by omega)), digits_ok hN (by omega) (by omega), bs, hc.1, bs]
      rw [chk_nI (by omega) (by omega), digits_ok hN (by omega) (by omega), bs, nI_cl (by omega), a17, hc.2, bs]
      rw [chk_nI (by omega) (by omega), chk_nI (by omega) (by omega), chk_nI (by omega) (by omega), chk_nI (by omega) (by omega), chk_nI (by omega) (by omega)]
      rw [nI_cl (by omega), b17, a20, a21, b20, b21, nI_add, lN_add, lN_add, lN_add, lN_add, add_eq hL.1 (by omega), bs, nI_1]
      have hA := add_Ls hL (jn q k l (S - l) a b)
      have hK := add_Fk τ (Lt q S ++ Y).length (nI (eC (jn q k l (S - l) a b))) (nI (eL (jn q k l (S - l) a b))) (eK (jn q k l (S - l) a b)) (lN (eA (jn q k l (S - l) a b))) (lN (eB (jn q k l (S - l) a b)))
      rw [List.append_assoc] at hA
      obtain ⟨τ', h1, h2, h3⟩ := ih m (j + 1) (Y ++ [jn q k l (S - l) a b]) _ (by omega) (by omega) hA (Frm_Fk hK hF) (by rw [← List.append_assoc, List.getElem?_append_left hiaL]; exact hia) (by rw [← List.append_assoc, List.length_append, List.length_singleton]; omega)
      refine ⟨τ', ?_, ?_, hK.trans h3⟩
      · rw [← h1]
        rfl
      · rw [hd, List.map_cons, List.append_cons]
        exact h2
theorem jl28 {N : Nat} (hN : 6 ≤ N) {q : Qd} (hq : WfQ q) {S l k : Nat} (hS : S < 16) (hs : sub1 S l = true) (hk : k < 3) (hA : fl q l = PE q l) (hR : fl q (S - l) = PE q (S - l)) (hNR : (PE q (S - l)).length < N) : ∀ (n m j : Nat) (Y : List Ent) (τ : MSt), j + m = (PE q l).length → m < n → Ls (Lt q S ++ Y) τ → Frm q S τ → (Lt q S ++ Y).length + m * (PE q (S - l)).length ≤ 5000 → ∃ τ', fM_joinAll_L28 N n τ (nI l) (nI (S - l)) (nI k) (lN (jA q k l (S - l))) (lN (jB q k l (S - l))) (nI (off q l + j)) = some τ' ∧ Ls (Lt q S ++ (Y ++ ((PE q l).drop j).flatMap fun a => (PE q (S - l)).map fun b => jn q k l (S - l) a b)) τ' ∧ Fk τ τ' := by
  have hl := sub1_ok hs
  have hoff := off_succ q l
  rw [hA] at hoff
  have hoL := off_le hq (show l < 17 by omega)
  have hoR := off_le hq (show l + 1 < 17 by omega)
  intro n
  induction n with
  | zero => intro m j Y τ _ h; omega
  | succ n ih =>
    intro m j Y τ hj hn hL hF hlen
    rw [fM_joinAll_L28, lastOf_M hF (by omega) (by omega), bs]
    cases m with
    | zero =>
      rw [if_pos (nI_le (by omega) (by omega)), List.drop_eq_nil_of_le (by omega)]
      exact ⟨τ, rfl, by simpa using hL, Fk.refl τ⟩
    | succ m =>
      obtain ⟨a, ha, hd⟩ := drop_at (A := PE q l) (j := j) (by omega)
      have ham : a ∈ PE q l := List.mem_of_getElem? ha
      rw [← hA] at ha
      have haL := Lt_at q (show l < S by omega) Y j a ha
      rw [if_neg (nI_ge (by omega) (by omega)), chk_nI (by omega) (by omega), nI_cl (by omega), hF (S - l) (by omega) (by omega)]
      rw [Nat.succ_mul] at hlen
      obtain ⟨τ', h1, h2, h3⟩ := jl46 hN hq hS hs hk ham hR (fun (σ : MSt) (x2 : Int32) (x3 : Int32) (x4 : Int32) (x5 : Int64) (x7 : Int64) (x9 : Int32) => fM_joinAll_L28 N n σ x2 x3 x4 x5 x7 (x9 + 1)) N (PE q (S - l)).length 0 Y τ (by omega) (by omega) hL hF haL (by omega)
      rw [Nat.add_zero] at h1
      rw [h1, nI_1]
      obtain ⟨τ2, g1, g2, g3⟩ := ih m (j + 1) _ τ' (by omega) (by omega) h2 (Frm_Fk h3 hF) (by rw [← List.append_assoc, List.length_append, List.length_map, List.length_drop]; omega)
      refine ⟨τ2, g1, ?_, h3.trans g3⟩
      rw [hd, List.flatMap_cons]
      rw [List.drop_zero, List.append_assoc] at g2
      exact g2
theorem joinAll_ok {N : Nat} (hN : 5000 ≤ N) {q : Qd} (hq : WfQ q) {S l k : Nat} (hS : S < 2 ^ qT q) (hs : sub1 S l = true) (hk : k < 3) {Y : List Ent} {τ : MSt} (hM : MQd q τ) (hL : Ls (Lt q S ++ Y) τ) (hF : Frm q S τ) (hlen : (Lt q S ++ Y).length + (PE q l).length * (PE q (S - l)).length ≤ 5000) (x : Int32) : ∃ τ', fM_joinAll N τ x (nI l) (nI (S - l)) (nI k) = some τ' ∧ Ls (Lt q S ++ (Y ++ kb q (PE q) l (S - l) k)) τ' ∧ Fk τ τ' := by
  have hT := hq.1
  have h16 : 2 ^ qT q ≤ 16 := Nat.pow_le_pow_right (n := 2) (by omega) hT
  have hl := sub1_ok hs
  have hb := b_sub (show S < 16 by omega) hs
  have hA : fl q l = PE q l := if_neg (by omega)
  have hR : fl q (S - l) = PE q (S - l) := if_neg (by omega)
  have o1 := off_succ q l
  have o2 := off_succ q (S - l)
  rw [hA] at o1
  rw [hR] at o2
  have o3 := off_le hq (show l + 1 < 17 by omega)
  have o4 := off_le hq (show S - l + 1 < 17 by omega)
  obtain ⟨τ1, h1, h2, h3, h4, h5⟩ := joining_M (N := N) (by omega) hq hM (show l < 2 ^ qT q by omega) (show S - l < 2 ^ qT q by omega) hk hb.2.2.2.1
  unfold fM_joinAll
  rw [h1, bs, chk_nI (by omega) (by omega), h4, h5, nI_cl (by omega), Frm_Fk h2 hF l (by omega) (by omega)]
  obtain ⟨τ', g1, g2, g3⟩ := jl28 (N := N) (by omega) hq (show S < 16 by omega) hs hk hA hR (by omega) N (PE q l).length 0 Y τ1 (by omega) (by omega) (h3 _ hL) (Frm_Fk h2 hF) hlen
  exact ⟨τ', g1, g2, h2.trans g3⟩
