/-! the order's price; the whole list -/
theorem Ls_set {τ : MSt} {X Z : List Ent} {e e' : Ent} (h : Ls (X ++ e :: Z) τ) (hC : eC e' = eC e) (hLl : eL e' = eL e) (hKk : eK e' = eK e) : Ls (X ++ e' :: Z) (sB (sB τ 20 X.length (lN (eA e'))) 21 X.length (lN (eB e'))) := by
  refine ⟨by rw [show (X ++ e' :: Z).length = (X ++ e :: Z).length by simp]; exact h.1, ?_⟩
  intro i f hi
  have a20 : ∀ (x y : Int64) (n : Nat), (sB (sB τ 20 n x) 21 n y).2.2.2 20 i = if i = n then x else τ.2.2.2 20 i := fun x y n => updL_at _ _ _ _
  have a21 : ∀ (x y : Int64) (n : Nat), (sB (sB τ 20 n x) 21 n y).2.2.2 21 i = if i = n then y else τ.2.2.2 21 i := fun x y n => updL_at _ _ _ _
  unfold At
  rw [a20, a21]
  by_cases g : i = X.length
  · subst g
    rw [List.getElem?_append_right (Nat.le_refl _), Nat.sub_self] at hi
    have hi : e' = f := by simpa using hi
    subst hi
    have he := h.2 X.length e (by rw [List.getElem?_append_right (Nat.le_refl _), Nat.sub_self]; rfl)
    rw [if_pos rfl, if_pos rfl, hC, hLl, hKk]
    exact ⟨he.1, he.2.1, he.2.2.1, rfl, rfl⟩
  · rw [if_neg g, if_neg g]
    refine h.2 i f ?_
    rw [← hi]
    by_cases g2 : i < X.length
    · rw [List.getElem?_append_left g2, List.getElem?_append_left g2]
    · rw [List.getElem?_append_right (by omega), List.getElem?_append_right (by omega)]
      obtain ⟨j, hj⟩ : ∃ j, i - X.length = j + 1 := ⟨i - X.length - 1, by omega⟩
      rw [hj]
      rfl
theorem B_Fk (τ : MSt) (i j : Nat) (x y : Int64) : Fk τ (sB (sB τ 20 i x) 21 j y) := ⟨⟨fun _ _ => rfl, fun _ _ _ => rfl, fun _ _ _ _ _ => rfl, fun k h1 h2 => by rw [sB_4, if_neg h2, sB_4, if_neg h1]⟩, rfl⟩
theorem endJ {N : Nat} (hN : 6 ≤ N) {q : Qd} (hq : WfQ q) {S : Nat} (hS : S < 2 ^ qT q) {X Z : List Ent} {e : Ent} {τ : MSt} (hM : MQd q τ) (hL : Ls (X ++ e :: Z) τ) (hi : X.length < 5000) : ∃ τ', fM_end_J41 N τ (nI X.length) (nI S) = some τ' ∧ Ls (X ++ (eC e, eL e, eK e, eA e + 3 * nA q S, eB e + 3 * nB q S) :: Z) τ' ∧ Fk τ τ' := by
  have he := hL.2 X.length e (by rw [List.getElem?_append_right (Nat.le_refl _), Nat.sub_self]; rfl)
  unfold fM_end_J41
  rw [sizeM hN hq hM hS, bs, chk_nI hi (by omega), chk_nI hi (by omega), chk_nI hi (by omega), chk_nI hi (by omega), nI_cl (by omega)]
  have e1 : (sJ (sJ τ 14 (szA q S)) 15 (szB q S)).2.1 14 = lN (nA q S) := by rw [← szA_n]; rfl
  have e2 : ∀ x, (sB (sJ (sJ τ 14 (szA q S)) 15 (szB q S)) 20 X.length x).2.1 15 = lN (nB q S) := by intro x; rw [← szB_n]; rfl
  have e3 : (sJ (sJ τ 14 (szA q S)) 15 (szB q S)).2.2.2 20 X.length = lN (eA e) := he.2.2.2.1
  have e4 : ∀ x, (sB (sJ (sJ τ 14 (szA q S)) 15 (szB q S)) 20 X.length x).2.2.2 21 X.length = lN (eB e) := fun x => he.2.2.2.2
  rw [e1, e2, e3, e4, l3, lN_mul, lN_mul, lN_add, lN_add]
  refine ⟨_, rfl, ?_, (Fr_J _ _).trans (B_Fk _ _ _ _ _)⟩
  exact Ls_set (e' := (eC e, eL e, eK e, eA e + 3 * nA q S, eB e + 3 * nB q S)) (Ls_J _ _ hL) rfl rfl rfl
theorem end_ok {N : Nat} (hN : 6 ≤ N) {q : Qd} (hq : WfQ q) {S : Nat} (hS : S < 2 ^ qT q) {X Z : List Ent} {e : Ent} {τ : MSt} (hM : MQd q τ) (hL : Ls (X ++ e :: Z) τ) (hi : X.length < 5000) (hm : e ∈ PE q S) : ∃ τ', fM_end N τ (nI X.length) (nI S) = some τ' ∧ Ls (X ++ fin q S e :: Z) τ' ∧ Fk τ τ' := by
  have hT := hq.1
  have hP := hq.2.1
  have h16 : 2 ^ qT q ≤ 16 := Nat.pow_le_pow_right (n := 2) (by omega) hT
  have he := hL.2 X.length e (by rw [List.getElem?_append_right (Nat.le_refl _), Nat.sub_self]; rfl)
  unfold fM_end
  rw [hM.2.2.1]
  by_cases g : qot q = -1
  · rw [if_pos ((qot_neg hq).mpr g)]
    have : fin q S e = e := if_pos (Or.inl g)
    rw [this]
    exact ⟨τ, rfl, hL, Fk.refl τ⟩
  · rw [if_neg (fun h => g ((qot_neg hq).mp h)), chk_nI hi (by omega), nI_cl (by omega), he.2.2.1]
    rcases (mem_PE (show S < 16 by omega)).mp hm with ⟨t, ht, hSt, rfl⟩ | ⟨l, hk, k, hk3, a, ha, b, hb, rfl⟩
    · have hf : fin q S (rd q t) = (eC (rd q t), eL (rd q t), eK (rd q t), eA (rd q t) + 3 * nA q S, eB (rd q t) + 3 * nB q S) := if_neg (by
        rintro (h | h)
        · exact g h
        · unfold ioB at h
          rw [Bool.and_eq_true] at h
          exact absurd (of_decide_eq_true h.1) (show ¬ (-1 : Int32) = 2 by decide))
      rw [if_neg (show ¬ eK (rd q t) = 2 from (by decide : ¬ (-1 : Int32) = 2)), hf]
      exact endJ hN hq hS hM hL hi
    · obtain ⟨hs, hlb⟩ := okB_ok hk
      have hl := sub1_ok hs
      have hbs := b_sub (show S < 16 by omega) hs
      rcases lb_cases (q := q) l (S - l) with ⟨h, -⟩ | ⟨p, hp, hp1, -⟩
      · exact absurd h hlb
      have hio := ioB_iff (q := q) (k := nI k) (show p < 2 ^ 31 by omega) hp1
      show ∃ τ', (if nI k = (2 : Int32) then _ else _) = some τ' ∧ _
      by_cases g2 : nI k = (2 : Int32)
      · have e18 : τ.2.2.1 18 X.length = nI l := he.2.1
        rw [if_pos g2, e18, chk_nI hi (by omega), chk_nI hi (by omega), b_diff S (by omega) l (by omega), hbs.2.2.2.2.2.2]
        rcases sortedSo_M hN hq hM (show l < 16 by omega) (show S - l < 16 by omega) hp hp1 with ⟨h, ho⟩ | ⟨h, ho⟩
        · rw [h, bs, if_neg n10]
          have hf : fin q S (jn q k l (S - l) a b) = jn q k l (S - l) a b := if_pos (Or.inr (hio.mpr ⟨g2, ho⟩))
          rw [hf]
          exact ⟨τ, rfl, hL, Fk.refl τ⟩
        · rw [h, bs, if_pos rfl]
          have hf : fin q S (jn q k l (S - l) a b) = _ := if_neg (by
            rintro (h | h)
            · exact g h
            · exact ho (hio.mp h).2)
          rw [hf]
          exact endJ hN hq hS hM hL hi
      · rw [if_neg g2]
        have hf : fin q S (jn q k l (S - l) a b) = _ := if_neg (by
          rintro (h | h)
          · exact g h
          · exact g2 (hio.mp h).1)
        rw [hf]
        exact endJ hN hq hS hM hL hi
theorem l145 {N : Nat} (hN : 6 ≤ N) {q : Qd} (hq : WfQ q) {S : Nat} (hS : S < 2 ^ qT q) (K : MSt → Int32 → Option MSt) (X : List Ent) : ∀ (n : Nat) (Z Y : List Ent) (τ : MSt), Z.length < n → (∀ e, e ∈ Z → e ∈ PE q S) → (X ++ (Y ++ Z)).length ≤ 5000 → MQd q τ → Ls (X ++ (Y ++ Z)) τ → ∃ τ', fM_list_L145 N K n τ (nI S) (nI (X.length + Y.length)) = K τ' (nI S) ∧ Ls (X ++ (Y ++ Z.map (fin q S))) τ' ∧ Fk τ τ' := by
  intro n
  induction n with
  | zero => intro Z Y τ h; omega
  | succ n ih =>
    intro Z Y τ hn hm hlen hM hL
    rw [fM_list_L145, hL.1]
    cases Z with
    | nil =>
      rw [if_pos (nI_le (by simp) (by simp at hlen ⊢; omega))]
      exact ⟨τ, rfl, hL, Fk.refl τ⟩
    | cons e Z =>
      have hl2 : (X ++ (Y ++ e :: Z)).length = X.length + Y.length + Z.length + 1 := by simp only [List.length_append, List.length_cons]; omega
      rw [hl2] at hlen ⊢
      rw [List.length_cons] at hn
      rw [if_neg (nI_ge (by omega) (by omega))]
      have hlx : X.length + Y.length = (X ++ Y).length := List.length_append.symm
      obtain ⟨τ1, a1, a2, a3⟩ := end_ok hN hq hS (X := X ++ Y) (Z := Z) (e := e) hM (by rw [List.append_assoc]; exact hL) (by rw [← hlx]; omega) (hm e List.mem_cons_self)
      rw [hlx, a1, bs, nI_1]
      obtain ⟨τ2, b1, b2, b3⟩ := ih Z (Y ++ [fin q S e]) τ1 (by omega) (fun f hf => hm f (List.mem_cons_of_mem _ hf)) (by simp only [List.length_append, List.length_cons, List.length_nil]; omega) (MQd_Fr a3.1 hM) (by rw [List.append_assoc] at a2; rw [List.append_assoc]; exact a2)
      refine ⟨τ2, ?_, ?_, a3.trans b3⟩
      · rw [List.length_append, List.length_singleton] at b1
        rw [List.length_append]
        exact b1
      · rw [List.append_assoc] at b2
        exact b2
/-- what the walk leaves -/
def Listed (q : Qd) (τ : MSt) : Prop := Ls (Lt q (2 ^ qT q)) τ ∧ Frm q (2 ^ qT q) τ
theorem Fr_16 (τ : MSt) (i : Nat) (v : Int32) : Fr τ (sA τ 16 i v) := ⟨fun _ _ => rfl, fun _ _ _ => rfl, fun k h _ _ _ => by rw [sA_3, if_neg h], fun _ _ _ => rfl⟩
theorem Ls_16 {L : List Ent} {τ : MSt} (i : Nat) (v : Int32) (h : Ls L τ) : Ls L (sA τ 16 i v) := h
theorem Frm_16 {q : Qd} {S : Nat} {τ : MSt} (hF : Frm q S τ) : Frm q (S + 1) (sA τ 16 (S + 1) (nI (off q (S + 1)))) := by
  intro s h1 h2
  rw [sA_3, if_pos rfl, upd_at]
  by_cases g : s = S + 1
  · rw [if_pos g, g]
  · rw [if_neg g]
    exact hF s h1 (by omega)
theorem l7 {N : Nat} (hN : 5000 ≤ N) {q : Qd} (hq : WfQ q) : ∀ (n m S : Nat) (τ : MSt), S + m + 1 = 2 ^ qT q → m < n → MQd q τ → Ls (Lt q (S + 1)) τ → Frm q S τ → ∃ τ', fM_list_L7 N (fun (σ : MSt) => (fM_all N σ).bind fun r_176 => chk (r_176 + (1 : Int32)) 17 (some (sA σ 16 (r_176 + (1 : Int32)).toNatClampNeg (σ.1 22)))) n τ (nI (S + 1)) = some τ' ∧ Listed q τ' ∧ Fr τ τ' := by
  have hT := hq.1
  have h16 : 2 ^ qT q ≤ 16 := Nat.pow_le_pow_right (n := 2) (by omega) hT
  intro n
  induction n with
  | zero => intro m S τ _ h; omega
  | succ n ih =>
    intro m S τ hm hn hM hL hF
    rw [fM_list_L7, all_M hq hM, bs]
    have hlS : τ.1 22 = nI (off q (S + 1)) := hL.1
    cases m with
    | zero =>
      have e : S + 1 = 2 ^ qT q := by omega
      rw [if_pos (nI_lt (by omega) (by omega))]
      rw [bs, nI_1, show 2 ^ qT q - 1 + 1 = S + 1 by omega, chk_nI (by omega) (by omega), nI_cl (by omega), hlS]
      refine ⟨_, rfl, ⟨?_, ?_⟩, Fr_16 _ _ _⟩
      · rw [← e]; exact Ls_16 _ _ hL
      · rw [← e]; exact Frm_16 hF
    | succ m =>
      have hS1 : S + 1 < 2 ^ qT q := by omega
      have hpe := PE_eq q (show S + 1 < 16 by omega)
      have hlf : (fl q (S + 1)).length = (PE q (S + 1)).length := by
        unfold fl
        split
        · rw [List.length_map]
        · rfl
      have ho := off_succ q (S + 1)
      have ho2 := off_le hq (show S + 1 + 1 < 17 by omega)
      rw [hlf] at ho
      have hoL : (Lt q (S + 1)).length = off q (S + 1) := rfl
      have hplen : (PE q (S + 1)).length = (rl q (S + 1) (qT q)).length + (jl q (PE q) (S + 1) (S + 1)).length := by rw [← List.length_append, ← hpe]
      rw [if_neg (nI_nlt (by omega) (by omega)), chk_nI (by omega) (by omega), nI_cl (by omega), hlS]
      have f1 := Fr_16 τ (S + 1) (nI (off q (S + 1)))
      have F1 := Frm_16 hF
      have L1 := Ls_16 (S + 1) (nI (off q (S + 1))) hL
      generalize sA τ 16 (S + 1) (nI (off q (S + 1))) = τ1 at f1 F1 L1
      obtain ⟨τ2, a1, a2, a3⟩ := l27 hq (S := S + 1) (by omega) (fun (σ : MSt) (x1 : Int32) => fM_list_L69 N (fun (σ : MSt) (x1 : Int32) => (fM_all N σ).bind fun r_132 => (if x1 = r_132 then chk x1 17 (fM_list_L145 N (fun (σ : MSt) (x1 : Int32) => fM_list_L7 N (fun (σ : MSt) => (fM_all N σ).bind fun r_176 => chk (r_176 + (1 : Int32)) 17 (some (sA σ 16 (r_176 + (1 : Int32)).toNatClampNeg (σ.1 22)))) n σ (x1 + 1)) N σ x1 (σ.2.2.1 16 x1.toNatClampNeg)) else fM_list_L7 N (fun (σ : MSt) => (fM_all N σ).bind fun r_176 => chk (r_176 + (1 : Int32)) 17 (some (sA σ 16 (r_176 + (1 : Int32)).toNatClampNeg (σ.1 22)))) n σ (x1 + 1))) N σ x1 (1 : Int32)) (by rw [List.length_append]; omega) N (qT q) 0 τ1 (by omega) (by omega) (MQd_Fr f1 hM) (by show Ls (Lt q (S + 1) ++ []) τ1; rw [List.append_nil]; exact L1) (by show (Lt q (S + 1) ++ []).length + _ ≤ _; rw [List.append_nil]; omega)
      rw [show (0 : Int32) = nI 0 from rfl, a1]
      have M2 : MQd q τ2 := MQd_Fr (f1.trans a3.1) hM
      have F2 := Frm_Fk a3 F1
      have hj1 : jl q (PE q) (S + 1) 1 = [] := by
        show blk q (PE q) (S + 1) 0 = []
        exact if_neg (fun h => absurd (sub1_ok (okB_ok h).1).1 (by omega))
      obtain ⟨τ3, b1, b2, b3⟩ := l69 hN hq hS1 (fun (σ : MSt) (x1 : Int32) => (fM_all N σ).bind fun r_132 => (if x1 = r_132 then chk x1 17 (fM_list_L145 N (fun (σ : MSt) (x1 : Int32) => fM_list_L7 N (fun (σ : MSt) => (fM_all N σ).bind fun r_176 => chk (r_176 + (1 : Int32)) 17 (some (sA σ 16 (r_176 + (1 : Int32)).toNatClampNeg (σ.1 22)))) n σ (x1 + 1)) N σ x1 (σ.2.2.1 16 x1.toNatClampNeg)) else fM_list_L7 N (fun (σ : MSt) => (fM_all N σ).bind fun r_176 => chk (r_176 + (1 : Int32)) 17 (some (sA σ 16 (r_176 + (1 : Int32)).toNatClampNeg (σ.1 22)))) n σ (x1 + 1))) (rl q (S + 1) (qT q)) (by rw [← hpe, List.length_append]; omega) N S 1 τ2 (by omega) (by omega) (by omega) M2 (by rw [hj1, List.append_nil]; exact a2) F2
      rw [show nI 1 = (1 : Int32) from rfl] at b1
      rw [b1]
      have M3 : MQd q τ3 := MQd_Fr (a3.trans b3).1 (MQd_Fr f1 hM)
      have F3 := Frm_Fk b3 F2
      rw [← hpe] at b2
      show ∃ τ', (fM_all N τ3).bind _ = some τ' ∧ _
      rw [all_M hq M3, bs]
      by_cases g : S + 1 = 2 ^ qT q - 1
      · rw [if_pos (by rw [g]), chk_nI (by omega) (by omega), nI_cl (by omega), F3 (S + 1) (by omega) (by omega)]
        obtain ⟨τ4, c1, c2, c3⟩ := l145 (N := N) (by omega) hq hS1 (fun (σ : MSt) (x1 : Int32) => fM_list_L7 N (fun (σ : MSt) => (fM_all N σ).bind fun r_176 => chk (r_176 + (1 : Int32)) 17 (some (sA σ 16 (r_176 + (1 : Int32)).toNatClampNeg (σ.1 22)))) n σ (x1 + 1)) (Lt q (S + 1)) N (PE q (S + 1)) [] τ3 (by omega) (fun e h => h) (by rw [List.nil_append, List.length_append]; omega) M3 b2
        rw [show off q (S + 1) = (Lt q (S + 1)).length + ([] : List Ent).length from rfl, c1, nI_1]
        have hfl : fl q (S + 1) = (PE q (S + 1)).map (fin q (S + 1)) := if_pos g
        obtain ⟨τ5, d1, d2, d3⟩ := ih m (S + 1) τ4 (by omega) (by omega) (MQd_Fr c3.1 M3) (by rw [List.nil_append, ← hfl] at c2; exact c2) (Frm_Fk c3 F3)
        exact ⟨τ5, d1, d2, f1.trans (((a3.trans b3).trans c3).1.trans d3)⟩
      · rw [if_neg (fun h => g ((nI_eq (by omega) (by omega)).mp h)), nI_1]
        have hfl : fl q (S + 1) = PE q (S + 1) := if_neg g
        obtain ⟨τ5, d1, d2, d3⟩ := ih m (S + 1) τ3 (by omega) (by omega) M3 (by rw [← hfl] at b2; exact b2) F3
        exact ⟨τ5, d1, d2, f1.trans ((a3.trans b3).1.trans d3)⟩
theorem list_ok {N : Nat} (hN : 5000 ≤ N) {q : Qd} (hq : WfQ q) {τ : MSt} (hM : MQd q τ) : ∃ τ', fM_list N τ = some τ' ∧ Listed q τ' ∧ Fr τ τ' := by
  have hT := hq.1
  have h16 : 2 ^ qT q ≤ 16 := Nat.pow_le_pow_right (n := 2) (by omega) hT
  have h1 := Nat.two_pow_pos (qT q)
  have f0 : Fr τ (sI τ 22 (0 : Int32)) := ⟨fun k h => by rw [sI_1, if_neg h], fun _ _ _ => rfl, fun _ _ _ _ _ => rfl, fun _ _ _ => rfl⟩
  have hl1 : Lt q 1 = [] := fl_0 q
  obtain ⟨τ', a1, a2, a3⟩ := l7 hN hq N (2 ^ qT q - 1) 0 (sI τ 22 (0 : Int32)) (by omega) (by omega) (MQd_Fr f0 hM) (by show Ls (Lt q 1) _; rw [hl1]; exact ⟨rfl, fun i e h => by cases h⟩) (fun s h1 h2 => by omega)
  exact ⟨τ', a1, a2, f0.trans a3⟩
