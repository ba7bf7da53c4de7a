/-! run: the class joins -/
def jx (q : Qd) (l r x : Nat) (R : List Nat) : List Nat := (R.filter fun y => hbB q l r (x ||| y)).map fun y => x ||| y
def JJ (q : Qd) (l r : Nat) (L R : List Nat) : List Nat := L.flatMap fun x => jx q l r x R
theorem jx_len (q : Qd) (l r x : Nat) (R : List Nat) : (jx q l r x R).length ≤ R.length := by
  unfold jx
  rw [List.length_map]
  exact List.length_filter_le _ _
theorem JJ_len (q : Qd) (l r : Nat) (R : List Nat) : ∀ L : List Nat, (JJ q l r L R).length ≤ L.length * R.length := by
  intro L
  induction L with
  | nil => simp [JJ]
  | cons a L ih =>
    show (jx q l r a R ++ JJ q l r L R).length ≤ _
    have := jx_len q l r a R
    rw [List.length_append, List.length_cons, Nat.succ_mul]
    omega
theorem JJ_mem {q : Qd} {l r : Nat} {L R : List Nat} {z : Nat} (h : z ∈ JJ q l r L R) : ∃ x, x ∈ L ∧ ∃ y, y ∈ R ∧ hbB q l r (x ||| y) = true ∧ z = x ||| y := by
  obtain ⟨x, hx, h⟩ := List.mem_flatMap.mp h
  obtain ⟨y, hy, rfl⟩ := List.mem_map.mp h
  have := List.mem_filter.mp hy
  exact ⟨x, hx, y, this.1, this.2, rfl⟩
theorem comb_in {N : Nat} {q : Qd} (hq : WfQ q) {l r d a xp x n2 n3 : Nat} {R : List Nat} (hN : 20 ≤ N) (hl : l < 16) (hr : r < 16) (h0 : l &&& r = 0) (hd : d + 2 ≤ 4) (hx : Vc q l x) (hR : ∀ y, y ∈ R → Vc q r y) (ha : a + R.length ≤ n2) (hxp : xp < n2) (hn2 : n2 < 2 ^ 31) (hn3 : n3 < 2 ^ 31) (K : CSt → Int32 → Int32 → Option (Int32 × CSt)) : ∀ (n m j : Nat) (Acc : List Nat) (σ : CSt), j + m = R.length → m < n → CQd q σ → σ.1 410 = nI (d + 2) → σ.2.2.1 404 (d + 1) = nI (a + R.length) → σ.2.2.2.2.2 402 = n2 → σ.2.2.2.2.2 403 = n3 → σ.2.2.1 402 xp = nI x → Seg (σ.2.2.1 402) a R → σ.1 409 = nI (bL q l r 4).length → Seg (σ.2.2.1 408) 0 (bL q l r 4) → Seg (σ.2.2.1 403) 0 Acc → Acc.length + m ≤ n3 → ∃ σ', fR_combine_L39 N K n σ (nI Acc.length) (nI xp) (nI (a + j)) = K σ' (nI (Acc ++ jx q l r x (R.drop j)).length) (nI xp) ∧ G1 403 σ σ' ∧ Seg (σ'.2.2.1 403) 0 (Acc ++ jx q l r x (R.drop j)) := by
  intro n
  induction n with
  | zero => intro m j Acc σ _ h; omega
  | succ n ih =>
    intro m j Acc σ hj hn hC h410 h404 h402 h403 hsx hsR h9 h8 hA hlen
    rw [fR_combine_L39, h410, show nI (d + 2) - 1 = nI (d + 1) from nI_pred (d + 1), chk_nI (by omega) (by omega), nI_cl (by omega), h404]
    cases m with
    | zero =>
      rw [if_pos (nI_le (by omega) (by omega)), List.drop_eq_nil_of_le (by omega)]
      have e : jx q l r x [] = [] := rfl
      rw [e, List.append_nil]
      exact ⟨σ, rfl, G1.refl _ σ, hA⟩
    | succ m =>
      obtain ⟨y, hy, hd2⟩ := drop_at (A := R) (j := j) (by omega)
      have vy := hR y (List.mem_of_getElem? hy)
      have hz := Vc_or hl hr h0 hx vy
      have ey := hsR j y hy
      have hheld := held_C (N := N) hq hC hl hr h0 hz h9 h8 N (bL q l r 4).length 0 (by omega) (by have := bL_len q l r 4; omega) (fun j p hj => by omega)
      rw [nI_0] at hheld
      rw [if_neg (nI_ge (by omega) (by omega)), h402, h403, chk_nI (by omega) (by omega), chk_nI (by omega) (by omega), if_neg (show ¬ Int32.ofNat n3 ≤ nI Acc.length from nI_ge (by omega) (by omega)), nI_cl (by omega), nI_cl (by omega), hsx, ey, fa_or]
      unfold fR_isHeldBetween
      rw [hheld, bs, nI_1, hd2]
      by_cases c : hbB q l r (x ||| y) = true
      · have ej : jx q l r x (y :: R.drop (j + 1)) = (x ||| y) :: jx q l r x (R.drop (j + 1)) := by
          unfold jx
          rw [List.filter_cons, if_pos c]
          rfl
        rw [if_pos c, if_neg n10, chk_nI (by omega) (by omega), nI_cl (by omega), nI_1, Nat.add_assoc, ej]
        have f1 := G1_cA σ 403 Acc.length (nI (x ||| y))
        obtain ⟨σ', a1, a2, a3⟩ := ih m (j + 1) (Acc ++ [x ||| y]) (cA σ 403 Acc.length (nI (x ||| y))) (by omega) (by omega) (CQd_G1 (by omega) f1 hC) h410 (by rw [f1.2.2.1 404 (by omega)]; exact h404) h402 h403 (by rw [f1.2.2.1 402 (by omega)]; exact hsx) (by rw [f1.2.2.1 402 (by omega)]; exact hsR) h9 (by rw [f1.2.2.1 408 (by omega)]; exact h8) (by
          refine Seg_app.mpr ⟨Seg_eq (fun k _ hk => ?_) hA, Seg_cons.mpr ⟨?_, Seg_nil _ _⟩⟩
          · rw [cA_3, if_pos rfl, upd_at, if_neg (by omega)]
          · rw [cA_3, if_pos rfl, upd_at, if_pos (by omega)]) (by rw [List.length_append, List.length_singleton]; omega)
        rw [List.length_append, List.length_singleton] at a1
        refine ⟨σ', ?_, f1.trans a2, ?_⟩
        · rw [a1, List.append_assoc]; rfl
        · rw [List.append_assoc] at a3; exact a3
      · have ej : jx q l r x (y :: R.drop (j + 1)) = jx q l r x (R.drop (j + 1)) := by
          unfold jx
          rw [List.filter_cons, if_neg c]
        rw [if_neg c, if_pos rfl, Nat.add_assoc, ej]
        exact ih m (j + 1) Acc σ (by omega) (by omega) hC h410 h404 h402 h403 hsx hsR h9 h8 hA (by omega)
theorem comb_out {N : Nat} (hN : 5000 ≤ N) {q : Qd} (hq : WfQ q) {l r d a n2 n3 : Nat} {L R : List Nat} (hl : l < 16) (hr : r < 16) (h0 : l &&& r = 0) (hd : d + 2 ≤ 4) (hL : ∀ x, x ∈ L → Vc q l x) (hR : ∀ y, y ∈ R → Vc q r y) (hRl : R.length ≤ 4096) (ha : a + R.length + L.length ≤ n2) (hn2 : n2 < 2 ^ 31) (hn3 : n3 < 2 ^ 31) : ∀ (n m i : Nat) (Acc : List Nat) (σ : CSt), i + m = L.length → m < n → CQd q σ → σ.1 410 = nI (d + 2) → σ.2.2.1 404 d = nI a → σ.2.2.1 404 (d + 1) = nI (a + R.length) → σ.2.2.1 404 (d + 2) = nI (a + R.length + L.length) → σ.2.2.2.2.2 402 = n2 → σ.2.2.2.2.2 403 = n3 → Seg (σ.2.2.1 402) (a + R.length) L → Seg (σ.2.2.1 402) a R → σ.1 409 = nI (bL q l r 4).length → Seg (σ.2.2.1 408) 0 (bL q l r 4) → Seg (σ.2.2.1 403) 0 Acc → Acc.length + m * R.length ≤ n3 → ∃ σ', fR_combine_L14 N n σ (nI Acc.length) (nI (a + R.length + i)) = some (nI (Acc ++ JJ q l r (L.drop i) R).length, σ') ∧ G1 403 σ σ' ∧ Seg (σ'.2.2.1 403) 0 (Acc ++ JJ q l r (L.drop i) R) := by
  intro n
  induction n with
  | zero => intro m i Acc σ _ h; omega
  | succ n ih =>
    intro m i Acc σ hi hn hC h410 h4a h4b h4c h402 h403 hsL hsR h9 h8 hA hlen
    rw [fR_combine_L14, h410, chk_nI (by omega) (by omega), nI_cl (by omega), h4c]
    cases m with
    | zero =>
      rw [if_pos (nI_le (by omega) (by omega)), List.drop_eq_nil_of_le (by omega)]
      have e : JJ q l r [] R = [] := rfl
      rw [e, List.append_nil]
      exact ⟨σ, rfl, G1.refl _ σ, hA⟩
    | succ m =>
      obtain ⟨x, hx, hd2⟩ := drop_at (A := L) (j := i) (by omega)
      rw [Nat.succ_mul] at hlen
      have e2 : nI (d + 2) - (2 : Int32) = nI d := nI_sub (b := 2) (by omega)
      rw [if_neg (nI_ge (by omega) (by omega)), e2, chk_nI (by omega) (by omega), nI_cl (by omega), h4a]
      obtain ⟨σ1, a1, a2, a3⟩ := comb_in (N := N) hq (d := d) (a := a) (xp := a + R.length + i) (n2 := n2) (n3 := n3) (by omega) hl hr h0 hd (hL x (List.mem_of_getElem? hx)) hR (by omega) (by omega) hn2 hn3 (fun (σ : CSt) (x1 : Int32) (x2 : Int32) => fR_combine_L14 N n σ x1 (x2 + 1)) N R.length 0 Acc σ (by omega) (by omega) hC h410 h4b h402 h403 (hsL i x hx) hsR h9 h8 hA (by omega)
      rw [Nat.add_zero] at a1
      rw [List.drop_zero] at a1 a3
      rw [a1, nI_1, hd2]
      have hjl := jx_len q l r x R
      obtain ⟨σ2, b1, b2, b3⟩ := ih m (i + 1) (Acc ++ jx q l r x R) σ1 (by omega) (by omega) (CQd_G1 (by omega) a2 hC) (by rw [a2.1]; exact h410) (by rw [a2.2.2.1 404 (by omega)]; exact h4a) (by rw [a2.2.2.1 404 (by omega)]; exact h4b) (by rw [a2.2.2.1 404 (by omega)]; exact h4c) (by rw [a2.2.2.2]; exact h402) (by rw [a2.2.2.2]; exact h403) (by rw [a2.2.2.1 402 (by omega)]; exact hsL) (by rw [a2.2.2.1 402 (by omega)]; exact hsR) (by rw [a2.1]; exact h9) (by rw [a2.2.2.1 408 (by omega)]; exact h8) a3 (by rw [List.length_append]; omega)
      have e : JJ q l r (x :: L.drop (i + 1)) R = jx q l r x R ++ JJ q l r (L.drop (i + 1)) R := rfl
      refine ⟨σ2, ?_, a2.trans b2, ?_⟩
      · rw [e, ← List.append_assoc]
        exact b1
      · rw [e, ← List.append_assoc]
        exact b3
theorem join148 {N : Nat} (hN : 5000 ≤ N) {q : Qd} (hq : WfQ q) {l r n2 n3 : Nat} {L R : List Nat} {SL : Stk} {σ : CSt} (hl : l < 16) (hr : r < 16) (h0 : l &&& r = 0) (hd : SL.length + 2 ≤ 4) (hL : ∀ x, x ∈ L → Vc q l x) (hR : ∀ y, y ∈ R → Vc q r y) (hRl : R.length ≤ 4096) (hLl : L.length ≤ 4096) (ha : tt SL + R.length + L.length ≤ n2) (hn2 : n2 < 2 ^ 31) (hn3 : n3 < 2 ^ 31) (hLR : L.length * R.length ≤ n3) (hroom : tt SL + L.length * R.length ≤ n2) (hC : CQd q σ) (h410 : σ.1 410 = nI (SL.length + 2)) (hS : CS ((l, L) :: (r, R) :: SL) σ) (h402 : σ.2.2.2.2.2 402 = n2) (h403 : σ.2.2.2.2.2 403 = n3) (h9 : σ.1 409 = nI (bL q l r 4).length) (h8 : Seg (σ.2.2.1 408) 0 (bL q l r 4)) : ∃ σ', fR_joinTopTwo_J148 N σ (nI l) (nI r) (nI (tt SL)) = some σ' ∧ GR σ σ' ∧ CS ((l ||| r, JJ q l r L R) :: SL) σ' ∧ σ'.1 410 = nI (SL.length + 1) ∧ σ'.1 400 = σ.1 400 := by
  obtain ⟨⟨hS0, -, h4b, hsR⟩, -, h4c, hsL⟩ := hS
  have h4a := CS_top hS0
  have h4c : σ.2.2.1 404 (SL.length + 2) = nI (tt SL + R.length + L.length) := h4c
  have hsL : Seg (σ.2.2.1 402) (tt SL + R.length) L := hsL
  have hjl := JJ_len q l r R L
  unfold fR_joinTopTwo_J148 fR_combine
  rw [h410, show nI (SL.length + 2) - 1 = nI (SL.length + 1) from nI_pred (SL.length + 1), chk_nI (by omega) (by omega), nI_cl (by omega), h4b]
  obtain ⟨σ1, a1, a2, a3⟩ := comb_out (N := N) hN hq hl hr h0 hd hL hR hRl ha hn2 hn3 N L.length 0 [] σ (by omega) (by omega) hC h410 h4a h4b h4c h402 h403 hsL hsR h9 h8 (Seg_nil _ _) (by rw [List.length_nil]; omega)
  rw [List.length_nil, nI_0, Nat.add_zero, List.drop_zero, List.nil_append] at a1
  rw [List.drop_zero, List.nil_append] at a3
  have e410 : σ1.1 410 = nI (SL.length + 2) := by rw [a2.1]; exact h410
  rw [show nI (tt SL + (r, R).2.length) = nI (tt SL + R.length) from rfl, a1, bs]
  have e403 : σ1.2.2.2.2.2 403 = n3 := by rw [a2.2.2.2]; exact h403
  have e402 : σ1.2.2.2.2.2 402 = n2 := by rw [a2.2.2.2]; exact h402
  have p1 : nI (SL.length + 2) - 1 = nI (SL.length + 1) := nI_pred (SL.length + 1)
  have p2 : nI (SL.length + 1) - 1 = nI SL.length := nI_pred SL.length
  have hlen4 : ∀ (σ : CSt) (k i : Nat) (v : Int32), (cA σ k i v).2.2.2.2.2 = σ.2.2.2.2.2 := fun _ _ _ _ => rfl
  have hlenI : ∀ (σ : CSt) (k : Nat) (v : Int32), (cI σ k v).2.2.2.2.2 = σ.2.2.2.2.2 := fun _ _ _ => rfl
  simp only [cA_1, cX_1, cI_1, e410, if_true, p1, p2, chk_nI (show SL.length < 4 by omega) (show 4 < 2 ^ 31 by omega), nI_cl (show SL.length < 2 ^ 31 by omega), hlen4, hlenI, e403, e402, nI_add, b_or l hl r hr, if_neg (show ¬ Int32.ofNat n3 < nI (JJ q l r L R).length from nI_nlt (by omega) (by omega)), if_neg (show ¬ Int32.ofNat n2 < nI (tt SL + (JJ q l r L R).length) from nI_nlt (by omega) (by omega)), chk_nI (show SL.length + 1 < 5 by omega) (show 5 < 2 ^ 31 by omega), nI_cl (show SL.length + 1 < 2 ^ 31 by omega), nI_cl (show tt SL < 2 ^ 31 by omega), nI_cl (show (JJ q l r L R).length < 2 ^ 31 by omega), show (0 : Int32).toNatClampNeg = 0 from rfl]
  unfold cpk
  rw [if_neg (by
    rw [nI_cl (show tt SL < 2 ^ 31 by omega), nI_cl (show (JJ q l r L R).length < 2 ^ 31 by omega), show (0 : Int32).toNatClampNeg = 0 from rfl]
    rintro (h | h | h | h | h)
    · exact absurd h (by decide)
    · exact nI_pos (by omega) h
    · exact nI_pos (by omega) h
    · omega
    · omega)]
  refine ⟨_, rfl, ⟨?_, ?_, ?_⟩, ⟨?_, ?_, ?_, ?_⟩, ?_, ?_⟩
  · intro k k1 k2 k3
    rw [cA_1, cX_1, cA_1, cI_1, if_neg k3, a2.1]
  · intro k hk
    rw [cA_3, if_neg (by omega), cX_3, if_neg (by omega), cA_3, if_neg (by omega), cI_2, a2.2.2.1 k (by omega)]
  · rw [cA_4, cX_4, cA_4, cI_2, a2.2.2.2]
  · refine CS_eq (σ := σ) (fun j hj => ?_) (fun j hj => ?_) (fun j hj => ?_) hS0
    · rw [cA_3, if_pos rfl, upd_at, if_neg (by omega), cX_3, if_neg (by omega), cA_3, if_neg (by omega), cI_2, a2.2.2.1 404 (by omega)]
    · rw [cA_3, if_neg (by omega), cX_3, if_neg (by omega), cA_3, if_pos rfl, upd_at, if_neg (by omega), cI_2, a2.2.2.1 405 (by omega)]
    · rw [cA_3, if_neg (by omega), cX_3, if_pos rfl]
      unfold va_cpy
      rw [if_neg (by omega), cA_3, if_neg (by omega), cI_2, a2.2.2.1 402 (by omega)]
  · rw [cA_3, if_neg (by omega), cX_3, if_neg (by omega), cA_3, if_pos rfl, upd_at, if_pos rfl]
  · rw [cA_3, if_pos rfl, upd_at, if_pos rfl]
  · intro j v hj
    have hjl := (List.getElem?_eq_some_iff.mp hj).1
    have := a3 j v hj
    rw [Nat.zero_add] at this
    have hjl' : j < (JJ q l r L R).length := hjl
    rw [cA_3, if_neg (by omega), cX_3, if_pos rfl]
    unfold va_cpy
    rw [if_pos (by omega), cA_3, if_neg (by omega), cI_2, Nat.add_sub_cancel_left, Nat.zero_add]
    exact this
  · rw [cA_1, cX_1, cA_1, cI_1, if_pos rfl]
  · rw [cA_1, cX_1, cA_1, cI_1, if_neg (by omega), a2.1]
